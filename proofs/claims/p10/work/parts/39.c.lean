/-! What the draft holds, against what is told (zC). Rows as functions. -/
def z_fu (f : Int → Int) (j x : Int) : Int → Int := fun i => if i = j then x else f i
def shF (f : Int → Int) (k top : Int) : Int → Int := fun i => if k < i ∧ i ≤ top then f (i - 1) else f i
theorem row_u {m : zM} {g k : Nat} {i x : Int} {F : Int → Int} (h : m g k = F) : z_upd m g k i x g k = z_fu F i x := by
  subst h
  funext i'
  unfold z_upd z_fu
  by_cases e : i' = i
  · rw [if_pos ⟨rfl, rfl, e⟩, if_pos e]
  · rw [if_neg (fun q => e q.2.2), if_neg e]
theorem shF_0 (f : Int → Int) (k : Int) : shF f k k = f := by
  funext i
  unfold shF
  rw [if_neg (fun e => by omega)]
theorem shF_go {f : Int → Int} {k top : Int} (h : k ≤ top) : z_fu (shF f k top) k (shF f k top (k - 1)) = shF f (k - 1) top := by
  funext i
  unfold z_fu shF
  by_cases e : i = k
  · rw [if_pos e, if_neg (fun q => by omega), if_pos (by omega), e]
  · rw [if_neg e]
    by_cases e2 : k < i ∧ i ≤ top
    · rw [if_pos e2, if_pos (by omega)]
    · rw [if_neg e2, if_neg (by omega)]
def bitI (x t : Int) : Int := x / 2 ^ t.toNat % 2
/-- the TABLE of a special day in a list of n -/
def splF (D Tb : Int → Int) (d : Int) : Nat → Int → Int
  | 0, _ => -1
  | n + 1, k => if D k = d then Tb k else splF D Tb d n (k + 1)
def spl (D Tb : Int → Int) (n d : Int) : Int := splF D Tb d n.toNat 0
def RC (m : zM) (c : zC) : Prop :=
  (∀ t, 0 ≤ t → t < 8 → m 3 12 t = c 0 t) ∧
  (∀ t j, 0 ≤ t → t < 8 → 0 ≤ j → j < c 0 t → m 3 13 (t * 6 + j) = c 1 (t * 6 + j) ∧ m 3 14 (t * 6 + j) = c 2 (t * 6 + j)) ∧
  (∀ i, 0 ≤ i → i < 4 → m 3 15 i = c 3 i) ∧ (∀ i, 0 ≤ i → i < 28 → m 3 16 i = c 4 i) ∧
  (∀ t, 0 ≤ t → t < 8 → bitI (m 4 41 9) t = c 5 t) ∧ (∀ t, 0 ≤ t → t < 4 → bitI (m 4 41 10) t = c 6 t) ∧
  (∀ d, 0 ≤ d → d < 365 → spl (m 3 17) (m 3 18) (m 3 11 7) d = c 7 d) ∧ m 3 11 7 = c 8 0 ∧ m 4 41 6 = c 9 0 ∧ (∀ i, 0 ≤ i → i < 4 → m 4 43 i = c 10 i)
section
variable {S : zS} {m0 m m1 : zM} {B : Int} {c : zC} {L : List (Nat × Nat × Int × Int)} {i x t : Int}
theorem RC_cg (h : RC m c) (e12 : m1 3 12 = m 3 12) (e13 : m1 3 13 = m 3 13) (e14 : m1 3 14 = m 3 14) (e15 : m1 3 15 = m 3 15) (e16 : m1 3 16 = m 3 16) (e17 : m1 3 17 = m 3 17) (e18 : m1 3 18 = m 3 18) (e43 : m1 4 43 = m 4 43) (e7 : m1 3 11 7 = m 3 11 7) (e6 : m1 4 41 6 = m 4 41 6) (e9 : m1 4 41 9 = m 4 41 9) (e10 : m1 4 41 10 = m 4 41 10) : RC m1 c := by
  unfold RC
  rw [e12, e13, e14, e15, e16, e17, e18, e43, e7, e6, e9, e10]
  exact h
def rcno (L : List (Nat × Nat × Int × Int)) : Bool := zno L 3 12 1 0 && (zno L 3 13 1 0 && (zno L 3 14 1 0 && (zno L 3 15 1 0 && (zno L 3 16 1 0 && (zno L 3 17 1 0 && (zno L 3 18 1 0 && (zno L 4 43 1 0 && (zno L 3 11 7 7 && (zno L 4 41 6 6 && (zno L 4 41 9 9 && zno L 4 41 10 10))))))))))
theorem RC_k (hC : RC m c) (h : J (zfr L S) m B m1) (hL : rcno L = true) : RC m1 c := by
  unfold rcno at hL
  simp only [Bool.and_eq_true] at hL
  obtain ⟨a1, a2, a3, a4, a5, a6, a7, a8, a9, a10, a11, a12⟩ := hL
  exact RC_cg hC (h.row (fun _ => rfl) a1) (h.row (fun _ => rfl) a2) (h.row (fun _ => rfl) a3) (h.row (fun _ => rfl) a4) (h.row (fun _ => rfl) a5) (h.row (fun _ => rfl) a6) (h.row (fun _ => rfl) a7) (h.row (fun _ => rfl) a8) (h.eq rfl a9) (h.eq rfl a10) (h.eq rfl a11) (h.eq rfl a12)
/-- a store to a field of the reading that says nothing of what is told -/
theorem RC_f (hC : RC m c) (hm : m1 = z_upd m 4 41 i x) (h : i ≠ 6 ∧ i ≠ 9 ∧ i ≠ 10) : RC m1 c := by
  have f : ∀ i', i' ≠ i → m1 4 41 i' = m 4 41 i' := fun i' h' => by
    rw [hm]
    unfold z_upd
    rw [if_neg (fun e => h' e.2.2)]
  have r : ∀ (g' k' : Nat), decide (k' = 41) = false → m1 g' k' = m g' k' := fun g' k' h' => by
    rw [hm]
    exact row_o h'
  exact RC_cg hC (r 3 12 rfl) (r 3 13 rfl) (r 3 14 rfl) (r 3 15 rfl) (r 3 16 rfl) (r 3 17 rfl) (r 3 18 rfl) (r 4 43 rfl) (by rw [r 3 11 rfl]) (f 6 (by omega)) (f 9 (by omega)) (f 10 (by omega))
/-- how many SWITCHES stand ahead of a second: in the draft as in what is told -/
theorem RC_sbF (hC : RC m c) (ht : 0 ≤ t ∧ t < 8) (s : Int) : ∀ (n : Nat) (k : Int), 0 ≤ k → zsbF m 3 t s n k = posF c t s n k
  | 0, _, _ => rfl
  | n + 1, k, hk => by
    unfold zsbF posF
    have e1 := hC.1 t ht.1 ht.2
    by_cases h : k < c 0 t
    · have e2 := (hC.2.1 t k ht.1 ht.2 hk h).1
      rw [e1, e2]
      by_cases h2 : k < c 0 t ∧ c 1 (t * 6 + k) < s
      · rw [if_pos h2, if_pos h2, RC_sbF hC ht s n (k + 1) (by omega)]
      · rw [if_neg h2, if_neg h2]
    · rw [e1, if_neg (fun q => h q.1), if_neg (fun q => h q.1)]
theorem RC_sb (hC : RC m c) (ht : 0 ≤ t ∧ t < 8) (s : Int) : zsb m 3 t s = pos c t s := RC_sbF hC ht s 7 0 (Int.le_refl _)
theorem posF_b (c : zC) (t s : Int) : ∀ (n : Nat) (k : Int), k ≤ posF c t s n k
  | 0, k => Int.le_refl k
  | n + 1, k => by
    unfold posF
    split
    · have h := posF_b c t s n (k + 1)
      omega
    · exact Int.le_refl k
theorem pos_b (c : zC) (t s : Int) : 0 ≤ pos c t s := posF_b c t s 7 0
theorem RC_has (hC : RC m c) (ht : 0 ≤ t ∧ t < 8) (s : Int) : (zsb m 3 t s < m 3 12 t ∧ m 3 13 (t * 6 + zsb m 3 t s) = s) ↔ hasP c t s := by
  unfold hasP
  rw [RC_sb hC ht s, hC.1 t ht.1 ht.2]
  refine ⟨fun h => ⟨h.1, ?_⟩, fun h => ⟨h.1, ?_⟩⟩
  · rw [← (hC.2.1 t _ ht.1 ht.2 (pos_b c t s) h.1).1]
    exact h.2
  · rw [(hC.2.1 t _ ht.1 ht.2 (pos_b c t s) h.1).1]
    exact h.2
end
