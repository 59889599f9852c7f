/-! Two sides that agree in a part of the state. -/
theorem jf_in {l : List (Int × Int × Int × Int)} {i : Int} {q : Int × Int} : jf l i = some q → ∃ x, x ∈ l ∧ x.2.2 = q := by
  induction l with
  | nil => intro h; cases h
  | cons y r ih =>
    intro h
    unfold jf at h
    split at h
    · exact ⟨y, List.mem_cons_self, Option.some.inj h⟩
    · obtain ⟨x, h1, h2⟩ := ih h
      exact ⟨x, List.mem_cons_of_mem _ h1, h2⟩
/-- a whole row is as it was -/
theorem J.row {L G : List Nat} {B : Int} {m0 m : zM} (h : J (zQ L G) m0 B m) (k : Nat) (hk : ((jp k).all fun x => !L.contains x.2.2.1.toNat) = true) (h0 : L.contains 0 = false) (g : Nat) : m g k = m0 g k := by
  funext i
  refine jx h (ja k i) rfl ?_
  unfold ja
  split
  · rename_i q e
    obtain ⟨x, h1, h2⟩ := jf_in e
    have h3 := List.all_eq_true.mp hk x h1
    rw [h2] at h3
    exact (Bool.not_eq_true' _).mp h3
  · exact h0
def fcl : List (Nat × Nat × Int × Int) := [(11, 8, 9, 9), (12, 8, 10, 12), (13, 8, 13, 15), (3, 10, 0, 12), (1, 11, 7, 7), (1, 12, 0, 7), (1, 13, 0, 47), (1, 14, 0, 47), (1, 15, 0, 3), (1, 16, 0, 27), (1, 17, 0, 15), (1, 18, 0, 15), (2, 19, 3, 6), (2, 20, 0, 47), (2, 21, 0, 47), (2, 22, 0, 15), (5, 23, 3, 3), (10, 24, 0, 27), (5, 25, 0, 27), (5, 26, 0, 197), (7, 27, 2, 9), (7, 28, 0, 383), (7, 29, 0, 3), (8, 30, 2, 3), (8, 31, 0, 3), (8, 32, 0, 3), (9, 33, 3, 3), (9, 34, 0, 4), (9, 35, 0, 4), (9, 36, 0, 4), (6, 37, 1, 1), (6, 38, 0, 119), (4, 39, 0, 4)]
theorem fcl_ja : ∀ x, x ∈ fcl → ∀ i, x.2.2.1 ≤ i → i ≤ x.2.2.2 → ja x.2.1 i = x.1 := by
  intro x hx i h0 h1
  simp only [fcl, List.mem_cons, List.not_mem_nil, or_false] at hx
  rcases hx with rfl | rfl | rfl | rfl | rfl | rfl | rfl | rfl | rfl | rfl | rfl | rfl | rfl | rfl | rfl | rfl | rfl | rfl | rfl | rfl | rfl | rfl | rfl | rfl | rfl | rfl | rfl | rfl | rfl | rfl | rfl | rfl | rfl
  · exact ja8_0 ⟨by (try dsimp only at h0 h1); omega, by (try dsimp only at h0 h1); omega⟩
  · exact ja8_10 ⟨by (try dsimp only at h0 h1); omega, by (try dsimp only at h0 h1); omega⟩
  · exact ja8_13 ⟨by (try dsimp only at h0 h1); omega, by (try dsimp only at h0 h1); omega⟩
  · exact ja10_0 ⟨by (try dsimp only at h0 h1); omega, by (try dsimp only at h0 h1); omega⟩
  · exact ja11_0 ⟨by (try dsimp only at h0 h1); omega, by (try dsimp only at h0 h1); omega⟩
  · exact ja12_0 ⟨by (try dsimp only at h0 h1); omega, by (try dsimp only at h0 h1); omega⟩
  · exact ja13_0 ⟨by (try dsimp only at h0 h1); omega, by (try dsimp only at h0 h1); omega⟩
  · exact ja14_0 ⟨by (try dsimp only at h0 h1); omega, by (try dsimp only at h0 h1); omega⟩
  · exact ja15_0 ⟨by (try dsimp only at h0 h1); omega, by (try dsimp only at h0 h1); omega⟩
  · exact ja16_0 ⟨by (try dsimp only at h0 h1); omega, by (try dsimp only at h0 h1); omega⟩
  · exact ja17_0 ⟨by (try dsimp only at h0 h1); omega, by (try dsimp only at h0 h1); omega⟩
  · exact ja18_0 ⟨by (try dsimp only at h0 h1); omega, by (try dsimp only at h0 h1); omega⟩
  · exact ja19_0 ⟨by (try dsimp only at h0 h1); omega, by (try dsimp only at h0 h1); omega⟩
  · exact ja20_0 ⟨by (try dsimp only at h0 h1); omega, by (try dsimp only at h0 h1); omega⟩
  · exact ja21_0 ⟨by (try dsimp only at h0 h1); omega, by (try dsimp only at h0 h1); omega⟩
  · exact ja22_0 ⟨by (try dsimp only at h0 h1); omega, by (try dsimp only at h0 h1); omega⟩
  · exact ja23_0 ⟨by (try dsimp only at h0 h1); omega, by (try dsimp only at h0 h1); omega⟩
  · exact ja24_0 ⟨by (try dsimp only at h0 h1); omega, by (try dsimp only at h0 h1); omega⟩
  · exact ja25_0 ⟨by (try dsimp only at h0 h1); omega, by (try dsimp only at h0 h1); omega⟩
  · exact ja26_0 ⟨by (try dsimp only at h0 h1); omega, by (try dsimp only at h0 h1); omega⟩
  · exact ja27_0 ⟨by (try dsimp only at h0 h1); omega, by (try dsimp only at h0 h1); omega⟩
  · exact ja28_0 ⟨by (try dsimp only at h0 h1); omega, by (try dsimp only at h0 h1); omega⟩
  · exact ja29_0 ⟨by (try dsimp only at h0 h1); omega, by (try dsimp only at h0 h1); omega⟩
  · exact ja30_0 ⟨by (try dsimp only at h0 h1); omega, by (try dsimp only at h0 h1); omega⟩
  · exact ja31_0 ⟨by (try dsimp only at h0 h1); omega, by (try dsimp only at h0 h1); omega⟩
  · exact ja32_0 ⟨by (try dsimp only at h0 h1); omega, by (try dsimp only at h0 h1); omega⟩
  · exact ja33_0 ⟨by (try dsimp only at h0 h1); omega, by (try dsimp only at h0 h1); omega⟩
  · exact ja34_0 ⟨by (try dsimp only at h0 h1); omega, by (try dsimp only at h0 h1); omega⟩
  · exact ja35_0 ⟨by (try dsimp only at h0 h1); omega, by (try dsimp only at h0 h1); omega⟩
  · exact ja36_0 ⟨by (try dsimp only at h0 h1); omega, by (try dsimp only at h0 h1); omega⟩
  · exact ja37_0 ⟨by (try dsimp only at h0 h1); omega, by (try dsimp only at h0 h1); omega⟩
  · exact ja38_0 ⟨by (try dsimp only at h0 h1); omega, by (try dsimp only at h0 h1); omega⟩
  · exact ja39_0 ⟨by (try dsimp only at h0 h1); omega, by (try dsimp only at h0 h1); omega⟩
/-- c' is as c in part n -/
def FE (n : Nat) (c c' : Nat → Int → Int) : Prop := ∀ x, x ∈ fcl → x.1 = n → ∀ i, x.2.2.1 ≤ i → i ≤ x.2.2.2 → c' x.2.1 i = c x.2.1 i
def FW (n : Nat) (w w' : Int → Int) : Prop := ∀ i, 0 ≤ i → i ≤ 1618 → ja 45 i = n + 20 → w' i = w i
theorem FE.j {L G : List Nat} {B : Int} {m0 m : zM} (h : J (zQ L G) m0 B m) (g n : Nat) (hL : L.contains n = false) : FE n (m0 g) (m g) := fun x hx e i h0 h1 => jx h n (by rw [← e]; exact fcl_ja x hx i h0 h1) hL
theorem FE.g {L G : List Nat} {B : Int} {m0 m : zM} (h : J (zQ L G) m0 B m) (g n : Nat) (hG : G.contains g = false) : FE n (m0 g) (m g) := fun x _ _ i _ _ => by rw [jy h hG]
theorem FE.rf (n : Nat) (c : Nat → Int → Int) : FE n c c := fun _ _ _ _ _ _ => rfl
theorem FE.trans {n : Nat} {a b c : Nat → Int → Int} (h : FE n a b) (h' : FE n b c) : FE n a c := fun x hx e i h0 h1 => (h' x hx e i h0 h1).trans (h x hx e i h0 h1)
theorem FW.j {L G : List Nat} {B : Int} {m0 m : zM} (h : J (zQ L G) m0 B m) (g n : Nat) (hL : L.contains (n + 20) = false) : FW n (m0 g 45) (m g 45) := fun i _ _ e => jx h (n + 20) e hL
theorem FW.all {w w' : Int → Int} (h : ∀ i, 0 ≤ i → i ≤ 1618 → w' i = w i) (n : Nat) : FW n w w' := fun i h0 h1 _ => h i h0 h1
theorem FW.rf (n : Nat) (w : Int → Int) : FW n w w := fun _ _ _ _ => rfl
theorem FW.trans {n : Nat} {a b c : Int → Int} (h : FW n a b) (h' : FW n b c) : FW n a c := fun i h0 h1 e => (h' i h0 h1 e).trans (h i h0 h1 e)
section
variable {c c' : Nat → Int → Int}
theorem FE.p8_9 (h : FE 11 c c') : c' 8 9 = c 8 9 := h (11, 8, 9, 9) (List.mem_of_getElem? (i := 0) rfl) rfl 9 (Int.le_refl _) (Int.le_refl _)
theorem FE.p8_10 (h : FE 12 c c') (i : Int) (h0 : 10 ≤ i) (h1 : i ≤ 12) : c' 8 i = c 8 i := h (12, 8, 10, 12) (List.mem_of_getElem? (i := 1) rfl) rfl i h0 h1
theorem FE.p8_13 (h : FE 13 c c') (i : Int) (h0 : 13 ≤ i) (h1 : i ≤ 15) : c' 8 i = c 8 i := h (13, 8, 13, 15) (List.mem_of_getElem? (i := 2) rfl) rfl i h0 h1
theorem FE.p10_0 (h : FE 3 c c') (i : Int) (h0 : 0 ≤ i) (h1 : i ≤ 12) : c' 10 i = c 10 i := h (3, 10, 0, 12) (List.mem_of_getElem? (i := 3) rfl) rfl i h0 h1
theorem FE.p11_7 (h : FE 1 c c') : c' 11 7 = c 11 7 := h (1, 11, 7, 7) (List.mem_of_getElem? (i := 4) rfl) rfl 7 (Int.le_refl _) (Int.le_refl _)
theorem FE.p12_0 (h : FE 1 c c') (i : Int) (h0 : 0 ≤ i) (h1 : i ≤ 7) : c' 12 i = c 12 i := h (1, 12, 0, 7) (List.mem_of_getElem? (i := 5) rfl) rfl i h0 h1
theorem FE.p13_0 (h : FE 1 c c') (i : Int) (h0 : 0 ≤ i) (h1 : i ≤ 47) : c' 13 i = c 13 i := h (1, 13, 0, 47) (List.mem_of_getElem? (i := 6) rfl) rfl i h0 h1
theorem FE.p14_0 (h : FE 1 c c') (i : Int) (h0 : 0 ≤ i) (h1 : i ≤ 47) : c' 14 i = c 14 i := h (1, 14, 0, 47) (List.mem_of_getElem? (i := 7) rfl) rfl i h0 h1
theorem FE.p15_0 (h : FE 1 c c') (i : Int) (h0 : 0 ≤ i) (h1 : i ≤ 3) : c' 15 i = c 15 i := h (1, 15, 0, 3) (List.mem_of_getElem? (i := 8) rfl) rfl i h0 h1
theorem FE.p16_0 (h : FE 1 c c') (i : Int) (h0 : 0 ≤ i) (h1 : i ≤ 27) : c' 16 i = c 16 i := h (1, 16, 0, 27) (List.mem_of_getElem? (i := 9) rfl) rfl i h0 h1
theorem FE.p17_0 (h : FE 1 c c') (i : Int) (h0 : 0 ≤ i) (h1 : i ≤ 15) : c' 17 i = c 17 i := h (1, 17, 0, 15) (List.mem_of_getElem? (i := 10) rfl) rfl i h0 h1
theorem FE.p18_0 (h : FE 1 c c') (i : Int) (h0 : 0 ≤ i) (h1 : i ≤ 15) : c' 18 i = c 18 i := h (1, 18, 0, 15) (List.mem_of_getElem? (i := 11) rfl) rfl i h0 h1
theorem FE.p19_3 (h : FE 2 c c') (i : Int) (h0 : 3 ≤ i) (h1 : i ≤ 6) : c' 19 i = c 19 i := h (2, 19, 3, 6) (List.mem_of_getElem? (i := 12) rfl) rfl i h0 h1
theorem FE.p20_0 (h : FE 2 c c') (i : Int) (h0 : 0 ≤ i) (h1 : i ≤ 47) : c' 20 i = c 20 i := h (2, 20, 0, 47) (List.mem_of_getElem? (i := 13) rfl) rfl i h0 h1
theorem FE.p21_0 (h : FE 2 c c') (i : Int) (h0 : 0 ≤ i) (h1 : i ≤ 47) : c' 21 i = c 21 i := h (2, 21, 0, 47) (List.mem_of_getElem? (i := 14) rfl) rfl i h0 h1
theorem FE.p22_0 (h : FE 2 c c') (i : Int) (h0 : 0 ≤ i) (h1 : i ≤ 15) : c' 22 i = c 22 i := h (2, 22, 0, 15) (List.mem_of_getElem? (i := 15) rfl) rfl i h0 h1
theorem FE.p23_3 (h : FE 5 c c') : c' 23 3 = c 23 3 := h (5, 23, 3, 3) (List.mem_of_getElem? (i := 16) rfl) rfl 3 (Int.le_refl _) (Int.le_refl _)
theorem FE.p24_0 (h : FE 10 c c') (i : Int) (h0 : 0 ≤ i) (h1 : i ≤ 27) : c' 24 i = c 24 i := h (10, 24, 0, 27) (List.mem_of_getElem? (i := 17) rfl) rfl i h0 h1
theorem FE.p25_0 (h : FE 5 c c') (i : Int) (h0 : 0 ≤ i) (h1 : i ≤ 27) : c' 25 i = c 25 i := h (5, 25, 0, 27) (List.mem_of_getElem? (i := 18) rfl) rfl i h0 h1
theorem FE.p26_0 (h : FE 5 c c') (i : Int) (h0 : 0 ≤ i) (h1 : i ≤ 197) : c' 26 i = c 26 i := h (5, 26, 0, 197) (List.mem_of_getElem? (i := 19) rfl) rfl i h0 h1
theorem FE.p27_2 (h : FE 7 c c') (i : Int) (h0 : 2 ≤ i) (h1 : i ≤ 9) : c' 27 i = c 27 i := h (7, 27, 2, 9) (List.mem_of_getElem? (i := 20) rfl) rfl i h0 h1
theorem FE.p28_0 (h : FE 7 c c') (i : Int) (h0 : 0 ≤ i) (h1 : i ≤ 383) : c' 28 i = c 28 i := h (7, 28, 0, 383) (List.mem_of_getElem? (i := 21) rfl) rfl i h0 h1
theorem FE.p29_0 (h : FE 7 c c') (i : Int) (h0 : 0 ≤ i) (h1 : i ≤ 3) : c' 29 i = c 29 i := h (7, 29, 0, 3) (List.mem_of_getElem? (i := 22) rfl) rfl i h0 h1
theorem FE.p30_2 (h : FE 8 c c') (i : Int) (h0 : 2 ≤ i) (h1 : i ≤ 3) : c' 30 i = c 30 i := h (8, 30, 2, 3) (List.mem_of_getElem? (i := 23) rfl) rfl i h0 h1
theorem FE.p31_0 (h : FE 8 c c') (i : Int) (h0 : 0 ≤ i) (h1 : i ≤ 3) : c' 31 i = c 31 i := h (8, 31, 0, 3) (List.mem_of_getElem? (i := 24) rfl) rfl i h0 h1
theorem FE.p32_0 (h : FE 8 c c') (i : Int) (h0 : 0 ≤ i) (h1 : i ≤ 3) : c' 32 i = c 32 i := h (8, 32, 0, 3) (List.mem_of_getElem? (i := 25) rfl) rfl i h0 h1
theorem FE.p33_3 (h : FE 9 c c') : c' 33 3 = c 33 3 := h (9, 33, 3, 3) (List.mem_of_getElem? (i := 26) rfl) rfl 3 (Int.le_refl _) (Int.le_refl _)
theorem FE.p34_0 (h : FE 9 c c') (i : Int) (h0 : 0 ≤ i) (h1 : i ≤ 4) : c' 34 i = c 34 i := h (9, 34, 0, 4) (List.mem_of_getElem? (i := 27) rfl) rfl i h0 h1
theorem FE.p35_0 (h : FE 9 c c') (i : Int) (h0 : 0 ≤ i) (h1 : i ≤ 4) : c' 35 i = c 35 i := h (9, 35, 0, 4) (List.mem_of_getElem? (i := 28) rfl) rfl i h0 h1
theorem FE.p36_0 (h : FE 9 c c') (i : Int) (h0 : 0 ≤ i) (h1 : i ≤ 4) : c' 36 i = c 36 i := h (9, 36, 0, 4) (List.mem_of_getElem? (i := 29) rfl) rfl i h0 h1
theorem FE.p37_1 (h : FE 6 c c') : c' 37 1 = c 37 1 := h (6, 37, 1, 1) (List.mem_of_getElem? (i := 30) rfl) rfl 1 (Int.le_refl _) (Int.le_refl _)
theorem FE.p38_0 (h : FE 6 c c') (i : Int) (h0 : 0 ≤ i) (h1 : i ≤ 119) : c' 38 i = c 38 i := h (6, 38, 0, 119) (List.mem_of_getElem? (i := 31) rfl) rfl i h0 h1
theorem FE.p39_0 (h : FE 4 c c') (i : Int) (h0 : 0 ≤ i) (h1 : i ≤ 4) : c' 39 i = c 39 i := h (4, 39, 0, 4) (List.mem_of_getElem? (i := 32) rfl) rfl i h0 h1
end
/-- places of a list -/
def inP (l : List (Nat × Int × Int)) (k : Nat) (i : Int) : Prop := ∃ x, x ∈ l ∧ x.1 = k ∧ x.2.1 ≤ i ∧ i ≤ x.2.2
/-- just these places of group g0 were copied out of g1 -/
def CPY (g0 g1 : Nat) (l : List (Nat × Int × Int)) (m m' : zM) : Prop := (∀ g, g ≠ g0 → m' g = m g) ∧ (∀ k i, inP l k i → m' g0 k i = m g1 k i) ∧ (∀ k i, ¬ inP l k i → m' g0 k i = m g0 k i)
theorem CPY.rf (g0 g1 : Nat) (m : zM) : CPY g0 g1 [] m m := ⟨fun _ _ => rfl, fun k i h => absurd h (fun ⟨_, h, _⟩ => absurd h List.not_mem_nil), fun _ _ _ => rfl⟩
theorem CPY.trans {g0 g1 : Nat} (hg : g0 ≠ g1) {l l' : List (Nat × Int × Int)} {m a b : zM} (h : CPY g0 g1 l m a) (h' : CPY g0 g1 l' a b) : CPY g0 g1 (l ++ l') m b := by
  refine ⟨fun g hgg => (h'.1 g hgg).trans (h.1 g hgg), fun k i hp => ?_, fun k i hp => ?_⟩
  · by_cases h2 : inP l' k i
    · rw [h'.2.1 k i h2, h.1 g1 (fun e => hg e.symm)]
    · rw [h'.2.2 k i h2]
      refine h.2.1 k i ?_
      obtain ⟨x, hx, hq⟩ := hp
      rcases List.mem_append.mp hx with hx | hx
      · exact ⟨x, hx, hq⟩
      · exact absurd ⟨x, hx, hq⟩ h2
  · rw [h'.2.2 k i (fun e => hp (by obtain ⟨x, hx, hq⟩ := e; exact ⟨x, List.mem_append_right _ hx, hq⟩)), h.2.2 k i (fun e => hp (by obtain ⟨x, hx, hq⟩ := e; exact ⟨x, List.mem_append_left _ hx, hq⟩))]
theorem CPY.upd (m : zM) (g0 g1 k : Nat) (i : Int) : CPY g0 g1 [(k, i, i)] m (z_upd m g0 k i (m g1 k i)) := by
  refine ⟨fun g hg => zu_g _ _ _ hg, fun k' i' hp => ?_, fun k' i' hp => ?_⟩
  · obtain ⟨x, hx, h1, h2, h3⟩ := hp
    obtain rfl := List.mem_singleton.mp hx
    have e : i' = i := by (try dsimp only at h2 h3); omega
    subst h1
    subst e
    rw [zu_row, fu_s]
  · by_cases hk : k' = k
    · subst hk
      rw [zu_row, fu_i _ _ (fun e => hp ⟨(k', i, i), List.mem_singleton.mpr rfl, rfl, by rw [e]; exact Int.le_refl _, by rw [e]; exact Int.le_refl _⟩)]
    · rw [zu_k _ _ _ hk]
theorem CPY.cpy (m : zM) (g0 g1 k : Nat) (n : Int) : CPY g0 g1 [(k, 0, n - 1)] m (z_cpy m g0 k g1 k 0 0 n) := by
  refine ⟨fun g hg => funext fun k' => cpy_k _ (.inl hg), fun k' i' hp => ?_, fun k' i' hp => ?_⟩
  · obtain ⟨x, hx, h1, h2, h3⟩ := hp
    obtain rfl := List.mem_singleton.mp hx
    (try dsimp only at h1 h2 h3)
    subst h1
    rw [cpy_in _ (by omega), show i' - 0 + 0 = i' by omega]
  · by_cases hk : k' = k
    · subst hk
      exact cpy_out _ (fun e => hp ⟨(k', 0, n - 1), List.mem_singleton.mpr rfl, rfl, e.1, by (try dsimp only); omega⟩)
    · rw [cpy_k _ (.inr hk)]
theorem CPY.thn {g0 g1 : Nat} (hg : g0 ≠ g1) {l l' q : List (Nat × Int × Int)} {m a p : zM} {f : zM → zM} (h : CPY g0 g1 l m a) (h1 : CPY g0 g1 l' a p) (k : ∀ b, CPY g0 g1 (l ++ l') m b → CPY g0 g1 q m (f b)) : CPY g0 g1 q m (zs p f) := by
  rw [zs_a]
  exact k p (h.trans hg h1)
theorem f111_1_c {g0 g1 : Nat} (hg : g0 ≠ g1) (m : zM) : CPY g0 g1 [(12, 0, 7), (13, 0, 47), (14, 0, 47), (15, 0, 3), (16, 0, 27), (17, 0, 15), (18, 0, 15), (11, 7, 7)] m (f111_1 g0 g1 m) := by
  unfold f111_1
  refine CPY.thn hg (CPY.rf g0 g1 m) (CPY.cpy _ g0 g1 12 8) (fun m1 h1 => ?_)
  refine CPY.thn hg h1 (CPY.cpy _ g0 g1 13 48) (fun m2 h2 => ?_)
  refine CPY.thn hg h2 (CPY.cpy _ g0 g1 14 48) (fun m3 h3 => ?_)
  refine CPY.thn hg h3 (CPY.cpy _ g0 g1 15 4) (fun m4 h4 => ?_)
  refine CPY.thn hg h4 (CPY.cpy _ g0 g1 16 28) (fun m5 h5 => ?_)
  refine CPY.thn hg h5 (CPY.cpy _ g0 g1 17 16) (fun m6 h6 => ?_)
  refine CPY.thn hg h6 (CPY.cpy _ g0 g1 18 16) (fun m7 h7 => ?_)
  refine CPY.thn hg h7 (CPY.upd _ g0 g1 11 7) (fun m8 h8 => ?_)
  exact h8
theorem f173_1_c {g0 g1 : Nat} (hg : g0 ≠ g1) (m : zM) : CPY g0 g1 [(20, 0, 47), (21, 0, 47), (22, 0, 15), (19, 3, 3), (19, 4, 4), (19, 5, 5), (19, 6, 6)] m (f173_1 g0 g1 m) := by
  unfold f173_1
  refine CPY.thn hg (CPY.rf g0 g1 m) (CPY.cpy _ g0 g1 20 48) (fun m1 h1 => ?_)
  refine CPY.thn hg h1 (CPY.cpy _ g0 g1 21 48) (fun m2 h2 => ?_)
  refine CPY.thn hg h2 (CPY.cpy _ g0 g1 22 16) (fun m3 h3 => ?_)
  refine CPY.thn hg h3 (CPY.upd _ g0 g1 19 3) (fun m4 h4 => ?_)
  refine CPY.thn hg h4 (CPY.upd _ g0 g1 19 4) (fun m5 h5 => ?_)
  refine CPY.thn hg h5 (CPY.upd _ g0 g1 19 5) (fun m6 h6 => ?_)
  refine CPY.thn hg h6 (CPY.upd _ g0 g1 19 6) (fun m7 h7 => ?_)
  exact h7
theorem f175_1_c {g0 g1 : Nat} (hg : g0 ≠ g1) (m : zM) : CPY g0 g1 [(28, 0, 383), (29, 0, 3), (27, 2, 2), (27, 3, 3), (27, 4, 4), (27, 5, 5), (27, 6, 6), (27, 7, 7), (27, 8, 8), (27, 9, 9)] m (f175_1 g0 g1 m) := by
  unfold f175_1
  refine CPY.thn hg (CPY.rf g0 g1 m) (CPY.cpy _ g0 g1 28 384) (fun m1 h1 => ?_)
  refine CPY.thn hg h1 (CPY.cpy _ g0 g1 29 4) (fun m2 h2 => ?_)
  refine CPY.thn hg h2 (CPY.upd _ g0 g1 27 2) (fun m3 h3 => ?_)
  refine CPY.thn hg h3 (CPY.upd _ g0 g1 27 3) (fun m4 h4 => ?_)
  refine CPY.thn hg h4 (CPY.upd _ g0 g1 27 4) (fun m5 h5 => ?_)
  refine CPY.thn hg h5 (CPY.upd _ g0 g1 27 5) (fun m6 h6 => ?_)
  refine CPY.thn hg h6 (CPY.upd _ g0 g1 27 6) (fun m7 h7 => ?_)
  refine CPY.thn hg h7 (CPY.upd _ g0 g1 27 7) (fun m8 h8 => ?_)
  refine CPY.thn hg h8 (CPY.upd _ g0 g1 27 8) (fun m9 h9 => ?_)
  refine CPY.thn hg h9 (CPY.upd _ g0 g1 27 9) (fun m10 h10 => ?_)
  exact h10
theorem f171_1_c {g0 g1 : Nat} (hg : g0 ≠ g1) (m : zM) : CPY g0 g1 [(10, 0, 12), (12, 0, 7), (13, 0, 47), (14, 0, 47), (15, 0, 3), (16, 0, 27), (17, 0, 15), (18, 0, 15), (11, 7, 7), (20, 0, 47), (21, 0, 47), (22, 0, 15), (19, 3, 3), (19, 4, 4), (19, 5, 5), (19, 6, 6), (24, 0, 27), (25, 0, 27), (26, 0, 197), (23, 3, 3), (28, 0, 383), (29, 0, 3), (27, 2, 2), (27, 3, 3), (27, 4, 4), (27, 5, 5), (27, 6, 6), (27, 7, 7), (27, 8, 8), (27, 9, 9), (31, 0, 3), (32, 0, 3), (30, 2, 2), (30, 3, 3), (34, 0, 4), (35, 0, 4), (36, 0, 4), (33, 3, 3), (38, 0, 119), (37, 1, 1), (39, 0, 0), (39, 1, 1), (39, 2, 2), (39, 3, 3), (39, 4, 4), (8, 9, 9), (8, 10, 10), (8, 11, 11), (8, 12, 12), (8, 13, 13), (8, 14, 14), (8, 15, 15)] m (f171_1 g0 g1 m) := by
  unfold f171_1
  refine CPY.thn hg (CPY.rf g0 g1 m) (CPY.cpy _ g0 g1 10 13) (fun m1 h1 => ?_)
  refine CPY.thn hg h1 (f111_1_c hg _) (fun m2 h2 => ?_)
  refine CPY.thn hg h2 (f173_1_c hg _) (fun m3 h3 => ?_)
  refine CPY.thn hg h3 (CPY.cpy _ g0 g1 24 28) (fun m4 h4 => ?_)
  refine CPY.thn hg h4 (CPY.cpy _ g0 g1 25 28) (fun m5 h5 => ?_)
  refine CPY.thn hg h5 (CPY.cpy _ g0 g1 26 198) (fun m6 h6 => ?_)
  refine CPY.thn hg h6 (CPY.upd _ g0 g1 23 3) (fun m7 h7 => ?_)
  refine CPY.thn hg h7 (f175_1_c hg _) (fun m8 h8 => ?_)
  refine CPY.thn hg h8 (CPY.cpy _ g0 g1 31 4) (fun m9 h9 => ?_)
  refine CPY.thn hg h9 (CPY.cpy _ g0 g1 32 4) (fun m10 h10 => ?_)
  refine CPY.thn hg h10 (CPY.upd _ g0 g1 30 2) (fun m11 h11 => ?_)
  refine CPY.thn hg h11 (CPY.upd _ g0 g1 30 3) (fun m12 h12 => ?_)
  refine CPY.thn hg h12 (CPY.cpy _ g0 g1 34 5) (fun m13 h13 => ?_)
  refine CPY.thn hg h13 (CPY.cpy _ g0 g1 35 5) (fun m14 h14 => ?_)
  refine CPY.thn hg h14 (CPY.cpy _ g0 g1 36 5) (fun m15 h15 => ?_)
  refine CPY.thn hg h15 (CPY.upd _ g0 g1 33 3) (fun m16 h16 => ?_)
  refine CPY.thn hg h16 (CPY.cpy _ g0 g1 38 120) (fun m17 h17 => ?_)
  refine CPY.thn hg h17 (CPY.upd _ g0 g1 37 1) (fun m18 h18 => ?_)
  refine CPY.thn hg h18 (CPY.upd _ g0 g1 39 0) (fun m19 h19 => ?_)
  refine CPY.thn hg h19 (CPY.upd _ g0 g1 39 1) (fun m20 h20 => ?_)
  refine CPY.thn hg h20 (CPY.upd _ g0 g1 39 2) (fun m21 h21 => ?_)
  refine CPY.thn hg h21 (CPY.upd _ g0 g1 39 3) (fun m22 h22 => ?_)
  refine CPY.thn hg h22 (CPY.upd _ g0 g1 39 4) (fun m23 h23 => ?_)
  refine CPY.thn hg h23 (CPY.upd _ g0 g1 8 9) (fun m24 h24 => ?_)
  refine CPY.thn hg h24 (CPY.upd _ g0 g1 8 10) (fun m25 h25 => ?_)
  refine CPY.thn hg h25 (CPY.upd _ g0 g1 8 11) (fun m26 h26 => ?_)
  refine CPY.thn hg h26 (CPY.upd _ g0 g1 8 12) (fun m27 h27 => ?_)
  refine CPY.thn hg h27 (CPY.upd _ g0 g1 8 13) (fun m28 h28 => ?_)
  refine CPY.thn hg h28 (CPY.upd _ g0 g1 8 14) (fun m29 h29 => ?_)
  refine CPY.thn hg h29 (CPY.upd _ g0 g1 8 15) (fun m30 h30 => ?_)
  exact h30
theorem copy_FE {g0 g1 : Nat} (hg : g0 ≠ g1) (m : zM) (n : Nat) : FE n (m g1) (f171_1 g0 g1 m g0) := by
  intro x hx _ i h0 h1
  refine (f171_1_c hg m).2.1 x.2.1 i ?_
  simp only [fcl, List.mem_cons, List.not_mem_nil, or_false] at hx
  rcases hx with rfl | rfl | rfl | rfl | rfl | rfl | rfl | rfl | rfl | rfl | rfl | rfl | rfl | rfl | rfl | rfl | rfl | rfl | rfl | rfl | rfl | rfl | rfl | rfl | rfl | rfl | rfl | rfl | rfl | rfl | rfl | rfl | rfl
  · exact ⟨(8, 9, 9), List.mem_of_getElem? (i := 45) rfl, rfl, by (try dsimp only at h0 h1 ⊢); omega, by (try dsimp only at h0 h1 ⊢); omega⟩
  · (try dsimp only at h0 h1 ⊢)
    rcases (show i = 10 ∨ i = 11 ∨ i = 12 by omega) with rfl | rfl | rfl
    · exact ⟨(8, 10, 10), List.mem_of_getElem? (i := 46) rfl, rfl, by decide, by decide⟩
    · exact ⟨(8, 11, 11), List.mem_of_getElem? (i := 47) rfl, rfl, by decide, by decide⟩
    · exact ⟨(8, 12, 12), List.mem_of_getElem? (i := 48) rfl, rfl, by decide, by decide⟩
  · (try dsimp only at h0 h1 ⊢)
    rcases (show i = 13 ∨ i = 14 ∨ i = 15 by omega) with rfl | rfl | rfl
    · exact ⟨(8, 13, 13), List.mem_of_getElem? (i := 49) rfl, rfl, by decide, by decide⟩
    · exact ⟨(8, 14, 14), List.mem_of_getElem? (i := 50) rfl, rfl, by decide, by decide⟩
    · exact ⟨(8, 15, 15), List.mem_of_getElem? (i := 51) rfl, rfl, by decide, by decide⟩
  · exact ⟨(10, 0, 12), List.mem_of_getElem? (i := 0) rfl, rfl, by (try dsimp only at h0 h1 ⊢); omega, by (try dsimp only at h0 h1 ⊢); omega⟩
  · exact ⟨(11, 7, 7), List.mem_of_getElem? (i := 8) rfl, rfl, by (try dsimp only at h0 h1 ⊢); omega, by (try dsimp only at h0 h1 ⊢); omega⟩
  · exact ⟨(12, 0, 7), List.mem_of_getElem? (i := 1) rfl, rfl, by (try dsimp only at h0 h1 ⊢); omega, by (try dsimp only at h0 h1 ⊢); omega⟩
  · exact ⟨(13, 0, 47), List.mem_of_getElem? (i := 2) rfl, rfl, by (try dsimp only at h0 h1 ⊢); omega, by (try dsimp only at h0 h1 ⊢); omega⟩
  · exact ⟨(14, 0, 47), List.mem_of_getElem? (i := 3) rfl, rfl, by (try dsimp only at h0 h1 ⊢); omega, by (try dsimp only at h0 h1 ⊢); omega⟩
  · exact ⟨(15, 0, 3), List.mem_of_getElem? (i := 4) rfl, rfl, by (try dsimp only at h0 h1 ⊢); omega, by (try dsimp only at h0 h1 ⊢); omega⟩
  · exact ⟨(16, 0, 27), List.mem_of_getElem? (i := 5) rfl, rfl, by (try dsimp only at h0 h1 ⊢); omega, by (try dsimp only at h0 h1 ⊢); omega⟩
  · exact ⟨(17, 0, 15), List.mem_of_getElem? (i := 6) rfl, rfl, by (try dsimp only at h0 h1 ⊢); omega, by (try dsimp only at h0 h1 ⊢); omega⟩
  · exact ⟨(18, 0, 15), List.mem_of_getElem? (i := 7) rfl, rfl, by (try dsimp only at h0 h1 ⊢); omega, by (try dsimp only at h0 h1 ⊢); omega⟩
  · (try dsimp only at h0 h1 ⊢)
    rcases (show i = 3 ∨ i = 4 ∨ i = 5 ∨ i = 6 by omega) with rfl | rfl | rfl | rfl
    · exact ⟨(19, 3, 3), List.mem_of_getElem? (i := 12) rfl, rfl, by decide, by decide⟩
    · exact ⟨(19, 4, 4), List.mem_of_getElem? (i := 13) rfl, rfl, by decide, by decide⟩
    · exact ⟨(19, 5, 5), List.mem_of_getElem? (i := 14) rfl, rfl, by decide, by decide⟩
    · exact ⟨(19, 6, 6), List.mem_of_getElem? (i := 15) rfl, rfl, by decide, by decide⟩
  · exact ⟨(20, 0, 47), List.mem_of_getElem? (i := 9) rfl, rfl, by (try dsimp only at h0 h1 ⊢); omega, by (try dsimp only at h0 h1 ⊢); omega⟩
  · exact ⟨(21, 0, 47), List.mem_of_getElem? (i := 10) rfl, rfl, by (try dsimp only at h0 h1 ⊢); omega, by (try dsimp only at h0 h1 ⊢); omega⟩
  · exact ⟨(22, 0, 15), List.mem_of_getElem? (i := 11) rfl, rfl, by (try dsimp only at h0 h1 ⊢); omega, by (try dsimp only at h0 h1 ⊢); omega⟩
  · exact ⟨(23, 3, 3), List.mem_of_getElem? (i := 19) rfl, rfl, by (try dsimp only at h0 h1 ⊢); omega, by (try dsimp only at h0 h1 ⊢); omega⟩
  · exact ⟨(24, 0, 27), List.mem_of_getElem? (i := 16) rfl, rfl, by (try dsimp only at h0 h1 ⊢); omega, by (try dsimp only at h0 h1 ⊢); omega⟩
  · exact ⟨(25, 0, 27), List.mem_of_getElem? (i := 17) rfl, rfl, by (try dsimp only at h0 h1 ⊢); omega, by (try dsimp only at h0 h1 ⊢); omega⟩
  · exact ⟨(26, 0, 197), List.mem_of_getElem? (i := 18) rfl, rfl, by (try dsimp only at h0 h1 ⊢); omega, by (try dsimp only at h0 h1 ⊢); omega⟩
  · (try dsimp only at h0 h1 ⊢)
    rcases (show i = 2 ∨ i = 3 ∨ i = 4 ∨ i = 5 ∨ i = 6 ∨ i = 7 ∨ i = 8 ∨ i = 9 by omega) with rfl | rfl | rfl | rfl | rfl | rfl | rfl | rfl
    · exact ⟨(27, 2, 2), List.mem_of_getElem? (i := 22) rfl, rfl, by decide, by decide⟩
    · exact ⟨(27, 3, 3), List.mem_of_getElem? (i := 23) rfl, rfl, by decide, by decide⟩
    · exact ⟨(27, 4, 4), List.mem_of_getElem? (i := 24) rfl, rfl, by decide, by decide⟩
    · exact ⟨(27, 5, 5), List.mem_of_getElem? (i := 25) rfl, rfl, by decide, by decide⟩
    · exact ⟨(27, 6, 6), List.mem_of_getElem? (i := 26) rfl, rfl, by decide, by decide⟩
    · exact ⟨(27, 7, 7), List.mem_of_getElem? (i := 27) rfl, rfl, by decide, by decide⟩
    · exact ⟨(27, 8, 8), List.mem_of_getElem? (i := 28) rfl, rfl, by decide, by decide⟩
    · exact ⟨(27, 9, 9), List.mem_of_getElem? (i := 29) rfl, rfl, by decide, by decide⟩
  · exact ⟨(28, 0, 383), List.mem_of_getElem? (i := 20) rfl, rfl, by (try dsimp only at h0 h1 ⊢); omega, by (try dsimp only at h0 h1 ⊢); omega⟩
  · exact ⟨(29, 0, 3), List.mem_of_getElem? (i := 21) rfl, rfl, by (try dsimp only at h0 h1 ⊢); omega, by (try dsimp only at h0 h1 ⊢); omega⟩
  · (try dsimp only at h0 h1 ⊢)
    rcases (show i = 2 ∨ i = 3 by omega) with rfl | rfl
    · exact ⟨(30, 2, 2), List.mem_of_getElem? (i := 32) rfl, rfl, by decide, by decide⟩
    · exact ⟨(30, 3, 3), List.mem_of_getElem? (i := 33) rfl, rfl, by decide, by decide⟩
  · exact ⟨(31, 0, 3), List.mem_of_getElem? (i := 30) rfl, rfl, by (try dsimp only at h0 h1 ⊢); omega, by (try dsimp only at h0 h1 ⊢); omega⟩
  · exact ⟨(32, 0, 3), List.mem_of_getElem? (i := 31) rfl, rfl, by (try dsimp only at h0 h1 ⊢); omega, by (try dsimp only at h0 h1 ⊢); omega⟩
  · exact ⟨(33, 3, 3), List.mem_of_getElem? (i := 37) rfl, rfl, by (try dsimp only at h0 h1 ⊢); omega, by (try dsimp only at h0 h1 ⊢); omega⟩
  · exact ⟨(34, 0, 4), List.mem_of_getElem? (i := 34) rfl, rfl, by (try dsimp only at h0 h1 ⊢); omega, by (try dsimp only at h0 h1 ⊢); omega⟩
  · exact ⟨(35, 0, 4), List.mem_of_getElem? (i := 35) rfl, rfl, by (try dsimp only at h0 h1 ⊢); omega, by (try dsimp only at h0 h1 ⊢); omega⟩
  · exact ⟨(36, 0, 4), List.mem_of_getElem? (i := 36) rfl, rfl, by (try dsimp only at h0 h1 ⊢); omega, by (try dsimp only at h0 h1 ⊢); omega⟩
  · exact ⟨(37, 1, 1), List.mem_of_getElem? (i := 39) rfl, rfl, by (try dsimp only at h0 h1 ⊢); omega, by (try dsimp only at h0 h1 ⊢); omega⟩
  · exact ⟨(38, 0, 119), List.mem_of_getElem? (i := 38) rfl, rfl, by (try dsimp only at h0 h1 ⊢); omega, by (try dsimp only at h0 h1 ⊢); omega⟩
  · (try dsimp only at h0 h1 ⊢)
    rcases (show i = 0 ∨ i = 1 ∨ i = 2 ∨ i = 3 ∨ i = 4 by omega) with rfl | rfl | rfl | rfl | rfl
    · exact ⟨(39, 0, 0), List.mem_of_getElem? (i := 40) rfl, rfl, by decide, by decide⟩
    · exact ⟨(39, 1, 1), List.mem_of_getElem? (i := 41) rfl, rfl, by decide, by decide⟩
    · exact ⟨(39, 2, 2), List.mem_of_getElem? (i := 42) rfl, rfl, by decide, by decide⟩
    · exact ⟨(39, 3, 3), List.mem_of_getElem? (i := 43) rfl, rfl, by decide, by decide⟩
    · exact ⟨(39, 4, 4), List.mem_of_getElem? (i := 44) rfl, rfl, by decide, by decide⟩
