/-! Printed by wip/gen/inv.py: bounds of the numbers, and those that are tracked. -/
def jb (k : Nat) : List (Int × Int × Int × Int) := match k with
  | 8 => [(9, 9, 0, 2000000000), (11, 11, 0, 1), (12, 12, 0, 1)]
  | 10 => [(0, 4, 0, 1000000), (5, 5, 1, 6), (6, 12, 0, 1000000)]
  | 11 => [(7, 7, 0, 16)]
  | 12 => [(0, 7, 0, 6)]
  | 13 => [(0, 47, 0, 86399)]
  | 14 => [(0, 47, 0, 3)]
  | 15 => [(0, 3, -1, 364)]
  | 16 => [(0, 27, 0, 7)]
  | 17 => [(0, 15, 0, 364)]
  | 18 => [(0, 15, 0, 7)]
  | 19 => [(3, 3, 1, 3), (4, 4, 4, 16), (5, 5, 0, 47)]
  | 20 => [(0, 47, -500, 500)]
  | 21 => [(0, 47, -500, 500)]
  | 23 => [(3, 3, 0, -7)]
  | 27 => [(2, 2, 0, -7), (9, 9, 0, 2000000000)]
  | 37 => [(1, 1, 0, -7)]
  | 39 => [(0, 0, 0, 1)]
  | 40 => [(4, 4, 0, 1)]
  | 41 => [(3, 3, 0, 300), (6, 6, 0, 1), (7, 7, 0, 300)]
  | 42 => [(0, 299, 0, 255)]
  | 43 => [(0, 3, 0, 100)]
  | 44 => [(3, 3, 0, 1), (5, 5, 0, 300), (8, 8, 0, 300), (9, 9, 0, 1), (14, 14, 0, 1)]
  | 45 => [(0, 0, 0, 2000000000), (1, 1, 1, 3), (2, 2, 4, 16), (3, 3, 0, 47), (5, 5, 1, 1000000), (8, 8, 1, 3600), (9, 9, 1, 6), (11, 11, 0, 1), (12, 12, 0, 1), (16, 16, 0, -7), (17, 17, 0, -7), (18, 18, 0, -7), (287, 294, 0, 6), (295, 342, 0, 86399), (343, 390, 0, 3), (391, 394, -1, 364), (395, 422, 0, 7), (423, 787, -1, 7), (1614, 1614, 0, 1)]
  | 46 => [(0, 0, 0, 2000000000), (1, 1, 1, 3), (2, 2, 4, 16), (3, 3, 0, 47), (5, 5, 1, 1000000), (8, 8, 1, 3600), (9, 9, 1, 6), (11, 11, 0, 1), (12, 12, 0, 1), (16, 16, 0, -7), (17, 17, 0, -7), (18, 18, 0, -7), (287, 294, 0, 6), (295, 342, 0, 86399), (343, 390, 0, 3), (391, 394, -1, 364), (395, 422, 0, 7), (423, 787, -1, 7), (1614, 1614, 0, 1)]
  | 47 => [(0, 0, 0, 2000000000), (1, 1, 1, 3), (2, 2, 4, 16), (3, 3, 0, 47), (5, 5, 1, 1000000), (8, 8, 1, 3600), (9, 9, 1, 6), (11, 11, 0, 1), (12, 12, 0, 1), (16, 16, 0, -7), (17, 17, 0, -7), (18, 18, 0, -7), (287, 294, 0, 6), (295, 342, 0, 86399), (343, 390, 0, 3), (391, 394, -1, 364), (395, 422, 0, 7), (423, 787, -1, 7), (1614, 1614, 0, 1)]
  | _ => []
def jf (l : List (Int × Int × Int × Int)) (i : Int) : Option (Int × Int) := match l with
  | [] => none
  | q :: r => if q.1 ≤ i ∧ i ≤ q.2.1 then some q.2.2 else jf r i
def jlo (o : Option (Int × Int)) : Int := match o with
  | some q => q.1
  | none => -9223372036854775808
def jhi (B : Int) (o : Option (Int × Int)) : Int := match o with
  | some q => if q.2 = -7 then B else q.2
  | none => 9223372036854775807
def jl (k : Nat) (i : Int) : Int := jlo (jf (jb k) i)
def jh (B : Int) (k : Nat) (i : Int) : Int := jhi B (jf (jb k) i)
theorem jf_at {i a b : Int} {q : Int × Int} (hi : a ≤ i ∧ i ≤ b) : ∀ (n : Nat) (l : List (Int × Int × Int × Int)), l[n]? = some (a, b, q) → ((l.take n).all fun q => decide (q.2.1 < a)) = true → jf l i = some q
  | _, [], h, _ => by simp at h
  | 0, z :: r, h, _ => by
    have e : z = (a, b, q) := by simpa using h
    subst e
    unfold jf
    rw [if_pos hi]
  | n + 1, z :: r, h, hs => by
    simp only [List.take_succ_cons, List.all_cons, Bool.and_eq_true, decide_eq_true_eq] at hs
    unfold jf
    rw [if_neg (by omega)]
    exact jf_at hi n r (by simpa using h) hs.2
theorem jf_no {i a b : Int} (hi : a ≤ i ∧ i ≤ b) : ∀ (l : List (Int × Int × Int × Int)), (l.all fun q => decide (q.2.1 < a ∨ b < q.1)) = true → jf l i = none
  | [], _ => rfl
  | z :: r, hs => by
    simp only [List.all_cons, Bool.and_eq_true, decide_eq_true_eq] at hs
    unfold jf
    rw [if_neg (by omega)]
    exact jf_no hi r hs.2
def jt (g k : Nat) (i : Int) : Bool := match k with
  | 8 => decide ((g = 0 ∨ g = 1) ∧ (i = 11))
  | 23 => decide ((g = 0 ∨ g = 1) ∧ (i = 3))
  | 40 => decide ((g = 4) ∧ (i = 4))
  | 41 => decide ((g = 4) ∧ (i = 3))
  | 44 => decide ((g = 4) ∧ (i = 3 ∨ i = 5))
  | 45 => decide ((g = 4) ∧ (i = 11 ∨ i = 18))
  | 46 => decide ((g = 4) ∧ (i = 11 ∨ i = 18))
  | 47 => decide ((g = 4) ∧ (i = 11 ∨ i = 18))
  | _ => false
/-- the rows aside and kept mean something once they are copied: m0 says so, at -1 -/
def jv (m0 : zM) (k : Nat) : Prop := (k = 46 → m0 4 46 (-1) = 1) ∧ (k = 47 → m0 4 47 (-1) = 1)
def jq (m0 : zM) (g k : Nat) (i : Int) : Prop := g = 4 → 0 ≤ i → i < 1619 → jv m0 k
theorem jv_of {m0 : zM} {k : Nat} (h : decide (k = 46 ∨ k = 47) = false) : jv m0 k := by
  have h := of_decide_eq_false h
  exact ⟨fun e => absurd (.inl e) h, fun e => absurd (.inr e) h⟩
theorem jq_of {m0 : zM} {g k : Nat} {i : Int} (h : decide (k = 46 ∨ k = 47) = false) : jq m0 g k i := fun _ _ _ => jv_of h
theorem jq_co {m0 n0 : zM} (h6 : n0 4 46 (-1) = m0 4 46 (-1)) (h7 : n0 4 47 (-1) = m0 4 47 (-1)) {g k : Nat} {i : Int} (h : jq n0 g k i) : jq m0 g k i := fun e1 e2 e3 => ⟨fun e => h6 ▸ (h e1 e2 e3).1 e, fun e => h7 ▸ (h e1 e2 e3).2 e⟩
def J (m0 : zM) (B : Int) (m : zM) : Prop := ((∀ g k i, jq m0 g k i → jl k i ≤ m g k i ∧ m g k i ≤ jh B k i) ∧ ∀ g, m0 g 44 8 ≤ m g 44 8 ∧ m0 g 44 9 ≤ m g 44 9) ∧ ∀ g k i, jt g k i = true → m g k i = m0 g k i
/-- those that never fall since m0: where the reference reads, and that it found a fault -/
def jn (k : Nat) (i : Int) : Bool := match k with
  | 44 => decide (i = 8 ∨ i = 9)
  | _ => false
theorem jh_mono {B B' : Int} (h : B ≤ B') (k : Nat) (i : Int) : jh B k i ≤ jh B' k i := by
  unfold jh jhi
  split
  · split <;> omega
  · omega
theorem J.up {m0 m : zM} {B B' : Int} (h : J m0 B m) (hb : B ≤ B') : J m0 B' m := ⟨⟨fun g k i hq => ⟨(h.1.1 g k i hq).1, Int.le_trans (h.1.1 g k i hq).2 (jh_mono hb k i)⟩, h.1.2⟩, h.2⟩
theorem J.upd {m0 m m1 : zM} {B : Int} {g k : Nat} {i x : Int} (h : J m0 B m) (hm : m1 = z_upd m g k i x) (hx : jl k i ≤ x ∧ x ≤ jh B k i) (ht : jt g k i = false) (hn : jn k i = false ∨ m g k i ≤ x) : J m0 B m1 := by
  subst hm
  have key : ∀ (g' : Nat) (i' : Int), (i' = 8 ∨ i' = 9) → m g' 44 i' ≤ z_upd m g k i x g' 44 i' := by
    intro g' i' hi'
    unfold z_upd
    split
    · rename_i e
      obtain ⟨rfl, rfl, rfl⟩ := e
      rcases hn with hn | hn
      · rcases hi' with rfl | rfl <;> cases hn
      · exact hn
    · exact Int.le_refl _
  refine ⟨⟨fun g' k' i' hq => ?_, fun g' => ⟨Int.le_trans (h.1.2 g').1 (key g' 8 (.inl rfl)), Int.le_trans (h.1.2 g').2 (key g' 9 (.inr rfl))⟩⟩, fun g' k' i' h9 => ?_⟩
  · unfold z_upd
    split
    · rename_i e
      obtain ⟨rfl, rfl, rfl⟩ := e
      exact hx
    · exact h.1.1 g' k' i' hq
  · unfold z_upd
    split
    · rename_i e
      obtain ⟨rfl, rfl, rfl⟩ := e
      rw [ht] at h9
      cases h9
    · exact h.2 g' k' i' h9
theorem J.rf {m0 m : zM} {B : Int} (h : ∀ g k i, jq m0 g k i → jl k i ≤ m g k i ∧ m g k i ≤ jh B k i) (he : m0 = m) : J m0 B m := ⟨⟨h, fun g => by rw [he]; exact ⟨Int.le_refl _, Int.le_refl _⟩⟩, fun _ _ _ _ => by rw [he]⟩
/-- m0, but for those that never fall: as they are now -/
def jself (m0 m : zM) : zM := fun g k i => if k = 44 ∧ (i = 8 ∨ i = 9) then m g k i else m0 g k i
theorem jself_8 (m0 m : zM) (g : Nat) : jself m0 m g 44 8 = m g 44 8 := by
  unfold jself
  rw [if_pos ⟨rfl, .inl rfl⟩]
theorem jself_9 (m0 m : zM) (g : Nat) : jself m0 m g 44 9 = m g 44 9 := by
  unfold jself
  rw [if_pos ⟨rfl, .inr rfl⟩]
theorem jself_t {m0 m : zM} {g k : Nat} {i : Int} (h : jt g k i = true) : jself m0 m g k i = m0 g k i := by
  unfold jself
  rw [if_neg]
  rintro ⟨rfl, rfl | rfl⟩
  · simp [jt] at h
  · simp [jt] at h
theorem jself_q {m0 m : zM} {g k : Nat} {i : Int} : (jq (jself m0 m) g k i → jq m0 g k i) ∧ (jq m0 g k i → jq (jself m0 m) g k i) := by
  have e6 : jself m0 m 4 46 (-1) = m0 4 46 (-1) := by
    unfold jself
    rw [if_neg (fun e => absurd e.1 (by decide))]
  have e7 : jself m0 m 4 47 (-1) = m0 4 47 (-1) := by
    unfold jself
    rw [if_neg (fun e => absurd e.1 (by decide))]
  exact ⟨fun h => jq_co e6 e7 h, fun h => jq_co e6.symm e7.symm h⟩
theorem J.self {m0 m : zM} {B : Int} (h : J m0 B m) : J (jself m0 m) B m := ⟨⟨fun g k i hq => h.1.1 g k i (jself_q.1 hq), fun g => by rw [jself_8, jself_9]; exact ⟨Int.le_refl _, Int.le_refl _⟩⟩, fun g k i h9 => by rw [jself_t h9]; exact h.2 g k i h9⟩
theorem J.mo {m0 m m' : zM} {B : Int} (h : J (jself m0 m) B m') (g : Nat) : m g 44 8 ≤ m' g 44 8 ∧ m g 44 9 ≤ m' g 44 9 := by
  have h1 := h.1.2 g
  rw [jself_8, jself_9] at h1
  exact h1
theorem J.trans {m0 m m' : zM} {B B' : Int} (h : J m0 B m) (h' : J (jself m0 m) B' m') : J m0 B' m' := ⟨⟨fun g k i hq => h'.1.1 g k i (jself_q.2 hq), fun g => ⟨Int.le_trans (h.1.2 g).1 (h'.mo g).1, Int.le_trans (h.1.2 g).2 (h'.mo g).2⟩⟩, fun g k i h9 => (h'.2 g k i h9).trans (jself_t h9)⟩
theorem J.i32 {x : Int} (h : -2147483648 ≤ x ∧ x ≤ 2147483647) : -9223372036854775808 ≤ x ∧ x ≤ 9223372036854775807 := by omega
section
variable {m0 m m1 : zM} {B x i : Int} {g : Nat}
theorem w8_0 (h : J m0 B m) (hm : m1 = z_upd m g 8 i x) (hi : 0 ≤ i ∧ i ≤ 8) (hx : -9223372036854775808 ≤ x ∧ x ≤ 9223372036854775807) : J m0 B m1 := h.upd hm (by unfold jl jh; rw [(jf_no hi (jb 8) rfl)]; exact hx) (by unfold jt; simp; try omega) (.inl rfl)
theorem r8_9 (h : J m0 B m) (g : Nat) : 0 ≤ m g 8 9 ∧ m g 8 9 ≤ 2000000000 := by
  have h1 := h.1.1 g 8 9 (jq_of rfl)
  unfold jl jh at h1
  rw [(jf_at (show (9 : Int) ≤ 9 ∧ (9 : Int) ≤ 9 by omega) 0 (jb 8) rfl rfl)] at h1
  exact h1
theorem w8_9 (h : J m0 B m) (hm : m1 = z_upd m g 8 9 x) (hx : 0 ≤ x ∧ x ≤ 2000000000) : J m0 B m1 := h.upd hm (by unfold jl jh; rw [(jf_at (show (9 : Int) ≤ 9 ∧ (9 : Int) ≤ 9 by omega) 0 (jb 8) rfl rfl)]; exact hx) (by unfold jt; simp; try omega) (.inl rfl)
theorem w8_10 (h : J m0 B m) (hm : m1 = z_upd m g 8 10 x) (hx : -9223372036854775808 ≤ x ∧ x ≤ 9223372036854775807) : J m0 B m1 := h.upd hm (by unfold jl jh; rw [(jf_no (show (10 : Int) ≤ 10 ∧ (10 : Int) ≤ 10 by omega) (jb 8) rfl)]; exact hx) (by unfold jt; simp; try omega) (.inl rfl)
theorem r8_11 (h : J m0 B m) (g : Nat) : 0 ≤ m g 8 11 ∧ m g 8 11 ≤ 1 := by
  have h1 := h.1.1 g 8 11 (jq_of rfl)
  unfold jl jh at h1
  rw [(jf_at (show (11 : Int) ≤ 11 ∧ (11 : Int) ≤ 11 by omega) 1 (jb 8) rfl rfl)] at h1
  exact h1
theorem r8_12 (h : J m0 B m) (g : Nat) : 0 ≤ m g 8 12 ∧ m g 8 12 ≤ 1 := by
  have h1 := h.1.1 g 8 12 (jq_of rfl)
  unfold jl jh at h1
  rw [(jf_at (show (12 : Int) ≤ 12 ∧ (12 : Int) ≤ 12 by omega) 2 (jb 8) rfl rfl)] at h1
  exact h1
theorem w8_12 (h : J m0 B m) (hm : m1 = z_upd m g 8 12 x) (hx : 0 ≤ x ∧ x ≤ 1) : J m0 B m1 := h.upd hm (by unfold jl jh; rw [(jf_at (show (12 : Int) ≤ 12 ∧ (12 : Int) ≤ 12 by omega) 2 (jb 8) rfl rfl)]; exact hx) (by unfold jt; simp; try omega) (.inl rfl)
theorem w8_13 (h : J m0 B m) (hm : m1 = z_upd m g 8 i x) (hi : 13 ≤ i ∧ i ≤ 15) (hx : -9223372036854775808 ≤ x ∧ x ≤ 9223372036854775807) : J m0 B m1 := h.upd hm (by unfold jl jh; rw [(jf_no hi (jb 8) rfl)]; exact hx) (by unfold jt; simp; try omega) (.inl rfl)
theorem w9_0 (h : J m0 B m) (hm : m1 = z_upd m g 9 0 x) (hx : -9223372036854775808 ≤ x ∧ x ≤ 9223372036854775807) : J m0 B m1 := h.upd hm (by unfold jl jh; rw [(jf_no (show (0 : Int) ≤ 0 ∧ (0 : Int) ≤ 0 by omega) (jb 9) rfl)]; exact hx) rfl (.inl rfl)
theorem r10_0 (h : J m0 B m) (g : Nat) (hi : 0 ≤ i ∧ i ≤ 4) : 0 ≤ m g 10 i ∧ m g 10 i ≤ 1000000 := by
  have h1 := h.1.1 g 10 i (jq_of rfl)
  unfold jl jh at h1
  rw [(jf_at hi 0 (jb 10) rfl rfl)] at h1
  exact h1
theorem w10_0 (h : J m0 B m) (hm : m1 = z_upd m g 10 i x) (hi : 0 ≤ i ∧ i ≤ 4) (hx : 0 ≤ x ∧ x ≤ 1000000) : J m0 B m1 := h.upd hm (by unfold jl jh; rw [(jf_at hi 0 (jb 10) rfl rfl)]; exact hx) rfl (.inl rfl)
theorem r10_5 (h : J m0 B m) (g : Nat) : 1 ≤ m g 10 5 ∧ m g 10 5 ≤ 6 := by
  have h1 := h.1.1 g 10 5 (jq_of rfl)
  unfold jl jh at h1
  rw [(jf_at (show (5 : Int) ≤ 5 ∧ (5 : Int) ≤ 5 by omega) 1 (jb 10) rfl rfl)] at h1
  exact h1
theorem w10_5 (h : J m0 B m) (hm : m1 = z_upd m g 10 5 x) (hx : 1 ≤ x ∧ x ≤ 6) : J m0 B m1 := h.upd hm (by unfold jl jh; rw [(jf_at (show (5 : Int) ≤ 5 ∧ (5 : Int) ≤ 5 by omega) 1 (jb 10) rfl rfl)]; exact hx) rfl (.inl rfl)
theorem r10_6 (h : J m0 B m) (g : Nat) (hi : 6 ≤ i ∧ i ≤ 12) : 0 ≤ m g 10 i ∧ m g 10 i ≤ 1000000 := by
  have h1 := h.1.1 g 10 i (jq_of rfl)
  unfold jl jh at h1
  rw [(jf_at hi 2 (jb 10) rfl rfl)] at h1
  exact h1
theorem w10_6 (h : J m0 B m) (hm : m1 = z_upd m g 10 i x) (hi : 6 ≤ i ∧ i ≤ 12) (hx : 0 ≤ x ∧ x ≤ 1000000) : J m0 B m1 := h.upd hm (by unfold jl jh; rw [(jf_at hi 2 (jb 10) rfl rfl)]; exact hx) rfl (.inl rfl)
theorem w11_0 (h : J m0 B m) (hm : m1 = z_upd m g 11 i x) (hi : 0 ≤ i ∧ i ≤ 6) (hx : -9223372036854775808 ≤ x ∧ x ≤ 9223372036854775807) : J m0 B m1 := h.upd hm (by unfold jl jh; rw [(jf_no hi (jb 11) rfl)]; exact hx) rfl (.inl rfl)
theorem r11_7 (h : J m0 B m) (g : Nat) : 0 ≤ m g 11 7 ∧ m g 11 7 ≤ 16 := by
  have h1 := h.1.1 g 11 7 (jq_of rfl)
  unfold jl jh at h1
  rw [(jf_at (show (7 : Int) ≤ 7 ∧ (7 : Int) ≤ 7 by omega) 0 (jb 11) rfl rfl)] at h1
  exact h1
theorem w11_7 (h : J m0 B m) (hm : m1 = z_upd m g 11 7 x) (hx : 0 ≤ x ∧ x ≤ 16) : J m0 B m1 := h.upd hm (by unfold jl jh; rw [(jf_at (show (7 : Int) ≤ 7 ∧ (7 : Int) ≤ 7 by omega) 0 (jb 11) rfl rfl)]; exact hx) rfl (.inl rfl)
theorem r12_0 (h : J m0 B m) (g : Nat) (hi : 0 ≤ i ∧ i ≤ 7) : 0 ≤ m g 12 i ∧ m g 12 i ≤ 6 := by
  have h1 := h.1.1 g 12 i (jq_of rfl)
  unfold jl jh at h1
  rw [(jf_at hi 0 (jb 12) rfl rfl)] at h1
  exact h1
theorem w12_0 (h : J m0 B m) (hm : m1 = z_upd m g 12 i x) (hi : 0 ≤ i ∧ i ≤ 7) (hx : 0 ≤ x ∧ x ≤ 6) : J m0 B m1 := h.upd hm (by unfold jl jh; rw [(jf_at hi 0 (jb 12) rfl rfl)]; exact hx) rfl (.inl rfl)
theorem r13_0 (h : J m0 B m) (g : Nat) (hi : 0 ≤ i ∧ i ≤ 47) : 0 ≤ m g 13 i ∧ m g 13 i ≤ 86399 := by
  have h1 := h.1.1 g 13 i (jq_of rfl)
  unfold jl jh at h1
  rw [(jf_at hi 0 (jb 13) rfl rfl)] at h1
  exact h1
theorem w13_0 (h : J m0 B m) (hm : m1 = z_upd m g 13 i x) (hi : 0 ≤ i ∧ i ≤ 47) (hx : 0 ≤ x ∧ x ≤ 86399) : J m0 B m1 := h.upd hm (by unfold jl jh; rw [(jf_at hi 0 (jb 13) rfl rfl)]; exact hx) rfl (.inl rfl)
theorem r14_0 (h : J m0 B m) (g : Nat) (hi : 0 ≤ i ∧ i ≤ 47) : 0 ≤ m g 14 i ∧ m g 14 i ≤ 3 := by
  have h1 := h.1.1 g 14 i (jq_of rfl)
  unfold jl jh at h1
  rw [(jf_at hi 0 (jb 14) rfl rfl)] at h1
  exact h1
theorem w14_0 (h : J m0 B m) (hm : m1 = z_upd m g 14 i x) (hi : 0 ≤ i ∧ i ≤ 47) (hx : 0 ≤ x ∧ x ≤ 3) : J m0 B m1 := h.upd hm (by unfold jl jh; rw [(jf_at hi 0 (jb 14) rfl rfl)]; exact hx) rfl (.inl rfl)
theorem r15_0 (h : J m0 B m) (g : Nat) (hi : 0 ≤ i ∧ i ≤ 3) : (-1) ≤ m g 15 i ∧ m g 15 i ≤ 364 := by
  have h1 := h.1.1 g 15 i (jq_of rfl)
  unfold jl jh at h1
  rw [(jf_at hi 0 (jb 15) rfl rfl)] at h1
  exact h1
theorem w15_0 (h : J m0 B m) (hm : m1 = z_upd m g 15 i x) (hi : 0 ≤ i ∧ i ≤ 3) (hx : (-1) ≤ x ∧ x ≤ 364) : J m0 B m1 := h.upd hm (by unfold jl jh; rw [(jf_at hi 0 (jb 15) rfl rfl)]; exact hx) rfl (.inl rfl)
theorem r16_0 (h : J m0 B m) (g : Nat) (hi : 0 ≤ i ∧ i ≤ 27) : 0 ≤ m g 16 i ∧ m g 16 i ≤ 7 := by
  have h1 := h.1.1 g 16 i (jq_of rfl)
  unfold jl jh at h1
  rw [(jf_at hi 0 (jb 16) rfl rfl)] at h1
  exact h1
theorem w16_0 (h : J m0 B m) (hm : m1 = z_upd m g 16 i x) (hi : 0 ≤ i ∧ i ≤ 27) (hx : 0 ≤ x ∧ x ≤ 7) : J m0 B m1 := h.upd hm (by unfold jl jh; rw [(jf_at hi 0 (jb 16) rfl rfl)]; exact hx) rfl (.inl rfl)
theorem r17_0 (h : J m0 B m) (g : Nat) (hi : 0 ≤ i ∧ i ≤ 15) : 0 ≤ m g 17 i ∧ m g 17 i ≤ 364 := by
  have h1 := h.1.1 g 17 i (jq_of rfl)
  unfold jl jh at h1
  rw [(jf_at hi 0 (jb 17) rfl rfl)] at h1
  exact h1
theorem w17_0 (h : J m0 B m) (hm : m1 = z_upd m g 17 i x) (hi : 0 ≤ i ∧ i ≤ 15) (hx : 0 ≤ x ∧ x ≤ 364) : J m0 B m1 := h.upd hm (by unfold jl jh; rw [(jf_at hi 0 (jb 17) rfl rfl)]; exact hx) rfl (.inl rfl)
theorem r18_0 (h : J m0 B m) (g : Nat) (hi : 0 ≤ i ∧ i ≤ 15) : 0 ≤ m g 18 i ∧ m g 18 i ≤ 7 := by
  have h1 := h.1.1 g 18 i (jq_of rfl)
  unfold jl jh at h1
  rw [(jf_at hi 0 (jb 18) rfl rfl)] at h1
  exact h1
theorem w18_0 (h : J m0 B m) (hm : m1 = z_upd m g 18 i x) (hi : 0 ≤ i ∧ i ≤ 15) (hx : 0 ≤ x ∧ x ≤ 7) : J m0 B m1 := h.upd hm (by unfold jl jh; rw [(jf_at hi 0 (jb 18) rfl rfl)]; exact hx) rfl (.inl rfl)
theorem w19_0 (h : J m0 B m) (hm : m1 = z_upd m g 19 i x) (hi : 0 ≤ i ∧ i ≤ 2) (hx : -9223372036854775808 ≤ x ∧ x ≤ 9223372036854775807) : J m0 B m1 := h.upd hm (by unfold jl jh; rw [(jf_no hi (jb 19) rfl)]; exact hx) rfl (.inl rfl)
theorem r19_3 (h : J m0 B m) (g : Nat) : 1 ≤ m g 19 3 ∧ m g 19 3 ≤ 3 := by
  have h1 := h.1.1 g 19 3 (jq_of rfl)
  unfold jl jh at h1
  rw [(jf_at (show (3 : Int) ≤ 3 ∧ (3 : Int) ≤ 3 by omega) 0 (jb 19) rfl rfl)] at h1
  exact h1
theorem w19_3 (h : J m0 B m) (hm : m1 = z_upd m g 19 3 x) (hx : 1 ≤ x ∧ x ≤ 3) : J m0 B m1 := h.upd hm (by unfold jl jh; rw [(jf_at (show (3 : Int) ≤ 3 ∧ (3 : Int) ≤ 3 by omega) 0 (jb 19) rfl rfl)]; exact hx) rfl (.inl rfl)
theorem r19_4 (h : J m0 B m) (g : Nat) : 4 ≤ m g 19 4 ∧ m g 19 4 ≤ 16 := by
  have h1 := h.1.1 g 19 4 (jq_of rfl)
  unfold jl jh at h1
  rw [(jf_at (show (4 : Int) ≤ 4 ∧ (4 : Int) ≤ 4 by omega) 1 (jb 19) rfl rfl)] at h1
  exact h1
theorem w19_4 (h : J m0 B m) (hm : m1 = z_upd m g 19 4 x) (hx : 4 ≤ x ∧ x ≤ 16) : J m0 B m1 := h.upd hm (by unfold jl jh; rw [(jf_at (show (4 : Int) ≤ 4 ∧ (4 : Int) ≤ 4 by omega) 1 (jb 19) rfl rfl)]; exact hx) rfl (.inl rfl)
theorem r19_5 (h : J m0 B m) (g : Nat) : 0 ≤ m g 19 5 ∧ m g 19 5 ≤ 47 := by
  have h1 := h.1.1 g 19 5 (jq_of rfl)
  unfold jl jh at h1
  rw [(jf_at (show (5 : Int) ≤ 5 ∧ (5 : Int) ≤ 5 by omega) 2 (jb 19) rfl rfl)] at h1
  exact h1
theorem w19_5 (h : J m0 B m) (hm : m1 = z_upd m g 19 5 x) (hx : 0 ≤ x ∧ x ≤ 47) : J m0 B m1 := h.upd hm (by unfold jl jh; rw [(jf_at (show (5 : Int) ≤ 5 ∧ (5 : Int) ≤ 5 by omega) 2 (jb 19) rfl rfl)]; exact hx) rfl (.inl rfl)
theorem w19_6 (h : J m0 B m) (hm : m1 = z_upd m g 19 6 x) (hx : -9223372036854775808 ≤ x ∧ x ≤ 9223372036854775807) : J m0 B m1 := h.upd hm (by unfold jl jh; rw [(jf_no (show (6 : Int) ≤ 6 ∧ (6 : Int) ≤ 6 by omega) (jb 19) rfl)]; exact hx) rfl (.inl rfl)
theorem r20_0 (h : J m0 B m) (g : Nat) (hi : 0 ≤ i ∧ i ≤ 47) : (-500) ≤ m g 20 i ∧ m g 20 i ≤ 500 := by
  have h1 := h.1.1 g 20 i (jq_of rfl)
  unfold jl jh at h1
  rw [(jf_at hi 0 (jb 20) rfl rfl)] at h1
  exact h1
theorem w20_0 (h : J m0 B m) (hm : m1 = z_upd m g 20 i x) (hi : 0 ≤ i ∧ i ≤ 47) (hx : (-500) ≤ x ∧ x ≤ 500) : J m0 B m1 := h.upd hm (by unfold jl jh; rw [(jf_at hi 0 (jb 20) rfl rfl)]; exact hx) rfl (.inl rfl)
theorem r21_0 (h : J m0 B m) (g : Nat) (hi : 0 ≤ i ∧ i ≤ 47) : (-500) ≤ m g 21 i ∧ m g 21 i ≤ 500 := by
  have h1 := h.1.1 g 21 i (jq_of rfl)
  unfold jl jh at h1
  rw [(jf_at hi 0 (jb 21) rfl rfl)] at h1
  exact h1
theorem w21_0 (h : J m0 B m) (hm : m1 = z_upd m g 21 i x) (hi : 0 ≤ i ∧ i ≤ 47) (hx : (-500) ≤ x ∧ x ≤ 500) : J m0 B m1 := h.upd hm (by unfold jl jh; rw [(jf_at hi 0 (jb 21) rfl rfl)]; exact hx) rfl (.inl rfl)
theorem w22_0 (h : J m0 B m) (hm : m1 = z_upd m g 22 i x) (hi : 0 ≤ i ∧ i ≤ 15) (hx : -9223372036854775808 ≤ x ∧ x ≤ 9223372036854775807) : J m0 B m1 := h.upd hm (by unfold jl jh; rw [(jf_no hi (jb 22) rfl)]; exact hx) rfl (.inl rfl)
theorem w23_0 (h : J m0 B m) (hm : m1 = z_upd m g 23 i x) (hi : 0 ≤ i ∧ i ≤ 2) (hx : -9223372036854775808 ≤ x ∧ x ≤ 9223372036854775807) : J m0 B m1 := h.upd hm (by unfold jl jh; rw [(jf_no hi (jb 23) rfl)]; exact hx) (by unfold jt; simp; try omega) (.inl rfl)
theorem r23_3 (h : J m0 B m) (g : Nat) : 0 ≤ m g 23 3 ∧ m g 23 3 ≤ B := by
  have h1 := h.1.1 g 23 3 (jq_of rfl)
  unfold jl jh at h1
  rw [(jf_at (show (3 : Int) ≤ 3 ∧ (3 : Int) ≤ 3 by omega) 0 (jb 23) rfl rfl)] at h1
  exact h1
theorem w24_0 (h : J m0 B m) (hm : m1 = z_upd m g 24 i x) (hi : 0 ≤ i ∧ i ≤ 27) (hx : -9223372036854775808 ≤ x ∧ x ≤ 9223372036854775807) : J m0 B m1 := h.upd hm (by unfold jl jh; rw [(jf_no hi (jb 24) rfl)]; exact hx) rfl (.inl rfl)
theorem w25_0 (h : J m0 B m) (hm : m1 = z_upd m g 25 i x) (hi : 0 ≤ i ∧ i ≤ 27) (hx : -9223372036854775808 ≤ x ∧ x ≤ 9223372036854775807) : J m0 B m1 := h.upd hm (by unfold jl jh; rw [(jf_no hi (jb 25) rfl)]; exact hx) rfl (.inl rfl)
theorem w26_0 (h : J m0 B m) (hm : m1 = z_upd m g 26 i x) (hi : 0 ≤ i ∧ i ≤ 197) (hx : -9223372036854775808 ≤ x ∧ x ≤ 9223372036854775807) : J m0 B m1 := h.upd hm (by unfold jl jh; rw [(jf_no hi (jb 26) rfl)]; exact hx) rfl (.inl rfl)
theorem w27_0 (h : J m0 B m) (hm : m1 = z_upd m g 27 i x) (hi : 0 ≤ i ∧ i ≤ 1) (hx : -9223372036854775808 ≤ x ∧ x ≤ 9223372036854775807) : J m0 B m1 := h.upd hm (by unfold jl jh; rw [(jf_no hi (jb 27) rfl)]; exact hx) rfl (.inl rfl)
theorem r27_2 (h : J m0 B m) (g : Nat) : 0 ≤ m g 27 2 ∧ m g 27 2 ≤ B := by
  have h1 := h.1.1 g 27 2 (jq_of rfl)
  unfold jl jh at h1
  rw [(jf_at (show (2 : Int) ≤ 2 ∧ (2 : Int) ≤ 2 by omega) 0 (jb 27) rfl rfl)] at h1
  exact h1
theorem w27_2 (h : J m0 B m) (hm : m1 = z_upd m g 27 2 x) (hx : 0 ≤ x ∧ x ≤ B) : J m0 B m1 := h.upd hm (by unfold jl jh; rw [(jf_at (show (2 : Int) ≤ 2 ∧ (2 : Int) ≤ 2 by omega) 0 (jb 27) rfl rfl)]; exact hx) rfl (.inl rfl)
theorem w27_3 (h : J m0 B m) (hm : m1 = z_upd m g 27 i x) (hi : 3 ≤ i ∧ i ≤ 8) (hx : -9223372036854775808 ≤ x ∧ x ≤ 9223372036854775807) : J m0 B m1 := h.upd hm (by unfold jl jh; rw [(jf_no hi (jb 27) rfl)]; exact hx) rfl (.inl rfl)
theorem r27_9 (h : J m0 B m) (g : Nat) : 0 ≤ m g 27 9 ∧ m g 27 9 ≤ 2000000000 := by
  have h1 := h.1.1 g 27 9 (jq_of rfl)
  unfold jl jh at h1
  rw [(jf_at (show (9 : Int) ≤ 9 ∧ (9 : Int) ≤ 9 by omega) 1 (jb 27) rfl rfl)] at h1
  exact h1
theorem w27_9 (h : J m0 B m) (hm : m1 = z_upd m g 27 9 x) (hx : 0 ≤ x ∧ x ≤ 2000000000) : J m0 B m1 := h.upd hm (by unfold jl jh; rw [(jf_at (show (9 : Int) ≤ 9 ∧ (9 : Int) ≤ 9 by omega) 1 (jb 27) rfl rfl)]; exact hx) rfl (.inl rfl)
theorem w28_0 (h : J m0 B m) (hm : m1 = z_upd m g 28 i x) (hi : 0 ≤ i ∧ i ≤ 383) (hx : -9223372036854775808 ≤ x ∧ x ≤ 9223372036854775807) : J m0 B m1 := h.upd hm (by unfold jl jh; rw [(jf_no hi (jb 28) rfl)]; exact hx) rfl (.inl rfl)
theorem w29_0 (h : J m0 B m) (hm : m1 = z_upd m g 29 i x) (hi : 0 ≤ i ∧ i ≤ 3) (hx : -9223372036854775808 ≤ x ∧ x ≤ 9223372036854775807) : J m0 B m1 := h.upd hm (by unfold jl jh; rw [(jf_no hi (jb 29) rfl)]; exact hx) rfl (.inl rfl)
theorem w30_0 (h : J m0 B m) (hm : m1 = z_upd m g 30 i x) (hi : 0 ≤ i ∧ i ≤ 3) (hx : -9223372036854775808 ≤ x ∧ x ≤ 9223372036854775807) : J m0 B m1 := h.upd hm (by unfold jl jh; rw [(jf_no hi (jb 30) rfl)]; exact hx) rfl (.inl rfl)
theorem w31_0 (h : J m0 B m) (hm : m1 = z_upd m g 31 i x) (hi : 0 ≤ i ∧ i ≤ 3) (hx : -9223372036854775808 ≤ x ∧ x ≤ 9223372036854775807) : J m0 B m1 := h.upd hm (by unfold jl jh; rw [(jf_no hi (jb 31) rfl)]; exact hx) rfl (.inl rfl)
theorem w32_0 (h : J m0 B m) (hm : m1 = z_upd m g 32 i x) (hi : 0 ≤ i ∧ i ≤ 3) (hx : -9223372036854775808 ≤ x ∧ x ≤ 9223372036854775807) : J m0 B m1 := h.upd hm (by unfold jl jh; rw [(jf_no hi (jb 32) rfl)]; exact hx) rfl (.inl rfl)
theorem w33_0 (h : J m0 B m) (hm : m1 = z_upd m g 33 i x) (hi : 0 ≤ i ∧ i ≤ 3) (hx : -9223372036854775808 ≤ x ∧ x ≤ 9223372036854775807) : J m0 B m1 := h.upd hm (by unfold jl jh; rw [(jf_no hi (jb 33) rfl)]; exact hx) rfl (.inl rfl)
theorem w34_0 (h : J m0 B m) (hm : m1 = z_upd m g 34 i x) (hi : 0 ≤ i ∧ i ≤ 4) (hx : -9223372036854775808 ≤ x ∧ x ≤ 9223372036854775807) : J m0 B m1 := h.upd hm (by unfold jl jh; rw [(jf_no hi (jb 34) rfl)]; exact hx) rfl (.inl rfl)
theorem w35_0 (h : J m0 B m) (hm : m1 = z_upd m g 35 i x) (hi : 0 ≤ i ∧ i ≤ 4) (hx : -9223372036854775808 ≤ x ∧ x ≤ 9223372036854775807) : J m0 B m1 := h.upd hm (by unfold jl jh; rw [(jf_no hi (jb 35) rfl)]; exact hx) rfl (.inl rfl)
theorem w36_0 (h : J m0 B m) (hm : m1 = z_upd m g 36 i x) (hi : 0 ≤ i ∧ i ≤ 4) (hx : -9223372036854775808 ≤ x ∧ x ≤ 9223372036854775807) : J m0 B m1 := h.upd hm (by unfold jl jh; rw [(jf_no hi (jb 36) rfl)]; exact hx) rfl (.inl rfl)
theorem w37_0 (h : J m0 B m) (hm : m1 = z_upd m g 37 0 x) (hx : -9223372036854775808 ≤ x ∧ x ≤ 9223372036854775807) : J m0 B m1 := h.upd hm (by unfold jl jh; rw [(jf_no (show (0 : Int) ≤ 0 ∧ (0 : Int) ≤ 0 by omega) (jb 37) rfl)]; exact hx) rfl (.inl rfl)
theorem r37_1 (h : J m0 B m) (g : Nat) : 0 ≤ m g 37 1 ∧ m g 37 1 ≤ B := by
  have h1 := h.1.1 g 37 1 (jq_of rfl)
  unfold jl jh at h1
  rw [(jf_at (show (1 : Int) ≤ 1 ∧ (1 : Int) ≤ 1 by omega) 0 (jb 37) rfl rfl)] at h1
  exact h1
theorem w37_1 (h : J m0 B m) (hm : m1 = z_upd m g 37 1 x) (hx : 0 ≤ x ∧ x ≤ B) : J m0 B m1 := h.upd hm (by unfold jl jh; rw [(jf_at (show (1 : Int) ≤ 1 ∧ (1 : Int) ≤ 1 by omega) 0 (jb 37) rfl rfl)]; exact hx) rfl (.inl rfl)
theorem w38_0 (h : J m0 B m) (hm : m1 = z_upd m g 38 i x) (hi : 0 ≤ i ∧ i ≤ 119) (hx : -9223372036854775808 ≤ x ∧ x ≤ 9223372036854775807) : J m0 B m1 := h.upd hm (by unfold jl jh; rw [(jf_no hi (jb 38) rfl)]; exact hx) rfl (.inl rfl)
theorem r39_0 (h : J m0 B m) (g : Nat) : 0 ≤ m g 39 0 ∧ m g 39 0 ≤ 1 := by
  have h1 := h.1.1 g 39 0 (jq_of rfl)
  unfold jl jh at h1
  rw [(jf_at (show (0 : Int) ≤ 0 ∧ (0 : Int) ≤ 0 by omega) 0 (jb 39) rfl rfl)] at h1
  exact h1
theorem w39_0 (h : J m0 B m) (hm : m1 = z_upd m g 39 0 x) (hx : 0 ≤ x ∧ x ≤ 1) : J m0 B m1 := h.upd hm (by unfold jl jh; rw [(jf_at (show (0 : Int) ≤ 0 ∧ (0 : Int) ≤ 0 by omega) 0 (jb 39) rfl rfl)]; exact hx) rfl (.inl rfl)
theorem w39_1 (h : J m0 B m) (hm : m1 = z_upd m g 39 i x) (hi : 1 ≤ i ∧ i ≤ 4) (hx : -9223372036854775808 ≤ x ∧ x ≤ 9223372036854775807) : J m0 B m1 := h.upd hm (by unfold jl jh; rw [(jf_no hi (jb 39) rfl)]; exact hx) rfl (.inl rfl)
theorem w40_0 (h : J m0 B m) (hm : m1 = z_upd m g 40 i x) (hi : 0 ≤ i ∧ i ≤ 3) (hx : -9223372036854775808 ≤ x ∧ x ≤ 9223372036854775807) : J m0 B m1 := h.upd hm (by unfold jl jh; rw [(jf_no hi (jb 40) rfl)]; exact hx) (by unfold jt; simp; try omega) (.inl rfl)
theorem r40_4 (h : J m0 B m) (g : Nat) : 0 ≤ m g 40 4 ∧ m g 40 4 ≤ 1 := by
  have h1 := h.1.1 g 40 4 (jq_of rfl)
  unfold jl jh at h1
  rw [(jf_at (show (4 : Int) ≤ 4 ∧ (4 : Int) ≤ 4 by omega) 0 (jb 40) rfl rfl)] at h1
  exact h1
theorem w41_0 (h : J m0 B m) (hm : m1 = z_upd m g 41 i x) (hi : 0 ≤ i ∧ i ≤ 2) (hx : -9223372036854775808 ≤ x ∧ x ≤ 9223372036854775807) : J m0 B m1 := h.upd hm (by unfold jl jh; rw [(jf_no hi (jb 41) rfl)]; exact hx) (by unfold jt; simp; try omega) (.inl rfl)
theorem r41_3 (h : J m0 B m) (g : Nat) : 0 ≤ m g 41 3 ∧ m g 41 3 ≤ 300 := by
  have h1 := h.1.1 g 41 3 (jq_of rfl)
  unfold jl jh at h1
  rw [(jf_at (show (3 : Int) ≤ 3 ∧ (3 : Int) ≤ 3 by omega) 0 (jb 41) rfl rfl)] at h1
  exact h1
theorem w41_4 (h : J m0 B m) (hm : m1 = z_upd m g 41 i x) (hi : 4 ≤ i ∧ i ≤ 5) (hx : -9223372036854775808 ≤ x ∧ x ≤ 9223372036854775807) : J m0 B m1 := h.upd hm (by unfold jl jh; rw [(jf_no hi (jb 41) rfl)]; exact hx) (by unfold jt; simp; try omega) (.inl rfl)
theorem r41_6 (h : J m0 B m) (g : Nat) : 0 ≤ m g 41 6 ∧ m g 41 6 ≤ 1 := by
  have h1 := h.1.1 g 41 6 (jq_of rfl)
  unfold jl jh at h1
  rw [(jf_at (show (6 : Int) ≤ 6 ∧ (6 : Int) ≤ 6 by omega) 1 (jb 41) rfl rfl)] at h1
  exact h1
theorem w41_6 (h : J m0 B m) (hm : m1 = z_upd m g 41 6 x) (hx : 0 ≤ x ∧ x ≤ 1) : J m0 B m1 := h.upd hm (by unfold jl jh; rw [(jf_at (show (6 : Int) ≤ 6 ∧ (6 : Int) ≤ 6 by omega) 1 (jb 41) rfl rfl)]; exact hx) (by unfold jt; simp; try omega) (.inl rfl)
theorem r41_7 (h : J m0 B m) (g : Nat) : 0 ≤ m g 41 7 ∧ m g 41 7 ≤ 300 := by
  have h1 := h.1.1 g 41 7 (jq_of rfl)
  unfold jl jh at h1
  rw [(jf_at (show (7 : Int) ≤ 7 ∧ (7 : Int) ≤ 7 by omega) 2 (jb 41) rfl rfl)] at h1
  exact h1
theorem w41_7 (h : J m0 B m) (hm : m1 = z_upd m g 41 7 x) (hx : 0 ≤ x ∧ x ≤ 300) : J m0 B m1 := h.upd hm (by unfold jl jh; rw [(jf_at (show (7 : Int) ≤ 7 ∧ (7 : Int) ≤ 7 by omega) 2 (jb 41) rfl rfl)]; exact hx) (by unfold jt; simp; try omega) (.inl rfl)
theorem w41_8 (h : J m0 B m) (hm : m1 = z_upd m g 41 i x) (hi : 8 ≤ i ∧ i ≤ 10) (hx : -9223372036854775808 ≤ x ∧ x ≤ 9223372036854775807) : J m0 B m1 := h.upd hm (by unfold jl jh; rw [(jf_no hi (jb 41) rfl)]; exact hx) (by unfold jt; simp; try omega) (.inl rfl)
theorem r42_0 (h : J m0 B m) (g : Nat) (hi : 0 ≤ i ∧ i ≤ 299) : 0 ≤ m g 42 i ∧ m g 42 i ≤ 255 := by
  have h1 := h.1.1 g 42 i (jq_of rfl)
  unfold jl jh at h1
  rw [(jf_at hi 0 (jb 42) rfl rfl)] at h1
  exact h1
theorem w42_0 (h : J m0 B m) (hm : m1 = z_upd m g 42 i x) (hi : 0 ≤ i ∧ i ≤ 299) (hx : 0 ≤ x ∧ x ≤ 255) : J m0 B m1 := h.upd hm (by unfold jl jh; rw [(jf_at hi 0 (jb 42) rfl rfl)]; exact hx) rfl (.inl rfl)
theorem r43_0 (h : J m0 B m) (g : Nat) (hi : 0 ≤ i ∧ i ≤ 3) : 0 ≤ m g 43 i ∧ m g 43 i ≤ 100 := by
  have h1 := h.1.1 g 43 i (jq_of rfl)
  unfold jl jh at h1
  rw [(jf_at hi 0 (jb 43) rfl rfl)] at h1
  exact h1
theorem w43_0 (h : J m0 B m) (hm : m1 = z_upd m g 43 i x) (hi : 0 ≤ i ∧ i ≤ 3) (hx : 0 ≤ x ∧ x ≤ 100) : J m0 B m1 := h.upd hm (by unfold jl jh; rw [(jf_at hi 0 (jb 43) rfl rfl)]; exact hx) rfl (.inl rfl)
theorem w44_0 (h : J m0 B m) (hm : m1 = z_upd m g 44 i x) (hi : 0 ≤ i ∧ i ≤ 2) (hx : -9223372036854775808 ≤ x ∧ x ≤ 9223372036854775807) : J m0 B m1 := h.upd hm (by unfold jl jh; rw [(jf_no hi (jb 44) rfl)]; exact hx) (by unfold jt; simp; try omega) (.inl (by unfold jn; simp; omega))
theorem r44_3 (h : J m0 B m) (g : Nat) : 0 ≤ m g 44 3 ∧ m g 44 3 ≤ 1 := by
  have h1 := h.1.1 g 44 3 (jq_of rfl)
  unfold jl jh at h1
  rw [(jf_at (show (3 : Int) ≤ 3 ∧ (3 : Int) ≤ 3 by omega) 0 (jb 44) rfl rfl)] at h1
  exact h1
theorem w44_4 (h : J m0 B m) (hm : m1 = z_upd m g 44 4 x) (hx : -9223372036854775808 ≤ x ∧ x ≤ 9223372036854775807) : J m0 B m1 := h.upd hm (by unfold jl jh; rw [(jf_no (show (4 : Int) ≤ 4 ∧ (4 : Int) ≤ 4 by omega) (jb 44) rfl)]; exact hx) (by unfold jt; simp; try omega) (.inl rfl)
theorem r44_5 (h : J m0 B m) (g : Nat) : 0 ≤ m g 44 5 ∧ m g 44 5 ≤ 300 := by
  have h1 := h.1.1 g 44 5 (jq_of rfl)
  unfold jl jh at h1
  rw [(jf_at (show (5 : Int) ≤ 5 ∧ (5 : Int) ≤ 5 by omega) 1 (jb 44) rfl rfl)] at h1
  exact h1
theorem w44_6 (h : J m0 B m) (hm : m1 = z_upd m g 44 i x) (hi : 6 ≤ i ∧ i ≤ 7) (hx : -9223372036854775808 ≤ x ∧ x ≤ 9223372036854775807) : J m0 B m1 := h.upd hm (by unfold jl jh; rw [(jf_no hi (jb 44) rfl)]; exact hx) (by unfold jt; simp; try omega) (.inl (by unfold jn; simp; omega))
theorem r44_8 (h : J m0 B m) (g : Nat) : 0 ≤ m g 44 8 ∧ m g 44 8 ≤ 300 := by
  have h1 := h.1.1 g 44 8 (jq_of rfl)
  unfold jl jh at h1
  rw [(jf_at (show (8 : Int) ≤ 8 ∧ (8 : Int) ≤ 8 by omega) 2 (jb 44) rfl rfl)] at h1
  exact h1
theorem w44_8 (h : J m0 B m) (hm : m1 = z_upd m g 44 8 x) (hx : 0 ≤ x ∧ x ≤ 300) (hn : m g 44 8 ≤ x) : J m0 B m1 := h.upd hm (by unfold jl jh; rw [(jf_at (show (8 : Int) ≤ 8 ∧ (8 : Int) ≤ 8 by omega) 2 (jb 44) rfl rfl)]; exact hx) (by unfold jt; simp; try omega) (.inr hn)
theorem r44_9 (h : J m0 B m) (g : Nat) : 0 ≤ m g 44 9 ∧ m g 44 9 ≤ 1 := by
  have h1 := h.1.1 g 44 9 (jq_of rfl)
  unfold jl jh at h1
  rw [(jf_at (show (9 : Int) ≤ 9 ∧ (9 : Int) ≤ 9 by omega) 3 (jb 44) rfl rfl)] at h1
  exact h1
theorem w44_9 (h : J m0 B m) (hm : m1 = z_upd m g 44 9 x) (hx : 0 ≤ x ∧ x ≤ 1) (hn : m g 44 9 ≤ x) : J m0 B m1 := h.upd hm (by unfold jl jh; rw [(jf_at (show (9 : Int) ≤ 9 ∧ (9 : Int) ≤ 9 by omega) 3 (jb 44) rfl rfl)]; exact hx) (by unfold jt; simp; try omega) (.inr hn)
theorem w44_10 (h : J m0 B m) (hm : m1 = z_upd m g 44 i x) (hi : 10 ≤ i ∧ i ≤ 13) (hx : -9223372036854775808 ≤ x ∧ x ≤ 9223372036854775807) : J m0 B m1 := h.upd hm (by unfold jl jh; rw [(jf_no hi (jb 44) rfl)]; exact hx) (by unfold jt; simp; try omega) (.inl (by unfold jn; simp; omega))
theorem r44_14 (h : J m0 B m) (g : Nat) : 0 ≤ m g 44 14 ∧ m g 44 14 ≤ 1 := by
  have h1 := h.1.1 g 44 14 (jq_of rfl)
  unfold jl jh at h1
  rw [(jf_at (show (14 : Int) ≤ 14 ∧ (14 : Int) ≤ 14 by omega) 4 (jb 44) rfl rfl)] at h1
  exact h1
theorem w44_14 (h : J m0 B m) (hm : m1 = z_upd m g 44 14 x) (hx : 0 ≤ x ∧ x ≤ 1) : J m0 B m1 := h.upd hm (by unfold jl jh; rw [(jf_at (show (14 : Int) ≤ 14 ∧ (14 : Int) ≤ 14 by omega) 4 (jb 44) rfl rfl)]; exact hx) (by unfold jt; simp; try omega) (.inl rfl)
theorem r45_0 (h : J m0 B m) (g : Nat) : 0 ≤ m g 45 0 ∧ m g 45 0 ≤ 2000000000 := by
  have h1 := h.1.1 g 45 0 (jq_of rfl)
  unfold jl jh at h1
  rw [(jf_at (show (0 : Int) ≤ 0 ∧ (0 : Int) ≤ 0 by omega) 0 (jb 45) rfl rfl)] at h1
  exact h1
theorem w45_0 (h : J m0 B m) (hm : m1 = z_upd m g 45 0 x) (hx : 0 ≤ x ∧ x ≤ 2000000000) : J m0 B m1 := h.upd hm (by unfold jl jh; rw [(jf_at (show (0 : Int) ≤ 0 ∧ (0 : Int) ≤ 0 by omega) 0 (jb 45) rfl rfl)]; exact hx) (by unfold jt; simp; try omega) (.inl rfl)
theorem r45_1 (h : J m0 B m) (g : Nat) : 1 ≤ m g 45 1 ∧ m g 45 1 ≤ 3 := by
  have h1 := h.1.1 g 45 1 (jq_of rfl)
  unfold jl jh at h1
  rw [(jf_at (show (1 : Int) ≤ 1 ∧ (1 : Int) ≤ 1 by omega) 1 (jb 45) rfl rfl)] at h1
  exact h1
theorem w45_1 (h : J m0 B m) (hm : m1 = z_upd m g 45 1 x) (hx : 1 ≤ x ∧ x ≤ 3) : J m0 B m1 := h.upd hm (by unfold jl jh; rw [(jf_at (show (1 : Int) ≤ 1 ∧ (1 : Int) ≤ 1 by omega) 1 (jb 45) rfl rfl)]; exact hx) (by unfold jt; simp; try omega) (.inl rfl)
theorem r45_2 (h : J m0 B m) (g : Nat) : 4 ≤ m g 45 2 ∧ m g 45 2 ≤ 16 := by
  have h1 := h.1.1 g 45 2 (jq_of rfl)
  unfold jl jh at h1
  rw [(jf_at (show (2 : Int) ≤ 2 ∧ (2 : Int) ≤ 2 by omega) 2 (jb 45) rfl rfl)] at h1
  exact h1
theorem w45_2 (h : J m0 B m) (hm : m1 = z_upd m g 45 2 x) (hx : 4 ≤ x ∧ x ≤ 16) : J m0 B m1 := h.upd hm (by unfold jl jh; rw [(jf_at (show (2 : Int) ≤ 2 ∧ (2 : Int) ≤ 2 by omega) 2 (jb 45) rfl rfl)]; exact hx) (by unfold jt; simp; try omega) (.inl rfl)
theorem r45_3 (h : J m0 B m) (g : Nat) : 0 ≤ m g 45 3 ∧ m g 45 3 ≤ 47 := by
  have h1 := h.1.1 g 45 3 (jq_of rfl)
  unfold jl jh at h1
  rw [(jf_at (show (3 : Int) ≤ 3 ∧ (3 : Int) ≤ 3 by omega) 3 (jb 45) rfl rfl)] at h1
  exact h1
theorem w45_3 (h : J m0 B m) (hm : m1 = z_upd m g 45 3 x) (hx : 0 ≤ x ∧ x ≤ 47) : J m0 B m1 := h.upd hm (by unfold jl jh; rw [(jf_at (show (3 : Int) ≤ 3 ∧ (3 : Int) ≤ 3 by omega) 3 (jb 45) rfl rfl)]; exact hx) (by unfold jt; simp; try omega) (.inl rfl)
theorem w45_4 (h : J m0 B m) (hm : m1 = z_upd m g 45 4 x) (hx : -9223372036854775808 ≤ x ∧ x ≤ 9223372036854775807) : J m0 B m1 := h.upd hm (by unfold jl jh; rw [(jf_no (show (4 : Int) ≤ 4 ∧ (4 : Int) ≤ 4 by omega) (jb 45) rfl)]; exact hx) (by unfold jt; simp; try omega) (.inl rfl)
theorem r45_5 (h : J m0 B m) (g : Nat) : 1 ≤ m g 45 5 ∧ m g 45 5 ≤ 1000000 := by
  have h1 := h.1.1 g 45 5 (jq_of rfl)
  unfold jl jh at h1
  rw [(jf_at (show (5 : Int) ≤ 5 ∧ (5 : Int) ≤ 5 by omega) 4 (jb 45) rfl rfl)] at h1
  exact h1
theorem w45_5 (h : J m0 B m) (hm : m1 = z_upd m g 45 5 x) (hx : 1 ≤ x ∧ x ≤ 1000000) : J m0 B m1 := h.upd hm (by unfold jl jh; rw [(jf_at (show (5 : Int) ≤ 5 ∧ (5 : Int) ≤ 5 by omega) 4 (jb 45) rfl rfl)]; exact hx) (by unfold jt; simp; try omega) (.inl rfl)
theorem w45_6 (h : J m0 B m) (hm : m1 = z_upd m g 45 i x) (hi : 6 ≤ i ∧ i ≤ 7) (hx : -9223372036854775808 ≤ x ∧ x ≤ 9223372036854775807) : J m0 B m1 := h.upd hm (by unfold jl jh; rw [(jf_no hi (jb 45) rfl)]; exact hx) (by unfold jt; simp; try omega) (.inl rfl)
theorem r45_8 (h : J m0 B m) (g : Nat) : 1 ≤ m g 45 8 ∧ m g 45 8 ≤ 3600 := by
  have h1 := h.1.1 g 45 8 (jq_of rfl)
  unfold jl jh at h1
  rw [(jf_at (show (8 : Int) ≤ 8 ∧ (8 : Int) ≤ 8 by omega) 5 (jb 45) rfl rfl)] at h1
  exact h1
theorem w45_8 (h : J m0 B m) (hm : m1 = z_upd m g 45 8 x) (hx : 1 ≤ x ∧ x ≤ 3600) : J m0 B m1 := h.upd hm (by unfold jl jh; rw [(jf_at (show (8 : Int) ≤ 8 ∧ (8 : Int) ≤ 8 by omega) 5 (jb 45) rfl rfl)]; exact hx) (by unfold jt; simp; try omega) (.inl rfl)
theorem r45_9 (h : J m0 B m) (g : Nat) : 1 ≤ m g 45 9 ∧ m g 45 9 ≤ 6 := by
  have h1 := h.1.1 g 45 9 (jq_of rfl)
  unfold jl jh at h1
  rw [(jf_at (show (9 : Int) ≤ 9 ∧ (9 : Int) ≤ 9 by omega) 6 (jb 45) rfl rfl)] at h1
  exact h1
theorem w45_9 (h : J m0 B m) (hm : m1 = z_upd m g 45 9 x) (hx : 1 ≤ x ∧ x ≤ 6) : J m0 B m1 := h.upd hm (by unfold jl jh; rw [(jf_at (show (9 : Int) ≤ 9 ∧ (9 : Int) ≤ 9 by omega) 6 (jb 45) rfl rfl)]; exact hx) (by unfold jt; simp; try omega) (.inl rfl)
theorem w45_10 (h : J m0 B m) (hm : m1 = z_upd m g 45 10 x) (hx : -9223372036854775808 ≤ x ∧ x ≤ 9223372036854775807) : J m0 B m1 := h.upd hm (by unfold jl jh; rw [(jf_no (show (10 : Int) ≤ 10 ∧ (10 : Int) ≤ 10 by omega) (jb 45) rfl)]; exact hx) (by unfold jt; simp; try omega) (.inl rfl)
theorem r45_11 (h : J m0 B m) (g : Nat) : 0 ≤ m g 45 11 ∧ m g 45 11 ≤ 1 := by
  have h1 := h.1.1 g 45 11 (jq_of rfl)
  unfold jl jh at h1
  rw [(jf_at (show (11 : Int) ≤ 11 ∧ (11 : Int) ≤ 11 by omega) 7 (jb 45) rfl rfl)] at h1
  exact h1
theorem r45_12 (h : J m0 B m) (g : Nat) : 0 ≤ m g 45 12 ∧ m g 45 12 ≤ 1 := by
  have h1 := h.1.1 g 45 12 (jq_of rfl)
  unfold jl jh at h1
  rw [(jf_at (show (12 : Int) ≤ 12 ∧ (12 : Int) ≤ 12 by omega) 8 (jb 45) rfl rfl)] at h1
  exact h1
theorem w45_12 (h : J m0 B m) (hm : m1 = z_upd m g 45 12 x) (hx : 0 ≤ x ∧ x ≤ 1) : J m0 B m1 := h.upd hm (by unfold jl jh; rw [(jf_at (show (12 : Int) ≤ 12 ∧ (12 : Int) ≤ 12 by omega) 8 (jb 45) rfl rfl)]; exact hx) (by unfold jt; simp; try omega) (.inl rfl)
theorem w45_13 (h : J m0 B m) (hm : m1 = z_upd m g 45 i x) (hi : 13 ≤ i ∧ i ≤ 15) (hx : -9223372036854775808 ≤ x ∧ x ≤ 9223372036854775807) : J m0 B m1 := h.upd hm (by unfold jl jh; rw [(jf_no hi (jb 45) rfl)]; exact hx) (by unfold jt; simp; try omega) (.inl rfl)
theorem r45_16 (h : J m0 B m) (g : Nat) : 0 ≤ m g 45 16 ∧ m g 45 16 ≤ B := by
  have h1 := h.1.1 g 45 16 (jq_of rfl)
  unfold jl jh at h1
  rw [(jf_at (show (16 : Int) ≤ 16 ∧ (16 : Int) ≤ 16 by omega) 9 (jb 45) rfl rfl)] at h1
  exact h1
theorem w45_16 (h : J m0 B m) (hm : m1 = z_upd m g 45 16 x) (hx : 0 ≤ x ∧ x ≤ B) : J m0 B m1 := h.upd hm (by unfold jl jh; rw [(jf_at (show (16 : Int) ≤ 16 ∧ (16 : Int) ≤ 16 by omega) 9 (jb 45) rfl rfl)]; exact hx) (by unfold jt; simp; try omega) (.inl rfl)
theorem r45_17 (h : J m0 B m) (g : Nat) : 0 ≤ m g 45 17 ∧ m g 45 17 ≤ B := by
  have h1 := h.1.1 g 45 17 (jq_of rfl)
  unfold jl jh at h1
  rw [(jf_at (show (17 : Int) ≤ 17 ∧ (17 : Int) ≤ 17 by omega) 10 (jb 45) rfl rfl)] at h1
  exact h1
theorem w45_17 (h : J m0 B m) (hm : m1 = z_upd m g 45 17 x) (hx : 0 ≤ x ∧ x ≤ B) : J m0 B m1 := h.upd hm (by unfold jl jh; rw [(jf_at (show (17 : Int) ≤ 17 ∧ (17 : Int) ≤ 17 by omega) 10 (jb 45) rfl rfl)]; exact hx) (by unfold jt; simp; try omega) (.inl rfl)
theorem r45_18 (h : J m0 B m) (g : Nat) : 0 ≤ m g 45 18 ∧ m g 45 18 ≤ B := by
  have h1 := h.1.1 g 45 18 (jq_of rfl)
  unfold jl jh at h1
  rw [(jf_at (show (18 : Int) ≤ 18 ∧ (18 : Int) ≤ 18 by omega) 11 (jb 45) rfl rfl)] at h1
  exact h1
theorem w45_19 (h : J m0 B m) (hm : m1 = z_upd m g 45 i x) (hi : 19 ≤ i ∧ i ≤ 286) (hx : -9223372036854775808 ≤ x ∧ x ≤ 9223372036854775807) : J m0 B m1 := h.upd hm (by unfold jl jh; rw [(jf_no hi (jb 45) rfl)]; exact hx) (by unfold jt; simp; try omega) (.inl rfl)
theorem r45_287 (h : J m0 B m) (g : Nat) (hi : 287 ≤ i ∧ i ≤ 294) : 0 ≤ m g 45 i ∧ m g 45 i ≤ 6 := by
  have h1 := h.1.1 g 45 i (jq_of rfl)
  unfold jl jh at h1
  rw [(jf_at hi 12 (jb 45) rfl rfl)] at h1
  exact h1
theorem w45_287 (h : J m0 B m) (hm : m1 = z_upd m g 45 i x) (hi : 287 ≤ i ∧ i ≤ 294) (hx : 0 ≤ x ∧ x ≤ 6) : J m0 B m1 := h.upd hm (by unfold jl jh; rw [(jf_at hi 12 (jb 45) rfl rfl)]; exact hx) (by unfold jt; simp; try omega) (.inl rfl)
theorem r45_295 (h : J m0 B m) (g : Nat) (hi : 295 ≤ i ∧ i ≤ 342) : 0 ≤ m g 45 i ∧ m g 45 i ≤ 86399 := by
  have h1 := h.1.1 g 45 i (jq_of rfl)
  unfold jl jh at h1
  rw [(jf_at hi 13 (jb 45) rfl rfl)] at h1
  exact h1
theorem w45_295 (h : J m0 B m) (hm : m1 = z_upd m g 45 i x) (hi : 295 ≤ i ∧ i ≤ 342) (hx : 0 ≤ x ∧ x ≤ 86399) : J m0 B m1 := h.upd hm (by unfold jl jh; rw [(jf_at hi 13 (jb 45) rfl rfl)]; exact hx) (by unfold jt; simp; try omega) (.inl rfl)
theorem r45_343 (h : J m0 B m) (g : Nat) (hi : 343 ≤ i ∧ i ≤ 390) : 0 ≤ m g 45 i ∧ m g 45 i ≤ 3 := by
  have h1 := h.1.1 g 45 i (jq_of rfl)
  unfold jl jh at h1
  rw [(jf_at hi 14 (jb 45) rfl rfl)] at h1
  exact h1
theorem w45_343 (h : J m0 B m) (hm : m1 = z_upd m g 45 i x) (hi : 343 ≤ i ∧ i ≤ 390) (hx : 0 ≤ x ∧ x ≤ 3) : J m0 B m1 := h.upd hm (by unfold jl jh; rw [(jf_at hi 14 (jb 45) rfl rfl)]; exact hx) (by unfold jt; simp; try omega) (.inl rfl)
theorem r45_391 (h : J m0 B m) (g : Nat) (hi : 391 ≤ i ∧ i ≤ 394) : (-1) ≤ m g 45 i ∧ m g 45 i ≤ 364 := by
  have h1 := h.1.1 g 45 i (jq_of rfl)
  unfold jl jh at h1
  rw [(jf_at hi 15 (jb 45) rfl rfl)] at h1
  exact h1
theorem w45_391 (h : J m0 B m) (hm : m1 = z_upd m g 45 i x) (hi : 391 ≤ i ∧ i ≤ 394) (hx : (-1) ≤ x ∧ x ≤ 364) : J m0 B m1 := h.upd hm (by unfold jl jh; rw [(jf_at hi 15 (jb 45) rfl rfl)]; exact hx) (by unfold jt; simp; try omega) (.inl rfl)
theorem r45_395 (h : J m0 B m) (g : Nat) (hi : 395 ≤ i ∧ i ≤ 422) : 0 ≤ m g 45 i ∧ m g 45 i ≤ 7 := by
  have h1 := h.1.1 g 45 i (jq_of rfl)
  unfold jl jh at h1
  rw [(jf_at hi 16 (jb 45) rfl rfl)] at h1
  exact h1
theorem w45_395 (h : J m0 B m) (hm : m1 = z_upd m g 45 i x) (hi : 395 ≤ i ∧ i ≤ 422) (hx : 0 ≤ x ∧ x ≤ 7) : J m0 B m1 := h.upd hm (by unfold jl jh; rw [(jf_at hi 16 (jb 45) rfl rfl)]; exact hx) (by unfold jt; simp; try omega) (.inl rfl)
theorem r45_423 (h : J m0 B m) (g : Nat) (hi : 423 ≤ i ∧ i ≤ 787) : (-1) ≤ m g 45 i ∧ m g 45 i ≤ 7 := by
  have h1 := h.1.1 g 45 i (jq_of rfl)
  unfold jl jh at h1
  rw [(jf_at hi 17 (jb 45) rfl rfl)] at h1
  exact h1
theorem w45_423 (h : J m0 B m) (hm : m1 = z_upd m g 45 i x) (hi : 423 ≤ i ∧ i ≤ 787) (hx : (-1) ≤ x ∧ x ≤ 7) : J m0 B m1 := h.upd hm (by unfold jl jh; rw [(jf_at hi 17 (jb 45) rfl rfl)]; exact hx) (by unfold jt; simp; try omega) (.inl rfl)
theorem w45_788 (h : J m0 B m) (hm : m1 = z_upd m g 45 i x) (hi : 788 ≤ i ∧ i ≤ 1613) (hx : -9223372036854775808 ≤ x ∧ x ≤ 9223372036854775807) : J m0 B m1 := h.upd hm (by unfold jl jh; rw [(jf_no hi (jb 45) rfl)]; exact hx) (by unfold jt; simp; try omega) (.inl rfl)
theorem r45_1614 (h : J m0 B m) (g : Nat) : 0 ≤ m g 45 1614 ∧ m g 45 1614 ≤ 1 := by
  have h1 := h.1.1 g 45 1614 (jq_of rfl)
  unfold jl jh at h1
  rw [(jf_at (show (1614 : Int) ≤ 1614 ∧ (1614 : Int) ≤ 1614 by omega) 18 (jb 45) rfl rfl)] at h1
  exact h1
theorem w45_1614 (h : J m0 B m) (hm : m1 = z_upd m g 45 1614 x) (hx : 0 ≤ x ∧ x ≤ 1) : J m0 B m1 := h.upd hm (by unfold jl jh; rw [(jf_at (show (1614 : Int) ≤ 1614 ∧ (1614 : Int) ≤ 1614 by omega) 18 (jb 45) rfl rfl)]; exact hx) (by unfold jt; simp; try omega) (.inl rfl)
theorem w45_1615 (h : J m0 B m) (hm : m1 = z_upd m g 45 i x) (hi : 1615 ≤ i ∧ i ≤ 1618) (hx : -9223372036854775808 ≤ x ∧ x ≤ 9223372036854775807) : J m0 B m1 := h.upd hm (by unfold jl jh; rw [(jf_no hi (jb 45) rfl)]; exact hx) (by unfold jt; simp; try omega) (.inl rfl)
theorem w46_0 (h : J m0 B m) (hm : m1 = z_upd m g 46 0 x) (hx : 0 ≤ x ∧ x ≤ 2000000000) : J m0 B m1 := h.upd hm (by unfold jl jh; rw [(jf_at (show (0 : Int) ≤ 0 ∧ (0 : Int) ≤ 0 by omega) 0 (jb 46) rfl rfl)]; exact hx) (by unfold jt; simp; try omega) (.inl rfl)
theorem w46_1 (h : J m0 B m) (hm : m1 = z_upd m g 46 1 x) (hx : 1 ≤ x ∧ x ≤ 3) : J m0 B m1 := h.upd hm (by unfold jl jh; rw [(jf_at (show (1 : Int) ≤ 1 ∧ (1 : Int) ≤ 1 by omega) 1 (jb 46) rfl rfl)]; exact hx) (by unfold jt; simp; try omega) (.inl rfl)
theorem w46_2 (h : J m0 B m) (hm : m1 = z_upd m g 46 2 x) (hx : 4 ≤ x ∧ x ≤ 16) : J m0 B m1 := h.upd hm (by unfold jl jh; rw [(jf_at (show (2 : Int) ≤ 2 ∧ (2 : Int) ≤ 2 by omega) 2 (jb 46) rfl rfl)]; exact hx) (by unfold jt; simp; try omega) (.inl rfl)
theorem w46_3 (h : J m0 B m) (hm : m1 = z_upd m g 46 3 x) (hx : 0 ≤ x ∧ x ≤ 47) : J m0 B m1 := h.upd hm (by unfold jl jh; rw [(jf_at (show (3 : Int) ≤ 3 ∧ (3 : Int) ≤ 3 by omega) 3 (jb 46) rfl rfl)]; exact hx) (by unfold jt; simp; try omega) (.inl rfl)
theorem w46_4 (h : J m0 B m) (hm : m1 = z_upd m g 46 4 x) (hx : -9223372036854775808 ≤ x ∧ x ≤ 9223372036854775807) : J m0 B m1 := h.upd hm (by unfold jl jh; rw [(jf_no (show (4 : Int) ≤ 4 ∧ (4 : Int) ≤ 4 by omega) (jb 46) rfl)]; exact hx) (by unfold jt; simp; try omega) (.inl rfl)
theorem w46_5 (h : J m0 B m) (hm : m1 = z_upd m g 46 5 x) (hx : 1 ≤ x ∧ x ≤ 1000000) : J m0 B m1 := h.upd hm (by unfold jl jh; rw [(jf_at (show (5 : Int) ≤ 5 ∧ (5 : Int) ≤ 5 by omega) 4 (jb 46) rfl rfl)]; exact hx) (by unfold jt; simp; try omega) (.inl rfl)
theorem w46_6 (h : J m0 B m) (hm : m1 = z_upd m g 46 i x) (hi : 6 ≤ i ∧ i ≤ 7) (hx : -9223372036854775808 ≤ x ∧ x ≤ 9223372036854775807) : J m0 B m1 := h.upd hm (by unfold jl jh; rw [(jf_no hi (jb 46) rfl)]; exact hx) (by unfold jt; simp; try omega) (.inl rfl)
theorem w46_8 (h : J m0 B m) (hm : m1 = z_upd m g 46 8 x) (hx : 1 ≤ x ∧ x ≤ 3600) : J m0 B m1 := h.upd hm (by unfold jl jh; rw [(jf_at (show (8 : Int) ≤ 8 ∧ (8 : Int) ≤ 8 by omega) 5 (jb 46) rfl rfl)]; exact hx) (by unfold jt; simp; try omega) (.inl rfl)
theorem w46_9 (h : J m0 B m) (hm : m1 = z_upd m g 46 9 x) (hx : 1 ≤ x ∧ x ≤ 6) : J m0 B m1 := h.upd hm (by unfold jl jh; rw [(jf_at (show (9 : Int) ≤ 9 ∧ (9 : Int) ≤ 9 by omega) 6 (jb 46) rfl rfl)]; exact hx) (by unfold jt; simp; try omega) (.inl rfl)
theorem w46_10 (h : J m0 B m) (hm : m1 = z_upd m g 46 10 x) (hx : -9223372036854775808 ≤ x ∧ x ≤ 9223372036854775807) : J m0 B m1 := h.upd hm (by unfold jl jh; rw [(jf_no (show (10 : Int) ≤ 10 ∧ (10 : Int) ≤ 10 by omega) (jb 46) rfl)]; exact hx) (by unfold jt; simp; try omega) (.inl rfl)
theorem w46_12 (h : J m0 B m) (hm : m1 = z_upd m g 46 12 x) (hx : 0 ≤ x ∧ x ≤ 1) : J m0 B m1 := h.upd hm (by unfold jl jh; rw [(jf_at (show (12 : Int) ≤ 12 ∧ (12 : Int) ≤ 12 by omega) 8 (jb 46) rfl rfl)]; exact hx) (by unfold jt; simp; try omega) (.inl rfl)
theorem w46_13 (h : J m0 B m) (hm : m1 = z_upd m g 46 i x) (hi : 13 ≤ i ∧ i ≤ 15) (hx : -9223372036854775808 ≤ x ∧ x ≤ 9223372036854775807) : J m0 B m1 := h.upd hm (by unfold jl jh; rw [(jf_no hi (jb 46) rfl)]; exact hx) (by unfold jt; simp; try omega) (.inl rfl)
theorem w46_16 (h : J m0 B m) (hm : m1 = z_upd m g 46 16 x) (hx : 0 ≤ x ∧ x ≤ B) : J m0 B m1 := h.upd hm (by unfold jl jh; rw [(jf_at (show (16 : Int) ≤ 16 ∧ (16 : Int) ≤ 16 by omega) 9 (jb 46) rfl rfl)]; exact hx) (by unfold jt; simp; try omega) (.inl rfl)
theorem w46_17 (h : J m0 B m) (hm : m1 = z_upd m g 46 17 x) (hx : 0 ≤ x ∧ x ≤ B) : J m0 B m1 := h.upd hm (by unfold jl jh; rw [(jf_at (show (17 : Int) ≤ 17 ∧ (17 : Int) ≤ 17 by omega) 10 (jb 46) rfl rfl)]; exact hx) (by unfold jt; simp; try omega) (.inl rfl)
theorem w46_19 (h : J m0 B m) (hm : m1 = z_upd m g 46 i x) (hi : 19 ≤ i ∧ i ≤ 286) (hx : -9223372036854775808 ≤ x ∧ x ≤ 9223372036854775807) : J m0 B m1 := h.upd hm (by unfold jl jh; rw [(jf_no hi (jb 46) rfl)]; exact hx) (by unfold jt; simp; try omega) (.inl rfl)
theorem w46_287 (h : J m0 B m) (hm : m1 = z_upd m g 46 i x) (hi : 287 ≤ i ∧ i ≤ 294) (hx : 0 ≤ x ∧ x ≤ 6) : J m0 B m1 := h.upd hm (by unfold jl jh; rw [(jf_at hi 12 (jb 46) rfl rfl)]; exact hx) (by unfold jt; simp; try omega) (.inl rfl)
theorem w46_295 (h : J m0 B m) (hm : m1 = z_upd m g 46 i x) (hi : 295 ≤ i ∧ i ≤ 342) (hx : 0 ≤ x ∧ x ≤ 86399) : J m0 B m1 := h.upd hm (by unfold jl jh; rw [(jf_at hi 13 (jb 46) rfl rfl)]; exact hx) (by unfold jt; simp; try omega) (.inl rfl)
theorem w46_343 (h : J m0 B m) (hm : m1 = z_upd m g 46 i x) (hi : 343 ≤ i ∧ i ≤ 390) (hx : 0 ≤ x ∧ x ≤ 3) : J m0 B m1 := h.upd hm (by unfold jl jh; rw [(jf_at hi 14 (jb 46) rfl rfl)]; exact hx) (by unfold jt; simp; try omega) (.inl rfl)
theorem w46_391 (h : J m0 B m) (hm : m1 = z_upd m g 46 i x) (hi : 391 ≤ i ∧ i ≤ 394) (hx : (-1) ≤ x ∧ x ≤ 364) : J m0 B m1 := h.upd hm (by unfold jl jh; rw [(jf_at hi 15 (jb 46) rfl rfl)]; exact hx) (by unfold jt; simp; try omega) (.inl rfl)
theorem w46_395 (h : J m0 B m) (hm : m1 = z_upd m g 46 i x) (hi : 395 ≤ i ∧ i ≤ 422) (hx : 0 ≤ x ∧ x ≤ 7) : J m0 B m1 := h.upd hm (by unfold jl jh; rw [(jf_at hi 16 (jb 46) rfl rfl)]; exact hx) (by unfold jt; simp; try omega) (.inl rfl)
theorem w46_423 (h : J m0 B m) (hm : m1 = z_upd m g 46 i x) (hi : 423 ≤ i ∧ i ≤ 787) (hx : (-1) ≤ x ∧ x ≤ 7) : J m0 B m1 := h.upd hm (by unfold jl jh; rw [(jf_at hi 17 (jb 46) rfl rfl)]; exact hx) (by unfold jt; simp; try omega) (.inl rfl)
theorem w46_788 (h : J m0 B m) (hm : m1 = z_upd m g 46 i x) (hi : 788 ≤ i ∧ i ≤ 1613) (hx : -9223372036854775808 ≤ x ∧ x ≤ 9223372036854775807) : J m0 B m1 := h.upd hm (by unfold jl jh; rw [(jf_no hi (jb 46) rfl)]; exact hx) (by unfold jt; simp; try omega) (.inl rfl)
theorem w46_1614 (h : J m0 B m) (hm : m1 = z_upd m g 46 1614 x) (hx : 0 ≤ x ∧ x ≤ 1) : J m0 B m1 := h.upd hm (by unfold jl jh; rw [(jf_at (show (1614 : Int) ≤ 1614 ∧ (1614 : Int) ≤ 1614 by omega) 18 (jb 46) rfl rfl)]; exact hx) (by unfold jt; simp; try omega) (.inl rfl)
theorem w46_1615 (h : J m0 B m) (hm : m1 = z_upd m g 46 i x) (hi : 1615 ≤ i ∧ i ≤ 1618) (hx : -9223372036854775808 ≤ x ∧ x ≤ 9223372036854775807) : J m0 B m1 := h.upd hm (by unfold jl jh; rw [(jf_no hi (jb 46) rfl)]; exact hx) (by unfold jt; simp; try omega) (.inl rfl)
theorem w47_0 (h : J m0 B m) (hm : m1 = z_upd m g 47 0 x) (hx : 0 ≤ x ∧ x ≤ 2000000000) : J m0 B m1 := h.upd hm (by unfold jl jh; rw [(jf_at (show (0 : Int) ≤ 0 ∧ (0 : Int) ≤ 0 by omega) 0 (jb 47) rfl rfl)]; exact hx) (by unfold jt; simp; try omega) (.inl rfl)
theorem w47_1 (h : J m0 B m) (hm : m1 = z_upd m g 47 1 x) (hx : 1 ≤ x ∧ x ≤ 3) : J m0 B m1 := h.upd hm (by unfold jl jh; rw [(jf_at (show (1 : Int) ≤ 1 ∧ (1 : Int) ≤ 1 by omega) 1 (jb 47) rfl rfl)]; exact hx) (by unfold jt; simp; try omega) (.inl rfl)
theorem w47_2 (h : J m0 B m) (hm : m1 = z_upd m g 47 2 x) (hx : 4 ≤ x ∧ x ≤ 16) : J m0 B m1 := h.upd hm (by unfold jl jh; rw [(jf_at (show (2 : Int) ≤ 2 ∧ (2 : Int) ≤ 2 by omega) 2 (jb 47) rfl rfl)]; exact hx) (by unfold jt; simp; try omega) (.inl rfl)
theorem w47_3 (h : J m0 B m) (hm : m1 = z_upd m g 47 3 x) (hx : 0 ≤ x ∧ x ≤ 47) : J m0 B m1 := h.upd hm (by unfold jl jh; rw [(jf_at (show (3 : Int) ≤ 3 ∧ (3 : Int) ≤ 3 by omega) 3 (jb 47) rfl rfl)]; exact hx) (by unfold jt; simp; try omega) (.inl rfl)
theorem w47_4 (h : J m0 B m) (hm : m1 = z_upd m g 47 4 x) (hx : -9223372036854775808 ≤ x ∧ x ≤ 9223372036854775807) : J m0 B m1 := h.upd hm (by unfold jl jh; rw [(jf_no (show (4 : Int) ≤ 4 ∧ (4 : Int) ≤ 4 by omega) (jb 47) rfl)]; exact hx) (by unfold jt; simp; try omega) (.inl rfl)
theorem w47_5 (h : J m0 B m) (hm : m1 = z_upd m g 47 5 x) (hx : 1 ≤ x ∧ x ≤ 1000000) : J m0 B m1 := h.upd hm (by unfold jl jh; rw [(jf_at (show (5 : Int) ≤ 5 ∧ (5 : Int) ≤ 5 by omega) 4 (jb 47) rfl rfl)]; exact hx) (by unfold jt; simp; try omega) (.inl rfl)
theorem w47_6 (h : J m0 B m) (hm : m1 = z_upd m g 47 i x) (hi : 6 ≤ i ∧ i ≤ 7) (hx : -9223372036854775808 ≤ x ∧ x ≤ 9223372036854775807) : J m0 B m1 := h.upd hm (by unfold jl jh; rw [(jf_no hi (jb 47) rfl)]; exact hx) (by unfold jt; simp; try omega) (.inl rfl)
theorem w47_8 (h : J m0 B m) (hm : m1 = z_upd m g 47 8 x) (hx : 1 ≤ x ∧ x ≤ 3600) : J m0 B m1 := h.upd hm (by unfold jl jh; rw [(jf_at (show (8 : Int) ≤ 8 ∧ (8 : Int) ≤ 8 by omega) 5 (jb 47) rfl rfl)]; exact hx) (by unfold jt; simp; try omega) (.inl rfl)
theorem w47_9 (h : J m0 B m) (hm : m1 = z_upd m g 47 9 x) (hx : 1 ≤ x ∧ x ≤ 6) : J m0 B m1 := h.upd hm (by unfold jl jh; rw [(jf_at (show (9 : Int) ≤ 9 ∧ (9 : Int) ≤ 9 by omega) 6 (jb 47) rfl rfl)]; exact hx) (by unfold jt; simp; try omega) (.inl rfl)
theorem w47_10 (h : J m0 B m) (hm : m1 = z_upd m g 47 10 x) (hx : -9223372036854775808 ≤ x ∧ x ≤ 9223372036854775807) : J m0 B m1 := h.upd hm (by unfold jl jh; rw [(jf_no (show (10 : Int) ≤ 10 ∧ (10 : Int) ≤ 10 by omega) (jb 47) rfl)]; exact hx) (by unfold jt; simp; try omega) (.inl rfl)
theorem w47_12 (h : J m0 B m) (hm : m1 = z_upd m g 47 12 x) (hx : 0 ≤ x ∧ x ≤ 1) : J m0 B m1 := h.upd hm (by unfold jl jh; rw [(jf_at (show (12 : Int) ≤ 12 ∧ (12 : Int) ≤ 12 by omega) 8 (jb 47) rfl rfl)]; exact hx) (by unfold jt; simp; try omega) (.inl rfl)
theorem w47_13 (h : J m0 B m) (hm : m1 = z_upd m g 47 i x) (hi : 13 ≤ i ∧ i ≤ 15) (hx : -9223372036854775808 ≤ x ∧ x ≤ 9223372036854775807) : J m0 B m1 := h.upd hm (by unfold jl jh; rw [(jf_no hi (jb 47) rfl)]; exact hx) (by unfold jt; simp; try omega) (.inl rfl)
theorem w47_16 (h : J m0 B m) (hm : m1 = z_upd m g 47 16 x) (hx : 0 ≤ x ∧ x ≤ B) : J m0 B m1 := h.upd hm (by unfold jl jh; rw [(jf_at (show (16 : Int) ≤ 16 ∧ (16 : Int) ≤ 16 by omega) 9 (jb 47) rfl rfl)]; exact hx) (by unfold jt; simp; try omega) (.inl rfl)
theorem w47_17 (h : J m0 B m) (hm : m1 = z_upd m g 47 17 x) (hx : 0 ≤ x ∧ x ≤ B) : J m0 B m1 := h.upd hm (by unfold jl jh; rw [(jf_at (show (17 : Int) ≤ 17 ∧ (17 : Int) ≤ 17 by omega) 10 (jb 47) rfl rfl)]; exact hx) (by unfold jt; simp; try omega) (.inl rfl)
theorem w47_19 (h : J m0 B m) (hm : m1 = z_upd m g 47 i x) (hi : 19 ≤ i ∧ i ≤ 286) (hx : -9223372036854775808 ≤ x ∧ x ≤ 9223372036854775807) : J m0 B m1 := h.upd hm (by unfold jl jh; rw [(jf_no hi (jb 47) rfl)]; exact hx) (by unfold jt; simp; try omega) (.inl rfl)
theorem w47_287 (h : J m0 B m) (hm : m1 = z_upd m g 47 i x) (hi : 287 ≤ i ∧ i ≤ 294) (hx : 0 ≤ x ∧ x ≤ 6) : J m0 B m1 := h.upd hm (by unfold jl jh; rw [(jf_at hi 12 (jb 47) rfl rfl)]; exact hx) (by unfold jt; simp; try omega) (.inl rfl)
theorem w47_295 (h : J m0 B m) (hm : m1 = z_upd m g 47 i x) (hi : 295 ≤ i ∧ i ≤ 342) (hx : 0 ≤ x ∧ x ≤ 86399) : J m0 B m1 := h.upd hm (by unfold jl jh; rw [(jf_at hi 13 (jb 47) rfl rfl)]; exact hx) (by unfold jt; simp; try omega) (.inl rfl)
theorem w47_343 (h : J m0 B m) (hm : m1 = z_upd m g 47 i x) (hi : 343 ≤ i ∧ i ≤ 390) (hx : 0 ≤ x ∧ x ≤ 3) : J m0 B m1 := h.upd hm (by unfold jl jh; rw [(jf_at hi 14 (jb 47) rfl rfl)]; exact hx) (by unfold jt; simp; try omega) (.inl rfl)
theorem w47_391 (h : J m0 B m) (hm : m1 = z_upd m g 47 i x) (hi : 391 ≤ i ∧ i ≤ 394) (hx : (-1) ≤ x ∧ x ≤ 364) : J m0 B m1 := h.upd hm (by unfold jl jh; rw [(jf_at hi 15 (jb 47) rfl rfl)]; exact hx) (by unfold jt; simp; try omega) (.inl rfl)
theorem w47_395 (h : J m0 B m) (hm : m1 = z_upd m g 47 i x) (hi : 395 ≤ i ∧ i ≤ 422) (hx : 0 ≤ x ∧ x ≤ 7) : J m0 B m1 := h.upd hm (by unfold jl jh; rw [(jf_at hi 16 (jb 47) rfl rfl)]; exact hx) (by unfold jt; simp; try omega) (.inl rfl)
theorem w47_423 (h : J m0 B m) (hm : m1 = z_upd m g 47 i x) (hi : 423 ≤ i ∧ i ≤ 787) (hx : (-1) ≤ x ∧ x ≤ 7) : J m0 B m1 := h.upd hm (by unfold jl jh; rw [(jf_at hi 17 (jb 47) rfl rfl)]; exact hx) (by unfold jt; simp; try omega) (.inl rfl)
theorem w47_788 (h : J m0 B m) (hm : m1 = z_upd m g 47 i x) (hi : 788 ≤ i ∧ i ≤ 1613) (hx : -9223372036854775808 ≤ x ∧ x ≤ 9223372036854775807) : J m0 B m1 := h.upd hm (by unfold jl jh; rw [(jf_no hi (jb 47) rfl)]; exact hx) (by unfold jt; simp; try omega) (.inl rfl)
theorem w47_1614 (h : J m0 B m) (hm : m1 = z_upd m g 47 1614 x) (hx : 0 ≤ x ∧ x ≤ 1) : J m0 B m1 := h.upd hm (by unfold jl jh; rw [(jf_at (show (1614 : Int) ≤ 1614 ∧ (1614 : Int) ≤ 1614 by omega) 18 (jb 47) rfl rfl)]; exact hx) (by unfold jt; simp; try omega) (.inl rfl)
theorem w47_1615 (h : J m0 B m) (hm : m1 = z_upd m g 47 i x) (hi : 1615 ≤ i ∧ i ≤ 1618) (hx : -9223372036854775808 ≤ x ∧ x ≤ 9223372036854775807) : J m0 B m1 := h.upd hm (by unfold jl jh; rw [(jf_no hi (jb 47) rfl)]; exact hx) (by unfold jt; simp; try omega) (.inl rfl)
theorem w48_0 (h : J m0 B m) (hm : m1 = z_upd m g 48 i x) (hi : 0 ≤ i ∧ i ≤ 299) (hx : -9223372036854775808 ≤ x ∧ x ≤ 9223372036854775807) : J m0 B m1 := h.upd hm (by unfold jl jh; rw [(jf_no hi (jb 48) rfl)]; exact hx) rfl (.inl rfl)
theorem w49_0 (h : J m0 B m) (hm : m1 = z_upd m g 49 i x) (hi : 0 ≤ i ∧ i ≤ 7) (hx : -9223372036854775808 ≤ x ∧ x ≤ 9223372036854775807) : J m0 B m1 := h.upd hm (by unfold jl jh; rw [(jf_no hi (jb 49) rfl)]; exact hx) rfl (.inl rfl)
theorem w50_0 (h : J m0 B m) (hm : m1 = z_upd m g 50 i x) (hi : 0 ≤ i ∧ i ≤ 3) (hx : -9223372036854775808 ≤ x ∧ x ≤ 9223372036854775807) : J m0 B m1 := h.upd hm (by unfold jl jh; rw [(jf_no hi (jb 50) rfl)]; exact hx) rfl (.inl rfl)
end
