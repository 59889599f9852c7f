/-! Printed by wip/gen/inv.py: bounds of the numbers, and those that are tracked. -/
def jb (k : Nat) : List (Int × Int × Int × Int) := match k with
  | 8 => [(9, 9, 0, 2000000000), (11, 11, 0, 1), (12, 12, 0, 1), (13, 13, 0, 2000000000)]
  | 10 => [(0, 4, 0, 1000000), (5, 5, 1, 6), (6, 12, 0, 1000000)]
  | 11 => [(7, 7, 0, 16)]
  | 12 => [(0, 7, 0, 6)]
  | 13 => [(0, 47, 0, 86399)]
  | 14 => [(0, 47, 0, 3)]
  | 15 => [(0, 3, -1, 364)]
  | 16 => [(0, 27, 0, 7)]
  | 17 => [(0, 15, 0, 364)]
  | 18 => [(0, 15, 0, 7)]
  | 19 => [(3, 3, 1, 3), (4, 4, 4, 16), (5, 5, 0, 47)]
  | 20 => [(0, 47, -500, 500)]
  | 21 => [(0, 47, -500, 500)]
  | 23 => [(3, 3, 0, -7)]
  | 27 => [(2, 2, 0, -7), (9, 9, 0, 2000000000)]
  | 37 => [(1, 1, 0, -7)]
  | 39 => [(0, 0, 0, 1), (2, 2, 0, -7), (4, 4, 0, 2000000300)]
  | 40 => [(4, 4, 0, 1)]
  | 41 => [(3, 3, 0, 300), (6, 6, 0, 1), (7, 7, 0, 300)]
  | 42 => [(0, 299, 0, 255)]
  | 43 => [(0, 3, 0, 100)]
  | 44 => [(3, 3, 0, 1), (5, 5, 0, 300), (8, 8, 0, 300), (9, 9, 0, 1), (14, 14, 0, 1)]
  | 45 => [(0, 0, 0, 2000000000), (1, 1, 1, 3), (2, 2, 4, 16), (3, 3, 0, 47), (5, 5, 1, 1000000), (8, 8, 1, 3600), (9, 9, 1, 6), (11, 11, 0, 1), (12, 12, 0, 1), (13, 13, 0, -7), (16, 16, 0, -7), (17, 17, 0, -7), (18, 18, 0, -7), (287, 294, 0, 6), (295, 342, 0, 86399), (343, 390, 0, 3), (391, 394, -1, 364), (395, 422, 0, 7), (423, 787, -1, 7), (1614, 1614, 0, 1), (1616, 1616, 0, -7), (1617, 1617, 0, 2000000300)]
  | 46 => [(0, 0, 0, 2000000000), (1, 1, 1, 3), (2, 2, 4, 16), (3, 3, 0, 47), (5, 5, 1, 1000000), (8, 8, 1, 3600), (9, 9, 1, 6), (11, 11, 0, 1), (12, 12, 0, 1), (13, 13, 0, -7), (16, 16, 0, -7), (17, 17, 0, -7), (18, 18, 0, -7), (287, 294, 0, 6), (295, 342, 0, 86399), (343, 390, 0, 3), (391, 394, -1, 364), (395, 422, 0, 7), (423, 787, -1, 7), (1614, 1614, 0, 1), (1616, 1616, 0, -7), (1617, 1617, 0, 2000000300)]
  | 47 => [(0, 0, 0, 2000000000), (1, 1, 1, 3), (2, 2, 4, 16), (3, 3, 0, 47), (5, 5, 1, 1000000), (8, 8, 1, 3600), (9, 9, 1, 6), (11, 11, 0, 1), (12, 12, 0, 1), (13, 13, 0, -7), (16, 16, 0, -7), (17, 17, 0, -7), (18, 18, 0, -7), (287, 294, 0, 6), (295, 342, 0, 86399), (343, 390, 0, 3), (391, 394, -1, 364), (395, 422, 0, 7), (423, 787, -1, 7), (1614, 1614, 0, 1), (1616, 1616, 0, -7), (1617, 1617, 0, 2000000300)]
  | _ => []
def jf (l : List (Int × Int × Int × Int)) (i : Int) : Option (Int × Int) := match l with
  | [] => none
  | q :: r => if q.1 ≤ i ∧ i ≤ q.2.1 then some q.2.2 else jf r i
def jlo (o : Option (Int × Int)) : Int := match o with
  | some q => q.1
  | none => -9223372036854775808
def jhi (B : Int) (o : Option (Int × Int)) : Int := match o with
  | some q => if q.2 = -7 then B else q.2
  | none => 9223372036854775807
def jl (k : Nat) (i : Int) : Int := jlo (jf (jb k) i)
def jh (B : Int) (k : Nat) (i : Int) : Int := jhi B (jf (jb k) i)
theorem jf_at {i a b : Int} {q : Int × Int} (hi : a ≤ i ∧ i ≤ b) : ∀ (n : Nat) (l : List (Int × Int × Int × Int)), l[n]? = some (a, b, q) → ((l.take n).all fun q => decide (q.2.1 < a)) = true → jf l i = some q
  | _, [], h, _ => by simp at h
  | 0, z :: r, h, _ => by
    have e : z = (a, b, q) := by simpa using h
    subst e
    unfold jf
    rw [if_pos hi]
  | n + 1, z :: r, h, hs => by
    simp only [List.take_succ_cons, List.all_cons, Bool.and_eq_true, decide_eq_true_eq] at hs
    unfold jf
    rw [if_neg (by omega)]
    exact jf_at hi n r (by simpa using h) hs.2
theorem jf_no {i a b : Int} (hi : a ≤ i ∧ i ≤ b) : ∀ (l : List (Int × Int × Int × Int)), (l.all fun q => decide (q.2.1 < a ∨ b < q.1)) = true → jf l i = none
  | [], _ => rfl
  | z :: r, hs => by
    simp only [List.all_cons, Bool.and_eq_true, decide_eq_true_eq] at hs
    unfold jf
    rw [if_neg (by omega)]
    exact jf_no hi r hs.2
def jt (g k : Nat) (i : Int) : Bool := match k with
  | 8 => decide (i = 9 ∨ i = 11 ∨ i = 13)
  | 19 => decide (i = 3 ∨ i = 4 ∨ i = 5)
  | 23 => decide (i = 3)
  | 39 => decide (i = 0 ∨ i = 1 ∨ i = 2 ∨ i = 4)
  | 40 => decide ((g = 4) ∧ (i = 4))
  | 41 => decide ((g = 4) ∧ (i = 3))
  | 44 => decide ((g = 4) ∧ (i = 3 ∨ i = 5))
  | 45 => decide ((g = 4) ∧ (i = 0 ∨ i = 1 ∨ i = 2 ∨ i = 3 ∨ i = 11 ∨ i = 13 ∨ i = 18 ∨ i = 1614 ∨ i = 1615 ∨ i = 1616 ∨ i = 1617))
  | 46 => decide ((g = 4) ∧ (i = 0 ∨ i = 1 ∨ i = 2 ∨ i = 3 ∨ i = 11 ∨ i = 13 ∨ i = 18 ∨ i = 1614 ∨ i = 1615 ∨ i = 1616 ∨ i = 1617))
  | 47 => decide ((g = 4) ∧ (i = 0 ∨ i = 1 ∨ i = 2 ∨ i = 3 ∨ i = 11 ∨ i = 13 ∨ i = 18 ∨ i = 1614 ∨ i = 1615 ∨ i = 1616 ∨ i = 1617))
  | _ => false
/-- free slots; whether aside, whether kept is a copy -/
abbrev zS : Type := (Nat → Nat → Int → Prop) × Prop × Prop
def jq (S : zS) (m : zM) (g k : Nat) (i : Int) : Prop := g = 4 → 0 ≤ i → i < 1619 → (k = 46 → S.2.1) ∧ (k = 47 → S.2.2 ∨ m 4 44 3 = 1)
theorem jq_of {S : zS} {m : zM} {g k : Nat} {i : Int} (h : decide (k = 46 ∨ k = 47) = false) : jq S m g k i := fun _ _ _ => by
  have h := of_decide_eq_false h
  exact ⟨fun e => absurd (.inl e) h, fun e => absurd (.inr e) h⟩
/-- bounds; what never falls since m0 (where the reference reads, that it found a fault); what is as it was in m0: each but for the free slots -/
def J (S : zS) (m0 : zM) (B : Int) (m : zM) : Prop := ((∀ g k i, jq S m g k i → jl k i ≤ m g k i ∧ m g k i ≤ jh B k i) ∧ ∀ g, (S.1 g 44 8 ∨ m0 g 44 8 ≤ m g 44 8) ∧ (S.1 g 44 9 ∨ m0 g 44 9 ≤ m g 44 9)) ∧ ∀ g k i, jt g k i = true → S.1 g k i ∨ m g k i = m0 g k i
def jn (k : Nat) (i : Int) : Bool := match k with
  | 44 => decide (i = 8 ∨ i = 9)
  | _ => false
def zin (S S' : zS) : Prop := (∀ g k i, (jt g k i = true ∨ jn k i = true) → S.1 g k i → S'.1 g k i) ∧ (S.2.1 ↔ S'.2.1) ∧ (S.2.2 ↔ S'.2.2)
theorem jh_mono {B B' : Int} (h : B ≤ B') (k : Nat) (i : Int) : jh B k i ≤ jh B' k i := by
  unfold jh jhi
  split
  · split <;> omega
  · omega
theorem J.up {S : zS} {m0 m : zM} {B B' : Int} (h : J S m0 B m) (hb : B ≤ B') : J S m0 B' m := ⟨⟨fun g k i hq => ⟨(h.1.1 g k i hq).1, Int.le_trans (h.1.1 g k i hq).2 (jh_mono hb k i)⟩, h.1.2⟩, h.2⟩
/-- a store: to a slot that isn't tracked, or to a free one; not that an image is (44, 3) -/
theorem J.upd {S : zS} {m0 m m1 : zM} {B : Int} {g k : Nat} {i x : Int} (h : J S m0 B m) (hm : m1 = z_upd m g k i x) (hx : jl k i ≤ x ∧ x ≤ jh B k i) (ht : jt g k i = false ∨ S.1 g k i) (hn : jn k i = false ∨ m g k i ≤ x ∨ S.1 g k i) (h3 : k = 44 → i ≠ 3) : J S m0 B m1 := by
  subst hm
  have key : ∀ (g' : Nat) (i' : Int), (i' = 8 ∨ i' = 9) → (S.1 g' 44 i' ∨ m0 g' 44 i' ≤ m g' 44 i') → S.1 g' 44 i' ∨ m0 g' 44 i' ≤ z_upd m g k i x g' 44 i' := by
    intro g' i' hi' h9
    unfold z_upd
    split
    · rename_i e
      obtain ⟨rfl, rfl, rfl⟩ := e
      rcases hn with hn | hn | hn
      · rcases hi' with rfl | rfl <;> cases hn
      · rcases h9 with h9 | h9
        · exact .inl h9
        · exact .inr (Int.le_trans h9 hn)
      · exact .inl hn
    · exact h9
  have e3 : z_upd m g k i x 4 44 3 = m 4 44 3 := by
    unfold z_upd
    rw [if_neg (fun e => h3 e.2.1.symm e.2.2.symm)]
  refine ⟨⟨fun g' k' i' hq => ?_, fun g' => ⟨key g' 8 (.inl rfl) (h.1.2 g').1, key g' 9 (.inr rfl) (h.1.2 g').2⟩⟩, fun g' k' i' h9 => ?_⟩
  · have hq' : jq S m g' k' i' := fun e1 e2 e4 => by
      have h5 := hq e1 e2 e4
      rw [e3] at h5
      exact h5
    unfold z_upd
    split
    · rename_i e
      obtain ⟨rfl, rfl, rfl⟩ := e
      exact hx
    · exact h.1.1 g' k' i' hq'
  · unfold z_upd
    split
    · rename_i e
      obtain ⟨rfl, rfl, rfl⟩ := e
      rcases ht with ht | ht
      · rw [ht] at h9
        cases h9
      · exact .inl ht
    · exact h.2 g' k' i' h9
theorem J.rf {S : zS} {m : zM} {B : Int} (h : ∀ g k i, jq S m g k i → jl k i ≤ m g k i ∧ m g k i ≤ jh B k i) : J S m B m := ⟨⟨h, fun g => ⟨.inr (Int.le_refl _), .inr (Int.le_refl _)⟩⟩, fun _ _ _ _ => .inr rfl⟩
theorem J.self {S : zS} {m0 m : zM} {B : Int} (h : J S m0 B m) : J S m B m := J.rf h.1.1
/-- the callee's own free slots, at the memory as it is -/
theorem J.own {S S' : zS} {m0 m : zM} {B : Int} (h : J S m0 B m) (hS : zin S' S) : J S' m B m := J.rf (fun g k i hq => h.1.1 g k i (fun e1 e2 e3 => ⟨fun e => hS.2.1.mp ((hq e1 e2 e3).1 e), fun e => ((hq e1 e2 e3).2 e).imp hS.2.2.mp id⟩))
theorem J.trans {S S' : zS} {m0 m m' : zM} {B B' : Int} (h : J S m0 B m) (h' : J S' m B' m') (hS : zin S' S) : J S m0 B' m' := by
  refine ⟨⟨fun g k i hq => h'.1.1 g k i (fun e1 e2 e3 => ⟨fun e => hS.2.1.mpr ((hq e1 e2 e3).1 e), fun e => ((hq e1 e2 e3).2 e).imp hS.2.2.mpr id⟩), fun g => ⟨?_, ?_⟩⟩, fun g k i h9 => ?_⟩
  · rcases (h.1.2 g).1 with h1 | h1
    · exact .inl h1
    · rcases (h'.1.2 g).1 with h2 | h2
      · exact .inl (hS.1 _ _ _ (.inr rfl) h2)
      · exact .inr (Int.le_trans h1 h2)
  · rcases (h.1.2 g).2 with h1 | h1
    · exact .inl h1
    · rcases (h'.1.2 g).2 with h2 | h2
      · exact .inl (hS.1 _ _ _ (.inr rfl) h2)
      · exact .inr (Int.le_trans h1 h2)
  · rcases h.2 g k i h9 with h1 | h1
    · exact .inl h1
    · rcases h'.2 g k i h9 with h2 | h2
      · exact .inl (hS.1 _ _ _ (.inl h9) h2)
      · exact .inr (h2.trans h1)
theorem J.i32 {x : Int} (h : -2147483648 ≤ x ∧ x ≤ 2147483647) : -9223372036854775808 ≤ x ∧ x ≤ 9223372036854775807 := by omega
section
variable {S : zS} {m0 m m1 : zM} {B x i : Int} {g : Nat}
theorem w8_0 (h : J S m0 B m) (hm : m1 = z_upd m g 8 i x) (hi : 0 ≤ i ∧ i ≤ 8) (hx : -9223372036854775808 ≤ x ∧ x ≤ 9223372036854775807) : J S m0 B m1 := h.upd hm (by unfold jl jh; rw [(jf_no hi (jb 8) rfl)]; exact hx) (.inl (by unfold jt; simp; try omega)) (.inl rfl) (fun e => absurd e (by decide))
theorem r8_9 (h : J S m0 B m) (g : Nat) : 0 ≤ m g 8 9 ∧ m g 8 9 ≤ 2000000000 := by
  have h1 := h.1.1 g 8 9 (jq_of rfl)
  unfold jl jh at h1
  rw [(jf_at (show (9 : Int) ≤ 9 ∧ (9 : Int) ≤ 9 by omega) 0 (jb 8) rfl rfl)] at h1
  exact h1
theorem w8_9 (h : J S m0 B m) (hm : m1 = z_upd m g 8 9 x) (hx : 0 ≤ x ∧ x ≤ 2000000000) (hs : S.1 g 8 9) : J S m0 B m1 := h.upd hm (by unfold jl jh; rw [(jf_at (show (9 : Int) ≤ 9 ∧ (9 : Int) ≤ 9 by omega) 0 (jb 8) rfl rfl)]; exact hx) (.inr hs) (.inl rfl) (fun e => absurd e (by decide))
theorem w8_10 (h : J S m0 B m) (hm : m1 = z_upd m g 8 10 x) (hx : -9223372036854775808 ≤ x ∧ x ≤ 9223372036854775807) : J S m0 B m1 := h.upd hm (by unfold jl jh; rw [(jf_no (show (10 : Int) ≤ 10 ∧ (10 : Int) ≤ 10 by omega) (jb 8) rfl)]; exact hx) (.inl (by unfold jt; simp; try omega)) (.inl rfl) (fun e => absurd e (by decide))
theorem r8_11 (h : J S m0 B m) (g : Nat) : 0 ≤ m g 8 11 ∧ m g 8 11 ≤ 1 := by
  have h1 := h.1.1 g 8 11 (jq_of rfl)
  unfold jl jh at h1
  rw [(jf_at (show (11 : Int) ≤ 11 ∧ (11 : Int) ≤ 11 by omega) 1 (jb 8) rfl rfl)] at h1
  exact h1
theorem w8_11 (h : J S m0 B m) (hm : m1 = z_upd m g 8 11 x) (hx : 0 ≤ x ∧ x ≤ 1) (hs : S.1 g 8 11) : J S m0 B m1 := h.upd hm (by unfold jl jh; rw [(jf_at (show (11 : Int) ≤ 11 ∧ (11 : Int) ≤ 11 by omega) 1 (jb 8) rfl rfl)]; exact hx) (.inr hs) (.inl rfl) (fun e => absurd e (by decide))
theorem r8_12 (h : J S m0 B m) (g : Nat) : 0 ≤ m g 8 12 ∧ m g 8 12 ≤ 1 := by
  have h1 := h.1.1 g 8 12 (jq_of rfl)
  unfold jl jh at h1
  rw [(jf_at (show (12 : Int) ≤ 12 ∧ (12 : Int) ≤ 12 by omega) 2 (jb 8) rfl rfl)] at h1
  exact h1
theorem w8_12 (h : J S m0 B m) (hm : m1 = z_upd m g 8 12 x) (hx : 0 ≤ x ∧ x ≤ 1) : J S m0 B m1 := h.upd hm (by unfold jl jh; rw [(jf_at (show (12 : Int) ≤ 12 ∧ (12 : Int) ≤ 12 by omega) 2 (jb 8) rfl rfl)]; exact hx) (.inl (by unfold jt; simp; try omega)) (.inl rfl) (fun e => absurd e (by decide))
theorem r8_13 (h : J S m0 B m) (g : Nat) : 0 ≤ m g 8 13 ∧ m g 8 13 ≤ 2000000000 := by
  have h1 := h.1.1 g 8 13 (jq_of rfl)
  unfold jl jh at h1
  rw [(jf_at (show (13 : Int) ≤ 13 ∧ (13 : Int) ≤ 13 by omega) 3 (jb 8) rfl rfl)] at h1
  exact h1
theorem w8_13 (h : J S m0 B m) (hm : m1 = z_upd m g 8 13 x) (hx : 0 ≤ x ∧ x ≤ 2000000000) (hs : S.1 g 8 13) : J S m0 B m1 := h.upd hm (by unfold jl jh; rw [(jf_at (show (13 : Int) ≤ 13 ∧ (13 : Int) ≤ 13 by omega) 3 (jb 8) rfl rfl)]; exact hx) (.inr hs) (.inl rfl) (fun e => absurd e (by decide))
theorem w8_14 (h : J S m0 B m) (hm : m1 = z_upd m g 8 i x) (hi : 14 ≤ i ∧ i ≤ 15) (hx : -9223372036854775808 ≤ x ∧ x ≤ 9223372036854775807) : J S m0 B m1 := h.upd hm (by unfold jl jh; rw [(jf_no hi (jb 8) rfl)]; exact hx) (.inl (by unfold jt; simp; try omega)) (.inl rfl) (fun e => absurd e (by decide))
theorem w9_0 (h : J S m0 B m) (hm : m1 = z_upd m g 9 0 x) (hx : -9223372036854775808 ≤ x ∧ x ≤ 9223372036854775807) : J S m0 B m1 := h.upd hm (by unfold jl jh; rw [(jf_no (show (0 : Int) ≤ 0 ∧ (0 : Int) ≤ 0 by omega) (jb 9) rfl)]; exact hx) (.inl rfl) (.inl rfl) (fun e => absurd e (by decide))
theorem r10_0 (h : J S m0 B m) (g : Nat) (hi : 0 ≤ i ∧ i ≤ 4) : 0 ≤ m g 10 i ∧ m g 10 i ≤ 1000000 := by
  have h1 := h.1.1 g 10 i (jq_of rfl)
  unfold jl jh at h1
  rw [(jf_at hi 0 (jb 10) rfl rfl)] at h1
  exact h1
theorem w10_0 (h : J S m0 B m) (hm : m1 = z_upd m g 10 i x) (hi : 0 ≤ i ∧ i ≤ 4) (hx : 0 ≤ x ∧ x ≤ 1000000) : J S m0 B m1 := h.upd hm (by unfold jl jh; rw [(jf_at hi 0 (jb 10) rfl rfl)]; exact hx) (.inl rfl) (.inl rfl) (fun e => absurd e (by decide))
theorem r10_5 (h : J S m0 B m) (g : Nat) : 1 ≤ m g 10 5 ∧ m g 10 5 ≤ 6 := by
  have h1 := h.1.1 g 10 5 (jq_of rfl)
  unfold jl jh at h1
  rw [(jf_at (show (5 : Int) ≤ 5 ∧ (5 : Int) ≤ 5 by omega) 1 (jb 10) rfl rfl)] at h1
  exact h1
theorem w10_5 (h : J S m0 B m) (hm : m1 = z_upd m g 10 5 x) (hx : 1 ≤ x ∧ x ≤ 6) : J S m0 B m1 := h.upd hm (by unfold jl jh; rw [(jf_at (show (5 : Int) ≤ 5 ∧ (5 : Int) ≤ 5 by omega) 1 (jb 10) rfl rfl)]; exact hx) (.inl rfl) (.inl rfl) (fun e => absurd e (by decide))
theorem r10_6 (h : J S m0 B m) (g : Nat) (hi : 6 ≤ i ∧ i ≤ 12) : 0 ≤ m g 10 i ∧ m g 10 i ≤ 1000000 := by
  have h1 := h.1.1 g 10 i (jq_of rfl)
  unfold jl jh at h1
  rw [(jf_at hi 2 (jb 10) rfl rfl)] at h1
  exact h1
theorem w10_6 (h : J S m0 B m) (hm : m1 = z_upd m g 10 i x) (hi : 6 ≤ i ∧ i ≤ 12) (hx : 0 ≤ x ∧ x ≤ 1000000) : J S m0 B m1 := h.upd hm (by unfold jl jh; rw [(jf_at hi 2 (jb 10) rfl rfl)]; exact hx) (.inl rfl) (.inl rfl) (fun e => absurd e (by decide))
theorem w11_0 (h : J S m0 B m) (hm : m1 = z_upd m g 11 i x) (hi : 0 ≤ i ∧ i ≤ 6) (hx : -9223372036854775808 ≤ x ∧ x ≤ 9223372036854775807) : J S m0 B m1 := h.upd hm (by unfold jl jh; rw [(jf_no hi (jb 11) rfl)]; exact hx) (.inl rfl) (.inl rfl) (fun e => absurd e (by decide))
theorem r11_7 (h : J S m0 B m) (g : Nat) : 0 ≤ m g 11 7 ∧ m g 11 7 ≤ 16 := by
  have h1 := h.1.1 g 11 7 (jq_of rfl)
  unfold jl jh at h1
  rw [(jf_at (show (7 : Int) ≤ 7 ∧ (7 : Int) ≤ 7 by omega) 0 (jb 11) rfl rfl)] at h1
  exact h1
theorem w11_7 (h : J S m0 B m) (hm : m1 = z_upd m g 11 7 x) (hx : 0 ≤ x ∧ x ≤ 16) : J S m0 B m1 := h.upd hm (by unfold jl jh; rw [(jf_at (show (7 : Int) ≤ 7 ∧ (7 : Int) ≤ 7 by omega) 0 (jb 11) rfl rfl)]; exact hx) (.inl rfl) (.inl rfl) (fun e => absurd e (by decide))
theorem r12_0 (h : J S m0 B m) (g : Nat) (hi : 0 ≤ i ∧ i ≤ 7) : 0 ≤ m g 12 i ∧ m g 12 i ≤ 6 := by
  have h1 := h.1.1 g 12 i (jq_of rfl)
  unfold jl jh at h1
  rw [(jf_at hi 0 (jb 12) rfl rfl)] at h1
  exact h1
theorem w12_0 (h : J S m0 B m) (hm : m1 = z_upd m g 12 i x) (hi : 0 ≤ i ∧ i ≤ 7) (hx : 0 ≤ x ∧ x ≤ 6) : J S m0 B m1 := h.upd hm (by unfold jl jh; rw [(jf_at hi 0 (jb 12) rfl rfl)]; exact hx) (.inl rfl) (.inl rfl) (fun e => absurd e (by decide))
theorem r13_0 (h : J S m0 B m) (g : Nat) (hi : 0 ≤ i ∧ i ≤ 47) : 0 ≤ m g 13 i ∧ m g 13 i ≤ 86399 := by
  have h1 := h.1.1 g 13 i (jq_of rfl)
  unfold jl jh at h1
  rw [(jf_at hi 0 (jb 13) rfl rfl)] at h1
  exact h1
theorem w13_0 (h : J S m0 B m) (hm : m1 = z_upd m g 13 i x) (hi : 0 ≤ i ∧ i ≤ 47) (hx : 0 ≤ x ∧ x ≤ 86399) : J S m0 B m1 := h.upd hm (by unfold jl jh; rw [(jf_at hi 0 (jb 13) rfl rfl)]; exact hx) (.inl rfl) (.inl rfl) (fun e => absurd e (by decide))
theorem r14_0 (h : J S m0 B m) (g : Nat) (hi : 0 ≤ i ∧ i ≤ 47) : 0 ≤ m g 14 i ∧ m g 14 i ≤ 3 := by
  have h1 := h.1.1 g 14 i (jq_of rfl)
  unfold jl jh at h1
  rw [(jf_at hi 0 (jb 14) rfl rfl)] at h1
  exact h1
theorem w14_0 (h : J S m0 B m) (hm : m1 = z_upd m g 14 i x) (hi : 0 ≤ i ∧ i ≤ 47) (hx : 0 ≤ x ∧ x ≤ 3) : J S m0 B m1 := h.upd hm (by unfold jl jh; rw [(jf_at hi 0 (jb 14) rfl rfl)]; exact hx) (.inl rfl) (.inl rfl) (fun e => absurd e (by decide))
theorem r15_0 (h : J S m0 B m) (g : Nat) (hi : 0 ≤ i ∧ i ≤ 3) : (-1) ≤ m g 15 i ∧ m g 15 i ≤ 364 := by
  have h1 := h.1.1 g 15 i (jq_of rfl)
  unfold jl jh at h1
  rw [(jf_at hi 0 (jb 15) rfl rfl)] at h1
  exact h1
theorem w15_0 (h : J S m0 B m) (hm : m1 = z_upd m g 15 i x) (hi : 0 ≤ i ∧ i ≤ 3) (hx : (-1) ≤ x ∧ x ≤ 364) : J S m0 B m1 := h.upd hm (by unfold jl jh; rw [(jf_at hi 0 (jb 15) rfl rfl)]; exact hx) (.inl rfl) (.inl rfl) (fun e => absurd e (by decide))
theorem r16_0 (h : J S m0 B m) (g : Nat) (hi : 0 ≤ i ∧ i ≤ 27) : 0 ≤ m g 16 i ∧ m g 16 i ≤ 7 := by
  have h1 := h.1.1 g 16 i (jq_of rfl)
  unfold jl jh at h1
  rw [(jf_at hi 0 (jb 16) rfl rfl)] at h1
  exact h1
theorem w16_0 (h : J S m0 B m) (hm : m1 = z_upd m g 16 i x) (hi : 0 ≤ i ∧ i ≤ 27) (hx : 0 ≤ x ∧ x ≤ 7) : J S m0 B m1 := h.upd hm (by unfold jl jh; rw [(jf_at hi 0 (jb 16) rfl rfl)]; exact hx) (.inl rfl) (.inl rfl) (fun e => absurd e (by decide))
theorem r17_0 (h : J S m0 B m) (g : Nat) (hi : 0 ≤ i ∧ i ≤ 15) : 0 ≤ m g 17 i ∧ m g 17 i ≤ 364 := by
  have h1 := h.1.1 g 17 i (jq_of rfl)
  unfold jl jh at h1
  rw [(jf_at hi 0 (jb 17) rfl rfl)] at h1
  exact h1
theorem w17_0 (h : J S m0 B m) (hm : m1 = z_upd m g 17 i x) (hi : 0 ≤ i ∧ i ≤ 15) (hx : 0 ≤ x ∧ x ≤ 364) : J S m0 B m1 := h.upd hm (by unfold jl jh; rw [(jf_at hi 0 (jb 17) rfl rfl)]; exact hx) (.inl rfl) (.inl rfl) (fun e => absurd e (by decide))
theorem r18_0 (h : J S m0 B m) (g : Nat) (hi : 0 ≤ i ∧ i ≤ 15) : 0 ≤ m g 18 i ∧ m g 18 i ≤ 7 := by
  have h1 := h.1.1 g 18 i (jq_of rfl)
  unfold jl jh at h1
  rw [(jf_at hi 0 (jb 18) rfl rfl)] at h1
  exact h1
theorem w18_0 (h : J S m0 B m) (hm : m1 = z_upd m g 18 i x) (hi : 0 ≤ i ∧ i ≤ 15) (hx : 0 ≤ x ∧ x ≤ 7) : J S m0 B m1 := h.upd hm (by unfold jl jh; rw [(jf_at hi 0 (jb 18) rfl rfl)]; exact hx) (.inl rfl) (.inl rfl) (fun e => absurd e (by decide))
theorem w19_0 (h : J S m0 B m) (hm : m1 = z_upd m g 19 i x) (hi : 0 ≤ i ∧ i ≤ 2) (hx : -9223372036854775808 ≤ x ∧ x ≤ 9223372036854775807) : J S m0 B m1 := h.upd hm (by unfold jl jh; rw [(jf_no hi (jb 19) rfl)]; exact hx) (.inl (by unfold jt; simp; try omega)) (.inl rfl) (fun e => absurd e (by decide))
theorem r19_3 (h : J S m0 B m) (g : Nat) : 1 ≤ m g 19 3 ∧ m g 19 3 ≤ 3 := by
  have h1 := h.1.1 g 19 3 (jq_of rfl)
  unfold jl jh at h1
  rw [(jf_at (show (3 : Int) ≤ 3 ∧ (3 : Int) ≤ 3 by omega) 0 (jb 19) rfl rfl)] at h1
  exact h1
theorem w19_3 (h : J S m0 B m) (hm : m1 = z_upd m g 19 3 x) (hx : 1 ≤ x ∧ x ≤ 3) (hs : S.1 g 19 3) : J S m0 B m1 := h.upd hm (by unfold jl jh; rw [(jf_at (show (3 : Int) ≤ 3 ∧ (3 : Int) ≤ 3 by omega) 0 (jb 19) rfl rfl)]; exact hx) (.inr hs) (.inl rfl) (fun e => absurd e (by decide))
theorem r19_4 (h : J S m0 B m) (g : Nat) : 4 ≤ m g 19 4 ∧ m g 19 4 ≤ 16 := by
  have h1 := h.1.1 g 19 4 (jq_of rfl)
  unfold jl jh at h1
  rw [(jf_at (show (4 : Int) ≤ 4 ∧ (4 : Int) ≤ 4 by omega) 1 (jb 19) rfl rfl)] at h1
  exact h1
theorem w19_4 (h : J S m0 B m) (hm : m1 = z_upd m g 19 4 x) (hx : 4 ≤ x ∧ x ≤ 16) (hs : S.1 g 19 4) : J S m0 B m1 := h.upd hm (by unfold jl jh; rw [(jf_at (show (4 : Int) ≤ 4 ∧ (4 : Int) ≤ 4 by omega) 1 (jb 19) rfl rfl)]; exact hx) (.inr hs) (.inl rfl) (fun e => absurd e (by decide))
theorem r19_5 (h : J S m0 B m) (g : Nat) : 0 ≤ m g 19 5 ∧ m g 19 5 ≤ 47 := by
  have h1 := h.1.1 g 19 5 (jq_of rfl)
  unfold jl jh at h1
  rw [(jf_at (show (5 : Int) ≤ 5 ∧ (5 : Int) ≤ 5 by omega) 2 (jb 19) rfl rfl)] at h1
  exact h1
theorem w19_5 (h : J S m0 B m) (hm : m1 = z_upd m g 19 5 x) (hx : 0 ≤ x ∧ x ≤ 47) (hs : S.1 g 19 5) : J S m0 B m1 := h.upd hm (by unfold jl jh; rw [(jf_at (show (5 : Int) ≤ 5 ∧ (5 : Int) ≤ 5 by omega) 2 (jb 19) rfl rfl)]; exact hx) (.inr hs) (.inl rfl) (fun e => absurd e (by decide))
theorem w19_6 (h : J S m0 B m) (hm : m1 = z_upd m g 19 6 x) (hx : -9223372036854775808 ≤ x ∧ x ≤ 9223372036854775807) : J S m0 B m1 := h.upd hm (by unfold jl jh; rw [(jf_no (show (6 : Int) ≤ 6 ∧ (6 : Int) ≤ 6 by omega) (jb 19) rfl)]; exact hx) (.inl (by unfold jt; simp; try omega)) (.inl rfl) (fun e => absurd e (by decide))
theorem r20_0 (h : J S m0 B m) (g : Nat) (hi : 0 ≤ i ∧ i ≤ 47) : (-500) ≤ m g 20 i ∧ m g 20 i ≤ 500 := by
  have h1 := h.1.1 g 20 i (jq_of rfl)
  unfold jl jh at h1
  rw [(jf_at hi 0 (jb 20) rfl rfl)] at h1
  exact h1
theorem w20_0 (h : J S m0 B m) (hm : m1 = z_upd m g 20 i x) (hi : 0 ≤ i ∧ i ≤ 47) (hx : (-500) ≤ x ∧ x ≤ 500) : J S m0 B m1 := h.upd hm (by unfold jl jh; rw [(jf_at hi 0 (jb 20) rfl rfl)]; exact hx) (.inl rfl) (.inl rfl) (fun e => absurd e (by decide))
theorem r21_0 (h : J S m0 B m) (g : Nat) (hi : 0 ≤ i ∧ i ≤ 47) : (-500) ≤ m g 21 i ∧ m g 21 i ≤ 500 := by
  have h1 := h.1.1 g 21 i (jq_of rfl)
  unfold jl jh at h1
  rw [(jf_at hi 0 (jb 21) rfl rfl)] at h1
  exact h1
theorem w21_0 (h : J S m0 B m) (hm : m1 = z_upd m g 21 i x) (hi : 0 ≤ i ∧ i ≤ 47) (hx : (-500) ≤ x ∧ x ≤ 500) : J S m0 B m1 := h.upd hm (by unfold jl jh; rw [(jf_at hi 0 (jb 21) rfl rfl)]; exact hx) (.inl rfl) (.inl rfl) (fun e => absurd e (by decide))
theorem w22_0 (h : J S m0 B m) (hm : m1 = z_upd m g 22 i x) (hi : 0 ≤ i ∧ i ≤ 15) (hx : -9223372036854775808 ≤ x ∧ x ≤ 9223372036854775807) : J S m0 B m1 := h.upd hm (by unfold jl jh; rw [(jf_no hi (jb 22) rfl)]; exact hx) (.inl rfl) (.inl rfl) (fun e => absurd e (by decide))
theorem w23_0 (h : J S m0 B m) (hm : m1 = z_upd m g 23 i x) (hi : 0 ≤ i ∧ i ≤ 2) (hx : -9223372036854775808 ≤ x ∧ x ≤ 9223372036854775807) : J S m0 B m1 := h.upd hm (by unfold jl jh; rw [(jf_no hi (jb 23) rfl)]; exact hx) (.inl (by unfold jt; simp; try omega)) (.inl rfl) (fun e => absurd e (by decide))
theorem r23_3 (h : J S m0 B m) (g : Nat) : 0 ≤ m g 23 3 ∧ m g 23 3 ≤ B := by
  have h1 := h.1.1 g 23 3 (jq_of rfl)
  unfold jl jh at h1
  rw [(jf_at (show (3 : Int) ≤ 3 ∧ (3 : Int) ≤ 3 by omega) 0 (jb 23) rfl rfl)] at h1
  exact h1
theorem w23_3 (h : J S m0 B m) (hm : m1 = z_upd m g 23 3 x) (hx : 0 ≤ x ∧ x ≤ B) (hs : S.1 g 23 3) : J S m0 B m1 := h.upd hm (by unfold jl jh; rw [(jf_at (show (3 : Int) ≤ 3 ∧ (3 : Int) ≤ 3 by omega) 0 (jb 23) rfl rfl)]; exact hx) (.inr hs) (.inl rfl) (fun e => absurd e (by decide))
theorem w24_0 (h : J S m0 B m) (hm : m1 = z_upd m g 24 i x) (hi : 0 ≤ i ∧ i ≤ 27) (hx : -9223372036854775808 ≤ x ∧ x ≤ 9223372036854775807) : J S m0 B m1 := h.upd hm (by unfold jl jh; rw [(jf_no hi (jb 24) rfl)]; exact hx) (.inl rfl) (.inl rfl) (fun e => absurd e (by decide))
theorem w25_0 (h : J S m0 B m) (hm : m1 = z_upd m g 25 i x) (hi : 0 ≤ i ∧ i ≤ 27) (hx : -9223372036854775808 ≤ x ∧ x ≤ 9223372036854775807) : J S m0 B m1 := h.upd hm (by unfold jl jh; rw [(jf_no hi (jb 25) rfl)]; exact hx) (.inl rfl) (.inl rfl) (fun e => absurd e (by decide))
theorem w26_0 (h : J S m0 B m) (hm : m1 = z_upd m g 26 i x) (hi : 0 ≤ i ∧ i ≤ 197) (hx : -9223372036854775808 ≤ x ∧ x ≤ 9223372036854775807) : J S m0 B m1 := h.upd hm (by unfold jl jh; rw [(jf_no hi (jb 26) rfl)]; exact hx) (.inl rfl) (.inl rfl) (fun e => absurd e (by decide))
theorem w27_0 (h : J S m0 B m) (hm : m1 = z_upd m g 27 i x) (hi : 0 ≤ i ∧ i ≤ 1) (hx : -9223372036854775808 ≤ x ∧ x ≤ 9223372036854775807) : J S m0 B m1 := h.upd hm (by unfold jl jh; rw [(jf_no hi (jb 27) rfl)]; exact hx) (.inl rfl) (.inl rfl) (fun e => absurd e (by decide))
theorem r27_2 (h : J S m0 B m) (g : Nat) : 0 ≤ m g 27 2 ∧ m g 27 2 ≤ B := by
  have h1 := h.1.1 g 27 2 (jq_of rfl)
  unfold jl jh at h1
  rw [(jf_at (show (2 : Int) ≤ 2 ∧ (2 : Int) ≤ 2 by omega) 0 (jb 27) rfl rfl)] at h1
  exact h1
theorem w27_2 (h : J S m0 B m) (hm : m1 = z_upd m g 27 2 x) (hx : 0 ≤ x ∧ x ≤ B) : J S m0 B m1 := h.upd hm (by unfold jl jh; rw [(jf_at (show (2 : Int) ≤ 2 ∧ (2 : Int) ≤ 2 by omega) 0 (jb 27) rfl rfl)]; exact hx) (.inl rfl) (.inl rfl) (fun e => absurd e (by decide))
theorem w27_3 (h : J S m0 B m) (hm : m1 = z_upd m g 27 i x) (hi : 3 ≤ i ∧ i ≤ 8) (hx : -9223372036854775808 ≤ x ∧ x ≤ 9223372036854775807) : J S m0 B m1 := h.upd hm (by unfold jl jh; rw [(jf_no hi (jb 27) rfl)]; exact hx) (.inl rfl) (.inl rfl) (fun e => absurd e (by decide))
theorem r27_9 (h : J S m0 B m) (g : Nat) : 0 ≤ m g 27 9 ∧ m g 27 9 ≤ 2000000000 := by
  have h1 := h.1.1 g 27 9 (jq_of rfl)
  unfold jl jh at h1
  rw [(jf_at (show (9 : Int) ≤ 9 ∧ (9 : Int) ≤ 9 by omega) 1 (jb 27) rfl rfl)] at h1
  exact h1
theorem w27_9 (h : J S m0 B m) (hm : m1 = z_upd m g 27 9 x) (hx : 0 ≤ x ∧ x ≤ 2000000000) : J S m0 B m1 := h.upd hm (by unfold jl jh; rw [(jf_at (show (9 : Int) ≤ 9 ∧ (9 : Int) ≤ 9 by omega) 1 (jb 27) rfl rfl)]; exact hx) (.inl rfl) (.inl rfl) (fun e => absurd e (by decide))
theorem w28_0 (h : J S m0 B m) (hm : m1 = z_upd m g 28 i x) (hi : 0 ≤ i ∧ i ≤ 383) (hx : -9223372036854775808 ≤ x ∧ x ≤ 9223372036854775807) : J S m0 B m1 := h.upd hm (by unfold jl jh; rw [(jf_no hi (jb 28) rfl)]; exact hx) (.inl rfl) (.inl rfl) (fun e => absurd e (by decide))
theorem w29_0 (h : J S m0 B m) (hm : m1 = z_upd m g 29 i x) (hi : 0 ≤ i ∧ i ≤ 3) (hx : -9223372036854775808 ≤ x ∧ x ≤ 9223372036854775807) : J S m0 B m1 := h.upd hm (by unfold jl jh; rw [(jf_no hi (jb 29) rfl)]; exact hx) (.inl rfl) (.inl rfl) (fun e => absurd e (by decide))
theorem w30_0 (h : J S m0 B m) (hm : m1 = z_upd m g 30 i x) (hi : 0 ≤ i ∧ i ≤ 3) (hx : -9223372036854775808 ≤ x ∧ x ≤ 9223372036854775807) : J S m0 B m1 := h.upd hm (by unfold jl jh; rw [(jf_no hi (jb 30) rfl)]; exact hx) (.inl rfl) (.inl rfl) (fun e => absurd e (by decide))
theorem w31_0 (h : J S m0 B m) (hm : m1 = z_upd m g 31 i x) (hi : 0 ≤ i ∧ i ≤ 3) (hx : -9223372036854775808 ≤ x ∧ x ≤ 9223372036854775807) : J S m0 B m1 := h.upd hm (by unfold jl jh; rw [(jf_no hi (jb 31) rfl)]; exact hx) (.inl rfl) (.inl rfl) (fun e => absurd e (by decide))
theorem w32_0 (h : J S m0 B m) (hm : m1 = z_upd m g 32 i x) (hi : 0 ≤ i ∧ i ≤ 3) (hx : -9223372036854775808 ≤ x ∧ x ≤ 9223372036854775807) : J S m0 B m1 := h.upd hm (by unfold jl jh; rw [(jf_no hi (jb 32) rfl)]; exact hx) (.inl rfl) (.inl rfl) (fun e => absurd e (by decide))
theorem w33_0 (h : J S m0 B m) (hm : m1 = z_upd m g 33 i x) (hi : 0 ≤ i ∧ i ≤ 3) (hx : -9223372036854775808 ≤ x ∧ x ≤ 9223372036854775807) : J S m0 B m1 := h.upd hm (by unfold jl jh; rw [(jf_no hi (jb 33) rfl)]; exact hx) (.inl rfl) (.inl rfl) (fun e => absurd e (by decide))
theorem w34_0 (h : J S m0 B m) (hm : m1 = z_upd m g 34 i x) (hi : 0 ≤ i ∧ i ≤ 4) (hx : -9223372036854775808 ≤ x ∧ x ≤ 9223372036854775807) : J S m0 B m1 := h.upd hm (by unfold jl jh; rw [(jf_no hi (jb 34) rfl)]; exact hx) (.inl rfl) (.inl rfl) (fun e => absurd e (by decide))
theorem w35_0 (h : J S m0 B m) (hm : m1 = z_upd m g 35 i x) (hi : 0 ≤ i ∧ i ≤ 4) (hx : -9223372036854775808 ≤ x ∧ x ≤ 9223372036854775807) : J S m0 B m1 := h.upd hm (by unfold jl jh; rw [(jf_no hi (jb 35) rfl)]; exact hx) (.inl rfl) (.inl rfl) (fun e => absurd e (by decide))
theorem w36_0 (h : J S m0 B m) (hm : m1 = z_upd m g 36 i x) (hi : 0 ≤ i ∧ i ≤ 4) (hx : -9223372036854775808 ≤ x ∧ x ≤ 9223372036854775807) : J S m0 B m1 := h.upd hm (by unfold jl jh; rw [(jf_no hi (jb 36) rfl)]; exact hx) (.inl rfl) (.inl rfl) (fun e => absurd e (by decide))
theorem w37_0 (h : J S m0 B m) (hm : m1 = z_upd m g 37 0 x) (hx : -9223372036854775808 ≤ x ∧ x ≤ 9223372036854775807) : J S m0 B m1 := h.upd hm (by unfold jl jh; rw [(jf_no (show (0 : Int) ≤ 0 ∧ (0 : Int) ≤ 0 by omega) (jb 37) rfl)]; exact hx) (.inl rfl) (.inl rfl) (fun e => absurd e (by decide))
theorem r37_1 (h : J S m0 B m) (g : Nat) : 0 ≤ m g 37 1 ∧ m g 37 1 ≤ B := by
  have h1 := h.1.1 g 37 1 (jq_of rfl)
  unfold jl jh at h1
  rw [(jf_at (show (1 : Int) ≤ 1 ∧ (1 : Int) ≤ 1 by omega) 0 (jb 37) rfl rfl)] at h1
  exact h1
theorem w37_1 (h : J S m0 B m) (hm : m1 = z_upd m g 37 1 x) (hx : 0 ≤ x ∧ x ≤ B) : J S m0 B m1 := h.upd hm (by unfold jl jh; rw [(jf_at (show (1 : Int) ≤ 1 ∧ (1 : Int) ≤ 1 by omega) 0 (jb 37) rfl rfl)]; exact hx) (.inl rfl) (.inl rfl) (fun e => absurd e (by decide))
theorem w38_0 (h : J S m0 B m) (hm : m1 = z_upd m g 38 i x) (hi : 0 ≤ i ∧ i ≤ 119) (hx : -9223372036854775808 ≤ x ∧ x ≤ 9223372036854775807) : J S m0 B m1 := h.upd hm (by unfold jl jh; rw [(jf_no hi (jb 38) rfl)]; exact hx) (.inl rfl) (.inl rfl) (fun e => absurd e (by decide))
theorem r39_0 (h : J S m0 B m) (g : Nat) : 0 ≤ m g 39 0 ∧ m g 39 0 ≤ 1 := by
  have h1 := h.1.1 g 39 0 (jq_of rfl)
  unfold jl jh at h1
  rw [(jf_at (show (0 : Int) ≤ 0 ∧ (0 : Int) ≤ 0 by omega) 0 (jb 39) rfl rfl)] at h1
  exact h1
theorem w39_0 (h : J S m0 B m) (hm : m1 = z_upd m g 39 0 x) (hx : 0 ≤ x ∧ x ≤ 1) (hs : S.1 g 39 0) : J S m0 B m1 := h.upd hm (by unfold jl jh; rw [(jf_at (show (0 : Int) ≤ 0 ∧ (0 : Int) ≤ 0 by omega) 0 (jb 39) rfl rfl)]; exact hx) (.inr hs) (.inl rfl) (fun e => absurd e (by decide))
theorem w39_1 (h : J S m0 B m) (hm : m1 = z_upd m g 39 1 x) (hx : -9223372036854775808 ≤ x ∧ x ≤ 9223372036854775807) (hs : S.1 g 39 1) : J S m0 B m1 := h.upd hm (by unfold jl jh; rw [(jf_no (show (1 : Int) ≤ 1 ∧ (1 : Int) ≤ 1 by omega) (jb 39) rfl)]; exact hx) (.inr hs) (.inl rfl) (fun e => absurd e (by decide))
theorem r39_2 (h : J S m0 B m) (g : Nat) : 0 ≤ m g 39 2 ∧ m g 39 2 ≤ B := by
  have h1 := h.1.1 g 39 2 (jq_of rfl)
  unfold jl jh at h1
  rw [(jf_at (show (2 : Int) ≤ 2 ∧ (2 : Int) ≤ 2 by omega) 1 (jb 39) rfl rfl)] at h1
  exact h1
theorem w39_2 (h : J S m0 B m) (hm : m1 = z_upd m g 39 2 x) (hx : 0 ≤ x ∧ x ≤ B) (hs : S.1 g 39 2) : J S m0 B m1 := h.upd hm (by unfold jl jh; rw [(jf_at (show (2 : Int) ≤ 2 ∧ (2 : Int) ≤ 2 by omega) 1 (jb 39) rfl rfl)]; exact hx) (.inr hs) (.inl rfl) (fun e => absurd e (by decide))
theorem w39_3 (h : J S m0 B m) (hm : m1 = z_upd m g 39 3 x) (hx : -9223372036854775808 ≤ x ∧ x ≤ 9223372036854775807) : J S m0 B m1 := h.upd hm (by unfold jl jh; rw [(jf_no (show (3 : Int) ≤ 3 ∧ (3 : Int) ≤ 3 by omega) (jb 39) rfl)]; exact hx) (.inl (by unfold jt; simp; try omega)) (.inl rfl) (fun e => absurd e (by decide))
theorem r39_4 (h : J S m0 B m) (g : Nat) : 0 ≤ m g 39 4 ∧ m g 39 4 ≤ 2000000300 := by
  have h1 := h.1.1 g 39 4 (jq_of rfl)
  unfold jl jh at h1
  rw [(jf_at (show (4 : Int) ≤ 4 ∧ (4 : Int) ≤ 4 by omega) 2 (jb 39) rfl rfl)] at h1
  exact h1
theorem w39_4 (h : J S m0 B m) (hm : m1 = z_upd m g 39 4 x) (hx : 0 ≤ x ∧ x ≤ 2000000300) (hs : S.1 g 39 4) : J S m0 B m1 := h.upd hm (by unfold jl jh; rw [(jf_at (show (4 : Int) ≤ 4 ∧ (4 : Int) ≤ 4 by omega) 2 (jb 39) rfl rfl)]; exact hx) (.inr hs) (.inl rfl) (fun e => absurd e (by decide))
theorem w40_0 (h : J S m0 B m) (hm : m1 = z_upd m g 40 i x) (hi : 0 ≤ i ∧ i ≤ 3) (hx : -9223372036854775808 ≤ x ∧ x ≤ 9223372036854775807) : J S m0 B m1 := h.upd hm (by unfold jl jh; rw [(jf_no hi (jb 40) rfl)]; exact hx) (.inl (by unfold jt; simp; try omega)) (.inl rfl) (fun e => absurd e (by decide))
theorem r40_4 (h : J S m0 B m) (g : Nat) : 0 ≤ m g 40 4 ∧ m g 40 4 ≤ 1 := by
  have h1 := h.1.1 g 40 4 (jq_of rfl)
  unfold jl jh at h1
  rw [(jf_at (show (4 : Int) ≤ 4 ∧ (4 : Int) ≤ 4 by omega) 0 (jb 40) rfl rfl)] at h1
  exact h1
theorem w40_4 (h : J S m0 B m) (hm : m1 = z_upd m g 40 4 x) (hx : 0 ≤ x ∧ x ≤ 1) (hs : S.1 g 40 4) : J S m0 B m1 := h.upd hm (by unfold jl jh; rw [(jf_at (show (4 : Int) ≤ 4 ∧ (4 : Int) ≤ 4 by omega) 0 (jb 40) rfl rfl)]; exact hx) (.inr hs) (.inl rfl) (fun e => absurd e (by decide))
theorem w41_0 (h : J S m0 B m) (hm : m1 = z_upd m g 41 i x) (hi : 0 ≤ i ∧ i ≤ 2) (hx : -9223372036854775808 ≤ x ∧ x ≤ 9223372036854775807) : J S m0 B m1 := h.upd hm (by unfold jl jh; rw [(jf_no hi (jb 41) rfl)]; exact hx) (.inl (by unfold jt; simp; try omega)) (.inl rfl) (fun e => absurd e (by decide))
theorem r41_3 (h : J S m0 B m) (g : Nat) : 0 ≤ m g 41 3 ∧ m g 41 3 ≤ 300 := by
  have h1 := h.1.1 g 41 3 (jq_of rfl)
  unfold jl jh at h1
  rw [(jf_at (show (3 : Int) ≤ 3 ∧ (3 : Int) ≤ 3 by omega) 0 (jb 41) rfl rfl)] at h1
  exact h1
theorem w41_3 (h : J S m0 B m) (hm : m1 = z_upd m g 41 3 x) (hx : 0 ≤ x ∧ x ≤ 300) (hs : S.1 g 41 3) : J S m0 B m1 := h.upd hm (by unfold jl jh; rw [(jf_at (show (3 : Int) ≤ 3 ∧ (3 : Int) ≤ 3 by omega) 0 (jb 41) rfl rfl)]; exact hx) (.inr hs) (.inl rfl) (fun e => absurd e (by decide))
theorem w41_4 (h : J S m0 B m) (hm : m1 = z_upd m g 41 i x) (hi : 4 ≤ i ∧ i ≤ 5) (hx : -9223372036854775808 ≤ x ∧ x ≤ 9223372036854775807) : J S m0 B m1 := h.upd hm (by unfold jl jh; rw [(jf_no hi (jb 41) rfl)]; exact hx) (.inl (by unfold jt; simp; try omega)) (.inl rfl) (fun e => absurd e (by decide))
theorem r41_6 (h : J S m0 B m) (g : Nat) : 0 ≤ m g 41 6 ∧ m g 41 6 ≤ 1 := by
  have h1 := h.1.1 g 41 6 (jq_of rfl)
  unfold jl jh at h1
  rw [(jf_at (show (6 : Int) ≤ 6 ∧ (6 : Int) ≤ 6 by omega) 1 (jb 41) rfl rfl)] at h1
  exact h1
theorem w41_6 (h : J S m0 B m) (hm : m1 = z_upd m g 41 6 x) (hx : 0 ≤ x ∧ x ≤ 1) : J S m0 B m1 := h.upd hm (by unfold jl jh; rw [(jf_at (show (6 : Int) ≤ 6 ∧ (6 : Int) ≤ 6 by omega) 1 (jb 41) rfl rfl)]; exact hx) (.inl (by unfold jt; simp; try omega)) (.inl rfl) (fun e => absurd e (by decide))
theorem r41_7 (h : J S m0 B m) (g : Nat) : 0 ≤ m g 41 7 ∧ m g 41 7 ≤ 300 := by
  have h1 := h.1.1 g 41 7 (jq_of rfl)
  unfold jl jh at h1
  rw [(jf_at (show (7 : Int) ≤ 7 ∧ (7 : Int) ≤ 7 by omega) 2 (jb 41) rfl rfl)] at h1
  exact h1
theorem w41_7 (h : J S m0 B m) (hm : m1 = z_upd m g 41 7 x) (hx : 0 ≤ x ∧ x ≤ 300) : J S m0 B m1 := h.upd hm (by unfold jl jh; rw [(jf_at (show (7 : Int) ≤ 7 ∧ (7 : Int) ≤ 7 by omega) 2 (jb 41) rfl rfl)]; exact hx) (.inl (by unfold jt; simp; try omega)) (.inl rfl) (fun e => absurd e (by decide))
theorem w41_8 (h : J S m0 B m) (hm : m1 = z_upd m g 41 i x) (hi : 8 ≤ i ∧ i ≤ 10) (hx : -9223372036854775808 ≤ x ∧ x ≤ 9223372036854775807) : J S m0 B m1 := h.upd hm (by unfold jl jh; rw [(jf_no hi (jb 41) rfl)]; exact hx) (.inl (by unfold jt; simp; try omega)) (.inl rfl) (fun e => absurd e (by decide))
theorem r42_0 (h : J S m0 B m) (g : Nat) (hi : 0 ≤ i ∧ i ≤ 299) : 0 ≤ m g 42 i ∧ m g 42 i ≤ 255 := by
  have h1 := h.1.1 g 42 i (jq_of rfl)
  unfold jl jh at h1
  rw [(jf_at hi 0 (jb 42) rfl rfl)] at h1
  exact h1
theorem w42_0 (h : J S m0 B m) (hm : m1 = z_upd m g 42 i x) (hi : 0 ≤ i ∧ i ≤ 299) (hx : 0 ≤ x ∧ x ≤ 255) : J S m0 B m1 := h.upd hm (by unfold jl jh; rw [(jf_at hi 0 (jb 42) rfl rfl)]; exact hx) (.inl rfl) (.inl rfl) (fun e => absurd e (by decide))
theorem r43_0 (h : J S m0 B m) (g : Nat) (hi : 0 ≤ i ∧ i ≤ 3) : 0 ≤ m g 43 i ∧ m g 43 i ≤ 100 := by
  have h1 := h.1.1 g 43 i (jq_of rfl)
  unfold jl jh at h1
  rw [(jf_at hi 0 (jb 43) rfl rfl)] at h1
  exact h1
theorem w43_0 (h : J S m0 B m) (hm : m1 = z_upd m g 43 i x) (hi : 0 ≤ i ∧ i ≤ 3) (hx : 0 ≤ x ∧ x ≤ 100) : J S m0 B m1 := h.upd hm (by unfold jl jh; rw [(jf_at hi 0 (jb 43) rfl rfl)]; exact hx) (.inl rfl) (.inl rfl) (fun e => absurd e (by decide))
theorem w44_0 (h : J S m0 B m) (hm : m1 = z_upd m g 44 i x) (hi : 0 ≤ i ∧ i ≤ 2) (hx : -9223372036854775808 ≤ x ∧ x ≤ 9223372036854775807) : J S m0 B m1 := h.upd hm (by unfold jl jh; rw [(jf_no hi (jb 44) rfl)]; exact hx) (.inl (by unfold jt; simp; try omega)) (.inl (by unfold jn; simp; omega)) (fun _ => by omega)
theorem r44_3 (h : J S m0 B m) (g : Nat) : 0 ≤ m g 44 3 ∧ m g 44 3 ≤ 1 := by
  have h1 := h.1.1 g 44 3 (jq_of rfl)
  unfold jl jh at h1
  rw [(jf_at (show (3 : Int) ≤ 3 ∧ (3 : Int) ≤ 3 by omega) 0 (jb 44) rfl rfl)] at h1
  exact h1
theorem w44_4 (h : J S m0 B m) (hm : m1 = z_upd m g 44 4 x) (hx : -9223372036854775808 ≤ x ∧ x ≤ 9223372036854775807) : J S m0 B m1 := h.upd hm (by unfold jl jh; rw [(jf_no (show (4 : Int) ≤ 4 ∧ (4 : Int) ≤ 4 by omega) (jb 44) rfl)]; exact hx) (.inl (by unfold jt; simp; try omega)) (.inl rfl) (fun _ => by decide)
theorem r44_5 (h : J S m0 B m) (g : Nat) : 0 ≤ m g 44 5 ∧ m g 44 5 ≤ 300 := by
  have h1 := h.1.1 g 44 5 (jq_of rfl)
  unfold jl jh at h1
  rw [(jf_at (show (5 : Int) ≤ 5 ∧ (5 : Int) ≤ 5 by omega) 1 (jb 44) rfl rfl)] at h1
  exact h1
theorem w44_5 (h : J S m0 B m) (hm : m1 = z_upd m g 44 5 x) (hx : 0 ≤ x ∧ x ≤ 300) (hs : S.1 g 44 5) : J S m0 B m1 := h.upd hm (by unfold jl jh; rw [(jf_at (show (5 : Int) ≤ 5 ∧ (5 : Int) ≤ 5 by omega) 1 (jb 44) rfl rfl)]; exact hx) (.inr hs) (.inl rfl) (fun _ => by decide)
theorem w44_6 (h : J S m0 B m) (hm : m1 = z_upd m g 44 i x) (hi : 6 ≤ i ∧ i ≤ 7) (hx : -9223372036854775808 ≤ x ∧ x ≤ 9223372036854775807) : J S m0 B m1 := h.upd hm (by unfold jl jh; rw [(jf_no hi (jb 44) rfl)]; exact hx) (.inl (by unfold jt; simp; try omega)) (.inl (by unfold jn; simp; omega)) (fun _ => by omega)
theorem r44_8 (h : J S m0 B m) (g : Nat) : 0 ≤ m g 44 8 ∧ m g 44 8 ≤ 300 := by
  have h1 := h.1.1 g 44 8 (jq_of rfl)
  unfold jl jh at h1
  rw [(jf_at (show (8 : Int) ≤ 8 ∧ (8 : Int) ≤ 8 by omega) 2 (jb 44) rfl rfl)] at h1
  exact h1
theorem w44_8 (h : J S m0 B m) (hm : m1 = z_upd m g 44 8 x) (hx : 0 ≤ x ∧ x ≤ 300) (hn : m g 44 8 ≤ x ∨ S.1 g 44 8) : J S m0 B m1 := h.upd hm (by unfold jl jh; rw [(jf_at (show (8 : Int) ≤ 8 ∧ (8 : Int) ≤ 8 by omega) 2 (jb 44) rfl rfl)]; exact hx) (.inl (by unfold jt; simp; try omega)) (.inr hn) (fun _ => by decide)
theorem r44_9 (h : J S m0 B m) (g : Nat) : 0 ≤ m g 44 9 ∧ m g 44 9 ≤ 1 := by
  have h1 := h.1.1 g 44 9 (jq_of rfl)
  unfold jl jh at h1
  rw [(jf_at (show (9 : Int) ≤ 9 ∧ (9 : Int) ≤ 9 by omega) 3 (jb 44) rfl rfl)] at h1
  exact h1
theorem w44_9 (h : J S m0 B m) (hm : m1 = z_upd m g 44 9 x) (hx : 0 ≤ x ∧ x ≤ 1) (hn : m g 44 9 ≤ x ∨ S.1 g 44 9) : J S m0 B m1 := h.upd hm (by unfold jl jh; rw [(jf_at (show (9 : Int) ≤ 9 ∧ (9 : Int) ≤ 9 by omega) 3 (jb 44) rfl rfl)]; exact hx) (.inl (by unfold jt; simp; try omega)) (.inr hn) (fun _ => by decide)
theorem w44_10 (h : J S m0 B m) (hm : m1 = z_upd m g 44 i x) (hi : 10 ≤ i ∧ i ≤ 13) (hx : -9223372036854775808 ≤ x ∧ x ≤ 9223372036854775807) : J S m0 B m1 := h.upd hm (by unfold jl jh; rw [(jf_no hi (jb 44) rfl)]; exact hx) (.inl (by unfold jt; simp; try omega)) (.inl (by unfold jn; simp; omega)) (fun _ => by omega)
theorem r44_14 (h : J S m0 B m) (g : Nat) : 0 ≤ m g 44 14 ∧ m g 44 14 ≤ 1 := by
  have h1 := h.1.1 g 44 14 (jq_of rfl)
  unfold jl jh at h1
  rw [(jf_at (show (14 : Int) ≤ 14 ∧ (14 : Int) ≤ 14 by omega) 4 (jb 44) rfl rfl)] at h1
  exact h1
theorem w44_14 (h : J S m0 B m) (hm : m1 = z_upd m g 44 14 x) (hx : 0 ≤ x ∧ x ≤ 1) : J S m0 B m1 := h.upd hm (by unfold jl jh; rw [(jf_at (show (14 : Int) ≤ 14 ∧ (14 : Int) ≤ 14 by omega) 4 (jb 44) rfl rfl)]; exact hx) (.inl (by unfold jt; simp; try omega)) (.inl rfl) (fun _ => by decide)
theorem r45_0 (h : J S m0 B m) (g : Nat) : 0 ≤ m g 45 0 ∧ m g 45 0 ≤ 2000000000 := by
  have h1 := h.1.1 g 45 0 (jq_of rfl)
  unfold jl jh at h1
  rw [(jf_at (show (0 : Int) ≤ 0 ∧ (0 : Int) ≤ 0 by omega) 0 (jb 45) rfl rfl)] at h1
  exact h1
theorem w45_0 (h : J S m0 B m) (hm : m1 = z_upd m g 45 0 x) (hx : 0 ≤ x ∧ x ≤ 2000000000) (hs : S.1 g 45 0) : J S m0 B m1 := h.upd hm (by unfold jl jh; rw [(jf_at (show (0 : Int) ≤ 0 ∧ (0 : Int) ≤ 0 by omega) 0 (jb 45) rfl rfl)]; exact hx) (.inr hs) (.inl rfl) (fun e => absurd e (by decide))
theorem r45_1 (h : J S m0 B m) (g : Nat) : 1 ≤ m g 45 1 ∧ m g 45 1 ≤ 3 := by
  have h1 := h.1.1 g 45 1 (jq_of rfl)
  unfold jl jh at h1
  rw [(jf_at (show (1 : Int) ≤ 1 ∧ (1 : Int) ≤ 1 by omega) 1 (jb 45) rfl rfl)] at h1
  exact h1
theorem w45_1 (h : J S m0 B m) (hm : m1 = z_upd m g 45 1 x) (hx : 1 ≤ x ∧ x ≤ 3) (hs : S.1 g 45 1) : J S m0 B m1 := h.upd hm (by unfold jl jh; rw [(jf_at (show (1 : Int) ≤ 1 ∧ (1 : Int) ≤ 1 by omega) 1 (jb 45) rfl rfl)]; exact hx) (.inr hs) (.inl rfl) (fun e => absurd e (by decide))
theorem r45_2 (h : J S m0 B m) (g : Nat) : 4 ≤ m g 45 2 ∧ m g 45 2 ≤ 16 := by
  have h1 := h.1.1 g 45 2 (jq_of rfl)
  unfold jl jh at h1
  rw [(jf_at (show (2 : Int) ≤ 2 ∧ (2 : Int) ≤ 2 by omega) 2 (jb 45) rfl rfl)] at h1
  exact h1
theorem w45_2 (h : J S m0 B m) (hm : m1 = z_upd m g 45 2 x) (hx : 4 ≤ x ∧ x ≤ 16) (hs : S.1 g 45 2) : J S m0 B m1 := h.upd hm (by unfold jl jh; rw [(jf_at (show (2 : Int) ≤ 2 ∧ (2 : Int) ≤ 2 by omega) 2 (jb 45) rfl rfl)]; exact hx) (.inr hs) (.inl rfl) (fun e => absurd e (by decide))
theorem r45_3 (h : J S m0 B m) (g : Nat) : 0 ≤ m g 45 3 ∧ m g 45 3 ≤ 47 := by
  have h1 := h.1.1 g 45 3 (jq_of rfl)
  unfold jl jh at h1
  rw [(jf_at (show (3 : Int) ≤ 3 ∧ (3 : Int) ≤ 3 by omega) 3 (jb 45) rfl rfl)] at h1
  exact h1
theorem w45_3 (h : J S m0 B m) (hm : m1 = z_upd m g 45 3 x) (hx : 0 ≤ x ∧ x ≤ 47) (hs : S.1 g 45 3) : J S m0 B m1 := h.upd hm (by unfold jl jh; rw [(jf_at (show (3 : Int) ≤ 3 ∧ (3 : Int) ≤ 3 by omega) 3 (jb 45) rfl rfl)]; exact hx) (.inr hs) (.inl rfl) (fun e => absurd e (by decide))
theorem w45_4 (h : J S m0 B m) (hm : m1 = z_upd m g 45 4 x) (hx : -9223372036854775808 ≤ x ∧ x ≤ 9223372036854775807) : J S m0 B m1 := h.upd hm (by unfold jl jh; rw [(jf_no (show (4 : Int) ≤ 4 ∧ (4 : Int) ≤ 4 by omega) (jb 45) rfl)]; exact hx) (.inl (by unfold jt; simp; try omega)) (.inl rfl) (fun e => absurd e (by decide))
theorem r45_5 (h : J S m0 B m) (g : Nat) : 1 ≤ m g 45 5 ∧ m g 45 5 ≤ 1000000 := by
  have h1 := h.1.1 g 45 5 (jq_of rfl)
  unfold jl jh at h1
  rw [(jf_at (show (5 : Int) ≤ 5 ∧ (5 : Int) ≤ 5 by omega) 4 (jb 45) rfl rfl)] at h1
  exact h1
theorem w45_5 (h : J S m0 B m) (hm : m1 = z_upd m g 45 5 x) (hx : 1 ≤ x ∧ x ≤ 1000000) : J S m0 B m1 := h.upd hm (by unfold jl jh; rw [(jf_at (show (5 : Int) ≤ 5 ∧ (5 : Int) ≤ 5 by omega) 4 (jb 45) rfl rfl)]; exact hx) (.inl (by unfold jt; simp; try omega)) (.inl rfl) (fun e => absurd e (by decide))
theorem w45_6 (h : J S m0 B m) (hm : m1 = z_upd m g 45 i x) (hi : 6 ≤ i ∧ i ≤ 7) (hx : -9223372036854775808 ≤ x ∧ x ≤ 9223372036854775807) : J S m0 B m1 := h.upd hm (by unfold jl jh; rw [(jf_no hi (jb 45) rfl)]; exact hx) (.inl (by unfold jt; simp; try omega)) (.inl rfl) (fun e => absurd e (by decide))
theorem r45_8 (h : J S m0 B m) (g : Nat) : 1 ≤ m g 45 8 ∧ m g 45 8 ≤ 3600 := by
  have h1 := h.1.1 g 45 8 (jq_of rfl)
  unfold jl jh at h1
  rw [(jf_at (show (8 : Int) ≤ 8 ∧ (8 : Int) ≤ 8 by omega) 5 (jb 45) rfl rfl)] at h1
  exact h1
theorem w45_8 (h : J S m0 B m) (hm : m1 = z_upd m g 45 8 x) (hx : 1 ≤ x ∧ x ≤ 3600) : J S m0 B m1 := h.upd hm (by unfold jl jh; rw [(jf_at (show (8 : Int) ≤ 8 ∧ (8 : Int) ≤ 8 by omega) 5 (jb 45) rfl rfl)]; exact hx) (.inl (by unfold jt; simp; try omega)) (.inl rfl) (fun e => absurd e (by decide))
theorem r45_9 (h : J S m0 B m) (g : Nat) : 1 ≤ m g 45 9 ∧ m g 45 9 ≤ 6 := by
  have h1 := h.1.1 g 45 9 (jq_of rfl)
  unfold jl jh at h1
  rw [(jf_at (show (9 : Int) ≤ 9 ∧ (9 : Int) ≤ 9 by omega) 6 (jb 45) rfl rfl)] at h1
  exact h1
theorem w45_9 (h : J S m0 B m) (hm : m1 = z_upd m g 45 9 x) (hx : 1 ≤ x ∧ x ≤ 6) : J S m0 B m1 := h.upd hm (by unfold jl jh; rw [(jf_at (show (9 : Int) ≤ 9 ∧ (9 : Int) ≤ 9 by omega) 6 (jb 45) rfl rfl)]; exact hx) (.inl (by unfold jt; simp; try omega)) (.inl rfl) (fun e => absurd e (by decide))
theorem w45_10 (h : J S m0 B m) (hm : m1 = z_upd m g 45 10 x) (hx : -9223372036854775808 ≤ x ∧ x ≤ 9223372036854775807) : J S m0 B m1 := h.upd hm (by unfold jl jh; rw [(jf_no (show (10 : Int) ≤ 10 ∧ (10 : Int) ≤ 10 by omega) (jb 45) rfl)]; exact hx) (.inl (by unfold jt; simp; try omega)) (.inl rfl) (fun e => absurd e (by decide))
theorem r45_11 (h : J S m0 B m) (g : Nat) : 0 ≤ m g 45 11 ∧ m g 45 11 ≤ 1 := by
  have h1 := h.1.1 g 45 11 (jq_of rfl)
  unfold jl jh at h1
  rw [(jf_at (show (11 : Int) ≤ 11 ∧ (11 : Int) ≤ 11 by omega) 7 (jb 45) rfl rfl)] at h1
  exact h1
theorem w45_11 (h : J S m0 B m) (hm : m1 = z_upd m g 45 11 x) (hx : 0 ≤ x ∧ x ≤ 1) (hs : S.1 g 45 11) : J S m0 B m1 := h.upd hm (by unfold jl jh; rw [(jf_at (show (11 : Int) ≤ 11 ∧ (11 : Int) ≤ 11 by omega) 7 (jb 45) rfl rfl)]; exact hx) (.inr hs) (.inl rfl) (fun e => absurd e (by decide))
theorem r45_12 (h : J S m0 B m) (g : Nat) : 0 ≤ m g 45 12 ∧ m g 45 12 ≤ 1 := by
  have h1 := h.1.1 g 45 12 (jq_of rfl)
  unfold jl jh at h1
  rw [(jf_at (show (12 : Int) ≤ 12 ∧ (12 : Int) ≤ 12 by omega) 8 (jb 45) rfl rfl)] at h1
  exact h1
theorem w45_12 (h : J S m0 B m) (hm : m1 = z_upd m g 45 12 x) (hx : 0 ≤ x ∧ x ≤ 1) : J S m0 B m1 := h.upd hm (by unfold jl jh; rw [(jf_at (show (12 : Int) ≤ 12 ∧ (12 : Int) ≤ 12 by omega) 8 (jb 45) rfl rfl)]; exact hx) (.inl (by unfold jt; simp; try omega)) (.inl rfl) (fun e => absurd e (by decide))
theorem r45_13 (h : J S m0 B m) (g : Nat) : 0 ≤ m g 45 13 ∧ m g 45 13 ≤ B := by
  have h1 := h.1.1 g 45 13 (jq_of rfl)
  unfold jl jh at h1
  rw [(jf_at (show (13 : Int) ≤ 13 ∧ (13 : Int) ≤ 13 by omega) 9 (jb 45) rfl rfl)] at h1
  exact h1
theorem w45_13 (h : J S m0 B m) (hm : m1 = z_upd m g 45 13 x) (hx : 0 ≤ x ∧ x ≤ B) (hs : S.1 g 45 13) : J S m0 B m1 := h.upd hm (by unfold jl jh; rw [(jf_at (show (13 : Int) ≤ 13 ∧ (13 : Int) ≤ 13 by omega) 9 (jb 45) rfl rfl)]; exact hx) (.inr hs) (.inl rfl) (fun e => absurd e (by decide))
theorem w45_14 (h : J S m0 B m) (hm : m1 = z_upd m g 45 i x) (hi : 14 ≤ i ∧ i ≤ 15) (hx : -9223372036854775808 ≤ x ∧ x ≤ 9223372036854775807) : J S m0 B m1 := h.upd hm (by unfold jl jh; rw [(jf_no hi (jb 45) rfl)]; exact hx) (.inl (by unfold jt; simp; try omega)) (.inl rfl) (fun e => absurd e (by decide))
theorem r45_16 (h : J S m0 B m) (g : Nat) : 0 ≤ m g 45 16 ∧ m g 45 16 ≤ B := by
  have h1 := h.1.1 g 45 16 (jq_of rfl)
  unfold jl jh at h1
  rw [(jf_at (show (16 : Int) ≤ 16 ∧ (16 : Int) ≤ 16 by omega) 10 (jb 45) rfl rfl)] at h1
  exact h1
theorem w45_16 (h : J S m0 B m) (hm : m1 = z_upd m g 45 16 x) (hx : 0 ≤ x ∧ x ≤ B) : J S m0 B m1 := h.upd hm (by unfold jl jh; rw [(jf_at (show (16 : Int) ≤ 16 ∧ (16 : Int) ≤ 16 by omega) 10 (jb 45) rfl rfl)]; exact hx) (.inl (by unfold jt; simp; try omega)) (.inl rfl) (fun e => absurd e (by decide))
theorem r45_17 (h : J S m0 B m) (g : Nat) : 0 ≤ m g 45 17 ∧ m g 45 17 ≤ B := by
  have h1 := h.1.1 g 45 17 (jq_of rfl)
  unfold jl jh at h1
  rw [(jf_at (show (17 : Int) ≤ 17 ∧ (17 : Int) ≤ 17 by omega) 11 (jb 45) rfl rfl)] at h1
  exact h1
theorem w45_17 (h : J S m0 B m) (hm : m1 = z_upd m g 45 17 x) (hx : 0 ≤ x ∧ x ≤ B) : J S m0 B m1 := h.upd hm (by unfold jl jh; rw [(jf_at (show (17 : Int) ≤ 17 ∧ (17 : Int) ≤ 17 by omega) 11 (jb 45) rfl rfl)]; exact hx) (.inl (by unfold jt; simp; try omega)) (.inl rfl) (fun e => absurd e (by decide))
theorem r45_18 (h : J S m0 B m) (g : Nat) : 0 ≤ m g 45 18 ∧ m g 45 18 ≤ B := by
  have h1 := h.1.1 g 45 18 (jq_of rfl)
  unfold jl jh at h1
  rw [(jf_at (show (18 : Int) ≤ 18 ∧ (18 : Int) ≤ 18 by omega) 12 (jb 45) rfl rfl)] at h1
  exact h1
theorem w45_18 (h : J S m0 B m) (hm : m1 = z_upd m g 45 18 x) (hx : 0 ≤ x ∧ x ≤ B) (hs : S.1 g 45 18) : J S m0 B m1 := h.upd hm (by unfold jl jh; rw [(jf_at (show (18 : Int) ≤ 18 ∧ (18 : Int) ≤ 18 by omega) 12 (jb 45) rfl rfl)]; exact hx) (.inr hs) (.inl rfl) (fun e => absurd e (by decide))
theorem w45_19 (h : J S m0 B m) (hm : m1 = z_upd m g 45 i x) (hi : 19 ≤ i ∧ i ≤ 286) (hx : -9223372036854775808 ≤ x ∧ x ≤ 9223372036854775807) : J S m0 B m1 := h.upd hm (by unfold jl jh; rw [(jf_no hi (jb 45) rfl)]; exact hx) (.inl (by unfold jt; simp; try omega)) (.inl rfl) (fun e => absurd e (by decide))
theorem r45_287 (h : J S m0 B m) (g : Nat) (hi : 287 ≤ i ∧ i ≤ 294) : 0 ≤ m g 45 i ∧ m g 45 i ≤ 6 := by
  have h1 := h.1.1 g 45 i (jq_of rfl)
  unfold jl jh at h1
  rw [(jf_at hi 13 (jb 45) rfl rfl)] at h1
  exact h1
theorem w45_287 (h : J S m0 B m) (hm : m1 = z_upd m g 45 i x) (hi : 287 ≤ i ∧ i ≤ 294) (hx : 0 ≤ x ∧ x ≤ 6) : J S m0 B m1 := h.upd hm (by unfold jl jh; rw [(jf_at hi 13 (jb 45) rfl rfl)]; exact hx) (.inl (by unfold jt; simp; try omega)) (.inl rfl) (fun e => absurd e (by decide))
theorem r45_295 (h : J S m0 B m) (g : Nat) (hi : 295 ≤ i ∧ i ≤ 342) : 0 ≤ m g 45 i ∧ m g 45 i ≤ 86399 := by
  have h1 := h.1.1 g 45 i (jq_of rfl)
  unfold jl jh at h1
  rw [(jf_at hi 14 (jb 45) rfl rfl)] at h1
  exact h1
theorem w45_295 (h : J S m0 B m) (hm : m1 = z_upd m g 45 i x) (hi : 295 ≤ i ∧ i ≤ 342) (hx : 0 ≤ x ∧ x ≤ 86399) : J S m0 B m1 := h.upd hm (by unfold jl jh; rw [(jf_at hi 14 (jb 45) rfl rfl)]; exact hx) (.inl (by unfold jt; simp; try omega)) (.inl rfl) (fun e => absurd e (by decide))
theorem r45_343 (h : J S m0 B m) (g : Nat) (hi : 343 ≤ i ∧ i ≤ 390) : 0 ≤ m g 45 i ∧ m g 45 i ≤ 3 := by
  have h1 := h.1.1 g 45 i (jq_of rfl)
  unfold jl jh at h1
  rw [(jf_at hi 15 (jb 45) rfl rfl)] at h1
  exact h1
theorem w45_343 (h : J S m0 B m) (hm : m1 = z_upd m g 45 i x) (hi : 343 ≤ i ∧ i ≤ 390) (hx : 0 ≤ x ∧ x ≤ 3) : J S m0 B m1 := h.upd hm (by unfold jl jh; rw [(jf_at hi 15 (jb 45) rfl rfl)]; exact hx) (.inl (by unfold jt; simp; try omega)) (.inl rfl) (fun e => absurd e (by decide))
theorem r45_391 (h : J S m0 B m) (g : Nat) (hi : 391 ≤ i ∧ i ≤ 394) : (-1) ≤ m g 45 i ∧ m g 45 i ≤ 364 := by
  have h1 := h.1.1 g 45 i (jq_of rfl)
  unfold jl jh at h1
  rw [(jf_at hi 16 (jb 45) rfl rfl)] at h1
  exact h1
theorem w45_391 (h : J S m0 B m) (hm : m1 = z_upd m g 45 i x) (hi : 391 ≤ i ∧ i ≤ 394) (hx : (-1) ≤ x ∧ x ≤ 364) : J S m0 B m1 := h.upd hm (by unfold jl jh; rw [(jf_at hi 16 (jb 45) rfl rfl)]; exact hx) (.inl (by unfold jt; simp; try omega)) (.inl rfl) (fun e => absurd e (by decide))
theorem r45_395 (h : J S m0 B m) (g : Nat) (hi : 395 ≤ i ∧ i ≤ 422) : 0 ≤ m g 45 i ∧ m g 45 i ≤ 7 := by
  have h1 := h.1.1 g 45 i (jq_of rfl)
  unfold jl jh at h1
  rw [(jf_at hi 17 (jb 45) rfl rfl)] at h1
  exact h1
theorem w45_395 (h : J S m0 B m) (hm : m1 = z_upd m g 45 i x) (hi : 395 ≤ i ∧ i ≤ 422) (hx : 0 ≤ x ∧ x ≤ 7) : J S m0 B m1 := h.upd hm (by unfold jl jh; rw [(jf_at hi 17 (jb 45) rfl rfl)]; exact hx) (.inl (by unfold jt; simp; try omega)) (.inl rfl) (fun e => absurd e (by decide))
theorem r45_423 (h : J S m0 B m) (g : Nat) (hi : 423 ≤ i ∧ i ≤ 787) : (-1) ≤ m g 45 i ∧ m g 45 i ≤ 7 := by
  have h1 := h.1.1 g 45 i (jq_of rfl)
  unfold jl jh at h1
  rw [(jf_at hi 18 (jb 45) rfl rfl)] at h1
  exact h1
theorem w45_423 (h : J S m0 B m) (hm : m1 = z_upd m g 45 i x) (hi : 423 ≤ i ∧ i ≤ 787) (hx : (-1) ≤ x ∧ x ≤ 7) : J S m0 B m1 := h.upd hm (by unfold jl jh; rw [(jf_at hi 18 (jb 45) rfl rfl)]; exact hx) (.inl (by unfold jt; simp; try omega)) (.inl rfl) (fun e => absurd e (by decide))
theorem w45_788 (h : J S m0 B m) (hm : m1 = z_upd m g 45 i x) (hi : 788 ≤ i ∧ i ≤ 1613) (hx : -9223372036854775808 ≤ x ∧ x ≤ 9223372036854775807) : J S m0 B m1 := h.upd hm (by unfold jl jh; rw [(jf_no hi (jb 45) rfl)]; exact hx) (.inl (by unfold jt; simp; try omega)) (.inl rfl) (fun e => absurd e (by decide))
theorem r45_1614 (h : J S m0 B m) (g : Nat) : 0 ≤ m g 45 1614 ∧ m g 45 1614 ≤ 1 := by
  have h1 := h.1.1 g 45 1614 (jq_of rfl)
  unfold jl jh at h1
  rw [(jf_at (show (1614 : Int) ≤ 1614 ∧ (1614 : Int) ≤ 1614 by omega) 19 (jb 45) rfl rfl)] at h1
  exact h1
theorem w45_1614 (h : J S m0 B m) (hm : m1 = z_upd m g 45 1614 x) (hx : 0 ≤ x ∧ x ≤ 1) (hs : S.1 g 45 1614) : J S m0 B m1 := h.upd hm (by unfold jl jh; rw [(jf_at (show (1614 : Int) ≤ 1614 ∧ (1614 : Int) ≤ 1614 by omega) 19 (jb 45) rfl rfl)]; exact hx) (.inr hs) (.inl rfl) (fun e => absurd e (by decide))
theorem w45_1615 (h : J S m0 B m) (hm : m1 = z_upd m g 45 1615 x) (hx : -9223372036854775808 ≤ x ∧ x ≤ 9223372036854775807) (hs : S.1 g 45 1615) : J S m0 B m1 := h.upd hm (by unfold jl jh; rw [(jf_no (show (1615 : Int) ≤ 1615 ∧ (1615 : Int) ≤ 1615 by omega) (jb 45) rfl)]; exact hx) (.inr hs) (.inl rfl) (fun e => absurd e (by decide))
theorem r45_1616 (h : J S m0 B m) (g : Nat) : 0 ≤ m g 45 1616 ∧ m g 45 1616 ≤ B := by
  have h1 := h.1.1 g 45 1616 (jq_of rfl)
  unfold jl jh at h1
  rw [(jf_at (show (1616 : Int) ≤ 1616 ∧ (1616 : Int) ≤ 1616 by omega) 20 (jb 45) rfl rfl)] at h1
  exact h1
theorem w45_1616 (h : J S m0 B m) (hm : m1 = z_upd m g 45 1616 x) (hx : 0 ≤ x ∧ x ≤ B) (hs : S.1 g 45 1616) : J S m0 B m1 := h.upd hm (by unfold jl jh; rw [(jf_at (show (1616 : Int) ≤ 1616 ∧ (1616 : Int) ≤ 1616 by omega) 20 (jb 45) rfl rfl)]; exact hx) (.inr hs) (.inl rfl) (fun e => absurd e (by decide))
theorem r45_1617 (h : J S m0 B m) (g : Nat) : 0 ≤ m g 45 1617 ∧ m g 45 1617 ≤ 2000000300 := by
  have h1 := h.1.1 g 45 1617 (jq_of rfl)
  unfold jl jh at h1
  rw [(jf_at (show (1617 : Int) ≤ 1617 ∧ (1617 : Int) ≤ 1617 by omega) 21 (jb 45) rfl rfl)] at h1
  exact h1
theorem w45_1617 (h : J S m0 B m) (hm : m1 = z_upd m g 45 1617 x) (hx : 0 ≤ x ∧ x ≤ 2000000300) (hs : S.1 g 45 1617) : J S m0 B m1 := h.upd hm (by unfold jl jh; rw [(jf_at (show (1617 : Int) ≤ 1617 ∧ (1617 : Int) ≤ 1617 by omega) 21 (jb 45) rfl rfl)]; exact hx) (.inr hs) (.inl rfl) (fun e => absurd e (by decide))
theorem w45_1618 (h : J S m0 B m) (hm : m1 = z_upd m g 45 1618 x) (hx : -9223372036854775808 ≤ x ∧ x ≤ 9223372036854775807) : J S m0 B m1 := h.upd hm (by unfold jl jh; rw [(jf_no (show (1618 : Int) ≤ 1618 ∧ (1618 : Int) ≤ 1618 by omega) (jb 45) rfl)]; exact hx) (.inl (by unfold jt; simp; try omega)) (.inl rfl) (fun e => absurd e (by decide))
theorem w46_0 (h : J S m0 B m) (hm : m1 = z_upd m g 46 0 x) (hx : 0 ≤ x ∧ x ≤ 2000000000) (hs : S.1 g 46 0) : J S m0 B m1 := h.upd hm (by unfold jl jh; rw [(jf_at (show (0 : Int) ≤ 0 ∧ (0 : Int) ≤ 0 by omega) 0 (jb 46) rfl rfl)]; exact hx) (.inr hs) (.inl rfl) (fun e => absurd e (by decide))
theorem w46_1 (h : J S m0 B m) (hm : m1 = z_upd m g 46 1 x) (hx : 1 ≤ x ∧ x ≤ 3) (hs : S.1 g 46 1) : J S m0 B m1 := h.upd hm (by unfold jl jh; rw [(jf_at (show (1 : Int) ≤ 1 ∧ (1 : Int) ≤ 1 by omega) 1 (jb 46) rfl rfl)]; exact hx) (.inr hs) (.inl rfl) (fun e => absurd e (by decide))
theorem w46_2 (h : J S m0 B m) (hm : m1 = z_upd m g 46 2 x) (hx : 4 ≤ x ∧ x ≤ 16) (hs : S.1 g 46 2) : J S m0 B m1 := h.upd hm (by unfold jl jh; rw [(jf_at (show (2 : Int) ≤ 2 ∧ (2 : Int) ≤ 2 by omega) 2 (jb 46) rfl rfl)]; exact hx) (.inr hs) (.inl rfl) (fun e => absurd e (by decide))
theorem w46_3 (h : J S m0 B m) (hm : m1 = z_upd m g 46 3 x) (hx : 0 ≤ x ∧ x ≤ 47) (hs : S.1 g 46 3) : J S m0 B m1 := h.upd hm (by unfold jl jh; rw [(jf_at (show (3 : Int) ≤ 3 ∧ (3 : Int) ≤ 3 by omega) 3 (jb 46) rfl rfl)]; exact hx) (.inr hs) (.inl rfl) (fun e => absurd e (by decide))
theorem w46_4 (h : J S m0 B m) (hm : m1 = z_upd m g 46 4 x) (hx : -9223372036854775808 ≤ x ∧ x ≤ 9223372036854775807) : J S m0 B m1 := h.upd hm (by unfold jl jh; rw [(jf_no (show (4 : Int) ≤ 4 ∧ (4 : Int) ≤ 4 by omega) (jb 46) rfl)]; exact hx) (.inl (by unfold jt; simp; try omega)) (.inl rfl) (fun e => absurd e (by decide))
theorem w46_5 (h : J S m0 B m) (hm : m1 = z_upd m g 46 5 x) (hx : 1 ≤ x ∧ x ≤ 1000000) : J S m0 B m1 := h.upd hm (by unfold jl jh; rw [(jf_at (show (5 : Int) ≤ 5 ∧ (5 : Int) ≤ 5 by omega) 4 (jb 46) rfl rfl)]; exact hx) (.inl (by unfold jt; simp; try omega)) (.inl rfl) (fun e => absurd e (by decide))
theorem w46_6 (h : J S m0 B m) (hm : m1 = z_upd m g 46 i x) (hi : 6 ≤ i ∧ i ≤ 7) (hx : -9223372036854775808 ≤ x ∧ x ≤ 9223372036854775807) : J S m0 B m1 := h.upd hm (by unfold jl jh; rw [(jf_no hi (jb 46) rfl)]; exact hx) (.inl (by unfold jt; simp; try omega)) (.inl rfl) (fun e => absurd e (by decide))
theorem w46_8 (h : J S m0 B m) (hm : m1 = z_upd m g 46 8 x) (hx : 1 ≤ x ∧ x ≤ 3600) : J S m0 B m1 := h.upd hm (by unfold jl jh; rw [(jf_at (show (8 : Int) ≤ 8 ∧ (8 : Int) ≤ 8 by omega) 5 (jb 46) rfl rfl)]; exact hx) (.inl (by unfold jt; simp; try omega)) (.inl rfl) (fun e => absurd e (by decide))
theorem w46_9 (h : J S m0 B m) (hm : m1 = z_upd m g 46 9 x) (hx : 1 ≤ x ∧ x ≤ 6) : J S m0 B m1 := h.upd hm (by unfold jl jh; rw [(jf_at (show (9 : Int) ≤ 9 ∧ (9 : Int) ≤ 9 by omega) 6 (jb 46) rfl rfl)]; exact hx) (.inl (by unfold jt; simp; try omega)) (.inl rfl) (fun e => absurd e (by decide))
theorem w46_10 (h : J S m0 B m) (hm : m1 = z_upd m g 46 10 x) (hx : -9223372036854775808 ≤ x ∧ x ≤ 9223372036854775807) : J S m0 B m1 := h.upd hm (by unfold jl jh; rw [(jf_no (show (10 : Int) ≤ 10 ∧ (10 : Int) ≤ 10 by omega) (jb 46) rfl)]; exact hx) (.inl (by unfold jt; simp; try omega)) (.inl rfl) (fun e => absurd e (by decide))
theorem w46_11 (h : J S m0 B m) (hm : m1 = z_upd m g 46 11 x) (hx : 0 ≤ x ∧ x ≤ 1) (hs : S.1 g 46 11) : J S m0 B m1 := h.upd hm (by unfold jl jh; rw [(jf_at (show (11 : Int) ≤ 11 ∧ (11 : Int) ≤ 11 by omega) 7 (jb 46) rfl rfl)]; exact hx) (.inr hs) (.inl rfl) (fun e => absurd e (by decide))
theorem w46_12 (h : J S m0 B m) (hm : m1 = z_upd m g 46 12 x) (hx : 0 ≤ x ∧ x ≤ 1) : J S m0 B m1 := h.upd hm (by unfold jl jh; rw [(jf_at (show (12 : Int) ≤ 12 ∧ (12 : Int) ≤ 12 by omega) 8 (jb 46) rfl rfl)]; exact hx) (.inl (by unfold jt; simp; try omega)) (.inl rfl) (fun e => absurd e (by decide))
theorem w46_13 (h : J S m0 B m) (hm : m1 = z_upd m g 46 13 x) (hx : 0 ≤ x ∧ x ≤ B) (hs : S.1 g 46 13) : J S m0 B m1 := h.upd hm (by unfold jl jh; rw [(jf_at (show (13 : Int) ≤ 13 ∧ (13 : Int) ≤ 13 by omega) 9 (jb 46) rfl rfl)]; exact hx) (.inr hs) (.inl rfl) (fun e => absurd e (by decide))
theorem w46_14 (h : J S m0 B m) (hm : m1 = z_upd m g 46 i x) (hi : 14 ≤ i ∧ i ≤ 15) (hx : -9223372036854775808 ≤ x ∧ x ≤ 9223372036854775807) : J S m0 B m1 := h.upd hm (by unfold jl jh; rw [(jf_no hi (jb 46) rfl)]; exact hx) (.inl (by unfold jt; simp; try omega)) (.inl rfl) (fun e => absurd e (by decide))
theorem w46_16 (h : J S m0 B m) (hm : m1 = z_upd m g 46 16 x) (hx : 0 ≤ x ∧ x ≤ B) : J S m0 B m1 := h.upd hm (by unfold jl jh; rw [(jf_at (show (16 : Int) ≤ 16 ∧ (16 : Int) ≤ 16 by omega) 10 (jb 46) rfl rfl)]; exact hx) (.inl (by unfold jt; simp; try omega)) (.inl rfl) (fun e => absurd e (by decide))
theorem w46_17 (h : J S m0 B m) (hm : m1 = z_upd m g 46 17 x) (hx : 0 ≤ x ∧ x ≤ B) : J S m0 B m1 := h.upd hm (by unfold jl jh; rw [(jf_at (show (17 : Int) ≤ 17 ∧ (17 : Int) ≤ 17 by omega) 11 (jb 46) rfl rfl)]; exact hx) (.inl (by unfold jt; simp; try omega)) (.inl rfl) (fun e => absurd e (by decide))
theorem w46_18 (h : J S m0 B m) (hm : m1 = z_upd m g 46 18 x) (hx : 0 ≤ x ∧ x ≤ B) (hs : S.1 g 46 18) : J S m0 B m1 := h.upd hm (by unfold jl jh; rw [(jf_at (show (18 : Int) ≤ 18 ∧ (18 : Int) ≤ 18 by omega) 12 (jb 46) rfl rfl)]; exact hx) (.inr hs) (.inl rfl) (fun e => absurd e (by decide))
theorem w46_19 (h : J S m0 B m) (hm : m1 = z_upd m g 46 i x) (hi : 19 ≤ i ∧ i ≤ 286) (hx : -9223372036854775808 ≤ x ∧ x ≤ 9223372036854775807) : J S m0 B m1 := h.upd hm (by unfold jl jh; rw [(jf_no hi (jb 46) rfl)]; exact hx) (.inl (by unfold jt; simp; try omega)) (.inl rfl) (fun e => absurd e (by decide))
theorem w46_287 (h : J S m0 B m) (hm : m1 = z_upd m g 46 i x) (hi : 287 ≤ i ∧ i ≤ 294) (hx : 0 ≤ x ∧ x ≤ 6) : J S m0 B m1 := h.upd hm (by unfold jl jh; rw [(jf_at hi 13 (jb 46) rfl rfl)]; exact hx) (.inl (by unfold jt; simp; try omega)) (.inl rfl) (fun e => absurd e (by decide))
theorem w46_295 (h : J S m0 B m) (hm : m1 = z_upd m g 46 i x) (hi : 295 ≤ i ∧ i ≤ 342) (hx : 0 ≤ x ∧ x ≤ 86399) : J S m0 B m1 := h.upd hm (by unfold jl jh; rw [(jf_at hi 14 (jb 46) rfl rfl)]; exact hx) (.inl (by unfold jt; simp; try omega)) (.inl rfl) (fun e => absurd e (by decide))
theorem w46_343 (h : J S m0 B m) (hm : m1 = z_upd m g 46 i x) (hi : 343 ≤ i ∧ i ≤ 390) (hx : 0 ≤ x ∧ x ≤ 3) : J S m0 B m1 := h.upd hm (by unfold jl jh; rw [(jf_at hi 15 (jb 46) rfl rfl)]; exact hx) (.inl (by unfold jt; simp; try omega)) (.inl rfl) (fun e => absurd e (by decide))
theorem w46_391 (h : J S m0 B m) (hm : m1 = z_upd m g 46 i x) (hi : 391 ≤ i ∧ i ≤ 394) (hx : (-1) ≤ x ∧ x ≤ 364) : J S m0 B m1 := h.upd hm (by unfold jl jh; rw [(jf_at hi 16 (jb 46) rfl rfl)]; exact hx) (.inl (by unfold jt; simp; try omega)) (.inl rfl) (fun e => absurd e (by decide))
theorem w46_395 (h : J S m0 B m) (hm : m1 = z_upd m g 46 i x) (hi : 395 ≤ i ∧ i ≤ 422) (hx : 0 ≤ x ∧ x ≤ 7) : J S m0 B m1 := h.upd hm (by unfold jl jh; rw [(jf_at hi 17 (jb 46) rfl rfl)]; exact hx) (.inl (by unfold jt; simp; try omega)) (.inl rfl) (fun e => absurd e (by decide))
theorem w46_423 (h : J S m0 B m) (hm : m1 = z_upd m g 46 i x) (hi : 423 ≤ i ∧ i ≤ 787) (hx : (-1) ≤ x ∧ x ≤ 7) : J S m0 B m1 := h.upd hm (by unfold jl jh; rw [(jf_at hi 18 (jb 46) rfl rfl)]; exact hx) (.inl (by unfold jt; simp; try omega)) (.inl rfl) (fun e => absurd e (by decide))
theorem w46_788 (h : J S m0 B m) (hm : m1 = z_upd m g 46 i x) (hi : 788 ≤ i ∧ i ≤ 1613) (hx : -9223372036854775808 ≤ x ∧ x ≤ 9223372036854775807) : J S m0 B m1 := h.upd hm (by unfold jl jh; rw [(jf_no hi (jb 46) rfl)]; exact hx) (.inl (by unfold jt; simp; try omega)) (.inl rfl) (fun e => absurd e (by decide))
theorem w46_1614 (h : J S m0 B m) (hm : m1 = z_upd m g 46 1614 x) (hx : 0 ≤ x ∧ x ≤ 1) (hs : S.1 g 46 1614) : J S m0 B m1 := h.upd hm (by unfold jl jh; rw [(jf_at (show (1614 : Int) ≤ 1614 ∧ (1614 : Int) ≤ 1614 by omega) 19 (jb 46) rfl rfl)]; exact hx) (.inr hs) (.inl rfl) (fun e => absurd e (by decide))
theorem w46_1615 (h : J S m0 B m) (hm : m1 = z_upd m g 46 1615 x) (hx : -9223372036854775808 ≤ x ∧ x ≤ 9223372036854775807) (hs : S.1 g 46 1615) : J S m0 B m1 := h.upd hm (by unfold jl jh; rw [(jf_no (show (1615 : Int) ≤ 1615 ∧ (1615 : Int) ≤ 1615 by omega) (jb 46) rfl)]; exact hx) (.inr hs) (.inl rfl) (fun e => absurd e (by decide))
theorem w46_1616 (h : J S m0 B m) (hm : m1 = z_upd m g 46 1616 x) (hx : 0 ≤ x ∧ x ≤ B) (hs : S.1 g 46 1616) : J S m0 B m1 := h.upd hm (by unfold jl jh; rw [(jf_at (show (1616 : Int) ≤ 1616 ∧ (1616 : Int) ≤ 1616 by omega) 20 (jb 46) rfl rfl)]; exact hx) (.inr hs) (.inl rfl) (fun e => absurd e (by decide))
theorem w46_1617 (h : J S m0 B m) (hm : m1 = z_upd m g 46 1617 x) (hx : 0 ≤ x ∧ x ≤ 2000000300) (hs : S.1 g 46 1617) : J S m0 B m1 := h.upd hm (by unfold jl jh; rw [(jf_at (show (1617 : Int) ≤ 1617 ∧ (1617 : Int) ≤ 1617 by omega) 21 (jb 46) rfl rfl)]; exact hx) (.inr hs) (.inl rfl) (fun e => absurd e (by decide))
theorem w46_1618 (h : J S m0 B m) (hm : m1 = z_upd m g 46 1618 x) (hx : -9223372036854775808 ≤ x ∧ x ≤ 9223372036854775807) : J S m0 B m1 := h.upd hm (by unfold jl jh; rw [(jf_no (show (1618 : Int) ≤ 1618 ∧ (1618 : Int) ≤ 1618 by omega) (jb 46) rfl)]; exact hx) (.inl (by unfold jt; simp; try omega)) (.inl rfl) (fun e => absurd e (by decide))
theorem w47_0 (h : J S m0 B m) (hm : m1 = z_upd m g 47 0 x) (hx : 0 ≤ x ∧ x ≤ 2000000000) (hs : S.1 g 47 0) : J S m0 B m1 := h.upd hm (by unfold jl jh; rw [(jf_at (show (0 : Int) ≤ 0 ∧ (0 : Int) ≤ 0 by omega) 0 (jb 47) rfl rfl)]; exact hx) (.inr hs) (.inl rfl) (fun e => absurd e (by decide))
theorem w47_1 (h : J S m0 B m) (hm : m1 = z_upd m g 47 1 x) (hx : 1 ≤ x ∧ x ≤ 3) (hs : S.1 g 47 1) : J S m0 B m1 := h.upd hm (by unfold jl jh; rw [(jf_at (show (1 : Int) ≤ 1 ∧ (1 : Int) ≤ 1 by omega) 1 (jb 47) rfl rfl)]; exact hx) (.inr hs) (.inl rfl) (fun e => absurd e (by decide))
theorem w47_2 (h : J S m0 B m) (hm : m1 = z_upd m g 47 2 x) (hx : 4 ≤ x ∧ x ≤ 16) (hs : S.1 g 47 2) : J S m0 B m1 := h.upd hm (by unfold jl jh; rw [(jf_at (show (2 : Int) ≤ 2 ∧ (2 : Int) ≤ 2 by omega) 2 (jb 47) rfl rfl)]; exact hx) (.inr hs) (.inl rfl) (fun e => absurd e (by decide))
theorem w47_3 (h : J S m0 B m) (hm : m1 = z_upd m g 47 3 x) (hx : 0 ≤ x ∧ x ≤ 47) (hs : S.1 g 47 3) : J S m0 B m1 := h.upd hm (by unfold jl jh; rw [(jf_at (show (3 : Int) ≤ 3 ∧ (3 : Int) ≤ 3 by omega) 3 (jb 47) rfl rfl)]; exact hx) (.inr hs) (.inl rfl) (fun e => absurd e (by decide))
theorem w47_4 (h : J S m0 B m) (hm : m1 = z_upd m g 47 4 x) (hx : -9223372036854775808 ≤ x ∧ x ≤ 9223372036854775807) : J S m0 B m1 := h.upd hm (by unfold jl jh; rw [(jf_no (show (4 : Int) ≤ 4 ∧ (4 : Int) ≤ 4 by omega) (jb 47) rfl)]; exact hx) (.inl (by unfold jt; simp; try omega)) (.inl rfl) (fun e => absurd e (by decide))
theorem w47_5 (h : J S m0 B m) (hm : m1 = z_upd m g 47 5 x) (hx : 1 ≤ x ∧ x ≤ 1000000) : J S m0 B m1 := h.upd hm (by unfold jl jh; rw [(jf_at (show (5 : Int) ≤ 5 ∧ (5 : Int) ≤ 5 by omega) 4 (jb 47) rfl rfl)]; exact hx) (.inl (by unfold jt; simp; try omega)) (.inl rfl) (fun e => absurd e (by decide))
theorem w47_6 (h : J S m0 B m) (hm : m1 = z_upd m g 47 i x) (hi : 6 ≤ i ∧ i ≤ 7) (hx : -9223372036854775808 ≤ x ∧ x ≤ 9223372036854775807) : J S m0 B m1 := h.upd hm (by unfold jl jh; rw [(jf_no hi (jb 47) rfl)]; exact hx) (.inl (by unfold jt; simp; try omega)) (.inl rfl) (fun e => absurd e (by decide))
theorem w47_8 (h : J S m0 B m) (hm : m1 = z_upd m g 47 8 x) (hx : 1 ≤ x ∧ x ≤ 3600) : J S m0 B m1 := h.upd hm (by unfold jl jh; rw [(jf_at (show (8 : Int) ≤ 8 ∧ (8 : Int) ≤ 8 by omega) 5 (jb 47) rfl rfl)]; exact hx) (.inl (by unfold jt; simp; try omega)) (.inl rfl) (fun e => absurd e (by decide))
theorem w47_9 (h : J S m0 B m) (hm : m1 = z_upd m g 47 9 x) (hx : 1 ≤ x ∧ x ≤ 6) : J S m0 B m1 := h.upd hm (by unfold jl jh; rw [(jf_at (show (9 : Int) ≤ 9 ∧ (9 : Int) ≤ 9 by omega) 6 (jb 47) rfl rfl)]; exact hx) (.inl (by unfold jt; simp; try omega)) (.inl rfl) (fun e => absurd e (by decide))
theorem w47_10 (h : J S m0 B m) (hm : m1 = z_upd m g 47 10 x) (hx : -9223372036854775808 ≤ x ∧ x ≤ 9223372036854775807) : J S m0 B m1 := h.upd hm (by unfold jl jh; rw [(jf_no (show (10 : Int) ≤ 10 ∧ (10 : Int) ≤ 10 by omega) (jb 47) rfl)]; exact hx) (.inl (by unfold jt; simp; try omega)) (.inl rfl) (fun e => absurd e (by decide))
theorem w47_11 (h : J S m0 B m) (hm : m1 = z_upd m g 47 11 x) (hx : 0 ≤ x ∧ x ≤ 1) (hs : S.1 g 47 11) : J S m0 B m1 := h.upd hm (by unfold jl jh; rw [(jf_at (show (11 : Int) ≤ 11 ∧ (11 : Int) ≤ 11 by omega) 7 (jb 47) rfl rfl)]; exact hx) (.inr hs) (.inl rfl) (fun e => absurd e (by decide))
theorem w47_12 (h : J S m0 B m) (hm : m1 = z_upd m g 47 12 x) (hx : 0 ≤ x ∧ x ≤ 1) : J S m0 B m1 := h.upd hm (by unfold jl jh; rw [(jf_at (show (12 : Int) ≤ 12 ∧ (12 : Int) ≤ 12 by omega) 8 (jb 47) rfl rfl)]; exact hx) (.inl (by unfold jt; simp; try omega)) (.inl rfl) (fun e => absurd e (by decide))
theorem w47_13 (h : J S m0 B m) (hm : m1 = z_upd m g 47 13 x) (hx : 0 ≤ x ∧ x ≤ B) (hs : S.1 g 47 13) : J S m0 B m1 := h.upd hm (by unfold jl jh; rw [(jf_at (show (13 : Int) ≤ 13 ∧ (13 : Int) ≤ 13 by omega) 9 (jb 47) rfl rfl)]; exact hx) (.inr hs) (.inl rfl) (fun e => absurd e (by decide))
theorem w47_14 (h : J S m0 B m) (hm : m1 = z_upd m g 47 i x) (hi : 14 ≤ i ∧ i ≤ 15) (hx : -9223372036854775808 ≤ x ∧ x ≤ 9223372036854775807) : J S m0 B m1 := h.upd hm (by unfold jl jh; rw [(jf_no hi (jb 47) rfl)]; exact hx) (.inl (by unfold jt; simp; try omega)) (.inl rfl) (fun e => absurd e (by decide))
theorem w47_16 (h : J S m0 B m) (hm : m1 = z_upd m g 47 16 x) (hx : 0 ≤ x ∧ x ≤ B) : J S m0 B m1 := h.upd hm (by unfold jl jh; rw [(jf_at (show (16 : Int) ≤ 16 ∧ (16 : Int) ≤ 16 by omega) 10 (jb 47) rfl rfl)]; exact hx) (.inl (by unfold jt; simp; try omega)) (.inl rfl) (fun e => absurd e (by decide))
theorem w47_17 (h : J S m0 B m) (hm : m1 = z_upd m g 47 17 x) (hx : 0 ≤ x ∧ x ≤ B) : J S m0 B m1 := h.upd hm (by unfold jl jh; rw [(jf_at (show (17 : Int) ≤ 17 ∧ (17 : Int) ≤ 17 by omega) 11 (jb 47) rfl rfl)]; exact hx) (.inl (by unfold jt; simp; try omega)) (.inl rfl) (fun e => absurd e (by decide))
theorem w47_18 (h : J S m0 B m) (hm : m1 = z_upd m g 47 18 x) (hx : 0 ≤ x ∧ x ≤ B) (hs : S.1 g 47 18) : J S m0 B m1 := h.upd hm (by unfold jl jh; rw [(jf_at (show (18 : Int) ≤ 18 ∧ (18 : Int) ≤ 18 by omega) 12 (jb 47) rfl rfl)]; exact hx) (.inr hs) (.inl rfl) (fun e => absurd e (by decide))
theorem w47_19 (h : J S m0 B m) (hm : m1 = z_upd m g 47 i x) (hi : 19 ≤ i ∧ i ≤ 286) (hx : -9223372036854775808 ≤ x ∧ x ≤ 9223372036854775807) : J S m0 B m1 := h.upd hm (by unfold jl jh; rw [(jf_no hi (jb 47) rfl)]; exact hx) (.inl (by unfold jt; simp; try omega)) (.inl rfl) (fun e => absurd e (by decide))
theorem w47_287 (h : J S m0 B m) (hm : m1 = z_upd m g 47 i x) (hi : 287 ≤ i ∧ i ≤ 294) (hx : 0 ≤ x ∧ x ≤ 6) : J S m0 B m1 := h.upd hm (by unfold jl jh; rw [(jf_at hi 13 (jb 47) rfl rfl)]; exact hx) (.inl (by unfold jt; simp; try omega)) (.inl rfl) (fun e => absurd e (by decide))
theorem w47_295 (h : J S m0 B m) (hm : m1 = z_upd m g 47 i x) (hi : 295 ≤ i ∧ i ≤ 342) (hx : 0 ≤ x ∧ x ≤ 86399) : J S m0 B m1 := h.upd hm (by unfold jl jh; rw [(jf_at hi 14 (jb 47) rfl rfl)]; exact hx) (.inl (by unfold jt; simp; try omega)) (.inl rfl) (fun e => absurd e (by decide))
theorem w47_343 (h : J S m0 B m) (hm : m1 = z_upd m g 47 i x) (hi : 343 ≤ i ∧ i ≤ 390) (hx : 0 ≤ x ∧ x ≤ 3) : J S m0 B m1 := h.upd hm (by unfold jl jh; rw [(jf_at hi 15 (jb 47) rfl rfl)]; exact hx) (.inl (by unfold jt; simp; try omega)) (.inl rfl) (fun e => absurd e (by decide))
theorem w47_391 (h : J S m0 B m) (hm : m1 = z_upd m g 47 i x) (hi : 391 ≤ i ∧ i ≤ 394) (hx : (-1) ≤ x ∧ x ≤ 364) : J S m0 B m1 := h.upd hm (by unfold jl jh; rw [(jf_at hi 16 (jb 47) rfl rfl)]; exact hx) (.inl (by unfold jt; simp; try omega)) (.inl rfl) (fun e => absurd e (by decide))
theorem w47_395 (h : J S m0 B m) (hm : m1 = z_upd m g 47 i x) (hi : 395 ≤ i ∧ i ≤ 422) (hx : 0 ≤ x ∧ x ≤ 7) : J S m0 B m1 := h.upd hm (by unfold jl jh; rw [(jf_at hi 17 (jb 47) rfl rfl)]; exact hx) (.inl (by unfold jt; simp; try omega)) (.inl rfl) (fun e => absurd e (by decide))
theorem w47_423 (h : J S m0 B m) (hm : m1 = z_upd m g 47 i x) (hi : 423 ≤ i ∧ i ≤ 787) (hx : (-1) ≤ x ∧ x ≤ 7) : J S m0 B m1 := h.upd hm (by unfold jl jh; rw [(jf_at hi 18 (jb 47) rfl rfl)]; exact hx) (.inl (by unfold jt; simp; try omega)) (.inl rfl) (fun e => absurd e (by decide))
theorem w47_788 (h : J S m0 B m) (hm : m1 = z_upd m g 47 i x) (hi : 788 ≤ i ∧ i ≤ 1613) (hx : -9223372036854775808 ≤ x ∧ x ≤ 9223372036854775807) : J S m0 B m1 := h.upd hm (by unfold jl jh; rw [(jf_no hi (jb 47) rfl)]; exact hx) (.inl (by unfold jt; simp; try omega)) (.inl rfl) (fun e => absurd e (by decide))
theorem w47_1614 (h : J S m0 B m) (hm : m1 = z_upd m g 47 1614 x) (hx : 0 ≤ x ∧ x ≤ 1) (hs : S.1 g 47 1614) : J S m0 B m1 := h.upd hm (by unfold jl jh; rw [(jf_at (show (1614 : Int) ≤ 1614 ∧ (1614 : Int) ≤ 1614 by omega) 19 (jb 47) rfl rfl)]; exact hx) (.inr hs) (.inl rfl) (fun e => absurd e (by decide))
theorem w47_1615 (h : J S m0 B m) (hm : m1 = z_upd m g 47 1615 x) (hx : -9223372036854775808 ≤ x ∧ x ≤ 9223372036854775807) (hs : S.1 g 47 1615) : J S m0 B m1 := h.upd hm (by unfold jl jh; rw [(jf_no (show (1615 : Int) ≤ 1615 ∧ (1615 : Int) ≤ 1615 by omega) (jb 47) rfl)]; exact hx) (.inr hs) (.inl rfl) (fun e => absurd e (by decide))
theorem w47_1616 (h : J S m0 B m) (hm : m1 = z_upd m g 47 1616 x) (hx : 0 ≤ x ∧ x ≤ B) (hs : S.1 g 47 1616) : J S m0 B m1 := h.upd hm (by unfold jl jh; rw [(jf_at (show (1616 : Int) ≤ 1616 ∧ (1616 : Int) ≤ 1616 by omega) 20 (jb 47) rfl rfl)]; exact hx) (.inr hs) (.inl rfl) (fun e => absurd e (by decide))
theorem w47_1617 (h : J S m0 B m) (hm : m1 = z_upd m g 47 1617 x) (hx : 0 ≤ x ∧ x ≤ 2000000300) (hs : S.1 g 47 1617) : J S m0 B m1 := h.upd hm (by unfold jl jh; rw [(jf_at (show (1617 : Int) ≤ 1617 ∧ (1617 : Int) ≤ 1617 by omega) 21 (jb 47) rfl rfl)]; exact hx) (.inr hs) (.inl rfl) (fun e => absurd e (by decide))
theorem w47_1618 (h : J S m0 B m) (hm : m1 = z_upd m g 47 1618 x) (hx : -9223372036854775808 ≤ x ∧ x ≤ 9223372036854775807) : J S m0 B m1 := h.upd hm (by unfold jl jh; rw [(jf_no (show (1618 : Int) ≤ 1618 ∧ (1618 : Int) ≤ 1618 by omega) (jb 47) rfl)]; exact hx) (.inl (by unfold jt; simp; try omega)) (.inl rfl) (fun e => absurd e (by decide))
theorem w48_0 (h : J S m0 B m) (hm : m1 = z_upd m g 48 i x) (hi : 0 ≤ i ∧ i ≤ 299) (hx : -9223372036854775808 ≤ x ∧ x ≤ 9223372036854775807) : J S m0 B m1 := h.upd hm (by unfold jl jh; rw [(jf_no hi (jb 48) rfl)]; exact hx) (.inl rfl) (.inl rfl) (fun e => absurd e (by decide))
theorem w49_0 (h : J S m0 B m) (hm : m1 = z_upd m g 49 i x) (hi : 0 ≤ i ∧ i ≤ 7) (hx : -9223372036854775808 ≤ x ∧ x ≤ 9223372036854775807) : J S m0 B m1 := h.upd hm (by unfold jl jh; rw [(jf_no hi (jb 49) rfl)]; exact hx) (.inl rfl) (.inl rfl) (fun e => absurd e (by decide))
theorem w50_0 (h : J S m0 B m) (hm : m1 = z_upd m g 50 i x) (hi : 0 ≤ i ∧ i ≤ 3) (hx : -9223372036854775808 ≤ x ∧ x ≤ 9223372036854775807) : J S m0 B m1 := h.upd hm (by unfold jl jh; rw [(jf_no hi (jb 50) rfl)]; exact hx) (.inl rfl) (.inl rfl) (fun e => absurd e (by decide))
end
