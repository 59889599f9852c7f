section
/-! Printed by wip/gen/inv.py: bounds of the numbers, and those that are tracked. -/
def jb (k : Nat) : List (Int × Int × Int × Int) := match k with
  | 8 => [(9, 9, 0, 2000000000), (11, 11, 0, 1), (12, 12, 0, 1)]
  | 10 => [(0, 4, 0, 1000000), (5, 5, 1, 6), (6, 12, 0, 1000000)]
  | 11 => [(7, 7, 0, 16)]
  | 12 => [(0, 7, 0, 6)]
  | 13 => [(0, 47, 0, 86399)]
  | 14 => [(0, 47, 0, 3)]
  | 15 => [(0, 3, -1, 364)]
  | 16 => [(0, 27, 0, 7)]
  | 17 => [(0, 15, 0, 364)]
  | 18 => [(0, 15, 0, 7)]
  | 19 => [(3, 3, 1, 3), (4, 4, 4, 16), (5, 5, 0, 47)]
  | 20 => [(0, 47, -500, 500)]
  | 21 => [(0, 47, -500, 500)]
  | 23 => [(3, 3, 0, -7)]
  | 27 => [(2, 2, 0, -7), (9, 9, 0, 2000000000)]
  | 37 => [(1, 1, 0, -7)]
  | 39 => [(0, 0, 0, 1), (2, 2, 0, -7), (4, 4, 0, 2000000300)]
  | 40 => [(4, 4, 0, 1)]
  | 41 => [(3, 3, 0, 300), (6, 6, 0, 1), (7, 7, 0, 300)]
  | 42 => [(0, 299, 0, 255)]
  | 43 => [(0, 3, 0, 100)]
  | 44 => [(3, 3, 0, 1), (5, 5, 0, 300), (8, 8, 0, 300), (9, 9, 0, 1), (14, 14, 0, 1)]
  | 45 => [(0, 0, 0, 2000000000), (1, 1, 1, 3), (2, 2, 4, 16), (3, 3, 0, 47), (4, 4, 0, 1000000), (5, 5, 1, 1000000), (6, 6, 0, 250000), (7, 7, 0, 60), (8, 8, 1, 3600), (9, 9, 1, 6), (11, 11, 0, 1), (12, 12, 0, 1), (13, 13, 0, -7), (16, 16, 0, -7), (17, 17, 0, -7), (18, 18, 0, -7), (28, 31, 0, 100), (95, 286, -500, 500), (287, 294, 0, 6), (295, 342, 0, 86399), (343, 390, 0, 3), (391, 394, -1, 364), (395, 422, 0, 7), (423, 787, -1, 7), (1611, 1611, 0, 100), (1612, 1612, 0, 200), (1613, 1613, 0, 100), (1614, 1614, 0, 1), (1616, 1616, 0, -7), (1617, 1617, 0, 2000000300)]
  | 46 => [(0, 0, 0, 2000000000), (1, 1, 1, 3), (2, 2, 4, 16), (3, 3, 0, 47), (4, 4, 0, 1000000), (5, 5, 1, 1000000), (6, 6, 0, 250000), (7, 7, 0, 60), (8, 8, 1, 3600), (9, 9, 1, 6), (11, 11, 0, 1), (12, 12, 0, 1), (13, 13, 0, -7), (16, 16, 0, -7), (17, 17, 0, -7), (18, 18, 0, -7), (28, 31, 0, 100), (95, 286, -500, 500), (287, 294, 0, 6), (295, 342, 0, 86399), (343, 390, 0, 3), (391, 394, -1, 364), (395, 422, 0, 7), (423, 787, -1, 7), (1611, 1611, 0, 100), (1612, 1612, 0, 200), (1613, 1613, 0, 100), (1614, 1614, 0, 1), (1616, 1616, 0, -7), (1617, 1617, 0, 2000000300)]
  | 47 => [(0, 0, 0, 2000000000), (1, 1, 1, 3), (2, 2, 4, 16), (3, 3, 0, 47), (4, 4, 0, 1000000), (5, 5, 1, 1000000), (6, 6, 0, 250000), (7, 7, 0, 60), (8, 8, 1, 3600), (9, 9, 1, 6), (11, 11, 0, 1), (12, 12, 0, 1), (13, 13, 0, -7), (16, 16, 0, -7), (17, 17, 0, -7), (18, 18, 0, -7), (28, 31, 0, 100), (95, 286, -500, 500), (287, 294, 0, 6), (295, 342, 0, 86399), (343, 390, 0, 3), (391, 394, -1, 364), (395, 422, 0, 7), (423, 787, -1, 7), (1611, 1611, 0, 100), (1612, 1612, 0, 200), (1613, 1613, 0, 100), (1614, 1614, 0, 1), (1616, 1616, 0, -7), (1617, 1617, 0, 2000000300)]
  | _ => []
def jf (l : List (Int × Int × Int × Int)) (i : Int) : Option (Int × Int) := match l with
  | [] => none
  | q :: r => if q.1 ≤ i ∧ i ≤ q.2.1 then some q.2.2 else jf r i
def jlo (o : Option (Int × Int)) : Int := match o with
  | some q => q.1
  | none => -9223372036854775808
def jhi (B : Int) (o : Option (Int × Int)) : Int := match o with
  | some q => if q.2 = -7 then B else q.2
  | none => 9223372036854775807
def jl (k : Nat) (i : Int) : Int := jlo (jf (jb k) i)
def jh (B : Int) (k : Nat) (i : Int) : Int := jhi B (jf (jb k) i)
theorem jf_at {i a b : Int} {q : Int × Int} (hi : a ≤ i ∧ i ≤ b) : ∀ (n : Nat) (l : List (Int × Int × Int × Int)), l[n]? = some (a, b, q) → ((l.take n).all fun q => decide (q.2.1 < a)) = true → jf l i = some q
  | _, [], h, _ => by simp at h
  | 0, z :: r, h, _ => by
    have e : z = (a, b, q) := by simpa using h
    subst e
    unfold jf
    rw [if_pos hi]
  | n + 1, z :: r, h, hs => by
    simp only [List.take_succ_cons, List.all_cons, Bool.and_eq_true, decide_eq_true_eq] at hs
    unfold jf
    rw [if_neg (by omega)]
    exact jf_at hi n r (by simpa using h) hs.2
theorem jf_no {i a b : Int} (hi : a ≤ i ∧ i ≤ b) : ∀ (l : List (Int × Int × Int × Int)), (l.all fun q => decide (q.2.1 < a ∨ b < q.1)) = true → jf l i = none
  | [], _ => rfl
  | z :: r, hs => by
    simp only [List.all_cons, Bool.and_eq_true, decide_eq_true_eq] at hs
    unfold jf
    rw [if_neg (by omega)]
    exact jf_no hi r hs.2
def jp (k : Nat) : List (Int × Int × Int × Int) := match k with
  | 8 => [(0, 9, 11, 0), (10, 12, 12, 0), (13, 15, 13, 0)]
  | 9 => [(0, 0, 3, 0)]
  | 10 => [(0, 12, 3, 0)]
  | 11 => [(0, 7, 1, 0)]
  | 12 => [(0, 7, 1, 0)]
  | 13 => [(0, 47, 1, 0)]
  | 14 => [(0, 47, 1, 0)]
  | 15 => [(0, 3, 1, 0)]
  | 16 => [(0, 27, 1, 0)]
  | 17 => [(0, 15, 1, 0)]
  | 18 => [(0, 15, 1, 0)]
  | 19 => [(0, 6, 2, 0)]
  | 20 => [(0, 47, 2, 0)]
  | 21 => [(0, 47, 2, 0)]
  | 22 => [(0, 15, 2, 0)]
  | 23 => [(0, 3, 5, 0)]
  | 24 => [(0, 27, 10, 0)]
  | 25 => [(0, 27, 5, 0)]
  | 26 => [(0, 197, 5, 0)]
  | 27 => [(0, 9, 7, 0)]
  | 28 => [(0, 383, 7, 0)]
  | 29 => [(0, 3, 7, 0)]
  | 30 => [(0, 3, 8, 0)]
  | 31 => [(0, 3, 8, 0)]
  | 32 => [(0, 3, 8, 0)]
  | 33 => [(0, 3, 9, 0)]
  | 34 => [(0, 4, 9, 0)]
  | 35 => [(0, 4, 9, 0)]
  | 36 => [(0, 4, 9, 0)]
  | 37 => [(0, 1, 6, 0)]
  | 38 => [(0, 119, 6, 0)]
  | 39 => [(0, 4, 4, 0)]
  | 40 => [(0, 4, 14, 0)]
  | 41 => [(0, 2, 19, 0), (3, 3, 15, 0), (4, 5, 16, 0), (6, 10, 19, 0)]
  | 42 => [(0, 299, 15, 0)]
  | 43 => [(0, 3, 19, 0)]
  | 44 => [(0, 2, 39, 0), (3, 3, 34, 0), (4, 4, 39, 0), (5, 5, 35, 0), (6, 7, 36, 0), (8, 14, 39, 0)]
  | 45 => [(0, 0, 31, 0), (1, 3, 22, 0), (4, 9, 23, 0), (10, 12, 32, 0), (13, 15, 33, 0), (16, 16, 26, 0), (17, 17, 27, 0), (18, 18, 25, 0), (19, 20, 28, 0), (21, 27, 27, 0), (28, 31, 23, 0), (32, 39, 28, 0), (40, 59, 29, 0), (60, 94, 30, 0), (95, 286, 22, 0), (287, 787, 21, 0), (788, 1171, 27, 0), (1172, 1486, 25, 0), (1487, 1606, 26, 0), (1607, 1610, 27, 0), (1611, 1613, 23, 0), (1614, 1618, 24, 0)]
  | 46 => [(0, 1618, 38, 0)]
  | 47 => [(0, 1618, 37, 0)]
  | 48 => [(0, 299, 35, 0)]
  | 49 => [(0, 7, 39, 0)]
  | 50 => [(0, 3, 39, 0)]
  | _ => []
/-- which part of the state a slot belongs to -/
def ja (k : Nat) (i : Int) : Nat := match jf (jp k) i with
  | some q => q.1.toNat
  | none => 0
/-- parts that are as they were; groups that are; whether aside, whether kept is a copy -/
abbrev zS : Type := (Nat → Prop) × (Nat → Prop) × Prop × Prop
def jq (S : zS) (m : zM) (g k : Nat) (i : Int) : Prop := g = 4 → 0 ≤ i → i < 1619 → (k = 46 → S.2.2.1) ∧ (k = 47 → S.2.2.2 ∨ m 4 44 3 = 1)
theorem jq_of {S : zS} {m : zM} {g k : Nat} {i : Int} (h : decide (k = 46 ∨ k = 47) = false) : jq S m g k i := fun _ _ _ => by
  have h := of_decide_eq_false h
  exact ⟨fun e => absurd (.inl e) h, fun e => absurd (.inr e) h⟩
/-- bounds; what is as it was in m0 -/
def J (S : zS) (m0 : zM) (B : Int) (m : zM) : Prop := (∀ g k i, jq S m g k i → jl k i ≤ m g k i ∧ m g k i ≤ jh B k i) ∧ ∀ g k i, S.1 (ja k i) ∨ S.2.1 g → m g k i = m0 g k i
theorem jh_mono {B B' : Int} (h : B ≤ B') (k : Nat) (i : Int) : jh B k i ≤ jh B' k i := by
  unfold jh jhi
  split
  · split <;> omega
  · omega
theorem J.up {S : zS} {m0 m : zM} {B B' : Int} (h : J S m0 B m) (hb : B ≤ B') : J S m0 B' m := ⟨fun g k i hq => ⟨(h.1 g k i hq).1, Int.le_trans (h.1 g k i hq).2 (jh_mono hb k i)⟩, h.2⟩
/-- a store; not that an image is (44, 3) -/
theorem J.upd {S : zS} {m0 m m1 : zM} {B : Int} {g k f : Nat} {i x : Int} (h : J S m0 B m) (hm : m1 = z_upd m g k i x) (hx : jl k i ≤ x ∧ x ≤ jh B k i) (h3 : k = 44 → i ≠ 3) (ha : ja k i = f) (hf : ¬ S.1 f) (hg : ¬ S.2.1 g) : J S m0 B m1 := by
  subst hm
  subst ha
  have e3 : z_upd m g k i x 4 44 3 = m 4 44 3 := by
    unfold z_upd
    rw [if_neg (fun e => h3 e.2.1.symm e.2.2.symm)]
  refine ⟨fun g' k' i' hq => ?_, fun g' k' i' h9 => ?_⟩
  · have hq' : jq S m g' k' i' := fun e1 e2 e4 => by
      have h5 := hq e1 e2 e4
      rw [e3] at h5
      exact h5
    unfold z_upd
    split
    · rename_i e
      obtain ⟨rfl, rfl, rfl⟩ := e
      exact hx
    · exact h.1 g' k' i' hq'
  · unfold z_upd
    split
    · rename_i e
      obtain ⟨rfl, rfl, rfl⟩ := e
      rcases h9 with h9 | h9
      · exact absurd h9 hf
      · exact absurd h9 hg
    · exact h.2 g' k' i' h9
/-- one more copy that is known serves less -/
theorem J.wk {p q p' q' : Prop} {F G : Nat → Prop} {B : Int} {m0 m : zM} (h : J (F, G, p, q) m0 B m) (hp : p' → p) (hq : q' → q) : J (F, G, p', q') m0 B m := ⟨fun g k i hj => h.1 g k i (fun e1 e2 e3 => ⟨fun e => hp ((hj e1 e2 e3).1 e), fun e => ((hj e1 e2 e3).2 e).imp hq id⟩), h.2⟩
theorem J.rf {S : zS} {m : zM} {B : Int} (h : ∀ g k i, jq S m g k i → jl k i ≤ m g k i ∧ m g k i ≤ jh B k i) : J S m B m := ⟨h, fun _ _ _ _ => rfl⟩
/-- anew, from here on -/
theorem J.nx {F G F' G' : Nat → Prop} {p q : Prop} {m0 m : zM} {B : Int} (h : J (F, G, p, q) m0 B m) : J (F', G', p, q) m B m := J.rf h.1
theorem J.eqf {S : zS} {m0 m : zM} {B : Int} {g k : Nat} {i : Int} (f : Nat) (h : J S m0 B m) (ha : ja k i = f) (hf : S.1 f) : m g k i = m0 g k i := h.2 g k i (.inl (by rw [ha]; exact hf))
theorem J.eqg {S : zS} {m0 m : zM} {B : Int} {g k : Nat} {i : Int} (h : J S m0 B m) (hg : S.2.1 g) : m g k i = m0 g k i := h.2 g k i (.inr hg)
theorem ja_at {k f : Nat} {i a b y : Int} (hi : a ≤ i ∧ i ≤ b) (n : Nat) (h : (jp k)[n]? = some (a, b, y, 0)) (hs : (((jp k).take n).all fun q => decide (q.2.1 < a)) = true) (hf : y.toNat = f) : ja k i = f := by
  unfold ja
  rw [jf_at hi n (jp k) h hs]
  exact hf
theorem J.i32 {x : Int} (h : -2147483648 ≤ x ∧ x ≤ 2147483647) : -9223372036854775808 ≤ x ∧ x ≤ 9223372036854775807 := by omega
section
variable {S : zS} {m0 m m1 : zM} {B x i : Int} {g : Nat}
theorem w8_0 (h : J S m0 B m) (hm : m1 = z_upd m g 8 i x) (hi : 0 ≤ i ∧ i ≤ 8) (hx : -9223372036854775808 ≤ x ∧ x ≤ 9223372036854775807) (hf : ¬ S.1 11) (hg : ¬ S.2.1 g) : J S m0 B m1 := h.upd hm (by unfold jl jh; rw [(jf_no (show (0 : Int) ≤ i ∧ i ≤ (8 : Int) by omega) (jb 8) rfl)]; exact hx) (fun e => absurd e (by decide)) (ja_at (show (0 : Int) ≤ i ∧ i ≤ (9 : Int) by omega) 0 rfl rfl rfl) hf hg
theorem r8_9 (h : J S m0 B m) (g : Nat) : 0 ≤ m g 8 9 ∧ m g 8 9 ≤ 2000000000 := by
  have h1 := h.1 g 8 9 (jq_of rfl)
  unfold jl jh at h1
  rw [(jf_at (show (9 : Int) ≤ 9 ∧ (9 : Int) ≤ 9 by omega) 0 (jb 8) rfl rfl)] at h1
  exact h1
theorem w8_9 (h : J S m0 B m) (hm : m1 = z_upd m g 8 9 x) (hx : 0 ≤ x ∧ x ≤ 2000000000) (hf : ¬ S.1 11) (hg : ¬ S.2.1 g) : J S m0 B m1 := h.upd hm (by unfold jl jh; rw [(jf_at (show (9 : Int) ≤ 9 ∧ (9 : Int) ≤ 9 by omega) 0 (jb 8) rfl rfl)]; exact hx) (fun e => absurd e (by decide)) (ja_at (show (0 : Int) ≤ 9 ∧ (9 : Int) ≤ 9 by omega) 0 rfl rfl rfl) hf hg
theorem w8_10 (h : J S m0 B m) (hm : m1 = z_upd m g 8 10 x) (hx : -9223372036854775808 ≤ x ∧ x ≤ 9223372036854775807) (hf : ¬ S.1 12) (hg : ¬ S.2.1 g) : J S m0 B m1 := h.upd hm (by unfold jl jh; rw [(jf_no (show (10 : Int) ≤ 10 ∧ (10 : Int) ≤ 10 by omega) (jb 8) rfl)]; exact hx) (fun e => absurd e (by decide)) (ja_at (show (10 : Int) ≤ 10 ∧ (10 : Int) ≤ 12 by omega) 1 rfl rfl rfl) hf hg
theorem r8_11 (h : J S m0 B m) (g : Nat) : 0 ≤ m g 8 11 ∧ m g 8 11 ≤ 1 := by
  have h1 := h.1 g 8 11 (jq_of rfl)
  unfold jl jh at h1
  rw [(jf_at (show (11 : Int) ≤ 11 ∧ (11 : Int) ≤ 11 by omega) 1 (jb 8) rfl rfl)] at h1
  exact h1
theorem w8_11 (h : J S m0 B m) (hm : m1 = z_upd m g 8 11 x) (hx : 0 ≤ x ∧ x ≤ 1) (hf : ¬ S.1 12) (hg : ¬ S.2.1 g) : J S m0 B m1 := h.upd hm (by unfold jl jh; rw [(jf_at (show (11 : Int) ≤ 11 ∧ (11 : Int) ≤ 11 by omega) 1 (jb 8) rfl rfl)]; exact hx) (fun e => absurd e (by decide)) (ja_at (show (10 : Int) ≤ 11 ∧ (11 : Int) ≤ 12 by omega) 1 rfl rfl rfl) hf hg
theorem r8_12 (h : J S m0 B m) (g : Nat) : 0 ≤ m g 8 12 ∧ m g 8 12 ≤ 1 := by
  have h1 := h.1 g 8 12 (jq_of rfl)
  unfold jl jh at h1
  rw [(jf_at (show (12 : Int) ≤ 12 ∧ (12 : Int) ≤ 12 by omega) 2 (jb 8) rfl rfl)] at h1
  exact h1
theorem w8_12 (h : J S m0 B m) (hm : m1 = z_upd m g 8 12 x) (hx : 0 ≤ x ∧ x ≤ 1) (hf : ¬ S.1 12) (hg : ¬ S.2.1 g) : J S m0 B m1 := h.upd hm (by unfold jl jh; rw [(jf_at (show (12 : Int) ≤ 12 ∧ (12 : Int) ≤ 12 by omega) 2 (jb 8) rfl rfl)]; exact hx) (fun e => absurd e (by decide)) (ja_at (show (10 : Int) ≤ 12 ∧ (12 : Int) ≤ 12 by omega) 1 rfl rfl rfl) hf hg
theorem w8_13 (h : J S m0 B m) (hm : m1 = z_upd m g 8 i x) (hi : 13 ≤ i ∧ i ≤ 15) (hx : -9223372036854775808 ≤ x ∧ x ≤ 9223372036854775807) (hf : ¬ S.1 13) (hg : ¬ S.2.1 g) : J S m0 B m1 := h.upd hm (by unfold jl jh; rw [(jf_no (show (13 : Int) ≤ i ∧ i ≤ (15 : Int) by omega) (jb 8) rfl)]; exact hx) (fun e => absurd e (by decide)) (ja_at (show (13 : Int) ≤ i ∧ i ≤ (15 : Int) by omega) 2 rfl rfl rfl) hf hg
theorem w9_0 (h : J S m0 B m) (hm : m1 = z_upd m g 9 0 x) (hx : -9223372036854775808 ≤ x ∧ x ≤ 9223372036854775807) (hf : ¬ S.1 3) (hg : ¬ S.2.1 g) : J S m0 B m1 := h.upd hm (by unfold jl jh; rw [(jf_no (show (0 : Int) ≤ 0 ∧ (0 : Int) ≤ 0 by omega) (jb 9) rfl)]; exact hx) (fun e => absurd e (by decide)) (ja_at (show (0 : Int) ≤ 0 ∧ (0 : Int) ≤ 0 by omega) 0 rfl rfl rfl) hf hg
theorem r10_0 (h : J S m0 B m) (g : Nat) (hi : 0 ≤ i ∧ i ≤ 4) : 0 ≤ m g 10 i ∧ m g 10 i ≤ 1000000 := by
  have h1 := h.1 g 10 i (jq_of rfl)
  unfold jl jh at h1
  rw [(jf_at (show (0 : Int) ≤ i ∧ i ≤ (4 : Int) by omega) 0 (jb 10) rfl rfl)] at h1
  exact h1
theorem w10_0 (h : J S m0 B m) (hm : m1 = z_upd m g 10 i x) (hi : 0 ≤ i ∧ i ≤ 4) (hx : 0 ≤ x ∧ x ≤ 1000000) (hf : ¬ S.1 3) (hg : ¬ S.2.1 g) : J S m0 B m1 := h.upd hm (by unfold jl jh; rw [(jf_at (show (0 : Int) ≤ i ∧ i ≤ (4 : Int) by omega) 0 (jb 10) rfl rfl)]; exact hx) (fun e => absurd e (by decide)) (ja_at (show (0 : Int) ≤ i ∧ i ≤ (12 : Int) by omega) 0 rfl rfl rfl) hf hg
theorem r10_5 (h : J S m0 B m) (g : Nat) : 1 ≤ m g 10 5 ∧ m g 10 5 ≤ 6 := by
  have h1 := h.1 g 10 5 (jq_of rfl)
  unfold jl jh at h1
  rw [(jf_at (show (5 : Int) ≤ 5 ∧ (5 : Int) ≤ 5 by omega) 1 (jb 10) rfl rfl)] at h1
  exact h1
theorem w10_5 (h : J S m0 B m) (hm : m1 = z_upd m g 10 5 x) (hx : 1 ≤ x ∧ x ≤ 6) (hf : ¬ S.1 3) (hg : ¬ S.2.1 g) : J S m0 B m1 := h.upd hm (by unfold jl jh; rw [(jf_at (show (5 : Int) ≤ 5 ∧ (5 : Int) ≤ 5 by omega) 1 (jb 10) rfl rfl)]; exact hx) (fun e => absurd e (by decide)) (ja_at (show (0 : Int) ≤ 5 ∧ (5 : Int) ≤ 12 by omega) 0 rfl rfl rfl) hf hg
theorem r10_6 (h : J S m0 B m) (g : Nat) (hi : 6 ≤ i ∧ i ≤ 12) : 0 ≤ m g 10 i ∧ m g 10 i ≤ 1000000 := by
  have h1 := h.1 g 10 i (jq_of rfl)
  unfold jl jh at h1
  rw [(jf_at (show (6 : Int) ≤ i ∧ i ≤ (12 : Int) by omega) 2 (jb 10) rfl rfl)] at h1
  exact h1
theorem w10_6 (h : J S m0 B m) (hm : m1 = z_upd m g 10 i x) (hi : 6 ≤ i ∧ i ≤ 12) (hx : 0 ≤ x ∧ x ≤ 1000000) (hf : ¬ S.1 3) (hg : ¬ S.2.1 g) : J S m0 B m1 := h.upd hm (by unfold jl jh; rw [(jf_at (show (6 : Int) ≤ i ∧ i ≤ (12 : Int) by omega) 2 (jb 10) rfl rfl)]; exact hx) (fun e => absurd e (by decide)) (ja_at (show (0 : Int) ≤ i ∧ i ≤ (12 : Int) by omega) 0 rfl rfl rfl) hf hg
theorem w11_0 (h : J S m0 B m) (hm : m1 = z_upd m g 11 i x) (hi : 0 ≤ i ∧ i ≤ 6) (hx : -9223372036854775808 ≤ x ∧ x ≤ 9223372036854775807) (hf : ¬ S.1 1) (hg : ¬ S.2.1 g) : J S m0 B m1 := h.upd hm (by unfold jl jh; rw [(jf_no (show (0 : Int) ≤ i ∧ i ≤ (6 : Int) by omega) (jb 11) rfl)]; exact hx) (fun e => absurd e (by decide)) (ja_at (show (0 : Int) ≤ i ∧ i ≤ (7 : Int) by omega) 0 rfl rfl rfl) hf hg
theorem r11_7 (h : J S m0 B m) (g : Nat) : 0 ≤ m g 11 7 ∧ m g 11 7 ≤ 16 := by
  have h1 := h.1 g 11 7 (jq_of rfl)
  unfold jl jh at h1
  rw [(jf_at (show (7 : Int) ≤ 7 ∧ (7 : Int) ≤ 7 by omega) 0 (jb 11) rfl rfl)] at h1
  exact h1
theorem w11_7 (h : J S m0 B m) (hm : m1 = z_upd m g 11 7 x) (hx : 0 ≤ x ∧ x ≤ 16) (hf : ¬ S.1 1) (hg : ¬ S.2.1 g) : J S m0 B m1 := h.upd hm (by unfold jl jh; rw [(jf_at (show (7 : Int) ≤ 7 ∧ (7 : Int) ≤ 7 by omega) 0 (jb 11) rfl rfl)]; exact hx) (fun e => absurd e (by decide)) (ja_at (show (0 : Int) ≤ 7 ∧ (7 : Int) ≤ 7 by omega) 0 rfl rfl rfl) hf hg
theorem r12_0 (h : J S m0 B m) (g : Nat) (hi : 0 ≤ i ∧ i ≤ 7) : 0 ≤ m g 12 i ∧ m g 12 i ≤ 6 := by
  have h1 := h.1 g 12 i (jq_of rfl)
  unfold jl jh at h1
  rw [(jf_at (show (0 : Int) ≤ i ∧ i ≤ (7 : Int) by omega) 0 (jb 12) rfl rfl)] at h1
  exact h1
theorem w12_0 (h : J S m0 B m) (hm : m1 = z_upd m g 12 i x) (hi : 0 ≤ i ∧ i ≤ 7) (hx : 0 ≤ x ∧ x ≤ 6) (hf : ¬ S.1 1) (hg : ¬ S.2.1 g) : J S m0 B m1 := h.upd hm (by unfold jl jh; rw [(jf_at (show (0 : Int) ≤ i ∧ i ≤ (7 : Int) by omega) 0 (jb 12) rfl rfl)]; exact hx) (fun e => absurd e (by decide)) (ja_at (show (0 : Int) ≤ i ∧ i ≤ (7 : Int) by omega) 0 rfl rfl rfl) hf hg
theorem r13_0 (h : J S m0 B m) (g : Nat) (hi : 0 ≤ i ∧ i ≤ 47) : 0 ≤ m g 13 i ∧ m g 13 i ≤ 86399 := by
  have h1 := h.1 g 13 i (jq_of rfl)
  unfold jl jh at h1
  rw [(jf_at (show (0 : Int) ≤ i ∧ i ≤ (47 : Int) by omega) 0 (jb 13) rfl rfl)] at h1
  exact h1
theorem w13_0 (h : J S m0 B m) (hm : m1 = z_upd m g 13 i x) (hi : 0 ≤ i ∧ i ≤ 47) (hx : 0 ≤ x ∧ x ≤ 86399) (hf : ¬ S.1 1) (hg : ¬ S.2.1 g) : J S m0 B m1 := h.upd hm (by unfold jl jh; rw [(jf_at (show (0 : Int) ≤ i ∧ i ≤ (47 : Int) by omega) 0 (jb 13) rfl rfl)]; exact hx) (fun e => absurd e (by decide)) (ja_at (show (0 : Int) ≤ i ∧ i ≤ (47 : Int) by omega) 0 rfl rfl rfl) hf hg
theorem r14_0 (h : J S m0 B m) (g : Nat) (hi : 0 ≤ i ∧ i ≤ 47) : 0 ≤ m g 14 i ∧ m g 14 i ≤ 3 := by
  have h1 := h.1 g 14 i (jq_of rfl)
  unfold jl jh at h1
  rw [(jf_at (show (0 : Int) ≤ i ∧ i ≤ (47 : Int) by omega) 0 (jb 14) rfl rfl)] at h1
  exact h1
theorem w14_0 (h : J S m0 B m) (hm : m1 = z_upd m g 14 i x) (hi : 0 ≤ i ∧ i ≤ 47) (hx : 0 ≤ x ∧ x ≤ 3) (hf : ¬ S.1 1) (hg : ¬ S.2.1 g) : J S m0 B m1 := h.upd hm (by unfold jl jh; rw [(jf_at (show (0 : Int) ≤ i ∧ i ≤ (47 : Int) by omega) 0 (jb 14) rfl rfl)]; exact hx) (fun e => absurd e (by decide)) (ja_at (show (0 : Int) ≤ i ∧ i ≤ (47 : Int) by omega) 0 rfl rfl rfl) hf hg
theorem r15_0 (h : J S m0 B m) (g : Nat) (hi : 0 ≤ i ∧ i ≤ 3) : (-1) ≤ m g 15 i ∧ m g 15 i ≤ 364 := by
  have h1 := h.1 g 15 i (jq_of rfl)
  unfold jl jh at h1
  rw [(jf_at (show (0 : Int) ≤ i ∧ i ≤ (3 : Int) by omega) 0 (jb 15) rfl rfl)] at h1
  exact h1
theorem w15_0 (h : J S m0 B m) (hm : m1 = z_upd m g 15 i x) (hi : 0 ≤ i ∧ i ≤ 3) (hx : (-1) ≤ x ∧ x ≤ 364) (hf : ¬ S.1 1) (hg : ¬ S.2.1 g) : J S m0 B m1 := h.upd hm (by unfold jl jh; rw [(jf_at (show (0 : Int) ≤ i ∧ i ≤ (3 : Int) by omega) 0 (jb 15) rfl rfl)]; exact hx) (fun e => absurd e (by decide)) (ja_at (show (0 : Int) ≤ i ∧ i ≤ (3 : Int) by omega) 0 rfl rfl rfl) hf hg
theorem r16_0 (h : J S m0 B m) (g : Nat) (hi : 0 ≤ i ∧ i ≤ 27) : 0 ≤ m g 16 i ∧ m g 16 i ≤ 7 := by
  have h1 := h.1 g 16 i (jq_of rfl)
  unfold jl jh at h1
  rw [(jf_at (show (0 : Int) ≤ i ∧ i ≤ (27 : Int) by omega) 0 (jb 16) rfl rfl)] at h1
  exact h1
theorem w16_0 (h : J S m0 B m) (hm : m1 = z_upd m g 16 i x) (hi : 0 ≤ i ∧ i ≤ 27) (hx : 0 ≤ x ∧ x ≤ 7) (hf : ¬ S.1 1) (hg : ¬ S.2.1 g) : J S m0 B m1 := h.upd hm (by unfold jl jh; rw [(jf_at (show (0 : Int) ≤ i ∧ i ≤ (27 : Int) by omega) 0 (jb 16) rfl rfl)]; exact hx) (fun e => absurd e (by decide)) (ja_at (show (0 : Int) ≤ i ∧ i ≤ (27 : Int) by omega) 0 rfl rfl rfl) hf hg
theorem r17_0 (h : J S m0 B m) (g : Nat) (hi : 0 ≤ i ∧ i ≤ 15) : 0 ≤ m g 17 i ∧ m g 17 i ≤ 364 := by
  have h1 := h.1 g 17 i (jq_of rfl)
  unfold jl jh at h1
  rw [(jf_at (show (0 : Int) ≤ i ∧ i ≤ (15 : Int) by omega) 0 (jb 17) rfl rfl)] at h1
  exact h1
theorem w17_0 (h : J S m0 B m) (hm : m1 = z_upd m g 17 i x) (hi : 0 ≤ i ∧ i ≤ 15) (hx : 0 ≤ x ∧ x ≤ 364) (hf : ¬ S.1 1) (hg : ¬ S.2.1 g) : J S m0 B m1 := h.upd hm (by unfold jl jh; rw [(jf_at (show (0 : Int) ≤ i ∧ i ≤ (15 : Int) by omega) 0 (jb 17) rfl rfl)]; exact hx) (fun e => absurd e (by decide)) (ja_at (show (0 : Int) ≤ i ∧ i ≤ (15 : Int) by omega) 0 rfl rfl rfl) hf hg
theorem r18_0 (h : J S m0 B m) (g : Nat) (hi : 0 ≤ i ∧ i ≤ 15) : 0 ≤ m g 18 i ∧ m g 18 i ≤ 7 := by
  have h1 := h.1 g 18 i (jq_of rfl)
  unfold jl jh at h1
  rw [(jf_at (show (0 : Int) ≤ i ∧ i ≤ (15 : Int) by omega) 0 (jb 18) rfl rfl)] at h1
  exact h1
theorem w18_0 (h : J S m0 B m) (hm : m1 = z_upd m g 18 i x) (hi : 0 ≤ i ∧ i ≤ 15) (hx : 0 ≤ x ∧ x ≤ 7) (hf : ¬ S.1 1) (hg : ¬ S.2.1 g) : J S m0 B m1 := h.upd hm (by unfold jl jh; rw [(jf_at (show (0 : Int) ≤ i ∧ i ≤ (15 : Int) by omega) 0 (jb 18) rfl rfl)]; exact hx) (fun e => absurd e (by decide)) (ja_at (show (0 : Int) ≤ i ∧ i ≤ (15 : Int) by omega) 0 rfl rfl rfl) hf hg
theorem w19_0 (h : J S m0 B m) (hm : m1 = z_upd m g 19 i x) (hi : 0 ≤ i ∧ i ≤ 2) (hx : -9223372036854775808 ≤ x ∧ x ≤ 9223372036854775807) (hf : ¬ S.1 2) (hg : ¬ S.2.1 g) : J S m0 B m1 := h.upd hm (by unfold jl jh; rw [(jf_no (show (0 : Int) ≤ i ∧ i ≤ (2 : Int) by omega) (jb 19) rfl)]; exact hx) (fun e => absurd e (by decide)) (ja_at (show (0 : Int) ≤ i ∧ i ≤ (6 : Int) by omega) 0 rfl rfl rfl) hf hg
theorem r19_3 (h : J S m0 B m) (g : Nat) : 1 ≤ m g 19 3 ∧ m g 19 3 ≤ 3 := by
  have h1 := h.1 g 19 3 (jq_of rfl)
  unfold jl jh at h1
  rw [(jf_at (show (3 : Int) ≤ 3 ∧ (3 : Int) ≤ 3 by omega) 0 (jb 19) rfl rfl)] at h1
  exact h1
theorem w19_3 (h : J S m0 B m) (hm : m1 = z_upd m g 19 3 x) (hx : 1 ≤ x ∧ x ≤ 3) (hf : ¬ S.1 2) (hg : ¬ S.2.1 g) : J S m0 B m1 := h.upd hm (by unfold jl jh; rw [(jf_at (show (3 : Int) ≤ 3 ∧ (3 : Int) ≤ 3 by omega) 0 (jb 19) rfl rfl)]; exact hx) (fun e => absurd e (by decide)) (ja_at (show (0 : Int) ≤ 3 ∧ (3 : Int) ≤ 6 by omega) 0 rfl rfl rfl) hf hg
theorem r19_4 (h : J S m0 B m) (g : Nat) : 4 ≤ m g 19 4 ∧ m g 19 4 ≤ 16 := by
  have h1 := h.1 g 19 4 (jq_of rfl)
  unfold jl jh at h1
  rw [(jf_at (show (4 : Int) ≤ 4 ∧ (4 : Int) ≤ 4 by omega) 1 (jb 19) rfl rfl)] at h1
  exact h1
theorem w19_4 (h : J S m0 B m) (hm : m1 = z_upd m g 19 4 x) (hx : 4 ≤ x ∧ x ≤ 16) (hf : ¬ S.1 2) (hg : ¬ S.2.1 g) : J S m0 B m1 := h.upd hm (by unfold jl jh; rw [(jf_at (show (4 : Int) ≤ 4 ∧ (4 : Int) ≤ 4 by omega) 1 (jb 19) rfl rfl)]; exact hx) (fun e => absurd e (by decide)) (ja_at (show (0 : Int) ≤ 4 ∧ (4 : Int) ≤ 6 by omega) 0 rfl rfl rfl) hf hg
theorem r19_5 (h : J S m0 B m) (g : Nat) : 0 ≤ m g 19 5 ∧ m g 19 5 ≤ 47 := by
  have h1 := h.1 g 19 5 (jq_of rfl)
  unfold jl jh at h1
  rw [(jf_at (show (5 : Int) ≤ 5 ∧ (5 : Int) ≤ 5 by omega) 2 (jb 19) rfl rfl)] at h1
  exact h1
theorem w19_5 (h : J S m0 B m) (hm : m1 = z_upd m g 19 5 x) (hx : 0 ≤ x ∧ x ≤ 47) (hf : ¬ S.1 2) (hg : ¬ S.2.1 g) : J S m0 B m1 := h.upd hm (by unfold jl jh; rw [(jf_at (show (5 : Int) ≤ 5 ∧ (5 : Int) ≤ 5 by omega) 2 (jb 19) rfl rfl)]; exact hx) (fun e => absurd e (by decide)) (ja_at (show (0 : Int) ≤ 5 ∧ (5 : Int) ≤ 6 by omega) 0 rfl rfl rfl) hf hg
theorem w19_6 (h : J S m0 B m) (hm : m1 = z_upd m g 19 6 x) (hx : -9223372036854775808 ≤ x ∧ x ≤ 9223372036854775807) (hf : ¬ S.1 2) (hg : ¬ S.2.1 g) : J S m0 B m1 := h.upd hm (by unfold jl jh; rw [(jf_no (show (6 : Int) ≤ 6 ∧ (6 : Int) ≤ 6 by omega) (jb 19) rfl)]; exact hx) (fun e => absurd e (by decide)) (ja_at (show (0 : Int) ≤ 6 ∧ (6 : Int) ≤ 6 by omega) 0 rfl rfl rfl) hf hg
theorem r20_0 (h : J S m0 B m) (g : Nat) (hi : 0 ≤ i ∧ i ≤ 47) : (-500) ≤ m g 20 i ∧ m g 20 i ≤ 500 := by
  have h1 := h.1 g 20 i (jq_of rfl)
  unfold jl jh at h1
  rw [(jf_at (show (0 : Int) ≤ i ∧ i ≤ (47 : Int) by omega) 0 (jb 20) rfl rfl)] at h1
  exact h1
theorem w20_0 (h : J S m0 B m) (hm : m1 = z_upd m g 20 i x) (hi : 0 ≤ i ∧ i ≤ 47) (hx : (-500) ≤ x ∧ x ≤ 500) (hf : ¬ S.1 2) (hg : ¬ S.2.1 g) : J S m0 B m1 := h.upd hm (by unfold jl jh; rw [(jf_at (show (0 : Int) ≤ i ∧ i ≤ (47 : Int) by omega) 0 (jb 20) rfl rfl)]; exact hx) (fun e => absurd e (by decide)) (ja_at (show (0 : Int) ≤ i ∧ i ≤ (47 : Int) by omega) 0 rfl rfl rfl) hf hg
theorem r21_0 (h : J S m0 B m) (g : Nat) (hi : 0 ≤ i ∧ i ≤ 47) : (-500) ≤ m g 21 i ∧ m g 21 i ≤ 500 := by
  have h1 := h.1 g 21 i (jq_of rfl)
  unfold jl jh at h1
  rw [(jf_at (show (0 : Int) ≤ i ∧ i ≤ (47 : Int) by omega) 0 (jb 21) rfl rfl)] at h1
  exact h1
theorem w21_0 (h : J S m0 B m) (hm : m1 = z_upd m g 21 i x) (hi : 0 ≤ i ∧ i ≤ 47) (hx : (-500) ≤ x ∧ x ≤ 500) (hf : ¬ S.1 2) (hg : ¬ S.2.1 g) : J S m0 B m1 := h.upd hm (by unfold jl jh; rw [(jf_at (show (0 : Int) ≤ i ∧ i ≤ (47 : Int) by omega) 0 (jb 21) rfl rfl)]; exact hx) (fun e => absurd e (by decide)) (ja_at (show (0 : Int) ≤ i ∧ i ≤ (47 : Int) by omega) 0 rfl rfl rfl) hf hg
theorem w22_0 (h : J S m0 B m) (hm : m1 = z_upd m g 22 i x) (hi : 0 ≤ i ∧ i ≤ 15) (hx : -9223372036854775808 ≤ x ∧ x ≤ 9223372036854775807) (hf : ¬ S.1 2) (hg : ¬ S.2.1 g) : J S m0 B m1 := h.upd hm (by unfold jl jh; rw [(jf_no (show (0 : Int) ≤ i ∧ i ≤ (15 : Int) by omega) (jb 22) rfl)]; exact hx) (fun e => absurd e (by decide)) (ja_at (show (0 : Int) ≤ i ∧ i ≤ (15 : Int) by omega) 0 rfl rfl rfl) hf hg
theorem w23_0 (h : J S m0 B m) (hm : m1 = z_upd m g 23 i x) (hi : 0 ≤ i ∧ i ≤ 2) (hx : -9223372036854775808 ≤ x ∧ x ≤ 9223372036854775807) (hf : ¬ S.1 5) (hg : ¬ S.2.1 g) : J S m0 B m1 := h.upd hm (by unfold jl jh; rw [(jf_no (show (0 : Int) ≤ i ∧ i ≤ (2 : Int) by omega) (jb 23) rfl)]; exact hx) (fun e => absurd e (by decide)) (ja_at (show (0 : Int) ≤ i ∧ i ≤ (3 : Int) by omega) 0 rfl rfl rfl) hf hg
theorem r23_3 (h : J S m0 B m) (g : Nat) : 0 ≤ m g 23 3 ∧ m g 23 3 ≤ B := by
  have h1 := h.1 g 23 3 (jq_of rfl)
  unfold jl jh at h1
  rw [(jf_at (show (3 : Int) ≤ 3 ∧ (3 : Int) ≤ 3 by omega) 0 (jb 23) rfl rfl)] at h1
  exact h1
theorem w23_3 (h : J S m0 B m) (hm : m1 = z_upd m g 23 3 x) (hx : 0 ≤ x ∧ x ≤ B) (hf : ¬ S.1 5) (hg : ¬ S.2.1 g) : J S m0 B m1 := h.upd hm (by unfold jl jh; rw [(jf_at (show (3 : Int) ≤ 3 ∧ (3 : Int) ≤ 3 by omega) 0 (jb 23) rfl rfl)]; exact hx) (fun e => absurd e (by decide)) (ja_at (show (0 : Int) ≤ 3 ∧ (3 : Int) ≤ 3 by omega) 0 rfl rfl rfl) hf hg
theorem w24_0 (h : J S m0 B m) (hm : m1 = z_upd m g 24 i x) (hi : 0 ≤ i ∧ i ≤ 27) (hx : -9223372036854775808 ≤ x ∧ x ≤ 9223372036854775807) (hf : ¬ S.1 10) (hg : ¬ S.2.1 g) : J S m0 B m1 := h.upd hm (by unfold jl jh; rw [(jf_no (show (0 : Int) ≤ i ∧ i ≤ (27 : Int) by omega) (jb 24) rfl)]; exact hx) (fun e => absurd e (by decide)) (ja_at (show (0 : Int) ≤ i ∧ i ≤ (27 : Int) by omega) 0 rfl rfl rfl) hf hg
theorem w25_0 (h : J S m0 B m) (hm : m1 = z_upd m g 25 i x) (hi : 0 ≤ i ∧ i ≤ 27) (hx : -9223372036854775808 ≤ x ∧ x ≤ 9223372036854775807) (hf : ¬ S.1 5) (hg : ¬ S.2.1 g) : J S m0 B m1 := h.upd hm (by unfold jl jh; rw [(jf_no (show (0 : Int) ≤ i ∧ i ≤ (27 : Int) by omega) (jb 25) rfl)]; exact hx) (fun e => absurd e (by decide)) (ja_at (show (0 : Int) ≤ i ∧ i ≤ (27 : Int) by omega) 0 rfl rfl rfl) hf hg
theorem w26_0 (h : J S m0 B m) (hm : m1 = z_upd m g 26 i x) (hi : 0 ≤ i ∧ i ≤ 197) (hx : -9223372036854775808 ≤ x ∧ x ≤ 9223372036854775807) (hf : ¬ S.1 5) (hg : ¬ S.2.1 g) : J S m0 B m1 := h.upd hm (by unfold jl jh; rw [(jf_no (show (0 : Int) ≤ i ∧ i ≤ (197 : Int) by omega) (jb 26) rfl)]; exact hx) (fun e => absurd e (by decide)) (ja_at (show (0 : Int) ≤ i ∧ i ≤ (197 : Int) by omega) 0 rfl rfl rfl) hf hg
theorem w27_0 (h : J S m0 B m) (hm : m1 = z_upd m g 27 i x) (hi : 0 ≤ i ∧ i ≤ 1) (hx : -9223372036854775808 ≤ x ∧ x ≤ 9223372036854775807) (hf : ¬ S.1 7) (hg : ¬ S.2.1 g) : J S m0 B m1 := h.upd hm (by unfold jl jh; rw [(jf_no (show (0 : Int) ≤ i ∧ i ≤ (1 : Int) by omega) (jb 27) rfl)]; exact hx) (fun e => absurd e (by decide)) (ja_at (show (0 : Int) ≤ i ∧ i ≤ (9 : Int) by omega) 0 rfl rfl rfl) hf hg
theorem r27_2 (h : J S m0 B m) (g : Nat) : 0 ≤ m g 27 2 ∧ m g 27 2 ≤ B := by
  have h1 := h.1 g 27 2 (jq_of rfl)
  unfold jl jh at h1
  rw [(jf_at (show (2 : Int) ≤ 2 ∧ (2 : Int) ≤ 2 by omega) 0 (jb 27) rfl rfl)] at h1
  exact h1
theorem w27_2 (h : J S m0 B m) (hm : m1 = z_upd m g 27 2 x) (hx : 0 ≤ x ∧ x ≤ B) (hf : ¬ S.1 7) (hg : ¬ S.2.1 g) : J S m0 B m1 := h.upd hm (by unfold jl jh; rw [(jf_at (show (2 : Int) ≤ 2 ∧ (2 : Int) ≤ 2 by omega) 0 (jb 27) rfl rfl)]; exact hx) (fun e => absurd e (by decide)) (ja_at (show (0 : Int) ≤ 2 ∧ (2 : Int) ≤ 9 by omega) 0 rfl rfl rfl) hf hg
theorem w27_3 (h : J S m0 B m) (hm : m1 = z_upd m g 27 i x) (hi : 3 ≤ i ∧ i ≤ 8) (hx : -9223372036854775808 ≤ x ∧ x ≤ 9223372036854775807) (hf : ¬ S.1 7) (hg : ¬ S.2.1 g) : J S m0 B m1 := h.upd hm (by unfold jl jh; rw [(jf_no (show (3 : Int) ≤ i ∧ i ≤ (8 : Int) by omega) (jb 27) rfl)]; exact hx) (fun e => absurd e (by decide)) (ja_at (show (0 : Int) ≤ i ∧ i ≤ (9 : Int) by omega) 0 rfl rfl rfl) hf hg
theorem r27_9 (h : J S m0 B m) (g : Nat) : 0 ≤ m g 27 9 ∧ m g 27 9 ≤ 2000000000 := by
  have h1 := h.1 g 27 9 (jq_of rfl)
  unfold jl jh at h1
  rw [(jf_at (show (9 : Int) ≤ 9 ∧ (9 : Int) ≤ 9 by omega) 1 (jb 27) rfl rfl)] at h1
  exact h1
theorem w27_9 (h : J S m0 B m) (hm : m1 = z_upd m g 27 9 x) (hx : 0 ≤ x ∧ x ≤ 2000000000) (hf : ¬ S.1 7) (hg : ¬ S.2.1 g) : J S m0 B m1 := h.upd hm (by unfold jl jh; rw [(jf_at (show (9 : Int) ≤ 9 ∧ (9 : Int) ≤ 9 by omega) 1 (jb 27) rfl rfl)]; exact hx) (fun e => absurd e (by decide)) (ja_at (show (0 : Int) ≤ 9 ∧ (9 : Int) ≤ 9 by omega) 0 rfl rfl rfl) hf hg
theorem w28_0 (h : J S m0 B m) (hm : m1 = z_upd m g 28 i x) (hi : 0 ≤ i ∧ i ≤ 383) (hx : -9223372036854775808 ≤ x ∧ x ≤ 9223372036854775807) (hf : ¬ S.1 7) (hg : ¬ S.2.1 g) : J S m0 B m1 := h.upd hm (by unfold jl jh; rw [(jf_no (show (0 : Int) ≤ i ∧ i ≤ (383 : Int) by omega) (jb 28) rfl)]; exact hx) (fun e => absurd e (by decide)) (ja_at (show (0 : Int) ≤ i ∧ i ≤ (383 : Int) by omega) 0 rfl rfl rfl) hf hg
theorem w29_0 (h : J S m0 B m) (hm : m1 = z_upd m g 29 i x) (hi : 0 ≤ i ∧ i ≤ 3) (hx : -9223372036854775808 ≤ x ∧ x ≤ 9223372036854775807) (hf : ¬ S.1 7) (hg : ¬ S.2.1 g) : J S m0 B m1 := h.upd hm (by unfold jl jh; rw [(jf_no (show (0 : Int) ≤ i ∧ i ≤ (3 : Int) by omega) (jb 29) rfl)]; exact hx) (fun e => absurd e (by decide)) (ja_at (show (0 : Int) ≤ i ∧ i ≤ (3 : Int) by omega) 0 rfl rfl rfl) hf hg
theorem w30_0 (h : J S m0 B m) (hm : m1 = z_upd m g 30 i x) (hi : 0 ≤ i ∧ i ≤ 3) (hx : -9223372036854775808 ≤ x ∧ x ≤ 9223372036854775807) (hf : ¬ S.1 8) (hg : ¬ S.2.1 g) : J S m0 B m1 := h.upd hm (by unfold jl jh; rw [(jf_no (show (0 : Int) ≤ i ∧ i ≤ (3 : Int) by omega) (jb 30) rfl)]; exact hx) (fun e => absurd e (by decide)) (ja_at (show (0 : Int) ≤ i ∧ i ≤ (3 : Int) by omega) 0 rfl rfl rfl) hf hg
theorem w31_0 (h : J S m0 B m) (hm : m1 = z_upd m g 31 i x) (hi : 0 ≤ i ∧ i ≤ 3) (hx : -9223372036854775808 ≤ x ∧ x ≤ 9223372036854775807) (hf : ¬ S.1 8) (hg : ¬ S.2.1 g) : J S m0 B m1 := h.upd hm (by unfold jl jh; rw [(jf_no (show (0 : Int) ≤ i ∧ i ≤ (3 : Int) by omega) (jb 31) rfl)]; exact hx) (fun e => absurd e (by decide)) (ja_at (show (0 : Int) ≤ i ∧ i ≤ (3 : Int) by omega) 0 rfl rfl rfl) hf hg
theorem w32_0 (h : J S m0 B m) (hm : m1 = z_upd m g 32 i x) (hi : 0 ≤ i ∧ i ≤ 3) (hx : -9223372036854775808 ≤ x ∧ x ≤ 9223372036854775807) (hf : ¬ S.1 8) (hg : ¬ S.2.1 g) : J S m0 B m1 := h.upd hm (by unfold jl jh; rw [(jf_no (show (0 : Int) ≤ i ∧ i ≤ (3 : Int) by omega) (jb 32) rfl)]; exact hx) (fun e => absurd e (by decide)) (ja_at (show (0 : Int) ≤ i ∧ i ≤ (3 : Int) by omega) 0 rfl rfl rfl) hf hg
theorem w33_0 (h : J S m0 B m) (hm : m1 = z_upd m g 33 i x) (hi : 0 ≤ i ∧ i ≤ 3) (hx : -9223372036854775808 ≤ x ∧ x ≤ 9223372036854775807) (hf : ¬ S.1 9) (hg : ¬ S.2.1 g) : J S m0 B m1 := h.upd hm (by unfold jl jh; rw [(jf_no (show (0 : Int) ≤ i ∧ i ≤ (3 : Int) by omega) (jb 33) rfl)]; exact hx) (fun e => absurd e (by decide)) (ja_at (show (0 : Int) ≤ i ∧ i ≤ (3 : Int) by omega) 0 rfl rfl rfl) hf hg
theorem w34_0 (h : J S m0 B m) (hm : m1 = z_upd m g 34 i x) (hi : 0 ≤ i ∧ i ≤ 4) (hx : -9223372036854775808 ≤ x ∧ x ≤ 9223372036854775807) (hf : ¬ S.1 9) (hg : ¬ S.2.1 g) : J S m0 B m1 := h.upd hm (by unfold jl jh; rw [(jf_no (show (0 : Int) ≤ i ∧ i ≤ (4 : Int) by omega) (jb 34) rfl)]; exact hx) (fun e => absurd e (by decide)) (ja_at (show (0 : Int) ≤ i ∧ i ≤ (4 : Int) by omega) 0 rfl rfl rfl) hf hg
theorem w35_0 (h : J S m0 B m) (hm : m1 = z_upd m g 35 i x) (hi : 0 ≤ i ∧ i ≤ 4) (hx : -9223372036854775808 ≤ x ∧ x ≤ 9223372036854775807) (hf : ¬ S.1 9) (hg : ¬ S.2.1 g) : J S m0 B m1 := h.upd hm (by unfold jl jh; rw [(jf_no (show (0 : Int) ≤ i ∧ i ≤ (4 : Int) by omega) (jb 35) rfl)]; exact hx) (fun e => absurd e (by decide)) (ja_at (show (0 : Int) ≤ i ∧ i ≤ (4 : Int) by omega) 0 rfl rfl rfl) hf hg
theorem w36_0 (h : J S m0 B m) (hm : m1 = z_upd m g 36 i x) (hi : 0 ≤ i ∧ i ≤ 4) (hx : -9223372036854775808 ≤ x ∧ x ≤ 9223372036854775807) (hf : ¬ S.1 9) (hg : ¬ S.2.1 g) : J S m0 B m1 := h.upd hm (by unfold jl jh; rw [(jf_no (show (0 : Int) ≤ i ∧ i ≤ (4 : Int) by omega) (jb 36) rfl)]; exact hx) (fun e => absurd e (by decide)) (ja_at (show (0 : Int) ≤ i ∧ i ≤ (4 : Int) by omega) 0 rfl rfl rfl) hf hg
theorem w37_0 (h : J S m0 B m) (hm : m1 = z_upd m g 37 0 x) (hx : -9223372036854775808 ≤ x ∧ x ≤ 9223372036854775807) (hf : ¬ S.1 6) (hg : ¬ S.2.1 g) : J S m0 B m1 := h.upd hm (by unfold jl jh; rw [(jf_no (show (0 : Int) ≤ 0 ∧ (0 : Int) ≤ 0 by omega) (jb 37) rfl)]; exact hx) (fun e => absurd e (by decide)) (ja_at (show (0 : Int) ≤ 0 ∧ (0 : Int) ≤ 1 by omega) 0 rfl rfl rfl) hf hg
theorem r37_1 (h : J S m0 B m) (g : Nat) : 0 ≤ m g 37 1 ∧ m g 37 1 ≤ B := by
  have h1 := h.1 g 37 1 (jq_of rfl)
  unfold jl jh at h1
  rw [(jf_at (show (1 : Int) ≤ 1 ∧ (1 : Int) ≤ 1 by omega) 0 (jb 37) rfl rfl)] at h1
  exact h1
theorem w37_1 (h : J S m0 B m) (hm : m1 = z_upd m g 37 1 x) (hx : 0 ≤ x ∧ x ≤ B) (hf : ¬ S.1 6) (hg : ¬ S.2.1 g) : J S m0 B m1 := h.upd hm (by unfold jl jh; rw [(jf_at (show (1 : Int) ≤ 1 ∧ (1 : Int) ≤ 1 by omega) 0 (jb 37) rfl rfl)]; exact hx) (fun e => absurd e (by decide)) (ja_at (show (0 : Int) ≤ 1 ∧ (1 : Int) ≤ 1 by omega) 0 rfl rfl rfl) hf hg
theorem w38_0 (h : J S m0 B m) (hm : m1 = z_upd m g 38 i x) (hi : 0 ≤ i ∧ i ≤ 119) (hx : -9223372036854775808 ≤ x ∧ x ≤ 9223372036854775807) (hf : ¬ S.1 6) (hg : ¬ S.2.1 g) : J S m0 B m1 := h.upd hm (by unfold jl jh; rw [(jf_no (show (0 : Int) ≤ i ∧ i ≤ (119 : Int) by omega) (jb 38) rfl)]; exact hx) (fun e => absurd e (by decide)) (ja_at (show (0 : Int) ≤ i ∧ i ≤ (119 : Int) by omega) 0 rfl rfl rfl) hf hg
theorem r39_0 (h : J S m0 B m) (g : Nat) : 0 ≤ m g 39 0 ∧ m g 39 0 ≤ 1 := by
  have h1 := h.1 g 39 0 (jq_of rfl)
  unfold jl jh at h1
  rw [(jf_at (show (0 : Int) ≤ 0 ∧ (0 : Int) ≤ 0 by omega) 0 (jb 39) rfl rfl)] at h1
  exact h1
theorem w39_0 (h : J S m0 B m) (hm : m1 = z_upd m g 39 0 x) (hx : 0 ≤ x ∧ x ≤ 1) (hf : ¬ S.1 4) (hg : ¬ S.2.1 g) : J S m0 B m1 := h.upd hm (by unfold jl jh; rw [(jf_at (show (0 : Int) ≤ 0 ∧ (0 : Int) ≤ 0 by omega) 0 (jb 39) rfl rfl)]; exact hx) (fun e => absurd e (by decide)) (ja_at (show (0 : Int) ≤ 0 ∧ (0 : Int) ≤ 4 by omega) 0 rfl rfl rfl) hf hg
theorem w39_1 (h : J S m0 B m) (hm : m1 = z_upd m g 39 1 x) (hx : -9223372036854775808 ≤ x ∧ x ≤ 9223372036854775807) (hf : ¬ S.1 4) (hg : ¬ S.2.1 g) : J S m0 B m1 := h.upd hm (by unfold jl jh; rw [(jf_no (show (1 : Int) ≤ 1 ∧ (1 : Int) ≤ 1 by omega) (jb 39) rfl)]; exact hx) (fun e => absurd e (by decide)) (ja_at (show (0 : Int) ≤ 1 ∧ (1 : Int) ≤ 4 by omega) 0 rfl rfl rfl) hf hg
theorem r39_2 (h : J S m0 B m) (g : Nat) : 0 ≤ m g 39 2 ∧ m g 39 2 ≤ B := by
  have h1 := h.1 g 39 2 (jq_of rfl)
  unfold jl jh at h1
  rw [(jf_at (show (2 : Int) ≤ 2 ∧ (2 : Int) ≤ 2 by omega) 1 (jb 39) rfl rfl)] at h1
  exact h1
theorem w39_2 (h : J S m0 B m) (hm : m1 = z_upd m g 39 2 x) (hx : 0 ≤ x ∧ x ≤ B) (hf : ¬ S.1 4) (hg : ¬ S.2.1 g) : J S m0 B m1 := h.upd hm (by unfold jl jh; rw [(jf_at (show (2 : Int) ≤ 2 ∧ (2 : Int) ≤ 2 by omega) 1 (jb 39) rfl rfl)]; exact hx) (fun e => absurd e (by decide)) (ja_at (show (0 : Int) ≤ 2 ∧ (2 : Int) ≤ 4 by omega) 0 rfl rfl rfl) hf hg
theorem w39_3 (h : J S m0 B m) (hm : m1 = z_upd m g 39 3 x) (hx : -9223372036854775808 ≤ x ∧ x ≤ 9223372036854775807) (hf : ¬ S.1 4) (hg : ¬ S.2.1 g) : J S m0 B m1 := h.upd hm (by unfold jl jh; rw [(jf_no (show (3 : Int) ≤ 3 ∧ (3 : Int) ≤ 3 by omega) (jb 39) rfl)]; exact hx) (fun e => absurd e (by decide)) (ja_at (show (0 : Int) ≤ 3 ∧ (3 : Int) ≤ 4 by omega) 0 rfl rfl rfl) hf hg
theorem r39_4 (h : J S m0 B m) (g : Nat) : 0 ≤ m g 39 4 ∧ m g 39 4 ≤ 2000000300 := by
  have h1 := h.1 g 39 4 (jq_of rfl)
  unfold jl jh at h1
  rw [(jf_at (show (4 : Int) ≤ 4 ∧ (4 : Int) ≤ 4 by omega) 2 (jb 39) rfl rfl)] at h1
  exact h1
theorem w39_4 (h : J S m0 B m) (hm : m1 = z_upd m g 39 4 x) (hx : 0 ≤ x ∧ x ≤ 2000000300) (hf : ¬ S.1 4) (hg : ¬ S.2.1 g) : J S m0 B m1 := h.upd hm (by unfold jl jh; rw [(jf_at (show (4 : Int) ≤ 4 ∧ (4 : Int) ≤ 4 by omega) 2 (jb 39) rfl rfl)]; exact hx) (fun e => absurd e (by decide)) (ja_at (show (0 : Int) ≤ 4 ∧ (4 : Int) ≤ 4 by omega) 0 rfl rfl rfl) hf hg
theorem w40_0 (h : J S m0 B m) (hm : m1 = z_upd m g 40 i x) (hi : 0 ≤ i ∧ i ≤ 3) (hx : -9223372036854775808 ≤ x ∧ x ≤ 9223372036854775807) (hf : ¬ S.1 14) (hg : ¬ S.2.1 g) : J S m0 B m1 := h.upd hm (by unfold jl jh; rw [(jf_no (show (0 : Int) ≤ i ∧ i ≤ (3 : Int) by omega) (jb 40) rfl)]; exact hx) (fun e => absurd e (by decide)) (ja_at (show (0 : Int) ≤ i ∧ i ≤ (4 : Int) by omega) 0 rfl rfl rfl) hf hg
theorem r40_4 (h : J S m0 B m) (g : Nat) : 0 ≤ m g 40 4 ∧ m g 40 4 ≤ 1 := by
  have h1 := h.1 g 40 4 (jq_of rfl)
  unfold jl jh at h1
  rw [(jf_at (show (4 : Int) ≤ 4 ∧ (4 : Int) ≤ 4 by omega) 0 (jb 40) rfl rfl)] at h1
  exact h1
theorem w40_4 (h : J S m0 B m) (hm : m1 = z_upd m g 40 4 x) (hx : 0 ≤ x ∧ x ≤ 1) (hf : ¬ S.1 14) (hg : ¬ S.2.1 g) : J S m0 B m1 := h.upd hm (by unfold jl jh; rw [(jf_at (show (4 : Int) ≤ 4 ∧ (4 : Int) ≤ 4 by omega) 0 (jb 40) rfl rfl)]; exact hx) (fun e => absurd e (by decide)) (ja_at (show (0 : Int) ≤ 4 ∧ (4 : Int) ≤ 4 by omega) 0 rfl rfl rfl) hf hg
theorem w41_0 (h : J S m0 B m) (hm : m1 = z_upd m g 41 i x) (hi : 0 ≤ i ∧ i ≤ 2) (hx : -9223372036854775808 ≤ x ∧ x ≤ 9223372036854775807) (hf : ¬ S.1 19) (hg : ¬ S.2.1 g) : J S m0 B m1 := h.upd hm (by unfold jl jh; rw [(jf_no (show (0 : Int) ≤ i ∧ i ≤ (2 : Int) by omega) (jb 41) rfl)]; exact hx) (fun e => absurd e (by decide)) (ja_at (show (0 : Int) ≤ i ∧ i ≤ (2 : Int) by omega) 0 rfl rfl rfl) hf hg
theorem r41_3 (h : J S m0 B m) (g : Nat) : 0 ≤ m g 41 3 ∧ m g 41 3 ≤ 300 := by
  have h1 := h.1 g 41 3 (jq_of rfl)
  unfold jl jh at h1
  rw [(jf_at (show (3 : Int) ≤ 3 ∧ (3 : Int) ≤ 3 by omega) 0 (jb 41) rfl rfl)] at h1
  exact h1
theorem w41_3 (h : J S m0 B m) (hm : m1 = z_upd m g 41 3 x) (hx : 0 ≤ x ∧ x ≤ 300) (hf : ¬ S.1 15) (hg : ¬ S.2.1 g) : J S m0 B m1 := h.upd hm (by unfold jl jh; rw [(jf_at (show (3 : Int) ≤ 3 ∧ (3 : Int) ≤ 3 by omega) 0 (jb 41) rfl rfl)]; exact hx) (fun e => absurd e (by decide)) (ja_at (show (3 : Int) ≤ 3 ∧ (3 : Int) ≤ 3 by omega) 1 rfl rfl rfl) hf hg
theorem w41_4 (h : J S m0 B m) (hm : m1 = z_upd m g 41 i x) (hi : 4 ≤ i ∧ i ≤ 5) (hx : -9223372036854775808 ≤ x ∧ x ≤ 9223372036854775807) (hf : ¬ S.1 16) (hg : ¬ S.2.1 g) : J S m0 B m1 := h.upd hm (by unfold jl jh; rw [(jf_no (show (4 : Int) ≤ i ∧ i ≤ (5 : Int) by omega) (jb 41) rfl)]; exact hx) (fun e => absurd e (by decide)) (ja_at (show (4 : Int) ≤ i ∧ i ≤ (5 : Int) by omega) 2 rfl rfl rfl) hf hg
theorem r41_6 (h : J S m0 B m) (g : Nat) : 0 ≤ m g 41 6 ∧ m g 41 6 ≤ 1 := by
  have h1 := h.1 g 41 6 (jq_of rfl)
  unfold jl jh at h1
  rw [(jf_at (show (6 : Int) ≤ 6 ∧ (6 : Int) ≤ 6 by omega) 1 (jb 41) rfl rfl)] at h1
  exact h1
theorem w41_6 (h : J S m0 B m) (hm : m1 = z_upd m g 41 6 x) (hx : 0 ≤ x ∧ x ≤ 1) (hf : ¬ S.1 19) (hg : ¬ S.2.1 g) : J S m0 B m1 := h.upd hm (by unfold jl jh; rw [(jf_at (show (6 : Int) ≤ 6 ∧ (6 : Int) ≤ 6 by omega) 1 (jb 41) rfl rfl)]; exact hx) (fun e => absurd e (by decide)) (ja_at (show (6 : Int) ≤ 6 ∧ (6 : Int) ≤ 10 by omega) 3 rfl rfl rfl) hf hg
theorem r41_7 (h : J S m0 B m) (g : Nat) : 0 ≤ m g 41 7 ∧ m g 41 7 ≤ 300 := by
  have h1 := h.1 g 41 7 (jq_of rfl)
  unfold jl jh at h1
  rw [(jf_at (show (7 : Int) ≤ 7 ∧ (7 : Int) ≤ 7 by omega) 2 (jb 41) rfl rfl)] at h1
  exact h1
theorem w41_7 (h : J S m0 B m) (hm : m1 = z_upd m g 41 7 x) (hx : 0 ≤ x ∧ x ≤ 300) (hf : ¬ S.1 19) (hg : ¬ S.2.1 g) : J S m0 B m1 := h.upd hm (by unfold jl jh; rw [(jf_at (show (7 : Int) ≤ 7 ∧ (7 : Int) ≤ 7 by omega) 2 (jb 41) rfl rfl)]; exact hx) (fun e => absurd e (by decide)) (ja_at (show (6 : Int) ≤ 7 ∧ (7 : Int) ≤ 10 by omega) 3 rfl rfl rfl) hf hg
theorem w41_8 (h : J S m0 B m) (hm : m1 = z_upd m g 41 i x) (hi : 8 ≤ i ∧ i ≤ 10) (hx : -9223372036854775808 ≤ x ∧ x ≤ 9223372036854775807) (hf : ¬ S.1 19) (hg : ¬ S.2.1 g) : J S m0 B m1 := h.upd hm (by unfold jl jh; rw [(jf_no (show (8 : Int) ≤ i ∧ i ≤ (10 : Int) by omega) (jb 41) rfl)]; exact hx) (fun e => absurd e (by decide)) (ja_at (show (6 : Int) ≤ i ∧ i ≤ (10 : Int) by omega) 3 rfl rfl rfl) hf hg
theorem r42_0 (h : J S m0 B m) (g : Nat) (hi : 0 ≤ i ∧ i ≤ 299) : 0 ≤ m g 42 i ∧ m g 42 i ≤ 255 := by
  have h1 := h.1 g 42 i (jq_of rfl)
  unfold jl jh at h1
  rw [(jf_at (show (0 : Int) ≤ i ∧ i ≤ (299 : Int) by omega) 0 (jb 42) rfl rfl)] at h1
  exact h1
theorem w42_0 (h : J S m0 B m) (hm : m1 = z_upd m g 42 i x) (hi : 0 ≤ i ∧ i ≤ 299) (hx : 0 ≤ x ∧ x ≤ 255) (hf : ¬ S.1 15) (hg : ¬ S.2.1 g) : J S m0 B m1 := h.upd hm (by unfold jl jh; rw [(jf_at (show (0 : Int) ≤ i ∧ i ≤ (299 : Int) by omega) 0 (jb 42) rfl rfl)]; exact hx) (fun e => absurd e (by decide)) (ja_at (show (0 : Int) ≤ i ∧ i ≤ (299 : Int) by omega) 0 rfl rfl rfl) hf hg
theorem r43_0 (h : J S m0 B m) (g : Nat) (hi : 0 ≤ i ∧ i ≤ 3) : 0 ≤ m g 43 i ∧ m g 43 i ≤ 100 := by
  have h1 := h.1 g 43 i (jq_of rfl)
  unfold jl jh at h1
  rw [(jf_at (show (0 : Int) ≤ i ∧ i ≤ (3 : Int) by omega) 0 (jb 43) rfl rfl)] at h1
  exact h1
theorem w43_0 (h : J S m0 B m) (hm : m1 = z_upd m g 43 i x) (hi : 0 ≤ i ∧ i ≤ 3) (hx : 0 ≤ x ∧ x ≤ 100) (hf : ¬ S.1 19) (hg : ¬ S.2.1 g) : J S m0 B m1 := h.upd hm (by unfold jl jh; rw [(jf_at (show (0 : Int) ≤ i ∧ i ≤ (3 : Int) by omega) 0 (jb 43) rfl rfl)]; exact hx) (fun e => absurd e (by decide)) (ja_at (show (0 : Int) ≤ i ∧ i ≤ (3 : Int) by omega) 0 rfl rfl rfl) hf hg
theorem w44_0 (h : J S m0 B m) (hm : m1 = z_upd m g 44 i x) (hi : 0 ≤ i ∧ i ≤ 2) (hx : -9223372036854775808 ≤ x ∧ x ≤ 9223372036854775807) (hf : ¬ S.1 39) (hg : ¬ S.2.1 g) : J S m0 B m1 := h.upd hm (by unfold jl jh; rw [(jf_no (show (0 : Int) ≤ i ∧ i ≤ (2 : Int) by omega) (jb 44) rfl)]; exact hx) (fun _ => by omega) (ja_at (show (0 : Int) ≤ i ∧ i ≤ (2 : Int) by omega) 0 rfl rfl rfl) hf hg
theorem r44_3 (h : J S m0 B m) (g : Nat) : 0 ≤ m g 44 3 ∧ m g 44 3 ≤ 1 := by
  have h1 := h.1 g 44 3 (jq_of rfl)
  unfold jl jh at h1
  rw [(jf_at (show (3 : Int) ≤ 3 ∧ (3 : Int) ≤ 3 by omega) 0 (jb 44) rfl rfl)] at h1
  exact h1
theorem w44_4 (h : J S m0 B m) (hm : m1 = z_upd m g 44 4 x) (hx : -9223372036854775808 ≤ x ∧ x ≤ 9223372036854775807) (hf : ¬ S.1 39) (hg : ¬ S.2.1 g) : J S m0 B m1 := h.upd hm (by unfold jl jh; rw [(jf_no (show (4 : Int) ≤ 4 ∧ (4 : Int) ≤ 4 by omega) (jb 44) rfl)]; exact hx) (fun _ => by decide) (ja_at (show (4 : Int) ≤ 4 ∧ (4 : Int) ≤ 4 by omega) 2 rfl rfl rfl) hf hg
theorem r44_5 (h : J S m0 B m) (g : Nat) : 0 ≤ m g 44 5 ∧ m g 44 5 ≤ 300 := by
  have h1 := h.1 g 44 5 (jq_of rfl)
  unfold jl jh at h1
  rw [(jf_at (show (5 : Int) ≤ 5 ∧ (5 : Int) ≤ 5 by omega) 1 (jb 44) rfl rfl)] at h1
  exact h1
theorem w44_5 (h : J S m0 B m) (hm : m1 = z_upd m g 44 5 x) (hx : 0 ≤ x ∧ x ≤ 300) (hf : ¬ S.1 35) (hg : ¬ S.2.1 g) : J S m0 B m1 := h.upd hm (by unfold jl jh; rw [(jf_at (show (5 : Int) ≤ 5 ∧ (5 : Int) ≤ 5 by omega) 1 (jb 44) rfl rfl)]; exact hx) (fun _ => by decide) (ja_at (show (5 : Int) ≤ 5 ∧ (5 : Int) ≤ 5 by omega) 3 rfl rfl rfl) hf hg
theorem w44_6 (h : J S m0 B m) (hm : m1 = z_upd m g 44 i x) (hi : 6 ≤ i ∧ i ≤ 7) (hx : -9223372036854775808 ≤ x ∧ x ≤ 9223372036854775807) (hf : ¬ S.1 36) (hg : ¬ S.2.1 g) : J S m0 B m1 := h.upd hm (by unfold jl jh; rw [(jf_no (show (6 : Int) ≤ i ∧ i ≤ (7 : Int) by omega) (jb 44) rfl)]; exact hx) (fun _ => by omega) (ja_at (show (6 : Int) ≤ i ∧ i ≤ (7 : Int) by omega) 4 rfl rfl rfl) hf hg
theorem r44_8 (h : J S m0 B m) (g : Nat) : 0 ≤ m g 44 8 ∧ m g 44 8 ≤ 300 := by
  have h1 := h.1 g 44 8 (jq_of rfl)
  unfold jl jh at h1
  rw [(jf_at (show (8 : Int) ≤ 8 ∧ (8 : Int) ≤ 8 by omega) 2 (jb 44) rfl rfl)] at h1
  exact h1
theorem w44_8 (h : J S m0 B m) (hm : m1 = z_upd m g 44 8 x) (hx : 0 ≤ x ∧ x ≤ 300) (hf : ¬ S.1 39) (hg : ¬ S.2.1 g) : J S m0 B m1 := h.upd hm (by unfold jl jh; rw [(jf_at (show (8 : Int) ≤ 8 ∧ (8 : Int) ≤ 8 by omega) 2 (jb 44) rfl rfl)]; exact hx) (fun _ => by decide) (ja_at (show (8 : Int) ≤ 8 ∧ (8 : Int) ≤ 14 by omega) 5 rfl rfl rfl) hf hg
theorem r44_9 (h : J S m0 B m) (g : Nat) : 0 ≤ m g 44 9 ∧ m g 44 9 ≤ 1 := by
  have h1 := h.1 g 44 9 (jq_of rfl)
  unfold jl jh at h1
  rw [(jf_at (show (9 : Int) ≤ 9 ∧ (9 : Int) ≤ 9 by omega) 3 (jb 44) rfl rfl)] at h1
  exact h1
theorem w44_9 (h : J S m0 B m) (hm : m1 = z_upd m g 44 9 x) (hx : 0 ≤ x ∧ x ≤ 1) (hf : ¬ S.1 39) (hg : ¬ S.2.1 g) : J S m0 B m1 := h.upd hm (by unfold jl jh; rw [(jf_at (show (9 : Int) ≤ 9 ∧ (9 : Int) ≤ 9 by omega) 3 (jb 44) rfl rfl)]; exact hx) (fun _ => by decide) (ja_at (show (8 : Int) ≤ 9 ∧ (9 : Int) ≤ 14 by omega) 5 rfl rfl rfl) hf hg
theorem w44_10 (h : J S m0 B m) (hm : m1 = z_upd m g 44 i x) (hi : 10 ≤ i ∧ i ≤ 13) (hx : -9223372036854775808 ≤ x ∧ x ≤ 9223372036854775807) (hf : ¬ S.1 39) (hg : ¬ S.2.1 g) : J S m0 B m1 := h.upd hm (by unfold jl jh; rw [(jf_no (show (10 : Int) ≤ i ∧ i ≤ (13 : Int) by omega) (jb 44) rfl)]; exact hx) (fun _ => by omega) (ja_at (show (8 : Int) ≤ i ∧ i ≤ (14 : Int) by omega) 5 rfl rfl rfl) hf hg
theorem r44_14 (h : J S m0 B m) (g : Nat) : 0 ≤ m g 44 14 ∧ m g 44 14 ≤ 1 := by
  have h1 := h.1 g 44 14 (jq_of rfl)
  unfold jl jh at h1
  rw [(jf_at (show (14 : Int) ≤ 14 ∧ (14 : Int) ≤ 14 by omega) 4 (jb 44) rfl rfl)] at h1
  exact h1
theorem w44_14 (h : J S m0 B m) (hm : m1 = z_upd m g 44 14 x) (hx : 0 ≤ x ∧ x ≤ 1) (hf : ¬ S.1 39) (hg : ¬ S.2.1 g) : J S m0 B m1 := h.upd hm (by unfold jl jh; rw [(jf_at (show (14 : Int) ≤ 14 ∧ (14 : Int) ≤ 14 by omega) 4 (jb 44) rfl rfl)]; exact hx) (fun _ => by decide) (ja_at (show (8 : Int) ≤ 14 ∧ (14 : Int) ≤ 14 by omega) 5 rfl rfl rfl) hf hg
theorem r45_0 (h : J S m0 B m) (g : Nat) : 0 ≤ m g 45 0 ∧ m g 45 0 ≤ 2000000000 := by
  have h1 := h.1 g 45 0 (jq_of rfl)
  unfold jl jh at h1
  rw [(jf_at (show (0 : Int) ≤ 0 ∧ (0 : Int) ≤ 0 by omega) 0 (jb 45) rfl rfl)] at h1
  exact h1
theorem w45_0 (h : J S m0 B m) (hm : m1 = z_upd m g 45 0 x) (hx : 0 ≤ x ∧ x ≤ 2000000000) (hf : ¬ S.1 31) (hg : ¬ S.2.1 g) : J S m0 B m1 := h.upd hm (by unfold jl jh; rw [(jf_at (show (0 : Int) ≤ 0 ∧ (0 : Int) ≤ 0 by omega) 0 (jb 45) rfl rfl)]; exact hx) (fun e => absurd e (by decide)) (ja_at (show (0 : Int) ≤ 0 ∧ (0 : Int) ≤ 0 by omega) 0 rfl rfl rfl) hf hg
theorem r45_1 (h : J S m0 B m) (g : Nat) : 1 ≤ m g 45 1 ∧ m g 45 1 ≤ 3 := by
  have h1 := h.1 g 45 1 (jq_of rfl)
  unfold jl jh at h1
  rw [(jf_at (show (1 : Int) ≤ 1 ∧ (1 : Int) ≤ 1 by omega) 1 (jb 45) rfl rfl)] at h1
  exact h1
theorem w45_1 (h : J S m0 B m) (hm : m1 = z_upd m g 45 1 x) (hx : 1 ≤ x ∧ x ≤ 3) (hf : ¬ S.1 22) (hg : ¬ S.2.1 g) : J S m0 B m1 := h.upd hm (by unfold jl jh; rw [(jf_at (show (1 : Int) ≤ 1 ∧ (1 : Int) ≤ 1 by omega) 1 (jb 45) rfl rfl)]; exact hx) (fun e => absurd e (by decide)) (ja_at (show (1 : Int) ≤ 1 ∧ (1 : Int) ≤ 3 by omega) 1 rfl rfl rfl) hf hg
theorem r45_2 (h : J S m0 B m) (g : Nat) : 4 ≤ m g 45 2 ∧ m g 45 2 ≤ 16 := by
  have h1 := h.1 g 45 2 (jq_of rfl)
  unfold jl jh at h1
  rw [(jf_at (show (2 : Int) ≤ 2 ∧ (2 : Int) ≤ 2 by omega) 2 (jb 45) rfl rfl)] at h1
  exact h1
theorem w45_2 (h : J S m0 B m) (hm : m1 = z_upd m g 45 2 x) (hx : 4 ≤ x ∧ x ≤ 16) (hf : ¬ S.1 22) (hg : ¬ S.2.1 g) : J S m0 B m1 := h.upd hm (by unfold jl jh; rw [(jf_at (show (2 : Int) ≤ 2 ∧ (2 : Int) ≤ 2 by omega) 2 (jb 45) rfl rfl)]; exact hx) (fun e => absurd e (by decide)) (ja_at (show (1 : Int) ≤ 2 ∧ (2 : Int) ≤ 3 by omega) 1 rfl rfl rfl) hf hg
theorem r45_3 (h : J S m0 B m) (g : Nat) : 0 ≤ m g 45 3 ∧ m g 45 3 ≤ 47 := by
  have h1 := h.1 g 45 3 (jq_of rfl)
  unfold jl jh at h1
  rw [(jf_at (show (3 : Int) ≤ 3 ∧ (3 : Int) ≤ 3 by omega) 3 (jb 45) rfl rfl)] at h1
  exact h1
theorem w45_3 (h : J S m0 B m) (hm : m1 = z_upd m g 45 3 x) (hx : 0 ≤ x ∧ x ≤ 47) (hf : ¬ S.1 22) (hg : ¬ S.2.1 g) : J S m0 B m1 := h.upd hm (by unfold jl jh; rw [(jf_at (show (3 : Int) ≤ 3 ∧ (3 : Int) ≤ 3 by omega) 3 (jb 45) rfl rfl)]; exact hx) (fun e => absurd e (by decide)) (ja_at (show (1 : Int) ≤ 3 ∧ (3 : Int) ≤ 3 by omega) 1 rfl rfl rfl) hf hg
theorem r45_4 (h : J S m0 B m) (g : Nat) : 0 ≤ m g 45 4 ∧ m g 45 4 ≤ 1000000 := by
  have h1 := h.1 g 45 4 (jq_of rfl)
  unfold jl jh at h1
  rw [(jf_at (show (4 : Int) ≤ 4 ∧ (4 : Int) ≤ 4 by omega) 4 (jb 45) rfl rfl)] at h1
  exact h1
theorem w45_4 (h : J S m0 B m) (hm : m1 = z_upd m g 45 4 x) (hx : 0 ≤ x ∧ x ≤ 1000000) (hf : ¬ S.1 23) (hg : ¬ S.2.1 g) : J S m0 B m1 := h.upd hm (by unfold jl jh; rw [(jf_at (show (4 : Int) ≤ 4 ∧ (4 : Int) ≤ 4 by omega) 4 (jb 45) rfl rfl)]; exact hx) (fun e => absurd e (by decide)) (ja_at (show (4 : Int) ≤ 4 ∧ (4 : Int) ≤ 9 by omega) 2 rfl rfl rfl) hf hg
theorem r45_5 (h : J S m0 B m) (g : Nat) : 1 ≤ m g 45 5 ∧ m g 45 5 ≤ 1000000 := by
  have h1 := h.1 g 45 5 (jq_of rfl)
  unfold jl jh at h1
  rw [(jf_at (show (5 : Int) ≤ 5 ∧ (5 : Int) ≤ 5 by omega) 5 (jb 45) rfl rfl)] at h1
  exact h1
theorem w45_5 (h : J S m0 B m) (hm : m1 = z_upd m g 45 5 x) (hx : 1 ≤ x ∧ x ≤ 1000000) (hf : ¬ S.1 23) (hg : ¬ S.2.1 g) : J S m0 B m1 := h.upd hm (by unfold jl jh; rw [(jf_at (show (5 : Int) ≤ 5 ∧ (5 : Int) ≤ 5 by omega) 5 (jb 45) rfl rfl)]; exact hx) (fun e => absurd e (by decide)) (ja_at (show (4 : Int) ≤ 5 ∧ (5 : Int) ≤ 9 by omega) 2 rfl rfl rfl) hf hg
theorem r45_6 (h : J S m0 B m) (g : Nat) : 0 ≤ m g 45 6 ∧ m g 45 6 ≤ 250000 := by
  have h1 := h.1 g 45 6 (jq_of rfl)
  unfold jl jh at h1
  rw [(jf_at (show (6 : Int) ≤ 6 ∧ (6 : Int) ≤ 6 by omega) 6 (jb 45) rfl rfl)] at h1
  exact h1
theorem w45_6 (h : J S m0 B m) (hm : m1 = z_upd m g 45 6 x) (hx : 0 ≤ x ∧ x ≤ 250000) (hf : ¬ S.1 23) (hg : ¬ S.2.1 g) : J S m0 B m1 := h.upd hm (by unfold jl jh; rw [(jf_at (show (6 : Int) ≤ 6 ∧ (6 : Int) ≤ 6 by omega) 6 (jb 45) rfl rfl)]; exact hx) (fun e => absurd e (by decide)) (ja_at (show (4 : Int) ≤ 6 ∧ (6 : Int) ≤ 9 by omega) 2 rfl rfl rfl) hf hg
theorem r45_7 (h : J S m0 B m) (g : Nat) : 0 ≤ m g 45 7 ∧ m g 45 7 ≤ 60 := by
  have h1 := h.1 g 45 7 (jq_of rfl)
  unfold jl jh at h1
  rw [(jf_at (show (7 : Int) ≤ 7 ∧ (7 : Int) ≤ 7 by omega) 7 (jb 45) rfl rfl)] at h1
  exact h1
theorem w45_7 (h : J S m0 B m) (hm : m1 = z_upd m g 45 7 x) (hx : 0 ≤ x ∧ x ≤ 60) (hf : ¬ S.1 23) (hg : ¬ S.2.1 g) : J S m0 B m1 := h.upd hm (by unfold jl jh; rw [(jf_at (show (7 : Int) ≤ 7 ∧ (7 : Int) ≤ 7 by omega) 7 (jb 45) rfl rfl)]; exact hx) (fun e => absurd e (by decide)) (ja_at (show (4 : Int) ≤ 7 ∧ (7 : Int) ≤ 9 by omega) 2 rfl rfl rfl) hf hg
theorem r45_8 (h : J S m0 B m) (g : Nat) : 1 ≤ m g 45 8 ∧ m g 45 8 ≤ 3600 := by
  have h1 := h.1 g 45 8 (jq_of rfl)
  unfold jl jh at h1
  rw [(jf_at (show (8 : Int) ≤ 8 ∧ (8 : Int) ≤ 8 by omega) 8 (jb 45) rfl rfl)] at h1
  exact h1
theorem w45_8 (h : J S m0 B m) (hm : m1 = z_upd m g 45 8 x) (hx : 1 ≤ x ∧ x ≤ 3600) (hf : ¬ S.1 23) (hg : ¬ S.2.1 g) : J S m0 B m1 := h.upd hm (by unfold jl jh; rw [(jf_at (show (8 : Int) ≤ 8 ∧ (8 : Int) ≤ 8 by omega) 8 (jb 45) rfl rfl)]; exact hx) (fun e => absurd e (by decide)) (ja_at (show (4 : Int) ≤ 8 ∧ (8 : Int) ≤ 9 by omega) 2 rfl rfl rfl) hf hg
theorem r45_9 (h : J S m0 B m) (g : Nat) : 1 ≤ m g 45 9 ∧ m g 45 9 ≤ 6 := by
  have h1 := h.1 g 45 9 (jq_of rfl)
  unfold jl jh at h1
  rw [(jf_at (show (9 : Int) ≤ 9 ∧ (9 : Int) ≤ 9 by omega) 9 (jb 45) rfl rfl)] at h1
  exact h1
theorem w45_9 (h : J S m0 B m) (hm : m1 = z_upd m g 45 9 x) (hx : 1 ≤ x ∧ x ≤ 6) (hf : ¬ S.1 23) (hg : ¬ S.2.1 g) : J S m0 B m1 := h.upd hm (by unfold jl jh; rw [(jf_at (show (9 : Int) ≤ 9 ∧ (9 : Int) ≤ 9 by omega) 9 (jb 45) rfl rfl)]; exact hx) (fun e => absurd e (by decide)) (ja_at (show (4 : Int) ≤ 9 ∧ (9 : Int) ≤ 9 by omega) 2 rfl rfl rfl) hf hg
theorem w45_10 (h : J S m0 B m) (hm : m1 = z_upd m g 45 10 x) (hx : -9223372036854775808 ≤ x ∧ x ≤ 9223372036854775807) (hf : ¬ S.1 32) (hg : ¬ S.2.1 g) : J S m0 B m1 := h.upd hm (by unfold jl jh; rw [(jf_no (show (10 : Int) ≤ 10 ∧ (10 : Int) ≤ 10 by omega) (jb 45) rfl)]; exact hx) (fun e => absurd e (by decide)) (ja_at (show (10 : Int) ≤ 10 ∧ (10 : Int) ≤ 12 by omega) 3 rfl rfl rfl) hf hg
theorem r45_11 (h : J S m0 B m) (g : Nat) : 0 ≤ m g 45 11 ∧ m g 45 11 ≤ 1 := by
  have h1 := h.1 g 45 11 (jq_of rfl)
  unfold jl jh at h1
  rw [(jf_at (show (11 : Int) ≤ 11 ∧ (11 : Int) ≤ 11 by omega) 10 (jb 45) rfl rfl)] at h1
  exact h1
theorem w45_11 (h : J S m0 B m) (hm : m1 = z_upd m g 45 11 x) (hx : 0 ≤ x ∧ x ≤ 1) (hf : ¬ S.1 32) (hg : ¬ S.2.1 g) : J S m0 B m1 := h.upd hm (by unfold jl jh; rw [(jf_at (show (11 : Int) ≤ 11 ∧ (11 : Int) ≤ 11 by omega) 10 (jb 45) rfl rfl)]; exact hx) (fun e => absurd e (by decide)) (ja_at (show (10 : Int) ≤ 11 ∧ (11 : Int) ≤ 12 by omega) 3 rfl rfl rfl) hf hg
theorem r45_12 (h : J S m0 B m) (g : Nat) : 0 ≤ m g 45 12 ∧ m g 45 12 ≤ 1 := by
  have h1 := h.1 g 45 12 (jq_of rfl)
  unfold jl jh at h1
  rw [(jf_at (show (12 : Int) ≤ 12 ∧ (12 : Int) ≤ 12 by omega) 11 (jb 45) rfl rfl)] at h1
  exact h1
theorem w45_12 (h : J S m0 B m) (hm : m1 = z_upd m g 45 12 x) (hx : 0 ≤ x ∧ x ≤ 1) (hf : ¬ S.1 32) (hg : ¬ S.2.1 g) : J S m0 B m1 := h.upd hm (by unfold jl jh; rw [(jf_at (show (12 : Int) ≤ 12 ∧ (12 : Int) ≤ 12 by omega) 11 (jb 45) rfl rfl)]; exact hx) (fun e => absurd e (by decide)) (ja_at (show (10 : Int) ≤ 12 ∧ (12 : Int) ≤ 12 by omega) 3 rfl rfl rfl) hf hg
theorem r45_13 (h : J S m0 B m) (g : Nat) : 0 ≤ m g 45 13 ∧ m g 45 13 ≤ B := by
  have h1 := h.1 g 45 13 (jq_of rfl)
  unfold jl jh at h1
  rw [(jf_at (show (13 : Int) ≤ 13 ∧ (13 : Int) ≤ 13 by omega) 12 (jb 45) rfl rfl)] at h1
  exact h1
theorem w45_13 (h : J S m0 B m) (hm : m1 = z_upd m g 45 13 x) (hx : 0 ≤ x ∧ x ≤ B) (hf : ¬ S.1 33) (hg : ¬ S.2.1 g) : J S m0 B m1 := h.upd hm (by unfold jl jh; rw [(jf_at (show (13 : Int) ≤ 13 ∧ (13 : Int) ≤ 13 by omega) 12 (jb 45) rfl rfl)]; exact hx) (fun e => absurd e (by decide)) (ja_at (show (13 : Int) ≤ 13 ∧ (13 : Int) ≤ 15 by omega) 4 rfl rfl rfl) hf hg
theorem w45_14 (h : J S m0 B m) (hm : m1 = z_upd m g 45 i x) (hi : 14 ≤ i ∧ i ≤ 15) (hx : -9223372036854775808 ≤ x ∧ x ≤ 9223372036854775807) (hf : ¬ S.1 33) (hg : ¬ S.2.1 g) : J S m0 B m1 := h.upd hm (by unfold jl jh; rw [(jf_no (show (14 : Int) ≤ i ∧ i ≤ (15 : Int) by omega) (jb 45) rfl)]; exact hx) (fun e => absurd e (by decide)) (ja_at (show (13 : Int) ≤ i ∧ i ≤ (15 : Int) by omega) 4 rfl rfl rfl) hf hg
theorem r45_16 (h : J S m0 B m) (g : Nat) : 0 ≤ m g 45 16 ∧ m g 45 16 ≤ B := by
  have h1 := h.1 g 45 16 (jq_of rfl)
  unfold jl jh at h1
  rw [(jf_at (show (16 : Int) ≤ 16 ∧ (16 : Int) ≤ 16 by omega) 13 (jb 45) rfl rfl)] at h1
  exact h1
theorem w45_16 (h : J S m0 B m) (hm : m1 = z_upd m g 45 16 x) (hx : 0 ≤ x ∧ x ≤ B) (hf : ¬ S.1 26) (hg : ¬ S.2.1 g) : J S m0 B m1 := h.upd hm (by unfold jl jh; rw [(jf_at (show (16 : Int) ≤ 16 ∧ (16 : Int) ≤ 16 by omega) 13 (jb 45) rfl rfl)]; exact hx) (fun e => absurd e (by decide)) (ja_at (show (16 : Int) ≤ 16 ∧ (16 : Int) ≤ 16 by omega) 5 rfl rfl rfl) hf hg
theorem r45_17 (h : J S m0 B m) (g : Nat) : 0 ≤ m g 45 17 ∧ m g 45 17 ≤ B := by
  have h1 := h.1 g 45 17 (jq_of rfl)
  unfold jl jh at h1
  rw [(jf_at (show (17 : Int) ≤ 17 ∧ (17 : Int) ≤ 17 by omega) 14 (jb 45) rfl rfl)] at h1
  exact h1
theorem w45_17 (h : J S m0 B m) (hm : m1 = z_upd m g 45 17 x) (hx : 0 ≤ x ∧ x ≤ B) (hf : ¬ S.1 27) (hg : ¬ S.2.1 g) : J S m0 B m1 := h.upd hm (by unfold jl jh; rw [(jf_at (show (17 : Int) ≤ 17 ∧ (17 : Int) ≤ 17 by omega) 14 (jb 45) rfl rfl)]; exact hx) (fun e => absurd e (by decide)) (ja_at (show (17 : Int) ≤ 17 ∧ (17 : Int) ≤ 17 by omega) 6 rfl rfl rfl) hf hg
theorem r45_18 (h : J S m0 B m) (g : Nat) : 0 ≤ m g 45 18 ∧ m g 45 18 ≤ B := by
  have h1 := h.1 g 45 18 (jq_of rfl)
  unfold jl jh at h1
  rw [(jf_at (show (18 : Int) ≤ 18 ∧ (18 : Int) ≤ 18 by omega) 15 (jb 45) rfl rfl)] at h1
  exact h1
theorem w45_18 (h : J S m0 B m) (hm : m1 = z_upd m g 45 18 x) (hx : 0 ≤ x ∧ x ≤ B) (hf : ¬ S.1 25) (hg : ¬ S.2.1 g) : J S m0 B m1 := h.upd hm (by unfold jl jh; rw [(jf_at (show (18 : Int) ≤ 18 ∧ (18 : Int) ≤ 18 by omega) 15 (jb 45) rfl rfl)]; exact hx) (fun e => absurd e (by decide)) (ja_at (show (18 : Int) ≤ 18 ∧ (18 : Int) ≤ 18 by omega) 7 rfl rfl rfl) hf hg
theorem w45_19 (h : J S m0 B m) (hm : m1 = z_upd m g 45 i x) (hi : 19 ≤ i ∧ i ≤ 20) (hx : -9223372036854775808 ≤ x ∧ x ≤ 9223372036854775807) (hf : ¬ S.1 28) (hg : ¬ S.2.1 g) : J S m0 B m1 := h.upd hm (by unfold jl jh; rw [(jf_no (show (19 : Int) ≤ i ∧ i ≤ (20 : Int) by omega) (jb 45) rfl)]; exact hx) (fun e => absurd e (by decide)) (ja_at (show (19 : Int) ≤ i ∧ i ≤ (20 : Int) by omega) 8 rfl rfl rfl) hf hg
theorem w45_21 (h : J S m0 B m) (hm : m1 = z_upd m g 45 i x) (hi : 21 ≤ i ∧ i ≤ 27) (hx : -9223372036854775808 ≤ x ∧ x ≤ 9223372036854775807) (hf : ¬ S.1 27) (hg : ¬ S.2.1 g) : J S m0 B m1 := h.upd hm (by unfold jl jh; rw [(jf_no (show (21 : Int) ≤ i ∧ i ≤ (27 : Int) by omega) (jb 45) rfl)]; exact hx) (fun e => absurd e (by decide)) (ja_at (show (21 : Int) ≤ i ∧ i ≤ (27 : Int) by omega) 9 rfl rfl rfl) hf hg
theorem r45_28 (h : J S m0 B m) (g : Nat) (hi : 28 ≤ i ∧ i ≤ 31) : 0 ≤ m g 45 i ∧ m g 45 i ≤ 100 := by
  have h1 := h.1 g 45 i (jq_of rfl)
  unfold jl jh at h1
  rw [(jf_at (show (28 : Int) ≤ i ∧ i ≤ (31 : Int) by omega) 16 (jb 45) rfl rfl)] at h1
  exact h1
theorem w45_28 (h : J S m0 B m) (hm : m1 = z_upd m g 45 i x) (hi : 28 ≤ i ∧ i ≤ 31) (hx : 0 ≤ x ∧ x ≤ 100) (hf : ¬ S.1 23) (hg : ¬ S.2.1 g) : J S m0 B m1 := h.upd hm (by unfold jl jh; rw [(jf_at (show (28 : Int) ≤ i ∧ i ≤ (31 : Int) by omega) 16 (jb 45) rfl rfl)]; exact hx) (fun e => absurd e (by decide)) (ja_at (show (28 : Int) ≤ i ∧ i ≤ (31 : Int) by omega) 10 rfl rfl rfl) hf hg
theorem w45_32 (h : J S m0 B m) (hm : m1 = z_upd m g 45 i x) (hi : 32 ≤ i ∧ i ≤ 39) (hx : -9223372036854775808 ≤ x ∧ x ≤ 9223372036854775807) (hf : ¬ S.1 28) (hg : ¬ S.2.1 g) : J S m0 B m1 := h.upd hm (by unfold jl jh; rw [(jf_no (show (32 : Int) ≤ i ∧ i ≤ (39 : Int) by omega) (jb 45) rfl)]; exact hx) (fun e => absurd e (by decide)) (ja_at (show (32 : Int) ≤ i ∧ i ≤ (39 : Int) by omega) 11 rfl rfl rfl) hf hg
theorem w45_40 (h : J S m0 B m) (hm : m1 = z_upd m g 45 i x) (hi : 40 ≤ i ∧ i ≤ 59) (hx : -9223372036854775808 ≤ x ∧ x ≤ 9223372036854775807) (hf : ¬ S.1 29) (hg : ¬ S.2.1 g) : J S m0 B m1 := h.upd hm (by unfold jl jh; rw [(jf_no (show (40 : Int) ≤ i ∧ i ≤ (59 : Int) by omega) (jb 45) rfl)]; exact hx) (fun e => absurd e (by decide)) (ja_at (show (40 : Int) ≤ i ∧ i ≤ (59 : Int) by omega) 12 rfl rfl rfl) hf hg
theorem w45_60 (h : J S m0 B m) (hm : m1 = z_upd m g 45 i x) (hi : 60 ≤ i ∧ i ≤ 94) (hx : -9223372036854775808 ≤ x ∧ x ≤ 9223372036854775807) (hf : ¬ S.1 30) (hg : ¬ S.2.1 g) : J S m0 B m1 := h.upd hm (by unfold jl jh; rw [(jf_no (show (60 : Int) ≤ i ∧ i ≤ (94 : Int) by omega) (jb 45) rfl)]; exact hx) (fun e => absurd e (by decide)) (ja_at (show (60 : Int) ≤ i ∧ i ≤ (94 : Int) by omega) 13 rfl rfl rfl) hf hg
theorem r45_95 (h : J S m0 B m) (g : Nat) (hi : 95 ≤ i ∧ i ≤ 286) : (-500) ≤ m g 45 i ∧ m g 45 i ≤ 500 := by
  have h1 := h.1 g 45 i (jq_of rfl)
  unfold jl jh at h1
  rw [(jf_at (show (95 : Int) ≤ i ∧ i ≤ (286 : Int) by omega) 17 (jb 45) rfl rfl)] at h1
  exact h1
theorem w45_95 (h : J S m0 B m) (hm : m1 = z_upd m g 45 i x) (hi : 95 ≤ i ∧ i ≤ 286) (hx : (-500) ≤ x ∧ x ≤ 500) (hf : ¬ S.1 22) (hg : ¬ S.2.1 g) : J S m0 B m1 := h.upd hm (by unfold jl jh; rw [(jf_at (show (95 : Int) ≤ i ∧ i ≤ (286 : Int) by omega) 17 (jb 45) rfl rfl)]; exact hx) (fun e => absurd e (by decide)) (ja_at (show (95 : Int) ≤ i ∧ i ≤ (286 : Int) by omega) 14 rfl rfl rfl) hf hg
theorem r45_287 (h : J S m0 B m) (g : Nat) (hi : 287 ≤ i ∧ i ≤ 294) : 0 ≤ m g 45 i ∧ m g 45 i ≤ 6 := by
  have h1 := h.1 g 45 i (jq_of rfl)
  unfold jl jh at h1
  rw [(jf_at (show (287 : Int) ≤ i ∧ i ≤ (294 : Int) by omega) 18 (jb 45) rfl rfl)] at h1
  exact h1
theorem w45_287 (h : J S m0 B m) (hm : m1 = z_upd m g 45 i x) (hi : 287 ≤ i ∧ i ≤ 294) (hx : 0 ≤ x ∧ x ≤ 6) (hf : ¬ S.1 21) (hg : ¬ S.2.1 g) : J S m0 B m1 := h.upd hm (by unfold jl jh; rw [(jf_at (show (287 : Int) ≤ i ∧ i ≤ (294 : Int) by omega) 18 (jb 45) rfl rfl)]; exact hx) (fun e => absurd e (by decide)) (ja_at (show (287 : Int) ≤ i ∧ i ≤ (787 : Int) by omega) 15 rfl rfl rfl) hf hg
theorem r45_295 (h : J S m0 B m) (g : Nat) (hi : 295 ≤ i ∧ i ≤ 342) : 0 ≤ m g 45 i ∧ m g 45 i ≤ 86399 := by
  have h1 := h.1 g 45 i (jq_of rfl)
  unfold jl jh at h1
  rw [(jf_at (show (295 : Int) ≤ i ∧ i ≤ (342 : Int) by omega) 19 (jb 45) rfl rfl)] at h1
  exact h1
theorem w45_295 (h : J S m0 B m) (hm : m1 = z_upd m g 45 i x) (hi : 295 ≤ i ∧ i ≤ 342) (hx : 0 ≤ x ∧ x ≤ 86399) (hf : ¬ S.1 21) (hg : ¬ S.2.1 g) : J S m0 B m1 := h.upd hm (by unfold jl jh; rw [(jf_at (show (295 : Int) ≤ i ∧ i ≤ (342 : Int) by omega) 19 (jb 45) rfl rfl)]; exact hx) (fun e => absurd e (by decide)) (ja_at (show (287 : Int) ≤ i ∧ i ≤ (787 : Int) by omega) 15 rfl rfl rfl) hf hg
theorem r45_343 (h : J S m0 B m) (g : Nat) (hi : 343 ≤ i ∧ i ≤ 390) : 0 ≤ m g 45 i ∧ m g 45 i ≤ 3 := by
  have h1 := h.1 g 45 i (jq_of rfl)
  unfold jl jh at h1
  rw [(jf_at (show (343 : Int) ≤ i ∧ i ≤ (390 : Int) by omega) 20 (jb 45) rfl rfl)] at h1
  exact h1
theorem w45_343 (h : J S m0 B m) (hm : m1 = z_upd m g 45 i x) (hi : 343 ≤ i ∧ i ≤ 390) (hx : 0 ≤ x ∧ x ≤ 3) (hf : ¬ S.1 21) (hg : ¬ S.2.1 g) : J S m0 B m1 := h.upd hm (by unfold jl jh; rw [(jf_at (show (343 : Int) ≤ i ∧ i ≤ (390 : Int) by omega) 20 (jb 45) rfl rfl)]; exact hx) (fun e => absurd e (by decide)) (ja_at (show (287 : Int) ≤ i ∧ i ≤ (787 : Int) by omega) 15 rfl rfl rfl) hf hg
theorem r45_391 (h : J S m0 B m) (g : Nat) (hi : 391 ≤ i ∧ i ≤ 394) : (-1) ≤ m g 45 i ∧ m g 45 i ≤ 364 := by
  have h1 := h.1 g 45 i (jq_of rfl)
  unfold jl jh at h1
  rw [(jf_at (show (391 : Int) ≤ i ∧ i ≤ (394 : Int) by omega) 21 (jb 45) rfl rfl)] at h1
  exact h1
theorem w45_391 (h : J S m0 B m) (hm : m1 = z_upd m g 45 i x) (hi : 391 ≤ i ∧ i ≤ 394) (hx : (-1) ≤ x ∧ x ≤ 364) (hf : ¬ S.1 21) (hg : ¬ S.2.1 g) : J S m0 B m1 := h.upd hm (by unfold jl jh; rw [(jf_at (show (391 : Int) ≤ i ∧ i ≤ (394 : Int) by omega) 21 (jb 45) rfl rfl)]; exact hx) (fun e => absurd e (by decide)) (ja_at (show (287 : Int) ≤ i ∧ i ≤ (787 : Int) by omega) 15 rfl rfl rfl) hf hg
theorem r45_395 (h : J S m0 B m) (g : Nat) (hi : 395 ≤ i ∧ i ≤ 422) : 0 ≤ m g 45 i ∧ m g 45 i ≤ 7 := by
  have h1 := h.1 g 45 i (jq_of rfl)
  unfold jl jh at h1
  rw [(jf_at (show (395 : Int) ≤ i ∧ i ≤ (422 : Int) by omega) 22 (jb 45) rfl rfl)] at h1
  exact h1
theorem w45_395 (h : J S m0 B m) (hm : m1 = z_upd m g 45 i x) (hi : 395 ≤ i ∧ i ≤ 422) (hx : 0 ≤ x ∧ x ≤ 7) (hf : ¬ S.1 21) (hg : ¬ S.2.1 g) : J S m0 B m1 := h.upd hm (by unfold jl jh; rw [(jf_at (show (395 : Int) ≤ i ∧ i ≤ (422 : Int) by omega) 22 (jb 45) rfl rfl)]; exact hx) (fun e => absurd e (by decide)) (ja_at (show (287 : Int) ≤ i ∧ i ≤ (787 : Int) by omega) 15 rfl rfl rfl) hf hg
theorem r45_423 (h : J S m0 B m) (g : Nat) (hi : 423 ≤ i ∧ i ≤ 787) : (-1) ≤ m g 45 i ∧ m g 45 i ≤ 7 := by
  have h1 := h.1 g 45 i (jq_of rfl)
  unfold jl jh at h1
  rw [(jf_at (show (423 : Int) ≤ i ∧ i ≤ (787 : Int) by omega) 23 (jb 45) rfl rfl)] at h1
  exact h1
theorem w45_423 (h : J S m0 B m) (hm : m1 = z_upd m g 45 i x) (hi : 423 ≤ i ∧ i ≤ 787) (hx : (-1) ≤ x ∧ x ≤ 7) (hf : ¬ S.1 21) (hg : ¬ S.2.1 g) : J S m0 B m1 := h.upd hm (by unfold jl jh; rw [(jf_at (show (423 : Int) ≤ i ∧ i ≤ (787 : Int) by omega) 23 (jb 45) rfl rfl)]; exact hx) (fun e => absurd e (by decide)) (ja_at (show (287 : Int) ≤ i ∧ i ≤ (787 : Int) by omega) 15 rfl rfl rfl) hf hg
theorem w45_788 (h : J S m0 B m) (hm : m1 = z_upd m g 45 i x) (hi : 788 ≤ i ∧ i ≤ 1171) (hx : -9223372036854775808 ≤ x ∧ x ≤ 9223372036854775807) (hf : ¬ S.1 27) (hg : ¬ S.2.1 g) : J S m0 B m1 := h.upd hm (by unfold jl jh; rw [(jf_no (show (788 : Int) ≤ i ∧ i ≤ (1171 : Int) by omega) (jb 45) rfl)]; exact hx) (fun e => absurd e (by decide)) (ja_at (show (788 : Int) ≤ i ∧ i ≤ (1171 : Int) by omega) 16 rfl rfl rfl) hf hg
theorem w45_1172 (h : J S m0 B m) (hm : m1 = z_upd m g 45 i x) (hi : 1172 ≤ i ∧ i ≤ 1486) (hx : -9223372036854775808 ≤ x ∧ x ≤ 9223372036854775807) (hf : ¬ S.1 25) (hg : ¬ S.2.1 g) : J S m0 B m1 := h.upd hm (by unfold jl jh; rw [(jf_no (show (1172 : Int) ≤ i ∧ i ≤ (1486 : Int) by omega) (jb 45) rfl)]; exact hx) (fun e => absurd e (by decide)) (ja_at (show (1172 : Int) ≤ i ∧ i ≤ (1486 : Int) by omega) 17 rfl rfl rfl) hf hg
theorem w45_1487 (h : J S m0 B m) (hm : m1 = z_upd m g 45 i x) (hi : 1487 ≤ i ∧ i ≤ 1606) (hx : -9223372036854775808 ≤ x ∧ x ≤ 9223372036854775807) (hf : ¬ S.1 26) (hg : ¬ S.2.1 g) : J S m0 B m1 := h.upd hm (by unfold jl jh; rw [(jf_no (show (1487 : Int) ≤ i ∧ i ≤ (1606 : Int) by omega) (jb 45) rfl)]; exact hx) (fun e => absurd e (by decide)) (ja_at (show (1487 : Int) ≤ i ∧ i ≤ (1606 : Int) by omega) 18 rfl rfl rfl) hf hg
theorem w45_1607 (h : J S m0 B m) (hm : m1 = z_upd m g 45 i x) (hi : 1607 ≤ i ∧ i ≤ 1610) (hx : -9223372036854775808 ≤ x ∧ x ≤ 9223372036854775807) (hf : ¬ S.1 27) (hg : ¬ S.2.1 g) : J S m0 B m1 := h.upd hm (by unfold jl jh; rw [(jf_no (show (1607 : Int) ≤ i ∧ i ≤ (1610 : Int) by omega) (jb 45) rfl)]; exact hx) (fun e => absurd e (by decide)) (ja_at (show (1607 : Int) ≤ i ∧ i ≤ (1610 : Int) by omega) 19 rfl rfl rfl) hf hg
theorem r45_1611 (h : J S m0 B m) (g : Nat) : 0 ≤ m g 45 1611 ∧ m g 45 1611 ≤ 100 := by
  have h1 := h.1 g 45 1611 (jq_of rfl)
  unfold jl jh at h1
  rw [(jf_at (show (1611 : Int) ≤ 1611 ∧ (1611 : Int) ≤ 1611 by omega) 24 (jb 45) rfl rfl)] at h1
  exact h1
theorem w45_1611 (h : J S m0 B m) (hm : m1 = z_upd m g 45 1611 x) (hx : 0 ≤ x ∧ x ≤ 100) (hf : ¬ S.1 23) (hg : ¬ S.2.1 g) : J S m0 B m1 := h.upd hm (by unfold jl jh; rw [(jf_at (show (1611 : Int) ≤ 1611 ∧ (1611 : Int) ≤ 1611 by omega) 24 (jb 45) rfl rfl)]; exact hx) (fun e => absurd e (by decide)) (ja_at (show (1611 : Int) ≤ 1611 ∧ (1611 : Int) ≤ 1613 by omega) 20 rfl rfl rfl) hf hg
theorem r45_1612 (h : J S m0 B m) (g : Nat) : 0 ≤ m g 45 1612 ∧ m g 45 1612 ≤ 200 := by
  have h1 := h.1 g 45 1612 (jq_of rfl)
  unfold jl jh at h1
  rw [(jf_at (show (1612 : Int) ≤ 1612 ∧ (1612 : Int) ≤ 1612 by omega) 25 (jb 45) rfl rfl)] at h1
  exact h1
theorem w45_1612 (h : J S m0 B m) (hm : m1 = z_upd m g 45 1612 x) (hx : 0 ≤ x ∧ x ≤ 200) (hf : ¬ S.1 23) (hg : ¬ S.2.1 g) : J S m0 B m1 := h.upd hm (by unfold jl jh; rw [(jf_at (show (1612 : Int) ≤ 1612 ∧ (1612 : Int) ≤ 1612 by omega) 25 (jb 45) rfl rfl)]; exact hx) (fun e => absurd e (by decide)) (ja_at (show (1611 : Int) ≤ 1612 ∧ (1612 : Int) ≤ 1613 by omega) 20 rfl rfl rfl) hf hg
theorem r45_1613 (h : J S m0 B m) (g : Nat) : 0 ≤ m g 45 1613 ∧ m g 45 1613 ≤ 100 := by
  have h1 := h.1 g 45 1613 (jq_of rfl)
  unfold jl jh at h1
  rw [(jf_at (show (1613 : Int) ≤ 1613 ∧ (1613 : Int) ≤ 1613 by omega) 26 (jb 45) rfl rfl)] at h1
  exact h1
theorem w45_1613 (h : J S m0 B m) (hm : m1 = z_upd m g 45 1613 x) (hx : 0 ≤ x ∧ x ≤ 100) (hf : ¬ S.1 23) (hg : ¬ S.2.1 g) : J S m0 B m1 := h.upd hm (by unfold jl jh; rw [(jf_at (show (1613 : Int) ≤ 1613 ∧ (1613 : Int) ≤ 1613 by omega) 26 (jb 45) rfl rfl)]; exact hx) (fun e => absurd e (by decide)) (ja_at (show (1611 : Int) ≤ 1613 ∧ (1613 : Int) ≤ 1613 by omega) 20 rfl rfl rfl) hf hg
theorem r45_1614 (h : J S m0 B m) (g : Nat) : 0 ≤ m g 45 1614 ∧ m g 45 1614 ≤ 1 := by
  have h1 := h.1 g 45 1614 (jq_of rfl)
  unfold jl jh at h1
  rw [(jf_at (show (1614 : Int) ≤ 1614 ∧ (1614 : Int) ≤ 1614 by omega) 27 (jb 45) rfl rfl)] at h1
  exact h1
theorem w45_1614 (h : J S m0 B m) (hm : m1 = z_upd m g 45 1614 x) (hx : 0 ≤ x ∧ x ≤ 1) (hf : ¬ S.1 24) (hg : ¬ S.2.1 g) : J S m0 B m1 := h.upd hm (by unfold jl jh; rw [(jf_at (show (1614 : Int) ≤ 1614 ∧ (1614 : Int) ≤ 1614 by omega) 27 (jb 45) rfl rfl)]; exact hx) (fun e => absurd e (by decide)) (ja_at (show (1614 : Int) ≤ 1614 ∧ (1614 : Int) ≤ 1618 by omega) 21 rfl rfl rfl) hf hg
theorem w45_1615 (h : J S m0 B m) (hm : m1 = z_upd m g 45 1615 x) (hx : -9223372036854775808 ≤ x ∧ x ≤ 9223372036854775807) (hf : ¬ S.1 24) (hg : ¬ S.2.1 g) : J S m0 B m1 := h.upd hm (by unfold jl jh; rw [(jf_no (show (1615 : Int) ≤ 1615 ∧ (1615 : Int) ≤ 1615 by omega) (jb 45) rfl)]; exact hx) (fun e => absurd e (by decide)) (ja_at (show (1614 : Int) ≤ 1615 ∧ (1615 : Int) ≤ 1618 by omega) 21 rfl rfl rfl) hf hg
theorem r45_1616 (h : J S m0 B m) (g : Nat) : 0 ≤ m g 45 1616 ∧ m g 45 1616 ≤ B := by
  have h1 := h.1 g 45 1616 (jq_of rfl)
  unfold jl jh at h1
  rw [(jf_at (show (1616 : Int) ≤ 1616 ∧ (1616 : Int) ≤ 1616 by omega) 28 (jb 45) rfl rfl)] at h1
  exact h1
theorem w45_1616 (h : J S m0 B m) (hm : m1 = z_upd m g 45 1616 x) (hx : 0 ≤ x ∧ x ≤ B) (hf : ¬ S.1 24) (hg : ¬ S.2.1 g) : J S m0 B m1 := h.upd hm (by unfold jl jh; rw [(jf_at (show (1616 : Int) ≤ 1616 ∧ (1616 : Int) ≤ 1616 by omega) 28 (jb 45) rfl rfl)]; exact hx) (fun e => absurd e (by decide)) (ja_at (show (1614 : Int) ≤ 1616 ∧ (1616 : Int) ≤ 1618 by omega) 21 rfl rfl rfl) hf hg
theorem r45_1617 (h : J S m0 B m) (g : Nat) : 0 ≤ m g 45 1617 ∧ m g 45 1617 ≤ 2000000300 := by
  have h1 := h.1 g 45 1617 (jq_of rfl)
  unfold jl jh at h1
  rw [(jf_at (show (1617 : Int) ≤ 1617 ∧ (1617 : Int) ≤ 1617 by omega) 29 (jb 45) rfl rfl)] at h1
  exact h1
theorem w45_1617 (h : J S m0 B m) (hm : m1 = z_upd m g 45 1617 x) (hx : 0 ≤ x ∧ x ≤ 2000000300) (hf : ¬ S.1 24) (hg : ¬ S.2.1 g) : J S m0 B m1 := h.upd hm (by unfold jl jh; rw [(jf_at (show (1617 : Int) ≤ 1617 ∧ (1617 : Int) ≤ 1617 by omega) 29 (jb 45) rfl rfl)]; exact hx) (fun e => absurd e (by decide)) (ja_at (show (1614 : Int) ≤ 1617 ∧ (1617 : Int) ≤ 1618 by omega) 21 rfl rfl rfl) hf hg
theorem w45_1618 (h : J S m0 B m) (hm : m1 = z_upd m g 45 1618 x) (hx : -9223372036854775808 ≤ x ∧ x ≤ 9223372036854775807) (hf : ¬ S.1 24) (hg : ¬ S.2.1 g) : J S m0 B m1 := h.upd hm (by unfold jl jh; rw [(jf_no (show (1618 : Int) ≤ 1618 ∧ (1618 : Int) ≤ 1618 by omega) (jb 45) rfl)]; exact hx) (fun e => absurd e (by decide)) (ja_at (show (1614 : Int) ≤ 1618 ∧ (1618 : Int) ≤ 1618 by omega) 21 rfl rfl rfl) hf hg
theorem w46_0 (h : J S m0 B m) (hm : m1 = z_upd m g 46 0 x) (hx : 0 ≤ x ∧ x ≤ 2000000000) (hf : ¬ S.1 38) (hg : ¬ S.2.1 g) : J S m0 B m1 := h.upd hm (by unfold jl jh; rw [(jf_at (show (0 : Int) ≤ 0 ∧ (0 : Int) ≤ 0 by omega) 0 (jb 46) rfl rfl)]; exact hx) (fun e => absurd e (by decide)) (ja_at (show (0 : Int) ≤ 0 ∧ (0 : Int) ≤ 1618 by omega) 0 rfl rfl rfl) hf hg
theorem w46_1 (h : J S m0 B m) (hm : m1 = z_upd m g 46 1 x) (hx : 1 ≤ x ∧ x ≤ 3) (hf : ¬ S.1 38) (hg : ¬ S.2.1 g) : J S m0 B m1 := h.upd hm (by unfold jl jh; rw [(jf_at (show (1 : Int) ≤ 1 ∧ (1 : Int) ≤ 1 by omega) 1 (jb 46) rfl rfl)]; exact hx) (fun e => absurd e (by decide)) (ja_at (show (0 : Int) ≤ 1 ∧ (1 : Int) ≤ 1618 by omega) 0 rfl rfl rfl) hf hg
theorem w46_2 (h : J S m0 B m) (hm : m1 = z_upd m g 46 2 x) (hx : 4 ≤ x ∧ x ≤ 16) (hf : ¬ S.1 38) (hg : ¬ S.2.1 g) : J S m0 B m1 := h.upd hm (by unfold jl jh; rw [(jf_at (show (2 : Int) ≤ 2 ∧ (2 : Int) ≤ 2 by omega) 2 (jb 46) rfl rfl)]; exact hx) (fun e => absurd e (by decide)) (ja_at (show (0 : Int) ≤ 2 ∧ (2 : Int) ≤ 1618 by omega) 0 rfl rfl rfl) hf hg
theorem w46_3 (h : J S m0 B m) (hm : m1 = z_upd m g 46 3 x) (hx : 0 ≤ x ∧ x ≤ 47) (hf : ¬ S.1 38) (hg : ¬ S.2.1 g) : J S m0 B m1 := h.upd hm (by unfold jl jh; rw [(jf_at (show (3 : Int) ≤ 3 ∧ (3 : Int) ≤ 3 by omega) 3 (jb 46) rfl rfl)]; exact hx) (fun e => absurd e (by decide)) (ja_at (show (0 : Int) ≤ 3 ∧ (3 : Int) ≤ 1618 by omega) 0 rfl rfl rfl) hf hg
theorem w46_4 (h : J S m0 B m) (hm : m1 = z_upd m g 46 4 x) (hx : 0 ≤ x ∧ x ≤ 1000000) (hf : ¬ S.1 38) (hg : ¬ S.2.1 g) : J S m0 B m1 := h.upd hm (by unfold jl jh; rw [(jf_at (show (4 : Int) ≤ 4 ∧ (4 : Int) ≤ 4 by omega) 4 (jb 46) rfl rfl)]; exact hx) (fun e => absurd e (by decide)) (ja_at (show (0 : Int) ≤ 4 ∧ (4 : Int) ≤ 1618 by omega) 0 rfl rfl rfl) hf hg
theorem w46_5 (h : J S m0 B m) (hm : m1 = z_upd m g 46 5 x) (hx : 1 ≤ x ∧ x ≤ 1000000) (hf : ¬ S.1 38) (hg : ¬ S.2.1 g) : J S m0 B m1 := h.upd hm (by unfold jl jh; rw [(jf_at (show (5 : Int) ≤ 5 ∧ (5 : Int) ≤ 5 by omega) 5 (jb 46) rfl rfl)]; exact hx) (fun e => absurd e (by decide)) (ja_at (show (0 : Int) ≤ 5 ∧ (5 : Int) ≤ 1618 by omega) 0 rfl rfl rfl) hf hg
theorem w46_6 (h : J S m0 B m) (hm : m1 = z_upd m g 46 6 x) (hx : 0 ≤ x ∧ x ≤ 250000) (hf : ¬ S.1 38) (hg : ¬ S.2.1 g) : J S m0 B m1 := h.upd hm (by unfold jl jh; rw [(jf_at (show (6 : Int) ≤ 6 ∧ (6 : Int) ≤ 6 by omega) 6 (jb 46) rfl rfl)]; exact hx) (fun e => absurd e (by decide)) (ja_at (show (0 : Int) ≤ 6 ∧ (6 : Int) ≤ 1618 by omega) 0 rfl rfl rfl) hf hg
theorem w46_7 (h : J S m0 B m) (hm : m1 = z_upd m g 46 7 x) (hx : 0 ≤ x ∧ x ≤ 60) (hf : ¬ S.1 38) (hg : ¬ S.2.1 g) : J S m0 B m1 := h.upd hm (by unfold jl jh; rw [(jf_at (show (7 : Int) ≤ 7 ∧ (7 : Int) ≤ 7 by omega) 7 (jb 46) rfl rfl)]; exact hx) (fun e => absurd e (by decide)) (ja_at (show (0 : Int) ≤ 7 ∧ (7 : Int) ≤ 1618 by omega) 0 rfl rfl rfl) hf hg
theorem w46_8 (h : J S m0 B m) (hm : m1 = z_upd m g 46 8 x) (hx : 1 ≤ x ∧ x ≤ 3600) (hf : ¬ S.1 38) (hg : ¬ S.2.1 g) : J S m0 B m1 := h.upd hm (by unfold jl jh; rw [(jf_at (show (8 : Int) ≤ 8 ∧ (8 : Int) ≤ 8 by omega) 8 (jb 46) rfl rfl)]; exact hx) (fun e => absurd e (by decide)) (ja_at (show (0 : Int) ≤ 8 ∧ (8 : Int) ≤ 1618 by omega) 0 rfl rfl rfl) hf hg
theorem w46_9 (h : J S m0 B m) (hm : m1 = z_upd m g 46 9 x) (hx : 1 ≤ x ∧ x ≤ 6) (hf : ¬ S.1 38) (hg : ¬ S.2.1 g) : J S m0 B m1 := h.upd hm (by unfold jl jh; rw [(jf_at (show (9 : Int) ≤ 9 ∧ (9 : Int) ≤ 9 by omega) 9 (jb 46) rfl rfl)]; exact hx) (fun e => absurd e (by decide)) (ja_at (show (0 : Int) ≤ 9 ∧ (9 : Int) ≤ 1618 by omega) 0 rfl rfl rfl) hf hg
theorem w46_10 (h : J S m0 B m) (hm : m1 = z_upd m g 46 10 x) (hx : -9223372036854775808 ≤ x ∧ x ≤ 9223372036854775807) (hf : ¬ S.1 38) (hg : ¬ S.2.1 g) : J S m0 B m1 := h.upd hm (by unfold jl jh; rw [(jf_no (show (10 : Int) ≤ 10 ∧ (10 : Int) ≤ 10 by omega) (jb 46) rfl)]; exact hx) (fun e => absurd e (by decide)) (ja_at (show (0 : Int) ≤ 10 ∧ (10 : Int) ≤ 1618 by omega) 0 rfl rfl rfl) hf hg
theorem w46_11 (h : J S m0 B m) (hm : m1 = z_upd m g 46 11 x) (hx : 0 ≤ x ∧ x ≤ 1) (hf : ¬ S.1 38) (hg : ¬ S.2.1 g) : J S m0 B m1 := h.upd hm (by unfold jl jh; rw [(jf_at (show (11 : Int) ≤ 11 ∧ (11 : Int) ≤ 11 by omega) 10 (jb 46) rfl rfl)]; exact hx) (fun e => absurd e (by decide)) (ja_at (show (0 : Int) ≤ 11 ∧ (11 : Int) ≤ 1618 by omega) 0 rfl rfl rfl) hf hg
theorem w46_12 (h : J S m0 B m) (hm : m1 = z_upd m g 46 12 x) (hx : 0 ≤ x ∧ x ≤ 1) (hf : ¬ S.1 38) (hg : ¬ S.2.1 g) : J S m0 B m1 := h.upd hm (by unfold jl jh; rw [(jf_at (show (12 : Int) ≤ 12 ∧ (12 : Int) ≤ 12 by omega) 11 (jb 46) rfl rfl)]; exact hx) (fun e => absurd e (by decide)) (ja_at (show (0 : Int) ≤ 12 ∧ (12 : Int) ≤ 1618 by omega) 0 rfl rfl rfl) hf hg
theorem w46_13 (h : J S m0 B m) (hm : m1 = z_upd m g 46 13 x) (hx : 0 ≤ x ∧ x ≤ B) (hf : ¬ S.1 38) (hg : ¬ S.2.1 g) : J S m0 B m1 := h.upd hm (by unfold jl jh; rw [(jf_at (show (13 : Int) ≤ 13 ∧ (13 : Int) ≤ 13 by omega) 12 (jb 46) rfl rfl)]; exact hx) (fun e => absurd e (by decide)) (ja_at (show (0 : Int) ≤ 13 ∧ (13 : Int) ≤ 1618 by omega) 0 rfl rfl rfl) hf hg
theorem w46_14 (h : J S m0 B m) (hm : m1 = z_upd m g 46 i x) (hi : 14 ≤ i ∧ i ≤ 15) (hx : -9223372036854775808 ≤ x ∧ x ≤ 9223372036854775807) (hf : ¬ S.1 38) (hg : ¬ S.2.1 g) : J S m0 B m1 := h.upd hm (by unfold jl jh; rw [(jf_no (show (14 : Int) ≤ i ∧ i ≤ (15 : Int) by omega) (jb 46) rfl)]; exact hx) (fun e => absurd e (by decide)) (ja_at (show (0 : Int) ≤ i ∧ i ≤ (1618 : Int) by omega) 0 rfl rfl rfl) hf hg
theorem w46_16 (h : J S m0 B m) (hm : m1 = z_upd m g 46 16 x) (hx : 0 ≤ x ∧ x ≤ B) (hf : ¬ S.1 38) (hg : ¬ S.2.1 g) : J S m0 B m1 := h.upd hm (by unfold jl jh; rw [(jf_at (show (16 : Int) ≤ 16 ∧ (16 : Int) ≤ 16 by omega) 13 (jb 46) rfl rfl)]; exact hx) (fun e => absurd e (by decide)) (ja_at (show (0 : Int) ≤ 16 ∧ (16 : Int) ≤ 1618 by omega) 0 rfl rfl rfl) hf hg
theorem w46_17 (h : J S m0 B m) (hm : m1 = z_upd m g 46 17 x) (hx : 0 ≤ x ∧ x ≤ B) (hf : ¬ S.1 38) (hg : ¬ S.2.1 g) : J S m0 B m1 := h.upd hm (by unfold jl jh; rw [(jf_at (show (17 : Int) ≤ 17 ∧ (17 : Int) ≤ 17 by omega) 14 (jb 46) rfl rfl)]; exact hx) (fun e => absurd e (by decide)) (ja_at (show (0 : Int) ≤ 17 ∧ (17 : Int) ≤ 1618 by omega) 0 rfl rfl rfl) hf hg
theorem w46_18 (h : J S m0 B m) (hm : m1 = z_upd m g 46 18 x) (hx : 0 ≤ x ∧ x ≤ B) (hf : ¬ S.1 38) (hg : ¬ S.2.1 g) : J S m0 B m1 := h.upd hm (by unfold jl jh; rw [(jf_at (show (18 : Int) ≤ 18 ∧ (18 : Int) ≤ 18 by omega) 15 (jb 46) rfl rfl)]; exact hx) (fun e => absurd e (by decide)) (ja_at (show (0 : Int) ≤ 18 ∧ (18 : Int) ≤ 1618 by omega) 0 rfl rfl rfl) hf hg
theorem w46_19 (h : J S m0 B m) (hm : m1 = z_upd m g 46 i x) (hi : 19 ≤ i ∧ i ≤ 27) (hx : -9223372036854775808 ≤ x ∧ x ≤ 9223372036854775807) (hf : ¬ S.1 38) (hg : ¬ S.2.1 g) : J S m0 B m1 := h.upd hm (by unfold jl jh; rw [(jf_no (show (19 : Int) ≤ i ∧ i ≤ (27 : Int) by omega) (jb 46) rfl)]; exact hx) (fun e => absurd e (by decide)) (ja_at (show (0 : Int) ≤ i ∧ i ≤ (1618 : Int) by omega) 0 rfl rfl rfl) hf hg
theorem w46_28 (h : J S m0 B m) (hm : m1 = z_upd m g 46 i x) (hi : 28 ≤ i ∧ i ≤ 31) (hx : 0 ≤ x ∧ x ≤ 100) (hf : ¬ S.1 38) (hg : ¬ S.2.1 g) : J S m0 B m1 := h.upd hm (by unfold jl jh; rw [(jf_at (show (28 : Int) ≤ i ∧ i ≤ (31 : Int) by omega) 16 (jb 46) rfl rfl)]; exact hx) (fun e => absurd e (by decide)) (ja_at (show (0 : Int) ≤ i ∧ i ≤ (1618 : Int) by omega) 0 rfl rfl rfl) hf hg
theorem w46_32 (h : J S m0 B m) (hm : m1 = z_upd m g 46 i x) (hi : 32 ≤ i ∧ i ≤ 94) (hx : -9223372036854775808 ≤ x ∧ x ≤ 9223372036854775807) (hf : ¬ S.1 38) (hg : ¬ S.2.1 g) : J S m0 B m1 := h.upd hm (by unfold jl jh; rw [(jf_no (show (32 : Int) ≤ i ∧ i ≤ (94 : Int) by omega) (jb 46) rfl)]; exact hx) (fun e => absurd e (by decide)) (ja_at (show (0 : Int) ≤ i ∧ i ≤ (1618 : Int) by omega) 0 rfl rfl rfl) hf hg
theorem w46_95 (h : J S m0 B m) (hm : m1 = z_upd m g 46 i x) (hi : 95 ≤ i ∧ i ≤ 286) (hx : (-500) ≤ x ∧ x ≤ 500) (hf : ¬ S.1 38) (hg : ¬ S.2.1 g) : J S m0 B m1 := h.upd hm (by unfold jl jh; rw [(jf_at (show (95 : Int) ≤ i ∧ i ≤ (286 : Int) by omega) 17 (jb 46) rfl rfl)]; exact hx) (fun e => absurd e (by decide)) (ja_at (show (0 : Int) ≤ i ∧ i ≤ (1618 : Int) by omega) 0 rfl rfl rfl) hf hg
theorem w46_287 (h : J S m0 B m) (hm : m1 = z_upd m g 46 i x) (hi : 287 ≤ i ∧ i ≤ 294) (hx : 0 ≤ x ∧ x ≤ 6) (hf : ¬ S.1 38) (hg : ¬ S.2.1 g) : J S m0 B m1 := h.upd hm (by unfold jl jh; rw [(jf_at (show (287 : Int) ≤ i ∧ i ≤ (294 : Int) by omega) 18 (jb 46) rfl rfl)]; exact hx) (fun e => absurd e (by decide)) (ja_at (show (0 : Int) ≤ i ∧ i ≤ (1618 : Int) by omega) 0 rfl rfl rfl) hf hg
theorem w46_295 (h : J S m0 B m) (hm : m1 = z_upd m g 46 i x) (hi : 295 ≤ i ∧ i ≤ 342) (hx : 0 ≤ x ∧ x ≤ 86399) (hf : ¬ S.1 38) (hg : ¬ S.2.1 g) : J S m0 B m1 := h.upd hm (by unfold jl jh; rw [(jf_at (show (295 : Int) ≤ i ∧ i ≤ (342 : Int) by omega) 19 (jb 46) rfl rfl)]; exact hx) (fun e => absurd e (by decide)) (ja_at (show (0 : Int) ≤ i ∧ i ≤ (1618 : Int) by omega) 0 rfl rfl rfl) hf hg
theorem w46_343 (h : J S m0 B m) (hm : m1 = z_upd m g 46 i x) (hi : 343 ≤ i ∧ i ≤ 390) (hx : 0 ≤ x ∧ x ≤ 3) (hf : ¬ S.1 38) (hg : ¬ S.2.1 g) : J S m0 B m1 := h.upd hm (by unfold jl jh; rw [(jf_at (show (343 : Int) ≤ i ∧ i ≤ (390 : Int) by omega) 20 (jb 46) rfl rfl)]; exact hx) (fun e => absurd e (by decide)) (ja_at (show (0 : Int) ≤ i ∧ i ≤ (1618 : Int) by omega) 0 rfl rfl rfl) hf hg
theorem w46_391 (h : J S m0 B m) (hm : m1 = z_upd m g 46 i x) (hi : 391 ≤ i ∧ i ≤ 394) (hx : (-1) ≤ x ∧ x ≤ 364) (hf : ¬ S.1 38) (hg : ¬ S.2.1 g) : J S m0 B m1 := h.upd hm (by unfold jl jh; rw [(jf_at (show (391 : Int) ≤ i ∧ i ≤ (394 : Int) by omega) 21 (jb 46) rfl rfl)]; exact hx) (fun e => absurd e (by decide)) (ja_at (show (0 : Int) ≤ i ∧ i ≤ (1618 : Int) by omega) 0 rfl rfl rfl) hf hg
theorem w46_395 (h : J S m0 B m) (hm : m1 = z_upd m g 46 i x) (hi : 395 ≤ i ∧ i ≤ 422) (hx : 0 ≤ x ∧ x ≤ 7) (hf : ¬ S.1 38) (hg : ¬ S.2.1 g) : J S m0 B m1 := h.upd hm (by unfold jl jh; rw [(jf_at (show (395 : Int) ≤ i ∧ i ≤ (422 : Int) by omega) 22 (jb 46) rfl rfl)]; exact hx) (fun e => absurd e (by decide)) (ja_at (show (0 : Int) ≤ i ∧ i ≤ (1618 : Int) by omega) 0 rfl rfl rfl) hf hg
theorem w46_423 (h : J S m0 B m) (hm : m1 = z_upd m g 46 i x) (hi : 423 ≤ i ∧ i ≤ 787) (hx : (-1) ≤ x ∧ x ≤ 7) (hf : ¬ S.1 38) (hg : ¬ S.2.1 g) : J S m0 B m1 := h.upd hm (by unfold jl jh; rw [(jf_at (show (423 : Int) ≤ i ∧ i ≤ (787 : Int) by omega) 23 (jb 46) rfl rfl)]; exact hx) (fun e => absurd e (by decide)) (ja_at (show (0 : Int) ≤ i ∧ i ≤ (1618 : Int) by omega) 0 rfl rfl rfl) hf hg
theorem w46_788 (h : J S m0 B m) (hm : m1 = z_upd m g 46 i x) (hi : 788 ≤ i ∧ i ≤ 1610) (hx : -9223372036854775808 ≤ x ∧ x ≤ 9223372036854775807) (hf : ¬ S.1 38) (hg : ¬ S.2.1 g) : J S m0 B m1 := h.upd hm (by unfold jl jh; rw [(jf_no (show (788 : Int) ≤ i ∧ i ≤ (1610 : Int) by omega) (jb 46) rfl)]; exact hx) (fun e => absurd e (by decide)) (ja_at (show (0 : Int) ≤ i ∧ i ≤ (1618 : Int) by omega) 0 rfl rfl rfl) hf hg
theorem w46_1611 (h : J S m0 B m) (hm : m1 = z_upd m g 46 1611 x) (hx : 0 ≤ x ∧ x ≤ 100) (hf : ¬ S.1 38) (hg : ¬ S.2.1 g) : J S m0 B m1 := h.upd hm (by unfold jl jh; rw [(jf_at (show (1611 : Int) ≤ 1611 ∧ (1611 : Int) ≤ 1611 by omega) 24 (jb 46) rfl rfl)]; exact hx) (fun e => absurd e (by decide)) (ja_at (show (0 : Int) ≤ 1611 ∧ (1611 : Int) ≤ 1618 by omega) 0 rfl rfl rfl) hf hg
theorem w46_1612 (h : J S m0 B m) (hm : m1 = z_upd m g 46 1612 x) (hx : 0 ≤ x ∧ x ≤ 200) (hf : ¬ S.1 38) (hg : ¬ S.2.1 g) : J S m0 B m1 := h.upd hm (by unfold jl jh; rw [(jf_at (show (1612 : Int) ≤ 1612 ∧ (1612 : Int) ≤ 1612 by omega) 25 (jb 46) rfl rfl)]; exact hx) (fun e => absurd e (by decide)) (ja_at (show (0 : Int) ≤ 1612 ∧ (1612 : Int) ≤ 1618 by omega) 0 rfl rfl rfl) hf hg
theorem w46_1613 (h : J S m0 B m) (hm : m1 = z_upd m g 46 1613 x) (hx : 0 ≤ x ∧ x ≤ 100) (hf : ¬ S.1 38) (hg : ¬ S.2.1 g) : J S m0 B m1 := h.upd hm (by unfold jl jh; rw [(jf_at (show (1613 : Int) ≤ 1613 ∧ (1613 : Int) ≤ 1613 by omega) 26 (jb 46) rfl rfl)]; exact hx) (fun e => absurd e (by decide)) (ja_at (show (0 : Int) ≤ 1613 ∧ (1613 : Int) ≤ 1618 by omega) 0 rfl rfl rfl) hf hg
theorem w46_1614 (h : J S m0 B m) (hm : m1 = z_upd m g 46 1614 x) (hx : 0 ≤ x ∧ x ≤ 1) (hf : ¬ S.1 38) (hg : ¬ S.2.1 g) : J S m0 B m1 := h.upd hm (by unfold jl jh; rw [(jf_at (show (1614 : Int) ≤ 1614 ∧ (1614 : Int) ≤ 1614 by omega) 27 (jb 46) rfl rfl)]; exact hx) (fun e => absurd e (by decide)) (ja_at (show (0 : Int) ≤ 1614 ∧ (1614 : Int) ≤ 1618 by omega) 0 rfl rfl rfl) hf hg
theorem w46_1615 (h : J S m0 B m) (hm : m1 = z_upd m g 46 1615 x) (hx : -9223372036854775808 ≤ x ∧ x ≤ 9223372036854775807) (hf : ¬ S.1 38) (hg : ¬ S.2.1 g) : J S m0 B m1 := h.upd hm (by unfold jl jh; rw [(jf_no (show (1615 : Int) ≤ 1615 ∧ (1615 : Int) ≤ 1615 by omega) (jb 46) rfl)]; exact hx) (fun e => absurd e (by decide)) (ja_at (show (0 : Int) ≤ 1615 ∧ (1615 : Int) ≤ 1618 by omega) 0 rfl rfl rfl) hf hg
theorem w46_1616 (h : J S m0 B m) (hm : m1 = z_upd m g 46 1616 x) (hx : 0 ≤ x ∧ x ≤ B) (hf : ¬ S.1 38) (hg : ¬ S.2.1 g) : J S m0 B m1 := h.upd hm (by unfold jl jh; rw [(jf_at (show (1616 : Int) ≤ 1616 ∧ (1616 : Int) ≤ 1616 by omega) 28 (jb 46) rfl rfl)]; exact hx) (fun e => absurd e (by decide)) (ja_at (show (0 : Int) ≤ 1616 ∧ (1616 : Int) ≤ 1618 by omega) 0 rfl rfl rfl) hf hg
theorem w46_1617 (h : J S m0 B m) (hm : m1 = z_upd m g 46 1617 x) (hx : 0 ≤ x ∧ x ≤ 2000000300) (hf : ¬ S.1 38) (hg : ¬ S.2.1 g) : J S m0 B m1 := h.upd hm (by unfold jl jh; rw [(jf_at (show (1617 : Int) ≤ 1617 ∧ (1617 : Int) ≤ 1617 by omega) 29 (jb 46) rfl rfl)]; exact hx) (fun e => absurd e (by decide)) (ja_at (show (0 : Int) ≤ 1617 ∧ (1617 : Int) ≤ 1618 by omega) 0 rfl rfl rfl) hf hg
theorem w46_1618 (h : J S m0 B m) (hm : m1 = z_upd m g 46 1618 x) (hx : -9223372036854775808 ≤ x ∧ x ≤ 9223372036854775807) (hf : ¬ S.1 38) (hg : ¬ S.2.1 g) : J S m0 B m1 := h.upd hm (by unfold jl jh; rw [(jf_no (show (1618 : Int) ≤ 1618 ∧ (1618 : Int) ≤ 1618 by omega) (jb 46) rfl)]; exact hx) (fun e => absurd e (by decide)) (ja_at (show (0 : Int) ≤ 1618 ∧ (1618 : Int) ≤ 1618 by omega) 0 rfl rfl rfl) hf hg
theorem w47_0 (h : J S m0 B m) (hm : m1 = z_upd m g 47 0 x) (hx : 0 ≤ x ∧ x ≤ 2000000000) (hf : ¬ S.1 37) (hg : ¬ S.2.1 g) : J S m0 B m1 := h.upd hm (by unfold jl jh; rw [(jf_at (show (0 : Int) ≤ 0 ∧ (0 : Int) ≤ 0 by omega) 0 (jb 47) rfl rfl)]; exact hx) (fun e => absurd e (by decide)) (ja_at (show (0 : Int) ≤ 0 ∧ (0 : Int) ≤ 1618 by omega) 0 rfl rfl rfl) hf hg
theorem w47_1 (h : J S m0 B m) (hm : m1 = z_upd m g 47 1 x) (hx : 1 ≤ x ∧ x ≤ 3) (hf : ¬ S.1 37) (hg : ¬ S.2.1 g) : J S m0 B m1 := h.upd hm (by unfold jl jh; rw [(jf_at (show (1 : Int) ≤ 1 ∧ (1 : Int) ≤ 1 by omega) 1 (jb 47) rfl rfl)]; exact hx) (fun e => absurd e (by decide)) (ja_at (show (0 : Int) ≤ 1 ∧ (1 : Int) ≤ 1618 by omega) 0 rfl rfl rfl) hf hg
theorem w47_2 (h : J S m0 B m) (hm : m1 = z_upd m g 47 2 x) (hx : 4 ≤ x ∧ x ≤ 16) (hf : ¬ S.1 37) (hg : ¬ S.2.1 g) : J S m0 B m1 := h.upd hm (by unfold jl jh; rw [(jf_at (show (2 : Int) ≤ 2 ∧ (2 : Int) ≤ 2 by omega) 2 (jb 47) rfl rfl)]; exact hx) (fun e => absurd e (by decide)) (ja_at (show (0 : Int) ≤ 2 ∧ (2 : Int) ≤ 1618 by omega) 0 rfl rfl rfl) hf hg
theorem w47_3 (h : J S m0 B m) (hm : m1 = z_upd m g 47 3 x) (hx : 0 ≤ x ∧ x ≤ 47) (hf : ¬ S.1 37) (hg : ¬ S.2.1 g) : J S m0 B m1 := h.upd hm (by unfold jl jh; rw [(jf_at (show (3 : Int) ≤ 3 ∧ (3 : Int) ≤ 3 by omega) 3 (jb 47) rfl rfl)]; exact hx) (fun e => absurd e (by decide)) (ja_at (show (0 : Int) ≤ 3 ∧ (3 : Int) ≤ 1618 by omega) 0 rfl rfl rfl) hf hg
theorem w47_4 (h : J S m0 B m) (hm : m1 = z_upd m g 47 4 x) (hx : 0 ≤ x ∧ x ≤ 1000000) (hf : ¬ S.1 37) (hg : ¬ S.2.1 g) : J S m0 B m1 := h.upd hm (by unfold jl jh; rw [(jf_at (show (4 : Int) ≤ 4 ∧ (4 : Int) ≤ 4 by omega) 4 (jb 47) rfl rfl)]; exact hx) (fun e => absurd e (by decide)) (ja_at (show (0 : Int) ≤ 4 ∧ (4 : Int) ≤ 1618 by omega) 0 rfl rfl rfl) hf hg
theorem w47_5 (h : J S m0 B m) (hm : m1 = z_upd m g 47 5 x) (hx : 1 ≤ x ∧ x ≤ 1000000) (hf : ¬ S.1 37) (hg : ¬ S.2.1 g) : J S m0 B m1 := h.upd hm (by unfold jl jh; rw [(jf_at (show (5 : Int) ≤ 5 ∧ (5 : Int) ≤ 5 by omega) 5 (jb 47) rfl rfl)]; exact hx) (fun e => absurd e (by decide)) (ja_at (show (0 : Int) ≤ 5 ∧ (5 : Int) ≤ 1618 by omega) 0 rfl rfl rfl) hf hg
theorem w47_6 (h : J S m0 B m) (hm : m1 = z_upd m g 47 6 x) (hx : 0 ≤ x ∧ x ≤ 250000) (hf : ¬ S.1 37) (hg : ¬ S.2.1 g) : J S m0 B m1 := h.upd hm (by unfold jl jh; rw [(jf_at (show (6 : Int) ≤ 6 ∧ (6 : Int) ≤ 6 by omega) 6 (jb 47) rfl rfl)]; exact hx) (fun e => absurd e (by decide)) (ja_at (show (0 : Int) ≤ 6 ∧ (6 : Int) ≤ 1618 by omega) 0 rfl rfl rfl) hf hg
theorem w47_7 (h : J S m0 B m) (hm : m1 = z_upd m g 47 7 x) (hx : 0 ≤ x ∧ x ≤ 60) (hf : ¬ S.1 37) (hg : ¬ S.2.1 g) : J S m0 B m1 := h.upd hm (by unfold jl jh; rw [(jf_at (show (7 : Int) ≤ 7 ∧ (7 : Int) ≤ 7 by omega) 7 (jb 47) rfl rfl)]; exact hx) (fun e => absurd e (by decide)) (ja_at (show (0 : Int) ≤ 7 ∧ (7 : Int) ≤ 1618 by omega) 0 rfl rfl rfl) hf hg
theorem w47_8 (h : J S m0 B m) (hm : m1 = z_upd m g 47 8 x) (hx : 1 ≤ x ∧ x ≤ 3600) (hf : ¬ S.1 37) (hg : ¬ S.2.1 g) : J S m0 B m1 := h.upd hm (by unfold jl jh; rw [(jf_at (show (8 : Int) ≤ 8 ∧ (8 : Int) ≤ 8 by omega) 8 (jb 47) rfl rfl)]; exact hx) (fun e => absurd e (by decide)) (ja_at (show (0 : Int) ≤ 8 ∧ (8 : Int) ≤ 1618 by omega) 0 rfl rfl rfl) hf hg
theorem w47_9 (h : J S m0 B m) (hm : m1 = z_upd m g 47 9 x) (hx : 1 ≤ x ∧ x ≤ 6) (hf : ¬ S.1 37) (hg : ¬ S.2.1 g) : J S m0 B m1 := h.upd hm (by unfold jl jh; rw [(jf_at (show (9 : Int) ≤ 9 ∧ (9 : Int) ≤ 9 by omega) 9 (jb 47) rfl rfl)]; exact hx) (fun e => absurd e (by decide)) (ja_at (show (0 : Int) ≤ 9 ∧ (9 : Int) ≤ 1618 by omega) 0 rfl rfl rfl) hf hg
theorem w47_10 (h : J S m0 B m) (hm : m1 = z_upd m g 47 10 x) (hx : -9223372036854775808 ≤ x ∧ x ≤ 9223372036854775807) (hf : ¬ S.1 37) (hg : ¬ S.2.1 g) : J S m0 B m1 := h.upd hm (by unfold jl jh; rw [(jf_no (show (10 : Int) ≤ 10 ∧ (10 : Int) ≤ 10 by omega) (jb 47) rfl)]; exact hx) (fun e => absurd e (by decide)) (ja_at (show (0 : Int) ≤ 10 ∧ (10 : Int) ≤ 1618 by omega) 0 rfl rfl rfl) hf hg
theorem w47_11 (h : J S m0 B m) (hm : m1 = z_upd m g 47 11 x) (hx : 0 ≤ x ∧ x ≤ 1) (hf : ¬ S.1 37) (hg : ¬ S.2.1 g) : J S m0 B m1 := h.upd hm (by unfold jl jh; rw [(jf_at (show (11 : Int) ≤ 11 ∧ (11 : Int) ≤ 11 by omega) 10 (jb 47) rfl rfl)]; exact hx) (fun e => absurd e (by decide)) (ja_at (show (0 : Int) ≤ 11 ∧ (11 : Int) ≤ 1618 by omega) 0 rfl rfl rfl) hf hg
theorem w47_12 (h : J S m0 B m) (hm : m1 = z_upd m g 47 12 x) (hx : 0 ≤ x ∧ x ≤ 1) (hf : ¬ S.1 37) (hg : ¬ S.2.1 g) : J S m0 B m1 := h.upd hm (by unfold jl jh; rw [(jf_at (show (12 : Int) ≤ 12 ∧ (12 : Int) ≤ 12 by omega) 11 (jb 47) rfl rfl)]; exact hx) (fun e => absurd e (by decide)) (ja_at (show (0 : Int) ≤ 12 ∧ (12 : Int) ≤ 1618 by omega) 0 rfl rfl rfl) hf hg
theorem w47_13 (h : J S m0 B m) (hm : m1 = z_upd m g 47 13 x) (hx : 0 ≤ x ∧ x ≤ B) (hf : ¬ S.1 37) (hg : ¬ S.2.1 g) : J S m0 B m1 := h.upd hm (by unfold jl jh; rw [(jf_at (show (13 : Int) ≤ 13 ∧ (13 : Int) ≤ 13 by omega) 12 (jb 47) rfl rfl)]; exact hx) (fun e => absurd e (by decide)) (ja_at (show (0 : Int) ≤ 13 ∧ (13 : Int) ≤ 1618 by omega) 0 rfl rfl rfl) hf hg
theorem w47_14 (h : J S m0 B m) (hm : m1 = z_upd m g 47 i x) (hi : 14 ≤ i ∧ i ≤ 15) (hx : -9223372036854775808 ≤ x ∧ x ≤ 9223372036854775807) (hf : ¬ S.1 37) (hg : ¬ S.2.1 g) : J S m0 B m1 := h.upd hm (by unfold jl jh; rw [(jf_no (show (14 : Int) ≤ i ∧ i ≤ (15 : Int) by omega) (jb 47) rfl)]; exact hx) (fun e => absurd e (by decide)) (ja_at (show (0 : Int) ≤ i ∧ i ≤ (1618 : Int) by omega) 0 rfl rfl rfl) hf hg
theorem w47_16 (h : J S m0 B m) (hm : m1 = z_upd m g 47 16 x) (hx : 0 ≤ x ∧ x ≤ B) (hf : ¬ S.1 37) (hg : ¬ S.2.1 g) : J S m0 B m1 := h.upd hm (by unfold jl jh; rw [(jf_at (show (16 : Int) ≤ 16 ∧ (16 : Int) ≤ 16 by omega) 13 (jb 47) rfl rfl)]; exact hx) (fun e => absurd e (by decide)) (ja_at (show (0 : Int) ≤ 16 ∧ (16 : Int) ≤ 1618 by omega) 0 rfl rfl rfl) hf hg
theorem w47_17 (h : J S m0 B m) (hm : m1 = z_upd m g 47 17 x) (hx : 0 ≤ x ∧ x ≤ B) (hf : ¬ S.1 37) (hg : ¬ S.2.1 g) : J S m0 B m1 := h.upd hm (by unfold jl jh; rw [(jf_at (show (17 : Int) ≤ 17 ∧ (17 : Int) ≤ 17 by omega) 14 (jb 47) rfl rfl)]; exact hx) (fun e => absurd e (by decide)) (ja_at (show (0 : Int) ≤ 17 ∧ (17 : Int) ≤ 1618 by omega) 0 rfl rfl rfl) hf hg
theorem w47_18 (h : J S m0 B m) (hm : m1 = z_upd m g 47 18 x) (hx : 0 ≤ x ∧ x ≤ B) (hf : ¬ S.1 37) (hg : ¬ S.2.1 g) : J S m0 B m1 := h.upd hm (by unfold jl jh; rw [(jf_at (show (18 : Int) ≤ 18 ∧ (18 : Int) ≤ 18 by omega) 15 (jb 47) rfl rfl)]; exact hx) (fun e => absurd e (by decide)) (ja_at (show (0 : Int) ≤ 18 ∧ (18 : Int) ≤ 1618 by omega) 0 rfl rfl rfl) hf hg
theorem w47_19 (h : J S m0 B m) (hm : m1 = z_upd m g 47 i x) (hi : 19 ≤ i ∧ i ≤ 27) (hx : -9223372036854775808 ≤ x ∧ x ≤ 9223372036854775807) (hf : ¬ S.1 37) (hg : ¬ S.2.1 g) : J S m0 B m1 := h.upd hm (by unfold jl jh; rw [(jf_no (show (19 : Int) ≤ i ∧ i ≤ (27 : Int) by omega) (jb 47) rfl)]; exact hx) (fun e => absurd e (by decide)) (ja_at (show (0 : Int) ≤ i ∧ i ≤ (1618 : Int) by omega) 0 rfl rfl rfl) hf hg
theorem w47_28 (h : J S m0 B m) (hm : m1 = z_upd m g 47 i x) (hi : 28 ≤ i ∧ i ≤ 31) (hx : 0 ≤ x ∧ x ≤ 100) (hf : ¬ S.1 37) (hg : ¬ S.2.1 g) : J S m0 B m1 := h.upd hm (by unfold jl jh; rw [(jf_at (show (28 : Int) ≤ i ∧ i ≤ (31 : Int) by omega) 16 (jb 47) rfl rfl)]; exact hx) (fun e => absurd e (by decide)) (ja_at (show (0 : Int) ≤ i ∧ i ≤ (1618 : Int) by omega) 0 rfl rfl rfl) hf hg
theorem w47_32 (h : J S m0 B m) (hm : m1 = z_upd m g 47 i x) (hi : 32 ≤ i ∧ i ≤ 94) (hx : -9223372036854775808 ≤ x ∧ x ≤ 9223372036854775807) (hf : ¬ S.1 37) (hg : ¬ S.2.1 g) : J S m0 B m1 := h.upd hm (by unfold jl jh; rw [(jf_no (show (32 : Int) ≤ i ∧ i ≤ (94 : Int) by omega) (jb 47) rfl)]; exact hx) (fun e => absurd e (by decide)) (ja_at (show (0 : Int) ≤ i ∧ i ≤ (1618 : Int) by omega) 0 rfl rfl rfl) hf hg
theorem w47_95 (h : J S m0 B m) (hm : m1 = z_upd m g 47 i x) (hi : 95 ≤ i ∧ i ≤ 286) (hx : (-500) ≤ x ∧ x ≤ 500) (hf : ¬ S.1 37) (hg : ¬ S.2.1 g) : J S m0 B m1 := h.upd hm (by unfold jl jh; rw [(jf_at (show (95 : Int) ≤ i ∧ i ≤ (286 : Int) by omega) 17 (jb 47) rfl rfl)]; exact hx) (fun e => absurd e (by decide)) (ja_at (show (0 : Int) ≤ i ∧ i ≤ (1618 : Int) by omega) 0 rfl rfl rfl) hf hg
theorem w47_287 (h : J S m0 B m) (hm : m1 = z_upd m g 47 i x) (hi : 287 ≤ i ∧ i ≤ 294) (hx : 0 ≤ x ∧ x ≤ 6) (hf : ¬ S.1 37) (hg : ¬ S.2.1 g) : J S m0 B m1 := h.upd hm (by unfold jl jh; rw [(jf_at (show (287 : Int) ≤ i ∧ i ≤ (294 : Int) by omega) 18 (jb 47) rfl rfl)]; exact hx) (fun e => absurd e (by decide)) (ja_at (show (0 : Int) ≤ i ∧ i ≤ (1618 : Int) by omega) 0 rfl rfl rfl) hf hg
theorem w47_295 (h : J S m0 B m) (hm : m1 = z_upd m g 47 i x) (hi : 295 ≤ i ∧ i ≤ 342) (hx : 0 ≤ x ∧ x ≤ 86399) (hf : ¬ S.1 37) (hg : ¬ S.2.1 g) : J S m0 B m1 := h.upd hm (by unfold jl jh; rw [(jf_at (show (295 : Int) ≤ i ∧ i ≤ (342 : Int) by omega) 19 (jb 47) rfl rfl)]; exact hx) (fun e => absurd e (by decide)) (ja_at (show (0 : Int) ≤ i ∧ i ≤ (1618 : Int) by omega) 0 rfl rfl rfl) hf hg
theorem w47_343 (h : J S m0 B m) (hm : m1 = z_upd m g 47 i x) (hi : 343 ≤ i ∧ i ≤ 390) (hx : 0 ≤ x ∧ x ≤ 3) (hf : ¬ S.1 37) (hg : ¬ S.2.1 g) : J S m0 B m1 := h.upd hm (by unfold jl jh; rw [(jf_at (show (343 : Int) ≤ i ∧ i ≤ (390 : Int) by omega) 20 (jb 47) rfl rfl)]; exact hx) (fun e => absurd e (by decide)) (ja_at (show (0 : Int) ≤ i ∧ i ≤ (1618 : Int) by omega) 0 rfl rfl rfl) hf hg
theorem w47_391 (h : J S m0 B m) (hm : m1 = z_upd m g 47 i x) (hi : 391 ≤ i ∧ i ≤ 394) (hx : (-1) ≤ x ∧ x ≤ 364) (hf : ¬ S.1 37) (hg : ¬ S.2.1 g) : J S m0 B m1 := h.upd hm (by unfold jl jh; rw [(jf_at (show (391 : Int) ≤ i ∧ i ≤ (394 : Int) by omega) 21 (jb 47) rfl rfl)]; exact hx) (fun e => absurd e (by decide)) (ja_at (show (0 : Int) ≤ i ∧ i ≤ (1618 : Int) by omega) 0 rfl rfl rfl) hf hg
theorem w47_395 (h : J S m0 B m) (hm : m1 = z_upd m g 47 i x) (hi : 395 ≤ i ∧ i ≤ 422) (hx : 0 ≤ x ∧ x ≤ 7) (hf : ¬ S.1 37) (hg : ¬ S.2.1 g) : J S m0 B m1 := h.upd hm (by unfold jl jh; rw [(jf_at (show (395 : Int) ≤ i ∧ i ≤ (422 : Int) by omega) 22 (jb 47) rfl rfl)]; exact hx) (fun e => absurd e (by decide)) (ja_at (show (0 : Int) ≤ i ∧ i ≤ (1618 : Int) by omega) 0 rfl rfl rfl) hf hg
theorem w47_423 (h : J S m0 B m) (hm : m1 = z_upd m g 47 i x) (hi : 423 ≤ i ∧ i ≤ 787) (hx : (-1) ≤ x ∧ x ≤ 7) (hf : ¬ S.1 37) (hg : ¬ S.2.1 g) : J S m0 B m1 := h.upd hm (by unfold jl jh; rw [(jf_at (show (423 : Int) ≤ i ∧ i ≤ (787 : Int) by omega) 23 (jb 47) rfl rfl)]; exact hx) (fun e => absurd e (by decide)) (ja_at (show (0 : Int) ≤ i ∧ i ≤ (1618 : Int) by omega) 0 rfl rfl rfl) hf hg
theorem w47_788 (h : J S m0 B m) (hm : m1 = z_upd m g 47 i x) (hi : 788 ≤ i ∧ i ≤ 1610) (hx : -9223372036854775808 ≤ x ∧ x ≤ 9223372036854775807) (hf : ¬ S.1 37) (hg : ¬ S.2.1 g) : J S m0 B m1 := h.upd hm (by unfold jl jh; rw [(jf_no (show (788 : Int) ≤ i ∧ i ≤ (1610 : Int) by omega) (jb 47) rfl)]; exact hx) (fun e => absurd e (by decide)) (ja_at (show (0 : Int) ≤ i ∧ i ≤ (1618 : Int) by omega) 0 rfl rfl rfl) hf hg
theorem w47_1611 (h : J S m0 B m) (hm : m1 = z_upd m g 47 1611 x) (hx : 0 ≤ x ∧ x ≤ 100) (hf : ¬ S.1 37) (hg : ¬ S.2.1 g) : J S m0 B m1 := h.upd hm (by unfold jl jh; rw [(jf_at (show (1611 : Int) ≤ 1611 ∧ (1611 : Int) ≤ 1611 by omega) 24 (jb 47) rfl rfl)]; exact hx) (fun e => absurd e (by decide)) (ja_at (show (0 : Int) ≤ 1611 ∧ (1611 : Int) ≤ 1618 by omega) 0 rfl rfl rfl) hf hg
theorem w47_1612 (h : J S m0 B m) (hm : m1 = z_upd m g 47 1612 x) (hx : 0 ≤ x ∧ x ≤ 200) (hf : ¬ S.1 37) (hg : ¬ S.2.1 g) : J S m0 B m1 := h.upd hm (by unfold jl jh; rw [(jf_at (show (1612 : Int) ≤ 1612 ∧ (1612 : Int) ≤ 1612 by omega) 25 (jb 47) rfl rfl)]; exact hx) (fun e => absurd e (by decide)) (ja_at (show (0 : Int) ≤ 1612 ∧ (1612 : Int) ≤ 1618 by omega) 0 rfl rfl rfl) hf hg
theorem w47_1613 (h : J S m0 B m) (hm : m1 = z_upd m g 47 1613 x) (hx : 0 ≤ x ∧ x ≤ 100) (hf : ¬ S.1 37) (hg : ¬ S.2.1 g) : J S m0 B m1 := h.upd hm (by unfold jl jh; rw [(jf_at (show (1613 : Int) ≤ 1613 ∧ (1613 : Int) ≤ 1613 by omega) 26 (jb 47) rfl rfl)]; exact hx) (fun e => absurd e (by decide)) (ja_at (show (0 : Int) ≤ 1613 ∧ (1613 : Int) ≤ 1618 by omega) 0 rfl rfl rfl) hf hg
theorem w47_1614 (h : J S m0 B m) (hm : m1 = z_upd m g 47 1614 x) (hx : 0 ≤ x ∧ x ≤ 1) (hf : ¬ S.1 37) (hg : ¬ S.2.1 g) : J S m0 B m1 := h.upd hm (by unfold jl jh; rw [(jf_at (show (1614 : Int) ≤ 1614 ∧ (1614 : Int) ≤ 1614 by omega) 27 (jb 47) rfl rfl)]; exact hx) (fun e => absurd e (by decide)) (ja_at (show (0 : Int) ≤ 1614 ∧ (1614 : Int) ≤ 1618 by omega) 0 rfl rfl rfl) hf hg
theorem w47_1615 (h : J S m0 B m) (hm : m1 = z_upd m g 47 1615 x) (hx : -9223372036854775808 ≤ x ∧ x ≤ 9223372036854775807) (hf : ¬ S.1 37) (hg : ¬ S.2.1 g) : J S m0 B m1 := h.upd hm (by unfold jl jh; rw [(jf_no (show (1615 : Int) ≤ 1615 ∧ (1615 : Int) ≤ 1615 by omega) (jb 47) rfl)]; exact hx) (fun e => absurd e (by decide)) (ja_at (show (0 : Int) ≤ 1615 ∧ (1615 : Int) ≤ 1618 by omega) 0 rfl rfl rfl) hf hg
theorem w47_1616 (h : J S m0 B m) (hm : m1 = z_upd m g 47 1616 x) (hx : 0 ≤ x ∧ x ≤ B) (hf : ¬ S.1 37) (hg : ¬ S.2.1 g) : J S m0 B m1 := h.upd hm (by unfold jl jh; rw [(jf_at (show (1616 : Int) ≤ 1616 ∧ (1616 : Int) ≤ 1616 by omega) 28 (jb 47) rfl rfl)]; exact hx) (fun e => absurd e (by decide)) (ja_at (show (0 : Int) ≤ 1616 ∧ (1616 : Int) ≤ 1618 by omega) 0 rfl rfl rfl) hf hg
theorem w47_1617 (h : J S m0 B m) (hm : m1 = z_upd m g 47 1617 x) (hx : 0 ≤ x ∧ x ≤ 2000000300) (hf : ¬ S.1 37) (hg : ¬ S.2.1 g) : J S m0 B m1 := h.upd hm (by unfold jl jh; rw [(jf_at (show (1617 : Int) ≤ 1617 ∧ (1617 : Int) ≤ 1617 by omega) 29 (jb 47) rfl rfl)]; exact hx) (fun e => absurd e (by decide)) (ja_at (show (0 : Int) ≤ 1617 ∧ (1617 : Int) ≤ 1618 by omega) 0 rfl rfl rfl) hf hg
theorem w47_1618 (h : J S m0 B m) (hm : m1 = z_upd m g 47 1618 x) (hx : -9223372036854775808 ≤ x ∧ x ≤ 9223372036854775807) (hf : ¬ S.1 37) (hg : ¬ S.2.1 g) : J S m0 B m1 := h.upd hm (by unfold jl jh; rw [(jf_no (show (1618 : Int) ≤ 1618 ∧ (1618 : Int) ≤ 1618 by omega) (jb 47) rfl)]; exact hx) (fun e => absurd e (by decide)) (ja_at (show (0 : Int) ≤ 1618 ∧ (1618 : Int) ≤ 1618 by omega) 0 rfl rfl rfl) hf hg
theorem w48_0 (h : J S m0 B m) (hm : m1 = z_upd m g 48 i x) (hi : 0 ≤ i ∧ i ≤ 299) (hx : -9223372036854775808 ≤ x ∧ x ≤ 9223372036854775807) (hf : ¬ S.1 35) (hg : ¬ S.2.1 g) : J S m0 B m1 := h.upd hm (by unfold jl jh; rw [(jf_no (show (0 : Int) ≤ i ∧ i ≤ (299 : Int) by omega) (jb 48) rfl)]; exact hx) (fun e => absurd e (by decide)) (ja_at (show (0 : Int) ≤ i ∧ i ≤ (299 : Int) by omega) 0 rfl rfl rfl) hf hg
theorem w49_0 (h : J S m0 B m) (hm : m1 = z_upd m g 49 i x) (hi : 0 ≤ i ∧ i ≤ 7) (hx : -9223372036854775808 ≤ x ∧ x ≤ 9223372036854775807) (hf : ¬ S.1 39) (hg : ¬ S.2.1 g) : J S m0 B m1 := h.upd hm (by unfold jl jh; rw [(jf_no (show (0 : Int) ≤ i ∧ i ≤ (7 : Int) by omega) (jb 49) rfl)]; exact hx) (fun e => absurd e (by decide)) (ja_at (show (0 : Int) ≤ i ∧ i ≤ (7 : Int) by omega) 0 rfl rfl rfl) hf hg
theorem w50_0 (h : J S m0 B m) (hm : m1 = z_upd m g 50 i x) (hi : 0 ≤ i ∧ i ≤ 3) (hx : -9223372036854775808 ≤ x ∧ x ≤ 9223372036854775807) (hf : ¬ S.1 39) (hg : ¬ S.2.1 g) : J S m0 B m1 := h.upd hm (by unfold jl jh; rw [(jf_no (show (0 : Int) ≤ i ∧ i ≤ (3 : Int) by omega) (jb 50) rfl)]; exact hx) (fun e => absurd e (by decide)) (ja_at (show (0 : Int) ≤ i ∧ i ≤ (3 : Int) by omega) 0 rfl rfl rfl) hf hg
end
end
section
/-! Rows that name the new memory, rows that forget what a number is. -/
section
variable {E : zE} {d j pc : Nat} {lv : List (Nat × zV)} {st : List zV} {m : zM} {Q : Option zV → zM → Prop} {q : Nat × Nat × Nat × Nat} {c : Value} {ks : Option (List Nat)}
theorem X.putI' (pc' : Nat) (fz : Int) {idx ci fj hh g k : Nat} {fs : List zF} {x : Int} (hi : z_I E j pc = some (.putfield idx, 3, (ci, fj, 0, hh), c, ks)) (hc : z_cut ks lv = lv) (hp : pc + 3 = pc') (h8 : ¬ k < 8) (hk : E.2.2.2.1 k = some (.inl (ci, fs))) (hf : fs[fj]? = some (.inl 0)) (hz : (fj : Int) = fz) (kk : (-9223372036854775808 ≤ x ∧ x ≤ 9223372036854775807) → ∀ m1, m1 = z_upd m g k fz x → X E d j pc' lv st m1 Q) : X E d j pc lv (zi x :: zr g k :: st) m Q := by
  intro g1 g2 g3
  have h : -2147483648 ≤ x ∧ x ≤ 2147483647 := z_hd g2
  exact X.putI pc' fz hi hc hp h8 hk hf hz (kk (by omega) _ rfl) g1 g2 g3
theorem X.putL' (pc' : Nat) (fz : Int) {idx ci fj hh g k : Nat} {fs : List zF} {x : Int} (hi : z_I E j pc = some (.putfield idx, 3, (ci, fj, 1, hh), c, ks)) (hc : z_cut ks lv = lv) (hp : pc + 3 = pc') (h8 : ¬ k < 8) (hk : E.2.2.2.1 k = some (.inl (ci, fs))) (hf : fs[fj]? = some (.inl 1)) (hz : (fj : Int) = fz) (kk : (-9223372036854775808 ≤ x ∧ x ≤ 9223372036854775807) → ∀ m1, m1 = z_upd m g k fz x → X E d j pc' lv st m1 Q) : X E d j pc lv (zl x :: zr g k :: st) m Q := by
  intro g1 g2 g3
  exact X.putL pc' fz hi hc hp h8 hk hf hz (kk (z_hd g2) _ rfl) g1 g2 g3
theorem X.putZ' (pc' : Nat) (fz : Int) {idx ci fj hh g k : Nat} {fs : List zF} {x : Int} (hi : z_I E j pc = some (.putfield idx, 3, (ci, fj, 2, hh), c, ks)) (hc : z_cut ks lv = lv) (hp : pc + 3 = pc') (h8 : ¬ k < 8) (hk : E.2.2.2.1 k = some (.inl (ci, fs))) (hf : fs[fj]? = some (.inl 2)) (hz : (fj : Int) = fz) (hx : x = 0 ∨ x = 1) (kk : (-9223372036854775808 ≤ x ∧ x ≤ 9223372036854775807) → ∀ m1, m1 = z_upd m g k fz x → X E d j pc' lv st m1 Q) : X E d j pc lv (zi x :: zr g k :: st) m Q :=
  X.putZ pc' fz hi hc hp h8 hk hf hz hx (kk (by omega) _ rfl)
theorem X.iast' (pc' : Nat) {g k N : Nat} {i x : Int} (hi : z_I E j pc = some (.iastore, 1, q, c, ks)) (hc : z_cut ks lv = lv) (hp : pc + 1 = pc') (h8 : ¬ k < 8) (hk : E.2.2.2.1 k = some (.inr (0, N))) (hx : 0 ≤ i ∧ i < N) (kk : (-9223372036854775808 ≤ x ∧ x ≤ 9223372036854775807) → ∀ m1, m1 = z_upd m g k i x → X E d j pc' lv st m1 Q) : X E d j pc lv (zi x :: zi i :: zr g k :: st) m Q := by
  intro g1 g2 g3
  have h : -2147483648 ≤ x ∧ x ≤ 2147483647 := z_hd g2
  exact X.iast pc' hi hc hp h8 hk hx (kk (by omega) _ rfl) g1 g2 g3
theorem X.last' (pc' : Nat) {g k N : Nat} {i x : Int} (hi : z_I E j pc = some (.lastore, 1, q, c, ks)) (hc : z_cut ks lv = lv) (hp : pc + 1 = pc') (h8 : ¬ k < 8) (hk : E.2.2.2.1 k = some (.inr (1, N))) (hx : 0 ≤ i ∧ i < N) (kk : (-9223372036854775808 ≤ x ∧ x ≤ 9223372036854775807) → ∀ m1, m1 = z_upd m g k i x → X E d j pc' lv st m1 Q) : X E d j pc lv (zl x :: zi i :: zr g k :: st) m Q := by
  intro g1 g2 g3
  exact X.last pc' hi hc hp h8 hk hx (kk (z_hd g2) _ rfl) g1 g2 g3
theorem X.bast' (pc' : Nat) {g k N : Nat} {i x : Int} (hi : z_I E j pc = some (.bastore, 1, q, c, ks)) (hc : z_cut ks lv = lv) (hp : pc + 1 = pc') (h8 : ¬ k < 8) (hk : E.2.2.2.1 k = some (.inr (2, N))) (hx : 0 ≤ i ∧ i < N) (hxr : -128 ≤ x ∧ x ≤ 127) (kk : (-9223372036854775808 ≤ x ∧ x ≤ 9223372036854775807) → ∀ m1, m1 = z_upd m g k i x → X E d j pc' lv st m1 Q) : X E d j pc lv (zi x :: zi i :: zr g k :: st) m Q :=
  X.bast pc' hi hc hp h8 hk hx hxr (kk (by omega) _ rfl)
theorem X.zast' (pc' : Nat) {g k N : Nat} {i x : Int} (hi : z_I E j pc = some (.bastore, 1, q, c, ks)) (hc : z_cut ks lv = lv) (hp : pc + 1 = pc') (h8 : ¬ k < 8) (hk : E.2.2.2.1 k = some (.inr (3, N))) (hx : 0 ≤ i ∧ i < N) (hxr : x = 0 ∨ x = 1) (kk : (-9223372036854775808 ≤ x ∧ x ≤ 9223372036854775807) → ∀ m1, m1 = z_upd m g k i x → X E d j pc' lv st m1 Q) : X E d j pc lv (zi x :: zi i :: zr g k :: st) m Q :=
  X.zast pc' hi hc hp h8 hk hx hxr (kk (by omega) _ rfl)
theorem X.cpI' (pc' : Nat) {idx j' na ci g1 k1 g0 k0 N1 N0 : Nat} {n dp sp : Int} (hi : z_I E j pc = some (.invokestatic idx, 3, (j', na, 7, ci), c, ks)) (hc : z_cut ks lv = lv) (hp : pc + 3 = pc') (hd : 12 ≤ d) (hw : z_wd st ≤ 8) (h1 : ¬ k1 < 8) (h0 : ¬ k0 < 8) (hk1 : E.2.2.2.1 k1 = some (.inr (0, N1))) (hk0 : E.2.2.2.1 k0 = some (.inr (0, N0))) (hr : 0 ≤ n ∧ 0 ≤ sp ∧ 0 ≤ dp ∧ sp + n ≤ N0 ∧ dp + n ≤ N1)
    (kk : ∀ m1, m1 = z_cpy m g1 k1 g0 k0 sp dp n → X E d j pc' lv st m1 Q) : X E d j pc lv (zi n :: zi dp :: zr g1 k1 :: zi sp :: zr g0 k0 :: st) m Q :=
  X.cpI pc' hi hc hp hd hw h1 h0 hk1 hk0 hr (kk _ rfl)
theorem X.cpL' (pc' : Nat) {idx j' na ci g1 k1 g0 k0 N1 N0 : Nat} {n dp sp : Int} (hi : z_I E j pc = some (.invokestatic idx, 3, (j', na, 7, ci), c, ks)) (hc : z_cut ks lv = lv) (hp : pc + 3 = pc') (hd : 12 ≤ d) (hw : z_wd st ≤ 8) (h1 : ¬ k1 < 8) (h0 : ¬ k0 < 8) (hk1 : E.2.2.2.1 k1 = some (.inr (1, N1))) (hk0 : E.2.2.2.1 k0 = some (.inr (1, N0))) (hr : 0 ≤ n ∧ 0 ≤ sp ∧ 0 ≤ dp ∧ sp + n ≤ N0 ∧ dp + n ≤ N1)
    (kk : ∀ m1, m1 = z_cpy m g1 k1 g0 k0 sp dp n → X E d j pc' lv st m1 Q) : X E d j pc lv (zi n :: zi dp :: zr g1 k1 :: zi sp :: zr g0 k0 :: st) m Q :=
  X.cpL pc' hi hc hp hd hw h1 h0 hk1 hk0 hr (kk _ rfl)
theorem X.iiF (pc' : Nat) (ins : Instr) (f : Int32 → Int32 → Int32) {x y : Int} (hi : z_I E j pc = some (ins, 1, q, c, ks)) (hc : z_cut ks lv = lv) (hp : pc + 1 = pc') (hk : x_kind ins = 0) (hf : ∀ (st : List Value) (k : List Value → Option xR), x_pure ins 1 st k = x_ii f 1 st k) (kk : ∀ z, (-2147483648 ≤ z ∧ z ≤ 2147483647) → X E d j pc' lv (zi z :: st) m Q) : X E d j pc lv (zi y :: zi x :: st) m Q :=
  X.ii pc' ins f hi hc hp hk hf (kk _ (z_r32 _))
theorem X.llF (pc' : Nat) (ins : Instr) (f : Int64 → Int64 → Int64) {x y : Int} (hi : z_I E j pc = some (ins, 1, q, c, ks)) (hc : z_cut ks lv = lv) (hp : pc + 1 = pc') (hk : x_kind ins = 0) (hf : ∀ (st : List Value) (k : List Value → Option xR), x_pure ins 1 st k = x_ll f 1 st k) (kk : ∀ z, (-9223372036854775808 ≤ z ∧ z ≤ 9223372036854775807) → X E d j pc' lv (zl z :: st) m Q) : X E d j pc lv (zl y :: zl x :: st) m Q :=
  X.ll pc' ins f hi hc hp hk hf (kk _ (z_r64 _))
theorem X.lnegF (pc' : Nat) {x : Int} (hi : z_I E j pc = some (.lneg, 1, q, c, ks)) (hc : z_cut ks lv = lv) (hp : pc + 1 = pc') (kk : ∀ z, (-9223372036854775808 ≤ z ∧ z ≤ 9223372036854775807) → X E d j pc' lv (zl z :: st) m Q) : X E d j pc lv (zl x :: st) m Q :=
  X.num pc' hi hc hp rfl (kk (-Int64.ofInt x).toInt (z_r64 _)) (fun h => ⟨z_cons (z_r64 _) (z_tl h), fun _ => by
    show x_l1 (fun x => -x) 1 (.long (Int64.ofInt x) :: _) _ = _
    simp only [x_l1, if_true]
    rw [List.map_cons, z_vl_toInt]⟩)
theorem X.l2iF (pc' : Nat) {x : Int} (hi : z_I E j pc = some (.l2i, 1, q, c, ks)) (hc : z_cut ks lv = lv) (hp : pc + 1 = pc') (kk : ∀ z, (-2147483648 ≤ z ∧ z ≤ 2147483647) → X E d j pc' lv (zi z :: st) m Q) : X E d j pc lv (zl x :: st) m Q :=
  X.num pc' hi hc hp rfl (kk (Int64.ofInt x).toInt32.toInt (z_r32 _)) (fun h => ⟨z_cons (z_r32 _) (z_tl h), fun _ => by
    show x_l2 (fun x => x.toInt32) 1 (.long (Int64.ofInt x) :: _) _ = _
    simp only [x_l2, if_true]
    rw [List.map_cons, z_vi_toInt]⟩)
theorem X.lshlF (pc' : Nat) {x y : Int} (hi : z_I E j pc = some (.lshl, 1, q, c, ks)) (hc : z_cut ks lv = lv) (hp : pc + 1 = pc') (kk : ∀ z, (-9223372036854775808 ≤ z ∧ z ≤ 9223372036854775807) → X E d j pc' lv (zl z :: st) m Q) : X E d j pc lv (zi y :: zl x :: st) m Q :=
  X.lshl pc' hi hc hp (kk _ (z_r64 _))
theorem X.ldivF (pc' : Nat) {x y : Int} (hi : z_I E j pc = some (.ldiv, 1, q, c, ks)) (hc : z_cut ks lv = lv) (hp : pc + 1 = pc') (hy : 0 < y) (kk : ∀ z, X E d j pc' lv (zl z :: st) m Q) : X E d j pc lv (zl y :: zl x :: st) m Q :=
  X.ldiv pc' hi hc hp hy (kk _)
theorem X.lremF (pc' : Nat) {x y : Int} (hi : z_I E j pc = some (.lrem, 1, q, c, ks)) (hc : z_cut ks lv = lv) (hp : pc + 1 = pc') (hy : 0 < y) (kk : ∀ z, z = x.tmod y → X E d j pc' lv (zl z :: st) m Q) : X E d j pc lv (zl y :: zl x :: st) m Q :=
  X.lrem pc' hi hc hp hy (kk _ rfl)
theorem X.i2bF (pc' : Nat) {x : Int} (hi : z_I E j pc = some (.i2b, 1, q, c, ks)) (hc : z_cut ks lv = lv) (hp : pc + 1 = pc') (kk : ∀ z, (-128 ≤ z ∧ z ≤ 127) → X E d j pc' lv (zi z :: st) m Q) : X E d j pc lv (zi x :: st) m Q :=
  X.i2b pc' hi hc hp (kk _ (by
    have h1 := (Int32.ofInt x).toInt8.toInt_lt
    have h2 := (Int32.ofInt x).toInt8.le_toInt
    omega))
theorem X.iincF (pc' : Nat) {i : Nat} {n x : Int} (hi : z_I E j pc = some (.iinc i n, 3, q, c, ks)) (hc : z_cut ks lv = lv) (hp : pc + 3 = pc') (hg : z_get lv i = some (zi x)) (kk : ∀ z, (-2147483648 ≤ z ∧ z ≤ 2147483647) → X E d j pc' (z_s1 lv i (zi z)) st m Q) : X E d j pc lv st m Q :=
  X.loc pc' hi hc hp rfl (kk (Int32.ofInt x + Int32.ofInt n).toInt (z_r32 _)) (fun h1 h2 => ⟨z_s1_ok h1 (z_r32 _), h2, fun k => by
    show x_inc i n 3 _ _ _ = _
    unfold x_inc
    rw [z_get_lv, hg]
    show k (x_s1 _ i (.int (Int32.ofInt x + Int32.ofInt n))) _ = _
    rw [← z_vi_toInt E.2.2.2, z_s1_lv]⟩)
theorem X.absF (pc' : Nat) {idx j' na ci : Nat} {x : Int} (hi : z_I E j pc = some (.invokestatic idx, 3, (j', na, 14, ci), c, ks)) (hc : z_cut ks lv = lv) (hp : pc + 3 = pc') (hd : 12 ≤ d) (hw : z_wd st ≤ 8) (kk : ∀ z, (-9223372036854775808 ≤ z ∧ z ≤ 9223372036854775807) → X E d j pc' lv (zl z :: st) m Q) : X E d j pc lv (zl x :: st) m Q := by
  subst hp
  refine X.bi (pc + 3) hi hc rfl rfl (kk (if 0 < Int64.ofInt x then Int64.ofInt x else -Int64.ofInt x).toInt (z_r64 _)) (fun h1 h2 => ?_)
  refine ⟨z_cons (z_r64 _) (z_tl h1), h2, fun call k => ?_⟩
  rw [z_biq hd (by decide)]
  show x_low (st.map (z_v E.2.2.2)) (k (pc + 3) (.long (if 0 < Int64.ofInt x then Int64.ofInt x else -Int64.ofInt x) :: _) _) = _
  rw [z_low hw, List.map_cons, z_vl_toInt]
end
def PI (lo hi : Int) (r : Option zV) : Prop := ∃ v, r = some (zi v) ∧ lo ≤ v ∧ v ≤ hi
def PL (r : Option zV) : Prop := ∃ v, r = some (zl v)
def PN (r : Option zV) : Prop := r = none
theorem z_lt_or (a b : Int) : a < b ∨ ¬ a < b := Decidable.em _
end
section
theorem z_mulr {a b c e x y : Int} (hx : a ≤ x ∧ x ≤ b) (hy : c ≤ y ∧ y ≤ e) : min (min (a * c) (a * e)) (min (b * c) (b * e)) ≤ x * y ∧ x * y ≤ max (max (a * c) (a * e)) (max (b * c) (b * e)) := by
  have key : ∀ u v w t : Int, u ≤ v → v ≤ w → (t * u ≤ t * v ∧ t * v ≤ t * w) ∨ (t * w ≤ t * v ∧ t * v ≤ t * u) := by
    intro u v w t h1 h2
    rcases Int.le_total 0 t with ht | ht
    · exact .inl ⟨Int.mul_le_mul_of_nonneg_left h1 ht, Int.mul_le_mul_of_nonneg_left h2 ht⟩
    · exact .inr ⟨Int.mul_le_mul_of_nonpos_left ht h2, Int.mul_le_mul_of_nonpos_left ht h1⟩
  have h1 := key c y e x hy.1 hy.2
  have h2 := key a x b c hx.1 hx.2
  have h3 := key a x b e hx.1 hx.2
  rw [Int.mul_comm c a, Int.mul_comm c x, Int.mul_comm c b] at h2
  rw [Int.mul_comm e a, Int.mul_comm e x, Int.mul_comm e b] at h3
  generalize x * y = p at *
  generalize x * c = p1 at *
  generalize x * e = p2 at *
  generalize a * c = p3 at *
  generalize a * e = p4 at *
  generalize b * c = p5 at *
  generalize b * e = p6 at *
  omega
theorem z_in3 {a b x lo hi : Int} (h : a ≤ x ∧ x ≤ b) (h1 : lo ≤ a) (h2 : b ≤ hi) : lo ≤ x ∧ x ≤ hi := by omega
theorem z_divb {x y : Int} (hx : 0 ≤ x) (hy : 0 < y) : 0 ≤ x / y ∧ x / y ≤ x ∧ x / y * y ≤ x ∧ x < (x / y + 1) * y := by
  have h1 := (z_tdiv_le (x := x) hy).1 hx
  rw [Int.tdiv_eq_ediv_of_nonneg hx] at h1
  have h2 := Int.mul_ediv_add_emod x y
  have h3 := Int.emod_nonneg x (show y ≠ 0 by omega)
  have h4 := Int.emod_lt_of_pos x hy
  rw [Int.mul_comm] at h2
  rw [Int.add_mul, Int.one_mul]
  exact ⟨h1.1, h1.2, by omega, by omega⟩
theorem z_modb {x y : Int} (hx : 0 ≤ x) (hy : 0 < y) : 0 ≤ x % y ∧ x % y ≤ x ∧ x % y < y := ⟨Int.emod_nonneg x (by omega), z_emod_le hx hy, Int.emod_lt_of_pos x hy⟩
theorem z_and_le (a b : Int32) (h : 0 ≤ b.toInt) : 0 ≤ (a &&& b).toInt ∧ (a &&& b).toInt ≤ b.toInt := by
  have e : (a &&& b).toInt = (a.toBitVec &&& b.toBitVec).toInt := rfl
  have hb : b.toInt = b.toBitVec.toInt := rfl
  rw [e, hb]
  rw [hb] at h
  have hm : b.toBitVec.msb = false := by
    rw [BitVec.msb_eq_toInt]
    simp only [decide_eq_false_iff_not]
    omega
  have hn : (a.toBitVec &&& b.toBitVec).msb = false := by rw [BitVec.msb_and, hm, Bool.and_false]
  rw [BitVec.toInt_eq_toNat_of_msb hm, BitVec.toInt_eq_toNat_of_msb hn, BitVec.toNat_and]
  have := @Nat.and_le_right a.toBitVec.toNat b.toBitVec.toNat
  omega
section
variable {E : zE} {d j pc : Nat} {lv : List (Nat × zV)} {st : List zV} {m : zM} {Q : Option zV → zM → Prop} {q : Nat × Nat × Nat × Nat} {c : Value} {ks : Option (List Nat)}
theorem X.andF (pc' : Nat) (n : Int) {x y : Int} (hi : z_I E j pc = some (.iand, 1, q, c, ks)) (hc : z_cut ks lv = lv) (hp : pc + 1 = pc') (hn : 0 ≤ n ∧ n ≤ 2147483647) (hxy : y = n ∨ x = n) (kk : ∀ z, (0 ≤ z ∧ z ≤ n) → X E d j pc' lv (zi z :: st) m Q) : X E d j pc lv (zi y :: zi x :: st) m Q := by
  refine X.ii pc' .iand (fun x y => x &&& y) hi hc hp rfl (fun _ _ => rfl) (kk _ ?_)
  have e := z_32 (x := n) (by omega)
  rcases hxy with rfl | rfl
  · have h := z_and_le (Int32.ofInt x) (Int32.ofInt y) (by rw [e]; omega)
    rw [e] at h
    exact h
  · have h := z_and_le (Int32.ofInt y) (Int32.ofInt x) (by rw [e]; omega)
    rw [e, Int32.and_comm] at h
    exact h
theorem X.getIr (pc' : Nat) (fz : Int) {idx ci fj tg hh g k : Nat} {fs : List zF} (hi : z_I E j pc = some (.getfield idx, 3, (ci, fj, tg, hh), c, ks)) (hc : z_cut ks lv = lv) (hp : pc + 3 = pc') (h8 : ¬ k < 8) (hk : E.2.2.2.1 k = some (.inl (ci, fs))) (hf : fs[fj]? = some (.inl 0)) (hz : (fj : Int) = fz) (kk : (-2147483648 ≤ m g k fz ∧ m g k fz ≤ 2147483647) → X E d j pc' lv (zi (m g k fz) :: st) m Q) : X E d j pc lv (zr g k :: st) m Q := by
  intro g1 g2 g3
  have hv := z_kind_ne (z_hd g2) h8
  have hm := g3 g k hv
  unfold z_ck at hm
  rw [hk] at hm
  have hb := (hm fj _ hf).1
  rw [hz] at hb
  exact X.getI pc' fz hi hc hp h8 hk hf hz (kk hb) g1 g2 g3
theorem X.ialdr (pc' : Nat) {g k N : Nat} {i : Int} (hi : z_I E j pc = some (.iaload, 1, q, c, ks)) (hc : z_cut ks lv = lv) (hp : pc + 1 = pc') (h8 : ¬ k < 8) (hk : E.2.2.2.1 k = some (.inr (0, N))) (hx : 0 ≤ i ∧ i < N) (kk : (-2147483648 ≤ m g k i ∧ m g k i ≤ 2147483647) → X E d j pc' lv (zi (m g k i) :: st) m Q) : X E d j pc lv (zi i :: zr g k :: st) m Q := by
  intro g1 g2 g3
  have hv := z_kind_ne (z_hd (z_tl g2)) h8
  have hz : -2147483648 ≤ m g k i ∧ m g k i ≤ 2147483647 := z_rgi g3 hv hk hx.1 hx.2
  exact X.iald pc' hi hc hp h8 hk hx (kk hz) g1 g2 g3
end
theorem z_roB {s : Nat × (Nat → Int32)} {p : Nat} {i : Int} (hp : p = 1 ∨ p = 2 ∨ p = 3) : 0 ≤ z_ro (EE s) p i ∧ z_ro (EE s) p i ≤ 1000000 := by
  have key : ∀ (l : List Int32), (l.all fun x => decide (0 ≤ x.toInt ∧ x.toInt ≤ 1000000)) = true → ∀ n : Nat, 0 ≤ (l.getD n 0).toInt ∧ (l.getD n 0).toInt ≤ 1000000 := by
    intro l hl n
    rw [List.getD_eq_getElem?_getD]
    cases h : l[n]? with
    | none => exact ⟨by decide, by decide⟩
    | some x =>
      have h1 := List.all_eq_true.mp hl x (List.mem_of_getElem? h)
      exact of_decide_eq_true h1
  rcases hp with rfl | rfl | rfl
  · exact key sA1 (by decide) _
  · exact key sA2 (by decide) _
  · exact key sA3 (by decide) _
theorem J.cpy {S : zS} {m0 m m1 : zM} {B : Int} {g1 k1 g0 k0 f : Nat} {sp dp n : Int} (h : J S m0 B m) (hm : m1 = z_cpy m g1 k1 g0 k0 sp dp n) (hb : ∀ i, dp ≤ i ∧ i < dp + n → jl k1 i ≤ m g0 k0 (i - dp + sp) ∧ m g0 k0 (i - dp + sp) ≤ jh B k1 i) (ha : ∀ i, dp ≤ i ∧ i < dp + n → ja k1 i = f) (hk : k1 ≠ 44) (hf : ¬ S.1 f) (hg : ¬ S.2.1 g1) : J S m0 B m1 := by
  subst hm
  have key : ∀ (g : Nat) (i : Int), z_cpy m g1 k1 g0 k0 sp dp n g 44 i = m g 44 i := by
    intro g i
    unfold z_cpy
    rw [if_neg]
    exact fun e => hk e.2.1.symm
  refine ⟨fun g k i hq => ?_, fun g k i h9 => ?_⟩
  · unfold z_cpy
    split
    · rename_i e
      obtain ⟨rfl, rfl, e1, e2⟩ := e
      exact hb i ⟨e1, e2⟩
    · exact h.1 g k i (fun e1 e2 e3 => by
        have h5 := hq e1 e2 e3
        rw [key] at h5
        exact h5)
  · unfold z_cpy
    split
    · rename_i e
      obtain ⟨rfl, rfl, e1, e2⟩ := e
      rw [ha i ⟨e1, e2⟩] at h9
      exact absurd h9 (fun h9 => h9.elim hf hg)
    · exact h.2 g k i h9
/-- a row that is of one part of the state as a whole -/
def jw (k f : Nat) (n : Int) : Bool := match jp k with
  | [q] => decide (q.1 = 0 ∧ n ≤ q.2.1 + 1 ∧ q.2.2.1 = (f : Int))
  | _ => false
theorem jw_ja {k f : Nat} {n i : Int} (h : jw k f n = true) (hi : 0 ≤ i ∧ i < n) : ja k i = f := by
  unfold jw at h
  split at h
  · rename_i q e
    have h := of_decide_eq_true h
    unfold ja
    rw [e]
    unfold jf
    rw [if_pos (by omega)]
    show q.2.2.1.toNat = f
    omega
  · cases h
theorem J.cpyS {S : zS} {m0 m m1 : zM} {B : Int} {g1 k g0 f : Nat} {n : Int} (h : J S m0 B m) (hm : m1 = z_cpy m g1 k g0 k 0 0 n) (hw : jw k f n = true) (hf : ¬ S.1 f) (hg : ¬ S.2.1 g1) (hk : k ≠ 44 := by decide) (hv : decide (k = 46 ∨ k = 47) = false := by rfl) : J S m0 B m1 :=
  h.cpy hm (fun i _ => by
    rw [show i - 0 + 0 = i by omega]
    exact h.1 g0 k i (jq_of hv)) (fun i hi => jw_ja hw (by omega)) hk hf hg
theorem J.cpyF {S : zS} {m0 m m1 : zM} {B : Int} {g1 k1 g0 k0 f : Nat} {sp dp n : Int} (h : J S m0 B m) (hm : m1 = z_cpy m g1 k1 g0 k0 sp dp n) (h1 : jb k1 = []) (h0 : jb k0 = []) (hw : ∀ i, dp ≤ i ∧ i < dp + n → ja k1 i = f) (hf : ¬ S.1 f) (hg : ¬ S.2.1 g1) (hk : k1 ≠ 44 := by decide) (hv : decide (k0 = 46 ∨ k0 = 47) = false := by rfl) : J S m0 B m1 :=
  h.cpy hm (fun i _ => by
    have h9 := h.1 g0 k0 (i - dp + sp) (jq_of hv)
    unfold jl jh at h9 ⊢
    rw [h0] at h9
    rw [h1]
    exact h9) hw hk hf hg
theorem J.cpyP {S : zS} {m0 m m1 : zM} {B : Int} {g1 g0 : Nat} {sp dp n : Int} (h : J S m0 B m) (hm : m1 = z_cpy m g1 10 g0 43 sp dp n) (hr : 0 ≤ sp ∧ sp + n ≤ 4 ∧ 6 ≤ dp ∧ dp + n ≤ 13) (hf : ¬ S.1 3) (hg : ¬ S.2.1 g1) : J S m0 B m1 :=
  h.cpy hm (fun i hi => by
    have h9 := r43_0 h g0 (i := i - dp + sp) (by omega)
    unfold jl jh
    rw [jf_at (show 6 ≤ i ∧ i ≤ 12 by omega) 2 (jb 10) rfl rfl]
    show (0 : Int) ≤ _ ∧ _ ≤ (1000000 : Int)
    omega) (fun i hi => ja_at (show 0 ≤ i ∧ i ≤ 12 by omega) 0 rfl rfl rfl) (by decide) hf hg
theorem z_ro5 {s : Nat × (Nat → Int32)} {p : Nat} {i : Int} (hp : p = 1 ∨ p = 2 ∨ p = 3) : (p = 2 → i = 5 → 1 ≤ z_ro (EE s) p i) ∧ (p = 3 → i = 5 → z_ro (EE s) p i ≤ 6) := by
  refine ⟨?_, ?_⟩
  · rintro rfl rfl
    show (1 : Int) ≤ (sA2.getD 5 0).toInt
    decide
  · rintro rfl rfl
    show (sA3.getD 5 0).toInt ≤ (6 : Int)
    decide
theorem z_upd_o (m : zM) {g k : Nat} {i : Int} (x : Int) {g' k' : Nat} {i' : Int} (h : decide (k' = k ∧ i' = i) = false) : z_upd m g k i x g' k' i' = m g' k' i' := by
  unfold z_upd
  rw [if_neg]
  intro e
  simp only [decide_eq_false_iff_not] at h
  exact h e.2
theorem z_cpy_o {m : zM} {g1 k1 g0 k0 : Nat} {sp dp n : Int} {g k : Nat} {i : Int} (h : decide (k = k1) = false) : z_cpy m g1 k1 g0 k0 sp dp n g k i = m g k i := by
  unfold z_cpy
  rw [if_neg]
  intro e
  simp only [decide_eq_false_iff_not] at h
  exact h e.2.1
section
variable {E : zE} {d j pc : Nat} {lv : List (Nat × zV)} {st : List zV} {m : zM} {Q : Option zV → zM → Prop} {q : Nat × Nat × Nat × Nat} {c : Value} {ks : Option (List Nat)}
theorem X.ldivZ (pc' : Nat) {x y : Int} (hi : z_I E j pc = some (.ldiv, 1, q, c, ks)) (hc : z_cut ks lv = lv) (hp : pc + 1 = pc') (hy : y ≠ 0) (kk : ∀ z, (-9223372036854775808 ≤ z ∧ z ≤ 9223372036854775807) → X E d j pc' lv (zl z :: st) m Q) : X E d j pc lv (zl y :: zl x :: st) m Q :=
  X.num pc' hi hc hp rfl (kk (Int64.ofInt x / Int64.ofInt y).toInt (z_r64 _)) (fun h => by
    have hy1 : -9223372036854775808 ≤ y ∧ y ≤ 9223372036854775807 := z_hd h
    refine ⟨z_cons (z_r64 _) (z_tl (z_tl h)), fun _ => ?_⟩
    show x_ld (fun x y => x / y) 1 (.long (Int64.ofInt y) :: .long (Int64.ofInt x) :: _) _ = _
    simp only [x_ld, if_true, if_neg (z_ne64 hy1 hy)]
    rw [List.map_cons, z_vl_toInt])
theorem X.lremZ (pc' : Nat) {x y : Int} (hi : z_I E j pc = some (.lrem, 1, q, c, ks)) (hc : z_cut ks lv = lv) (hp : pc + 1 = pc') (hy : y ≠ 0) (kk : ∀ z, (-9223372036854775808 ≤ z ∧ z ≤ 9223372036854775807) → X E d j pc' lv (zl z :: st) m Q) : X E d j pc lv (zl y :: zl x :: st) m Q :=
  X.num pc' hi hc hp rfl (kk (Int64.ofInt x - Int64.ofInt x / Int64.ofInt y * Int64.ofInt y).toInt (z_r64 _)) (fun h => by
    have hy1 : -9223372036854775808 ≤ y ∧ y ≤ 9223372036854775807 := z_hd h
    refine ⟨z_cons (z_r64 _) (z_tl (z_tl h)), fun _ => ?_⟩
    show x_ld (fun x y => x - x / y * y) 1 (.long (Int64.ofInt y) :: .long (Int64.ofInt x) :: _) _ = _
    simp only [x_ld, if_true, if_neg (z_ne64 hy1 hy)]
    rw [List.map_cons, z_vl_toInt])
theorem X.idivT (pc' : Nat) {x y : Int} (hi : z_I E j pc = some (.idiv, 1, q, c, ks)) (hc : z_cut ks lv = lv) (hp : pc + 1 = pc') (hy : 0 < y ∧ y ≤ 2147483647) (kk : ∀ z, (0 ≤ x → z = x / y) ∧ (x < 0 → z ≤ 0 ∧ x ≤ z * y) → X E d j pc' lv (zi z :: st) m Q) : X E d j pc lv (zi y :: zi x :: st) m Q := by
  refine X.num pc' hi hc hp rfl (kk (x.tdiv y) ⟨fun h => Int.tdiv_eq_ediv_of_nonneg h, fun h => ?_⟩) (fun h => ?_)
  · have h1 := (z_tdiv_le (x := x) hy.1).2 (by omega)
    refine ⟨h1.2, ?_⟩
    have h2 := Int.tmod_add_mul_tdiv x y
    have h3 := (z_tmod_le (x := x) hy.1).2 (by omega)
    rw [Int.mul_comm] at h2
    omega
  · have hx1 : -2147483648 ≤ x ∧ x ≤ 2147483647 := z_hd (z_tl h)
    have hy1 : -2147483648 ≤ y ∧ y ≤ 2147483647 := z_hd h
    have h1 := z_tdiv_le (x := x) hy.1
    refine ⟨z_cons (show -2147483648 ≤ x.tdiv y ∧ x.tdiv y ≤ 2147483647 by rcases Int.le_total 0 x with h2 | h2 <;> omega) (z_tl (z_tl h)), fun _ => ?_⟩
    show x_id (fun x y => x / y) 1 (.int (Int32.ofInt y) :: .int (Int32.ofInt x) :: _) _ = _
    simp only [x_id, if_true, if_neg (z_ne32 hy1 (by omega)), z_div32 hx1 hy1]; rfl
theorem X.iremT (pc' : Nat) {x y : Int} (hi : z_I E j pc = some (.irem, 1, q, c, ks)) (hc : z_cut ks lv = lv) (hp : pc + 1 = pc') (hy : 0 < y ∧ y ≤ 2147483647) (kk : ∀ z, (0 ≤ x → z = x % y) ∧ (x < 0 → z ≤ 0 ∧ x ≤ z) → X E d j pc' lv (zi z :: st) m Q) : X E d j pc lv (zi y :: zi x :: st) m Q := by
  refine X.num pc' hi hc hp rfl (kk (x.tmod y) ⟨fun h => Int.tmod_eq_emod_of_nonneg h, fun h => ?_⟩) (fun h => ?_)
  · have h3 := (z_tmod_le (x := x) hy.1).2 (by omega)
    omega
  · have hx1 : -2147483648 ≤ x ∧ x ≤ 2147483647 := z_hd (z_tl h)
    have hy1 : -2147483648 ≤ y ∧ y ≤ 2147483647 := z_hd h
    have h1 := z_tmod_le (x := x) hy.1
    refine ⟨z_cons (show -2147483648 ≤ x.tmod y ∧ x.tmod y ≤ 2147483647 by rcases Int.le_total 0 x with h2 | h2 <;> omega) (z_tl (z_tl h)), fun _ => ?_⟩
    show x_id (fun x y => x - x / y * y) 1 (.int (Int32.ofInt y) :: .int (Int32.ofInt x) :: _) _ = _
    simp only [x_id, if_true, if_neg (z_ne32 hy1 (by omega)), z_rem32 hx1 hy1]; rfl
end
theorem z_upd_upd (m : zM) (g k : Nat) (i x y : Int) : z_upd (z_upd m g k i x) g k i y = z_upd m g k i y := by
  funext g' k' i'
  unfold z_upd
  split <;> rfl
theorem r10_all {S : zS} {m0 m : zM} {B i : Int} (h : J S m0 B m) (g : Nat) (hi : 0 ≤ i ∧ i ≤ 12) : 0 ≤ m g 10 i ∧ m g 10 i ≤ 1000000 := by
  by_cases h1 : i ≤ 4
  · exact r10_0 h g (i := i) (by omega)
  · by_cases h2 : i = 5
    · subst h2
      have := r10_5 h g
      omega
    · exact r10_6 h g (i := i) (by omega)
end
section
theorem w10_all {S : zS} {m0 m m1 : zM} {B i x : Int} {g : Nat} (h : J S m0 B m) (hm : m1 = z_upd m g 10 i x) (hi : 0 ≤ i ∧ i ≤ 12) (hx : 0 ≤ x ∧ x ≤ 1000000) (h5 : i = 5 → 1 ≤ x ∧ x ≤ 6) (hf : ¬ S.1 3) (hg : ¬ S.2.1 g) : J S m0 B m1 := by
  by_cases h1 : i ≤ 4
  · exact w10_0 h hm (by omega) (by omega) hf hg
  · by_cases h2 : i = 5
    · rw [h2] at hm
      exact w10_5 h hm (h5 h2) hf hg
    · exact w10_6 h hm (by omega) (by omega) hf hg
end
section
section
variable {S : zS} {m0 m m1 : zM} {B : Int} {g k : Nat} {i : Int}
/-- the store that says that there is an image -/
theorem J.img {x : Int} (h : J S m0 B m) (hm : m1 = z_upd m 4 44 3 x) (hx : 0 ≤ x ∧ x ≤ 1) (hi : S.2.2.2 ∨ m 4 44 3 = 1 ∨ x = 0) (hf : ¬ S.1 34) (hg : ¬ S.2.1 4) : J S m0 B m1 := by
  subst hm
  refine ⟨fun g' k' i' hq => ?_, fun g' k' i' h9 => ?_⟩
  · unfold z_upd
    split
    · rename_i e
      obtain ⟨rfl, rfl, rfl⟩ := e
      unfold jl jh
      rw [jf_at (show (3 : Int) ≤ 3 ∧ (3 : Int) ≤ 3 by omega) 0 (jb 44) rfl rfl]
      exact hx
    · refine h.1 g' k' i' (fun e1 e2 e3 => ⟨fun e => (hq e1 e2 e3).1 e, fun e => ?_⟩)
      rcases (hq e1 e2 e3).2 e with h1 | h1
      · exact .inl h1
      · have h2 : z_upd m 4 44 3 x 4 44 3 = x := by
          unfold z_upd
          rw [if_pos ⟨rfl, rfl, rfl⟩]
        rw [h2] at h1
        rcases hi with h3 | h3 | h3
        · exact .inl h3
        · exact .inr h3
        · omega
  · unfold z_upd
    split
    · rename_i e
      obtain ⟨rfl, rfl, rfl⟩ := e
      rw [ja_at (show (3 : Int) ≤ 3 ∧ (3 : Int) ≤ 3 by omega) 1 rfl rfl rfl] at h9
      exact absurd h9 (fun h9 => h9.elim hf hg)
    · exact h.2 g' k' i' h9
theorem J.cp {kf kt : Nat} {F G : Nat → Prop} {p q p' q' : Prop} (h : J (F, G, p, q) m0 B m) (hb : jb kt = jb kf) (hf : jq (F, G, p, q) m 4 kf 0) (hk : kt ≠ 44) (h2 : ∀ k, k ≠ kt → (k = 46 → p' → p) ∧ (k = 47 → q' → q)) (hF : ∀ i, 0 ≤ i ∧ i < 1619 → ¬ F (ja kt i)) (hG : ¬ G 4) : J (F, G, p', q') m0 B (z_cpy m 4 kt 4 kf 0 0 1619) := by
  have key : ∀ (g : Nat) (i : Int), z_cpy m 4 kt 4 kf 0 0 1619 g 44 i = m g 44 i := by
    intro g i
    unfold z_cpy
    rw [if_neg]
    exact fun e => hk e.2.1.symm
  refine ⟨fun g k i hq => ?_, fun g k i h9 => ?_⟩
  · unfold z_cpy
    split
    · rename_i e
      obtain ⟨rfl, rfl, e1, e2⟩ := e
      rw [show i - 0 + 0 = i by omega]
      have h3 := h.1 4 kf i (fun _ _ _ => hf rfl (by omega) (by omega))
      unfold jl jh at h3 ⊢
      rw [hb]
      exact h3
    · rename_i hne
      refine h.1 g k i (fun e1 e2 e3 => ?_)
      have hkt : k ≠ kt := fun e => hne ⟨e1, e, e2, by omega⟩
      have h3 := hq e1 e2 e3
      rw [key] at h3
      exact ⟨fun e => (h2 k hkt).1 e (h3.1 e), fun e => (h3.2 e).imp ((h2 k hkt).2 e) id⟩
  · unfold z_cpy
    split
    · rename_i e
      obtain ⟨rfl, rfl, e1, e2⟩ := e
      exact absurd h9 (fun h9 => h9.elim (hF i ⟨e1, by omega⟩) hG)
    · exact h.2 g k i h9
end
theorem z_cp_step (m : zM) {kf kt : Nat} (hk : kf ≠ kt) {y : Int} (hy : 0 ≤ y) : z_upd (z_cpy m 4 kt 4 kf 0 0 y) 4 kt y (z_cpy m 4 kt 4 kf 0 0 y 4 kf y) = z_cpy m 4 kt 4 kf 0 0 (y + 1) := by
  have h0 : z_cpy m 4 kt 4 kf 0 0 y 4 kf y = m 4 kf y := by
    unfold z_cpy
    rw [if_neg]
    exact fun e => hk e.2.1
  rw [h0]
  funext g k i
  unfold z_upd z_cpy
  by_cases h1 : g = 4 ∧ k = kt
  · obtain ⟨rfl, rfl⟩ := h1
    by_cases h2 : i = y
    · subst h2
      rw [if_pos ⟨rfl, rfl, rfl⟩, if_pos ⟨rfl, rfl, hy, by omega⟩]
      rw [show i - 0 + 0 = i by omega]
    · rw [if_neg (fun e => h2 e.2.2)]
      by_cases h3 : 0 ≤ i ∧ i < 0 + y
      · rw [if_pos ⟨rfl, rfl, h3.1, h3.2⟩, if_pos ⟨rfl, rfl, h3.1, by omega⟩]
      · rw [if_neg (fun e => h3 e.2.2), if_neg (fun e => h3 ⟨e.2.2.1, by omega⟩)]
  · rw [if_neg (fun e => h1 ⟨e.1, e.2.1⟩), if_neg (fun e => h1 ⟨e.1, e.2.1⟩), if_neg (fun e => h1 ⟨e.1, e.2.1⟩)]
theorem z_cp_zero (m : zM) {kf kt : Nat} : z_cpy m 4 kt 4 kf 0 0 0 = m := by
  funext g k i
  unfold z_cpy
  rw [if_neg (fun e => by omega)]
theorem l_cp_45_46 {s : Nat × (Nat → Int32)} {d : Nat} {Q : Option zV → zM → Prop} {m : zM}
    (K : X (EE s) d 261 21 [] [] (z_cpy m 4 46 4 45 0 0 1619) Q) :
    ∀ (n : Nat) (y : Int), 0 ≤ y ∧ y ≤ 1619 → 1619 - y < (n : Int) → X (EE s) d 261 2 [(0, zr 4 45), (1, zr 4 46), (2, zi y)] [] (z_cpy m 4 46 4 45 0 0 y) Q := by
  intro n
  induction n with
  | zero =>
    intro y hy hn
    exfalso
    omega
  | succ n ih =>
    intro y hy hn
    refine X.iload_n 3 (zi261 2) rfl rfl rfl ?_
    refine X.sipush 6 (zi261 3) rfl rfl (by decide) ?_
    refine X.icmpge 21 9 (zi261 6) rfl rfl rfl (fun h1 => ?_) (fun h1 => ?_)
    · refine X.cut [] (zi261 21) rfl ?_
      have e : y = 1619 := by omega
      rw [e]
      exact K
    · refine X.aload_n 10 (zi261 9) rfl rfl rfl ?_
      refine X.iload_n 11 (zi261 10) rfl rfl rfl ?_
      refine X.aload_n 12 (zi261 11) rfl rfl rfl ?_
      refine X.iload_n 13 (zi261 12) rfl rfl rfl ?_
      refine X.lald 14 (zi261 13) rfl rfl (by decide) rfl (by omega) ?_
      refine X.last' 15 (zi261 14) rfl rfl (by decide) rfl (by omega) (fun hr m1 hm1 => ?_)
      rw [z_cp_step m (by decide) hy.1] at hm1
      subst hm1
      refine X.iinc 18 [(0, zr 4 45), (1, zr 4 46), (2, zi (y + 1))] (zi261 15) rfl rfl rfl (by omega) rfl ?_
      refine X.goto 2 (zi261 18) rfl rfl ?_
      exact ih (y + 1) (by omega) (by omega)
theorem c_cq_45_46 {s : Nat × (Nat → Int32)} {S : zS} {m0 m : zM} {B : Int} {d : Nat} {Q : Option zV → zM → Prop} (_hd : 13 ≤ d) (hJ : J S m0 B m) (hf38 : ¬ S.1 38) (hg : ¬ S.2.1 4)
    (hQ : ∀ m', (m' = z_cpy m 4 46 4 45 0 0 1619) → J (S.1, S.2.1, True, S.2.2.2) m0 B m' → Q none m') : X (EE s) d 261 0 [(0, zr 4 45), (1, zr 4 46)] [] m Q := by
  refine X.iconst 1 (zi261 0) rfl rfl (by decide) ?_
  refine X.istore_n 2 [(0, zr 4 45), (1, zr 4 46), (2, zi 0)] (zi261 1) rfl rfl rfl ?_
  have h := l_cp_45_46 (s := s) (d := d) (Q := Q) (m := m) (by
    refine X.retv (zi261 21) rfl t261 ?_
    exact hQ _ rfl (J.cp (F := S.1) (G := S.2.1) (p := S.2.2.1) (q := S.2.2.2) hJ rfl (fun _ _ _ => ⟨fun e => absurd e (by decide), fun e => absurd e (by decide)⟩) (by decide) (fun k hk => ⟨fun e => absurd e hk, fun _ h => h⟩) (fun i hi => by
      show ¬ S.1 (ja 46 i)
      rw [ja_at (show (0 : Int) ≤ i ∧ i ≤ 1618 by omega) 0 rfl rfl rfl]; exact hf38) hg)) 1620 0 (by omega) (by omega)
  rw [z_cp_zero] at h
  exact h
theorem l_cp_46_45 {s : Nat × (Nat → Int32)} {d : Nat} {Q : Option zV → zM → Prop} {m : zM}
    (K : X (EE s) d 261 21 [] [] (z_cpy m 4 45 4 46 0 0 1619) Q) :
    ∀ (n : Nat) (y : Int), 0 ≤ y ∧ y ≤ 1619 → 1619 - y < (n : Int) → X (EE s) d 261 2 [(0, zr 4 46), (1, zr 4 45), (2, zi y)] [] (z_cpy m 4 45 4 46 0 0 y) Q := by
  intro n
  induction n with
  | zero =>
    intro y hy hn
    exfalso
    omega
  | succ n ih =>
    intro y hy hn
    refine X.iload_n 3 (zi261 2) rfl rfl rfl ?_
    refine X.sipush 6 (zi261 3) rfl rfl (by decide) ?_
    refine X.icmpge 21 9 (zi261 6) rfl rfl rfl (fun h1 => ?_) (fun h1 => ?_)
    · refine X.cut [] (zi261 21) rfl ?_
      have e : y = 1619 := by omega
      rw [e]
      exact K
    · refine X.aload_n 10 (zi261 9) rfl rfl rfl ?_
      refine X.iload_n 11 (zi261 10) rfl rfl rfl ?_
      refine X.aload_n 12 (zi261 11) rfl rfl rfl ?_
      refine X.iload_n 13 (zi261 12) rfl rfl rfl ?_
      refine X.lald 14 (zi261 13) rfl rfl (by decide) rfl (by omega) ?_
      refine X.last' 15 (zi261 14) rfl rfl (by decide) rfl (by omega) (fun hr m1 hm1 => ?_)
      rw [z_cp_step m (by decide) hy.1] at hm1
      subst hm1
      refine X.iinc 18 [(0, zr 4 46), (1, zr 4 45), (2, zi (y + 1))] (zi261 15) rfl rfl rfl (by omega) rfl ?_
      refine X.goto 2 (zi261 18) rfl rfl ?_
      exact ih (y + 1) (by omega) (by omega)
theorem c_cq_46_45 {s : Nat × (Nat → Int32)} {S : zS} {m0 m : zM} {B : Int} {d : Nat} {Q : Option zV → zM → Prop} (_hd : 13 ≤ d) (hJ : J S m0 B m) (hc : S.2.2.1) (hf21 : ¬ S.1 21) (hf22 : ¬ S.1 22) (hf23 : ¬ S.1 23) (hf24 : ¬ S.1 24) (hf25 : ¬ S.1 25) (hf26 : ¬ S.1 26) (hf27 : ¬ S.1 27) (hf28 : ¬ S.1 28) (hf29 : ¬ S.1 29) (hf30 : ¬ S.1 30) (hf31 : ¬ S.1 31) (hf32 : ¬ S.1 32) (hf33 : ¬ S.1 33) (hg : ¬ S.2.1 4)
    (hQ : ∀ m', (m' = z_cpy m 4 45 4 46 0 0 1619) → J S m0 B m' → Q none m') : X (EE s) d 261 0 [(0, zr 4 46), (1, zr 4 45)] [] m Q := by
  refine X.iconst 1 (zi261 0) rfl rfl (by decide) ?_
  refine X.istore_n 2 [(0, zr 4 46), (1, zr 4 45), (2, zi 0)] (zi261 1) rfl rfl rfl ?_
  have h := l_cp_46_45 (s := s) (d := d) (Q := Q) (m := m) (by
    refine X.retv (zi261 21) rfl t261 ?_
    exact hQ _ rfl (J.cp (F := S.1) (G := S.2.1) (p := S.2.2.1) (q := S.2.2.2) hJ rfl (fun _ _ _ => ⟨fun _ => hc, fun e => absurd e (by decide)⟩) (by decide) (fun k hk => ⟨fun _ h => h, fun _ h => h⟩) (fun i hi => by
      show ¬ S.1 (ja 45 i)
      rcases (show (0 ≤ i ∧ i ≤ 0) ∨ (1 ≤ i ∧ i ≤ 3) ∨ (4 ≤ i ∧ i ≤ 9) ∨ (10 ≤ i ∧ i ≤ 12) ∨ (13 ≤ i ∧ i ≤ 15) ∨ (16 ≤ i ∧ i ≤ 16) ∨ (17 ≤ i ∧ i ≤ 17) ∨ (18 ≤ i ∧ i ≤ 18) ∨ (19 ≤ i ∧ i ≤ 20) ∨ (21 ≤ i ∧ i ≤ 27) ∨ (28 ≤ i ∧ i ≤ 31) ∨ (32 ≤ i ∧ i ≤ 39) ∨ (40 ≤ i ∧ i ≤ 59) ∨ (60 ≤ i ∧ i ≤ 94) ∨ (95 ≤ i ∧ i ≤ 286) ∨ (287 ≤ i ∧ i ≤ 787) ∨ (788 ≤ i ∧ i ≤ 1171) ∨ (1172 ≤ i ∧ i ≤ 1486) ∨ (1487 ≤ i ∧ i ≤ 1606) ∨ (1607 ≤ i ∧ i ≤ 1610) ∨ (1611 ≤ i ∧ i ≤ 1613) ∨ (1614 ≤ i ∧ i ≤ 1618) by omega) with e | e | e | e | e | e | e | e | e | e | e | e | e | e | e | e | e | e | e | e | e | e
      · rw [ja_at e 0 rfl rfl rfl]; exact hf31
      · rw [ja_at e 1 rfl rfl rfl]; exact hf22
      · rw [ja_at e 2 rfl rfl rfl]; exact hf23
      · rw [ja_at e 3 rfl rfl rfl]; exact hf32
      · rw [ja_at e 4 rfl rfl rfl]; exact hf33
      · rw [ja_at e 5 rfl rfl rfl]; exact hf26
      · rw [ja_at e 6 rfl rfl rfl]; exact hf27
      · rw [ja_at e 7 rfl rfl rfl]; exact hf25
      · rw [ja_at e 8 rfl rfl rfl]; exact hf28
      · rw [ja_at e 9 rfl rfl rfl]; exact hf27
      · rw [ja_at e 10 rfl rfl rfl]; exact hf23
      · rw [ja_at e 11 rfl rfl rfl]; exact hf28
      · rw [ja_at e 12 rfl rfl rfl]; exact hf29
      · rw [ja_at e 13 rfl rfl rfl]; exact hf30
      · rw [ja_at e 14 rfl rfl rfl]; exact hf22
      · rw [ja_at e 15 rfl rfl rfl]; exact hf21
      · rw [ja_at e 16 rfl rfl rfl]; exact hf27
      · rw [ja_at e 17 rfl rfl rfl]; exact hf25
      · rw [ja_at e 18 rfl rfl rfl]; exact hf26
      · rw [ja_at e 19 rfl rfl rfl]; exact hf27
      · rw [ja_at e 20 rfl rfl rfl]; exact hf23
      · rw [ja_at e 21 rfl rfl rfl]; exact hf24) hg)) 1620 0 (by omega) (by omega)
  rw [z_cp_zero] at h
  exact h
theorem l_cp_45_47 {s : Nat × (Nat → Int32)} {d : Nat} {Q : Option zV → zM → Prop} {m : zM}
    (K : X (EE s) d 261 21 [] [] (z_cpy m 4 47 4 45 0 0 1619) Q) :
    ∀ (n : Nat) (y : Int), 0 ≤ y ∧ y ≤ 1619 → 1619 - y < (n : Int) → X (EE s) d 261 2 [(0, zr 4 45), (1, zr 4 47), (2, zi y)] [] (z_cpy m 4 47 4 45 0 0 y) Q := by
  intro n
  induction n with
  | zero =>
    intro y hy hn
    exfalso
    omega
  | succ n ih =>
    intro y hy hn
    refine X.iload_n 3 (zi261 2) rfl rfl rfl ?_
    refine X.sipush 6 (zi261 3) rfl rfl (by decide) ?_
    refine X.icmpge 21 9 (zi261 6) rfl rfl rfl (fun h1 => ?_) (fun h1 => ?_)
    · refine X.cut [] (zi261 21) rfl ?_
      have e : y = 1619 := by omega
      rw [e]
      exact K
    · refine X.aload_n 10 (zi261 9) rfl rfl rfl ?_
      refine X.iload_n 11 (zi261 10) rfl rfl rfl ?_
      refine X.aload_n 12 (zi261 11) rfl rfl rfl ?_
      refine X.iload_n 13 (zi261 12) rfl rfl rfl ?_
      refine X.lald 14 (zi261 13) rfl rfl (by decide) rfl (by omega) ?_
      refine X.last' 15 (zi261 14) rfl rfl (by decide) rfl (by omega) (fun hr m1 hm1 => ?_)
      rw [z_cp_step m (by decide) hy.1] at hm1
      subst hm1
      refine X.iinc 18 [(0, zr 4 45), (1, zr 4 47), (2, zi (y + 1))] (zi261 15) rfl rfl rfl (by omega) rfl ?_
      refine X.goto 2 (zi261 18) rfl rfl ?_
      exact ih (y + 1) (by omega) (by omega)
theorem c_cq_45_47 {s : Nat × (Nat → Int32)} {S : zS} {m0 m : zM} {B : Int} {d : Nat} {Q : Option zV → zM → Prop} (_hd : 13 ≤ d) (hJ : J S m0 B m) (hf37 : ¬ S.1 37) (hg : ¬ S.2.1 4)
    (hQ : ∀ m', (m' = z_cpy m 4 47 4 45 0 0 1619) → J (S.1, S.2.1, S.2.2.1, True) m0 B m' → Q none m') : X (EE s) d 261 0 [(0, zr 4 45), (1, zr 4 47)] [] m Q := by
  refine X.iconst 1 (zi261 0) rfl rfl (by decide) ?_
  refine X.istore_n 2 [(0, zr 4 45), (1, zr 4 47), (2, zi 0)] (zi261 1) rfl rfl rfl ?_
  have h := l_cp_45_47 (s := s) (d := d) (Q := Q) (m := m) (by
    refine X.retv (zi261 21) rfl t261 ?_
    exact hQ _ rfl (J.cp (F := S.1) (G := S.2.1) (p := S.2.2.1) (q := S.2.2.2) hJ rfl (fun _ _ _ => ⟨fun e => absurd e (by decide), fun e => absurd e (by decide)⟩) (by decide) (fun k hk => ⟨fun _ h => h, fun e => absurd e hk⟩) (fun i hi => by
      show ¬ S.1 (ja 47 i)
      rw [ja_at (show (0 : Int) ≤ i ∧ i ≤ 1618 by omega) 0 rfl rfl rfl]; exact hf37) hg)) 1620 0 (by omega) (by omega)
  rw [z_cp_zero] at h
  exact h
theorem l_cp_47_45 {s : Nat × (Nat → Int32)} {d : Nat} {Q : Option zV → zM → Prop} {m : zM}
    (K : X (EE s) d 261 21 [] [] (z_cpy m 4 45 4 47 0 0 1619) Q) :
    ∀ (n : Nat) (y : Int), 0 ≤ y ∧ y ≤ 1619 → 1619 - y < (n : Int) → X (EE s) d 261 2 [(0, zr 4 47), (1, zr 4 45), (2, zi y)] [] (z_cpy m 4 45 4 47 0 0 y) Q := by
  intro n
  induction n with
  | zero =>
    intro y hy hn
    exfalso
    omega
  | succ n ih =>
    intro y hy hn
    refine X.iload_n 3 (zi261 2) rfl rfl rfl ?_
    refine X.sipush 6 (zi261 3) rfl rfl (by decide) ?_
    refine X.icmpge 21 9 (zi261 6) rfl rfl rfl (fun h1 => ?_) (fun h1 => ?_)
    · refine X.cut [] (zi261 21) rfl ?_
      have e : y = 1619 := by omega
      rw [e]
      exact K
    · refine X.aload_n 10 (zi261 9) rfl rfl rfl ?_
      refine X.iload_n 11 (zi261 10) rfl rfl rfl ?_
      refine X.aload_n 12 (zi261 11) rfl rfl rfl ?_
      refine X.iload_n 13 (zi261 12) rfl rfl rfl ?_
      refine X.lald 14 (zi261 13) rfl rfl (by decide) rfl (by omega) ?_
      refine X.last' 15 (zi261 14) rfl rfl (by decide) rfl (by omega) (fun hr m1 hm1 => ?_)
      rw [z_cp_step m (by decide) hy.1] at hm1
      subst hm1
      refine X.iinc 18 [(0, zr 4 47), (1, zr 4 45), (2, zi (y + 1))] (zi261 15) rfl rfl rfl (by omega) rfl ?_
      refine X.goto 2 (zi261 18) rfl rfl ?_
      exact ih (y + 1) (by omega) (by omega)
theorem c_cq_47_45 {s : Nat × (Nat → Int32)} {S : zS} {m0 m : zM} {B : Int} {d : Nat} {Q : Option zV → zM → Prop} (_hd : 13 ≤ d) (hJ : J S m0 B m) (hc : S.2.2.2 ∨ m 4 44 3 = 1) (hf21 : ¬ S.1 21) (hf22 : ¬ S.1 22) (hf23 : ¬ S.1 23) (hf24 : ¬ S.1 24) (hf25 : ¬ S.1 25) (hf26 : ¬ S.1 26) (hf27 : ¬ S.1 27) (hf28 : ¬ S.1 28) (hf29 : ¬ S.1 29) (hf30 : ¬ S.1 30) (hf31 : ¬ S.1 31) (hf32 : ¬ S.1 32) (hf33 : ¬ S.1 33) (hg : ¬ S.2.1 4)
    (hQ : ∀ m', (m' = z_cpy m 4 45 4 47 0 0 1619) → J S m0 B m' → Q none m') : X (EE s) d 261 0 [(0, zr 4 47), (1, zr 4 45)] [] m Q := by
  refine X.iconst 1 (zi261 0) rfl rfl (by decide) ?_
  refine X.istore_n 2 [(0, zr 4 47), (1, zr 4 45), (2, zi 0)] (zi261 1) rfl rfl rfl ?_
  have h := l_cp_47_45 (s := s) (d := d) (Q := Q) (m := m) (by
    refine X.retv (zi261 21) rfl t261 ?_
    exact hQ _ rfl (J.cp (F := S.1) (G := S.2.1) (p := S.2.2.1) (q := S.2.2.2) hJ rfl (fun _ _ _ => ⟨fun e => absurd e (by decide), fun _ => hc⟩) (by decide) (fun k hk => ⟨fun _ h => h, fun _ h => h⟩) (fun i hi => by
      show ¬ S.1 (ja 45 i)
      rcases (show (0 ≤ i ∧ i ≤ 0) ∨ (1 ≤ i ∧ i ≤ 3) ∨ (4 ≤ i ∧ i ≤ 9) ∨ (10 ≤ i ∧ i ≤ 12) ∨ (13 ≤ i ∧ i ≤ 15) ∨ (16 ≤ i ∧ i ≤ 16) ∨ (17 ≤ i ∧ i ≤ 17) ∨ (18 ≤ i ∧ i ≤ 18) ∨ (19 ≤ i ∧ i ≤ 20) ∨ (21 ≤ i ∧ i ≤ 27) ∨ (28 ≤ i ∧ i ≤ 31) ∨ (32 ≤ i ∧ i ≤ 39) ∨ (40 ≤ i ∧ i ≤ 59) ∨ (60 ≤ i ∧ i ≤ 94) ∨ (95 ≤ i ∧ i ≤ 286) ∨ (287 ≤ i ∧ i ≤ 787) ∨ (788 ≤ i ∧ i ≤ 1171) ∨ (1172 ≤ i ∧ i ≤ 1486) ∨ (1487 ≤ i ∧ i ≤ 1606) ∨ (1607 ≤ i ∧ i ≤ 1610) ∨ (1611 ≤ i ∧ i ≤ 1613) ∨ (1614 ≤ i ∧ i ≤ 1618) by omega) with e | e | e | e | e | e | e | e | e | e | e | e | e | e | e | e | e | e | e | e | e | e
      · rw [ja_at e 0 rfl rfl rfl]; exact hf31
      · rw [ja_at e 1 rfl rfl rfl]; exact hf22
      · rw [ja_at e 2 rfl rfl rfl]; exact hf23
      · rw [ja_at e 3 rfl rfl rfl]; exact hf32
      · rw [ja_at e 4 rfl rfl rfl]; exact hf33
      · rw [ja_at e 5 rfl rfl rfl]; exact hf26
      · rw [ja_at e 6 rfl rfl rfl]; exact hf27
      · rw [ja_at e 7 rfl rfl rfl]; exact hf25
      · rw [ja_at e 8 rfl rfl rfl]; exact hf28
      · rw [ja_at e 9 rfl rfl rfl]; exact hf27
      · rw [ja_at e 10 rfl rfl rfl]; exact hf23
      · rw [ja_at e 11 rfl rfl rfl]; exact hf28
      · rw [ja_at e 12 rfl rfl rfl]; exact hf29
      · rw [ja_at e 13 rfl rfl rfl]; exact hf30
      · rw [ja_at e 14 rfl rfl rfl]; exact hf22
      · rw [ja_at e 15 rfl rfl rfl]; exact hf21
      · rw [ja_at e 16 rfl rfl rfl]; exact hf27
      · rw [ja_at e 17 rfl rfl rfl]; exact hf25
      · rw [ja_at e 18 rfl rfl rfl]; exact hf26
      · rw [ja_at e 19 rfl rfl rfl]; exact hf27
      · rw [ja_at e 20 rfl rfl rfl]; exact hf23
      · rw [ja_at e 21 rfl rfl rfl]; exact hf24) hg)) 1620 0 (by omega) (by omega)
  rw [z_cp_zero] at h
  exact h
end
section
section
variable {E : zE} {d j pc : Nat} {lv : List (Nat × zV)} {st : List zV} {m : zM} {Q : Option zV → zM → Prop} {q : Nat × Nat × Nat × Nat} {c : Value} {ks : Option (List Nat)}
theorem z_tmod64 {x y : Int} (hy1 : -9223372036854775808 ≤ y ∧ y ≤ 9223372036854775807) (hy : y ≠ 0) : -9223372036854775808 ≤ x.tmod y ∧ x.tmod y ≤ 9223372036854775807 := by
  have h1 := Int.natAbs_tmod x y
  have h2 : x.natAbs % y.natAbs < y.natAbs := Nat.mod_lt _ (by omega)
  omega
theorem X.lremT (pc' : Nat) {x y : Int} (hi : z_I E j pc = some (.lrem, 1, q, c, ks)) (hc : z_cut ks lv = lv) (hp : pc + 1 = pc') (hy : y ≠ 0) (kk : X E d j pc' lv (zl (x.tmod y) :: st) m Q) : X E d j pc lv (zl y :: zl x :: st) m Q :=
  X.num pc' hi hc hp rfl kk (fun h => by
    have hy1 : -9223372036854775808 ≤ y ∧ y ≤ 9223372036854775807 := z_hd h
    have hx1 : -9223372036854775808 ≤ x ∧ x ≤ 9223372036854775807 := z_hd (z_tl h)
    refine ⟨z_cons (z_tmod64 hy1 hy) (z_tl (z_tl h)), fun _ => ?_⟩
    show x_ld (fun x y => x - x / y * y) 1 (.long (Int64.ofInt y) :: .long (Int64.ofInt x) :: _) _ = _
    simp only [x_ld, if_true, if_neg (z_ne64 hy1 hy), z_rem64 hx1 hy1]; rfl)
end
theorem z_half {b r p : Nat} (hr : 0 < r) (hrb : r < b) (hb : b < 2 * p) : b % r < p := by
  rcases Nat.lt_or_ge p r with h | h
  · rw [Nat.mod_eq_sub_mod (by omega), Nat.mod_eq_of_lt (by omega)]
    omega
  · exact Nat.lt_of_lt_of_le (Nat.mod_lt _ hr) h
theorem c_div1 {s : Nat × (Nat → Int32)} {m : zM} {d : Nat} {Q : Option zV → zM → Prop} (a b : Int) (hd : 1 ≤ d) (h0 : b = 0 → Q (some (zl a)) m)
    (h1 : b ≠ 0 → X (EE s) (d - 1) 294 0 [(0, zl b), (2, zl (a.tmod b))] [] m (fun r m' => X (EE s) d 294 17 [(0, zl a), (2, zl b)] (z_push r []) m' Q)) : X (EE s) d 294 0 [(0, zl a), (2, zl b)] [] m Q := by
  refine X.lload_n 1 (zi294 0) rfl rfl rfl ?_
  refine X.lconst (y := 0) 2 (zi294 1) rfl rfl rfl ?_
  refine X.lcmp 3 (zi294 2) rfl rfl (fun z hz => ?_)
  refine X.ifne 10 6 (zi294 3) rfl rfl rfl (fun h => ?_) (fun h => ?_)
  · have hb : b ≠ 0 := by omega
    refine X.lload_n 11 (zi294 10) rfl rfl rfl ?_
    refine X.lload_n 12 (zi294 11) rfl rfl rfl ?_
    refine X.lload_n 13 (zi294 12) rfl rfl rfl ?_
    refine X.lremT 14 (zi294 13) rfl rfl hb ?_
    refine X.calls 17 [zl b, zl (a.tmod b)] [] [(0, zl b), (2, zl (a.tmod b))] (zi294 14) (by decide) rfl rfl hd rfl rfl t294 (Nat.le_of_ble_eq_true rfl) (Nat.le_of_ble_eq_true rfl) rfl ?_
    exact h1 hb
  · have hb : b = 0 := by omega
    refine X.lload_n 7 (zi294 6) rfl rfl rfl ?_
    refine X.goto 17 (zi294 7) rfl rfl ?_
    refine X.cut [] (zi294 17) rfl ?_
    refine X.retl (zi294 17) rfl t294 ?_
    exact h0 hb
theorem c_divr {s : Nat × (Nat → Int32)} {m : zM} {d : Nat} {Q : Option zV → zM → Prop} (a b v : Int) (h : Q (some (zl v)) m) : X (EE s) d 294 17 [(0, zl a), (2, zl b)] (z_push (some (zl v)) []) m Q := by
  show X (EE s) d 294 17 [(0, zl a), (2, zl b)] [zl v] m Q
  refine X.cut [] (zi294 17) rfl ?_
  exact X.retl (zi294 17) rfl t294 h
/-- the reference's divisor -/
def fdivF : Nat → Int → Int → Int
  | 0, a, _ => a
  | n + 1, a, b => if b = 0 then a else fdivF n b (a.tmod b)
theorem fdivF_s (n : Nat) (a b : Int) : fdivF (n + 1) a b = if b = 0 then a else fdivF n b (a.tmod b) := rfl
def fdiv (a b : Int) (_m : zM) : Int := fdivF 128 a b
theorem c_div {s : Nat × (Nat → Int32)} {m : zM} : ∀ (k d : Nat) (a b : Int) (Q : Option zV → zM → Prop), b.natAbs < 2 ^ k → (a ≠ 0 ∨ b ≠ 0) → 2 * k + 1 ≤ d → (∀ v, v ≠ 0 → (∀ n, fdivF (2 * k + n) a b = v) → Q (some (zl v)) m) → X (EE s) d 294 0 [(0, zl a), (2, zl b)] [] m Q := by
  intro k
  induction k with
  | zero =>
    intro d a b Q hb hn hd hQ
    have e : b = 0 := by
      have h1 : (2 : Nat) ^ 0 = 1 := rfl
      omega
    refine c_div1 a b (by omega) (fun _ => hQ a (by omega) (fun n => ?_)) (fun h => absurd e h)
    cases n with
    | zero => rfl
    | succ n => rw [show 2 * 0 + (n + 1) = n + 1 by omega, fdivF_s, if_pos e]
  | succ k ih =>
    intro d a b Q hb hn hd hQ
    refine c_div1 a b (by omega) (fun h => hQ a (by omega) (fun n => by rw [show 2 * (k + 1) + n = (2 * k + n + 1) + 1 by omega, fdivF_s, if_pos h])) (fun h => ?_)
    have hr := Int.natAbs_tmod a b
    have hr2 : a.natAbs % b.natAbs < b.natAbs := Nat.mod_lt _ (by omega)
    refine c_div1 b (a.tmod b) (by omega) (fun h9 => c_divr a b b (hQ b h (fun n => by rw [show 2 * (k + 1) + n = (2 * k + n + 1) + 1 by omega, fdivF_s, if_neg h, fdivF_s, if_pos h9]))) (fun h2 => ?_)
    have hp : 2 ^ (k + 1) = 2 * 2 ^ k := by rw [Nat.pow_succ]; omega
    refine ih (d - 1 - 1) (a.tmod b) (b.tmod (a.tmod b)) _ ?_ (.inl h2) (by omega) (fun v hv hF => c_divr _ _ v (c_divr a b v (hQ v hv (fun n => by rw [show 2 * (k + 1) + n = (2 * k + n + 1) + 1 by omega, fdivF_s, if_neg h, fdivF_s, if_neg h2]; exact hF n))))
    rw [Int.natAbs_tmod b (a.tmod b)]
    exact z_half (by omega) (by omega) (by omega)
theorem c_dv {s : Nat × (Nat → Int32)} {S : zS} {m0 m : zM} {B : Int} {d : Nat} {Q : Option zV → zM → Prop} (a0 a1 : Int) (hd : 131 ≤ d) (_hJ : J S m0 B m) (_hB : B + 0 ≤ 1000000000) (ha0 : 1 ≤ a0) (ha1 : -9223372036854775808 ≤ a1 ∧ a1 ≤ 9223372036854775807)
    (hQ : ∀ v : Int, True → fdiv a0 a1 m = v → v ≠ 0 → Q (some (zl v)) m) : X (EE s) d 294 0 [(0, zl a0), (2, zl a1)] [] m Q :=
  c_div 64 d a0 a1 Q (by have h : (2 : Nat) ^ 64 = 18446744073709551616 := rfl; rw [h]; omega) (.inl (by omega)) (by omega) (fun v hv hF => hQ v trivial (hF 0) hv)
end
section
/-! Rows that say exactly what a number is; the words in which the methods' functions are written. -/
def zs {α : Type} (p : zM) (f : zM → α) : α := f p
def zn {α : Type} (p : Int) (f : Int → α) : α := f p
def zb {α : Type} (p : Int × zM) (f : Int → zM → α) : α := f p.1 p.2
theorem zs_eq {α : Type} {p m1 : zM} {f : zM → α} (h : m1 = p) : zs p f = f m1 := by subst h; rfl
theorem zn_eq {α : Type} {p z : Int} {f : Int → α} (h : z = p) : zn p f = f z := by subst h; rfl
theorem zb_eq {α : Type} {p : Int × zM} {v : Int} {m1 : zM} {f : Int → zM → α} (h : p = (v, m1)) : zb p f = f v m1 := by subst h; rfl
/-- a number that nothing unfolds -/
noncomputable def zfu (n : Nat) : Nat := Classical.choose (⟨n, rfl⟩ : ∃ k, k = n)
theorem zfu_eq (n : Nat) : zfu n = n := Classical.choose_spec (⟨n, rfl⟩ : ∃ k, k = n)
def w8 (x : Int) : Int := (Int32.ofInt x).toInt8.toInt
def w32 (x : Int) : Int := (Int32.ofInt x).toInt
def w64 (x : Int) : Int := (Int64.ofInt x).toInt
theorem w32_id {x : Int} (h : -2147483648 ≤ x ∧ x ≤ 2147483647) : w32 x = x := z_32 h
theorem w64_id {x : Int} (h : -9223372036854775808 ≤ x ∧ x ≤ 9223372036854775807) : w64 x = x := z_64 h
def zand (x y : Int) : Int := (Int32.ofInt x &&& Int32.ofInt y).toInt
def zor (x y : Int) : Int := (Int32.ofInt x ||| Int32.ofInt y).toInt
def zxor (x y : Int) : Int := (Int32.ofInt x ^^^ Int32.ofInt y).toInt
def zshl (x y : Int) : Int := (Int32.ofInt x <<< (Int32.ofInt y &&& 31)).toInt
def zshr (x y : Int) : Int := (Int32.ofInt x >>> (Int32.ofInt y &&& 31)).toInt
def zushr (x y : Int) : Int := ((Int32.ofInt x).toUInt32 >>> ((Int32.ofInt y).toUInt32 &&& Int32.toUInt32 31)).toInt32.toInt
def zandL (x y : Int) : Int := (Int64.ofInt x &&& Int64.ofInt y).toInt
def zorL (x y : Int) : Int := (Int64.ofInt x ||| Int64.ofInt y).toInt
def zxorL (x y : Int) : Int := (Int64.ofInt x ^^^ Int64.ofInt y).toInt
def zshlL (x y : Int) : Int := (Int64.ofInt x <<< ((Int32.ofInt y).toInt64 &&& 63)).toInt
/-- the rows of told bounds, the four words -/
def zro (p : Nat) (i : Int) : Int := ((match p with
  | 1 => sA1
  | 2 => sA2
  | _ => sA3).getD i.toNat 0).toInt
def zch (p : Nat) (i : Int) : Int := ((match p with
  | 4 => sW4
  | 5 => sW5
  | 6 => sW6
  | _ => sW7).getD i.toNat 0).toInt
theorem z_sqr {e x : Int} (h : -e ≤ x ∧ x ≤ e) : 0 ≤ x * x ∧ x * x ≤ e * e := by
  have h1 := z_mulr (a := -e) (b := e) (c := -e) (e := e) (x := x) (y := x) h h
  have h2 : -e * -e = e * e := by rw [Int.neg_mul_neg]
  have h3 : -e * e = -(e * e) := by rw [Int.neg_mul]
  have h4 : e * -e = -(e * e) := by rw [Int.mul_neg]
  have h0 := Int.mul_nonneg (show 0 ≤ e by omega) (show 0 ≤ e by omega)
  rw [h2, h3, h4] at h1
  refine ⟨?_, by omega⟩
  rcases Int.le_total 0 x with h5 | h5
  · exact Int.mul_nonneg h5 h5
  · have h6 := Int.mul_nonneg (show 0 ≤ -x by omega) (show 0 ≤ -x by omega)
    rwa [Int.neg_mul_neg] at h6
theorem z_kp {x y : Int} (hx : 0 ≤ x ∧ x ≤ 47) (hy : 1 ≤ y ∧ y ≤ 3) : 0 ≤ x % y ∧ x % y ≤ 2 ∧ 0 ≤ x / y ∧ 16 * (x % y) + x / y ≤ 47 := by
  rcases (show y = 1 ∨ y = 2 ∨ y = 3 by omega) with h | h | h <;> subst h <;> omega
section
variable {E : zE} {d j pc : Nat} {lv : List (Nat × zV)} {st : List zV} {m : zM} {Q : Option zV → zM → Prop} {q : Nat × Nat × Nat × Nat} {c : Value} {ks : Option (List Nat)}
theorem X.iiE (pc' : Nat) (ins : Instr) (f : Int32 → Int32 → Int32) {x y : Int} (hi : z_I E j pc = some (ins, 1, q, c, ks)) (hc : z_cut ks lv = lv) (hp : pc + 1 = pc') (hk : x_kind ins = 0) (hf : ∀ (st : List Value) (k : List Value → Option xR), x_pure ins 1 st k = x_ii f 1 st k) (kk : ∀ z, z = (f (Int32.ofInt x) (Int32.ofInt y)).toInt → (-2147483648 ≤ z ∧ z ≤ 2147483647) → X E d j pc' lv (zi z :: st) m Q) : X E d j pc lv (zi y :: zi x :: st) m Q :=
  X.ii pc' ins f hi hc hp hk hf (kk _ rfl (z_r32 _))
theorem X.llE (pc' : Nat) (ins : Instr) (f : Int64 → Int64 → Int64) {x y : Int} (hi : z_I E j pc = some (ins, 1, q, c, ks)) (hc : z_cut ks lv = lv) (hp : pc + 1 = pc') (hk : x_kind ins = 0) (hf : ∀ (st : List Value) (k : List Value → Option xR), x_pure ins 1 st k = x_ll f 1 st k) (kk : ∀ z, z = (f (Int64.ofInt x) (Int64.ofInt y)).toInt → (-9223372036854775808 ≤ z ∧ z ≤ 9223372036854775807) → X E d j pc' lv (zl z :: st) m Q) : X E d j pc lv (zl y :: zl x :: st) m Q :=
  X.ll pc' ins f hi hc hp hk hf (kk _ rfl (z_r64 _))
theorem X.andE (pc' : Nat) (n : Int) {x y : Int} (hi : z_I E j pc = some (.iand, 1, q, c, ks)) (hc : z_cut ks lv = lv) (hp : pc + 1 = pc') (hn : 0 ≤ n ∧ n ≤ 2147483647) (hxy : y = n ∨ x = n) (kk : ∀ z, z = zand x y → (0 ≤ z ∧ z ≤ n) → X E d j pc' lv (zi z :: st) m Q) : X E d j pc lv (zi y :: zi x :: st) m Q := by
  refine X.ii pc' .iand (fun x y => x &&& y) hi hc hp rfl (fun _ _ => rfl) (kk _ rfl ?_)
  have e := z_32 (x := n) (by omega)
  rcases hxy with rfl | rfl
  · have h := z_and_le (Int32.ofInt x) (Int32.ofInt y) (by rw [e]; omega)
    rw [e] at h
    exact h
  · have h := z_and_le (Int32.ofInt y) (Int32.ofInt x) (by rw [e]; omega)
    rw [e, Int32.and_comm] at h
    exact h
theorem X.iaddW (pc' : Nat) {x y : Int} (hi : z_I E j pc = some (.iadd, 1, q, c, ks)) (hc : z_cut ks lv = lv) (hp : pc + 1 = pc') (kk : ∀ z, z = w32 (x + y) → (-2147483648 ≤ z ∧ z ≤ 2147483647) → X E d j pc' lv (zi z :: st) m Q) : X E d j pc lv (zi y :: zi x :: st) m Q :=
  X.ii pc' .iadd (fun x y => x + y) hi hc hp rfl (fun _ _ => rfl) (kk _ (by unfold w32; rw [Int32.ofInt_add]) (z_r32 _))
theorem X.isubW (pc' : Nat) {x y : Int} (hi : z_I E j pc = some (.isub, 1, q, c, ks)) (hc : z_cut ks lv = lv) (hp : pc + 1 = pc') (kk : ∀ z, z = w32 (x - y) → (-2147483648 ≤ z ∧ z ≤ 2147483647) → X E d j pc' lv (zi z :: st) m Q) : X E d j pc lv (zi y :: zi x :: st) m Q :=
  X.ii pc' .isub (fun x y => x - y) hi hc hp rfl (fun _ _ => rfl) (kk _ (by unfold w32; rw [Int32.ofInt_sub]) (z_r32 _))
theorem X.laddW (pc' : Nat) {x y : Int} (hi : z_I E j pc = some (.ladd, 1, q, c, ks)) (hc : z_cut ks lv = lv) (hp : pc + 1 = pc') (kk : ∀ z, z = w64 (x + y) → (-9223372036854775808 ≤ z ∧ z ≤ 9223372036854775807) → X E d j pc' lv (zl z :: st) m Q) : X E d j pc lv (zl y :: zl x :: st) m Q :=
  X.ll pc' .ladd (fun x y => x + y) hi hc hp rfl (fun _ _ => rfl) (kk _ (by unfold w64; rw [Int64.ofInt_add]) (z_r64 _))
theorem X.lsubW (pc' : Nat) {x y : Int} (hi : z_I E j pc = some (.lsub, 1, q, c, ks)) (hc : z_cut ks lv = lv) (hp : pc + 1 = pc') (kk : ∀ z, z = w64 (x - y) → (-9223372036854775808 ≤ z ∧ z ≤ 9223372036854775807) → X E d j pc' lv (zl z :: st) m Q) : X E d j pc lv (zl y :: zl x :: st) m Q :=
  X.ll pc' .lsub (fun x y => x - y) hi hc hp rfl (fun _ _ => rfl) (kk _ (by unfold w64; rw [Int64.ofInt_sub]) (z_r64 _))
theorem X.lmulW (pc' : Nat) {x y : Int} (hi : z_I E j pc = some (.lmul, 1, q, c, ks)) (hc : z_cut ks lv = lv) (hp : pc + 1 = pc') (kk : ∀ z, z = w64 (x * y) → (-9223372036854775808 ≤ z ∧ z ≤ 9223372036854775807) → X E d j pc' lv (zl z :: st) m Q) : X E d j pc lv (zl y :: zl x :: st) m Q :=
  X.ll pc' .lmul (fun x y => x * y) hi hc hp rfl (fun _ _ => rfl) (kk _ (by unfold w64; rw [Int64.ofInt_mul]) (z_r64 _))
theorem X.lnegW (pc' : Nat) {x : Int} (hi : z_I E j pc = some (.lneg, 1, q, c, ks)) (hc : z_cut ks lv = lv) (hp : pc + 1 = pc') (kk : ∀ z, z = w64 (-x) → (-9223372036854775808 ≤ z ∧ z ≤ 9223372036854775807) → X E d j pc' lv (zl z :: st) m Q) : X E d j pc lv (zl x :: st) m Q :=
  X.num pc' hi hc hp rfl (kk (-Int64.ofInt x).toInt (by unfold w64; rw [Int64.ofInt_neg]) (z_r64 _)) (fun h => ⟨z_cons (z_r64 _) (z_tl h), fun _ => by
    show x_l1 (fun x => -x) 1 (.long (Int64.ofInt x) :: _) _ = _
    simp only [x_l1, if_true]
    rw [List.map_cons, z_vl_toInt]⟩)
theorem X.l2iW (pc' : Nat) {x : Int} (hi : z_I E j pc = some (.l2i, 1, q, c, ks)) (hc : z_cut ks lv = lv) (hp : pc + 1 = pc') (kk : ∀ z, z = w32 x → (-2147483648 ≤ z ∧ z ≤ 2147483647) → X E d j pc' lv (zi z :: st) m Q) : X E d j pc lv (zl x :: st) m Q :=
  X.num pc' hi hc hp rfl (kk (Int64.ofInt x).toInt32.toInt (by unfold w32; rw [Int64.toInt32_ofInt]) (z_r32 _)) (fun h => ⟨z_cons (z_r32 _) (z_tl h), fun _ => by
    show x_l2 (fun x => x.toInt32) 1 (.long (Int64.ofInt x) :: _) _ = _
    simp only [x_l2, if_true]
    rw [List.map_cons, z_vi_toInt]⟩)
theorem X.lshlE (pc' : Nat) {x y : Int} (hi : z_I E j pc = some (.lshl, 1, q, c, ks)) (hc : z_cut ks lv = lv) (hp : pc + 1 = pc') (kk : ∀ z, z = zshlL x y → (-9223372036854775808 ≤ z ∧ z ≤ 9223372036854775807) → X E d j pc' lv (zl z :: st) m Q) : X E d j pc lv (zi y :: zl x :: st) m Q :=
  X.lshl pc' hi hc hp (kk _ rfl (z_r64 _))
theorem X.i2bE (pc' : Nat) {x : Int} (hi : z_I E j pc = some (.i2b, 1, q, c, ks)) (hc : z_cut ks lv = lv) (hp : pc + 1 = pc') (kk : ∀ z, z = w8 x → (-128 ≤ z ∧ z ≤ 127) → X E d j pc' lv (zi z :: st) m Q) : X E d j pc lv (zi x :: st) m Q :=
  X.i2b pc' hi hc hp (kk _ rfl (by
    have h1 := (Int32.ofInt x).toInt8.toInt_lt
    have h2 := (Int32.ofInt x).toInt8.le_toInt
    omega))
theorem z_div64w {x y : Int} (hx : -9223372036854775808 ≤ x ∧ x ≤ 9223372036854775807) (hy : -9223372036854775808 ≤ y ∧ y ≤ 9223372036854775807) : (Int64.ofInt x / Int64.ofInt y).toInt = w64 (x.tdiv y) := by
  unfold w64
  rw [z_div64 hx hy]
theorem X.ldivW (pc' : Nat) {x y : Int} (hi : z_I E j pc = some (.ldiv, 1, q, c, ks)) (hc : z_cut ks lv = lv) (hp : pc + 1 = pc') (hy : y ≠ 0) (kk : ∀ z, z = w64 (x.tdiv y) → (-9223372036854775808 ≤ z ∧ z ≤ 9223372036854775807) → X E d j pc' lv (zl z :: st) m Q) : X E d j pc lv (zl y :: zl x :: st) m Q := by
  intro g1 g2 g3
  have hx1 : -9223372036854775808 ≤ x ∧ x ≤ 9223372036854775807 := z_hd (z_tl g2)
  have hy1 : -9223372036854775808 ≤ y ∧ y ≤ 9223372036854775807 := z_hd g2
  refine X.num pc' hi hc hp rfl (kk (Int64.ofInt x / Int64.ofInt y).toInt (z_div64w hx1 hy1) (z_r64 _)) (fun h => ?_) g1 g2 g3
  refine ⟨z_cons (z_r64 _) (z_tl (z_tl h)), fun _ => ?_⟩
  show x_ld (fun x y => x / y) 1 (.long (Int64.ofInt y) :: .long (Int64.ofInt x) :: _) _ = _
  simp only [x_ld, if_true, if_neg (z_ne64 hy1 hy)]
  rw [List.map_cons, z_vl_toInt]
theorem X.lremW (pc' : Nat) {x y : Int} (hi : z_I E j pc = some (.lrem, 1, q, c, ks)) (hc : z_cut ks lv = lv) (hp : pc + 1 = pc') (hy : y ≠ 0) (kk : ∀ z, z = x.tmod y → (-9223372036854775808 ≤ z ∧ z ≤ 9223372036854775807) → X E d j pc' lv (zl z :: st) m Q) : X E d j pc lv (zl y :: zl x :: st) m Q := by
  intro g1 g2 g3
  have hy1 : -9223372036854775808 ≤ y ∧ y ≤ 9223372036854775807 := z_hd g2
  exact X.lremT pc' hi hc hp hy (kk _ rfl (z_tmod64 hy1 hy)) g1 g2 g3
theorem X.idivE (pc' : Nat) {x y : Int} (hi : z_I E j pc = some (.idiv, 1, q, c, ks)) (hc : z_cut ks lv = lv) (hp : pc + 1 = pc') (hy : 0 < y ∧ y ≤ 2147483647) (kk : ∀ z, z = x.tdiv y → ((0 ≤ x → z = x / y) ∧ (x < 0 → z ≤ 0 ∧ x ≤ z * y)) → X E d j pc' lv (zi z :: st) m Q) : X E d j pc lv (zi y :: zi x :: st) m Q := by
  refine X.num pc' hi hc hp rfl (kk (x.tdiv y) rfl ⟨fun h => Int.tdiv_eq_ediv_of_nonneg h, fun h => ?_⟩) (fun h => ?_)
  · have h1 := (z_tdiv_le (x := x) hy.1).2 (by omega)
    refine ⟨h1.2, ?_⟩
    have h2 := Int.tmod_add_mul_tdiv x y
    have h3 := (z_tmod_le (x := x) hy.1).2 (by omega)
    rw [Int.mul_comm] at h2
    omega
  · have hx1 : -2147483648 ≤ x ∧ x ≤ 2147483647 := z_hd (z_tl h)
    have hy1 : -2147483648 ≤ y ∧ y ≤ 2147483647 := z_hd h
    have h1 := z_tdiv_le (x := x) hy.1
    refine ⟨z_cons (show -2147483648 ≤ x.tdiv y ∧ x.tdiv y ≤ 2147483647 by rcases Int.le_total 0 x with h2 | h2 <;> omega) (z_tl (z_tl h)), fun _ => ?_⟩
    show x_id (fun x y => x / y) 1 (.int (Int32.ofInt y) :: .int (Int32.ofInt x) :: _) _ = _
    simp only [x_id, if_true, if_neg (z_ne32 hy1 (by omega)), z_div32 hx1 hy1]; rfl
theorem X.iremE (pc' : Nat) {x y : Int} (hi : z_I E j pc = some (.irem, 1, q, c, ks)) (hc : z_cut ks lv = lv) (hp : pc + 1 = pc') (hy : 0 < y ∧ y ≤ 2147483647) (kk : ∀ z, z = x.tmod y → ((0 ≤ x → z = x % y) ∧ (x < 0 → z ≤ 0 ∧ x ≤ z)) → X E d j pc' lv (zi z :: st) m Q) : X E d j pc lv (zi y :: zi x :: st) m Q := by
  refine X.num pc' hi hc hp rfl (kk (x.tmod y) rfl ⟨fun h => Int.tmod_eq_emod_of_nonneg h, fun h => ?_⟩) (fun h => ?_)
  · have h3 := (z_tmod_le (x := x) hy.1).2 (by omega)
    omega
  · have hx1 : -2147483648 ≤ x ∧ x ≤ 2147483647 := z_hd (z_tl h)
    have hy1 : -2147483648 ≤ y ∧ y ≤ 2147483647 := z_hd h
    have h1 := z_tmod_le (x := x) hy.1
    refine ⟨z_cons (show -2147483648 ≤ x.tmod y ∧ x.tmod y ≤ 2147483647 by rcases Int.le_total 0 x with h2 | h2 <;> omega) (z_tl (z_tl h)), fun _ => ?_⟩
    show x_id (fun x y => x - x / y * y) 1 (.int (Int32.ofInt y) :: .int (Int32.ofInt x) :: _) _ = _
    simp only [x_id, if_true, if_neg (z_ne32 hy1 (by omega)), z_rem32 hx1 hy1]; rfl
theorem X.absW (pc' : Nat) {idx j' na ci : Nat} {x : Int} (hi : z_I E j pc = some (.invokestatic idx, 3, (j', na, 14, ci), c, ks)) (hc : z_cut ks lv = lv) (hp : pc + 3 = pc') (hd : 12 ≤ d) (hw : z_wd st ≤ 8) (kk : ∀ z, z = w64 (max x (-x)) → (-9223372036854775808 ≤ z ∧ z ≤ 9223372036854775807) → X E d j pc' lv (zl z :: st) m Q) : X E d j pc lv (zl x :: st) m Q := by
  subst hp
  intro g1 g2 g3
  have hx : -9223372036854775808 ≤ x ∧ x ≤ 9223372036854775807 := z_hd g2
  refine X.bi (pc + 3) hi hc rfl rfl (kk (if 0 < Int64.ofInt x then Int64.ofInt x else -Int64.ofInt x).toInt ?_ (z_r64 _)) (fun h1 h2 => ?_) g1 g2 g3
  · have e : (0 < Int64.ofInt x ↔ 0 < x) := z_lt64 (x := 0) (by omega) hx
    unfold w64
    by_cases h : 0 < x
    · rw [if_pos (e.mpr h), show max x (-x) = x by omega]
    · rw [if_neg (fun h9 => h (e.mp h9)), show max x (-x) = -x by omega, Int64.ofInt_neg]
  · refine ⟨z_cons (z_r64 _) (z_tl h1), h2, fun call k => ?_⟩
    rw [z_biq hd (by decide)]
    show x_low (st.map (z_v E.2.2.2)) (k (pc + 3) (.long (if 0 < Int64.ofInt x then Int64.ofInt x else -Int64.ofInt x) :: _) _) = _
    rw [z_low hw, List.map_cons, z_vl_toInt]
end
/-- a call with flags of its own: what it doesn't change is as it was -/
theorem zo_n {A : Nat → Prop} : ∀ f, A f → f ∉ ([] : List Nat) := fun _ _ h => absurd h List.not_mem_nil
theorem zo_c {A : Nat → Prop} {L : List Nat} {x : Nat} (h : ¬ A x) (t : ∀ f, A f → f ∉ L) : ∀ f, A f → f ∉ x :: L := fun f hf hm => by
  rcases List.mem_cons.mp hm with e | e
  · rw [e] at hf
    exact h hf
  · exact t f hf e
theorem J.ow {S : zS} {m0 m m' : zM} {B B' : Int} {L G : List Nat} (h : J S m0 B m) (h' : J (fun f => f ∉ L, fun g => g ∉ G, S.2.2) m B' m') (hL : ∀ f, S.1 f → f ∉ L) (hG : ∀ g, S.2.1 g → g ∉ G) : J S m0 B' m' :=
  ⟨fun g k i hq => h'.1 g k i hq, fun g k i h9 => by
    rw [h'.2 g k i (h9.imp (hL _) (hG _))]
    exact h.2 g k i h9⟩
theorem J.nw {S : zS} {m0 m : zM} {B : Int} {F G : Nat → Prop} (h : J S m0 B m) : J (F, G, S.2.2) m B m := J.rf h.1
theorem zo_m {L : List Nat} {x : Nat} (h : L.contains x = true) : ¬ (x ∉ L) := fun h9 => h9 (List.contains_iff_mem.mp h)
end
