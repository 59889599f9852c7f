/-! Printed by wip/gen/inv.py: bounds of the numbers, and those that are tracked. -/
def jb (k : Nat) : List (Int × Int × Int × Int) := match k with
  | 8 => [(9, 9, 0, 2000000000), (11, 11, 0, 1), (12, 12, 0, 1)]
  | 10 => [(0, 4, 0, 1000000), (5, 5, 1, 6), (6, 12, 0, 1000000)]
  | 11 => [(7, 7, 0, 16)]
  | 12 => [(0, 7, 0, 6)]
  | 13 => [(0, 47, 0, 86399)]
  | 14 => [(0, 47, 0, 3)]
  | 15 => [(0, 3, -1, 364)]
  | 16 => [(0, 27, 0, 7)]
  | 17 => [(0, 15, 0, 364)]
  | 18 => [(0, 15, 0, 7)]
  | 19 => [(3, 3, 1, 3), (4, 4, 4, 16), (5, 5, 0, 47)]
  | 20 => [(0, 47, -500, 500)]
  | 21 => [(0, 47, -500, 500)]
  | 23 => [(3, 3, 0, -7)]
  | 27 => [(2, 2, 0, -7), (9, 9, 0, 2000000000)]
  | 37 => [(1, 1, 0, -7)]
  | 39 => [(0, 0, 0, 1), (2, 2, 0, -7), (4, 4, 0, 2000000300)]
  | 40 => [(4, 4, 0, 1)]
  | 41 => [(3, 3, 0, 300), (6, 6, 0, 1), (7, 7, 0, 300)]
  | 42 => [(0, 299, 0, 255)]
  | 43 => [(0, 3, 0, 100)]
  | 44 => [(3, 3, 0, 1), (5, 5, 0, 300), (8, 8, 0, 300), (9, 9, 0, 1), (14, 14, 0, 1)]
  | 45 => [(0, 0, 0, 2000000000), (1, 1, 1, 3), (2, 2, 4, 16), (3, 3, 0, 47), (4, 4, 0, 1000000), (5, 5, 1, 1000000), (6, 6, 0, 250000), (7, 7, 0, 60), (8, 8, 1, 3600), (9, 9, 1, 6), (11, 11, 0, 1), (12, 12, 0, 1), (13, 13, 0, -7), (16, 16, 0, -7), (17, 17, 0, -7), (18, 18, 0, -7), (28, 31, 0, 100), (95, 286, -500, 500), (287, 294, 0, 6), (295, 342, 0, 86399), (343, 390, 0, 3), (391, 394, -1, 364), (395, 422, 0, 7), (423, 787, -1, 7), (1611, 1611, 0, 100), (1612, 1612, 0, 200), (1613, 1613, 0, 100), (1614, 1614, 0, 1), (1616, 1616, 0, -7), (1617, 1617, 0, 2000000300)]
  | 46 => [(0, 0, 0, 2000000000), (1, 1, 1, 3), (2, 2, 4, 16), (3, 3, 0, 47), (4, 4, 0, 1000000), (5, 5, 1, 1000000), (6, 6, 0, 250000), (7, 7, 0, 60), (8, 8, 1, 3600), (9, 9, 1, 6), (11, 11, 0, 1), (12, 12, 0, 1), (13, 13, 0, -7), (16, 16, 0, -7), (17, 17, 0, -7), (18, 18, 0, -7), (28, 31, 0, 100), (95, 286, -500, 500), (287, 294, 0, 6), (295, 342, 0, 86399), (343, 390, 0, 3), (391, 394, -1, 364), (395, 422, 0, 7), (423, 787, -1, 7), (1611, 1611, 0, 100), (1612, 1612, 0, 200), (1613, 1613, 0, 100), (1614, 1614, 0, 1), (1616, 1616, 0, -7), (1617, 1617, 0, 2000000300)]
  | 47 => [(0, 0, 0, 2000000000), (1, 1, 1, 3), (2, 2, 4, 16), (3, 3, 0, 47), (4, 4, 0, 1000000), (5, 5, 1, 1000000), (6, 6, 0, 250000), (7, 7, 0, 60), (8, 8, 1, 3600), (9, 9, 1, 6), (11, 11, 0, 1), (12, 12, 0, 1), (13, 13, 0, -7), (16, 16, 0, -7), (17, 17, 0, -7), (18, 18, 0, -7), (28, 31, 0, 100), (95, 286, -500, 500), (287, 294, 0, 6), (295, 342, 0, 86399), (343, 390, 0, 3), (391, 394, -1, 364), (395, 422, 0, 7), (423, 787, -1, 7), (1611, 1611, 0, 100), (1612, 1612, 0, 200), (1613, 1613, 0, 100), (1614, 1614, 0, 1), (1616, 1616, 0, -7), (1617, 1617, 0, 2000000300)]
  | _ => []
def jf (l : List (Int × Int × Int × Int)) (i : Int) : Option (Int × Int) := match l with
  | [] => none
  | q :: r => if q.1 ≤ i ∧ i ≤ q.2.1 then some q.2.2 else jf r i
def jlo (o : Option (Int × Int)) : Int := match o with
  | some q => q.1
  | none => -9223372036854775808
def jhi (B : Int) (o : Option (Int × Int)) : Int := match o with
  | some q => if q.2 = -7 then B else q.2
  | none => 9223372036854775807
def jl (k : Nat) (i : Int) : Int := jlo (jf (jb k) i)
def jh (B : Int) (k : Nat) (i : Int) : Int := jhi B (jf (jb k) i)
theorem jf_at {i a b : Int} {q : Int × Int} (hi : a ≤ i ∧ i ≤ b) : ∀ (n : Nat) (l : List (Int × Int × Int × Int)), l[n]? = some (a, b, q) → ((l.take n).all fun q => decide (q.2.1 < a)) = true → jf l i = some q
  | _, [], h, _ => by simp at h
  | 0, z :: r, h, _ => by
    have e : z = (a, b, q) := by simpa using h
    subst e
    unfold jf
    rw [if_pos hi]
  | n + 1, z :: r, h, hs => by
    simp only [List.take_succ_cons, List.all_cons, Bool.and_eq_true, decide_eq_true_eq] at hs
    unfold jf
    rw [if_neg (by omega)]
    exact jf_at hi n r (by simpa using h) hs.2
theorem jf_no {i a b : Int} (hi : a ≤ i ∧ i ≤ b) : ∀ (l : List (Int × Int × Int × Int)), (l.all fun q => decide (q.2.1 < a ∨ b < q.1)) = true → jf l i = none
  | [], _ => rfl
  | z :: r, hs => by
    simp only [List.all_cons, Bool.and_eq_true, decide_eq_true_eq] at hs
    unfold jf
    rw [if_neg (by omega)]
    exact jf_no hi r hs.2
def jp (k : Nat) : List (Int × Int × Int × Int) := match k with
  | 8 => [(0, 9, 11, 0), (10, 12, 12, 0), (13, 15, 13, 0)]
  | 9 => [(0, 0, 3, 0)]
  | 10 => [(0, 12, 3, 0)]
  | 11 => [(0, 7, 1, 0)]
  | 12 => [(0, 7, 1, 0)]
  | 13 => [(0, 47, 1, 0)]
  | 14 => [(0, 47, 1, 0)]
  | 15 => [(0, 3, 1, 0)]
  | 16 => [(0, 27, 1, 0)]
  | 17 => [(0, 15, 1, 0)]
  | 18 => [(0, 15, 1, 0)]
  | 19 => [(0, 6, 2, 0)]
  | 20 => [(0, 47, 2, 0)]
  | 21 => [(0, 47, 2, 0)]
  | 22 => [(0, 15, 2, 0)]
  | 23 => [(0, 3, 5, 0)]
  | 24 => [(0, 27, 10, 0)]
  | 25 => [(0, 27, 5, 0)]
  | 26 => [(0, 197, 5, 0)]
  | 27 => [(0, 9, 7, 0)]
  | 28 => [(0, 383, 7, 0)]
  | 29 => [(0, 3, 7, 0)]
  | 30 => [(0, 3, 8, 0)]
  | 31 => [(0, 3, 8, 0)]
  | 32 => [(0, 3, 8, 0)]
  | 33 => [(0, 3, 9, 0)]
  | 34 => [(0, 4, 9, 0)]
  | 35 => [(0, 4, 9, 0)]
  | 36 => [(0, 4, 9, 0)]
  | 37 => [(0, 1, 6, 0)]
  | 38 => [(0, 119, 6, 0)]
  | 39 => [(0, 4, 4, 0)]
  | 40 => [(0, 4, 14, 0)]
  | 41 => [(0, 2, 19, 0), (3, 3, 15, 0), (4, 5, 16, 0), (6, 10, 19, 0)]
  | 42 => [(0, 299, 15, 0)]
  | 43 => [(0, 3, 19, 0)]
  | 44 => [(0, 2, 39, 0), (3, 3, 34, 0), (4, 4, 39, 0), (5, 5, 35, 0), (6, 7, 36, 0), (8, 14, 39, 0)]
  | 45 => [(0, 0, 31, 0), (1, 3, 22, 0), (4, 9, 23, 0), (10, 12, 32, 0), (13, 15, 33, 0), (16, 16, 26, 0), (17, 17, 27, 0), (18, 18, 25, 0), (19, 20, 28, 0), (21, 27, 27, 0), (28, 31, 23, 0), (32, 39, 28, 0), (40, 59, 29, 0), (60, 94, 30, 0), (95, 286, 22, 0), (287, 787, 21, 0), (788, 1171, 27, 0), (1172, 1486, 25, 0), (1487, 1606, 26, 0), (1607, 1610, 27, 0), (1611, 1613, 23, 0), (1614, 1618, 24, 0)]
  | 46 => [(0, 1618, 38, 0)]
  | 47 => [(0, 1618, 37, 0)]
  | 48 => [(0, 299, 35, 0)]
  | 49 => [(0, 7, 39, 0)]
  | 50 => [(0, 3, 39, 0)]
  | _ => []
/-- which part of the state a slot belongs to -/
def ja (k : Nat) (i : Int) : Nat := match jf (jp k) i with
  | some q => q.1.toNat
  | none => 0
/-- parts that are as they were; groups that are; whether aside, whether kept is a copy -/
abbrev zS : Type := (Nat → Prop) × (Nat → Prop) × Prop × Prop
def jq (S : zS) (m : zM) (g k : Nat) (i : Int) : Prop := g = 4 → 0 ≤ i → i < 1619 → (k = 46 → S.2.2.1) ∧ (k = 47 → S.2.2.2 ∨ m 4 44 3 = 1)
theorem jq_of {S : zS} {m : zM} {g k : Nat} {i : Int} (h : decide (k = 46 ∨ k = 47) = false) : jq S m g k i := fun _ _ _ => by
  have h := of_decide_eq_false h
  exact ⟨fun e => absurd (.inl e) h, fun e => absurd (.inr e) h⟩
/-- bounds; what is as it was in m0 -/
def J (S : zS) (m0 : zM) (B : Int) (m : zM) : Prop := (∀ g k i, jq S m g k i → jl k i ≤ m g k i ∧ m g k i ≤ jh B k i) ∧ ∀ g k i, S.1 (ja k i) ∨ S.2.1 g → m g k i = m0 g k i
theorem jh_mono {B B' : Int} (h : B ≤ B') (k : Nat) (i : Int) : jh B k i ≤ jh B' k i := by
  unfold jh jhi
  split
  · split <;> omega
  · omega
theorem J.up {S : zS} {m0 m : zM} {B B' : Int} (h : J S m0 B m) (hb : B ≤ B') : J S m0 B' m := ⟨fun g k i hq => ⟨(h.1 g k i hq).1, Int.le_trans (h.1 g k i hq).2 (jh_mono hb k i)⟩, h.2⟩
/-- a store; not that an image is (44, 3) -/
theorem J.upd {S : zS} {m0 m m1 : zM} {B : Int} {g k f : Nat} {i x : Int} (h : J S m0 B m) (hm : m1 = z_upd m g k i x) (hx : jl k i ≤ x ∧ x ≤ jh B k i) (h3 : k = 44 → i ≠ 3) (ha : ja k i = f) (hf : ¬ S.1 f) (hg : ¬ S.2.1 g) : J S m0 B m1 := by
  subst hm
  subst ha
  have e3 : z_upd m g k i x 4 44 3 = m 4 44 3 := by
    unfold z_upd
    rw [if_neg (fun e => h3 e.2.1.symm e.2.2.symm)]
  refine ⟨fun g' k' i' hq => ?_, fun g' k' i' h9 => ?_⟩
  · have hq' : jq S m g' k' i' := fun e1 e2 e4 => by
      have h5 := hq e1 e2 e4
      rw [e3] at h5
      exact h5
    unfold z_upd
    split
    · rename_i e
      obtain ⟨rfl, rfl, rfl⟩ := e
      exact hx
    · exact h.1 g' k' i' hq'
  · unfold z_upd
    split
    · rename_i e
      obtain ⟨rfl, rfl, rfl⟩ := e
      rcases h9 with h9 | h9
      · exact absurd h9 hf
      · exact absurd h9 hg
    · exact h.2 g' k' i' h9
/-- one more copy that is known serves less -/
theorem J.wk {p q p' q' : Prop} {F G : Nat → Prop} {B : Int} {m0 m : zM} (h : J (F, G, p, q) m0 B m) (hp : p' → p) (hq : q' → q) : J (F, G, p', q') m0 B m := ⟨fun g k i hj => h.1 g k i (fun e1 e2 e3 => ⟨fun e => hp ((hj e1 e2 e3).1 e), fun e => ((hj e1 e2 e3).2 e).imp hq id⟩), h.2⟩
theorem J.rf {S : zS} {m : zM} {B : Int} (h : ∀ g k i, jq S m g k i → jl k i ≤ m g k i ∧ m g k i ≤ jh B k i) : J S m B m := ⟨h, fun _ _ _ _ => rfl⟩
/-- anew, from here on -/
theorem J.nx {F G F' G' : Nat → Prop} {p q : Prop} {m0 m : zM} {B : Int} (h : J (F, G, p, q) m0 B m) : J (F', G', p, q) m B m := J.rf h.1
theorem J.eqf {S : zS} {m0 m : zM} {B : Int} {g k : Nat} {i : Int} (f : Nat) (h : J S m0 B m) (ha : ja k i = f) (hf : S.1 f) : m g k i = m0 g k i := h.2 g k i (.inl (by rw [ha]; exact hf))
theorem J.eqg {S : zS} {m0 m : zM} {B : Int} {g k : Nat} {i : Int} (h : J S m0 B m) (hg : S.2.1 g) : m g k i = m0 g k i := h.2 g k i (.inr hg)
theorem ja_at {k f : Nat} {i a b y : Int} (hi : a ≤ i ∧ i ≤ b) (n : Nat) (h : (jp k)[n]? = some (a, b, y, 0)) (hs : (((jp k).take n).all fun q => decide (q.2.1 < a)) = true) (hf : y.toNat = f) : ja k i = f := by
  unfold ja
  rw [jf_at hi n (jp k) h hs]
  exact hf
theorem J.i32 {x : Int} (h : -2147483648 ≤ x ∧ x ≤ 2147483647) : -9223372036854775808 ≤ x ∧ x ≤ 9223372036854775807 := by omega
section
variable {S : zS} {m0 m m1 : zM} {B x i : Int} {g : Nat}
theorem w8_0 (h : J S m0 B m) (hm : m1 = z_upd m g 8 i x) (hi : 0 ≤ i ∧ i ≤ 8) (hx : -9223372036854775808 ≤ x ∧ x ≤ 9223372036854775807) (hf : ¬ S.1 11) (hg : ¬ S.2.1 g) : J S m0 B m1 := h.upd hm (by unfold jl jh; rw [(jf_no (show (0 : Int) ≤ i ∧ i ≤ (8 : Int) by omega) (jb 8) rfl)]; exact hx) (fun e => absurd e (by decide)) (ja_at (show (0 : Int) ≤ i ∧ i ≤ (9 : Int) by omega) 0 rfl rfl rfl) hf hg
theorem r8_9 (h : J S m0 B m) (g : Nat) : 0 ≤ m g 8 9 ∧ m g 8 9 ≤ 2000000000 := by
  have h1 := h.1 g 8 9 (jq_of rfl)
  unfold jl jh at h1
  rw [(jf_at (show (9 : Int) ≤ 9 ∧ (9 : Int) ≤ 9 by omega) 0 (jb 8) rfl rfl)] at h1
  exact h1
theorem w8_9 (h : J S m0 B m) (hm : m1 = z_upd m g 8 9 x) (hx : 0 ≤ x ∧ x ≤ 2000000000) (hf : ¬ S.1 11) (hg : ¬ S.2.1 g) : J S m0 B m1 := h.upd hm (by unfold jl jh; rw [(jf_at (show (9 : Int) ≤ 9 ∧ (9 : Int) ≤ 9 by omega) 0 (jb 8) rfl rfl)]; exact hx) (fun e => absurd e (by decide)) (ja_at (show (0 : Int) ≤ 9 ∧ (9 : Int) ≤ 9 by omega) 0 rfl rfl rfl) hf hg
theorem w8_10 (h : J S m0 B m) (hm : m1 = z_upd m g 8 10 x) (hx : -9223372036854775808 ≤ x ∧ x ≤ 9223372036854775807) (hf : ¬ S.1 12) (hg : ¬ S.2.1 g) : J S m0 B m1 := h.upd hm (by unfold jl jh; rw [(jf_no (show (10 : Int) ≤ 10 ∧ (10 : Int) ≤ 10 by omega) (jb 8) rfl)]; exact hx) (fun e => absurd e (by decide)) (ja_at (show (10 : Int) ≤ 10 ∧ (10 : Int) ≤ 12 by omega) 1 rfl rfl rfl) hf hg
theorem r8_11 (h : J S m0 B m) (g : Nat) : 0 ≤ m g 8 11 ∧ m g 8 11 ≤ 1 := by
  have h1 := h.1 g 8 11 (jq_of rfl)
  unfold jl jh at h1
  rw [(jf_at (show (11 : Int) ≤ 11 ∧ (11 : Int) ≤ 11 by omega) 1 (jb 8) rfl rfl)] at h1
  exact h1
theorem w8_11 (h : J S m0 B m) (hm : m1 = z_upd m g 8 11 x) (hx : 0 ≤ x ∧ x ≤ 1) (hf : ¬ S.1 12) (hg : ¬ S.2.1 g) : J S m0 B m1 := h.upd hm (by unfold jl jh; rw [(jf_at (show (11 : Int) ≤ 11 ∧ (11 : Int) ≤ 11 by omega) 1 (jb 8) rfl rfl)]; exact hx) (fun e => absurd e (by decide)) (ja_at (show (10 : Int) ≤ 11 ∧ (11 : Int) ≤ 12 by omega) 1 rfl rfl rfl) hf hg
theorem r8_12 (h : J S m0 B m) (g : Nat) : 0 ≤ m g 8 12 ∧ m g 8 12 ≤ 1 := by
  have h1 := h.1 g 8 12 (jq_of rfl)
  unfold jl jh at h1
  rw [(jf_at (show (12 : Int) ≤ 12 ∧ (12 : Int) ≤ 12 by omega) 2 (jb 8) rfl rfl)] at h1
  exact h1
theorem w8_12 (h : J S m0 B m) (hm : m1 = z_upd m g 8 12 x) (hx : 0 ≤ x ∧ x ≤ 1) (hf : ¬ S.1 12) (hg : ¬ S.2.1 g) : J S m0 B m1 := h.upd hm (by unfold jl jh; rw [(jf_at (show (12 : Int) ≤ 12 ∧ (12 : Int) ≤ 12 by omega) 2 (jb 8) rfl rfl)]; exact hx) (fun e => absurd e (by decide)) (ja_at (show (10 : Int) ≤ 12 ∧ (12 : Int) ≤ 12 by omega) 1 rfl rfl rfl) hf hg
theorem w8_13 (h : J S m0 B m) (hm : m1 = z_upd m g 8 i x) (hi : 13 ≤ i ∧ i ≤ 15) (hx : -9223372036854775808 ≤ x ∧ x ≤ 9223372036854775807) (hf : ¬ S.1 13) (hg : ¬ S.2.1 g) : J S m0 B m1 := h.upd hm (by unfold jl jh; rw [(jf_no (show (13 : Int) ≤ i ∧ i ≤ (15 : Int) by omega) (jb 8) rfl)]; exact hx) (fun e => absurd e (by decide)) (ja_at (show (13 : Int) ≤ i ∧ i ≤ (15 : Int) by omega) 2 rfl rfl rfl) hf hg
theorem w9_0 (h : J S m0 B m) (hm : m1 = z_upd m g 9 0 x) (hx : -9223372036854775808 ≤ x ∧ x ≤ 9223372036854775807) (hf : ¬ S.1 3) (hg : ¬ S.2.1 g) : J S m0 B m1 := h.upd hm (by unfold jl jh; rw [(jf_no (show (0 : Int) ≤ 0 ∧ (0 : Int) ≤ 0 by omega) (jb 9) rfl)]; exact hx) (fun e => absurd e (by decide)) (ja_at (show (0 : Int) ≤ 0 ∧ (0 : Int) ≤ 0 by omega) 0 rfl rfl rfl) hf hg
theorem r10_0 (h : J S m0 B m) (g : Nat) (hi : 0 ≤ i ∧ i ≤ 4) : 0 ≤ m g 10 i ∧ m g 10 i ≤ 1000000 := by
  have h1 := h.1 g 10 i (jq_of rfl)
  unfold jl jh at h1
  rw [(jf_at (show (0 : Int) ≤ i ∧ i ≤ (4 : Int) by omega) 0 (jb 10) rfl rfl)] at h1
  exact h1
theorem w10_0 (h : J S m0 B m) (hm : m1 = z_upd m g 10 i x) (hi : 0 ≤ i ∧ i ≤ 4) (hx : 0 ≤ x ∧ x ≤ 1000000) (hf : ¬ S.1 3) (hg : ¬ S.2.1 g) : J S m0 B m1 := h.upd hm (by unfold jl jh; rw [(jf_at (show (0 : Int) ≤ i ∧ i ≤ (4 : Int) by omega) 0 (jb 10) rfl rfl)]; exact hx) (fun e => absurd e (by decide)) (ja_at (show (0 : Int) ≤ i ∧ i ≤ (12 : Int) by omega) 0 rfl rfl rfl) hf hg
theorem r10_5 (h : J S m0 B m) (g : Nat) : 1 ≤ m g 10 5 ∧ m g 10 5 ≤ 6 := by
  have h1 := h.1 g 10 5 (jq_of rfl)
  unfold jl jh at h1
  rw [(jf_at (show (5 : Int) ≤ 5 ∧ (5 : Int) ≤ 5 by omega) 1 (jb 10) rfl rfl)] at h1
  exact h1
theorem w10_5 (h : J S m0 B m) (hm : m1 = z_upd m g 10 5 x) (hx : 1 ≤ x ∧ x ≤ 6) (hf : ¬ S.1 3) (hg : ¬ S.2.1 g) : J S m0 B m1 := h.upd hm (by unfold jl jh; rw [(jf_at (show (5 : Int) ≤ 5 ∧ (5 : Int) ≤ 5 by omega) 1 (jb 10) rfl rfl)]; exact hx) (fun e => absurd e (by decide)) (ja_at (show (0 : Int) ≤ 5 ∧ (5 : Int) ≤ 12 by omega) 0 rfl rfl rfl) hf hg
theorem r10_6 (h : J S m0 B m) (g : Nat) (hi : 6 ≤ i ∧ i ≤ 12) : 0 ≤ m g 10 i ∧ m g 10 i ≤ 1000000 := by
  have h1 := h.1 g 10 i (jq_of rfl)
  unfold jl jh at h1
  rw [(jf_at (show (6 : Int) ≤ i ∧ i ≤ (12 : Int) by omega) 2 (jb 10) rfl rfl)] at h1
  exact h1
theorem w10_6 (h : J S m0 B m) (hm : m1 = z_upd m g 10 i x) (hi : 6 ≤ i ∧ i ≤ 12) (hx : 0 ≤ x ∧ x ≤ 1000000) (hf : ¬ S.1 3) (hg : ¬ S.2.1 g) : J S m0 B m1 := h.upd hm (by unfold jl jh; rw [(jf_at (show (6 : Int) ≤ i ∧ i ≤ (12 : Int) by omega) 2 (jb 10) rfl rfl)]; exact hx) (fun e => absurd e (by decide)) (ja_at (show (0 : Int) ≤ i ∧ i ≤ (12 : Int) by omega) 0 rfl rfl rfl) hf hg
theorem w11_0 (h : J S m0 B m) (hm : m1 = z_upd m g 11 i x) (hi : 0 ≤ i ∧ i ≤ 6) (hx : -9223372036854775808 ≤ x ∧ x ≤ 9223372036854775807) (hf : ¬ S.1 1) (hg : ¬ S.2.1 g) : J S m0 B m1 := h.upd hm (by unfold jl jh; rw [(jf_no (show (0 : Int) ≤ i ∧ i ≤ (6 : Int) by omega) (jb 11) rfl)]; exact hx) (fun e => absurd e (by decide)) (ja_at (show (0 : Int) ≤ i ∧ i ≤ (7 : Int) by omega) 0 rfl rfl rfl) hf hg
theorem r11_7 (h : J S m0 B m) (g : Nat) : 0 ≤ m g 11 7 ∧ m g 11 7 ≤ 16 := by
  have h1 := h.1 g 11 7 (jq_of rfl)
  unfold jl jh at h1
  rw [(jf_at (show (7 : Int) ≤ 7 ∧ (7 : Int) ≤ 7 by omega) 0 (jb 11) rfl rfl)] at h1
  exact h1
theorem w11_7 (h : J S m0 B m) (hm : m1 = z_upd m g 11 7 x) (hx : 0 ≤ x ∧ x ≤ 16) (hf : ¬ S.1 1) (hg : ¬ S.2.1 g) : J S m0 B m1 := h.upd hm (by unfold jl jh; rw [(jf_at (show (7 : Int) ≤ 7 ∧ (7 : Int) ≤ 7 by omega) 0 (jb 11) rfl rfl)]; exact hx) (fun e => absurd e (by decide)) (ja_at (show (0 : Int) ≤ 7 ∧ (7 : Int) ≤ 7 by omega) 0 rfl rfl rfl) hf hg
theorem r12_0 (h : J S m0 B m) (g : Nat) (hi : 0 ≤ i ∧ i ≤ 7) : 0 ≤ m g 12 i ∧ m g 12 i ≤ 6 := by
  have h1 := h.1 g 12 i (jq_of rfl)
  unfold jl jh at h1
  rw [(jf_at (show (0 : Int) ≤ i ∧ i ≤ (7 : Int) by omega) 0 (jb 12) rfl rfl)] at h1
  exact h1
theorem w12_0 (h : J S m0 B m) (hm : m1 = z_upd m g 12 i x) (hi : 0 ≤ i ∧ i ≤ 7) (hx : 0 ≤ x ∧ x ≤ 6) (hf : ¬ S.1 1) (hg : ¬ S.2.1 g) : J S m0 B m1 := h.upd hm (by unfold jl jh; rw [(jf_at (show (0 : Int) ≤ i ∧ i ≤ (7 : Int) by omega) 0 (jb 12) rfl rfl)]; exact hx) (fun e => absurd e (by decide)) (ja_at (show (0 : Int) ≤ i ∧ i ≤ (7 : Int) by omega) 0 rfl rfl rfl) hf hg
theorem r13_0 (h : J S m0 B m) (g : Nat) (hi : 0 ≤ i ∧ i ≤ 47) : 0 ≤ m g 13 i ∧ m g 13 i ≤ 86399 := by
  have h1 := h.1 g 13 i (jq_of rfl)
  unfold jl jh at h1
  rw [(jf_at (show (0 : Int) ≤ i ∧ i ≤ (47 : Int) by omega) 0 (jb 13) rfl rfl)] at h1
  exact h1
theorem w13_0 (h : J S m0 B m) (hm : m1 = z_upd m g 13 i x) (hi : 0 ≤ i ∧ i ≤ 47) (hx : 0 ≤ x ∧ x ≤ 86399) (hf : ¬ S.1 1) (hg : ¬ S.2.1 g) : J S m0 B m1 := h.upd hm (by unfold jl jh; rw [(jf_at (show (0 : Int) ≤ i ∧ i ≤ (47 : Int) by omega) 0 (jb 13) rfl rfl)]; exact hx) (fun e => absurd e (by decide)) (ja_at (show (0 : Int) ≤ i ∧ i ≤ (47 : Int) by omega) 0 rfl rfl rfl) hf hg
theorem r14_0 (h : J S m0 B m) (g : Nat) (hi : 0 ≤ i ∧ i ≤ 47) : 0 ≤ m g 14 i ∧ m g 14 i ≤ 3 := by
  have h1 := h.1 g 14 i (jq_of rfl)
  unfold jl jh at h1
  rw [(jf_at (show (0 : Int) ≤ i ∧ i ≤ (47 : Int) by omega) 0 (jb 14) rfl rfl)] at h1
  exact h1
theorem w14_0 (h : J S m0 B m) (hm : m1 = z_upd m g 14 i x) (hi : 0 ≤ i ∧ i ≤ 47) (hx : 0 ≤ x ∧ x ≤ 3) (hf : ¬ S.1 1) (hg : ¬ S.2.1 g) : J S m0 B m1 := h.upd hm (by unfold jl jh; rw [(jf_at (show (0 : Int) ≤ i ∧ i ≤ (47 : Int) by omega) 0 (jb 14) rfl rfl)]; exact hx) (fun e => absurd e (by decide)) (ja_at (show (0 : Int) ≤ i ∧ i ≤ (47 : Int) by omega) 0 rfl rfl rfl) hf hg
theorem r15_0 (h : J S m0 B m) (g : Nat) (hi : 0 ≤ i ∧ i ≤ 3) : (-1) ≤ m g 15 i ∧ m g 15 i ≤ 364 := by
  have h1 := h.1 g 15 i (jq_of rfl)
  unfold jl jh at h1
  rw [(jf_at (show (0 : Int) ≤ i ∧ i ≤ (3 : Int) by omega) 0 (jb 15) rfl rfl)] at h1
  exact h1
theorem w15_0 (h : J S m0 B m) (hm : m1 = z_upd m g 15 i x) (hi : 0 ≤ i ∧ i ≤ 3) (hx : (-1) ≤ x ∧ x ≤ 364) (hf : ¬ S.1 1) (hg : ¬ S.2.1 g) : J S m0 B m1 := h.upd hm (by unfold jl jh; rw [(jf_at (show (0 : Int) ≤ i ∧ i ≤ (3 : Int) by omega) 0 (jb 15) rfl rfl)]; exact hx) (fun e => absurd e (by decide)) (ja_at (show (0 : Int) ≤ i ∧ i ≤ (3 : Int) by omega) 0 rfl rfl rfl) hf hg
theorem r16_0 (h : J S m0 B m) (g : Nat) (hi : 0 ≤ i ∧ i ≤ 27) : 0 ≤ m g 16 i ∧ m g 16 i ≤ 7 := by
  have h1 := h.1 g 16 i (jq_of rfl)
  unfold jl jh at h1
  rw [(jf_at (show (0 : Int) ≤ i ∧ i ≤ (27 : Int) by omega) 0 (jb 16) rfl rfl)] at h1
  exact h1
theorem w16_0 (h : J S m0 B m) (hm : m1 = z_upd m g 16 i x) (hi : 0 ≤ i ∧ i ≤ 27) (hx : 0 ≤ x ∧ x ≤ 7) (hf : ¬ S.1 1) (hg : ¬ S.2.1 g) : J S m0 B m1 := h.upd hm (by unfold jl jh; rw [(jf_at (show (0 : Int) ≤ i ∧ i ≤ (27 : Int) by omega) 0 (jb 16) rfl rfl)]; exact hx) (fun e => absurd e (by decide)) (ja_at (show (0 : Int) ≤ i ∧ i ≤ (27 : Int) by omega) 0 rfl rfl rfl) hf hg
theorem r17_0 (h : J S m0 B m) (g : Nat) (hi : 0 ≤ i ∧ i ≤ 15) : 0 ≤ m g 17 i ∧ m g 17 i ≤ 364 := by
  have h1 := h.1 g 17 i (jq_of rfl)
  unfold jl jh at h1
  rw [(jf_at (show (0 : Int) ≤ i ∧ i ≤ (15 : Int) by omega) 0 (jb 17) rfl rfl)] at h1
  exact h1
theorem w17_0 (h : J S m0 B m) (hm : m1 = z_upd m g 17 i x) (hi : 0 ≤ i ∧ i ≤ 15) (hx : 0 ≤ x ∧ x ≤ 364) (hf : ¬ S.1 1) (hg : ¬ S.2.1 g) : J S m0 B m1 := h.upd hm (by unfold jl jh; rw [(jf_at (show (0 : Int) ≤ i ∧ i ≤ (15 : Int) by omega) 0 (jb 17) rfl rfl)]; exact hx) (fun e => absurd e (by decide)) (ja_at (show (0 : Int) ≤ i ∧ i ≤ (15 : Int) by omega) 0 rfl rfl rfl) hf hg
theorem r18_0 (h : J S m0 B m) (g : Nat) (hi : 0 ≤ i ∧ i ≤ 15) : 0 ≤ m g 18 i ∧ m g 18 i ≤ 7 := by
  have h1 := h.1 g 18 i (jq_of rfl)
  unfold jl jh at h1
  rw [(jf_at (show (0 : Int) ≤ i ∧ i ≤ (15 : Int) by omega) 0 (jb 18) rfl rfl)] at h1
  exact h1
theorem w18_0 (h : J S m0 B m) (hm : m1 = z_upd m g 18 i x) (hi : 0 ≤ i ∧ i ≤ 15) (hx : 0 ≤ x ∧ x ≤ 7) (hf : ¬ S.1 1) (hg : ¬ S.2.1 g) : J S m0 B m1 := h.upd hm (by unfold jl jh; rw [(jf_at (show (0 : Int) ≤ i ∧ i ≤ (15 : Int) by omega) 0 (jb 18) rfl rfl)]; exact hx) (fun e => absurd e (by decide)) (ja_at (show (0 : Int) ≤ i ∧ i ≤ (15 : Int) by omega) 0 rfl rfl rfl) hf hg
theorem w19_0 (h : J S m0 B m) (hm : m1 = z_upd m g 19 i x) (hi : 0 ≤ i ∧ i ≤ 2) (hx : -9223372036854775808 ≤ x ∧ x ≤ 9223372036854775807) (hf : ¬ S.1 2) (hg : ¬ S.2.1 g) : J S m0 B m1 := h.upd hm (by unfold jl jh; rw [(jf_no (show (0 : Int) ≤ i ∧ i ≤ (2 : Int) by omega) (jb 19) rfl)]; exact hx) (fun e => absurd e (by decide)) (ja_at (show (0 : Int) ≤ i ∧ i ≤ (6 : Int) by omega) 0 rfl rfl rfl) hf hg
theorem r19_3 (h : J S m0 B m) (g : Nat) : 1 ≤ m g 19 3 ∧ m g 19 3 ≤ 3 := by
  have h1 := h.1 g 19 3 (jq_of rfl)
  unfold jl jh at h1
  rw [(jf_at (show (3 : Int) ≤ 3 ∧ (3 : Int) ≤ 3 by omega) 0 (jb 19) rfl rfl)] at h1
  exact h1
theorem w19_3 (h : J S m0 B m) (hm : m1 = z_upd m g 19 3 x) (hx : 1 ≤ x ∧ x ≤ 3) (hf : ¬ S.1 2) (hg : ¬ S.2.1 g) : J S m0 B m1 := h.upd hm (by unfold jl jh; rw [(jf_at (show (3 : Int) ≤ 3 ∧ (3 : Int) ≤ 3 by omega) 0 (jb 19) rfl rfl)]; exact hx) (fun e => absurd e (by decide)) (ja_at (show (0 : Int) ≤ 3 ∧ (3 : Int) ≤ 6 by omega) 0 rfl rfl rfl) hf hg
theorem r19_4 (h : J S m0 B m) (g : Nat) : 4 ≤ m g 19 4 ∧ m g 19 4 ≤ 16 := by
  have h1 := h.1 g 19 4 (jq_of rfl)
  unfold jl jh at h1
  rw [(jf_at (show (4 : Int) ≤ 4 ∧ (4 : Int) ≤ 4 by omega) 1 (jb 19) rfl rfl)] at h1
  exact h1
theorem w19_4 (h : J S m0 B m) (hm : m1 = z_upd m g 19 4 x) (hx : 4 ≤ x ∧ x ≤ 16) (hf : ¬ S.1 2) (hg : ¬ S.2.1 g) : J S m0 B m1 := h.upd hm (by unfold jl jh; rw [(jf_at (show (4 : Int) ≤ 4 ∧ (4 : Int) ≤ 4 by omega) 1 (jb 19) rfl rfl)]; exact hx) (fun e => absurd e (by decide)) (ja_at (show (0 : Int) ≤ 4 ∧ (4 : Int) ≤ 6 by omega) 0 rfl rfl rfl) hf hg
theorem r19_5 (h : J S m0 B m) (g : Nat) : 0 ≤ m g 19 5 ∧ m g 19 5 ≤ 47 := by
  have h1 := h.1 g 19 5 (jq_of rfl)
  unfold jl jh at h1
  rw [(jf_at (show (5 : Int) ≤ 5 ∧ (5 : Int) ≤ 5 by omega) 2 (jb 19) rfl rfl)] at h1
  exact h1
theorem w19_5 (h : J S m0 B m) (hm : m1 = z_upd m g 19 5 x) (hx : 0 ≤ x ∧ x ≤ 47) (hf : ¬ S.1 2) (hg : ¬ S.2.1 g) : J S m0 B m1 := h.upd hm (by unfold jl jh; rw [(jf_at (show (5 : Int) ≤ 5 ∧ (5 : Int) ≤ 5 by omega) 2 (jb 19) rfl rfl)]; exact hx) (fun e => absurd e (by decide)) (ja_at (show (0 : Int) ≤ 5 ∧ (5 : Int) ≤ 6 by omega) 0 rfl rfl rfl) hf hg
theorem w19_6 (h : J S m0 B m) (hm : m1 = z_upd m g 19 6 x) (hx : -9223372036854775808 ≤ x ∧ x ≤ 9223372036854775807) (hf : ¬ S.1 2) (hg : ¬ S.2.1 g) : J S m0 B m1 := h.upd hm (by unfold jl jh; rw [(jf_no (show (6 : Int) ≤ 6 ∧ (6 : Int) ≤ 6 by omega) (jb 19) rfl)]; exact hx) (fun e => absurd e (by decide)) (ja_at (show (0 : Int) ≤ 6 ∧ (6 : Int) ≤ 6 by omega) 0 rfl rfl rfl) hf hg
theorem r20_0 (h : J S m0 B m) (g : Nat) (hi : 0 ≤ i ∧ i ≤ 47) : (-500) ≤ m g 20 i ∧ m g 20 i ≤ 500 := by
  have h1 := h.1 g 20 i (jq_of rfl)
  unfold jl jh at h1
  rw [(jf_at (show (0 : Int) ≤ i ∧ i ≤ (47 : Int) by omega) 0 (jb 20) rfl rfl)] at h1
  exact h1
theorem w20_0 (h : J S m0 B m) (hm : m1 = z_upd m g 20 i x) (hi : 0 ≤ i ∧ i ≤ 47) (hx : (-500) ≤ x ∧ x ≤ 500) (hf : ¬ S.1 2) (hg : ¬ S.2.1 g) : J S m0 B m1 := h.upd hm (by unfold jl jh; rw [(jf_at (show (0 : Int) ≤ i ∧ i ≤ (47 : Int) by omega) 0 (jb 20) rfl rfl)]; exact hx) (fun e => absurd e (by decide)) (ja_at (show (0 : Int) ≤ i ∧ i ≤ (47 : Int) by omega) 0 rfl rfl rfl) hf hg
theorem r21_0 (h : J S m0 B m) (g : Nat) (hi : 0 ≤ i ∧ i ≤ 47) : (-500) ≤ m g 21 i ∧ m g 21 i ≤ 500 := by
  have h1 := h.1 g 21 i (jq_of rfl)
  unfold jl jh at h1
  rw [(jf_at (show (0 : Int) ≤ i ∧ i ≤ (47 : Int) by omega) 0 (jb 21) rfl rfl)] at h1
  exact h1
theorem w21_0 (h : J S m0 B m) (hm : m1 = z_upd m g 21 i x) (hi : 0 ≤ i ∧ i ≤ 47) (hx : (-500) ≤ x ∧ x ≤ 500) (hf : ¬ S.1 2) (hg : ¬ S.2.1 g) : J S m0 B m1 := h.upd hm (by unfold jl jh; rw [(jf_at (show (0 : Int) ≤ i ∧ i ≤ (47 : Int) by omega) 0 (jb 21) rfl rfl)]; exact hx) (fun e => absurd e (by decide)) (ja_at (show (0 : Int) ≤ i ∧ i ≤ (47 : Int) by omega) 0 rfl rfl rfl) hf hg
theorem w22_0 (h : J S m0 B m) (hm : m1 = z_upd m g 22 i x) (hi : 0 ≤ i ∧ i ≤ 15) (hx : -9223372036854775808 ≤ x ∧ x ≤ 9223372036854775807) (hf : ¬ S.1 2) (hg : ¬ S.2.1 g) : J S m0 B m1 := h.upd hm (by unfold jl jh; rw [(jf_no (show (0 : Int) ≤ i ∧ i ≤ (15 : Int) by omega) (jb 22) rfl)]; exact hx) (fun e => absurd e (by decide)) (ja_at (show (0 : Int) ≤ i ∧ i ≤ (15 : Int) by omega) 0 rfl rfl rfl) hf hg
theorem w23_0 (h : J S m0 B m) (hm : m1 = z_upd m g 23 i x) (hi : 0 ≤ i ∧ i ≤ 2) (hx : -9223372036854775808 ≤ x ∧ x ≤ 9223372036854775807) (hf : ¬ S.1 5) (hg : ¬ S.2.1 g) : J S m0 B m1 := h.upd hm (by unfold jl jh; rw [(jf_no (show (0 : Int) ≤ i ∧ i ≤ (2 : Int) by omega) (jb 23) rfl)]; exact hx) (fun e => absurd e (by decide)) (ja_at (show (0 : Int) ≤ i ∧ i ≤ (3 : Int) by omega) 0 rfl rfl rfl) hf hg
theorem r23_3 (h : J S m0 B m) (g : Nat) : 0 ≤ m g 23 3 ∧ m g 23 3 ≤ B := by
  have h1 := h.1 g 23 3 (jq_of rfl)
  unfold jl jh at h1
  rw [(jf_at (show (3 : Int) ≤ 3 ∧ (3 : Int) ≤ 3 by omega) 0 (jb 23) rfl rfl)] at h1
  exact h1
theorem w23_3 (h : J S m0 B m) (hm : m1 = z_upd m g 23 3 x) (hx : 0 ≤ x ∧ x ≤ B) (hf : ¬ S.1 5) (hg : ¬ S.2.1 g) : J S m0 B m1 := h.upd hm (by unfold jl jh; rw [(jf_at (show (3 : Int) ≤ 3 ∧ (3 : Int) ≤ 3 by omega) 0 (jb 23) rfl rfl)]; exact hx) (fun e => absurd e (by decide)) (ja_at (show (0 : Int) ≤ 3 ∧ (3 : Int) ≤ 3 by omega) 0 rfl rfl rfl) hf hg
theorem w24_0 (h : J S m0 B m) (hm : m1 = z_upd m g 24 i x) (hi : 0 ≤ i ∧ i ≤ 27) (hx : -9223372036854775808 ≤ x ∧ x ≤ 9223372036854775807) (hf : ¬ S.1 10) (hg : ¬ S.2.1 g) : J S m0 B m1 := h.upd hm (by unfold jl jh; rw [(jf_no (show (0 : Int) ≤ i ∧ i ≤ (27 : Int) by omega) (jb 24) rfl)]; exact hx) (fun e => absurd e (by decide)) (ja_at (show (0 : Int) ≤ i ∧ i ≤ (27 : Int) by omega) 0 rfl rfl rfl) hf hg
theorem w25_0 (h : J S m0 B m) (hm : m1 = z_upd m g 25 i x) (hi : 0 ≤ i ∧ i ≤ 27) (hx : -9223372036854775808 ≤ x ∧ x ≤ 9223372036854775807) (hf : ¬ S.1 5) (hg : ¬ S.2.1 g) : J S m0 B m1 := h.upd hm (by unfold jl jh; rw [(jf_no (show (0 : Int) ≤ i ∧ i ≤ (27 : Int) by omega) (jb 25) rfl)]; exact hx) (fun e => absurd e (by decide)) (ja_at (show (0 : Int) ≤ i ∧ i ≤ (27 : Int) by omega) 0 rfl rfl rfl) hf hg
theorem w26_0 (h : J S m0 B m) (hm : m1 = z_upd m g 26 i x) (hi : 0 ≤ i ∧ i ≤ 197) (hx : -9223372036854775808 ≤ x ∧ x ≤ 9223372036854775807) (hf : ¬ S.1 5) (hg : ¬ S.2.1 g) : J S m0 B m1 := h.upd hm (by unfold jl jh; rw [(jf_no (show (0 : Int) ≤ i ∧ i ≤ (197 : Int) by omega) (jb 26) rfl)]; exact hx) (fun e => absurd e (by decide)) (ja_at (show (0 : Int) ≤ i ∧ i ≤ (197 : Int) by omega) 0 rfl rfl rfl) hf hg
theorem w27_0 (h : J S m0 B m) (hm : m1 = z_upd m g 27 i x) (hi : 0 ≤ i ∧ i ≤ 1) (hx : -9223372036854775808 ≤ x ∧ x ≤ 9223372036854775807) (hf : ¬ S.1 7) (hg : ¬ S.2.1 g) : J S m0 B m1 := h.upd hm (by unfold jl jh; rw [(jf_no (show (0 : Int) ≤ i ∧ i ≤ (1 : Int) by omega) (jb 27) rfl)]; exact hx) (fun e => absurd e (by decide)) (ja_at (show (0 : Int) ≤ i ∧ i ≤ (9 : Int) by omega) 0 rfl rfl rfl) hf hg
theorem r27_2 (h : J S m0 B m) (g : Nat) : 0 ≤ m g 27 2 ∧ m g 27 2 ≤ B := by
  have h1 := h.1 g 27 2 (jq_of rfl)
  unfold jl jh at h1
  rw [(jf_at (show (2 : Int) ≤ 2 ∧ (2 : Int) ≤ 2 by omega) 0 (jb 27) rfl rfl)] at h1
  exact h1
theorem w27_2 (h : J S m0 B m) (hm : m1 = z_upd m g 27 2 x) (hx : 0 ≤ x ∧ x ≤ B) (hf : ¬ S.1 7) (hg : ¬ S.2.1 g) : J S m0 B m1 := h.upd hm (by unfold jl jh; rw [(jf_at (show (2 : Int) ≤ 2 ∧ (2 : Int) ≤ 2 by omega) 0 (jb 27) rfl rfl)]; exact hx) (fun e => absurd e (by decide)) (ja_at (show (0 : Int) ≤ 2 ∧ (2 : Int) ≤ 9 by omega) 0 rfl rfl rfl) hf hg
theorem w27_3 (h : J S m0 B m) (hm : m1 = z_upd m g 27 i x) (hi : 3 ≤ i ∧ i ≤ 8) (hx : -9223372036854775808 ≤ x ∧ x ≤ 9223372036854775807) (hf : ¬ S.1 7) (hg : ¬ S.2.1 g) : J S m0 B m1 := h.upd hm (by unfold jl jh; rw [(jf_no (show (3 : Int) ≤ i ∧ i ≤ (8 : Int) by omega) (jb 27) rfl)]; exact hx) (fun e => absurd e (by decide)) (ja_at (show (0 : Int) ≤ i ∧ i ≤ (9 : Int) by omega) 0 rfl rfl rfl) hf hg
theorem r27_9 (h : J S m0 B m) (g : Nat) : 0 ≤ m g 27 9 ∧ m g 27 9 ≤ 2000000000 := by
  have h1 := h.1 g 27 9 (jq_of rfl)
  unfold jl jh at h1
  rw [(jf_at (show (9 : Int) ≤ 9 ∧ (9 : Int) ≤ 9 by omega) 1 (jb 27) rfl rfl)] at h1
  exact h1
theorem w27_9 (h : J S m0 B m) (hm : m1 = z_upd m g 27 9 x) (hx : 0 ≤ x ∧ x ≤ 2000000000) (hf : ¬ S.1 7) (hg : ¬ S.2.1 g) : J S m0 B m1 := h.upd hm (by unfold jl jh; rw [(jf_at (show (9 : Int) ≤ 9 ∧ (9 : Int) ≤ 9 by omega) 1 (jb 27) rfl rfl)]; exact hx) (fun e => absurd e (by decide)) (ja_at (show (0 : Int) ≤ 9 ∧ (9 : Int) ≤ 9 by omega) 0 rfl rfl rfl) hf hg
theorem w28_0 (h : J S m0 B m) (hm : m1 = z_upd m g 28 i x) (hi : 0 ≤ i ∧ i ≤ 383) (hx : -9223372036854775808 ≤ x ∧ x ≤ 9223372036854775807) (hf : ¬ S.1 7) (hg : ¬ S.2.1 g) : J S m0 B m1 := h.upd hm (by unfold jl jh; rw [(jf_no (show (0 : Int) ≤ i ∧ i ≤ (383 : Int) by omega) (jb 28) rfl)]; exact hx) (fun e => absurd e (by decide)) (ja_at (show (0 : Int) ≤ i ∧ i ≤ (383 : Int) by omega) 0 rfl rfl rfl) hf hg
theorem w29_0 (h : J S m0 B m) (hm : m1 = z_upd m g 29 i x) (hi : 0 ≤ i ∧ i ≤ 3) (hx : -9223372036854775808 ≤ x ∧ x ≤ 9223372036854775807) (hf : ¬ S.1 7) (hg : ¬ S.2.1 g) : J S m0 B m1 := h.upd hm (by unfold jl jh; rw [(jf_no (show (0 : Int) ≤ i ∧ i ≤ (3 : Int) by omega) (jb 29) rfl)]; exact hx) (fun e => absurd e (by decide)) (ja_at (show (0 : Int) ≤ i ∧ i ≤ (3 : Int) by omega) 0 rfl rfl rfl) hf hg
theorem w30_0 (h : J S m0 B m) (hm : m1 = z_upd m g 30 i x) (hi : 0 ≤ i ∧ i ≤ 3) (hx : -9223372036854775808 ≤ x ∧ x ≤ 9223372036854775807) (hf : ¬ S.1 8) (hg : ¬ S.2.1 g) : J S m0 B m1 := h.upd hm (by unfold jl jh; rw [(jf_no (show (0 : Int) ≤ i ∧ i ≤ (3 : Int) by omega) (jb 30) rfl)]; exact hx) (fun e => absurd e (by decide)) (ja_at (show (0 : Int) ≤ i ∧ i ≤ (3 : Int) by omega) 0 rfl rfl rfl) hf hg
theorem w31_0 (h : J S m0 B m) (hm : m1 = z_upd m g 31 i x) (hi : 0 ≤ i ∧ i ≤ 3) (hx : -9223372036854775808 ≤ x ∧ x ≤ 9223372036854775807) (hf : ¬ S.1 8) (hg : ¬ S.2.1 g) : J S m0 B m1 := h.upd hm (by unfold jl jh; rw [(jf_no (show (0 : Int) ≤ i ∧ i ≤ (3 : Int) by omega) (jb 31) rfl)]; exact hx) (fun e => absurd e (by decide)) (ja_at (show (0 : Int) ≤ i ∧ i ≤ (3 : Int) by omega) 0 rfl rfl rfl) hf hg
theorem w32_0 (h : J S m0 B m) (hm : m1 = z_upd m g 32 i x) (hi : 0 ≤ i ∧ i ≤ 3) (hx : -9223372036854775808 ≤ x ∧ x ≤ 9223372036854775807) (hf : ¬ S.1 8) (hg : ¬ S.2.1 g) : J S m0 B m1 := h.upd hm (by unfold jl jh; rw [(jf_no (show (0 : Int) ≤ i ∧ i ≤ (3 : Int) by omega) (jb 32) rfl)]; exact hx) (fun e => absurd e (by decide)) (ja_at (show (0 : Int) ≤ i ∧ i ≤ (3 : Int) by omega) 0 rfl rfl rfl) hf hg
theorem w33_0 (h : J S m0 B m) (hm : m1 = z_upd m g 33 i x) (hi : 0 ≤ i ∧ i ≤ 3) (hx : -9223372036854775808 ≤ x ∧ x ≤ 9223372036854775807) (hf : ¬ S.1 9) (hg : ¬ S.2.1 g) : J S m0 B m1 := h.upd hm (by unfold jl jh; rw [(jf_no (show (0 : Int) ≤ i ∧ i ≤ (3 : Int) by omega) (jb 33) rfl)]; exact hx) (fun e => absurd e (by decide)) (ja_at (show (0 : Int) ≤ i ∧ i ≤ (3 : Int) by omega) 0 rfl rfl rfl) hf hg
theorem w34_0 (h : J S m0 B m) (hm : m1 = z_upd m g 34 i x) (hi : 0 ≤ i ∧ i ≤ 4) (hx : -9223372036854775808 ≤ x ∧ x ≤ 9223372036854775807) (hf : ¬ S.1 9) (hg : ¬ S.2.1 g) : J S m0 B m1 := h.upd hm (by unfold jl jh; rw [(jf_no (show (0 : Int) ≤ i ∧ i ≤ (4 : Int) by omega) (jb 34) rfl)]; exact hx) (fun e => absurd e (by decide)) (ja_at (show (0 : Int) ≤ i ∧ i ≤ (4 : Int) by omega) 0 rfl rfl rfl) hf hg
theorem w35_0 (h : J S m0 B m) (hm : m1 = z_upd m g 35 i x) (hi : 0 ≤ i ∧ i ≤ 4) (hx : -9223372036854775808 ≤ x ∧ x ≤ 9223372036854775807) (hf : ¬ S.1 9) (hg : ¬ S.2.1 g) : J S m0 B m1 := h.upd hm (by unfold jl jh; rw [(jf_no (show (0 : Int) ≤ i ∧ i ≤ (4 : Int) by omega) (jb 35) rfl)]; exact hx) (fun e => absurd e (by decide)) (ja_at (show (0 : Int) ≤ i ∧ i ≤ (4 : Int) by omega) 0 rfl rfl rfl) hf hg
theorem w36_0 (h : J S m0 B m) (hm : m1 = z_upd m g 36 i x) (hi : 0 ≤ i ∧ i ≤ 4) (hx : -9223372036854775808 ≤ x ∧ x ≤ 9223372036854775807) (hf : ¬ S.1 9) (hg : ¬ S.2.1 g) : J S m0 B m1 := h.upd hm (by unfold jl jh; rw [(jf_no (show (0 : Int) ≤ i ∧ i ≤ (4 : Int) by omega) (jb 36) rfl)]; exact hx) (fun e => absurd e (by decide)) (ja_at (show (0 : Int) ≤ i ∧ i ≤ (4 : Int) by omega) 0 rfl rfl rfl) hf hg
theorem w37_0 (h : J S m0 B m) (hm : m1 = z_upd m g 37 0 x) (hx : -9223372036854775808 ≤ x ∧ x ≤ 9223372036854775807) (hf : ¬ S.1 6) (hg : ¬ S.2.1 g) : J S m0 B m1 := h.upd hm (by unfold jl jh; rw [(jf_no (show (0 : Int) ≤ 0 ∧ (0 : Int) ≤ 0 by omega) (jb 37) rfl)]; exact hx) (fun e => absurd e (by decide)) (ja_at (show (0 : Int) ≤ 0 ∧ (0 : Int) ≤ 1 by omega) 0 rfl rfl rfl) hf hg
theorem r37_1 (h : J S m0 B m) (g : Nat) : 0 ≤ m g 37 1 ∧ m g 37 1 ≤ B := by
  have h1 := h.1 g 37 1 (jq_of rfl)
  unfold jl jh at h1
  rw [(jf_at (show (1 : Int) ≤ 1 ∧ (1 : Int) ≤ 1 by omega) 0 (jb 37) rfl rfl)] at h1
  exact h1
theorem w37_1 (h : J S m0 B m) (hm : m1 = z_upd m g 37 1 x) (hx : 0 ≤ x ∧ x ≤ B) (hf : ¬ S.1 6) (hg : ¬ S.2.1 g) : J S m0 B m1 := h.upd hm (by unfold jl jh; rw [(jf_at (show (1 : Int) ≤ 1 ∧ (1 : Int) ≤ 1 by omega) 0 (jb 37) rfl rfl)]; exact hx) (fun e => absurd e (by decide)) (ja_at (show (0 : Int) ≤ 1 ∧ (1 : Int) ≤ 1 by omega) 0 rfl rfl rfl) hf hg
theorem w38_0 (h : J S m0 B m) (hm : m1 = z_upd m g 38 i x) (hi : 0 ≤ i ∧ i ≤ 119) (hx : -9223372036854775808 ≤ x ∧ x ≤ 9223372036854775807) (hf : ¬ S.1 6) (hg : ¬ S.2.1 g) : J S m0 B m1 := h.upd hm (by unfold jl jh; rw [(jf_no (show (0 : Int) ≤ i ∧ i ≤ (119 : Int) by omega) (jb 38) rfl)]; exact hx) (fun e => absurd e (by decide)) (ja_at (show (0 : Int) ≤ i ∧ i ≤ (119 : Int) by omega) 0 rfl rfl rfl) hf hg
theorem r39_0 (h : J S m0 B m) (g : Nat) : 0 ≤ m g 39 0 ∧ m g 39 0 ≤ 1 := by
  have h1 := h.1 g 39 0 (jq_of rfl)
  unfold jl jh at h1
  rw [(jf_at (show (0 : Int) ≤ 0 ∧ (0 : Int) ≤ 0 by omega) 0 (jb 39) rfl rfl)] at h1
  exact h1
theorem w39_0 (h : J S m0 B m) (hm : m1 = z_upd m g 39 0 x) (hx : 0 ≤ x ∧ x ≤ 1) (hf : ¬ S.1 4) (hg : ¬ S.2.1 g) : J S m0 B m1 := h.upd hm (by unfold jl jh; rw [(jf_at (show (0 : Int) ≤ 0 ∧ (0 : Int) ≤ 0 by omega) 0 (jb 39) rfl rfl)]; exact hx) (fun e => absurd e (by decide)) (ja_at (show (0 : Int) ≤ 0 ∧ (0 : Int) ≤ 4 by omega) 0 rfl rfl rfl) hf hg
theorem w39_1 (h : J S m0 B m) (hm : m1 = z_upd m g 39 1 x) (hx : -9223372036854775808 ≤ x ∧ x ≤ 9223372036854775807) (hf : ¬ S.1 4) (hg : ¬ S.2.1 g) : J S m0 B m1 := h.upd hm (by unfold jl jh; rw [(jf_no (show (1 : Int) ≤ 1 ∧ (1 : Int) ≤ 1 by omega) (jb 39) rfl)]; exact hx) (fun e => absurd e (by decide)) (ja_at (show (0 : Int) ≤ 1 ∧ (1 : Int) ≤ 4 by omega) 0 rfl rfl rfl) hf hg
theorem r39_2 (h : J S m0 B m) (g : Nat) : 0 ≤ m g 39 2 ∧ m g 39 2 ≤ B := by
  have h1 := h.1 g 39 2 (jq_of rfl)
  unfold jl jh at h1
  rw [(jf_at (show (2 : Int) ≤ 2 ∧ (2 : Int) ≤ 2 by omega) 1 (jb 39) rfl rfl)] at h1
  exact h1
theorem w39_2 (h : J S m0 B m) (hm : m1 = z_upd m g 39 2 x) (hx : 0 ≤ x ∧ x ≤ B) (hf : ¬ S.1 4) (hg : ¬ S.2.1 g) : J S m0 B m1 := h.upd hm (by unfold jl jh; rw [(jf_at (show (2 : Int) ≤ 2 ∧ (2 : Int) ≤ 2 by omega) 1 (jb 39) rfl rfl)]; exact hx) (fun e => absurd e (by decide)) (ja_at (show (0 : Int) ≤ 2 ∧ (2 : Int) ≤ 4 by omega) 0 rfl rfl rfl) hf hg
theorem w39_3 (h : J S m0 B m) (hm : m1 = z_upd m g 39 3 x) (hx : -9223372036854775808 ≤ x ∧ x ≤ 9223372036854775807) (hf : ¬ S.1 4) (hg : ¬ S.2.1 g) : J S m0 B m1 := h.upd hm (by unfold jl jh; rw [(jf_no (show (3 : Int) ≤ 3 ∧ (3 : Int) ≤ 3 by omega) (jb 39) rfl)]; exact hx) (fun e => absurd e (by decide)) (ja_at (show (0 : Int) ≤ 3 ∧ (3 : Int) ≤ 4 by omega) 0 rfl rfl rfl) hf hg
theorem r39_4 (h : J S m0 B m) (g : Nat) : 0 ≤ m g 39 4 ∧ m g 39 4 ≤ 2000000300 := by
  have h1 := h.1 g 39 4 (jq_of rfl)
  unfold jl jh at h1
  rw [(jf_at (show (4 : Int) ≤ 4 ∧ (4 : Int) ≤ 4 by omega) 2 (jb 39) rfl rfl)] at h1
  exact h1
theorem w39_4 (h : J S m0 B m) (hm : m1 = z_upd m g 39 4 x) (hx : 0 ≤ x ∧ x ≤ 2000000300) (hf : ¬ S.1 4) (hg : ¬ S.2.1 g) : J S m0 B m1 := h.upd hm (by unfold jl jh; rw [(jf_at (show (4 : Int) ≤ 4 ∧ (4 : Int) ≤ 4 by omega) 2 (jb 39) rfl rfl)]; exact hx) (fun e => absurd e (by decide)) (ja_at (show (0 : Int) ≤ 4 ∧ (4 : Int) ≤ 4 by omega) 0 rfl rfl rfl) hf hg
theorem w40_0 (h : J S m0 B m) (hm : m1 = z_upd m g 40 i x) (hi : 0 ≤ i ∧ i ≤ 3) (hx : -9223372036854775808 ≤ x ∧ x ≤ 9223372036854775807) (hf : ¬ S.1 14) (hg : ¬ S.2.1 g) : J S m0 B m1 := h.upd hm (by unfold jl jh; rw [(jf_no (show (0 : Int) ≤ i ∧ i ≤ (3 : Int) by omega) (jb 40) rfl)]; exact hx) (fun e => absurd e (by decide)) (ja_at (show (0 : Int) ≤ i ∧ i ≤ (4 : Int) by omega) 0 rfl rfl rfl) hf hg
theorem r40_4 (h : J S m0 B m) (g : Nat) : 0 ≤ m g 40 4 ∧ m g 40 4 ≤ 1 := by
  have h1 := h.1 g 40 4 (jq_of rfl)
  unfold jl jh at h1
  rw [(jf_at (show (4 : Int) ≤ 4 ∧ (4 : Int) ≤ 4 by omega) 0 (jb 40) rfl rfl)] at h1
  exact h1
theorem w40_4 (h : J S m0 B m) (hm : m1 = z_upd m g 40 4 x) (hx : 0 ≤ x ∧ x ≤ 1) (hf : ¬ S.1 14) (hg : ¬ S.2.1 g) : J S m0 B m1 := h.upd hm (by unfold jl jh; rw [(jf_at (show (4 : Int) ≤ 4 ∧ (4 : Int) ≤ 4 by omega) 0 (jb 40) rfl rfl)]; exact hx) (fun e => absurd e (by decide)) (ja_at (show (0 : Int) ≤ 4 ∧ (4 : Int) ≤ 4 by omega) 0 rfl rfl rfl) hf hg
theorem w41_0 (h : J S m0 B m) (hm : m1 = z_upd m g 41 i x) (hi : 0 ≤ i ∧ i ≤ 2) (hx : -9223372036854775808 ≤ x ∧ x ≤ 9223372036854775807) (hf : ¬ S.1 19) (hg : ¬ S.2.1 g) : J S m0 B m1 := h.upd hm (by unfold jl jh; rw [(jf_no (show (0 : Int) ≤ i ∧ i ≤ (2 : Int) by omega) (jb 41) rfl)]; exact hx) (fun e => absurd e (by decide)) (ja_at (show (0 : Int) ≤ i ∧ i ≤ (2 : Int) by omega) 0 rfl rfl rfl) hf hg
theorem r41_3 (h : J S m0 B m) (g : Nat) : 0 ≤ m g 41 3 ∧ m g 41 3 ≤ 300 := by
  have h1 := h.1 g 41 3 (jq_of rfl)
  unfold jl jh at h1
  rw [(jf_at (show (3 : Int) ≤ 3 ∧ (3 : Int) ≤ 3 by omega) 0 (jb 41) rfl rfl)] at h1
  exact h1
theorem w41_3 (h : J S m0 B m) (hm : m1 = z_upd m g 41 3 x) (hx : 0 ≤ x ∧ x ≤ 300) (hf : ¬ S.1 15) (hg : ¬ S.2.1 g) : J S m0 B m1 := h.upd hm (by unfold jl jh; rw [(jf_at (show (3 : Int) ≤ 3 ∧ (3 : Int) ≤ 3 by omega) 0 (jb 41) rfl rfl)]; exact hx) (fun e => absurd e (by decide)) (ja_at (show (3 : Int) ≤ 3 ∧ (3 : Int) ≤ 3 by omega) 1 rfl rfl rfl) hf hg
theorem w41_4 (h : J S m0 B m) (hm : m1 = z_upd m g 41 i x) (hi : 4 ≤ i ∧ i ≤ 5) (hx : -9223372036854775808 ≤ x ∧ x ≤ 9223372036854775807) (hf : ¬ S.1 16) (hg : ¬ S.2.1 g) : J S m0 B m1 := h.upd hm (by unfold jl jh; rw [(jf_no (show (4 : Int) ≤ i ∧ i ≤ (5 : Int) by omega) (jb 41) rfl)]; exact hx) (fun e => absurd e (by decide)) (ja_at (show (4 : Int) ≤ i ∧ i ≤ (5 : Int) by omega) 2 rfl rfl rfl) hf hg
theorem r41_6 (h : J S m0 B m) (g : Nat) : 0 ≤ m g 41 6 ∧ m g 41 6 ≤ 1 := by
  have h1 := h.1 g 41 6 (jq_of rfl)
  unfold jl jh at h1
  rw [(jf_at (show (6 : Int) ≤ 6 ∧ (6 : Int) ≤ 6 by omega) 1 (jb 41) rfl rfl)] at h1
  exact h1
theorem w41_6 (h : J S m0 B m) (hm : m1 = z_upd m g 41 6 x) (hx : 0 ≤ x ∧ x ≤ 1) (hf : ¬ S.1 19) (hg : ¬ S.2.1 g) : J S m0 B m1 := h.upd hm (by unfold jl jh; rw [(jf_at (show (6 : Int) ≤ 6 ∧ (6 : Int) ≤ 6 by omega) 1 (jb 41) rfl rfl)]; exact hx) (fun e => absurd e (by decide)) (ja_at (show (6 : Int) ≤ 6 ∧ (6 : Int) ≤ 10 by omega) 3 rfl rfl rfl) hf hg
theorem r41_7 (h : J S m0 B m) (g : Nat) : 0 ≤ m g 41 7 ∧ m g 41 7 ≤ 300 := by
  have h1 := h.1 g 41 7 (jq_of rfl)
  unfold jl jh at h1
  rw [(jf_at (show (7 : Int) ≤ 7 ∧ (7 : Int) ≤ 7 by omega) 2 (jb 41) rfl rfl)] at h1
  exact h1
theorem w41_7 (h : J S m0 B m) (hm : m1 = z_upd m g 41 7 x) (hx : 0 ≤ x ∧ x ≤ 300) (hf : ¬ S.1 19) (hg : ¬ S.2.1 g) : J S m0 B m1 := h.upd hm (by unfold jl jh; rw [(jf_at (show (7 : Int) ≤ 7 ∧ (7 : Int) ≤ 7 by omega) 2 (jb 41) rfl rfl)]; exact hx) (fun e => absurd e (by decide)) (ja_at (show (6 : Int) ≤ 7 ∧ (7 : Int) ≤ 10 by omega) 3 rfl rfl rfl) hf hg
theorem w41_8 (h : J S m0 B m) (hm : m1 = z_upd m g 41 i x) (hi : 8 ≤ i ∧ i ≤ 10) (hx : -9223372036854775808 ≤ x ∧ x ≤ 9223372036854775807) (hf : ¬ S.1 19) (hg : ¬ S.2.1 g) : J S m0 B m1 := h.upd hm (by unfold jl jh; rw [(jf_no (show (8 : Int) ≤ i ∧ i ≤ (10 : Int) by omega) (jb 41) rfl)]; exact hx) (fun e => absurd e (by decide)) (ja_at (show (6 : Int) ≤ i ∧ i ≤ (10 : Int) by omega) 3 rfl rfl rfl) hf hg
theorem r42_0 (h : J S m0 B m) (g : Nat) (hi : 0 ≤ i ∧ i ≤ 299) : 0 ≤ m g 42 i ∧ m g 42 i ≤ 255 := by
  have h1 := h.1 g 42 i (jq_of rfl)
  unfold jl jh at h1
  rw [(jf_at (show (0 : Int) ≤ i ∧ i ≤ (299 : Int) by omega) 0 (jb 42) rfl rfl)] at h1
  exact h1
theorem w42_0 (h : J S m0 B m) (hm : m1 = z_upd m g 42 i x) (hi : 0 ≤ i ∧ i ≤ 299) (hx : 0 ≤ x ∧ x ≤ 255) (hf : ¬ S.1 15) (hg : ¬ S.2.1 g) : J S m0 B m1 := h.upd hm (by unfold jl jh; rw [(jf_at (show (0 : Int) ≤ i ∧ i ≤ (299 : Int) by omega) 0 (jb 42) rfl rfl)]; exact hx) (fun e => absurd e (by decide)) (ja_at (show (0 : Int) ≤ i ∧ i ≤ (299 : Int) by omega) 0 rfl rfl rfl) hf hg
theorem r43_0 (h : J S m0 B m) (g : Nat) (hi : 0 ≤ i ∧ i ≤ 3) : 0 ≤ m g 43 i ∧ m g 43 i ≤ 100 := by
  have h1 := h.1 g 43 i (jq_of rfl)
  unfold jl jh at h1
  rw [(jf_at (show (0 : Int) ≤ i ∧ i ≤ (3 : Int) by omega) 0 (jb 43) rfl rfl)] at h1
  exact h1
theorem w43_0 (h : J S m0 B m) (hm : m1 = z_upd m g 43 i x) (hi : 0 ≤ i ∧ i ≤ 3) (hx : 0 ≤ x ∧ x ≤ 100) (hf : ¬ S.1 19) (hg : ¬ S.2.1 g) : J S m0 B m1 := h.upd hm (by unfold jl jh; rw [(jf_at (show (0 : Int) ≤ i ∧ i ≤ (3 : Int) by omega) 0 (jb 43) rfl rfl)]; exact hx) (fun e => absurd e (by decide)) (ja_at (show (0 : Int) ≤ i ∧ i ≤ (3 : Int) by omega) 0 rfl rfl rfl) hf hg
theorem w44_0 (h : J S m0 B m) (hm : m1 = z_upd m g 44 i x) (hi : 0 ≤ i ∧ i ≤ 2) (hx : -9223372036854775808 ≤ x ∧ x ≤ 9223372036854775807) (hf : ¬ S.1 39) (hg : ¬ S.2.1 g) : J S m0 B m1 := h.upd hm (by unfold jl jh; rw [(jf_no (show (0 : Int) ≤ i ∧ i ≤ (2 : Int) by omega) (jb 44) rfl)]; exact hx) (fun _ => by omega) (ja_at (show (0 : Int) ≤ i ∧ i ≤ (2 : Int) by omega) 0 rfl rfl rfl) hf hg
theorem r44_3 (h : J S m0 B m) (g : Nat) : 0 ≤ m g 44 3 ∧ m g 44 3 ≤ 1 := by
  have h1 := h.1 g 44 3 (jq_of rfl)
  unfold jl jh at h1
  rw [(jf_at (show (3 : Int) ≤ 3 ∧ (3 : Int) ≤ 3 by omega) 0 (jb 44) rfl rfl)] at h1
  exact h1
theorem w44_4 (h : J S m0 B m) (hm : m1 = z_upd m g 44 4 x) (hx : -9223372036854775808 ≤ x ∧ x ≤ 9223372036854775807) (hf : ¬ S.1 39) (hg : ¬ S.2.1 g) : J S m0 B m1 := h.upd hm (by unfold jl jh; rw [(jf_no (show (4 : Int) ≤ 4 ∧ (4 : Int) ≤ 4 by omega) (jb 44) rfl)]; exact hx) (fun _ => by decide) (ja_at (show (4 : Int) ≤ 4 ∧ (4 : Int) ≤ 4 by omega) 2 rfl rfl rfl) hf hg
theorem r44_5 (h : J S m0 B m) (g : Nat) : 0 ≤ m g 44 5 ∧ m g 44 5 ≤ 300 := by
  have h1 := h.1 g 44 5 (jq_of rfl)
  unfold jl jh at h1
  rw [(jf_at (show (5 : Int) ≤ 5 ∧ (5 : Int) ≤ 5 by omega) 1 (jb 44) rfl rfl)] at h1
  exact h1
theorem w44_5 (h : J S m0 B m) (hm : m1 = z_upd m g 44 5 x) (hx : 0 ≤ x ∧ x ≤ 300) (hf : ¬ S.1 35) (hg : ¬ S.2.1 g) : J S m0 B m1 := h.upd hm (by unfold jl jh; rw [(jf_at (show (5 : Int) ≤ 5 ∧ (5 : Int) ≤ 5 by omega) 1 (jb 44) rfl rfl)]; exact hx) (fun _ => by decide) (ja_at (show (5 : Int) ≤ 5 ∧ (5 : Int) ≤ 5 by omega) 3 rfl rfl rfl) hf hg
theorem w44_6 (h : J S m0 B m) (hm : m1 = z_upd m g 44 i x) (hi : 6 ≤ i ∧ i ≤ 7) (hx : -9223372036854775808 ≤ x ∧ x ≤ 9223372036854775807) (hf : ¬ S.1 36) (hg : ¬ S.2.1 g) : J S m0 B m1 := h.upd hm (by unfold jl jh; rw [(jf_no (show (6 : Int) ≤ i ∧ i ≤ (7 : Int) by omega) (jb 44) rfl)]; exact hx) (fun _ => by omega) (ja_at (show (6 : Int) ≤ i ∧ i ≤ (7 : Int) by omega) 4 rfl rfl rfl) hf hg
theorem r44_8 (h : J S m0 B m) (g : Nat) : 0 ≤ m g 44 8 ∧ m g 44 8 ≤ 300 := by
  have h1 := h.1 g 44 8 (jq_of rfl)
  unfold jl jh at h1
  rw [(jf_at (show (8 : Int) ≤ 8 ∧ (8 : Int) ≤ 8 by omega) 2 (jb 44) rfl rfl)] at h1
  exact h1
theorem w44_8 (h : J S m0 B m) (hm : m1 = z_upd m g 44 8 x) (hx : 0 ≤ x ∧ x ≤ 300) (hf : ¬ S.1 39) (hg : ¬ S.2.1 g) : J S m0 B m1 := h.upd hm (by unfold jl jh; rw [(jf_at (show (8 : Int) ≤ 8 ∧ (8 : Int) ≤ 8 by omega) 2 (jb 44) rfl rfl)]; exact hx) (fun _ => by decide) (ja_at (show (8 : Int) ≤ 8 ∧ (8 : Int) ≤ 14 by omega) 5 rfl rfl rfl) hf hg
theorem r44_9 (h : J S m0 B m) (g : Nat) : 0 ≤ m g 44 9 ∧ m g 44 9 ≤ 1 := by
  have h1 := h.1 g 44 9 (jq_of rfl)
  unfold jl jh at h1
  rw [(jf_at (show (9 : Int) ≤ 9 ∧ (9 : Int) ≤ 9 by omega) 3 (jb 44) rfl rfl)] at h1
  exact h1
theorem w44_9 (h : J S m0 B m) (hm : m1 = z_upd m g 44 9 x) (hx : 0 ≤ x ∧ x ≤ 1) (hf : ¬ S.1 39) (hg : ¬ S.2.1 g) : J S m0 B m1 := h.upd hm (by unfold jl jh; rw [(jf_at (show (9 : Int) ≤ 9 ∧ (9 : Int) ≤ 9 by omega) 3 (jb 44) rfl rfl)]; exact hx) (fun _ => by decide) (ja_at (show (8 : Int) ≤ 9 ∧ (9 : Int) ≤ 14 by omega) 5 rfl rfl rfl) hf hg
theorem w44_10 (h : J S m0 B m) (hm : m1 = z_upd m g 44 i x) (hi : 10 ≤ i ∧ i ≤ 13) (hx : -9223372036854775808 ≤ x ∧ x ≤ 9223372036854775807) (hf : ¬ S.1 39) (hg : ¬ S.2.1 g) : J S m0 B m1 := h.upd hm (by unfold jl jh; rw [(jf_no (show (10 : Int) ≤ i ∧ i ≤ (13 : Int) by omega) (jb 44) rfl)]; exact hx) (fun _ => by omega) (ja_at (show (8 : Int) ≤ i ∧ i ≤ (14 : Int) by omega) 5 rfl rfl rfl) hf hg
theorem r44_14 (h : J S m0 B m) (g : Nat) : 0 ≤ m g 44 14 ∧ m g 44 14 ≤ 1 := by
  have h1 := h.1 g 44 14 (jq_of rfl)
  unfold jl jh at h1
  rw [(jf_at (show (14 : Int) ≤ 14 ∧ (14 : Int) ≤ 14 by omega) 4 (jb 44) rfl rfl)] at h1
  exact h1
theorem w44_14 (h : J S m0 B m) (hm : m1 = z_upd m g 44 14 x) (hx : 0 ≤ x ∧ x ≤ 1) (hf : ¬ S.1 39) (hg : ¬ S.2.1 g) : J S m0 B m1 := h.upd hm (by unfold jl jh; rw [(jf_at (show (14 : Int) ≤ 14 ∧ (14 : Int) ≤ 14 by omega) 4 (jb 44) rfl rfl)]; exact hx) (fun _ => by decide) (ja_at (show (8 : Int) ≤ 14 ∧ (14 : Int) ≤ 14 by omega) 5 rfl rfl rfl) hf hg
theorem r45_0 (h : J S m0 B m) (g : Nat) : 0 ≤ m g 45 0 ∧ m g 45 0 ≤ 2000000000 := by
  have h1 := h.1 g 45 0 (jq_of rfl)
  unfold jl jh at h1
  rw [(jf_at (show (0 : Int) ≤ 0 ∧ (0 : Int) ≤ 0 by omega) 0 (jb 45) rfl rfl)] at h1
  exact h1
theorem w45_0 (h : J S m0 B m) (hm : m1 = z_upd m g 45 0 x) (hx : 0 ≤ x ∧ x ≤ 2000000000) (hf : ¬ S.1 31) (hg : ¬ S.2.1 g) : J S m0 B m1 := h.upd hm (by unfold jl jh; rw [(jf_at (show (0 : Int) ≤ 0 ∧ (0 : Int) ≤ 0 by omega) 0 (jb 45) rfl rfl)]; exact hx) (fun e => absurd e (by decide)) (ja_at (show (0 : Int) ≤ 0 ∧ (0 : Int) ≤ 0 by omega) 0 rfl rfl rfl) hf hg
theorem r45_1 (h : J S m0 B m) (g : Nat) : 1 ≤ m g 45 1 ∧ m g 45 1 ≤ 3 := by
  have h1 := h.1 g 45 1 (jq_of rfl)
  unfold jl jh at h1
  rw [(jf_at (show (1 : Int) ≤ 1 ∧ (1 : Int) ≤ 1 by omega) 1 (jb 45) rfl rfl)] at h1
  exact h1
theorem w45_1 (h : J S m0 B m) (hm : m1 = z_upd m g 45 1 x) (hx : 1 ≤ x ∧ x ≤ 3) (hf : ¬ S.1 22) (hg : ¬ S.2.1 g) : J S m0 B m1 := h.upd hm (by unfold jl jh; rw [(jf_at (show (1 : Int) ≤ 1 ∧ (1 : Int) ≤ 1 by omega) 1 (jb 45) rfl rfl)]; exact hx) (fun e => absurd e (by decide)) (ja_at (show (1 : Int) ≤ 1 ∧ (1 : Int) ≤ 3 by omega) 1 rfl rfl rfl) hf hg
theorem r45_2 (h : J S m0 B m) (g : Nat) : 4 ≤ m g 45 2 ∧ m g 45 2 ≤ 16 := by
  have h1 := h.1 g 45 2 (jq_of rfl)
  unfold jl jh at h1
  rw [(jf_at (show (2 : Int) ≤ 2 ∧ (2 : Int) ≤ 2 by omega) 2 (jb 45) rfl rfl)] at h1
  exact h1
theorem w45_2 (h : J S m0 B m) (hm : m1 = z_upd m g 45 2 x) (hx : 4 ≤ x ∧ x ≤ 16) (hf : ¬ S.1 22) (hg : ¬ S.2.1 g) : J S m0 B m1 := h.upd hm (by unfold jl jh; rw [(jf_at (show (2 : Int) ≤ 2 ∧ (2 : Int) ≤ 2 by omega) 2 (jb 45) rfl rfl)]; exact hx) (fun e => absurd e (by decide)) (ja_at (show (1 : Int) ≤ 2 ∧ (2 : Int) ≤ 3 by omega) 1 rfl rfl rfl) hf hg
theorem r45_3 (h : J S m0 B m) (g : Nat) : 0 ≤ m g 45 3 ∧ m g 45 3 ≤ 47 := by
  have h1 := h.1 g 45 3 (jq_of rfl)
  unfold jl jh at h1
  rw [(jf_at (show (3 : Int) ≤ 3 ∧ (3 : Int) ≤ 3 by omega) 3 (jb 45) rfl rfl)] at h1
  exact h1
theorem w45_3 (h : J S m0 B m) (hm : m1 = z_upd m g 45 3 x) (hx : 0 ≤ x ∧ x ≤ 47) (hf : ¬ S.1 22) (hg : ¬ S.2.1 g) : J S m0 B m1 := h.upd hm (by unfold jl jh; rw [(jf_at (show (3 : Int) ≤ 3 ∧ (3 : Int) ≤ 3 by omega) 3 (jb 45) rfl rfl)]; exact hx) (fun e => absurd e (by decide)) (ja_at (show (1 : Int) ≤ 3 ∧ (3 : Int) ≤ 3 by omega) 1 rfl rfl rfl) hf hg
theorem r45_4 (h : J S m0 B m) (g : Nat) : 0 ≤ m g 45 4 ∧ m g 45 4 ≤ 1000000 := by
  have h1 := h.1 g 45 4 (jq_of rfl)
  unfold jl jh at h1
  rw [(jf_at (show (4 : Int) ≤ 4 ∧ (4 : Int) ≤ 4 by omega) 4 (jb 45) rfl rfl)] at h1
  exact h1
theorem w45_4 (h : J S m0 B m) (hm : m1 = z_upd m g 45 4 x) (hx : 0 ≤ x ∧ x ≤ 1000000) (hf : ¬ S.1 23) (hg : ¬ S.2.1 g) : J S m0 B m1 := h.upd hm (by unfold jl jh; rw [(jf_at (show (4 : Int) ≤ 4 ∧ (4 : Int) ≤ 4 by omega) 4 (jb 45) rfl rfl)]; exact hx) (fun e => absurd e (by decide)) (ja_at (show (4 : Int) ≤ 4 ∧ (4 : Int) ≤ 9 by omega) 2 rfl rfl rfl) hf hg
theorem r45_5 (h : J S m0 B m) (g : Nat) : 1 ≤ m g 45 5 ∧ m g 45 5 ≤ 1000000 := by
  have h1 := h.1 g 45 5 (jq_of rfl)
  unfold jl jh at h1
  rw [(jf_at (show (5 : Int) ≤ 5 ∧ (5 : Int) ≤ 5 by omega) 5 (jb 45) rfl rfl)] at h1
  exact h1
theorem w45_5 (h : J S m0 B m) (hm : m1 = z_upd m g 45 5 x) (hx : 1 ≤ x ∧ x ≤ 1000000) (hf : ¬ S.1 23) (hg : ¬ S.2.1 g) : J S m0 B m1 := h.upd hm (by unfold jl jh; rw [(jf_at (show (5 : Int) ≤ 5 ∧ (5 : Int) ≤ 5 by omega) 5 (jb 45) rfl rfl)]; exact hx) (fun e => absurd e (by decide)) (ja_at (show (4 : Int) ≤ 5 ∧ (5 : Int) ≤ 9 by omega) 2 rfl rfl rfl) hf hg
theorem r45_6 (h : J S m0 B m) (g : Nat) : 0 ≤ m g 45 6 ∧ m g 45 6 ≤ 250000 := by
  have h1 := h.1 g 45 6 (jq_of rfl)
  unfold jl jh at h1
  rw [(jf_at (show (6 : Int) ≤ 6 ∧ (6 : Int) ≤ 6 by omega) 6 (jb 45) rfl rfl)] at h1
  exact h1
theorem w45_6 (h : J S m0 B m) (hm : m1 = z_upd m g 45 6 x) (hx : 0 ≤ x ∧ x ≤ 250000) (hf : ¬ S.1 23) (hg : ¬ S.2.1 g) : J S m0 B m1 := h.upd hm (by unfold jl jh; rw [(jf_at (show (6 : Int) ≤ 6 ∧ (6 : Int) ≤ 6 by omega) 6 (jb 45) rfl rfl)]; exact hx) (fun e => absurd e (by decide)) (ja_at (show (4 : Int) ≤ 6 ∧ (6 : Int) ≤ 9 by omega) 2 rfl rfl rfl) hf hg
theorem r45_7 (h : J S m0 B m) (g : Nat) : 0 ≤ m g 45 7 ∧ m g 45 7 ≤ 60 := by
  have h1 := h.1 g 45 7 (jq_of rfl)
  unfold jl jh at h1
  rw [(jf_at (show (7 : Int) ≤ 7 ∧ (7 : Int) ≤ 7 by omega) 7 (jb 45) rfl rfl)] at h1
  exact h1
theorem w45_7 (h : J S m0 B m) (hm : m1 = z_upd m g 45 7 x) (hx : 0 ≤ x ∧ x ≤ 60) (hf : ¬ S.1 23) (hg : ¬ S.2.1 g) : J S m0 B m1 := h.upd hm (by unfold jl jh; rw [(jf_at (show (7 : Int) ≤ 7 ∧ (7 : Int) ≤ 7 by omega) 7 (jb 45) rfl rfl)]; exact hx) (fun e => absurd e (by decide)) (ja_at (show (4 : Int) ≤ 7 ∧ (7 : Int) ≤ 9 by omega) 2 rfl rfl rfl) hf hg
theorem r45_8 (h : J S m0 B m) (g : Nat) : 1 ≤ m g 45 8 ∧ m g 45 8 ≤ 3600 := by
  have h1 := h.1 g 45 8 (jq_of rfl)
  unfold jl jh at h1
  rw [(jf_at (show (8 : Int) ≤ 8 ∧ (8 : Int) ≤ 8 by omega) 8 (jb 45) rfl rfl)] at h1
  exact h1
theorem w45_8 (h : J S m0 B m) (hm : m1 = z_upd m g 45 8 x) (hx : 1 ≤ x ∧ x ≤ 3600) (hf : ¬ S.1 23) (hg : ¬ S.2.1 g) : J S m0 B m1 := h.upd hm (by unfold jl jh; rw [(jf_at (show (8 : Int) ≤ 8 ∧ (8 : Int) ≤ 8 by omega) 8 (jb 45) rfl rfl)]; exact hx) (fun e => absurd e (by decide)) (ja_at (show (4 : Int) ≤ 8 ∧ (8 : Int) ≤ 9 by omega) 2 rfl rfl rfl) hf hg
theorem r45_9 (h : J S m0 B m) (g : Nat) : 1 ≤ m g 45 9 ∧ m g 45 9 ≤ 6 := by
  have h1 := h.1 g 45 9 (jq_of rfl)
  unfold jl jh at h1
  rw [(jf_at (show (9 : Int) ≤ 9 ∧ (9 : Int) ≤ 9 by omega) 9 (jb 45) rfl rfl)] at h1
  exact h1
theorem w45_9 (h : J S m0 B m) (hm : m1 = z_upd m g 45 9 x) (hx : 1 ≤ x ∧ x ≤ 6) (hf : ¬ S.1 23) (hg : ¬ S.2.1 g) : J S m0 B m1 := h.upd hm (by unfold jl jh; rw [(jf_at (show (9 : Int) ≤ 9 ∧ (9 : Int) ≤ 9 by omega) 9 (jb 45) rfl rfl)]; exact hx) (fun e => absurd e (by decide)) (ja_at (show (4 : Int) ≤ 9 ∧ (9 : Int) ≤ 9 by omega) 2 rfl rfl rfl) hf hg
theorem w45_10 (h : J S m0 B m) (hm : m1 = z_upd m g 45 10 x) (hx : -9223372036854775808 ≤ x ∧ x ≤ 9223372036854775807) (hf : ¬ S.1 32) (hg : ¬ S.2.1 g) : J S m0 B m1 := h.upd hm (by unfold jl jh; rw [(jf_no (show (10 : Int) ≤ 10 ∧ (10 : Int) ≤ 10 by omega) (jb 45) rfl)]; exact hx) (fun e => absurd e (by decide)) (ja_at (show (10 : Int) ≤ 10 ∧ (10 : Int) ≤ 12 by omega) 3 rfl rfl rfl) hf hg
theorem r45_11 (h : J S m0 B m) (g : Nat) : 0 ≤ m g 45 11 ∧ m g 45 11 ≤ 1 := by
  have h1 := h.1 g 45 11 (jq_of rfl)
  unfold jl jh at h1
  rw [(jf_at (show (11 : Int) ≤ 11 ∧ (11 : Int) ≤ 11 by omega) 10 (jb 45) rfl rfl)] at h1
  exact h1
theorem w45_11 (h : J S m0 B m) (hm : m1 = z_upd m g 45 11 x) (hx : 0 ≤ x ∧ x ≤ 1) (hf : ¬ S.1 32) (hg : ¬ S.2.1 g) : J S m0 B m1 := h.upd hm (by unfold jl jh; rw [(jf_at (show (11 : Int) ≤ 11 ∧ (11 : Int) ≤ 11 by omega) 10 (jb 45) rfl rfl)]; exact hx) (fun e => absurd e (by decide)) (ja_at (show (10 : Int) ≤ 11 ∧ (11 : Int) ≤ 12 by omega) 3 rfl rfl rfl) hf hg
theorem r45_12 (h : J S m0 B m) (g : Nat) : 0 ≤ m g 45 12 ∧ m g 45 12 ≤ 1 := by
  have h1 := h.1 g 45 12 (jq_of rfl)
  unfold jl jh at h1
  rw [(jf_at (show (12 : Int) ≤ 12 ∧ (12 : Int) ≤ 12 by omega) 11 (jb 45) rfl rfl)] at h1
  exact h1
theorem w45_12 (h : J S m0 B m) (hm : m1 = z_upd m g 45 12 x) (hx : 0 ≤ x ∧ x ≤ 1) (hf : ¬ S.1 32) (hg : ¬ S.2.1 g) : J S m0 B m1 := h.upd hm (by unfold jl jh; rw [(jf_at (show (12 : Int) ≤ 12 ∧ (12 : Int) ≤ 12 by omega) 11 (jb 45) rfl rfl)]; exact hx) (fun e => absurd e (by decide)) (ja_at (show (10 : Int) ≤ 12 ∧ (12 : Int) ≤ 12 by omega) 3 rfl rfl rfl) hf hg
theorem r45_13 (h : J S m0 B m) (g : Nat) : 0 ≤ m g 45 13 ∧ m g 45 13 ≤ B := by
  have h1 := h.1 g 45 13 (jq_of rfl)
  unfold jl jh at h1
  rw [(jf_at (show (13 : Int) ≤ 13 ∧ (13 : Int) ≤ 13 by omega) 12 (jb 45) rfl rfl)] at h1
  exact h1
theorem w45_13 (h : J S m0 B m) (hm : m1 = z_upd m g 45 13 x) (hx : 0 ≤ x ∧ x ≤ B) (hf : ¬ S.1 33) (hg : ¬ S.2.1 g) : J S m0 B m1 := h.upd hm (by unfold jl jh; rw [(jf_at (show (13 : Int) ≤ 13 ∧ (13 : Int) ≤ 13 by omega) 12 (jb 45) rfl rfl)]; exact hx) (fun e => absurd e (by decide)) (ja_at (show (13 : Int) ≤ 13 ∧ (13 : Int) ≤ 15 by omega) 4 rfl rfl rfl) hf hg
theorem w45_14 (h : J S m0 B m) (hm : m1 = z_upd m g 45 i x) (hi : 14 ≤ i ∧ i ≤ 15) (hx : -9223372036854775808 ≤ x ∧ x ≤ 9223372036854775807) (hf : ¬ S.1 33) (hg : ¬ S.2.1 g) : J S m0 B m1 := h.upd hm (by unfold jl jh; rw [(jf_no (show (14 : Int) ≤ i ∧ i ≤ (15 : Int) by omega) (jb 45) rfl)]; exact hx) (fun e => absurd e (by decide)) (ja_at (show (13 : Int) ≤ i ∧ i ≤ (15 : Int) by omega) 4 rfl rfl rfl) hf hg
theorem r45_16 (h : J S m0 B m) (g : Nat) : 0 ≤ m g 45 16 ∧ m g 45 16 ≤ B := by
  have h1 := h.1 g 45 16 (jq_of rfl)
  unfold jl jh at h1
  rw [(jf_at (show (16 : Int) ≤ 16 ∧ (16 : Int) ≤ 16 by omega) 13 (jb 45) rfl rfl)] at h1
  exact h1
theorem w45_16 (h : J S m0 B m) (hm : m1 = z_upd m g 45 16 x) (hx : 0 ≤ x ∧ x ≤ B) (hf : ¬ S.1 26) (hg : ¬ S.2.1 g) : J S m0 B m1 := h.upd hm (by unfold jl jh; rw [(jf_at (show (16 : Int) ≤ 16 ∧ (16 : Int) ≤ 16 by omega) 13 (jb 45) rfl rfl)]; exact hx) (fun e => absurd e (by decide)) (ja_at (show (16 : Int) ≤ 16 ∧ (16 : Int) ≤ 16 by omega) 5 rfl rfl rfl) hf hg
theorem r45_17 (h : J S m0 B m) (g : Nat) : 0 ≤ m g 45 17 ∧ m g 45 17 ≤ B := by
  have h1 := h.1 g 45 17 (jq_of rfl)
  unfold jl jh at h1
  rw [(jf_at (show (17 : Int) ≤ 17 ∧ (17 : Int) ≤ 17 by omega) 14 (jb 45) rfl rfl)] at h1
  exact h1
theorem w45_17 (h : J S m0 B m) (hm : m1 = z_upd m g 45 17 x) (hx : 0 ≤ x ∧ x ≤ B) (hf : ¬ S.1 27) (hg : ¬ S.2.1 g) : J S m0 B m1 := h.upd hm (by unfold jl jh; rw [(jf_at (show (17 : Int) ≤ 17 ∧ (17 : Int) ≤ 17 by omega) 14 (jb 45) rfl rfl)]; exact hx) (fun e => absurd e (by decide)) (ja_at (show (17 : Int) ≤ 17 ∧ (17 : Int) ≤ 17 by omega) 6 rfl rfl rfl) hf hg
theorem r45_18 (h : J S m0 B m) (g : Nat) : 0 ≤ m g 45 18 ∧ m g 45 18 ≤ B := by
  have h1 := h.1 g 45 18 (jq_of rfl)
  unfold jl jh at h1
  rw [(jf_at (show (18 : Int) ≤ 18 ∧ (18 : Int) ≤ 18 by omega) 15 (jb 45) rfl rfl)] at h1
  exact h1
theorem w45_18 (h : J S m0 B m) (hm : m1 = z_upd m g 45 18 x) (hx : 0 ≤ x ∧ x ≤ B) (hf : ¬ S.1 25) (hg : ¬ S.2.1 g) : J S m0 B m1 := h.upd hm (by unfold jl jh; rw [(jf_at (show (18 : Int) ≤ 18 ∧ (18 : Int) ≤ 18 by omega) 15 (jb 45) rfl rfl)]; exact hx) (fun e => absurd e (by decide)) (ja_at (show (18 : Int) ≤ 18 ∧ (18 : Int) ≤ 18 by omega) 7 rfl rfl rfl) hf hg
theorem w45_19 (h : J S m0 B m) (hm : m1 = z_upd m g 45 i x) (hi : 19 ≤ i ∧ i ≤ 20) (hx : -9223372036854775808 ≤ x ∧ x ≤ 9223372036854775807) (hf : ¬ S.1 28) (hg : ¬ S.2.1 g) : J S m0 B m1 := h.upd hm (by unfold jl jh; rw [(jf_no (show (19 : Int) ≤ i ∧ i ≤ (20 : Int) by omega) (jb 45) rfl)]; exact hx) (fun e => absurd e (by decide)) (ja_at (show (19 : Int) ≤ i ∧ i ≤ (20 : Int) by omega) 8 rfl rfl rfl) hf hg
theorem w45_21 (h : J S m0 B m) (hm : m1 = z_upd m g 45 i x) (hi : 21 ≤ i ∧ i ≤ 27) (hx : -9223372036854775808 ≤ x ∧ x ≤ 9223372036854775807) (hf : ¬ S.1 27) (hg : ¬ S.2.1 g) : J S m0 B m1 := h.upd hm (by unfold jl jh; rw [(jf_no (show (21 : Int) ≤ i ∧ i ≤ (27 : Int) by omega) (jb 45) rfl)]; exact hx) (fun e => absurd e (by decide)) (ja_at (show (21 : Int) ≤ i ∧ i ≤ (27 : Int) by omega) 9 rfl rfl rfl) hf hg
theorem r45_28 (h : J S m0 B m) (g : Nat) (hi : 28 ≤ i ∧ i ≤ 31) : 0 ≤ m g 45 i ∧ m g 45 i ≤ 100 := by
  have h1 := h.1 g 45 i (jq_of rfl)
  unfold jl jh at h1
  rw [(jf_at (show (28 : Int) ≤ i ∧ i ≤ (31 : Int) by omega) 16 (jb 45) rfl rfl)] at h1
  exact h1
theorem w45_28 (h : J S m0 B m) (hm : m1 = z_upd m g 45 i x) (hi : 28 ≤ i ∧ i ≤ 31) (hx : 0 ≤ x ∧ x ≤ 100) (hf : ¬ S.1 23) (hg : ¬ S.2.1 g) : J S m0 B m1 := h.upd hm (by unfold jl jh; rw [(jf_at (show (28 : Int) ≤ i ∧ i ≤ (31 : Int) by omega) 16 (jb 45) rfl rfl)]; exact hx) (fun e => absurd e (by decide)) (ja_at (show (28 : Int) ≤ i ∧ i ≤ (31 : Int) by omega) 10 rfl rfl rfl) hf hg
theorem w45_32 (h : J S m0 B m) (hm : m1 = z_upd m g 45 i x) (hi : 32 ≤ i ∧ i ≤ 39) (hx : -9223372036854775808 ≤ x ∧ x ≤ 9223372036854775807) (hf : ¬ S.1 28) (hg : ¬ S.2.1 g) : J S m0 B m1 := h.upd hm (by unfold jl jh; rw [(jf_no (show (32 : Int) ≤ i ∧ i ≤ (39 : Int) by omega) (jb 45) rfl)]; exact hx) (fun e => absurd e (by decide)) (ja_at (show (32 : Int) ≤ i ∧ i ≤ (39 : Int) by omega) 11 rfl rfl rfl) hf hg
theorem w45_40 (h : J S m0 B m) (hm : m1 = z_upd m g 45 i x) (hi : 40 ≤ i ∧ i ≤ 59) (hx : -9223372036854775808 ≤ x ∧ x ≤ 9223372036854775807) (hf : ¬ S.1 29) (hg : ¬ S.2.1 g) : J S m0 B m1 := h.upd hm (by unfold jl jh; rw [(jf_no (show (40 : Int) ≤ i ∧ i ≤ (59 : Int) by omega) (jb 45) rfl)]; exact hx) (fun e => absurd e (by decide)) (ja_at (show (40 : Int) ≤ i ∧ i ≤ (59 : Int) by omega) 12 rfl rfl rfl) hf hg
theorem w45_60 (h : J S m0 B m) (hm : m1 = z_upd m g 45 i x) (hi : 60 ≤ i ∧ i ≤ 94) (hx : -9223372036854775808 ≤ x ∧ x ≤ 9223372036854775807) (hf : ¬ S.1 30) (hg : ¬ S.2.1 g) : J S m0 B m1 := h.upd hm (by unfold jl jh; rw [(jf_no (show (60 : Int) ≤ i ∧ i ≤ (94 : Int) by omega) (jb 45) rfl)]; exact hx) (fun e => absurd e (by decide)) (ja_at (show (60 : Int) ≤ i ∧ i ≤ (94 : Int) by omega) 13 rfl rfl rfl) hf hg
theorem r45_95 (h : J S m0 B m) (g : Nat) (hi : 95 ≤ i ∧ i ≤ 286) : (-500) ≤ m g 45 i ∧ m g 45 i ≤ 500 := by
  have h1 := h.1 g 45 i (jq_of rfl)
  unfold jl jh at h1
  rw [(jf_at (show (95 : Int) ≤ i ∧ i ≤ (286 : Int) by omega) 17 (jb 45) rfl rfl)] at h1
  exact h1
theorem w45_95 (h : J S m0 B m) (hm : m1 = z_upd m g 45 i x) (hi : 95 ≤ i ∧ i ≤ 286) (hx : (-500) ≤ x ∧ x ≤ 500) (hf : ¬ S.1 22) (hg : ¬ S.2.1 g) : J S m0 B m1 := h.upd hm (by unfold jl jh; rw [(jf_at (show (95 : Int) ≤ i ∧ i ≤ (286 : Int) by omega) 17 (jb 45) rfl rfl)]; exact hx) (fun e => absurd e (by decide)) (ja_at (show (95 : Int) ≤ i ∧ i ≤ (286 : Int) by omega) 14 rfl rfl rfl) hf hg
theorem r45_287 (h : J S m0 B m) (g : Nat) (hi : 287 ≤ i ∧ i ≤ 294) : 0 ≤ m g 45 i ∧ m g 45 i ≤ 6 := by
  have h1 := h.1 g 45 i (jq_of rfl)
  unfold jl jh at h1
  rw [(jf_at (show (287 : Int) ≤ i ∧ i ≤ (294 : Int) by omega) 18 (jb 45) rfl rfl)] at h1
  exact h1
theorem w45_287 (h : J S m0 B m) (hm : m1 = z_upd m g 45 i x) (hi : 287 ≤ i ∧ i ≤ 294) (hx : 0 ≤ x ∧ x ≤ 6) (hf : ¬ S.1 21) (hg : ¬ S.2.1 g) : J S m0 B m1 := h.upd hm (by unfold jl jh; rw [(jf_at (show (287 : Int) ≤ i ∧ i ≤ (294 : Int) by omega) 18 (jb 45) rfl rfl)]; exact hx) (fun e => absurd e (by decide)) (ja_at (show (287 : Int) ≤ i ∧ i ≤ (787 : Int) by omega) 15 rfl rfl rfl) hf hg
theorem r45_295 (h : J S m0 B m) (g : Nat) (hi : 295 ≤ i ∧ i ≤ 342) : 0 ≤ m g 45 i ∧ m g 45 i ≤ 86399 := by
  have h1 := h.1 g 45 i (jq_of rfl)
  unfold jl jh at h1
  rw [(jf_at (show (295 : Int) ≤ i ∧ i ≤ (342 : Int) by omega) 19 (jb 45) rfl rfl)] at h1
  exact h1
theorem w45_295 (h : J S m0 B m) (hm : m1 = z_upd m g 45 i x) (hi : 295 ≤ i ∧ i ≤ 342) (hx : 0 ≤ x ∧ x ≤ 86399) (hf : ¬ S.1 21) (hg : ¬ S.2.1 g) : J S m0 B m1 := h.upd hm (by unfold jl jh; rw [(jf_at (show (295 : Int) ≤ i ∧ i ≤ (342 : Int) by omega) 19 (jb 45) rfl rfl)]; exact hx) (fun e => absurd e (by decide)) (ja_at (show (287 : Int) ≤ i ∧ i ≤ (787 : Int) by omega) 15 rfl rfl rfl) hf hg
theorem r45_343 (h : J S m0 B m) (g : Nat) (hi : 343 ≤ i ∧ i ≤ 390) : 0 ≤ m g 45 i ∧ m g 45 i ≤ 3 := by
  have h1 := h.1 g 45 i (jq_of rfl)
  unfold jl jh at h1
  rw [(jf_at (show (343 : Int) ≤ i ∧ i ≤ (390 : Int) by omega) 20 (jb 45) rfl rfl)] at h1
  exact h1
theorem w45_343 (h : J S m0 B m) (hm : m1 = z_upd m g 45 i x) (hi : 343 ≤ i ∧ i ≤ 390) (hx : 0 ≤ x ∧ x ≤ 3) (hf : ¬ S.1 21) (hg : ¬ S.2.1 g) : J S m0 B m1 := h.upd hm (by unfold jl jh; rw [(jf_at (show (343 : Int) ≤ i ∧ i ≤ (390 : Int) by omega) 20 (jb 45) rfl rfl)]; exact hx) (fun e => absurd e (by decide)) (ja_at (show (287 : Int) ≤ i ∧ i ≤ (787 : Int) by omega) 15 rfl rfl rfl) hf hg
theorem r45_391 (h : J S m0 B m) (g : Nat) (hi : 391 ≤ i ∧ i ≤ 394) : (-1) ≤ m g 45 i ∧ m g 45 i ≤ 364 := by
  have h1 := h.1 g 45 i (jq_of rfl)
  unfold jl jh at h1
  rw [(jf_at (show (391 : Int) ≤ i ∧ i ≤ (394 : Int) by omega) 21 (jb 45) rfl rfl)] at h1
  exact h1
theorem w45_391 (h : J S m0 B m) (hm : m1 = z_upd m g 45 i x) (hi : 391 ≤ i ∧ i ≤ 394) (hx : (-1) ≤ x ∧ x ≤ 364) (hf : ¬ S.1 21) (hg : ¬ S.2.1 g) : J S m0 B m1 := h.upd hm (by unfold jl jh; rw [(jf_at (show (391 : Int) ≤ i ∧ i ≤ (394 : Int) by omega) 21 (jb 45) rfl rfl)]; exact hx) (fun e => absurd e (by decide)) (ja_at (show (287 : Int) ≤ i ∧ i ≤ (787 : Int) by omega) 15 rfl rfl rfl) hf hg
theorem r45_395 (h : J S m0 B m) (g : Nat) (hi : 395 ≤ i ∧ i ≤ 422) : 0 ≤ m g 45 i ∧ m g 45 i ≤ 7 := by
  have h1 := h.1 g 45 i (jq_of rfl)
  unfold jl jh at h1
  rw [(jf_at (show (395 : Int) ≤ i ∧ i ≤ (422 : Int) by omega) 22 (jb 45) rfl rfl)] at h1
  exact h1
theorem w45_395 (h : J S m0 B m) (hm : m1 = z_upd m g 45 i x) (hi : 395 ≤ i ∧ i ≤ 422) (hx : 0 ≤ x ∧ x ≤ 7) (hf : ¬ S.1 21) (hg : ¬ S.2.1 g) : J S m0 B m1 := h.upd hm (by unfold jl jh; rw [(jf_at (show (395 : Int) ≤ i ∧ i ≤ (422 : Int) by omega) 22 (jb 45) rfl rfl)]; exact hx) (fun e => absurd e (by decide)) (ja_at (show (287 : Int) ≤ i ∧ i ≤ (787 : Int) by omega) 15 rfl rfl rfl) hf hg
theorem r45_423 (h : J S m0 B m) (g : Nat) (hi : 423 ≤ i ∧ i ≤ 787) : (-1) ≤ m g 45 i ∧ m g 45 i ≤ 7 := by
  have h1 := h.1 g 45 i (jq_of rfl)
  unfold jl jh at h1
  rw [(jf_at (show (423 : Int) ≤ i ∧ i ≤ (787 : Int) by omega) 23 (jb 45) rfl rfl)] at h1
  exact h1
theorem w45_423 (h : J S m0 B m) (hm : m1 = z_upd m g 45 i x) (hi : 423 ≤ i ∧ i ≤ 787) (hx : (-1) ≤ x ∧ x ≤ 7) (hf : ¬ S.1 21) (hg : ¬ S.2.1 g) : J S m0 B m1 := h.upd hm (by unfold jl jh; rw [(jf_at (show (423 : Int) ≤ i ∧ i ≤ (787 : Int) by omega) 23 (jb 45) rfl rfl)]; exact hx) (fun e => absurd e (by decide)) (ja_at (show (287 : Int) ≤ i ∧ i ≤ (787 : Int) by omega) 15 rfl rfl rfl) hf hg
theorem w45_788 (h : J S m0 B m) (hm : m1 = z_upd m g 45 i x) (hi : 788 ≤ i ∧ i ≤ 1171) (hx : -9223372036854775808 ≤ x ∧ x ≤ 9223372036854775807) (hf : ¬ S.1 27) (hg : ¬ S.2.1 g) : J S m0 B m1 := h.upd hm (by unfold jl jh; rw [(jf_no (show (788 : Int) ≤ i ∧ i ≤ (1171 : Int) by omega) (jb 45) rfl)]; exact hx) (fun e => absurd e (by decide)) (ja_at (show (788 : Int) ≤ i ∧ i ≤ (1171 : Int) by omega) 16 rfl rfl rfl) hf hg
theorem w45_1172 (h : J S m0 B m) (hm : m1 = z_upd m g 45 i x) (hi : 1172 ≤ i ∧ i ≤ 1486) (hx : -9223372036854775808 ≤ x ∧ x ≤ 9223372036854775807) (hf : ¬ S.1 25) (hg : ¬ S.2.1 g) : J S m0 B m1 := h.upd hm (by unfold jl jh; rw [(jf_no (show (1172 : Int) ≤ i ∧ i ≤ (1486 : Int) by omega) (jb 45) rfl)]; exact hx) (fun e => absurd e (by decide)) (ja_at (show (1172 : Int) ≤ i ∧ i ≤ (1486 : Int) by omega) 17 rfl rfl rfl) hf hg
theorem w45_1487 (h : J S m0 B m) (hm : m1 = z_upd m g 45 i x) (hi : 1487 ≤ i ∧ i ≤ 1606) (hx : -9223372036854775808 ≤ x ∧ x ≤ 9223372036854775807) (hf : ¬ S.1 26) (hg : ¬ S.2.1 g) : J S m0 B m1 := h.upd hm (by unfold jl jh; rw [(jf_no (show (1487 : Int) ≤ i ∧ i ≤ (1606 : Int) by omega) (jb 45) rfl)]; exact hx) (fun e => absurd e (by decide)) (ja_at (show (1487 : Int) ≤ i ∧ i ≤ (1606 : Int) by omega) 18 rfl rfl rfl) hf hg
theorem w45_1607 (h : J S m0 B m) (hm : m1 = z_upd m g 45 i x) (hi : 1607 ≤ i ∧ i ≤ 1610) (hx : -9223372036854775808 ≤ x ∧ x ≤ 9223372036854775807) (hf : ¬ S.1 27) (hg : ¬ S.2.1 g) : J S m0 B m1 := h.upd hm (by unfold jl jh; rw [(jf_no (show (1607 : Int) ≤ i ∧ i ≤ (1610 : Int) by omega) (jb 45) rfl)]; exact hx) (fun e => absurd e (by decide)) (ja_at (show (1607 : Int) ≤ i ∧ i ≤ (1610 : Int) by omega) 19 rfl rfl rfl) hf hg
theorem r45_1611 (h : J S m0 B m) (g : Nat) : 0 ≤ m g 45 1611 ∧ m g 45 1611 ≤ 100 := by
  have h1 := h.1 g 45 1611 (jq_of rfl)
  unfold jl jh at h1
  rw [(jf_at (show (1611 : Int) ≤ 1611 ∧ (1611 : Int) ≤ 1611 by omega) 24 (jb 45) rfl rfl)] at h1
  exact h1
theorem w45_1611 (h : J S m0 B m) (hm : m1 = z_upd m g 45 1611 x) (hx : 0 ≤ x ∧ x ≤ 100) (hf : ¬ S.1 23) (hg : ¬ S.2.1 g) : J S m0 B m1 := h.upd hm (by unfold jl jh; rw [(jf_at (show (1611 : Int) ≤ 1611 ∧ (1611 : Int) ≤ 1611 by omega) 24 (jb 45) rfl rfl)]; exact hx) (fun e => absurd e (by decide)) (ja_at (show (1611 : Int) ≤ 1611 ∧ (1611 : Int) ≤ 1613 by omega) 20 rfl rfl rfl) hf hg
theorem r45_1612 (h : J S m0 B m) (g : Nat) : 0 ≤ m g 45 1612 ∧ m g 45 1612 ≤ 200 := by
  have h1 := h.1 g 45 1612 (jq_of rfl)
  unfold jl jh at h1
  rw [(jf_at (show (1612 : Int) ≤ 1612 ∧ (1612 : Int) ≤ 1612 by omega) 25 (jb 45) rfl rfl)] at h1
  exact h1
theorem w45_1612 (h : J S m0 B m) (hm : m1 = z_upd m g 45 1612 x) (hx : 0 ≤ x ∧ x ≤ 200) (hf : ¬ S.1 23) (hg : ¬ S.2.1 g) : J S m0 B m1 := h.upd hm (by unfold jl jh; rw [(jf_at (show (1612 : Int) ≤ 1612 ∧ (1612 : Int) ≤ 1612 by omega) 25 (jb 45) rfl rfl)]; exact hx) (fun e => absurd e (by decide)) (ja_at (show (1611 : Int) ≤ 1612 ∧ (1612 : Int) ≤ 1613 by omega) 20 rfl rfl rfl) hf hg
theorem r45_1613 (h : J S m0 B m) (g : Nat) : 0 ≤ m g 45 1613 ∧ m g 45 1613 ≤ 100 := by
  have h1 := h.1 g 45 1613 (jq_of rfl)
  unfold jl jh at h1
  rw [(jf_at (show (1613 : Int) ≤ 1613 ∧ (1613 : Int) ≤ 1613 by omega) 26 (jb 45) rfl rfl)] at h1
  exact h1
theorem w45_1613 (h : J S m0 B m) (hm : m1 = z_upd m g 45 1613 x) (hx : 0 ≤ x ∧ x ≤ 100) (hf : ¬ S.1 23) (hg : ¬ S.2.1 g) : J S m0 B m1 := h.upd hm (by unfold jl jh; rw [(jf_at (show (1613 : Int) ≤ 1613 ∧ (1613 : Int) ≤ 1613 by omega) 26 (jb 45) rfl rfl)]; exact hx) (fun e => absurd e (by decide)) (ja_at (show (1611 : Int) ≤ 1613 ∧ (1613 : Int) ≤ 1613 by omega) 20 rfl rfl rfl) hf hg
theorem r45_1614 (h : J S m0 B m) (g : Nat) : 0 ≤ m g 45 1614 ∧ m g 45 1614 ≤ 1 := by
  have h1 := h.1 g 45 1614 (jq_of rfl)
  unfold jl jh at h1
  rw [(jf_at (show (1614 : Int) ≤ 1614 ∧ (1614 : Int) ≤ 1614 by omega) 27 (jb 45) rfl rfl)] at h1
  exact h1
theorem w45_1614 (h : J S m0 B m) (hm : m1 = z_upd m g 45 1614 x) (hx : 0 ≤ x ∧ x ≤ 1) (hf : ¬ S.1 24) (hg : ¬ S.2.1 g) : J S m0 B m1 := h.upd hm (by unfold jl jh; rw [(jf_at (show (1614 : Int) ≤ 1614 ∧ (1614 : Int) ≤ 1614 by omega) 27 (jb 45) rfl rfl)]; exact hx) (fun e => absurd e (by decide)) (ja_at (show (1614 : Int) ≤ 1614 ∧ (1614 : Int) ≤ 1618 by omega) 21 rfl rfl rfl) hf hg
theorem w45_1615 (h : J S m0 B m) (hm : m1 = z_upd m g 45 1615 x) (hx : -9223372036854775808 ≤ x ∧ x ≤ 9223372036854775807) (hf : ¬ S.1 24) (hg : ¬ S.2.1 g) : J S m0 B m1 := h.upd hm (by unfold jl jh; rw [(jf_no (show (1615 : Int) ≤ 1615 ∧ (1615 : Int) ≤ 1615 by omega) (jb 45) rfl)]; exact hx) (fun e => absurd e (by decide)) (ja_at (show (1614 : Int) ≤ 1615 ∧ (1615 : Int) ≤ 1618 by omega) 21 rfl rfl rfl) hf hg
theorem r45_1616 (h : J S m0 B m) (g : Nat) : 0 ≤ m g 45 1616 ∧ m g 45 1616 ≤ B := by
  have h1 := h.1 g 45 1616 (jq_of rfl)
  unfold jl jh at h1
  rw [(jf_at (show (1616 : Int) ≤ 1616 ∧ (1616 : Int) ≤ 1616 by omega) 28 (jb 45) rfl rfl)] at h1
  exact h1
theorem w45_1616 (h : J S m0 B m) (hm : m1 = z_upd m g 45 1616 x) (hx : 0 ≤ x ∧ x ≤ B) (hf : ¬ S.1 24) (hg : ¬ S.2.1 g) : J S m0 B m1 := h.upd hm (by unfold jl jh; rw [(jf_at (show (1616 : Int) ≤ 1616 ∧ (1616 : Int) ≤ 1616 by omega) 28 (jb 45) rfl rfl)]; exact hx) (fun e => absurd e (by decide)) (ja_at (show (1614 : Int) ≤ 1616 ∧ (1616 : Int) ≤ 1618 by omega) 21 rfl rfl rfl) hf hg
theorem r45_1617 (h : J S m0 B m) (g : Nat) : 0 ≤ m g 45 1617 ∧ m g 45 1617 ≤ 2000000300 := by
  have h1 := h.1 g 45 1617 (jq_of rfl)
  unfold jl jh at h1
  rw [(jf_at (show (1617 : Int) ≤ 1617 ∧ (1617 : Int) ≤ 1617 by omega) 29 (jb 45) rfl rfl)] at h1
  exact h1
theorem w45_1617 (h : J S m0 B m) (hm : m1 = z_upd m g 45 1617 x) (hx : 0 ≤ x ∧ x ≤ 2000000300) (hf : ¬ S.1 24) (hg : ¬ S.2.1 g) : J S m0 B m1 := h.upd hm (by unfold jl jh; rw [(jf_at (show (1617 : Int) ≤ 1617 ∧ (1617 : Int) ≤ 1617 by omega) 29 (jb 45) rfl rfl)]; exact hx) (fun e => absurd e (by decide)) (ja_at (show (1614 : Int) ≤ 1617 ∧ (1617 : Int) ≤ 1618 by omega) 21 rfl rfl rfl) hf hg
theorem w45_1618 (h : J S m0 B m) (hm : m1 = z_upd m g 45 1618 x) (hx : -9223372036854775808 ≤ x ∧ x ≤ 9223372036854775807) (hf : ¬ S.1 24) (hg : ¬ S.2.1 g) : J S m0 B m1 := h.upd hm (by unfold jl jh; rw [(jf_no (show (1618 : Int) ≤ 1618 ∧ (1618 : Int) ≤ 1618 by omega) (jb 45) rfl)]; exact hx) (fun e => absurd e (by decide)) (ja_at (show (1614 : Int) ≤ 1618 ∧ (1618 : Int) ≤ 1618 by omega) 21 rfl rfl rfl) hf hg
theorem w46_0 (h : J S m0 B m) (hm : m1 = z_upd m g 46 0 x) (hx : 0 ≤ x ∧ x ≤ 2000000000) (hf : ¬ S.1 38) (hg : ¬ S.2.1 g) : J S m0 B m1 := h.upd hm (by unfold jl jh; rw [(jf_at (show (0 : Int) ≤ 0 ∧ (0 : Int) ≤ 0 by omega) 0 (jb 46) rfl rfl)]; exact hx) (fun e => absurd e (by decide)) (ja_at (show (0 : Int) ≤ 0 ∧ (0 : Int) ≤ 1618 by omega) 0 rfl rfl rfl) hf hg
theorem w46_1 (h : J S m0 B m) (hm : m1 = z_upd m g 46 1 x) (hx : 1 ≤ x ∧ x ≤ 3) (hf : ¬ S.1 38) (hg : ¬ S.2.1 g) : J S m0 B m1 := h.upd hm (by unfold jl jh; rw [(jf_at (show (1 : Int) ≤ 1 ∧ (1 : Int) ≤ 1 by omega) 1 (jb 46) rfl rfl)]; exact hx) (fun e => absurd e (by decide)) (ja_at (show (0 : Int) ≤ 1 ∧ (1 : Int) ≤ 1618 by omega) 0 rfl rfl rfl) hf hg
theorem w46_2 (h : J S m0 B m) (hm : m1 = z_upd m g 46 2 x) (hx : 4 ≤ x ∧ x ≤ 16) (hf : ¬ S.1 38) (hg : ¬ S.2.1 g) : J S m0 B m1 := h.upd hm (by unfold jl jh; rw [(jf_at (show (2 : Int) ≤ 2 ∧ (2 : Int) ≤ 2 by omega) 2 (jb 46) rfl rfl)]; exact hx) (fun e => absurd e (by decide)) (ja_at (show (0 : Int) ≤ 2 ∧ (2 : Int) ≤ 1618 by omega) 0 rfl rfl rfl) hf hg
theorem w46_3 (h : J S m0 B m) (hm : m1 = z_upd m g 46 3 x) (hx : 0 ≤ x ∧ x ≤ 47) (hf : ¬ S.1 38) (hg : ¬ S.2.1 g) : J S m0 B m1 := h.upd hm (by unfold jl jh; rw [(jf_at (show (3 : Int) ≤ 3 ∧ (3 : Int) ≤ 3 by omega) 3 (jb 46) rfl rfl)]; exact hx) (fun e => absurd e (by decide)) (ja_at (show (0 : Int) ≤ 3 ∧ (3 : Int) ≤ 1618 by omega) 0 rfl rfl rfl) hf hg
theorem w46_4 (h : J S m0 B m) (hm : m1 = z_upd m g 46 4 x) (hx : 0 ≤ x ∧ x ≤ 1000000) (hf : ¬ S.1 38) (hg : ¬ S.2.1 g) : J S m0 B m1 := h.upd hm (by unfold jl jh; rw [(jf_at (show (4 : Int) ≤ 4 ∧ (4 : Int) ≤ 4 by omega) 4 (jb 46) rfl rfl)]; exact hx) (fun e => absurd e (by decide)) (ja_at (show (0 : Int) ≤ 4 ∧ (4 : Int) ≤ 1618 by omega) 0 rfl rfl rfl) hf hg
theorem w46_5 (h : J S m0 B m) (hm : m1 = z_upd m g 46 5 x) (hx : 1 ≤ x ∧ x ≤ 1000000) (hf : ¬ S.1 38) (hg : ¬ S.2.1 g) : J S m0 B m1 := h.upd hm (by unfold jl jh; rw [(jf_at (show (5 : Int) ≤ 5 ∧ (5 : Int) ≤ 5 by omega) 5 (jb 46) rfl rfl)]; exact hx) (fun e => absurd e (by decide)) (ja_at (show (0 : Int) ≤ 5 ∧ (5 : Int) ≤ 1618 by omega) 0 rfl rfl rfl) hf hg
theorem w46_6 (h : J S m0 B m) (hm : m1 = z_upd m g 46 6 x) (hx : 0 ≤ x ∧ x ≤ 250000) (hf : ¬ S.1 38) (hg : ¬ S.2.1 g) : J S m0 B m1 := h.upd hm (by unfold jl jh; rw [(jf_at (show (6 : Int) ≤ 6 ∧ (6 : Int) ≤ 6 by omega) 6 (jb 46) rfl rfl)]; exact hx) (fun e => absurd e (by decide)) (ja_at (show (0 : Int) ≤ 6 ∧ (6 : Int) ≤ 1618 by omega) 0 rfl rfl rfl) hf hg
theorem w46_7 (h : J S m0 B m) (hm : m1 = z_upd m g 46 7 x) (hx : 0 ≤ x ∧ x ≤ 60) (hf : ¬ S.1 38) (hg : ¬ S.2.1 g) : J S m0 B m1 := h.upd hm (by unfold jl jh; rw [(jf_at (show (7 : Int) ≤ 7 ∧ (7 : Int) ≤ 7 by omega) 7 (jb 46) rfl rfl)]; exact hx) (fun e => absurd e (by decide)) (ja_at (show (0 : Int) ≤ 7 ∧ (7 : Int) ≤ 1618 by omega) 0 rfl rfl rfl) hf hg
theorem w46_8 (h : J S m0 B m) (hm : m1 = z_upd m g 46 8 x) (hx : 1 ≤ x ∧ x ≤ 3600) (hf : ¬ S.1 38) (hg : ¬ S.2.1 g) : J S m0 B m1 := h.upd hm (by unfold jl jh; rw [(jf_at (show (8 : Int) ≤ 8 ∧ (8 : Int) ≤ 8 by omega) 8 (jb 46) rfl rfl)]; exact hx) (fun e => absurd e (by decide)) (ja_at (show (0 : Int) ≤ 8 ∧ (8 : Int) ≤ 1618 by omega) 0 rfl rfl rfl) hf hg
theorem w46_9 (h : J S m0 B m) (hm : m1 = z_upd m g 46 9 x) (hx : 1 ≤ x ∧ x ≤ 6) (hf : ¬ S.1 38) (hg : ¬ S.2.1 g) : J S m0 B m1 := h.upd hm (by unfold jl jh; rw [(jf_at (show (9 : Int) ≤ 9 ∧ (9 : Int) ≤ 9 by omega) 9 (jb 46) rfl rfl)]; exact hx) (fun e => absurd e (by decide)) (ja_at (show (0 : Int) ≤ 9 ∧ (9 : Int) ≤ 1618 by omega) 0 rfl rfl rfl) hf hg
theorem w46_10 (h : J S m0 B m) (hm : m1 = z_upd m g 46 10 x) (hx : -9223372036854775808 ≤ x ∧ x ≤ 9223372036854775807) (hf : ¬ S.1 38) (hg : ¬ S.2.1 g) : J S m0 B m1 := h.upd hm (by unfold jl jh; rw [(jf_no (show (10 : Int) ≤ 10 ∧ (10 : Int) ≤ 10 by omega) (jb 46) rfl)]; exact hx) (fun e => absurd e (by decide)) (ja_at (show (0 : Int) ≤ 10 ∧ (10 : Int) ≤ 1618 by omega) 0 rfl rfl rfl) hf hg
theorem w46_11 (h : J S m0 B m) (hm : m1 = z_upd m g 46 11 x) (hx : 0 ≤ x ∧ x ≤ 1) (hf : ¬ S.1 38) (hg : ¬ S.2.1 g) : J S m0 B m1 := h.upd hm (by unfold jl jh; rw [(jf_at (show (11 : Int) ≤ 11 ∧ (11 : Int) ≤ 11 by omega) 10 (jb 46) rfl rfl)]; exact hx) (fun e => absurd e (by decide)) (ja_at (show (0 : Int) ≤ 11 ∧ (11 : Int) ≤ 1618 by omega) 0 rfl rfl rfl) hf hg
theorem w46_12 (h : J S m0 B m) (hm : m1 = z_upd m g 46 12 x) (hx : 0 ≤ x ∧ x ≤ 1) (hf : ¬ S.1 38) (hg : ¬ S.2.1 g) : J S m0 B m1 := h.upd hm (by unfold jl jh; rw [(jf_at (show (12 : Int) ≤ 12 ∧ (12 : Int) ≤ 12 by omega) 11 (jb 46) rfl rfl)]; exact hx) (fun e => absurd e (by decide)) (ja_at (show (0 : Int) ≤ 12 ∧ (12 : Int) ≤ 1618 by omega) 0 rfl rfl rfl) hf hg
theorem w46_13 (h : J S m0 B m) (hm : m1 = z_upd m g 46 13 x) (hx : 0 ≤ x ∧ x ≤ B) (hf : ¬ S.1 38) (hg : ¬ S.2.1 g) : J S m0 B m1 := h.upd hm (by unfold jl jh; rw [(jf_at (show (13 : Int) ≤ 13 ∧ (13 : Int) ≤ 13 by omega) 12 (jb 46) rfl rfl)]; exact hx) (fun e => absurd e (by decide)) (ja_at (show (0 : Int) ≤ 13 ∧ (13 : Int) ≤ 1618 by omega) 0 rfl rfl rfl) hf hg
theorem w46_14 (h : J S m0 B m) (hm : m1 = z_upd m g 46 i x) (hi : 14 ≤ i ∧ i ≤ 15) (hx : -9223372036854775808 ≤ x ∧ x ≤ 9223372036854775807) (hf : ¬ S.1 38) (hg : ¬ S.2.1 g) : J S m0 B m1 := h.upd hm (by unfold jl jh; rw [(jf_no (show (14 : Int) ≤ i ∧ i ≤ (15 : Int) by omega) (jb 46) rfl)]; exact hx) (fun e => absurd e (by decide)) (ja_at (show (0 : Int) ≤ i ∧ i ≤ (1618 : Int) by omega) 0 rfl rfl rfl) hf hg
theorem w46_16 (h : J S m0 B m) (hm : m1 = z_upd m g 46 16 x) (hx : 0 ≤ x ∧ x ≤ B) (hf : ¬ S.1 38) (hg : ¬ S.2.1 g) : J S m0 B m1 := h.upd hm (by unfold jl jh; rw [(jf_at (show (16 : Int) ≤ 16 ∧ (16 : Int) ≤ 16 by omega) 13 (jb 46) rfl rfl)]; exact hx) (fun e => absurd e (by decide)) (ja_at (show (0 : Int) ≤ 16 ∧ (16 : Int) ≤ 1618 by omega) 0 rfl rfl rfl) hf hg
theorem w46_17 (h : J S m0 B m) (hm : m1 = z_upd m g 46 17 x) (hx : 0 ≤ x ∧ x ≤ B) (hf : ¬ S.1 38) (hg : ¬ S.2.1 g) : J S m0 B m1 := h.upd hm (by unfold jl jh; rw [(jf_at (show (17 : Int) ≤ 17 ∧ (17 : Int) ≤ 17 by omega) 14 (jb 46) rfl rfl)]; exact hx) (fun e => absurd e (by decide)) (ja_at (show (0 : Int) ≤ 17 ∧ (17 : Int) ≤ 1618 by omega) 0 rfl rfl rfl) hf hg
theorem w46_18 (h : J S m0 B m) (hm : m1 = z_upd m g 46 18 x) (hx : 0 ≤ x ∧ x ≤ B) (hf : ¬ S.1 38) (hg : ¬ S.2.1 g) : J S m0 B m1 := h.upd hm (by unfold jl jh; rw [(jf_at (show (18 : Int) ≤ 18 ∧ (18 : Int) ≤ 18 by omega) 15 (jb 46) rfl rfl)]; exact hx) (fun e => absurd e (by decide)) (ja_at (show (0 : Int) ≤ 18 ∧ (18 : Int) ≤ 1618 by omega) 0 rfl rfl rfl) hf hg
theorem w46_19 (h : J S m0 B m) (hm : m1 = z_upd m g 46 i x) (hi : 19 ≤ i ∧ i ≤ 27) (hx : -9223372036854775808 ≤ x ∧ x ≤ 9223372036854775807) (hf : ¬ S.1 38) (hg : ¬ S.2.1 g) : J S m0 B m1 := h.upd hm (by unfold jl jh; rw [(jf_no (show (19 : Int) ≤ i ∧ i ≤ (27 : Int) by omega) (jb 46) rfl)]; exact hx) (fun e => absurd e (by decide)) (ja_at (show (0 : Int) ≤ i ∧ i ≤ (1618 : Int) by omega) 0 rfl rfl rfl) hf hg
theorem w46_28 (h : J S m0 B m) (hm : m1 = z_upd m g 46 i x) (hi : 28 ≤ i ∧ i ≤ 31) (hx : 0 ≤ x ∧ x ≤ 100) (hf : ¬ S.1 38) (hg : ¬ S.2.1 g) : J S m0 B m1 := h.upd hm (by unfold jl jh; rw [(jf_at (show (28 : Int) ≤ i ∧ i ≤ (31 : Int) by omega) 16 (jb 46) rfl rfl)]; exact hx) (fun e => absurd e (by decide)) (ja_at (show (0 : Int) ≤ i ∧ i ≤ (1618 : Int) by omega) 0 rfl rfl rfl) hf hg
theorem w46_32 (h : J S m0 B m) (hm : m1 = z_upd m g 46 i x) (hi : 32 ≤ i ∧ i ≤ 94) (hx : -9223372036854775808 ≤ x ∧ x ≤ 9223372036854775807) (hf : ¬ S.1 38) (hg : ¬ S.2.1 g) : J S m0 B m1 := h.upd hm (by unfold jl jh; rw [(jf_no (show (32 : Int) ≤ i ∧ i ≤ (94 : Int) by omega) (jb 46) rfl)]; exact hx) (fun e => absurd e (by decide)) (ja_at (show (0 : Int) ≤ i ∧ i ≤ (1618 : Int) by omega) 0 rfl rfl rfl) hf hg
theorem w46_95 (h : J S m0 B m) (hm : m1 = z_upd m g 46 i x) (hi : 95 ≤ i ∧ i ≤ 286) (hx : (-500) ≤ x ∧ x ≤ 500) (hf : ¬ S.1 38) (hg : ¬ S.2.1 g) : J S m0 B m1 := h.upd hm (by unfold jl jh; rw [(jf_at (show (95 : Int) ≤ i ∧ i ≤ (286 : Int) by omega) 17 (jb 46) rfl rfl)]; exact hx) (fun e => absurd e (by decide)) (ja_at (show (0 : Int) ≤ i ∧ i ≤ (1618 : Int) by omega) 0 rfl rfl rfl) hf hg
theorem w46_287 (h : J S m0 B m) (hm : m1 = z_upd m g 46 i x) (hi : 287 ≤ i ∧ i ≤ 294) (hx : 0 ≤ x ∧ x ≤ 6) (hf : ¬ S.1 38) (hg : ¬ S.2.1 g) : J S m0 B m1 := h.upd hm (by unfold jl jh; rw [(jf_at (show (287 : Int) ≤ i ∧ i ≤ (294 : Int) by omega) 18 (jb 46) rfl rfl)]; exact hx) (fun e => absurd e (by decide)) (ja_at (show (0 : Int) ≤ i ∧ i ≤ (1618 : Int) by omega) 0 rfl rfl rfl) hf hg
theorem w46_295 (h : J S m0 B m) (hm : m1 = z_upd m g 46 i x) (hi : 295 ≤ i ∧ i ≤ 342) (hx : 0 ≤ x ∧ x ≤ 86399) (hf : ¬ S.1 38) (hg : ¬ S.2.1 g) : J S m0 B m1 := h.upd hm (by unfold jl jh; rw [(jf_at (show (295 : Int) ≤ i ∧ i ≤ (342 : Int) by omega) 19 (jb 46) rfl rfl)]; exact hx) (fun e => absurd e (by decide)) (ja_at (show (0 : Int) ≤ i ∧ i ≤ (1618 : Int) by omega) 0 rfl rfl rfl) hf hg
theorem w46_343 (h : J S m0 B m) (hm : m1 = z_upd m g 46 i x) (hi : 343 ≤ i ∧ i ≤ 390) (hx : 0 ≤ x ∧ x ≤ 3) (hf : ¬ S.1 38) (hg : ¬ S.2.1 g) : J S m0 B m1 := h.upd hm (by unfold jl jh; rw [(jf_at (show (343 : Int) ≤ i ∧ i ≤ (390 : Int) by omega) 20 (jb 46) rfl rfl)]; exact hx) (fun e => absurd e (by decide)) (ja_at (show (0 : Int) ≤ i ∧ i ≤ (1618 : Int) by omega) 0 rfl rfl rfl) hf hg
theorem w46_391 (h : J S m0 B m) (hm : m1 = z_upd m g 46 i x) (hi : 391 ≤ i ∧ i ≤ 394) (hx : (-1) ≤ x ∧ x ≤ 364) (hf : ¬ S.1 38) (hg : ¬ S.2.1 g) : J S m0 B m1 := h.upd hm (by unfold jl jh; rw [(jf_at (show (391 : Int) ≤ i ∧ i ≤ (394 : Int) by omega) 21 (jb 46) rfl rfl)]; exact hx) (fun e => absurd e (by decide)) (ja_at (show (0 : Int) ≤ i ∧ i ≤ (1618 : Int) by omega) 0 rfl rfl rfl) hf hg
theorem w46_395 (h : J S m0 B m) (hm : m1 = z_upd m g 46 i x) (hi : 395 ≤ i ∧ i ≤ 422) (hx : 0 ≤ x ∧ x ≤ 7) (hf : ¬ S.1 38) (hg : ¬ S.2.1 g) : J S m0 B m1 := h.upd hm (by unfold jl jh; rw [(jf_at (show (395 : Int) ≤ i ∧ i ≤ (422 : Int) by omega) 22 (jb 46) rfl rfl)]; exact hx) (fun e => absurd e (by decide)) (ja_at (show (0 : Int) ≤ i ∧ i ≤ (1618 : Int) by omega) 0 rfl rfl rfl) hf hg
theorem w46_423 (h : J S m0 B m) (hm : m1 = z_upd m g 46 i x) (hi : 423 ≤ i ∧ i ≤ 787) (hx : (-1) ≤ x ∧ x ≤ 7) (hf : ¬ S.1 38) (hg : ¬ S.2.1 g) : J S m0 B m1 := h.upd hm (by unfold jl jh; rw [(jf_at (show (423 : Int) ≤ i ∧ i ≤ (787 : Int) by omega) 23 (jb 46) rfl rfl)]; exact hx) (fun e => absurd e (by decide)) (ja_at (show (0 : Int) ≤ i ∧ i ≤ (1618 : Int) by omega) 0 rfl rfl rfl) hf hg
theorem w46_788 (h : J S m0 B m) (hm : m1 = z_upd m g 46 i x) (hi : 788 ≤ i ∧ i ≤ 1610) (hx : -9223372036854775808 ≤ x ∧ x ≤ 9223372036854775807) (hf : ¬ S.1 38) (hg : ¬ S.2.1 g) : J S m0 B m1 := h.upd hm (by unfold jl jh; rw [(jf_no (show (788 : Int) ≤ i ∧ i ≤ (1610 : Int) by omega) (jb 46) rfl)]; exact hx) (fun e => absurd e (by decide)) (ja_at (show (0 : Int) ≤ i ∧ i ≤ (1618 : Int) by omega) 0 rfl rfl rfl) hf hg
theorem w46_1611 (h : J S m0 B m) (hm : m1 = z_upd m g 46 1611 x) (hx : 0 ≤ x ∧ x ≤ 100) (hf : ¬ S.1 38) (hg : ¬ S.2.1 g) : J S m0 B m1 := h.upd hm (by unfold jl jh; rw [(jf_at (show (1611 : Int) ≤ 1611 ∧ (1611 : Int) ≤ 1611 by omega) 24 (jb 46) rfl rfl)]; exact hx) (fun e => absurd e (by decide)) (ja_at (show (0 : Int) ≤ 1611 ∧ (1611 : Int) ≤ 1618 by omega) 0 rfl rfl rfl) hf hg
theorem w46_1612 (h : J S m0 B m) (hm : m1 = z_upd m g 46 1612 x) (hx : 0 ≤ x ∧ x ≤ 200) (hf : ¬ S.1 38) (hg : ¬ S.2.1 g) : J S m0 B m1 := h.upd hm (by unfold jl jh; rw [(jf_at (show (1612 : Int) ≤ 1612 ∧ (1612 : Int) ≤ 1612 by omega) 25 (jb 46) rfl rfl)]; exact hx) (fun e => absurd e (by decide)) (ja_at (show (0 : Int) ≤ 1612 ∧ (1612 : Int) ≤ 1618 by omega) 0 rfl rfl rfl) hf hg
theorem w46_1613 (h : J S m0 B m) (hm : m1 = z_upd m g 46 1613 x) (hx : 0 ≤ x ∧ x ≤ 100) (hf : ¬ S.1 38) (hg : ¬ S.2.1 g) : J S m0 B m1 := h.upd hm (by unfold jl jh; rw [(jf_at (show (1613 : Int) ≤ 1613 ∧ (1613 : Int) ≤ 1613 by omega) 26 (jb 46) rfl rfl)]; exact hx) (fun e => absurd e (by decide)) (ja_at (show (0 : Int) ≤ 1613 ∧ (1613 : Int) ≤ 1618 by omega) 0 rfl rfl rfl) hf hg
theorem w46_1614 (h : J S m0 B m) (hm : m1 = z_upd m g 46 1614 x) (hx : 0 ≤ x ∧ x ≤ 1) (hf : ¬ S.1 38) (hg : ¬ S.2.1 g) : J S m0 B m1 := h.upd hm (by unfold jl jh; rw [(jf_at (show (1614 : Int) ≤ 1614 ∧ (1614 : Int) ≤ 1614 by omega) 27 (jb 46) rfl rfl)]; exact hx) (fun e => absurd e (by decide)) (ja_at (show (0 : Int) ≤ 1614 ∧ (1614 : Int) ≤ 1618 by omega) 0 rfl rfl rfl) hf hg
theorem w46_1615 (h : J S m0 B m) (hm : m1 = z_upd m g 46 1615 x) (hx : -9223372036854775808 ≤ x ∧ x ≤ 9223372036854775807) (hf : ¬ S.1 38) (hg : ¬ S.2.1 g) : J S m0 B m1 := h.upd hm (by unfold jl jh; rw [(jf_no (show (1615 : Int) ≤ 1615 ∧ (1615 : Int) ≤ 1615 by omega) (jb 46) rfl)]; exact hx) (fun e => absurd e (by decide)) (ja_at (show (0 : Int) ≤ 1615 ∧ (1615 : Int) ≤ 1618 by omega) 0 rfl rfl rfl) hf hg
theorem w46_1616 (h : J S m0 B m) (hm : m1 = z_upd m g 46 1616 x) (hx : 0 ≤ x ∧ x ≤ B) (hf : ¬ S.1 38) (hg : ¬ S.2.1 g) : J S m0 B m1 := h.upd hm (by unfold jl jh; rw [(jf_at (show (1616 : Int) ≤ 1616 ∧ (1616 : Int) ≤ 1616 by omega) 28 (jb 46) rfl rfl)]; exact hx) (fun e => absurd e (by decide)) (ja_at (show (0 : Int) ≤ 1616 ∧ (1616 : Int) ≤ 1618 by omega) 0 rfl rfl rfl) hf hg
theorem w46_1617 (h : J S m0 B m) (hm : m1 = z_upd m g 46 1617 x) (hx : 0 ≤ x ∧ x ≤ 2000000300) (hf : ¬ S.1 38) (hg : ¬ S.2.1 g) : J S m0 B m1 := h.upd hm (by unfold jl jh; rw [(jf_at (show (1617 : Int) ≤ 1617 ∧ (1617 : Int) ≤ 1617 by omega) 29 (jb 46) rfl rfl)]; exact hx) (fun e => absurd e (by decide)) (ja_at (show (0 : Int) ≤ 1617 ∧ (1617 : Int) ≤ 1618 by omega) 0 rfl rfl rfl) hf hg
theorem w46_1618 (h : J S m0 B m) (hm : m1 = z_upd m g 46 1618 x) (hx : -9223372036854775808 ≤ x ∧ x ≤ 9223372036854775807) (hf : ¬ S.1 38) (hg : ¬ S.2.1 g) : J S m0 B m1 := h.upd hm (by unfold jl jh; rw [(jf_no (show (1618 : Int) ≤ 1618 ∧ (1618 : Int) ≤ 1618 by omega) (jb 46) rfl)]; exact hx) (fun e => absurd e (by decide)) (ja_at (show (0 : Int) ≤ 1618 ∧ (1618 : Int) ≤ 1618 by omega) 0 rfl rfl rfl) hf hg
theorem w47_0 (h : J S m0 B m) (hm : m1 = z_upd m g 47 0 x) (hx : 0 ≤ x ∧ x ≤ 2000000000) (hf : ¬ S.1 37) (hg : ¬ S.2.1 g) : J S m0 B m1 := h.upd hm (by unfold jl jh; rw [(jf_at (show (0 : Int) ≤ 0 ∧ (0 : Int) ≤ 0 by omega) 0 (jb 47) rfl rfl)]; exact hx) (fun e => absurd e (by decide)) (ja_at (show (0 : Int) ≤ 0 ∧ (0 : Int) ≤ 1618 by omega) 0 rfl rfl rfl) hf hg
theorem w47_1 (h : J S m0 B m) (hm : m1 = z_upd m g 47 1 x) (hx : 1 ≤ x ∧ x ≤ 3) (hf : ¬ S.1 37) (hg : ¬ S.2.1 g) : J S m0 B m1 := h.upd hm (by unfold jl jh; rw [(jf_at (show (1 : Int) ≤ 1 ∧ (1 : Int) ≤ 1 by omega) 1 (jb 47) rfl rfl)]; exact hx) (fun e => absurd e (by decide)) (ja_at (show (0 : Int) ≤ 1 ∧ (1 : Int) ≤ 1618 by omega) 0 rfl rfl rfl) hf hg
theorem w47_2 (h : J S m0 B m) (hm : m1 = z_upd m g 47 2 x) (hx : 4 ≤ x ∧ x ≤ 16) (hf : ¬ S.1 37) (hg : ¬ S.2.1 g) : J S m0 B m1 := h.upd hm (by unfold jl jh; rw [(jf_at (show (2 : Int) ≤ 2 ∧ (2 : Int) ≤ 2 by omega) 2 (jb 47) rfl rfl)]; exact hx) (fun e => absurd e (by decide)) (ja_at (show (0 : Int) ≤ 2 ∧ (2 : Int) ≤ 1618 by omega) 0 rfl rfl rfl) hf hg
theorem w47_3 (h : J S m0 B m) (hm : m1 = z_upd m g 47 3 x) (hx : 0 ≤ x ∧ x ≤ 47) (hf : ¬ S.1 37) (hg : ¬ S.2.1 g) : J S m0 B m1 := h.upd hm (by unfold jl jh; rw [(jf_at (show (3 : Int) ≤ 3 ∧ (3 : Int) ≤ 3 by omega) 3 (jb 47) rfl rfl)]; exact hx) (fun e => absurd e (by decide)) (ja_at (show (0 : Int) ≤ 3 ∧ (3 : Int) ≤ 1618 by omega) 0 rfl rfl rfl) hf hg
theorem w47_4 (h : J S m0 B m) (hm : m1 = z_upd m g 47 4 x) (hx : 0 ≤ x ∧ x ≤ 1000000) (hf : ¬ S.1 37) (hg : ¬ S.2.1 g) : J S m0 B m1 := h.upd hm (by unfold jl jh; rw [(jf_at (show (4 : Int) ≤ 4 ∧ (4 : Int) ≤ 4 by omega) 4 (jb 47) rfl rfl)]; exact hx) (fun e => absurd e (by decide)) (ja_at (show (0 : Int) ≤ 4 ∧ (4 : Int) ≤ 1618 by omega) 0 rfl rfl rfl) hf hg
theorem w47_5 (h : J S m0 B m) (hm : m1 = z_upd m g 47 5 x) (hx : 1 ≤ x ∧ x ≤ 1000000) (hf : ¬ S.1 37) (hg : ¬ S.2.1 g) : J S m0 B m1 := h.upd hm (by unfold jl jh; rw [(jf_at (show (5 : Int) ≤ 5 ∧ (5 : Int) ≤ 5 by omega) 5 (jb 47) rfl rfl)]; exact hx) (fun e => absurd e (by decide)) (ja_at (show (0 : Int) ≤ 5 ∧ (5 : Int) ≤ 1618 by omega) 0 rfl rfl rfl) hf hg
theorem w47_6 (h : J S m0 B m) (hm : m1 = z_upd m g 47 6 x) (hx : 0 ≤ x ∧ x ≤ 250000) (hf : ¬ S.1 37) (hg : ¬ S.2.1 g) : J S m0 B m1 := h.upd hm (by unfold jl jh; rw [(jf_at (show (6 : Int) ≤ 6 ∧ (6 : Int) ≤ 6 by omega) 6 (jb 47) rfl rfl)]; exact hx) (fun e => absurd e (by decide)) (ja_at (show (0 : Int) ≤ 6 ∧ (6 : Int) ≤ 1618 by omega) 0 rfl rfl rfl) hf hg
theorem w47_7 (h : J S m0 B m) (hm : m1 = z_upd m g 47 7 x) (hx : 0 ≤ x ∧ x ≤ 60) (hf : ¬ S.1 37) (hg : ¬ S.2.1 g) : J S m0 B m1 := h.upd hm (by unfold jl jh; rw [(jf_at (show (7 : Int) ≤ 7 ∧ (7 : Int) ≤ 7 by omega) 7 (jb 47) rfl rfl)]; exact hx) (fun e => absurd e (by decide)) (ja_at (show (0 : Int) ≤ 7 ∧ (7 : Int) ≤ 1618 by omega) 0 rfl rfl rfl) hf hg
theorem w47_8 (h : J S m0 B m) (hm : m1 = z_upd m g 47 8 x) (hx : 1 ≤ x ∧ x ≤ 3600) (hf : ¬ S.1 37) (hg : ¬ S.2.1 g) : J S m0 B m1 := h.upd hm (by unfold jl jh; rw [(jf_at (show (8 : Int) ≤ 8 ∧ (8 : Int) ≤ 8 by omega) 8 (jb 47) rfl rfl)]; exact hx) (fun e => absurd e (by decide)) (ja_at (show (0 : Int) ≤ 8 ∧ (8 : Int) ≤ 1618 by omega) 0 rfl rfl rfl) hf hg
theorem w47_9 (h : J S m0 B m) (hm : m1 = z_upd m g 47 9 x) (hx : 1 ≤ x ∧ x ≤ 6) (hf : ¬ S.1 37) (hg : ¬ S.2.1 g) : J S m0 B m1 := h.upd hm (by unfold jl jh; rw [(jf_at (show (9 : Int) ≤ 9 ∧ (9 : Int) ≤ 9 by omega) 9 (jb 47) rfl rfl)]; exact hx) (fun e => absurd e (by decide)) (ja_at (show (0 : Int) ≤ 9 ∧ (9 : Int) ≤ 1618 by omega) 0 rfl rfl rfl) hf hg
theorem w47_10 (h : J S m0 B m) (hm : m1 = z_upd m g 47 10 x) (hx : -9223372036854775808 ≤ x ∧ x ≤ 9223372036854775807) (hf : ¬ S.1 37) (hg : ¬ S.2.1 g) : J S m0 B m1 := h.upd hm (by unfold jl jh; rw [(jf_no (show (10 : Int) ≤ 10 ∧ (10 : Int) ≤ 10 by omega) (jb 47) rfl)]; exact hx) (fun e => absurd e (by decide)) (ja_at (show (0 : Int) ≤ 10 ∧ (10 : Int) ≤ 1618 by omega) 0 rfl rfl rfl) hf hg
theorem w47_11 (h : J S m0 B m) (hm : m1 = z_upd m g 47 11 x) (hx : 0 ≤ x ∧ x ≤ 1) (hf : ¬ S.1 37) (hg : ¬ S.2.1 g) : J S m0 B m1 := h.upd hm (by unfold jl jh; rw [(jf_at (show (11 : Int) ≤ 11 ∧ (11 : Int) ≤ 11 by omega) 10 (jb 47) rfl rfl)]; exact hx) (fun e => absurd e (by decide)) (ja_at (show (0 : Int) ≤ 11 ∧ (11 : Int) ≤ 1618 by omega) 0 rfl rfl rfl) hf hg
theorem w47_12 (h : J S m0 B m) (hm : m1 = z_upd m g 47 12 x) (hx : 0 ≤ x ∧ x ≤ 1) (hf : ¬ S.1 37) (hg : ¬ S.2.1 g) : J S m0 B m1 := h.upd hm (by unfold jl jh; rw [(jf_at (show (12 : Int) ≤ 12 ∧ (12 : Int) ≤ 12 by omega) 11 (jb 47) rfl rfl)]; exact hx) (fun e => absurd e (by decide)) (ja_at (show (0 : Int) ≤ 12 ∧ (12 : Int) ≤ 1618 by omega) 0 rfl rfl rfl) hf hg
theorem w47_13 (h : J S m0 B m) (hm : m1 = z_upd m g 47 13 x) (hx : 0 ≤ x ∧ x ≤ B) (hf : ¬ S.1 37) (hg : ¬ S.2.1 g) : J S m0 B m1 := h.upd hm (by unfold jl jh; rw [(jf_at (show (13 : Int) ≤ 13 ∧ (13 : Int) ≤ 13 by omega) 12 (jb 47) rfl rfl)]; exact hx) (fun e => absurd e (by decide)) (ja_at (show (0 : Int) ≤ 13 ∧ (13 : Int) ≤ 1618 by omega) 0 rfl rfl rfl) hf hg
theorem w47_14 (h : J S m0 B m) (hm : m1 = z_upd m g 47 i x) (hi : 14 ≤ i ∧ i ≤ 15) (hx : -9223372036854775808 ≤ x ∧ x ≤ 9223372036854775807) (hf : ¬ S.1 37) (hg : ¬ S.2.1 g) : J S m0 B m1 := h.upd hm (by unfold jl jh; rw [(jf_no (show (14 : Int) ≤ i ∧ i ≤ (15 : Int) by omega) (jb 47) rfl)]; exact hx) (fun e => absurd e (by decide)) (ja_at (show (0 : Int) ≤ i ∧ i ≤ (1618 : Int) by omega) 0 rfl rfl rfl) hf hg
theorem w47_16 (h : J S m0 B m) (hm : m1 = z_upd m g 47 16 x) (hx : 0 ≤ x ∧ x ≤ B) (hf : ¬ S.1 37) (hg : ¬ S.2.1 g) : J S m0 B m1 := h.upd hm (by unfold jl jh; rw [(jf_at (show (16 : Int) ≤ 16 ∧ (16 : Int) ≤ 16 by omega) 13 (jb 47) rfl rfl)]; exact hx) (fun e => absurd e (by decide)) (ja_at (show (0 : Int) ≤ 16 ∧ (16 : Int) ≤ 1618 by omega) 0 rfl rfl rfl) hf hg
theorem w47_17 (h : J S m0 B m) (hm : m1 = z_upd m g 47 17 x) (hx : 0 ≤ x ∧ x ≤ B) (hf : ¬ S.1 37) (hg : ¬ S.2.1 g) : J S m0 B m1 := h.upd hm (by unfold jl jh; rw [(jf_at (show (17 : Int) ≤ 17 ∧ (17 : Int) ≤ 17 by omega) 14 (jb 47) rfl rfl)]; exact hx) (fun e => absurd e (by decide)) (ja_at (show (0 : Int) ≤ 17 ∧ (17 : Int) ≤ 1618 by omega) 0 rfl rfl rfl) hf hg
theorem w47_18 (h : J S m0 B m) (hm : m1 = z_upd m g 47 18 x) (hx : 0 ≤ x ∧ x ≤ B) (hf : ¬ S.1 37) (hg : ¬ S.2.1 g) : J S m0 B m1 := h.upd hm (by unfold jl jh; rw [(jf_at (show (18 : Int) ≤ 18 ∧ (18 : Int) ≤ 18 by omega) 15 (jb 47) rfl rfl)]; exact hx) (fun e => absurd e (by decide)) (ja_at (show (0 : Int) ≤ 18 ∧ (18 : Int) ≤ 1618 by omega) 0 rfl rfl rfl) hf hg
theorem w47_19 (h : J S m0 B m) (hm : m1 = z_upd m g 47 i x) (hi : 19 ≤ i ∧ i ≤ 27) (hx : -9223372036854775808 ≤ x ∧ x ≤ 9223372036854775807) (hf : ¬ S.1 37) (hg : ¬ S.2.1 g) : J S m0 B m1 := h.upd hm (by unfold jl jh; rw [(jf_no (show (19 : Int) ≤ i ∧ i ≤ (27 : Int) by omega) (jb 47) rfl)]; exact hx) (fun e => absurd e (by decide)) (ja_at (show (0 : Int) ≤ i ∧ i ≤ (1618 : Int) by omega) 0 rfl rfl rfl) hf hg
theorem w47_28 (h : J S m0 B m) (hm : m1 = z_upd m g 47 i x) (hi : 28 ≤ i ∧ i ≤ 31) (hx : 0 ≤ x ∧ x ≤ 100) (hf : ¬ S.1 37) (hg : ¬ S.2.1 g) : J S m0 B m1 := h.upd hm (by unfold jl jh; rw [(jf_at (show (28 : Int) ≤ i ∧ i ≤ (31 : Int) by omega) 16 (jb 47) rfl rfl)]; exact hx) (fun e => absurd e (by decide)) (ja_at (show (0 : Int) ≤ i ∧ i ≤ (1618 : Int) by omega) 0 rfl rfl rfl) hf hg
theorem w47_32 (h : J S m0 B m) (hm : m1 = z_upd m g 47 i x) (hi : 32 ≤ i ∧ i ≤ 94) (hx : -9223372036854775808 ≤ x ∧ x ≤ 9223372036854775807) (hf : ¬ S.1 37) (hg : ¬ S.2.1 g) : J S m0 B m1 := h.upd hm (by unfold jl jh; rw [(jf_no (show (32 : Int) ≤ i ∧ i ≤ (94 : Int) by omega) (jb 47) rfl)]; exact hx) (fun e => absurd e (by decide)) (ja_at (show (0 : Int) ≤ i ∧ i ≤ (1618 : Int) by omega) 0 rfl rfl rfl) hf hg
theorem w47_95 (h : J S m0 B m) (hm : m1 = z_upd m g 47 i x) (hi : 95 ≤ i ∧ i ≤ 286) (hx : (-500) ≤ x ∧ x ≤ 500) (hf : ¬ S.1 37) (hg : ¬ S.2.1 g) : J S m0 B m1 := h.upd hm (by unfold jl jh; rw [(jf_at (show (95 : Int) ≤ i ∧ i ≤ (286 : Int) by omega) 17 (jb 47) rfl rfl)]; exact hx) (fun e => absurd e (by decide)) (ja_at (show (0 : Int) ≤ i ∧ i ≤ (1618 : Int) by omega) 0 rfl rfl rfl) hf hg
theorem w47_287 (h : J S m0 B m) (hm : m1 = z_upd m g 47 i x) (hi : 287 ≤ i ∧ i ≤ 294) (hx : 0 ≤ x ∧ x ≤ 6) (hf : ¬ S.1 37) (hg : ¬ S.2.1 g) : J S m0 B m1 := h.upd hm (by unfold jl jh; rw [(jf_at (show (287 : Int) ≤ i ∧ i ≤ (294 : Int) by omega) 18 (jb 47) rfl rfl)]; exact hx) (fun e => absurd e (by decide)) (ja_at (show (0 : Int) ≤ i ∧ i ≤ (1618 : Int) by omega) 0 rfl rfl rfl) hf hg
theorem w47_295 (h : J S m0 B m) (hm : m1 = z_upd m g 47 i x) (hi : 295 ≤ i ∧ i ≤ 342) (hx : 0 ≤ x ∧ x ≤ 86399) (hf : ¬ S.1 37) (hg : ¬ S.2.1 g) : J S m0 B m1 := h.upd hm (by unfold jl jh; rw [(jf_at (show (295 : Int) ≤ i ∧ i ≤ (342 : Int) by omega) 19 (jb 47) rfl rfl)]; exact hx) (fun e => absurd e (by decide)) (ja_at (show (0 : Int) ≤ i ∧ i ≤ (1618 : Int) by omega) 0 rfl rfl rfl) hf hg
theorem w47_343 (h : J S m0 B m) (hm : m1 = z_upd m g 47 i x) (hi : 343 ≤ i ∧ i ≤ 390) (hx : 0 ≤ x ∧ x ≤ 3) (hf : ¬ S.1 37) (hg : ¬ S.2.1 g) : J S m0 B m1 := h.upd hm (by unfold jl jh; rw [(jf_at (show (343 : Int) ≤ i ∧ i ≤ (390 : Int) by omega) 20 (jb 47) rfl rfl)]; exact hx) (fun e => absurd e (by decide)) (ja_at (show (0 : Int) ≤ i ∧ i ≤ (1618 : Int) by omega) 0 rfl rfl rfl) hf hg
theorem w47_391 (h : J S m0 B m) (hm : m1 = z_upd m g 47 i x) (hi : 391 ≤ i ∧ i ≤ 394) (hx : (-1) ≤ x ∧ x ≤ 364) (hf : ¬ S.1 37) (hg : ¬ S.2.1 g) : J S m0 B m1 := h.upd hm (by unfold jl jh; rw [(jf_at (show (391 : Int) ≤ i ∧ i ≤ (394 : Int) by omega) 21 (jb 47) rfl rfl)]; exact hx) (fun e => absurd e (by decide)) (ja_at (show (0 : Int) ≤ i ∧ i ≤ (1618 : Int) by omega) 0 rfl rfl rfl) hf hg
theorem w47_395 (h : J S m0 B m) (hm : m1 = z_upd m g 47 i x) (hi : 395 ≤ i ∧ i ≤ 422) (hx : 0 ≤ x ∧ x ≤ 7) (hf : ¬ S.1 37) (hg : ¬ S.2.1 g) : J S m0 B m1 := h.upd hm (by unfold jl jh; rw [(jf_at (show (395 : Int) ≤ i ∧ i ≤ (422 : Int) by omega) 22 (jb 47) rfl rfl)]; exact hx) (fun e => absurd e (by decide)) (ja_at (show (0 : Int) ≤ i ∧ i ≤ (1618 : Int) by omega) 0 rfl rfl rfl) hf hg
theorem w47_423 (h : J S m0 B m) (hm : m1 = z_upd m g 47 i x) (hi : 423 ≤ i ∧ i ≤ 787) (hx : (-1) ≤ x ∧ x ≤ 7) (hf : ¬ S.1 37) (hg : ¬ S.2.1 g) : J S m0 B m1 := h.upd hm (by unfold jl jh; rw [(jf_at (show (423 : Int) ≤ i ∧ i ≤ (787 : Int) by omega) 23 (jb 47) rfl rfl)]; exact hx) (fun e => absurd e (by decide)) (ja_at (show (0 : Int) ≤ i ∧ i ≤ (1618 : Int) by omega) 0 rfl rfl rfl) hf hg
theorem w47_788 (h : J S m0 B m) (hm : m1 = z_upd m g 47 i x) (hi : 788 ≤ i ∧ i ≤ 1610) (hx : -9223372036854775808 ≤ x ∧ x ≤ 9223372036854775807) (hf : ¬ S.1 37) (hg : ¬ S.2.1 g) : J S m0 B m1 := h.upd hm (by unfold jl jh; rw [(jf_no (show (788 : Int) ≤ i ∧ i ≤ (1610 : Int) by omega) (jb 47) rfl)]; exact hx) (fun e => absurd e (by decide)) (ja_at (show (0 : Int) ≤ i ∧ i ≤ (1618 : Int) by omega) 0 rfl rfl rfl) hf hg
theorem w47_1611 (h : J S m0 B m) (hm : m1 = z_upd m g 47 1611 x) (hx : 0 ≤ x ∧ x ≤ 100) (hf : ¬ S.1 37) (hg : ¬ S.2.1 g) : J S m0 B m1 := h.upd hm (by unfold jl jh; rw [(jf_at (show (1611 : Int) ≤ 1611 ∧ (1611 : Int) ≤ 1611 by omega) 24 (jb 47) rfl rfl)]; exact hx) (fun e => absurd e (by decide)) (ja_at (show (0 : Int) ≤ 1611 ∧ (1611 : Int) ≤ 1618 by omega) 0 rfl rfl rfl) hf hg
theorem w47_1612 (h : J S m0 B m) (hm : m1 = z_upd m g 47 1612 x) (hx : 0 ≤ x ∧ x ≤ 200) (hf : ¬ S.1 37) (hg : ¬ S.2.1 g) : J S m0 B m1 := h.upd hm (by unfold jl jh; rw [(jf_at (show (1612 : Int) ≤ 1612 ∧ (1612 : Int) ≤ 1612 by omega) 25 (jb 47) rfl rfl)]; exact hx) (fun e => absurd e (by decide)) (ja_at (show (0 : Int) ≤ 1612 ∧ (1612 : Int) ≤ 1618 by omega) 0 rfl rfl rfl) hf hg
theorem w47_1613 (h : J S m0 B m) (hm : m1 = z_upd m g 47 1613 x) (hx : 0 ≤ x ∧ x ≤ 100) (hf : ¬ S.1 37) (hg : ¬ S.2.1 g) : J S m0 B m1 := h.upd hm (by unfold jl jh; rw [(jf_at (show (1613 : Int) ≤ 1613 ∧ (1613 : Int) ≤ 1613 by omega) 26 (jb 47) rfl rfl)]; exact hx) (fun e => absurd e (by decide)) (ja_at (show (0 : Int) ≤ 1613 ∧ (1613 : Int) ≤ 1618 by omega) 0 rfl rfl rfl) hf hg
theorem w47_1614 (h : J S m0 B m) (hm : m1 = z_upd m g 47 1614 x) (hx : 0 ≤ x ∧ x ≤ 1) (hf : ¬ S.1 37) (hg : ¬ S.2.1 g) : J S m0 B m1 := h.upd hm (by unfold jl jh; rw [(jf_at (show (1614 : Int) ≤ 1614 ∧ (1614 : Int) ≤ 1614 by omega) 27 (jb 47) rfl rfl)]; exact hx) (fun e => absurd e (by decide)) (ja_at (show (0 : Int) ≤ 1614 ∧ (1614 : Int) ≤ 1618 by omega) 0 rfl rfl rfl) hf hg
theorem w47_1615 (h : J S m0 B m) (hm : m1 = z_upd m g 47 1615 x) (hx : -9223372036854775808 ≤ x ∧ x ≤ 9223372036854775807) (hf : ¬ S.1 37) (hg : ¬ S.2.1 g) : J S m0 B m1 := h.upd hm (by unfold jl jh; rw [(jf_no (show (1615 : Int) ≤ 1615 ∧ (1615 : Int) ≤ 1615 by omega) (jb 47) rfl)]; exact hx) (fun e => absurd e (by decide)) (ja_at (show (0 : Int) ≤ 1615 ∧ (1615 : Int) ≤ 1618 by omega) 0 rfl rfl rfl) hf hg
theorem w47_1616 (h : J S m0 B m) (hm : m1 = z_upd m g 47 1616 x) (hx : 0 ≤ x ∧ x ≤ B) (hf : ¬ S.1 37) (hg : ¬ S.2.1 g) : J S m0 B m1 := h.upd hm (by unfold jl jh; rw [(jf_at (show (1616 : Int) ≤ 1616 ∧ (1616 : Int) ≤ 1616 by omega) 28 (jb 47) rfl rfl)]; exact hx) (fun e => absurd e (by decide)) (ja_at (show (0 : Int) ≤ 1616 ∧ (1616 : Int) ≤ 1618 by omega) 0 rfl rfl rfl) hf hg
theorem w47_1617 (h : J S m0 B m) (hm : m1 = z_upd m g 47 1617 x) (hx : 0 ≤ x ∧ x ≤ 2000000300) (hf : ¬ S.1 37) (hg : ¬ S.2.1 g) : J S m0 B m1 := h.upd hm (by unfold jl jh; rw [(jf_at (show (1617 : Int) ≤ 1617 ∧ (1617 : Int) ≤ 1617 by omega) 29 (jb 47) rfl rfl)]; exact hx) (fun e => absurd e (by decide)) (ja_at (show (0 : Int) ≤ 1617 ∧ (1617 : Int) ≤ 1618 by omega) 0 rfl rfl rfl) hf hg
theorem w47_1618 (h : J S m0 B m) (hm : m1 = z_upd m g 47 1618 x) (hx : -9223372036854775808 ≤ x ∧ x ≤ 9223372036854775807) (hf : ¬ S.1 37) (hg : ¬ S.2.1 g) : J S m0 B m1 := h.upd hm (by unfold jl jh; rw [(jf_no (show (1618 : Int) ≤ 1618 ∧ (1618 : Int) ≤ 1618 by omega) (jb 47) rfl)]; exact hx) (fun e => absurd e (by decide)) (ja_at (show (0 : Int) ≤ 1618 ∧ (1618 : Int) ≤ 1618 by omega) 0 rfl rfl rfl) hf hg
theorem w48_0 (h : J S m0 B m) (hm : m1 = z_upd m g 48 i x) (hi : 0 ≤ i ∧ i ≤ 299) (hx : -9223372036854775808 ≤ x ∧ x ≤ 9223372036854775807) (hf : ¬ S.1 35) (hg : ¬ S.2.1 g) : J S m0 B m1 := h.upd hm (by unfold jl jh; rw [(jf_no (show (0 : Int) ≤ i ∧ i ≤ (299 : Int) by omega) (jb 48) rfl)]; exact hx) (fun e => absurd e (by decide)) (ja_at (show (0 : Int) ≤ i ∧ i ≤ (299 : Int) by omega) 0 rfl rfl rfl) hf hg
theorem w49_0 (h : J S m0 B m) (hm : m1 = z_upd m g 49 i x) (hi : 0 ≤ i ∧ i ≤ 7) (hx : -9223372036854775808 ≤ x ∧ x ≤ 9223372036854775807) (hf : ¬ S.1 39) (hg : ¬ S.2.1 g) : J S m0 B m1 := h.upd hm (by unfold jl jh; rw [(jf_no (show (0 : Int) ≤ i ∧ i ≤ (7 : Int) by omega) (jb 49) rfl)]; exact hx) (fun e => absurd e (by decide)) (ja_at (show (0 : Int) ≤ i ∧ i ≤ (7 : Int) by omega) 0 rfl rfl rfl) hf hg
theorem w50_0 (h : J S m0 B m) (hm : m1 = z_upd m g 50 i x) (hi : 0 ≤ i ∧ i ≤ 3) (hx : -9223372036854775808 ≤ x ∧ x ≤ 9223372036854775807) (hf : ¬ S.1 39) (hg : ¬ S.2.1 g) : J S m0 B m1 := h.upd hm (by unfold jl jh; rw [(jf_no (show (0 : Int) ≤ i ∧ i ≤ (3 : Int) by omega) (jb 50) rfl)]; exact hx) (fun e => absurd e (by decide)) (ja_at (show (0 : Int) ≤ i ∧ i ≤ (3 : Int) by omega) 0 rfl rfl rfl) hf hg
end
