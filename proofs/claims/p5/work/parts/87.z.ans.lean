/-! Answers of mark, prepaid, bill. -/
theorem prepaid_A {c r : zM} {A Z a : Int} (h : MG A Z (c 0) (r 4 45)) : (f135_1 a c).1 = (f284_1 a r).1 := by
  obtain ⟨-, o11, -⟩ := h.1.o
  have hp := h.2.2.2.2.2
  have e : (if c 0 8 11 = 1 then (1 : Int) else 0) = c 0 8 11 := by split <;> omega
  unfold f135_1 f284_1
  simp only [zn_a, zs_a]
  rw [o11, e]
  by_cases x : c 0 8 11 = a
  · rw [if_pos x, if_pos x]
  · rw [if_neg x, if_neg x]
theorem mark_A {c r : zM} {A Z a b : Int} (h : MG A Z (c 0) (r 4 45)) : (f134_1 a b c).1 = (f283_1 a b r).1 := by
  have hk := h.1.k
  unfold f134_1 f283_1
  by_cases a0 : a < 0
  · rw [if_pos a0, if_pos a0]
  rw [if_neg a0, if_neg a0]
  by_cases a1 : 2 ≤ a
  · rw [if_pos a1, if_neg (show ¬ a ≤ 1 by omega)]
  rw [if_neg a1, if_pos (show a ≤ 1 by omega), zn_a, zn_a]
  have ev : f40_1 0 a c = r 4 45 (40 + a) := isOn_c hk.1 hk.2.1 (by omega) (by omega)
  have h01 := hk.1 a (by omega) (by omega)
  have er : (if r 4 45 (40 + a) = 1 then (1 : Int) else 0) = r 4 45 (40 + a) := by split <;> omega
  rw [ev, er]
  by_cases e : r 4 45 (40 + a) = b
  · rw [if_pos e, if_pos e]
  rw [if_neg e, if_neg e]
  simp only [zs_a]
theorem an286 (m : zM) {p : Int} (hp : 1172 ≤ p) : ∃ x : zM, fl286_104_1 (fun m514 => fl286_137_1 (fun m518 => zs (f223_1 24 0 m518) fun m522 => ((m522 4 45 18), m522)) p (zfu 5) 0 m514) p (zfu 36) 0 m = (x 4 45 18, x) := by
  obtain ⟨m2, e2, -⟩ := regs286 (k := fun m514 => fl286_137_1 (fun m518 => zs (f223_1 24 0 m518) fun m522 => ((m522 4 45 18), m522)) p (zfu 5) 0 m514) hp (zfu 36) 0 m (by omega) (by omega) (by rw [zfu_eq]; omega)
  rw [e2]
  obtain ⟨m3, e3, -⟩ := grt286 (k := fun m518 => zs (f223_1 24 0 m518) fun m522 => ((m522 4 45 18), m522)) hp (zfu 5) 0 m2 (by omega) (by omega) (by rw [zfu_eq]; omega)
  rw [e3, zs_a]
  exact ⟨f223_1 24 0 m3, rfl⟩
theorem sh18 {r : zM} {P : Int × zM → Prop} {k : zM → Int × zM} (H : ∀ m' : zM, m' 4 45 18 = r 4 45 18 → P (k m')) : P (fl286_17_1 k (zfu 271) 45 r) := by
  obtain ⟨m1, e1, -, s2, -⟩ := shl286 (k := k) (zfu 271) 45 r (by omega) (by omega) (by rw [zfu_eq]; omega)
  rw [e1]
  exact H m1 (s2 18 (by omega))
theorem pair18 {y : Int × zM} (h : ∃ x : zM, y = (x 4 45 18, x)) : y.1 = y.2 4 45 18 := by
  obtain ⟨x, rfl⟩ := h
  rfl
theorem bill_A {c r : zM} {A Z : Int} (h : MG A Z (c 0) (r 4 45)) (hA : A ≤ 5000000) (hI : BI (c 0) (r 4 45)) : (f137_1 c).1 = (f286_1 r).1 := by
  have hb := (bill_G h hA hI).1.1
  have h18 := hI.2.1
  have e1 : (f137_1 c).1 = (f137_1 c).2 0 23 3 := by
    unfold f137_1
    rw [zs_a]
  have e2 : (f286_1 r).1 = (f286_1 r).2 4 45 18 := by
    refine pair18 ?_
    unfold f286_1
    by_cases x : r 4 45 18 < 7
    · rw [if_pos x, zs_a, zs_a]
      exact an286 _ (by omega)
    · rw [if_neg x]
      refine sh18 (P := fun y => ∃ x : zM, y = (x 4 45 18, x)) (fun m1 m18 => ?_)
      try dsimp only
      rw [if_neg (show ¬ m1 4 45 18 < 7 by omega), zs_a, zs_a]
      exact an286 _ (by omega)
  rw [e1, e2]
  exact hb
theorem aw_prepaid {m m1 m2 : zM} {B a v w : Int} (ha : 0 ≤ a ∧ a ≤ 1) (hk : z_mok lL m) (hJ : JB B m) (hB : B + 220000 ≤ 700000000) (h : Rel3 B m m) (e1 : f135_1 a m = (v, m1)) (e2 : f284_1 a m1 = (w, m2)) : v = w := by
  obtain ⟨-, k2, -⟩ := q135_1 a hk hJ (by omega) ha
  rw [e1] at k2
  have e45 : m1 4 45 = m 4 45 := k2.row 45 rfl rfl 4
  have g := prepaid_A (c := m) (r := m1) (a := a) (A := B / 244) (Z := B / 2) (by rw [e45]; exact h.2.1.1)
  rw [e1, e2] at g
  exact g
theorem aw_mark {m m1 m2 : zM} {B a b v w : Int} (ha : -2147483648 ≤ a ∧ a ≤ 2147483647) (hb : 0 ≤ b ∧ b ≤ 1) (hk : z_mok lL m) (hJ : JB B m) (hB : B + 220000 ≤ 700000000) (h : Rel3 B m m) (e1 : f134_1 a b m = (v, m1)) (e2 : f283_1 a b m1 = (w, m2)) : v = w := by
  obtain ⟨-, k2, -⟩ := q134_1 a b hk hJ (by omega) ha hb
  rw [e1] at k2
  have e45 : m1 4 45 = m 4 45 := k2.row 45 rfl rfl 4
  have g := mark_A (c := m) (r := m1) (a := a) (b := b) (A := B / 244) (Z := B / 2) (by rw [e45]; exact h.2.1.1)
  rw [e1, e2] at g
  exact g
theorem aw_bill {m m1 m2 : zM} {B v w : Int} (hk : z_mok lL m) (hJ : JB B m) (hB : B + 220000 ≤ 700000000) (h : Rel3 B m m) (e1 : f137_1 m = (v, m1)) (e2 : f286_1 m1 = (w, m2)) : v = w := by
  obtain ⟨-, k2, -⟩ := q137_1 hk hJ (by omega)
  rw [e1] at k2
  have e45 : m1 4 45 = m 4 45 := k2.row 45 rfl rfl 4
  have g := bill_A (c := m) (r := m1) (A := B / 244) (Z := B / 2) (by rw [e45]; exact h.2.1.1) (by omega) (by rw [e45]; exact h.2.1.2.2.1)
  rw [e1, e2] at g
  exact g
