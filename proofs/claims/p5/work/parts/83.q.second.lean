/-! A second of the reference, as far as it flows; j seconds of one kind. -/
noncomputable def fA (m : zM) : zM := zn ((pw 0 m * pw 0 m)) fun z22 => zn ((pw 1 m * pw 1 m)) fun z23 => zn (f214_1 (z22 + z23) m) fun v26 => zs (z_upd m 4 45 13 ((m 4 45 13) + 1)) fun m28 => zn (w64 ((m28 4 45 25) + 1)) fun z30 => zs (z_upd m28 4 45 25 z30) fun m31 => zn (f215_1 (pw 0 m) m31) fun v35 => if v35 < (m31 4 45 4) then (zn (f215_1 (pw 1 m) m31) fun v44 => if v44 < (m31 4 45 4) then (zn (w64 ((m31 4 45 14) + 1)) fun z50 => zs (z_upd m31 4 45 14 z50) fun m51 => m51) else (zs (f216_1 (pw 0 m) (pw 1 m) v26 m31) fun m47 => m47)) else (zs (f216_1 (pw 0 m) (pw 1 m) v26 m31) fun m39 => m39)
theorem f208_A (m : zM) : f208_1 m = f230_1 (f224_1 (f222_1 (fA m))) := by
  rw [f208_g]
  unfold g208 fA
  simp only [zn_a, zs_a]
theorem f215_m (q : Int) (m : zM) : f215_1 q m = max q (-q) := by
  show (if q < 0 then -q else q) = _
  split <;> omega
/-- what is added, as the reference has it -/
noncomputable def DR (m : zM) (q : Int) : Int := if max (pw 0 m) (-(pw 0 m)) < m 4 45 4 ∧ max (pw 1 m) (-(pw 1 m)) < m 4 45 4 then 0 else dl (pw 0 m) (pw 1 m) (f214_1 (pw 0 m * pw 0 m + pw 1 m * pw 1 m) m) q
noncomputable def KR (m : zM) : Int := if max (pw 0 m) (-(pw 0 m)) < m 4 45 4 ∧ max (pw 1 m) (-(pw 1 m)) < m 4 45 4 then 1 else 0
theorem root_b {P Q : Int} (m : zM) (hP : -12000000 ≤ P ∧ P ≤ 12000000) (hQ : -12000000 ≤ Q ∧ Q ≤ 12000000) : isRoot (P * P + Q * Q) (f214_1 (P * P + Q * Q) m) ∧ 0 ≤ f214_1 (P * P + Q * Q) m ∧ f214_1 (P * P + Q * Q) m ≤ 17000000 := by
  have s3 : P * P ≤ 144000000000000 ∧ 0 ≤ P * P := ⟨by
    have h1 : 0 ≤ (12000000 + P) * (12000000 - P) := Int.mul_nonneg (by omega) (by omega)
    rw [Int.add_mul, Int.mul_sub, Int.mul_sub] at h1
    omega, sq_nn _⟩
  have s7 : Q * Q ≤ 144000000000000 ∧ 0 ≤ Q * Q := ⟨by
    have h1 : 0 ≤ (12000000 + Q) * (12000000 - Q) := Int.mul_nonneg (by omega) (by omega)
    rw [Int.add_mul, Int.mul_sub, Int.mul_sub] at h1
    omega, sq_nn _⟩
  have h := rt_ref (v := P * P + Q * Q) m (by omega)
  refine ⟨h, h.1, ?_⟩
  by_cases h9 : f214_1 (P * P + Q * Q) m ≤ 17000000
  · exact h9
  · exfalso
    have h8 : (17000000 : Int) * 17000000 ≤ f214_1 (P * P + Q * Q) m * f214_1 (P * P + Q * Q) m := Int.mul_le_mul (by omega) (by omega) (by omega) (by omega)
    have := h.2.1
    omega
theorem flow_r {m : zM} {B tar : Int} (ho : OM B m) (hB : B ≤ 1000000000) (h : RB (m 4 45)) (ht : 0 ≤ tar ∧ tar < 4) (htar : ∀ m' : zM, (∀ i, i = 0 ∨ (287 ≤ i ∧ i ≤ 787) → m' 4 45 i = m 4 45 i) → f217_1 (m' 4 45 0) m' = tar) (h25 : 0 ≤ m 4 45 25 ∧ m 4 45 25 ≤ 1000000000) :
    (∀ q t, 0 ≤ q → q < 7 → 0 ≤ t → t < 4 → fA m 4 45 (60 + 5 * q + t) = m 4 45 (60 + 5 * q + t) + if t = tar then DR m q else 0) ∧ (∀ q, 0 ≤ q → q < 7 → fA m 4 45 (60 + 5 * q + 4) = m 4 45 (60 + 5 * q + 4) + DR m q) ∧
    fA m 4 45 10 = m 4 45 10 - ((m 4 45 (60 + tar) + DR m 0) / m 4 45 5 - m 4 45 (60 + tar) / m 4 45 5) * m 4 45 (28 + tar) ∧ fA m 4 45 14 = m 4 45 14 + KR m ∧
    fA m 4 45 22 = m 4 45 22 + DR m 0 ∧ fA m 4 45 23 = m 4 45 23 + DR m 1 ∧ fA m 4 45 24 = m 4 45 24 + DR m 6 ∧ fA m 4 45 13 = m 4 45 13 + 1 ∧ fA m 4 45 25 = m 4 45 25 + 1 ∧
    (∀ i, i ≠ 10 → i ≠ 13 → i ≠ 14 → i ≠ 25 → (i < 22 ∨ 24 < i) → (i < 60 ∨ 94 < i) → fA m 4 45 i = m 4 45 i) ∧ ∀ g k, (g ≠ 4 ∨ k ≠ 45) → fA m g k = m g k := by
  have hp := pw_r ho hB (i := 0) (by omega)
  have hq := pw_r ho hB (i := 1) (by omega)
  obtain ⟨hroot, hs0, hs1⟩ := root_b (P := pw 0 m) (Q := pw 1 m) m hp hq
  obtain ⟨hr, hu, hpr, hcd, h22, h23, h24, h14⟩ := h
  obtain ⟨m1, e1⟩ : ∃ x, x = z_upd (z_upd m 4 45 13 (m 4 45 13 + 1)) 4 45 25 (m 4 45 25 + 1) := ⟨_, rfl⟩
  have w1 : ∀ i, m1 4 45 i = if i = 25 then m 4 45 25 + 1 else if i = 13 then m 4 45 13 + 1 else m 4 45 i := fun i => by rw [e1, zu_row, zu_row]; rfl
  have wo : ∀ i, i ≠ 25 → i ≠ 13 → m1 4 45 i = m 4 45 i := fun i h1 h2 => by rw [w1, if_neg h1, if_neg h2]
  have g1 : ∀ g k, (g ≠ 4 ∨ k ≠ 45) → m1 g k = m g k := fun g' k hk => by
    rw [e1]
    rcases hk with hk | hk
    · rw [zu_g _ _ _ hk, zu_g _ _ _ hk]
    · rw [zu_k _ _ _ hk, zu_k _ _ _ hk]
  have ef : fA m = if max (pw 0 m) (-(pw 0 m)) < m 4 45 4 then (if max (pw 1 m) (-(pw 1 m)) < m 4 45 4 then z_upd m1 4 45 14 (m 4 45 14 + 1) else f216_1 (pw 0 m) (pw 1 m) (f214_1 (pw 0 m * pw 0 m + pw 1 m * pw 1 m) m) m1) else f216_1 (pw 0 m) (pw 1 m) (f214_1 (pw 0 m * pw 0 m + pw 1 m * pw 1 m) m) m1 := by
    unfold fA
    simp only [zn_a, zs_a]
    have u25 : z_upd m 4 45 13 (m 4 45 13 + 1) 4 45 25 = m 4 45 25 := by rw [zu_row, fu_i _ _ (by decide)]
    rw [u25, w64_id (by omega), ← e1, f215_m, f215_m, wo 4 (by decide) (by decide), wo 14 (by decide) (by decide), w64_id (by omega)]
  by_cases c1 : max (pw 0 m) (-(pw 0 m)) < m 4 45 4 ∧ max (pw 1 m) (-(pw 1 m)) < m 4 45 4
  · have d0 : ∀ q, DR m q = 0 := fun q => by unfold DR; rw [if_pos c1]
    have k1 : KR m = 1 := by unfold KR; rw [if_pos c1]
    rw [ef, if_pos c1.1, if_pos c1.2]
    simp only [d0, k1, Int.add_zero]
    refine ⟨fun q t _ _ _ _ => ?_, fun q _ _ => ?_, ?_, ?_, ?_, ?_, ?_, ?_, ?_, fun i i0 i1 i2 i3 _ _ => ?_, fun g k hk => ?_⟩
    · rw [zu_row, fu_i _ _ (by omega), wo _ (by omega) (by omega)]
      split <;> omega
    · rw [zu_row, fu_i _ _ (by omega), wo _ (by omega) (by omega)]
    · rw [zu_row, fu_i _ _ (by omega), wo _ (by omega) (by omega), Int.sub_self, Int.zero_mul]
      omega
    · rw [zu_row, fu_s]
    · rw [zu_row, fu_i _ _ (by omega), wo _ (by omega) (by omega)]
    · rw [zu_row, fu_i _ _ (by omega), wo _ (by omega) (by omega)]
    · rw [zu_row, fu_i _ _ (by omega), wo _ (by omega) (by omega)]
    · rw [zu_row, fu_i _ _ (by omega), w1, if_neg (by decide), if_pos rfl]
    · rw [zu_row, fu_i _ _ (by omega), w1, if_pos rfl]
    · rw [zu_row, fu_i _ _ i2, wo _ i3 i1]
    · rw [← g1 g k hk]
      rcases hk with hk | hk
      · rw [zu_g _ _ _ hk]
      · rw [zu_k _ _ _ hk]
  · have d0 : ∀ q, DR m q = dl (pw 0 m) (pw 1 m) (f214_1 (pw 0 m * pw 0 m + pw 1 m * pw 1 m) m) q := fun q => by unfold DR; rw [if_neg c1]
    have k1 : KR m = 0 := by unfold KR; rw [if_neg c1]
    have ef2 : fA m = f216_1 (pw 0 m) (pw 1 m) (f214_1 (pw 0 m * pw 0 m + pw 1 m * pw 1 m) m) m1 := by
      rw [ef]
      by_cases c2 : max (pw 0 m) (-(pw 0 m)) < m 4 45 4
      · rw [if_pos c2, if_neg (fun c3 => c1 ⟨c2, c3⟩)]
      · rw [if_neg c2]
    have hRB : RB (m1 4 45) := by
      refine ⟨fun i i0 i1 => ?_, ?_, fun t t0 t1 => ?_, ?_, ?_, ?_, ?_, ?_⟩
      · rw [wo i (by omega) (by omega)]
        exact hr i i0 i1
      · rw [wo 5 (by omega) (by omega)]
        exact hu
      · rw [wo _ (by omega) (by omega)]
        exact hpr t t0 t1
      · rw [wo 10 (by omega) (by omega)]
        exact hcd
      · rw [wo 22 (by omega) (by omega)]
        exact h22
      · rw [wo 23 (by omega) (by omega)]
        exact h23
      · rw [wo 24 (by omega) (by omega)]
        exact h24
      · rw [wo 14 (by omega) (by omega)]
        exact h14
    obtain ⟨a1, a2, a3, a4, a5, a6, a7, a8⟩ := count_r (m := m1) (tar := tar) hp hq ⟨hs0, hs1⟩ ht (htar m1 (fun i hi => wo i (by omega) (by omega))) hRB
    rw [← ef2] at a1 a2 a3 a4 a5 a6 a7 a8
    simp only [← d0] at a1 a2 a3 a4 a5 a6
    refine ⟨fun q t h0 h1 h2 h3 => ?_, fun q h0 h1 => ?_, ?_, ?_, ?_, ?_, ?_, ?_, ?_, fun i i0 i1 i2 i3 i4 i5 => ?_, fun g k hk => ?_⟩
    · rw [a1 q t h0 h1 h2 h3, wo _ (by omega) (by omega)]
    · rw [a2 q h0 h1, wo _ (by omega) (by omega)]
    · rw [a3, wo 10 (by omega) (by omega), wo _ (by omega) (by omega), wo 5 (by omega) (by omega), wo _ (by omega) (by omega)]
    · rw [a7 14 (by omega) (by omega) (by omega), wo 14 (by omega) (by omega), k1, Int.add_zero]
    · rw [a4, wo _ (by omega) (by omega)]
    · rw [a5, wo _ (by omega) (by omega)]
    · rw [a6, wo _ (by omega) (by omega)]
    · rw [a7 13 (by omega) (by omega) (by omega), w1, if_neg (by decide), if_pos rfl]
    · rw [a7 25 (by omega) (by omega) (by omega), w1, if_pos rfl]
    · rw [a7 i i0 i4 i5, wo i i3 i1]
    · rw [a8 g k hk, g1 g k hk]
/-- j seconds of one kind lie between the class and the reference, as far as it flows -/
def FLo (D : Int → Int) (K j tar : Int) (c : Nat → Int → Int) (w : Int → Int) : Prop := (∀ q t, 0 ≤ q → q < 7 → 0 ≤ t → t < 4 → w (60 + 5 * q + t) = c 24 (q * 4 + t) + if t = tar then j * D q else 0) ∧
  (∀ q, 0 ≤ q → q < 7 → w (60 + 5 * q + 4) = w (60 + 5 * q + 0) + w (60 + 5 * q + 1) + w (60 + 5 * q + 2) + w (60 + 5 * q + 3)) ∧
  w 10 = c 8 10 - ((c 24 tar + j * D 0) / w 5 - c 24 tar / w 5) * w (28 + tar) ∧ w 14 = c 8 14 + j * K ∧ w 22 = c 27 3 + j * D 0 ∧ w 23 = c 27 4 + j * D 1 ∧ w 24 = c 27 5 + j * D 6
theorem FLo.step {D : Int → Int} {K j tar : Int} {c : Nat → Int → Int} {m : zM} {B : Int} (h : FLo D K j tar c (m 4 45)) (ho : OM B m) (hB : B ≤ 1000000000) (hb : RB (m 4 45)) (ht : 0 ≤ tar ∧ tar < 4) (htar : ∀ m' : zM, (∀ i, i = 0 ∨ (287 ≤ i ∧ i ≤ 787) → m' 4 45 i = m 4 45 i) → f217_1 (m' 4 45 0) m' = tar) (h25 : 0 ≤ m 4 45 25 ∧ m 4 45 25 ≤ 1000000000)
    (hD : ∀ q, DR m q = D q) (hK : KR m = K) : FLo D K (j + 1) tar c (fA m 4 45) := by
  obtain ⟨f1, f2, f3, f4, f5, f6, f7, -, -, f10, -⟩ := flow_r ho hB hb ht htar h25
  obtain ⟨a1, a2, a3, a4, a5, a6, a7⟩ := h
  simp only [hD, hK] at f1 f2 f3 f4 f5 f6 f7
  have e : ∀ x, (j + 1) * x = j * x + x := fun x => by rw [Int.add_mul, Int.one_mul]
  have t0 : m 4 45 (60 + tar) = c 24 tar + j * D 0 := by
    have h9 := a1 0 tar (by omega) (by omega) ht.1 ht.2
    rw [if_pos rfl, show (60 : Int) + 5 * 0 + tar = 60 + tar by omega, show (0 : Int) * 4 + tar = tar by omega] at h9
    exact h9
  refine ⟨fun q t h0 h1 h2 h3 => ?_, fun q h0 h1 => ?_, ?_, ?_, ?_, ?_, ?_⟩
  · rw [f1 q t h0 h1 h2 h3, a1 q t h0 h1 h2 h3, e]
    by_cases ht9 : t = tar
    · rw [if_pos ht9, if_pos ht9, if_pos ht9]
      omega
    · rw [if_neg ht9, if_neg ht9, if_neg ht9]
      omega
  · rw [f2 q h0 h1, f1 q 0 h0 h1 (by omega) (by omega), f1 q 1 h0 h1 (by omega) (by omega), f1 q 2 h0 h1 (by omega) (by omega), f1 q 3 h0 h1 (by omega) (by omega), a2 q h0 h1]
    rcases (show tar = 0 ∨ tar = 1 ∨ tar = 2 ∨ tar = 3 by omega) with rfl | rfl | rfl | rfl
    · rw [if_pos rfl, if_neg (by decide), if_neg (by decide), if_neg (by decide)]
      omega
    · rw [if_pos rfl, if_neg (by decide), if_neg (by decide), if_neg (by decide)]
      omega
    · rw [if_pos rfl, if_neg (by decide), if_neg (by decide), if_neg (by decide)]
      omega
    · rw [if_pos rfl, if_neg (by decide), if_neg (by decide), if_neg (by decide)]
      omega
  · rw [f10 5 (by omega) (by omega) (by omega) (by omega) (by omega) (by omega), f10 (28 + tar) (by omega) (by omega) (by omega) (by omega) (by omega) (by omega), f3, t0, a3, e]
    have x : ∀ p q r s : Int, p - (q - r) * s - (p - (q - r) * s - (p - (q - r) * s)) = p - (q - r) * s := fun p q r s => by omega
    rw [show c 24 tar + (j * D 0 + D 0) = c 24 tar + j * D 0 + D 0 by omega]
    have y : ∀ p A Bb C s : Int, p - (Bb - A) * s - (C - Bb) * s = p - (C - A) * s := fun p A Bb C s => by
      rw [Int.sub_mul, Int.sub_mul, Int.sub_mul]
      omega
    exact y _ _ _ _ _
  · rw [f4, a4, e]
    omega
  · rw [f5, a5, e]
    omega
  · rw [f6, a6, e]
    omega
  · rw [f7, a7, e]
    omega
