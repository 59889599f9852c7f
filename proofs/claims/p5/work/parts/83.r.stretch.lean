/-! How long a stretch is: nothing turns ahead of its last second. -/
theorem turn_loop {c : zM} {g : Nat} {seen delay a : Int} {w so : Int → Int} (hb : b01 w) (ho : c g 33 3 = onV w) (hl : ∀ m, 2 ≤ m → m < 5 → 0 ≤ c g 36 m ∧ c g 36 m ≤ 1000000000) (hd : 0 ≤ delay ∧ delay ≤ 1000000)
    (hso : ∀ y, 2 ≤ y → y < 5 → (so y = 0 ∨ so y = 1) ∧ (if zand (zshr seen y) 1 = 1 then (1 : Int) else 0) = so y) : ∀ (n : Nat) (v0 y : Int), 2 ≤ y → y ≤ 5 → 5 - y < n → 1 ≤ v0 →
    ∃ v, fl39_6_1 (fun _ _ _ => 1) (fun v => v) g seen delay a c n v0 y = v ∧ v ≤ v0 ∧ 1 ≤ v ∧ (1 < v → ∀ m, y ≤ m → m < 5 → (w (40 + m) = 1 → so m = 1) ∧ (w (40 + m) = 0 → so m = 1 → c g 36 m + v ≤ delay + 1))
  | 0, v0, y, h0, h1, h2, h3 => by omega
  | n + 1, v0, y, h0, h1, h2, h3 => by
    show ∃ v, fl39_6_1_b (fl39_6_1 (fun _ _ _ => 1) (fun v => v) g seen delay a c n) (fun _ _ _ => 1) (fun v => v) g seen delay a c v0 y = v ∧ _
    unfold fl39_6_1_b
    by_cases h : 5 ≤ y
    · rw [if_pos h]
      exact ⟨v0, rfl, Int.le_refl _, h3, fun _ m m0 m1 => by omega⟩
    · rw [if_neg h]
      simp only [zn_a]
      obtain ⟨s1, s2⟩ := hso y h0 (by omega)
      have hon : f40_1 g y c = w (40 + y) := isOn_c hb ho (by omega) (by omega)
      have hbb := hb y (by omega) (by omega)
      have hly := hl y h0 (by omega)
      rw [hon, w32_id (by omega)]
      by_cases hz : zand (zshr seen y) 1 = 1
      · rw [if_pos hz] at s2 ⊢
        by_cases ho1 : w (40 + y) = 0
        · rw [if_pos ho1]
          obtain ⟨v, e1, e2, e3, e4⟩ := turn_loop hb ho hl hd hso n (min v0 (max 1 (delay + 1 - c g 36 y))) (y + 1) (by omega) (by omega) (by omega) (by omega)
          refine ⟨v, e1, by omega, e3, fun hv m m0 m1 => ?_⟩
          by_cases e : m = y
          · subst e
            exact ⟨fun h9 => by omega, fun _ _ => by omega⟩
          · exact e4 hv m (by omega) m1
        · rw [if_neg ho1]
          obtain ⟨v, e1, e2, e3, e4⟩ := turn_loop hb ho hl hd hso n v0 (y + 1) (by omega) (by omega) (by omega) h3
          refine ⟨v, e1, by omega, e3, fun hv m m0 m1 => ?_⟩
          by_cases e : m = y
          · subst e
            exact ⟨fun _ => by omega, fun h9 => absurd h9 ho1⟩
          · exact e4 hv m (by omega) m1
      · rw [if_neg hz] at s2 ⊢
        by_cases ho1 : w (40 + y) = 0
        · rw [if_pos ho1]
          obtain ⟨v, e1, e2, e3, e4⟩ := turn_loop hb ho hl hd hso n v0 (y + 1) (by omega) (by omega) (by omega) h3
          refine ⟨v, e1, by omega, e3, fun hv m m0 m1 => ?_⟩
          by_cases e : m = y
          · subst e
            exact ⟨fun h9 => by omega, fun _ h9 => by omega⟩
          · exact e4 hv m (by omega) m1
        · rw [if_neg ho1]
          exact ⟨1, rfl, h3, Int.le_refl _, fun h9 => by omega⟩
theorem turn_T {c : zM} {g : Nat} {seen delay a : Int} {w so : Int → Int} (hb : b01 w) (ho : c g 33 3 = onV w) (hl : ∀ m, 2 ≤ m → m < 5 → 0 ≤ c g 36 m ∧ c g 36 m ≤ 1000000000) (hd : 0 ≤ delay ∧ delay ≤ 1000000) (ha : 1 ≤ a)
    (hso : ∀ y, 2 ≤ y → y < 5 → (so y = 0 ∨ so y = 1) ∧ (if zand (zshr seen y) 1 = 1 then (1 : Int) else 0) = so y) :
    ∃ v, f39_1 g seen delay a c = v ∧ v ≤ a ∧ 1 ≤ v ∧ (1 < v → ∀ m, 2 ≤ m → m < 5 → (w (40 + m) = 1 → so m = 1) ∧ (w (40 + m) = 0 → so m = 1 → c g 36 m + v ≤ delay + 1)) :=
  turn_loop hb ho hl hd hso (zfu 4) a 2 (by omega) (by omega) (by rw [zfu_eq]; omega) ha
/-- credit lasts that long -/
theorem last_T {cr p u P raw R T j : Int} (hc : 0 < cr) (hp : 1 ≤ p) (hu : 1 ≤ u) (hP : 1 ≤ P) (hr : 0 ≤ raw) (hR : R = (cr + p - 1) / p) (hT : T = ((raw / u + R) * u - raw + P - 1) / P) (hj0 : 0 ≤ j) (hj : j < T) : 0 < cr - ((raw + j * P) / u - raw / u) * p := by
  -- the last whole reading that is paid
  have r1 : p * R ≤ cr + p - 1 := by rw [hR]; exact Int.mul_ediv_self_le (by omega)
  have r2 : (R - 1) * p < cr := by
    rw [Int.sub_mul, Int.one_mul, Int.mul_comm]
    omega
  have t1 : P * T ≤ (raw / u + R) * u - raw + P - 1 := by rw [hT]; exact Int.mul_ediv_self_le (by omega)
  have t2 : j * P ≤ (T - 1) * P := Int.mul_le_mul_of_nonneg_right (by omega) (by omega)
  have t3 : (T - 1) * P = P * T - P := by rw [Int.sub_mul, Int.one_mul, Int.mul_comm]
  have t4 : raw + j * P < (raw / u + R) * u := by omega
  have t5 : (raw + j * P) / u < raw / u + R := Int.ediv_lt_of_lt_mul (by omega) t4
  have t6 : ((raw + j * P) / u - raw / u) * p ≤ (R - 1) * p := Int.mul_le_mul_of_nonneg_right (by omega) (by omega)
  omega
theorem open_T2 {c : zM} {g : Nat} {tar a : Int} (h : FB g c) (ht : 0 ≤ tar ∧ tar < 4) (ha : 1 ≤ a ∧ a ≤ 3600) (hcr : c g 8 10 ≤ 5000000000000) (hpos : c g 8 11 ≠ 0 → c g 8 12 = 0 → 0 < c g 8 10) {D : Int → Int} (hD : ∀ q, D q = DL (c g 8 12) (c g 22 3) (c g 22 7) (c g 19 6) (c g 10 0) q) :
    ∃ v, f41_1 g tar a c = v ∧ v ≤ a ∧ 1 ≤ v ∧ (c g 8 11 ≠ 0 → c g 8 12 = 0 → ∀ j, 0 ≤ j → j < v → 1 < v → 0 < c g 8 10 - ((c g 24 tar + j * D 0) / c g 10 1 - c g 24 tar / c g 10 1) * c g 10 (6 + tar)) := by
  have hc := crp_c h
  obtain ⟨hP, hQ, hS, hr, hu, hp, hcd, h3, h4, h5, h14, ho⟩ := h
  have r0 := hr tar (by omega) (by omega)
  have hpt := hp tar ht.1 ht.2
  unfold f41_1
  by_cases e1 : c g 8 11 = 0
  · rw [if_pos e1]
    exact ⟨a, rfl, Int.le_refl _, ha.1, fun h9 => absurd e1 h9⟩
  rw [if_neg e1]
  by_cases e2 : c g 8 12 = 0
  case neg =>
    rw [if_neg e2]
    exact ⟨a, rfl, Int.le_refl _, ha.1, fun _ h9 => absurd h9 e2⟩
  rw [if_pos e2]
  have hcp := hpos e1 e2
  have flat : D 0 = 0 ∨ c g 10 (6 + tar) = 0 → ∀ j, 0 < c g 8 10 - ((c g 24 tar + j * D 0) / c g 10 1 - c g 24 tar / c g 10 1) * c g 10 (6 + tar) := fun hh j => by
    rcases hh with hh | hh
    · rw [hh, Int.mul_zero, Int.add_zero, Int.sub_self, Int.zero_mul]
      omega
    · rw [hh, Int.mul_zero]
      omega
  by_cases e3 : c g 22 3 ≤ 0
  · rw [if_pos e3]
    have d0 : D 0 = 0 := by
      rw [hD 0]
      unfold DL dl
      rw [if_pos rfl]
      split <;> omega
    exact ⟨a, rfl, Int.le_refl _, ha.1, fun _ _ j _ _ _ => flat (.inl d0) j⟩
  rw [if_neg e3]
  by_cases e4 : c g 10 (6 + tar) ≤ 0
  · rw [if_pos e4]
    exact ⟨a, rfl, Int.le_refl _, ha.1, fun _ _ j _ _ _ => flat (.inr (by omega)) j⟩
  rw [if_neg e4, zn_a, hc]
  by_cases e5 : crp (c g 8 12) (c g 22 3) (c g 22 7) (c g 10 0) = 0
  case neg =>
    rw [if_neg e5]
    have d0 : D 0 = 0 := by
      rw [hD 0]
      unfold DL
      rw [if_neg (fun h9 => e5 h9.1)]
    exact ⟨a, rfl, Int.le_refl _, ha.1, fun _ _ j _ _ _ => flat (.inl d0) j⟩
  rw [if_pos e5]
  have d0 : D 0 = c g 22 3 := by
    rw [hD 0]
    unfold DL dl
    rw [if_pos ⟨e5, e2⟩, if_pos rfl]
    omega
  simp only [zn_a]
  rw [Int.zero_add, show max 1 (c g 10 1) = c g 10 1 by omega]
  obtain ⟨R, hR⟩ : ∃ R, R = (c g 8 10 + c g 10 (6 + tar) - 1) / c g 10 (6 + tar) := ⟨_, rfl⟩
  have rb := ediv_b (a := c g 8 10 + c g 10 (6 + tar) - 1) (b := c g 10 (6 + tar)) (A := 5000000000100) (by omega) (by omega) (by omega)
  rw [← hR] at rb
  have q0 := ediv_b (a := c g 24 tar) (b := c g 10 1) r0.1 r0.2 hu.1
  have qu : c g 10 1 * (c g 24 tar / c g 10 1) ≤ c g 24 tar := Int.mul_ediv_self_le (by omega)
  have Ru := mul_le3 (a := R) (b := c g 10 1) (A := 5000000000100) (B := 1000000) rb.1 rb.2 (by omega) hu.2
  have em : (c g 24 tar / c g 10 1 + R) * c g 10 1 = c g 10 1 * (c g 24 tar / c g 10 1) + R * c g 10 1 := by rw [Int.add_mul, Int.mul_comm (c g 24 tar / c g 10 1)]
  have qn := mul_le3 (a := c g 10 1) (b := c g 24 tar / c g 10 1) (A := 1000000) (B := 1000000000000000) (by omega) hu.2 q0.1 q0.2
  rw [tdiv_nn r0.1, w64_id (x := c g 8 10 + c g 10 (6 + tar)) (by omega), w64_id (x := c g 8 10 + c g 10 (6 + tar) - 1) (by omega), tdiv_nn (a := c g 8 10 + c g 10 (6 + tar) - 1) (by omega), ← hR, w64_id (x := R) (by omega), w64_id (x := c g 24 tar / c g 10 1) (by omega), w64_id (x := c g 24 tar / c g 10 1 + R) (by omega), w64_id (x := (c g 24 tar / c g 10 1 + R) * c g 10 1) (by omega), w64_id (x := (c g 24 tar / c g 10 1 + R) * c g 10 1 - c g 24 tar) (by omega), w64_id (x := (c g 24 tar / c g 10 1 + R) * c g 10 1 - c g 24 tar + c g 22 3) (by omega), w64_id (x := (c g 24 tar / c g 10 1 + R) * c g 10 1 - c g 24 tar + c g 22 3 - 1) (by omega)]
  obtain ⟨X, hX⟩ : ∃ X, X = (c g 24 tar / c g 10 1 + R) * c g 10 1 - c g 24 tar + c g 22 3 - 1 := ⟨_, rfl⟩
  obtain ⟨T, hT⟩ : ∃ T, T = w64 (X.tdiv (c g 22 3)) := ⟨_, rfl⟩
  rw [← hX, ← hT]
  refine ⟨max 1 (min a T), rfl, by omega, by omega, fun _ _ j j0 j1 j2 => ?_⟩
  -- what is wanting is more than nought where the stretch is longer than a second
  by_cases hx : 0 ≤ X
  · have xb := ediv_b (a := X) (b := c g 22 3) (A := 5000200000000000000) hx (by omega) (by omega)
    rw [tdiv_nn hx, w64_id (by omega)] at hT
    rw [d0]
    exact last_T (R := R) (T := T) hcp (by omega) hu.1 (by omega) r0.1 hR (by rw [hT, hX]) j0 (by omega)
  · exfalso
    have : X.tdiv (c g 22 3) ≤ 0 := by
      have h9 := Int.tdiv_nonneg (a := -X) (b := c g 22 3) (by omega) (by omega)
      rw [Int.neg_tdiv] at h9
      omega
    have hlo : -9223372036854775808 ≤ X.tdiv (c g 22 3) := by
      have h9 : (-X).tdiv (c g 22 3) ≤ -X := by
        rw [tdiv_nn (by omega)]
        exact Int.ediv_le_self _ (by omega)
      rw [Int.neg_tdiv] at h9
      omega
    rw [w64_id (by omega)] at hT
    omega
