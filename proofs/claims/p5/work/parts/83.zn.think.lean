/-! In thought: would, lasts. -/
theorem grt_loop {c r : zM} {g : Nat} (h : DM (c g) (r 4 45)) : ∀ (n : Nat) (v y : Int), 0 ≤ y → fl180_6_1 (fun y => y) g c n v y = fl304_6_1 (fun y => y) r n v y
  | 0, _, _, _ => rfl
  | n + 1, v, y, h0 => by
    show fl180_6_1_b (fl180_6_1 (fun y => y) g c n) (fun y => y) g c v y = fl304_6_1_b (fl304_6_1 (fun y => y) r n) (fun y => y) r v y
    unfold fl180_6_1_b fl304_6_1_b
    by_cases hy : 4 ≤ y
    · rw [if_pos hy, if_pos hy]
    · have e : max v (c g 31 y) = if r 4 45 (32 + y) ≤ v then v else r 4 45 (32 + y) := by
        rw [h.2.2.1 y h0 (by omega)]
        split <;> omega
      rw [if_neg hy, if_neg hy, zn_a, ← e]
      exact grt_loop h n _ (y + 1) (by omega)
theorem grt_eq {c r : zM} {g : Nat} (h : DM (c g) (r 4 45)) : f180_1 g c = f304_1 r := grt_loop h (zfu 5) (-1) 0 (by omega)
/-- a copy to think in -/
theorem MG.cp {c r r' : zM} {A Z B : Int} (hc : OM B c) (h : MG A Z (c 0) (r 4 45)) (hr : r' 4 45 = r 4 45) : MG A Z (f171_1 2 0 c 2) (r' 4 45) :=
  h.fe (CB.of hc.2 0) (fun n _ _ => copy_FE (by decide) c n) (fun n _ _ => by rw [hr]; exact FW.rf n _)
theorem cp_om {c : zM} {B : Int} (h : OM B c) (hB : B + 4 ≤ 1000000000) : OM (B + 4) (f171_1 2 0 c) := by
  obtain ⟨k1, k2⟩ := q171_1 2 0 h.1 h.2 hB (by omega) (by omega)
  exact ⟨k1, k2.jb⟩
theorem would_A {c r : zM} {B A Z a b : Int} (hc : OM B c) (hr : OM B r) (hB : B + 90000 ≤ 1000000000) (hA : A ≤ 2880000) (hZ : Z ≤ 900000000) (h : MG A Z (c 0) (r 4 45)) : (f170_1 a b c).1 = (f302_1 a b r).1 := by
  unfold f170_1 f302_1
  by_cases a0 : a < 1
  · rw [if_pos a0, if_pos a0]
  rw [if_neg a0, if_neg a0]
  by_cases a1 : a ≤ 900
  case neg => rw [if_pos (show 900 < a by omega), if_neg a1]
  rw [if_neg (show ¬ 900 < a by omega), if_pos a1]
  by_cases b0 : b < 0
  · rw [if_pos b0, if_pos b0]
  rw [if_neg b0, if_neg b0]
  by_cases b1 : b ≤ 6
  case neg => rw [if_neg b1, if_neg b1]
  rw [if_pos b1, if_pos b1, zs_a, zs_a, zs_a]
  have r45 : z_cpy r 4 46 4 45 0 0 1619 4 45 = r 4 45 := cpy_k _ (.inr (by decide))
  have o1 := cp_om hc (by omega)
  have o2 : OM (B + 4) (z_cpy r 4 46 4 45 0 0 1619) := hr.aside.up (by omega)
  obtain ⟨c1, ec1⟩ : ∃ x, x = f171_1 2 0 c := ⟨_, rfl⟩
  have h1 : MG A Z (c1 2) (z_cpy r 4 46 4 45 0 0 1619 4 45) := by rw [ec1]; exact MG.cp hc h r45
  rw [← ec1] at o1 ⊢
  obtain ⟨c2, e2, m1, -, -, -⟩ := times_G (g := 2) (by omega) h1 o1 o2 (by omega) hA hZ (a := a) (by omega)
  rw [e2, r302_N (zfu 901) 0 _ (by omega) (by rw [zfu_eq]; omega), show a - 0 = a by omega]
  obtain ⟨k1, -, -⟩ := fN_keep o2 a.toNat (by omega)
  obtain ⟨R, eR⟩ : ∃ x, x = fN a.toNat (z_cpy r 4 46 4 45 0 0 1619) := ⟨_, rfl⟩
  rw [← eR] at m1 k1 ⊢
  have hu := r45_5 k1.2.o 4
  have q0 := reads_T (q := 0) m1 (by omega) hu (by omega)
  have q1 := reads_T (q := 1) m1 (by omega) hu (by omega)
  obtain ⟨d10, -, d12⟩ := m1.1.o
  have hk := m1.1.k
  have v12 : c2 2 8 12 = 0 ∨ c2 2 8 12 = 1 := by
    rw [m1.2.2.2.2.1]
    unfold shO
    repeat' split
    all_goals omega
  try dsimp only
  rw [show (zn (f303_1 b R) fun v524 => zs (z_cpy R 4 45 4 46 0 0 1619) fun m525 => (v524, m525)) = (f303_1 b R, z_cpy R 4 45 4 46 0 0 1619) by rw [zn_a, zs_a]]
  try dsimp only
  unfold f303_1
  by_cases x0 : b = 0
  · rw [if_pos x0, if_pos x0, zn_a]
    exact q0
  rw [if_neg x0, if_neg x0]
  by_cases x1 : b = 1
  · rw [if_pos x1, if_pos x1, zn_a]
    exact q1
  rw [if_neg x1, if_neg x1]
  by_cases x2 : b = 2
  · rw [if_pos x2, if_pos x2]
    exact d10.symm
  rw [if_neg x2, if_neg x2]
  by_cases x3 : b = 3
  · rw [if_pos x3, if_pos x3, zn_a]
    exact grt_eq m1.1.d
  rw [if_neg x3, if_neg x3]
  by_cases x4 : b = 4
  · rw [if_pos x4, if_pos x4, zn_a, on_r hk.1]
    exact hk.2.1
  rw [if_neg x4, if_neg x4]
  by_cases x5 : b = 5
  · rw [if_pos x5, if_pos x5, zn_a, d12]
    show (if c2 2 8 12 = 0 then (0 : Int) else 1) = c2 2 8 12
    split <;> omega
  rw [if_neg x5, if_neg x5]
  exact m1.1.t.symm
theorem skip309 {k : Int → zM → Int × zM} : ∀ (v n2 : Nat) (y : Int) (r : zM), (∀ i : Nat, i < v → fN i r 4 45 12 = 0) → y + v ≤ 3600 → fl309_13_1 k (n2 + v) y r = fl309_13_1 k n2 (y + v) (fN v r)
  | 0, n2, y, r, _, _ => by
    rw [show y + ((0 : Nat) : Int) = y by omega]
    rfl
  | v + 1, n2, y, r, h, hy => by
    show fl309_13_1_b (fl309_13_1 k (n2 + v)) k y r = _
    unfold fl309_13_1_b
    have h0 : r 4 45 12 = 0 := h 0 (by omega)
    rw [if_neg (show ¬ 3600 ≤ y by omega), if_pos h0, zs_a, skip309 v n2 (y + 1) (f208_1 r) (fun i hi => by
      have := h (i + 1) (by omega)
      rw [fN_add r 1 i] at this
      exact this) (by omega), fN_add r 1 v, show y + 1 + (v : Int) = y + ((v + 1 : Nat) : Int) by omega]
    rfl
theorem lasts_loop {g : Nat} (hg : g < 3) {Z : Int} (hZ : Z ≤ 900000000) {k309 : Int → zM → Int × zM} : ∀ (n n2 : Nat) (y2 y3 : Int) (c r : zM) (B A : Int), MG A Z (c g) (r 4 45) → c g 8 12 = 0 → OM B c → OM B r → 0 ≤ y2 → y2 ≤ 3600 → 0 ≤ y3 → y3 ≤ y2 → 3600 - y3 < n → 3600 - y2 < n2 → B + 11 * (3600 - y2) + 40000 ≤ 1000000000 → A + (3600 - y2) ≤ 2890000 →
    ∃ v c' T m', fl185_4_1 (fun y501 y502 m503 => (y501, m503)) (fun m507 => ((-1), m507)) g 3600 n y2 y3 c = (v, c') ∧ fl309_13_1 k309 n2 y2 r = k309 T m' ∧ ((v = -1 ∧ m' 4 45 12 = 0) ∨ (v = T ∧ m' 4 45 12 = 1 ∧ c g 8 11 ≠ 0)) := by
  intro n
  induction n with
  | zero =>
    intro n2 y2 y3 c r B A h h12 hc hr h0 h1 h2 h3 h4
    omega
  | succ n ih =>
    intro n2 y2 y3 c r B A h h12 hc hr h0 h1 h2 h3 h4 h5 hB hA
    show ∃ v c' T m', fl185_4_1_b (fl185_4_1 (fun y501 y502 m503 => (y501, m503)) (fun m507 => ((-1), m507)) g 3600 n) (fun y501 y502 m503 => (y501, m503)) (fun m507 => ((-1), m507)) g 3600 y2 y3 c = (v, c') ∧ _
    unfold fl185_4_1_b
    have w12 : r 4 45 12 = 0 := by rw [h.1.o.2.2, h12]
    by_cases hy : 3600 ≤ y2
    · obtain ⟨n2, rfl⟩ : ∃ q, n2 = q + 1 := ⟨n2 - 1, by omega⟩
      refine ⟨-1, c, y2, r, ?_, ?_, .inl ⟨rfl, w12⟩⟩
      · by_cases hy3 : 3600 ≤ y3
        · rw [if_pos hy3]
        · rw [if_neg hy3, if_pos hy]
      · show fl309_13_1_b (fl309_13_1 k309 n2) k309 y2 r = _
        unfold fl309_13_1_b
        rw [if_pos hy]
    rw [if_neg (show ¬ 3600 ≤ y3 by omega), if_neg hy]
    obtain ⟨v, c1, e, v0, v1, m1, m2, m3, m4, m5, m6⟩ := stretch_G hg h hc hr (by omega) (by omega) hZ (a := 3600 - y2) (by omega)
    obtain ⟨k1, -, -⟩ := fN_keep hr v.toNat (by omega)
    rw [e, zb_a]
    obtain ⟨n2', en⟩ : ∃ q, n2 = q + v.toNat := ⟨n2 - v.toNat, by omega⟩
    subst en
    have hs := skip309 (k := k309) v.toNat n2' y2 r (fun i hi => by rw [m6 i (by omega), h12]) (by omega)
    rw [hs, show y2 + ((v.toNat : Nat) : Int) = y2 + v by omega]
    try dsimp only
    by_cases c12 : c1 g 8 12 = 0
    · rw [if_pos c12]
      obtain ⟨u, c', T, m', x1, x2, x3⟩ := ih n2' (y2 + v) (y3 + 1) c1 (fN v.toNat r) (B + 11 * v) (A + v) m1 c12 (m3.up (by omega)) (k1.up (by omega)) (by omega) (by omega) (by omega) (by omega) (by omega) (by omega) (by omega) (by omega)
      refine ⟨u, c', T, m', x1, x2, ?_⟩
      rw [m2.1] at x3
      exact x3
    · rw [if_neg c12]
      have d12 : c1 g 8 12 = shO (c1 g 8 11) (c1 g 8 10) := m1.2.2.2.2.1
      have w1 : fN v.toNat r 4 45 12 = c1 g 8 12 := m1.1.o.2.2
      have p11 : c1 g 8 11 = 1 ∧ c1 g 8 12 = 1 := by
        unfold shO at d12
        by_cases z : c1 g 8 11 = 1
        · rw [if_pos z] at d12
          refine ⟨z, ?_⟩
          by_cases z2 : c1 g 8 10 ≤ 0
          · rw [if_pos z2] at d12
            exact d12
          · rw [if_neg z2] at d12
            exact absurd d12 c12
        · rw [if_neg z] at d12
          exact absurd d12 c12
      refine ⟨y2 + v, c1, y2 + v, fN v.toNat r, rfl, ?_, .inr ⟨rfl, by rw [w1]; exact p11.2, by rw [← m2.1]; omega⟩⟩
      obtain ⟨n3, rfl⟩ : ∃ q, n2' = q + 1 := ⟨n2' - 1, by omega⟩
      show fl309_13_1_b (fl309_13_1 k309 n3) k309 (y2 + v) (fN v.toNat r) = _
      unfold fl309_13_1_b
      by_cases z : 3600 ≤ y2 + v
      · rw [if_pos z]
      · rw [if_neg z, if_neg (show ¬ fN v.toNat r 4 45 12 = 0 by omega)]
theorem lasts_A {c r : zM} {B A Z : Int} (hc : OM B c) (hr : OM B r) (hB : B + 90000 ≤ 1000000000) (hA : A ≤ 2880000) (hZ : Z ≤ 900000000) (h : MG A Z (c 0) (r 4 45)) : (f184_1 c).1 = (f309_1 r).1 := by
  have r45 : z_cpy r 4 46 4 45 0 0 1619 4 45 = r 4 45 := cpy_k _ (.inr (by decide))
  have o2 : OM (B + 4) (z_cpy r 4 46 4 45 0 0 1619) := hr.aside.up (by omega)
  have w12 : r 4 45 12 = c 0 8 12 := h.1.o.2.2
  unfold f184_1 f309_1
  show _ = (fl309_13_1 _ (zfu 3601) 0 (z_cpy r 4 46 4 45 0 0 1619)).1
  obtain ⟨R, eR⟩ : ∃ x, x = z_cpy r 4 46 4 45 0 0 1619 := ⟨_, rfl⟩
  rw [← eR] at r45 o2 ⊢
  by_cases c12 : c 0 8 12 = 0
  case neg =>
    have v12 : c 0 8 12 = 1 := by
      have := h.2.2.2.2.1
      unfold shO at this
      by_cases z : c 0 8 11 = 1
      · rw [if_pos z] at this
        by_cases z2 : c 0 8 10 ≤ 0
        · rw [if_pos z2] at this
          exact this
        · rw [if_neg z2] at this
          exact absurd this c12
      · rw [if_neg z] at this
        exact absurd this c12
    rw [if_neg c12]
    obtain ⟨q, hq⟩ : ∃ q, zfu 3601 = q + 1 := ⟨3600, zfu_eq _⟩
    rw [hq]
    show _ = (fl309_13_1_b (fl309_13_1 _ q) _ 0 R).1
    unfold fl309_13_1_b
    rw [if_neg (show ¬ (3600 : Int) ≤ 0 by omega), if_neg (show ¬ R 4 45 12 = 0 by rw [r45, w12]; omega)]
    try dsimp only
    rw [zn_a, zs_a, zn_a]
    try dsimp only
    rw [r45, w12, if_pos v12]
    rfl
  rw [if_pos c12]
  by_cases c11 : c 0 8 11 = 0
  · rw [if_pos c11]
    obtain ⟨v, c', T, m', x1, x2, x3⟩ := lasts_loop (g := 0) (by omega) hZ (k309 := fun y504 m505 => zn (if (m505 4 45 12) = 1 then (1) else (0)) fun v512 => zs (z_cpy m505 4 45 4 46 0 0 1619) fun m517 => zn (if v512 = 0 then ((-1)) else (y504)) fun v521 => (v521, m517)) (zfu 3601) (zfu 3601) 0 0 c R (B + 4) A (by rw [r45]; exact h) c12 (hc.up (by omega)) o2 (by omega) (by omega) (by omega) (by omega) (by rw [zfu_eq]; omega) (by rw [zfu_eq]; omega) (by omega) (by omega)
    rw [x2, zn_a, zs_a, zn_a]
    rcases x3 with ⟨-, x4⟩ | ⟨-, -, x5⟩
    · rw [x4]
      rfl
    · exact absurd c11 x5
  rw [if_neg c11, zs_a]
  have o1 := cp_om hc (by omega)
  obtain ⟨c1, ec1⟩ : ∃ x, x = f171_1 2 0 c := ⟨_, rfl⟩
  have h1 : MG A Z (c1 2) (R 4 45) := by rw [ec1]; exact MG.cp hc h r45
  have k12 : c1 2 8 12 = 0 := by rw [← h1.1.o.2.2, r45, w12, c12]
  rw [← ec1] at o1 ⊢
  obtain ⟨v, c', T, m', x1, x2, x3⟩ := lasts_loop (g := 2) (by omega) hZ (k309 := fun y504 m505 => zn (if (m505 4 45 12) = 1 then (1) else (0)) fun v512 => zs (z_cpy m505 4 45 4 46 0 0 1619) fun m517 => zn (if v512 = 0 then ((-1)) else (y504)) fun v521 => (v521, m517)) (zfu 3601) (zfu 3601) 0 0 c1 R (B + 4) A h1 k12 o1 o2 (by omega) (by omega) (by omega) (by omega) (by rw [zfu_eq]; omega) (by rw [zfu_eq]; omega) (by omega) (by omega)
  have e185 : f185_1 2 3600 c1 = (v, c') := x1
  rw [x2, e185, zb_a, zn_a, zs_a, zn_a]
  try dsimp only
  rcases x3 with ⟨x4, x5⟩ | ⟨x4, x5, -⟩
  · rw [x4, x5]
    rfl
  · rw [x4, x5]
    rfl
