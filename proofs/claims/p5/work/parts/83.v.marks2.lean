/-! The marks of the last second of a stretch, on both sides. -/
theorem mstep01 {c : zM} {g : Nat} {y j n seen delay t : Int} {so w : Int → Int} (h : MI y j so (c g) w) (hB : MB y w) (hy : 0 ≤ y ∧ y < 2) (hn : n = j + 1) (hj : 0 ≤ j ∧ j ≤ 100000) : MI (y + 1) j so (cB g g n seen delay t y c g) w ∧ (∀ g' k, (g' ≠ g ∨ k ≠ 35) → cB g g n seen delay t y c g' k = c g' k) := by
  obtain ⟨k0, s0, l0⟩ := h
  obtain ⟨-, b2, -⟩ := hB y (Int.le_refl _) (by omega)
  have sy := s0 y (by omega) (by omega)
  rw [if_neg (by omega)] at sy
  have o : f40_1 g y c = w (40 + y) := isOn_c k0.1 k0.2.1 (by omega) (by omega)
  have ob := k0.1 y (by omega) (by omega)
  have ec : cB g g n seen delay t y c = if w (40 + y) = 0 then c else z_upd c g 35 y (w32 (c g 35 y + if w (40 + y) = 0 then 1 else n)) := by
    unfold cB
    simp only [zn_a, zs_a]
    rw [if_pos (show y < 2 by omega), o]
  rw [ec]
  rcases ob with e | e
  · rw [if_pos e]
    refine ⟨⟨k0, fun m m0 m1 => ?_, fun m m0 m1 => ?_⟩, fun _ _ _ => rfl⟩
    · have x := s0 m m0 m1
      by_cases e2 : m = y
      · subst e2
        rw [e, if_neg (by omega)] at sy
        rw [if_pos (by omega), e]
        omega
      · by_cases e3 : m < y
        · rw [if_pos e3] at x
          rw [if_pos (by omega)]
          exact x
        · rw [if_neg e3] at x
          rw [if_neg (by omega)]
          exact x
    · have x := l0 m m0 m1
      by_cases e3 : m < y ∨ m < 2
      · rw [if_pos e3] at x
        rw [if_pos (by omega)]
        exact x
      · rw [if_neg e3] at x
        rw [if_neg (by omega)]
        exact x
  · rw [if_neg (by omega), if_neg (by omega)]
    rw [e, if_pos rfl] at sy
    rw [show c g 35 y + n = w (50 + y) + 1 by omega, w32_id (by omega)]
    have d : ∀ g' k, (g' ≠ g ∨ k ≠ 35) → z_upd c g 35 y (w (50 + y) + 1) g' k = c g' k := fun g' k hk => by
      rcases hk with hk | hk
      · rw [zu_g _ _ _ hk]
      · rw [zu_k _ _ _ hk]
    refine ⟨⟨k0.pt (fun k hk => d g k (by omega)) (fun _ _ _ => rfl), fun m m0 m1 => ?_, fun m m0 m1 => ?_⟩, d⟩
    · have x := s0 m m0 m1
      rw [zu_row]
      by_cases e2 : m = y
      · rw [e2, fu_s, if_pos (by omega), e]
      · rw [fu_i _ _ e2]
        by_cases e3 : m < y
        · rw [if_pos e3] at x
          rw [if_pos (by omega)]
          exact x
        · rw [if_neg e3] at x
          rw [if_neg (by omega)]
          exact x
    · have x := l0 m m0 m1
      rw [d g 36 (by omega)]
      by_cases e3 : m < y ∨ m < 2
      · rw [if_pos e3] at x
        rw [if_pos (by omega)]
        exact x
      · rw [if_neg e3] at x
        rw [if_neg (by omega)]
        exact x
theorem MB.up {y y' : Int} {w : Int → Int} (h : MB y w) (hy : y ≤ y') : MB y' w := fun m m0 m1 => h m (by omega) m1
theorem marks_T {c r : zM} {g : Nat} {j n seen delay t : Int} {so : Int → Int} (h : MI 0 j so (c g) (r 4 45)) (hl : LG (c g) (r 4 45)) (hB : MB 0 (r 4 45)) (hn : n = j + 1) (hj : 0 ≤ j ∧ j ≤ 100000) (ht : t = r 4 45 0) (hd : delay = r 4 45 7) (hd0 : 0 ≤ delay)
    (hso : ∀ m' : zM, (∀ i, (1 ≤ i ∧ i ≤ 9) ∨ (28 ≤ i ∧ i ≤ 31) ∨ (95 ≤ i ∧ i ≤ 286) ∨ (1611 ≤ i ∧ i ≤ 1613) → m' 4 45 i = r 4 45 i) → ∀ y, 2 ≤ y → y < 5 → soR y m' = so y) (hso2 : ∀ y, 2 ≤ y → y < 5 → (so y = 0 ∨ so y = 1) ∧ (if zand (zshr seen y) 1 = 1 then (1 : Int) else 0) = so y) (hq : ∀ y, 2 ≤ y → y < 5 → r 4 45 (40 + y) = 1 → so y = 0 → j = 0) :
    MK (f56_1 g g n seen delay t c g) (f224_1 r 4 45) ∧ LG (f56_1 g g n seen delay t c g) (f224_1 r 4 45) ∧ CM g c (f56_1 g g n seen delay t c) ∧ RM9 r (f224_1 r) ∧ (j ≠ 0 → ∀ m, 0 ≤ m → m < 5 → r 4 45 (40 + m) = 1 → f224_1 r 4 45 (40 + m) = 1) ∧ (∀ m, 0 ≤ m → m < 5 → (r 4 45 (45 + m) ≤ f224_1 r 4 45 (45 + m) ∧ f224_1 r 4 45 (45 + m) ≤ r 4 45 (45 + m) + 1) ∧ f224_1 r 4 45 (50 + m) = r 4 45 (50 + m) + f224_1 r 4 45 (40 + m) ∧ 0 ≤ f224_1 r 4 45 (55 + m) ∧ f224_1 r 4 45 (55 + m) ≤ r 4 45 (55 + m) + 1) := by
  obtain ⟨r', e, r1, r2, r3, e1, e2, e3, e4, e5, e6⟩ := f224_u r
  rw [e, f56_u]
  obtain ⟨a1, a2⟩ := mstep01 (seen := seen) (delay := delay) (t := t) h hB (by omega) hn hj
  obtain ⟨c0, ec0⟩ : ∃ x, x = cB g g n seen delay t 0 c := ⟨_, rfl⟩
  rw [← ec0] at a1 a2 ⊢
  obtain ⟨b1, b2⟩ := mstep01 (seen := seen) (delay := delay) (t := t) a1 (hB.up (by omega)) (by omega) hn hj
  rw [show (0 : Int) + 1 = 1 by decide] at b1 b2
  obtain ⟨c1, ec1⟩ : ∃ x, x = cB g g n seen delay t 1 c0 := ⟨_, rfl⟩
  rw [← ec1] at b1 b2 ⊢
  have f1 : ∀ g' k, (g' ≠ g ∨ k ≠ 35) → c1 g' k = c g' k := fun g' k hk => by rw [b2 g' k hk, a2 g' k hk]
  have l1 : LG (c1 g) (r 4 45) := hl.pt (fun k hk => f1 g k (by omega)) (fun _ _ => rfl)
  rw [hso r (fun _ _ => rfl) 2 (by omega) (by omega)] at e1
  -- 2
  obtain ⟨p1, p2, p3, p4, p5, p6, p7, p8⟩ := mstep (c := c1) (r := r) (g := g) (y := 2) (j := j) (n := n) (seen := seen) (delay := delay) (t := t) (so := so) b1 l1 (hB.up (by omega)) (by omega) hn hj ht hd hd0 (hso2 2 (by omega) (by omega)).1 (hso2 2 (by omega) (by omega)).2 (hq 2 (by omega) (by omega))
  rw [← e1] at p1 p2 p4 p5 p6 p7 p8
  obtain ⟨c2, ec2⟩ : ∃ x, x = cB g g n seen delay t 2 c1 := ⟨_, rfl⟩
  rw [← ec2] at p1 p2 p3 ⊢
  have k1 : ∀ i, (1 ≤ i ∧ i ≤ 9) ∨ (28 ≤ i ∧ i ≤ 31) ∨ (95 ≤ i ∧ i ≤ 286) ∨ (1611 ≤ i ∧ i ≤ 1613) → r1 4 45 i = r 4 45 i := fun i hi => p4.1 i (by omega) (by omega) (by omega)
  rw [hso r1 k1 3 (by omega) (by omega)] at e2
  have B1 : MB 3 (r1 4 45) := fun m m0 m1 => by
    obtain ⟨x1, x2, x3, x4⟩ := p5 m (by omega) m1
    rw [x2, x3, x4]
    exact hB m (by omega) m1
  -- 3
  obtain ⟨s1, s2, s3, s4, s5, s6, s7, s8⟩ := mstep (c := c2) (r := r1) (g := g) (y := 3) (j := j) (n := n) (seen := seen) (delay := delay) (t := t) (so := so) p1 p2 B1 (by omega) hn hj (by rw [p4.1 0 (by omega) (by omega) (by omega)]; exact ht) (by rw [k1 7 (by omega)]; exact hd) hd0 (hso2 3 (by omega) (by omega)).1 (hso2 3 (by omega) (by omega)).2 (by rw [(p5 3 (by omega) (by omega)).1]; exact hq 3 (by omega) (by omega))
  rw [← e2] at s1 s2 s4 s5 s6 s7 s8
  obtain ⟨c3, ec3⟩ : ∃ x, x = cB g g n seen delay t 3 c2 := ⟨_, rfl⟩
  rw [← ec3] at s1 s2 s3 ⊢
  have k2 : ∀ i, (1 ≤ i ∧ i ≤ 9) ∨ (28 ≤ i ∧ i ≤ 31) ∨ (95 ≤ i ∧ i ≤ 286) ∨ (1611 ≤ i ∧ i ≤ 1613) → r2 4 45 i = r 4 45 i := fun i hi => by rw [s4.1 i (by omega) (by omega) (by omega), k1 i hi]
  rw [hso r2 k2 4 (by omega) (by omega)] at e3
  have B2 : MB 4 (r2 4 45) := fun m m0 m1 => by
    obtain ⟨x1, x2, x3, x4⟩ := s5 m (by omega) m1
    rw [x2, x3, x4]
    exact B1 m (by omega) m1
  -- 4
  obtain ⟨u1, u2, u3, u4, u5, u6, u7, u8⟩ := mstep (c := c3) (r := r2) (g := g) (y := 4) (j := j) (n := n) (seen := seen) (delay := delay) (t := t) (so := so) s1 s2 B2 (by omega) hn hj (by rw [s4.1 0 (by omega) (by omega) (by omega), p4.1 0 (by omega) (by omega) (by omega)]; exact ht) (by rw [k2 7 (by omega)]; exact hd) hd0 (hso2 4 (by omega) (by omega)).1 (hso2 4 (by omega) (by omega)).2 (by rw [(s5 4 (by omega) (by omega)).1, (p5 4 (by omega) (by omega)).1]; exact hq 4 (by omega) (by omega))
  rw [← e3] at u1 u2 u4 u5 u6 u7 u8
  obtain ⟨c4, ec4⟩ : ∃ x, x = cB g g n seen delay t 4 c3 := ⟨_, rfl⟩
  rw [← ec4] at u1 u2 u3 ⊢
  obtain ⟨v1, v2, v3⟩ := u1
  have b5 : ∀ m, 0 ≤ m → m < 5 → r' 4 45 (50 + m) = c4 g 35 m := fun m m0 m1 => by
    have x := v2 m m0 m1
    rw [if_pos (by omega)] at x
    have y := v1.1 m m0 m1
    have e50 : r3 4 45 (50 + m) = r 4 45 (50 + m) := by rw [u7 m m0 m1, s7 m m0 m1, p7 m m0 m1]
    have hb := (hB m m0 m1).2.1
    rw [e5 m m0 m1, w64_id (by omega), x]
  refine ⟨⟨v1.1.of (fun i i0 i1 => e6 i (by omega)), ?_, fun m m0 m1 => ?_, fun m m0 m1 => (b5 m m0 m1).symm, fun m m0 m1 => ?_⟩, u2.pt (fun _ _ => rfl) (fun i hi => e6 i (by omega)), fun g' k hk => ?_, ⟨fun i i0 i1 i2 => ?_, fun g' k hk => ?_⟩, fun hj0 m m0 m1 h9 => ?_, fun m m0 m1 => ?_⟩
  · rw [onV_of (fun i i0 i1 => e6 i (by omega))]
    exact v1.2.1
  · rw [e6 _ (by omega)]
    exact v1.2.2 m m0 m1
  · have x := v3 m m0 m1
    rw [if_pos (by omega)] at x
    rw [e6 _ (by omega)]
    exact x.symm
  · rw [u3 g' k hk, s3 g' k hk, p3 g' k hk, f1 g' k (by omega)]
  · rw [e6 i (by omega), u4.1 i i0 i1 i2, s4.1 i i0 i1 i2, p4.1 i i0 i1 i2]
  · rw [e4 g' k hk, u4.2 g' k hk, s4.2 g' k hk, p4.2 g' k hk]
  · rw [e6 _ (by omega)]
    exact u6 hj0 m m0 m1 (s6 hj0 m m0 m1 (p6 hj0 m m0 m1 h9))
  · obtain ⟨x1, x2, x3⟩ := p8 m m0 m1
    obtain ⟨y1, y2, y3⟩ := s8 m m0 m1
    obtain ⟨z1, z2, z3⟩ := u8 m m0 m1
    have h5 := (hB m m0 m1).2.2
    refine ⟨?_, ?_, ?_⟩
    · rw [e6 _ (by omega)]
      repeat' split at x1
      all_goals repeat' split at y1
      all_goals repeat' split at z1
      all_goals omega
    · rw [b5 m m0 m1, e6 (40 + m) (by omega)]
      have x := v2 m m0 m1
      rw [if_pos (by omega)] at x
      rw [x, u7 m m0 m1, s7 m m0 m1, p7 m m0 m1]
    · rw [e6 _ (by omega)]
      by_cases a2 : m = 2
      · rw [z2 (by omega), y2 (by omega)]
        exact x3 a2
      · by_cases a3 : m = 3
        · rw [z2 (by omega)]
          have h := y3 a3
          rw [x2 a2] at h
          exact h
        · by_cases a4 : m = 4
          · have h := z3 a4
            rw [y2 a3, x2 a2] at h
            exact h
          · rw [z2 a4, y2 a3, x2 a2]
            omega
