/-! Seconds pass over the marks: one mark after the other. -/
noncomputable def cB (g g4 : Nat) (n seen delay t y : Int) (m : zM) : zM := zn (f40_1 g y m) fun v564 => zs (if y < 2 then (m) else (zn (zshr seen y) fun z566 => zn (zand z566 1) fun z567 => zn (if z567 = 1 then (1) else (0)) fun v569 => zn (if v569 = 0 then (0) else (zn (w32 ((m g 36 y) + n)) fun z576 => z576)) fun v577 => zs (z_upd m g 36 y v577) fun m582 => if v564 = 0 then (if v569 = 0 then (m582) else (if (m582 g 36 y) ≤ delay then (m582) else (zs (f57_1 g g4 y 1 t m582) fun m589 => m589))) else (if v569 = 0 then (zs (f57_1 g g4 y 0 t m582) fun m594 => m594) else (m582)))) fun m598 => zn (f40_1 g y m598) fun v604 => zs (if v604 = 0 then (m598) else (zn (if v564 = 0 then (1) else (n)) fun v608 => zn (w32 ((m598 g 35 y) + v608)) fun z613 => zs (z_upd m598 g 35 y z613) fun m614 => m614)) fun m617 => m617
theorem f56_s {k : zM → zM} {g g4 : Nat} {n seen delay t : Int} (q : Nat) (y : Int) (m : zM) (h : y < 5) : fl56_3_1 k g g4 n seen delay t (q + 1) y m = fl56_3_1 k g g4 n seen delay t q (y + 1) (cB g g4 n seen delay t y m) := by
  show fl56_3_1_b (fl56_3_1 k g g4 n seen delay t q) k g g4 n seen delay t y m = _
  unfold fl56_3_1_b
  rw [if_neg (by omega)]
  rfl
theorem f56_u (g g4 : Nat) (n seen delay t : Int) (m : zM) : f56_1 g g4 n seen delay t m = cB g g4 n seen delay t 4 (cB g g4 n seen delay t 3 (cB g g4 n seen delay t 2 (cB g g4 n seen delay t 1 (cB g g4 n seen delay t 0 m)))) := by
  unfold f56_1
  rw [zfu_eq]
  refine (f56_s 5 0 m (by omega)).trans ((f56_s 4 1 _ (by omega)).trans ((f56_s 3 2 _ (by omega)).trans ((f56_s 2 3 _ (by omega)).trans ((f56_s 1 4 _ (by omega)).trans ?_))))
  show fl56_3_1_b (fl56_3_1 (fun m501 => m501) g g4 n seen delay t 0) (fun m501 => m501) g g4 n seen delay t 5 _ = _
  unfold fl56_3_1_b
  rw [if_pos (by omega)]
noncomputable def rB (y s : Int) (m : zM) : zM := zn (if s = 0 then (0) else (zn (w64 ((m 4 45 (55 + y)) + 1)) fun z575 => z575)) fun v576 => zs (z_upd m 4 45 (55 + y) v576) fun m581 => zn (if (m581 4 45 (55 + y)) ≤ (m581 4 45 7) then (0) else (1)) fun v586 => zs (if v586 = 0 then (m581) else (if (m581 4 45 (40 + y)) = 0 then (zs (f228_1 y m581) fun m594 => m594) else (m581))) fun m598 => zs (if s = 0 then (if (m598 4 45 (40 + y)) = 1 then (zs (f229_1 y m598) fun m605 => m605) else (m598)) else (m598)) fun m609 => m609
/-- what the reference finds of a mark -/
noncomputable def soR (y : Int) (m : zM) : Int := if y = 2 then f225_1 m else if y = 3 then f226_1 m else f227_1 m
theorem f224_s {k : zM → zM} (q : Nat) (y : Int) (m : zM) (h : y < 5) : fl224_2_1 k (q + 1) y m = fl224_2_1 k q (y + 1) (rB y (soR y m) m) := by
  show fl224_2_1_b (fl224_2_1 k q) k y m = _
  unfold fl224_2_1_b
  rw [if_neg (by omega)]
  rfl
def MI (y j : Int) (so : Int → Int) (c : Nat → Int → Int) (w : Int → Int) : Prop := K0 c w ∧
  (∀ m, 0 ≤ m → m < 5 → if m < y then c 35 m = w (50 + m) + w (40 + m) else w (50 + m) = c 35 m + if w (40 + m) = 1 then j else 0) ∧
  (∀ m, 0 ≤ m → m < 5 → w (55 + m) = if m < y ∨ m < 2 then c 36 m else if so m = 1 then c 36 m + j else if j = 0 then c 36 m else 0)
/-- bounds for those still to come -/
def MB (y : Int) (w : Int → Int) : Prop := ∀ m, y ≤ m → m < 5 → (0 ≤ w (45 + m) ∧ w (45 + m) ≤ 1000000000) ∧ (0 ≤ w (50 + m) ∧ w (50 + m) ≤ 1000000000) ∧ (0 ≤ w (55 + m) ∧ w (55 + m) ≤ 1000000000)
theorem LG.pt {c c' : Nat → Int → Int} {w w' : Int → Int} (h : LG c w) (hc : ∀ k, k = 37 ∨ k = 38 → c' k = c k) (hw : ∀ i, i = 16 ∨ (1487 ≤ i ∧ i ≤ 1606) → w' i = w i) : LG c' w' := by
  obtain ⟨g1, g2, g3⟩ := h
  have e := hw 16 (.inl rfl)
  refine ⟨by rw [hc 37 (.inl rfl), e]; exact g1, by omega, fun i i0 i1 k k0 k1 => ?_⟩
  rw [e] at i1 ⊢
  rw [hc 38 (.inr rfl), hw _ (.inr (by omega))]
  exact g3 i i0 i1 k k0 k1
theorem K0.pt {c c' : Nat → Int → Int} {w w' : Int → Int} (h : K0 c w) (hc : ∀ k, k = 33 ∨ k = 34 → c' k = c k) (hw : ∀ i, 40 ≤ i → i ≤ 49 → w' i = w i) : K0 c' w' := by
  obtain ⟨g1, g2, g3⟩ := h
  refine ⟨g1.of (fun i i0 i1 => hw i i0 (by omega)), ?_, fun m m0 m1 => ?_⟩
  · rw [hc 33 (.inl rfl), onV_of (fun i i0 i1 => hw i i0 (by omega))]
    exact g2
  · rw [hc 34 (.inr rfl), hw _ (by omega) (by omega)]
    exact g3 m m0 m1
/-- class: but for marks and log -/
def CM (g : Nat) (c c' : zM) : Prop := ∀ g' k, (g' ≠ g ∨ k < 33 ∨ 38 < k) → c' g' k = c g' k
def RM9 (r r' : zM) : Prop := (∀ i, i ≠ 16 → (i < 40 ∨ 59 < i) → (i < 1487 ∨ 1606 < i) → r' 4 45 i = r 4 45 i) ∧ ∀ g k, (g ≠ 4 ∨ k ≠ 45) → r' g k = r g k
theorem mstep {c r : zM} {g : Nat} {y j n seen delay t : Int} {so : Int → Int} (h : MI y j so (c g) (r 4 45)) (hl : LG (c g) (r 4 45)) (hB : MB y (r 4 45)) (hy : 2 ≤ y ∧ y < 5) (hn : n = j + 1) (hj : 0 ≤ j ∧ j ≤ 100000) (ht : t = r 4 45 0) (hd : delay = r 4 45 7) (hd0 : 0 ≤ delay)
    (hso : so y = 0 ∨ so y = 1) (hsc : (if zand (zshr seen y) 1 = 1 then (1 : Int) else 0) = so y) (hq : r 4 45 (40 + y) = 1 → so y = 0 → j = 0) :
    MI (y + 1) j so (cB g g n seen delay t y c g) (rB y (so y) r 4 45) ∧ LG (cB g g n seen delay t y c g) (rB y (so y) r 4 45) ∧ CM g c (cB g g n seen delay t y c) ∧ RM9 r (rB y (so y) r) ∧ (∀ m, y < m → m < 5 → rB y (so y) r 4 45 (40 + m) = r 4 45 (40 + m) ∧ rB y (so y) r 4 45 (45 + m) = r 4 45 (45 + m) ∧ rB y (so y) r 4 45 (50 + m) = r 4 45 (50 + m) ∧ rB y (so y) r 4 45 (55 + m) = r 4 45 (55 + m)) ∧ (j ≠ 0 → ∀ m, 0 ≤ m → m < 5 → r 4 45 (40 + m) = 1 → rB y (so y) r 4 45 (40 + m) = 1) ∧ (∀ m, 0 ≤ m → m < 5 → rB y (so y) r 4 45 (50 + m) = r 4 45 (50 + m)) ∧ (∀ m, 0 ≤ m → m < 5 → (r 4 45 (45 + m) ≤ rB y (so y) r 4 45 (45 + m) ∧ rB y (so y) r 4 45 (45 + m) ≤ r 4 45 (45 + m) + if m = y then 1 else 0) ∧ (m ≠ y → rB y (so y) r 4 45 (55 + m) = r 4 45 (55 + m)) ∧ (m = y → 0 ≤ rB y (so y) r 4 45 (55 + m) ∧ rB y (so y) r 4 45 (55 + m) ≤ r 4 45 (55 + m) + 1)) := by
  obtain ⟨k0, s0, l0⟩ := h
  obtain ⟨b1, b2, b3⟩ := hB y (Int.le_refl _) hy.2
  have sy := s0 y (by omega) hy.2
  have ly := l0 y (by omega) hy.2
  rw [if_neg (by omega)] at sy
  rw [if_neg (by omega)] at ly
  have o : f40_1 g y c = r 4 45 (40 + y) := isOn_c k0.1 k0.2.1 (by omega) hy.2
  have ob := k0.1 y (by omega) hy.2
  -- lengths
  obtain ⟨L, hL⟩ : ∃ L, L = if so y = 0 then 0 else r 4 45 (55 + y) + 1 := ⟨_, rfl⟩
  have eL : (if so y = 0 then (0 : Int) else w32 (c g 36 y + n)) = L := by
    rw [hL]
    rcases hso with e | e
    · rw [if_pos e, if_pos e]
    · rw [if_neg (by omega), if_neg (by omega)]
      rw [if_pos e] at ly
      rw [show c g 36 y + n = r 4 45 (55 + y) + 1 by omega, w32_id (by omega)]
  have eR : (if so y = 0 then (0 : Int) else w64 (r 4 45 (55 + y) + 1)) = L := by
    rw [hL]
    rcases hso with e | e
    · rw [if_pos e, if_pos e]
    · rw [if_neg (by omega), if_neg (by omega), w64_id (by omega)]
  obtain ⟨c1, ec1⟩ : ∃ q, q = z_upd c g 36 y L := ⟨_, rfl⟩
  obtain ⟨r1, er1⟩ : ∃ q, q = z_upd r 4 45 (55 + y) L := ⟨_, rfl⟩
  have cg1 : ∀ g' k, (g' ≠ g ∨ k ≠ 36) → c1 g' k = c g' k := fun g' k hk => by
    rw [ec1]
    rcases hk with hk | hk
    · rw [zu_g _ _ _ hk]
    · rw [zu_k _ _ _ hk]
  have c36 : ∀ m, c1 g 36 m = if m = y then L else c g 36 m := fun m => by rw [ec1, zu_row]; rfl
  have rw1 : ∀ i, i ≠ 55 + y → r1 4 45 i = r 4 45 i := fun i hi => by rw [er1, zu_row, fu_i _ _ hi]
  have r55 : r1 4 45 (55 + y) = L := by rw [er1, zu_row, fu_s]
  have rg1 : ∀ g k, (g ≠ 4 ∨ k ≠ 45) → r1 g k = r g k := fun g' k hk => by
    rw [er1]
    rcases hk with hk | hk
    · rw [zu_g _ _ _ hk]
    · rw [zu_k _ _ _ hk]
  have k1 : K0 (c1 g) (r1 4 45) := k0.pt (fun k hk => cg1 g k (by omega)) (fun i i0 i1 => rw1 i (by omega))
  have l1 : LG (c1 g) (r1 4 45) := hl.pt (fun k hk => cg1 g k (by omega)) (fun i hi => rw1 i (by omega))
  have t1 : t = r1 4 45 0 := by rw [rw1 0 (by omega)]; exact ht
  -- the two sides behind the turning
  obtain ⟨c2, r2, o2, hc2, hr2, k2, l2, x1, x2, x3, x5, x4⟩ : ∃ c2 r2 o2, (if r 4 45 (40 + y) = 0 then (if so y = 0 then c1 else if c1 g 36 y ≤ delay then c1 else f57_1 g g y 1 t c1) else (if so y = 0 then f57_1 g g y 0 t c1 else c1)) = c2 ∧
      (zs (if (if L ≤ delay then (0 : Int) else 1) = 0 then r1 else (if r1 4 45 (40 + y) = 0 then f228_1 y r1 else r1)) fun m598 => if so y = 0 then (if m598 4 45 (40 + y) = 1 then f229_1 y m598 else m598) else m598) = r2 ∧ K0 (c2 g) (r2 4 45) ∧ LG (c2 g) (r2 4 45) ∧ CK g c1 c2 ∧ RK y r1 r2 ∧ r2 4 45 (40 + y) = o2 ∧ (r1 4 45 (45 + y) ≤ r2 4 45 (45 + y) ∧ r2 4 45 (45 + y) ≤ r1 4 45 (45 + y) + 1) ∧
      ((o2 = 0 ∧ (so y = 0 ∨ r 4 45 (40 + y) = 0)) ∨ (o2 = 1 ∧ so y = 1)) := by
    have r40 : r1 4 45 (40 + y) = r 4 45 (40 + y) := rw1 _ (by omega)
    rcases hso with e | e
    · have e0 : L = 0 := by rw [hL, if_pos e]
      rw [if_pos (show L ≤ delay by omega), if_pos rfl]
      simp only [zs_a]
      rw [if_pos e]
      rcases ob with e2 | e2
      · rw [if_pos e2, if_pos e, if_neg (by omega)]
        exact ⟨c1, r1, 0, rfl, rfl, k1, l1, fun _ _ _ => rfl, ⟨fun _ _ _ _ _ => rfl, fun _ _ _ => rfl⟩, by omega, by omega, .inl ⟨rfl, .inl e⟩⟩
      · rw [if_neg (show ¬ r 4 45 (40 + y) = 0 by omega), if_pos e, if_pos (show r1 4 45 (40 + y) = 1 by omega)]
        try rw [if_pos e]
        obtain ⟨q1, q2, q3, q4, q5, q6⟩ := turn_off k1 l1 (by omega) hy.2 t1 (by omega)
        exact ⟨_, _, 0, rfl, rfl, q1, q2, q4, q5, q3, by omega, .inl ⟨rfl, .inl e⟩⟩
    · rw [if_neg (show ¬ so y = 0 by omega), if_neg (show ¬ so y = 0 by omega)]
      simp only [zs_a]
      rw [if_neg (show ¬ so y = 0 by omega)]
      rcases ob with e2 | e2
      · rw [if_pos e2, c36 y, if_pos rfl]
        by_cases e3 : L ≤ delay
        · rw [if_pos e3, if_pos e3, if_pos rfl]
          exact ⟨c1, r1, 0, rfl, rfl, k1, l1, fun _ _ _ => rfl, ⟨fun _ _ _ _ _ => rfl, fun _ _ _ => rfl⟩, by omega, by omega, .inl ⟨rfl, .inr e2⟩⟩
        · rw [if_neg e3, if_neg e3, if_neg (by decide), if_pos (by omega)]
          obtain ⟨q1, q2, q3, q4, q5, q6⟩ := turn_on k1 l1 (by omega) hy.2 t1 (by omega) (by rw [rw1 _ (by omega)]; exact b1)
          exact ⟨_, _, 1, rfl, rfl, q1, q2, q4, q5, q3, by omega, .inr ⟨rfl, e⟩⟩
      · rw [if_neg (by omega), if_neg (show ¬ r1 4 45 (40 + y) = 0 by omega)]
        refine ⟨c1, r1, 1, rfl, ?_, k1, l1, fun _ _ _ => rfl, ⟨fun _ _ _ _ _ => rfl, fun _ _ _ => rfl⟩, by omega, by omega, .inr ⟨rfl, e⟩⟩
        split <;> rfl
  have er : rB y (so y) r = r2 := by
    unfold rB
    simp only [zn_a, zs_a]
    rw [eR, ← er1, r55, rw1 7 (by omega), ← hd]
    simp only [zs_a] at hr2
    exact hr2
  have ec : cB g g n seen delay t y c = if o2 = 0 then c2 else z_upd c2 g 35 y (w32 (c2 g 35 y + if r 4 45 (40 + y) = 0 then 1 else n)) := by
    unfold cB
    simp only [zn_a, zs_a]
    rw [if_neg (show ¬ y < 2 by omega), hsc, eL, o, ← ec1, hc2, isOn_c k2.1 k2.2.1 (by omega) hy.2, x3]
  rw [er, ec]
  have w2 : ∀ i, 50 ≤ i → i ≤ 59 → r2 4 45 i = r1 4 45 i := fun i i0 i1 => by
    by_cases e : 45 + y = i
    · omega
    · exact x2.1 i (by omega) (by omega) (by omega) (by omega)
  have c35 : ∀ m, c2 g 35 m = c g 35 m := fun m => by rw [x1 g 35 (by omega), cg1 g 35 (by omega)]
  have c236 : ∀ m, c2 g 36 m = if m = y then L else c g 36 m := fun m => by rw [x1 g 36 (by omega), c36]
  have rm : RM9 r r2 := ⟨fun i i0 i1 i2 => by rw [x2.1 i (by omega) (by omega) i0 i2, rw1 i (by omega)], fun g' k hk => by rw [x2.2 g' k hk, rg1 g' k hk]⟩
  have later : ∀ m, y < m → m < 5 → r2 4 45 (40 + m) = r 4 45 (40 + m) ∧ r2 4 45 (45 + m) = r 4 45 (45 + m) ∧ r2 4 45 (50 + m) = r 4 45 (50 + m) ∧ r2 4 45 (55 + m) = r 4 45 (55 + m) := fun m m0 m1 =>
    ⟨by rw [x2.1 _ (by omega) (by omega) (by omega) (by omega), rw1 _ (by omega)], by rw [x2.1 _ (by omega) (by omega) (by omega) (by omega), rw1 _ (by omega)], by rw [w2 _ (by omega) (by omega), rw1 _ (by omega)], by rw [w2 _ (by omega) (by omega), rw1 _ (by omega)]⟩
  have olds : ∀ m, 0 ≤ m → m < 5 → m ≠ y → r2 4 45 (40 + m) = r 4 45 (40 + m) := fun m m0 m1 hm => by
    rw [x2.1 _ (by omega) (by omega) (by omega) (by omega), rw1 _ (by omega)]
  have q50 : r2 4 45 (50 + y) = r 4 45 (50 + y) := by rw [w2 _ (by omega) (by omega), rw1 _ (by omega)]
  have lens : ∀ m, 0 ≤ m → m < 5 → r2 4 45 (55 + m) = if m < y + 1 ∨ m < 2 then c2 g 36 m else if so m = 1 then c2 g 36 m + j else if j = 0 then c2 g 36 m else 0 := fun m m0 m1 => by
    rw [w2 _ (by omega) (by omega), c236 m]
    by_cases e : m = y
    · rw [if_pos (by omega), if_pos e, e, r55]
    · rw [rw1 _ (by omega), if_neg e, l0 m m0 m1]
      by_cases e2 : m < y ∨ m < 2
      · rw [if_pos e2, if_pos (by omega)]
      · rw [if_neg e2, if_neg (show ¬ (m < y + 1 ∨ m < 2) by omega)]
  have secs : ∀ m, 0 ≤ m → m < 5 → m ≠ y → if m < y + 1 then c g 35 m = r2 4 45 (50 + m) + r2 4 45 (40 + m) else r2 4 45 (50 + m) = c g 35 m + if r2 4 45 (40 + m) = 1 then j else 0 := fun m m0 m1 hm => by
    have h9 := s0 m m0 m1
    rw [olds m m0 m1 hm, w2 _ (by omega) (by omega), rw1 _ (by omega)]
    by_cases e : m < y
    · rw [if_pos (by omega)]
      rw [if_pos e] at h9
      exact h9
    · rw [if_neg (by omega)]
      rw [if_neg e] at h9
      exact h9
  have stay : j ≠ 0 → ∀ m, 0 ≤ m → m < 5 → r 4 45 (40 + m) = 1 → r2 4 45 (40 + m) = 1 := fun hj0 m m0 m1 h9 => by
    by_cases e : m = y
    · subst e
      rw [x3]
      rcases x4 with ⟨-, x4 | x4⟩ | ⟨x4, -⟩
      · exact absurd (hq h9 x4) hj0
      · omega
      · exact x4
    · rw [olds m m0 m1 e]
      exact h9
  have s50 : ∀ m, 0 ≤ m → m < 5 → r2 4 45 (50 + m) = r 4 45 (50 + m) := fun m m0 m1 => by rw [w2 _ (by omega) (by omega), rw1 _ (by omega)]
  have s45 : ∀ m, 0 ≤ m → m < 5 → (r 4 45 (45 + m) ≤ r2 4 45 (45 + m) ∧ r2 4 45 (45 + m) ≤ r 4 45 (45 + m) + if m = y then 1 else 0) ∧ (m ≠ y → r2 4 45 (55 + m) = r 4 45 (55 + m)) ∧ (m = y → 0 ≤ r2 4 45 (55 + m) ∧ r2 4 45 (55 + m) ≤ r 4 45 (55 + m) + 1) := fun m m0 m1 => by
    have e45 : r1 4 45 (45 + y) = r 4 45 (45 + y) := rw1 _ (by omega)
    refine ⟨?_, fun e => by rw [w2 _ (by omega) (by omega), rw1 _ (by omega)], fun e => ?_⟩
    · by_cases e : m = y
      · subst e
        rw [if_pos rfl]
        omega
      · rw [if_neg e, x2.1 (45 + m) (by omega) (by omega) (by omega) (by omega), rw1 _ (by omega)]
        omega
    · subst e
      rw [w2 _ (by omega) (by omega), r55, hL]
      split <;> omega
  by_cases eo : o2 = 0
  · rw [if_pos eo]
    refine ⟨⟨k2, fun m m0 m1 => ?_, lens⟩, l2, fun g' k hk => ?_, rm, later, stay, s50, s45⟩
    · by_cases e : m = y
      · rw [e, if_pos (by omega), c35, q50, x3, eo]
        rcases x4 with ⟨-, x4⟩ | ⟨x4, -⟩
        · rcases ob with e2 | e2
          · rw [if_neg (by omega)] at sy
            omega
          · rw [if_pos e2] at sy
            have hj0 : j = 0 := hq e2 (by omega)
            omega
        · omega
      · rw [c35]
        exact secs m m0 m1 e
    · rw [x1 g' k (by omega), cg1 g' k (by omega)]
  · rw [if_neg eo]
    have o1 : o2 = 1 := by omega
    have so1 : so y = 1 := by omega
    obtain ⟨v, hv⟩ : ∃ v, v = w32 (c2 g 35 y + if r 4 45 (40 + y) = 0 then 1 else n) := ⟨_, rfl⟩
    have ev : v = r 4 45 (50 + y) + 1 := by
      rw [hv, c35]
      rcases ob with e2 | e2
      · rw [if_neg (by omega)] at sy
        rw [if_pos e2, w32_id (by omega)]
        omega
      · rw [if_pos e2] at sy
        rw [if_neg (by omega), w32_id (by omega)]
        omega
    rw [← hv]
    have d : ∀ g' k, (g' ≠ g ∨ k ≠ 35) → z_upd c2 g 35 y v g' k = c2 g' k := fun g' k hk => by
      rcases hk with hk | hk
      · rw [zu_g _ _ _ hk]
      · rw [zu_k _ _ _ hk]
    refine ⟨⟨k2.pt (fun k hk => d g k (by omega)) (fun _ _ _ => rfl), fun m m0 m1 => ?_, fun m m0 m1 => ?_⟩, l2.pt (fun k hk => d g k (by omega)) (fun _ _ => rfl), fun g' k hk => ?_, rm, later, stay, s50, s45⟩
    · by_cases e : m = y
      · rw [e, if_pos (by omega), zu_row, fu_s, q50, x3]
        omega
      · rw [zu_row, fu_i _ _ e, c35]
        exact secs m m0 m1 e
    · rw [d g 36 (by omega)]
      exact lens m m0 m1
    · rw [d g' k (by omega), x1 g' k (by omega), cg1 g' k (by omega)]
