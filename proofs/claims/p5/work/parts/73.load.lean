/-! The calendar's text: all its lines. -/
theorem lnC_eq (c : zM) (S : zM → Int × zM) (T : zM → Int × zM) : (zb (f94_1 c) fun v26 m24 => if v26 = 0 then S m24 else (zb (f105_1 59 m24) fun v30 m28 => if v30 = 0 then S m28 else T m28)) = zb (lnC c) fun v m => if v = 0 then S m else T m := by
  unfold lnC
  obtain ⟨v, m, e⟩ : ∃ a b, f94_1 c = (a, b) := ⟨_, _, rfl⟩
  rw [zb_eq e, zb_eq e]
  by_cases h : v = 0
  · rw [if_pos h, if_pos h]
    rfl
  · rw [if_neg h, if_neg h]
/-- parts of the state, group 4: what J says of rows -/
theorem ja46 {i : Int} (h : 0 ≤ i ∧ i ≤ 1618) : ja 46 i = 38 := ja46_0 h
theorem text_loop {p0 : Int → Int} {kC kR : Int → zM → Int × zM} : ∀ (n n2 : Nat) (y y2 : Int) (c r : zM) (B : Int), z_mok lL r → JB B r → B + 0 ≤ 1000000000 → N0 c r → PS p0 c r → 0 ≤ y2 → y2 ≤ c 4 41 7 → 301 - y2 < n → 301 - c 4 41 7 < n2 →
    ∃ y' y2' c' r', fl92_45_1 kC n y y2 c = kC y' c' ∧ fl260_55_1 kR n2 y r = kR y2' r' ∧ z_mok lL r' ∧ JB B r' ∧ (∀ i : Int, 0 ≤ i → i ≤ 1618 → r' 4 46 i = r 4 46 i) ∧ ((y' = y2' ∧ y ≤ y' ∧ N0 c' r' ∧ PS p0 c' r') ∨ FL c' r') := by
  intro n
  induction n with
  | zero =>
    intro n2 y y2 c r B hk hJ hB h hp h0 h1 h2
    have := h.1.2.1
    have := h.1.2.2.2.2.1
    omega
  | succ n ih =>
    intro n2 y y2 c r B hk hJ hB h hp h0 h1 h2 h3
    have hl := h.1.2.1
    have hl2 := h.1.2.2.2.2.1
    have hl3 := h.1.2.2.2.1
    obtain ⟨n2, rfl⟩ : ∃ j, n2 = j + 1 := ⟨n2 - 1, by omega⟩
    show ∃ y' y2' c' r', fl92_45_1_b (fl92_45_1 kC n) kC y y2 c = kC y' c' ∧ fl260_55_1_b (fl260_55_1 kR n2) kR y r = kR y2' r' ∧ _
    unfold fl92_45_1_b fl260_55_1_b
    rw [if_neg (by omega), ← h.1.1, ← h.1.2.2.2.2.2]
    by_cases c1 : c 4 41 3 ≤ c 4 41 7
    · rw [if_pos c1, if_pos c1]
      exact ⟨y, y, c, r, rfl, rfl, hk, hJ, fun _ _ _ => rfl, .inl ⟨rfl, Int.le_refl _, h, hp⟩⟩
    rw [if_neg c1, if_neg c1, if_pos h.2.1, if_pos h.2.2.2.1, lnC_eq]
    obtain ⟨v, c2, e1, e2⟩ := line_eq h hp
    rw [zb_eq e1]
    obtain ⟨g1, g2, g3, g4, g5⟩ := q264_1 hk hJ hB
    have s46 : ∀ i : Int, 0 ≤ i → i ≤ 1618 → f264_1 r 4 46 i = r 4 46 i := fun i i0 i1 => g2.eqf 38 (ja46 ⟨i0, i1⟩) (by simp [zQ])
    simp only [zs]
    generalize f264_1 r = r2 at e2 g1 g2 g3 g4 g5 s46 ⊢
    obtain ⟨k1, k2, k3, k4⟩ := q263_1 g1 g2.jb hB
    have t46 : ∀ i : Int, 0 ≤ i → i ≤ 1618 → f263_1 r2 4 46 i = r 4 46 i := fun i i0 i1 => (k2.eqf 38 (ja46 ⟨i0, i1⟩) (by simp [zQ])).trans (s46 i i0 i1)
    rcases e2 with ⟨a1, a2, a3⟩ | ⟨a1, a2⟩
    · rw [if_neg (by omega)]
      obtain ⟨b1, b2, b3, b4⟩ := bl_eq a2.1
      have e9 := a2.2.2.2.1
      have e8 := a2.1.2.2.2.2.2
      have e7 := h.1.2.2.2.2.2
      obtain ⟨y', y2', c', r', z1, z2, z3, z4, z5, z6⟩ := ih n2 (y + 1) (y2 + 1) _ _ B k1 k2.jb hB a2.bl (a3.pres b2.ec b3.er) (by omega) (by omega) (by omega) (by omega)
      exact ⟨y', y2', c', r', z1, z2, z3, z4, fun i i0 i1 => (z5 i i0 i1).trans (t46 i i0 i1), z6.imp (fun z => ⟨z.1, by have := z.2.1; omega, z.2.2⟩) id⟩
    · rw [if_pos a1]
      obtain ⟨n, rfl⟩ : ∃ j, n = j + 1 := ⟨n - 1, by omega⟩
      obtain ⟨n2, rfl⟩ : ∃ j, n2 = j + 1 := ⟨n2 - 1, by omega⟩
      have z9 : f263_1 r2 4 44 9 = 1 := (fz_bl _ r2 4 44 9 (by omega)).trans a2.2.1
      have zC : fl92_45_1 kC (n + 1) y (y2 + 1) c2 = kC y c2 := by
        show fl92_45_1_b (fl92_45_1 kC n) kC y (y2 + 1) c2 = _
        unfold fl92_45_1_b
        rw [if_neg (show ¬ c2 4 41 4 = 0 from a2.2.2.2.1)]
        split
        · rfl
        · split
          · rfl
          · rfl
      have zR : fl260_55_1 kR (n2 + 1) (y + 1) (f263_1 r2) = kR (y + 1) (f263_1 r2) := by
        show fl260_55_1_b (fl260_55_1 kR n2) kR (y + 1) (f263_1 r2) = _
        unfold fl260_55_1_b
        rw [if_neg (show ¬ f263_1 r2 4 44 9 = 0 by omega)]
        split
        · rfl
        · rfl
      rw [zC, zR]
      exact ⟨_, _, _, _, rfl, rfl, k1, k2.jb, t46, .inr (a2.fz (fz_bl _ r2).fz)⟩
/-! what is cleared first -/
theorem clr2 {kk : zM → zM} : ∀ (n : Nat) (y : Int) (m : zM), 0 ≤ y → y ≤ 8 → 8 - y < n → ∃ m', fl262_2_1 kk n y m = kk m' ∧ (∀ i, y ≤ i → i < 8 → m' 4 45 (287 + i) = 0 ∧ m' 4 49 i = 0) ∧ (∀ g k i, ¬ (g = 4 ∧ k = 45 ∧ 287 + y ≤ i ∧ i < 295) → ¬ (g = 4 ∧ k = 49 ∧ y ≤ i ∧ i < 8) → m' g k i = m g k i)
  | 0, y, m, h0, h1, h2 => by omega
  | n + 1, y, m, h0, h1, h2 => by
    show ∃ m', fl262_2_1_b (fl262_2_1 kk n) kk y m = kk m' ∧ _
    unfold fl262_2_1_b
    by_cases c : 8 ≤ y
    · rw [if_pos c]
      exact ⟨m, rfl, fun i i0 i1 => by omega, fun g k i _ _ => rfl⟩
    · rw [if_neg c]
      simp only [zs]
      obtain ⟨m', e1, e2, e3⟩ := clr2 (kk := kk) n (y + 1) (z_upd (z_upd m 4 45 (287 + y) 0) 4 49 y 0) (by omega) (by omega) (by omega)
      refine ⟨m', e1, fun i i0 i1 => ?_, fun g k i h3 h4 => ?_⟩
      · by_cases e : i = y
        · subst e
          rw [e3 _ _ _ (by omega) (by omega), e3 _ _ _ (by omega) (by omega), z_upd_same, zu_k _ _ _ (by decide), z_upd_same]
          exact ⟨rfl, rfl⟩
        · exact e2 i (by omega) i1
      · rw [e3 _ _ _ (by omega) (by omega)]
        unfold z_upd
        rw [if_neg (by omega), if_neg (by omega)]
theorem clr34 {kk : zM → zM} : ∀ (n : Nat) (y : Int) (m : zM), 0 ≤ y → y ≤ 4 → 4 - y < n → ∃ m', fl262_34_1 kk n y m = kk m' ∧ (∀ i, y ≤ i → i < 4 → m' 4 45 (391 + i) = (if i = 0 then 0 else -1) ∧ m' 4 50 i = 0) ∧ (∀ g k i, ¬ (g = 4 ∧ k = 45 ∧ 391 + y ≤ i ∧ i < 395) → ¬ (g = 4 ∧ k = 50 ∧ y ≤ i ∧ i < 4) → m' g k i = m g k i)
  | 0, y, m, h0, h1, h2 => by omega
  | n + 1, y, m, h0, h1, h2 => by
    show ∃ m', fl262_34_1_b (fl262_34_1 kk n) kk y m = kk m' ∧ _
    unfold fl262_34_1_b
    by_cases c : 4 ≤ y
    · rw [if_pos c]
      exact ⟨m, rfl, fun i i0 i1 => by omega, fun g k i _ _ => rfl⟩
    · rw [if_neg c]
      simp only [zs, zn]
      obtain ⟨m', e1, e2, e3⟩ := clr34 (kk := kk) n (y + 1) (z_upd (z_upd m 4 45 (391 + y) (if y = 0 then 0 else -1)) 4 50 y 0) (by omega) (by omega) (by omega)
      refine ⟨m', e1, fun i i0 i1 => ?_, fun g k i h3 h4 => ?_⟩
      · by_cases e : i = y
        · subst e
          rw [e3 _ _ _ (by omega) (by omega), e3 _ _ _ (by omega) (by omega), z_upd_same, zu_k _ _ _ (by decide), z_upd_same]
          exact ⟨rfl, rfl⟩
        · exact e2 i (by omega) i1
      · rw [e3 _ _ _ (by omega) (by omega)]
        generalize (if y = 0 then (0 : Int) else -1) = x
        unfold z_upd
        rw [if_neg (by omega), if_neg (by omega)]
theorem clr75 {kk : zM → zM} : ∀ (n : Nat) (y : Int) (m : zM), 0 ≤ y → y ≤ 28 → 28 - y < n → ∃ m', fl262_75_1 kk n y m = kk m' ∧ (∀ i, y ≤ i → i < 28 → m' 4 45 (395 + i) = 0) ∧ (∀ g k i, ¬ (g = 4 ∧ k = 45 ∧ 395 + y ≤ i ∧ i < 423) → m' g k i = m g k i)
  | 0, y, m, h0, h1, h2 => by omega
  | n + 1, y, m, h0, h1, h2 => by
    show ∃ m', fl262_75_1_b (fl262_75_1 kk n) kk y m = kk m' ∧ _
    unfold fl262_75_1_b
    by_cases c : 28 ≤ y
    · rw [if_pos c]
      exact ⟨m, rfl, fun i i0 i1 => by omega, fun g k i _ => rfl⟩
    · rw [if_neg c]
      simp only [zs]
      obtain ⟨m', e1, e2, e3⟩ := clr75 (kk := kk) n (y + 1) (z_upd m 4 45 (395 + y) 0) (by omega) (by omega) (by omega)
      refine ⟨m', e1, fun i i0 i1 => ?_, fun g k i h3 => ?_⟩
      · by_cases e : i = y
        · subst e
          rw [e3 _ _ _ (by omega), z_upd_same]
        · exact e2 i (by omega) i1
      · rw [e3 _ _ _ (by omega)]
        unfold z_upd
        rw [if_neg (by omega)]
theorem clr100 {kk : zM → zM} : ∀ (n : Nat) (y : Int) (m : zM), 0 ≤ y → y ≤ 365 → 365 - y < n → ∃ m', fl262_100_1 kk n y m = kk m' ∧ (∀ i, y ≤ i → i < 365 → m' 4 45 (423 + i) = -1) ∧ (∀ g k i, ¬ (g = 4 ∧ k = 45 ∧ 423 + y ≤ i ∧ i < 788) → m' g k i = m g k i)
  | 0, y, m, h0, h1, h2 => by omega
  | n + 1, y, m, h0, h1, h2 => by
    show ∃ m', fl262_100_1_b (fl262_100_1 kk n) kk y m = kk m' ∧ _
    unfold fl262_100_1_b
    by_cases c : 365 ≤ y
    · rw [if_pos c]
      exact ⟨m, rfl, fun i i0 i1 => by omega, fun g k i _ => rfl⟩
    · rw [if_neg c]
      simp only [zs]
      obtain ⟨m', e1, e2, e3⟩ := clr100 (kk := kk) n (y + 1) (z_upd m 4 45 (423 + y) (-1)) (by omega) (by omega) (by omega)
      refine ⟨m', e1, fun i i0 i1 => ?_, fun g k i h3 => ?_⟩
      · by_cases e : i = y
        · subst e
          rw [e3 _ _ _ (by omega), z_upd_same]
        · exact e2 i (by omega) i1
      · rw [e3 _ _ _ (by omega)]
        unfold z_upd
        rw [if_neg (by omega)]
/-- the reference, cleared -/
theorem clr_ref (m : zM) : ∃ m', f262_1 m = m' ∧ (∀ i, 0 ≤ i → i < 8 → m' 4 45 (287 + i) = 0 ∧ m' 4 49 i = 0) ∧ (∀ i, 0 ≤ i → i < 4 → m' 4 45 (391 + i) = (if i = 0 then 0 else -1) ∧ m' 4 50 i = 0) ∧ (∀ i, 0 ≤ i → i < 28 → m' 4 45 (395 + i) = 0) ∧ (∀ i, 0 ≤ i → i < 365 → m' 4 45 (423 + i) = -1) ∧
    m' 4 44 13 = 0 ∧ m' 4 44 14 = 0 ∧ (∀ i, (i < 287 ∨ 787 < i) → m' 4 45 i = m 4 45 i) ∧ (∀ k, k ≠ 45 → k ≠ 49 → k ≠ 50 → k ≠ 44 → m' 4 k = m 4 k) ∧ (∀ i, i ≠ 13 → i ≠ 14 → m' 4 44 i = m 4 44 i) := by
  unfold f262_1
  obtain ⟨m1, a1, a2, a3⟩ := clr2 (kk := fun m01 => fl262_34_1 (fun m05 => fl262_75_1 (fun m09 => fl262_100_1 (fun m13 => zs (z_upd m13 4 44 13 0) fun m17 => zs (z_upd m17 4 44 14 0) fun m19 => m19) (zfu 366) 0 m09) (zfu 29) 0 m05) (zfu 5) 0 m01) (zfu 9) 0 m (by omega) (by omega) (by rw [zfu_eq]; omega)
  obtain ⟨m2, b1, b2, b3⟩ := clr34 (kk := fun m05 => fl262_75_1 (fun m09 => fl262_100_1 (fun m13 => zs (z_upd m13 4 44 13 0) fun m17 => zs (z_upd m17 4 44 14 0) fun m19 => m19) (zfu 366) 0 m09) (zfu 29) 0 m05) (zfu 5) 0 m1 (by omega) (by omega) (by rw [zfu_eq]; omega)
  obtain ⟨m3, c1, c2, c3⟩ := clr75 (kk := fun m09 => fl262_100_1 (fun m13 => zs (z_upd m13 4 44 13 0) fun m17 => zs (z_upd m17 4 44 14 0) fun m19 => m19) (zfu 366) 0 m09) (zfu 29) 0 m2 (by omega) (by omega) (by rw [zfu_eq]; omega)
  obtain ⟨m4, d1, d2, d3⟩ := clr100 (kk := fun m13 => zs (z_upd m13 4 44 13 0) fun m17 => zs (z_upd m17 4 44 14 0) fun m19 => m19) (zfu 366) 0 m3 (by omega) (by omega) (by rw [zfu_eq]; omega)
  rw [a1]
  try dsimp only
  rw [b1]
  try dsimp only
  rw [c1]
  try dsimp only
  rw [d1]
  simp only [zs]
  have u : ∀ k i, k ≠ 44 → z_upd (z_upd m4 4 44 13 0) 4 44 14 0 4 k i = m4 4 k i := fun k i hk => by rw [zu_k _ _ _ hk, zu_k _ _ _ hk]
  refine ⟨_, rfl, fun i i0 i1 => ?_, fun i i0 i1 => ?_, fun i i0 i1 => ?_, fun i i0 i1 => ?_, ?_, ?_, fun i hi => ?_, fun k k1 k2 k3 k4 => ?_, fun i i0 i1 => ?_⟩
  · rw [u _ _ (by decide), u _ _ (by decide), d3 _ _ _ (by omega), d3 _ _ _ (by omega), c3 _ _ _ (by omega), c3 _ _ _ (by omega), b3 _ _ _ (by omega) (by omega), b3 _ _ _ (by omega) (by omega)]
    exact a2 i i0 i1
  · rw [u _ _ (by decide), u _ _ (by decide), d3 _ _ _ (by omega), d3 _ _ _ (by omega), c3 _ _ _ (by omega), c3 _ _ _ (by omega)]
    exact b2 i i0 i1
  · rw [u _ _ (by decide), d3 _ _ _ (by omega)]
    exact c2 i i0 i1
  · rw [u _ _ (by decide)]
    exact d2 i i0 i1
  · rw [z_upd_o _ _ rfl, z_upd_same]
  · rw [z_upd_same]
  · rw [u _ _ (by decide), d3 _ _ _ (by omega), c3 _ _ _ (by omega), b3 _ _ _ (by omega) (by omega), a3 _ _ _ (by omega) (by omega)]
  · funext i
    rw [u _ _ k4, d3 _ _ _ (by omega), c3 _ _ _ (by omega), b3 _ _ _ (by omega) (by omega), a3 _ _ _ (by omega) (by omega)]
  · rw [z_upd_i _ _ _ _ i1, z_upd_i _ _ _ _ i0, d3 _ _ _ (by omega), c3 _ _ _ (by omega), b3 _ _ _ (by omega) (by omega), a3 _ _ _ (by omega) (by omega)]
theorem fill1 {g : Nat} {x N : Int} : ∀ (n : Nat) (y : Int) (m : zM), y ≤ N → N - y < n → ∃ m', fl5_5_1 (fun m => m) g x N n y m = m' ∧ (∀ i, y ≤ i → i < N → m' g 12 i = x) ∧ (∀ g' k i, ¬ (g' = g ∧ k = 12 ∧ y ≤ i ∧ i < N) → m' g' k i = m g' k i)
  | 0, y, m, h1, h2 => by omega
  | n + 1, y, m, h1, h2 => by
    show ∃ m', fl5_5_1_b (fl5_5_1 (fun m => m) g x N n) (fun m => m) g x N y m = m' ∧ _
    unfold fl5_5_1_b
    by_cases c : N ≤ y
    · rw [if_pos c]
      exact ⟨m, rfl, fun i i0 i1 => by omega, fun g k i _ => rfl⟩
    · rw [if_neg c]
      simp only [zs]
      obtain ⟨m', e1, e2, e3⟩ := fill1 (g := g) (x := x) (N := N) n (y + 1) (z_upd m g 12 y x) (by omega) (by omega)
      refine ⟨m', e1, fun i i0 i1 => ?_, fun g' k i h3 => ?_⟩
      · by_cases e : i = y
        · subst e
          rw [e3 _ _ _ (by omega), z_upd_same]
        · exact e2 i (by omega) i1
      · rw [e3 _ _ _ (by omega)]
        unfold z_upd
        rw [if_neg (by omega)]
theorem fill2 {g : Nat} {x N : Int} : ∀ (n : Nat) (y : Int) (m : zM), y ≤ N → N - y < n → ∃ m', fl5_5_2 (fun m => m) g x N n y m = m' ∧ (∀ i, y ≤ i → i < N → m' g 15 i = x) ∧ (∀ g' k i, ¬ (g' = g ∧ k = 15 ∧ y ≤ i ∧ i < N) → m' g' k i = m g' k i)
  | 0, y, m, h1, h2 => by omega
  | n + 1, y, m, h1, h2 => by
    show ∃ m', fl5_5_2_b (fl5_5_2 (fun m => m) g x N n) (fun m => m) g x N y m = m' ∧ _
    unfold fl5_5_2_b
    by_cases c : N ≤ y
    · rw [if_pos c]
      exact ⟨m, rfl, fun i i0 i1 => by omega, fun g k i _ => rfl⟩
    · rw [if_neg c]
      simp only [zs]
      obtain ⟨m', e1, e2, e3⟩ := fill2 (g := g) (x := x) (N := N) n (y + 1) (z_upd m g 15 y x) (by omega) (by omega)
      refine ⟨m', e1, fun i i0 i1 => ?_, fun g' k i h3 => ?_⟩
      · by_cases e : i = y
        · subst e
          rw [e3 _ _ _ (by omega), z_upd_same]
        · exact e2 i (by omega) i1
      · rw [e3 _ _ _ (by omega)]
        unfold z_upd
        rw [if_neg (by omega)]
theorem fill3 {g : Nat} {x N : Int} : ∀ (n : Nat) (y : Int) (m : zM), y ≤ N → N - y < n → ∃ m', fl5_5_3 (fun m => m) g x N n y m = m' ∧ (∀ i, y ≤ i → i < N → m' g 16 i = x) ∧ (∀ g' k i, ¬ (g' = g ∧ k = 16 ∧ y ≤ i ∧ i < N) → m' g' k i = m g' k i)
  | 0, y, m, h1, h2 => by omega
  | n + 1, y, m, h1, h2 => by
    show ∃ m', fl5_5_3_b (fl5_5_3 (fun m => m) g x N n) (fun m => m) g x N y m = m' ∧ _
    unfold fl5_5_3_b
    by_cases c : N ≤ y
    · rw [if_pos c]
      exact ⟨m, rfl, fun i i0 i1 => by omega, fun g k i _ => rfl⟩
    · rw [if_neg c]
      simp only [zs]
      obtain ⟨m', e1, e2, e3⟩ := fill3 (g := g) (x := x) (N := N) n (y + 1) (z_upd m g 16 y x) (by omega) (by omega)
      refine ⟨m', e1, fun i i0 i1 => ?_, fun g' k i h3 => ?_⟩
      · by_cases e : i = y
        · subst e
          rw [e3 _ _ _ (by omega), z_upd_same]
        · exact e2 i (by omega) i1
      · rw [e3 _ _ _ (by omega)]
        unfold z_upd
        rw [if_neg (by omega)]
/-- the class' draft, cleared -/
theorem clr_cls (m : zM) : ∃ m', f4_1 3 m = m' ∧ (∀ i, 0 ≤ i → i < 8 → m' 3 12 i = 0) ∧ (∀ i, 0 ≤ i → i < 4 → m' 3 15 i = (if i = 0 then 0 else -1)) ∧ (∀ i, 0 ≤ i → i < 28 → m' 3 16 i = 0) ∧ m' 3 11 7 = 0 ∧ (∀ g, g ≠ 3 → m' g = m g) ∧ (∀ k, k ≠ 12 → k ≠ 15 → k ≠ 16 → k ≠ 11 → m' 3 k = m 3 k) := by
  unfold f4_1
  obtain ⟨m1, a1, a2, a3⟩ := fill1 (g := 3) (x := 0) (N := 8) (zfu 9) 0 m (by omega) (by rw [zfu_eq]; omega)
  obtain ⟨m2, b1, b2, b3⟩ := fill2 (g := 3) (x := -1) (N := 4) (zfu 5) 0 m1 (by omega) (by rw [zfu_eq]; omega)
  obtain ⟨m4, c1, c2, c3⟩ := fill3 (g := 3) (x := 0) (N := 28) (zfu 29) 0 (z_upd m2 3 15 0 0) (by omega) (by rw [zfu_eq]; omega)
  have e1 : f5_1 3 0 m = m1 := a1
  have e2 : f5_2 3 (-1) m1 = m2 := b1
  have e3 : f5_3 3 0 (z_upd m2 3 15 0 0) = m4 := c1
  simp only [zs]
  rw [e1, e2, e3]
  refine ⟨_, rfl, fun i i0 i1 => ?_, fun i i0 i1 => ?_, fun i i0 i1 => ?_, ?_, fun g hg => ?_, fun k k1 k2 k3 k4 => ?_⟩
  · rw [zu_k _ _ _ (by decide), c3 _ _ _ (by omega), zu_k _ _ _ (by decide), b3 _ _ _ (by omega)]
    exact a2 i i0 i1
  · rw [zu_k _ _ _ (by decide), c3 _ _ _ (by omega)]
    by_cases e : i = 0
    · subst e
      rw [z_upd_same, if_pos rfl]
    · rw [z_upd_i _ _ _ _ e, if_neg e]
      exact b2 i i0 i1
  · rw [zu_k _ _ _ (by decide)]
    exact c2 i i0 i1
  · rw [z_upd_same]
  · rw [zu_g _ _ _ hg]
    funext k i
    rw [c3 _ _ _ (by omega), zu_g _ _ _ hg, b3 _ _ _ (by omega), a3 _ _ _ (by omega)]
  · rw [zu_k _ _ _ k4]
    funext i
    rw [c3 _ _ _ (by omega), zu_k _ _ _ k2, b3 _ _ _ (by omega), a3 _ _ _ (by omega)]
