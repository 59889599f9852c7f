/-! The whole of off. -/
def AN (c r : zM) : Prop := K0 (c 0) (r 4 45) ∧ LG (c 0) (r 4 45) ∧ (∀ m, 0 ≤ m → m < 5 → c 0 35 m = r 4 45 (50 + m)) ∧ ∀ m, 0 ≤ m → m < 5 → c 0 36 m = r 4 45 (55 + m)
/-- but for marks and log -/
def NF (c c' r r' : zM) : Prop := (∀ k, (k < 33 ∨ 38 < k) → c' 0 k = c 0 k) ∧ (∀ m, 0 ≤ m → m < 5 → c' 0 34 m = c 0 34 m ∧ c' 0 35 m = c 0 35 m ∧ (c' 0 36 m = c 0 36 m ∨ c' 0 36 m = 0)) ∧ ∀ i, i ≠ 16 → (i < 40 ∨ 59 < i) → (i < 1487 ∨ 1606 < i) → r' 4 45 i = r 4 45 i
theorem NF.trans {c c1 c2 r r1 r2 : zM} (h : NF c c1 r r1) (h' : NF c1 c2 r1 r2) : NF c c2 r r2 := by
  refine ⟨fun k hk => by rw [h'.1 k hk, h.1 k hk], fun m m0 m1 => ?_, fun i i0 i1 i2 => by rw [h'.2.2 i i0 i1 i2, h.2.2 i i0 i1 i2]⟩
  obtain ⟨a1, a2, a3⟩ := h.2.1 m m0 m1
  obtain ⟨b1, b2, b3⟩ := h'.2.1 m m0 m1
  refine ⟨b1.trans a1, b2.trans a2, ?_⟩
  rcases b3 with e | e
  · rw [e]
    exact a3
  · exact .inr e
theorem anew_loop {t a : Int} {k : zM → Int × zM} : ∀ (n n2 : Nat) (y : Int) (c r : zM) (B : Int), OM B r → B + (5 - y) ≤ 1000000000 → 2 ≤ y → y ≤ 5 → 5 - y < n → 5 - y < n2 → AN c r → t = r 4 45 0 → ∃ c' r', fl132_2_1 (fun m => m) 0 0 t n y c = c' ∧ fl282_47_1 k a n2 y r = k r' ∧ AN c' r' ∧ NF c c' r r' ∧ OM (B + (5 - y)) r' := by
  intro n
  induction n with
  | zero =>
    intro n2 y c r B ho hB h0 h1 h2 h3 h4 h5
    omega
  | succ n ih =>
    intro n2 y c r B ho hB h0 h1 h2 h3 h4 h5
    obtain ⟨n2, rfl⟩ : ∃ q, n2 = q + 1 := ⟨n2 - 1, by omega⟩
    show ∃ c' r', fl132_2_1_b (fl132_2_1 (fun m => m) 0 0 t n) (fun m => m) 0 0 t y c = c' ∧ fl282_47_1_b (fl282_47_1 k a n2) k a y r = k r' ∧ AN c' r' ∧ NF c c' r r' ∧ OM (B + (5 - y)) r'
    unfold fl132_2_1_b fl282_47_1_b
    by_cases hy : 5 ≤ y
    · rw [if_pos hy, if_pos hy]
      exact ⟨c, r, rfl, rfl, h4, ⟨fun _ _ => rfl, fun _ _ _ => ⟨rfl, rfl, .inl rfl⟩, fun _ _ _ _ => rfl⟩, ho.up (by omega)⟩
    rw [if_neg hy, if_neg hy]
    simp only [zs_a, zn_a]
    obtain ⟨k0, lg, a5, a6⟩ := h4
    have hb := k0.1
    have cw : ∀ i, z_upd c 0 36 y 0 0 36 i = if i = y then 0 else c 0 36 i := fun i => by rw [zu_row]; rfl
    have ck : ∀ k, k ≠ 36 → z_upd c 0 36 y 0 0 k = c 0 k := fun k hk => zu_k _ _ _ hk
    have rw' : ∀ i, z_upd r 4 45 (55 + y) 0 4 45 i = if i = 55 + y then 0 else r 4 45 i := fun i => by rw [zu_row]; rfl
    have o1 : OM B (z_upd r 4 45 (55 + y) 0) := u45_40 (g := 4) (i := 55 + y) (x := 0) ho (by omega) (by omega)
    obtain ⟨c1, ec1⟩ : ∃ x, x = z_upd c 0 36 y 0 := ⟨_, rfl⟩
    obtain ⟨r1, er1⟩ : ∃ x, x = z_upd r 4 45 (55 + y) 0 := ⟨_, rfl⟩
    rw [← ec1] at cw ck ⊢
    rw [← er1] at rw' o1 ⊢
    have k1 : K0 (c1 0) (r1 4 45) := k0.pt (fun k hk => ck k (by omega)) (fun i i0 i1 => by rw [rw', if_neg (by omega)])
    have l1 : LG (c1 0) (r1 4 45) := lg.pt (fun k hk => ck k (by omega)) (fun i hi => by rw [rw', if_neg (by omega)])
    have x5 : ∀ m, 0 ≤ m → m < 5 → c1 0 35 m = r1 4 45 (50 + m) := fun m m0 m1 => by
      rw [ck 35 (by decide), rw', if_neg (by omega)]
      exact a5 m m0 m1
    have x6 : ∀ m, 0 ≤ m → m < 5 → c1 0 36 m = r1 4 45 (55 + m) := fun m m0 m1 => by
      rw [cw, rw']
      by_cases e : m = y
      · rw [if_pos e, if_pos (by omega)]
      · rw [if_neg e, if_neg (by omega)]
        exact a6 m m0 m1
    have t1 : t = r1 4 45 0 := by
      rw [rw', if_neg (by omega)]
      exact h5
    have f1 : NF c c1 r r1 := ⟨fun k hk => ck k (by omega), fun m m0 m1 => ⟨by rw [ck 34 (by decide)], by rw [ck 35 (by decide)], by
      rw [cw]
      by_cases e : m = y
      · rw [if_pos e]
        exact .inr rfl
      · rw [if_neg e]
        exact .inl rfl⟩, fun i i0 i1 i2 => by rw [rw', if_neg (by omega)]⟩
    have hon : f40_1 0 y c1 = r1 4 45 (40 + y) := isOn_c k1.1 k1.2.1 (by omega) (by omega)
    have hbb := k1.1 y (by omega) (by omega)
    rw [hon]
    by_cases hz : r1 4 45 (40 + y) = 0
    · rw [if_pos hz, if_neg (show ¬ r1 4 45 (40 + y) = 1 by omega)]
      obtain ⟨c', r', e1, e2, e3, e4, e5⟩ := ih n2 (y + 1) c1 r1 B o1 (by omega) (by omega) (by omega) (by omega) (by omega) ⟨k1, l1, x5, x6⟩ t1
      exact ⟨c', r', e1, e2, e3, f1.trans e4, e5.up (by omega)⟩
    · have h1' : r1 4 45 (40 + y) = 1 := by omega
      rw [if_neg hz, if_pos h1']
      obtain ⟨d1, d2, d3, d4, d5, d6⟩ := turn_off (c := c1) (r := r1) (g := 0) (y := y) (t := t) k1 l1 (by omega) (by omega) t1 h1'
      obtain ⟨j1, j2⟩ := q229_1 y o1.1 o1.2 (by omega) (by omega)
      have o2 : OM (B + 1) (f229_1 y r1) := ⟨j1, j2.jb⟩
      obtain ⟨c2, ec2⟩ : ∃ x, x = f57_1 0 0 y 0 t c1 := ⟨_, rfl⟩
      obtain ⟨r2, er2⟩ : ∃ x, x = f229_1 y r1 := ⟨_, rfl⟩
      rw [← ec2] at d1 d2 d4 ⊢
      rw [← er2] at d1 d2 d3 d5 d6 o2 ⊢
      have w2 : ∀ i, i ≠ 40 + y → i ≠ 16 → (i < 1487 ∨ 1606 < i) → r2 4 45 i = r1 4 45 i := fun i i0 i1 i2 => by
        by_cases e : i = 45 + y
        · rw [e, d6]
        · exact d5.1 i i0 e i1 i2
      have f2 : NF c1 c2 r1 r2 := ⟨fun k hk => d4 0 k (.inr (by omega)), fun m m0 m1 => ⟨by rw [d1.2.2 m m0 m1, w2 _ (by omega) (by omega) (by omega), k1.2.2 m m0 m1], by rw [d4 0 35 (by omega)], .inl (by rw [d4 0 36 (by omega)])⟩, fun i i0 i1 i2 => w2 i (by omega) i0 i2⟩
      obtain ⟨c', r', e1, e2, e3, e4, e5⟩ := ih n2 (y + 1) c2 r2 (B + 1) o2 (by omega) (by omega) (by omega) (by omega) (by omega) ⟨d1, d2, fun m m0 m1 => by rw [d4 0 35 (by omega), w2 _ (by omega) (by omega) (by omega)]; exact x5 m m0 m1, fun m m0 m1 => by rw [d4 0 36 (by omega), w2 _ (by omega) (by omega) (by omega)]; exact x6 m m0 m1⟩ (by rw [w2 0 (by omega) (by omega) (by omega)]; exact t1)
      exact ⟨c', r', e1, e2, e3, (f1.trans f2).trans e4, e5.up (by omega)⟩
theorem oB_om {m : zM} {B : Int} (h : OM B m) (hB : B + 1 ≤ 1000000000) : OM (B + 1) (oB m) := by
  have o1 := u45_14 (g := 4) (i := 15) h (by omega) (w64_r (m 4 45 15 + 1))
  have o2 := u45_21 (g := 4) (i := 26) o1 (by omega) (w64_r (z_upd m 4 45 15 (w64 (m 4 45 15 + 1)) 4 45 26 + 1))
  obtain ⟨k1, k2⟩ := q230_1 o2.1 o2.2 hB
  exact ⟨k1, k2.jb⟩
theorem oN_om {m : zM} {B : Int} (h : OM B m) : ∀ n : Nat, B + n ≤ 1000000000 → OM (B + n) (oN n m)
  | 0, _ => h.up (by omega)
  | n + 1, hB => (oB_om (oN_om h n (by omega)) (by omega)).up (by omega)
/-- a block's seconds -/
theorem blk_q {t b n : Int} (hb : b = 60 ∨ b = 300 ∨ b = 900 ∨ b = 1800 ∨ b = 3600) (h0 : 0 ≤ t) (hn : n ≤ b - t % b) (i : Nat) (hi : (i : Int) < n - 1) : (t + i + 1) % b ≠ 0 := by
  rcases hb with rfl | rfl | rfl | rfl | rfl <;> omega
theorem offs_loop {A Z a b : Int} (hA : A ≤ 2900000) : ∀ (n : Nat) (y3 y4 : Int) (c r : zM) (B : Int), OM B c → OM B r → MG A Z (c 0) (r 4 45) → b = r 4 45 8 → 0 ≤ y3 → y3 ≤ 100000 → 0 ≤ y4 → y3 + y4 ≤ a → a - y4 < n → c 0 8 9 + y3 ≤ 2000000000 → B + y3 + 1 ≤ 1000000000 → c 0 8 15 + y3 + 3600 ≤ 1000000000 →
    ∃ c', fl131_43_1 (fun m => m) 0 a b n y3 y4 c = c' ∧ MG A Z (c' 0) (oN y3.toNat r 4 45) ∧ c' 0 8 15 = c 0 8 15 + y3 ∧ (∀ k, k ≠ 8 → (k < 27 ∨ 32 < k) → c' 0 k = c 0 k) ∧ (∀ i, (1 ≤ i ∧ i ≤ 14) ∨ (40 ≤ i ∧ i ≤ 787) ∨ (1611 ≤ i ∧ i ≤ 1618) ∨ (1172 ≤ i ∧ i ≤ 1606) → oN y3.toNat r 4 45 i = r 4 45 i) ∧ (∀ i, 8 ≤ i → i ≤ 14 → i ≠ 9 → c' 0 8 i = c 0 8 i) ∧ (XI (c 0) → XI (c' 0)) := by
  intro n
  induction n with
  | zero =>
    intro y3 y4 c r B hc hr h hb h0 h1 h2 h3 h4
    omega
  | succ n ih =>
    intro y3 y4 c r B hc hr h hb h0 h1 h2 h3 h4 hl hB h15
    show ∃ c', fl131_43_1_b (fl131_43_1 (fun m => m) 0 a b n) (fun m => m) 0 a b y3 y4 c = c' ∧ _
    unfold fl131_43_1_b
    by_cases z : y3 = 0
    · subst z
      refine ⟨c, ?_, h, (Int.add_zero _).symm, fun _ _ _ => rfl, fun _ _ => rfl, fun _ _ _ _ => rfl, fun hx => hx⟩
      split
      · rfl
      · rfl
    rw [if_neg (show ¬ a ≤ y4 by omega), if_neg (show ¬ y3 ≤ 0 by omega), zn_a]
    have b5 : b = 60 ∨ b = 300 ∨ b = 900 ∨ b = 1800 ∨ b = 3600 := by rw [hb]; exact h.2.1.2.2.2.1.2.2.2.2.2.2.2.2.2.2
    have hm := Int.emod_nonneg (c 0 8 9) (show b ≠ 0 by omega)
    have hm2 := Int.emod_lt_of_pos (c 0 8 9) (show 0 < b by omega)
    have t0 := hc.t 0
    obtain ⟨k, hk⟩ : ∃ k, k = min y3 (b - c 0 8 9 % b) := ⟨_, rfl⟩
    rw [← hk]
    obtain ⟨d1, d2⟩ := q133_1 0 k (c 0 33 3) hc.1 hc.2 (by omega) (by omega) (by omega) (hc.i (k := 33) (fj := 3) rfl rfl (zv33 (by omega)) (by omega))
    have o1 : OM B (f133_1 0 k (c 0 33 3) c) := ⟨d1, d2.jb⟩
    have e1 : f133_1 0 k (c 0 33 3) c 0 8 9 = c 0 8 9 := jt d2 0 rfl
    have o2 := u8_15 (g := 0) o1 (w32_r (f133_1 0 k (c 0 33 3) c 0 8 15 + k))
    have e2 : z_upd (f133_1 0 k (c 0 33 3) c) 0 8 15 (w32 (f133_1 0 k (c 0 33 3) c 0 8 15 + k)) 0 8 9 = c 0 8 9 := by rw [zu_row, fu_i _ _ (by decide), e1]
    have o3 := u8_9 (g := 0) (x := z_upd (f133_1 0 k (c 0 33 3) c) 0 8 15 (w32 (f133_1 0 k (c 0 33 3) c 0 8 15 + k)) 0 8 9 + k) o2 (by omega)
    simp only [zs_a, zn_a]
    obtain ⟨m3, em3⟩ : ∃ m3, m3 = z_upd (z_upd (f133_1 0 k (c 0 33 3) c) 0 8 15 (w32 (f133_1 0 k (c 0 33 3) c 0 8 15 + k))) 0 8 9 (z_upd (f133_1 0 k (c 0 33 3) c) 0 8 15 (w32 (f133_1 0 k (c 0 33 3) c 0 8 15 + k)) 0 8 9 + k) := ⟨_, rfl⟩
    rw [← em3] at o3 ⊢
    obtain ⟨g1, g2, g3, g4, g5, g6⟩ := chunk_T (n := k) hr o3 (by omega) h (by omega) (by omega) (fun i hi => by rw [← hb]; exact blk_q b5 t0.1 (by omega) i hi) (by omega) (by omega) em3
    have t3 := o3.t 0
    have m38 : m3 0 8 9 = c 0 8 9 + k := by rw [em3, zu_row, fu_s, e2]
    have bt := q27_1 0 (m3 0 8 9 - 1) o3.1 o3.2 (by omega) (by omega) (by omega)
    obtain ⟨j1, j2⟩ := q59_1 0 (f27_1 0 (m3 0 8 9 - 1) m3) o3.1 o3.2 (by omega) (by omega) bt
    obtain ⟨c4, ec4⟩ : ∃ x, x = f59_1 0 (f27_1 0 (m3 0 8 9 - 1) m3) m3 := ⟨_, rfl⟩
    rw [← ec4] at g1 g2 g3 g4 g6 j1 j2 ⊢
    have oc : OM (B + k) c4 := ⟨j1, j2.jb.up (by omega)⟩
    have or' : OM (B + k) (oN k.toNat r) := by
      have := oN_om hr k.toNat (by omega)
      rw [show ((k.toNat : Nat) : Int) = k by omega] at this
      exact this
    obtain ⟨c', e', x1, x2, x3, x4, x5, x6⟩ := ih (y3 - k) (y4 + 1) c4 (oN k.toNat r) (B + k) oc or' g1 (by rw [g5 8 (by omega)]; exact hb) (by omega) (by omega) (by omega) (by omega) (by omega) (by omega) (by omega) (by omega)
    rw [← oN_add, show (y3 - k).toNat + k.toNat = y3.toNat by omega] at x1 x4
    refine ⟨c', e', x1, by rw [x2, g3]; omega, fun q q8 q27 => by rw [x3 q q8 q27, g4 q q8 q27], fun i hi => by rw [x4 i hi, g5 i hi], fun i i0 i1 i2 => by rw [x5 i i0 i1 i2, g6 i i0 i1 i2], fun hx => x6 (by
      rw [ec4]
      exact chunk_X h.2.2.2.1 hA (by omega) (by omega) (by have := r10_5 hc.2.o 0; omega) (by omega) em3 hx)⟩
theorem off_G {c r : zM} {B A Z a : Int} (hc : OM B c) (hr : OM B r) (hB : B + 100010 ≤ 1000000000) (h : MG A Z (c 0) (r 4 45)) (hA : A ≤ 2900000) (hn : WN (c 0) (r 4 45)) (h15 : c 0 8 15 ≤ 800000000) :
    MG A Z ((f130_1 a c).2 0) ((f282_1 a r).2 4 45) ∧ WN ((f130_1 a c).2 0) ((f282_1 a r).2 4 45) ∧ (f130_1 a c).2 0 8 15 ≤ c 0 8 15 + 100000 ∧ (f130_1 a c).2 0 8 10 = c 0 8 10 ∧ (XI (c 0) → XI ((f130_1 a c).2 0)) := by
  have ht := h.1.t
  unfold f130_1 f282_1
  by_cases c1 : a < 1
  · rw [if_pos c1, if_pos c1]
    exact ⟨h, hn, show c 0 8 15 ≤ c 0 8 15 + 100000 by omega, rfl, fun hx => hx⟩
  rw [if_neg c1, if_neg c1]
  by_cases c2 : a ≤ 100000
  case neg =>
    rw [if_pos (show 100000 < a by omega), if_neg c2]
    exact ⟨h, hn, show c 0 8 15 ≤ c 0 8 15 + 100000 by omega, rfl, fun hx => hx⟩
  rw [if_neg (show ¬ 100000 < a by omega), if_pos c2, ht]
  by_cases c3 : c 0 8 9 + a ≤ 2000000000
  case neg =>
    rw [if_neg c3, if_neg c3]
    exact ⟨h, hn, show c 0 8 15 ≤ c 0 8 15 + 100000 by omega, rfl, fun hx => hx⟩
  rw [if_pos c3, if_pos c3]
  unfold f131_1 f132_1
  simp only [zs_a]
  -- the log
  obtain ⟨hMV, hWV, hCR, hCB, hs, hp⟩ := id h
  have hk := hMV.k
  have k1 := log4_c c 21 a
  obtain ⟨-, -, -, k3, k4⟩ := log_r r 21 a hMV.l.2.1
  have l1 := hMV.l.log4 (b := 21) (x := a) ht.symm
  obtain ⟨j1, j2⟩ := q54_7 0 21 a hc.1 hc.2 (by omega) (by omega) (by omega) (by omega)
  obtain ⟨j3, j4⟩ := q223_1 21 a hr.1 hr.2 (by omega) (by omega) (by omega)
  have o1 : OM (B + 1) (f54_1 0 21 a c) := ⟨j1, j2.jb⟩
  have p1 : OM (B + 1) (f223_1 21 a r) := ⟨j3, j4.jb⟩
  obtain ⟨m1, em1⟩ : ∃ x, x = f54_1 0 21 a c := ⟨_, rfl⟩
  obtain ⟨r1, er1⟩ : ∃ x, x = f223_1 21 a r := ⟨_, rfl⟩
  rw [← em1] at k1 l1 o1 ⊢
  rw [← er1] at k3 k4 l1 p1 ⊢
  have m8 : ∀ i, m1 0 8 i = c 0 8 i := fun i => by rw [k1 0 8 (by omega)]
  have p2 : OM (B + 1) (z_upd r1 4 45 3 0) := u45_3 (g := 4) p1 (by omega)
  have w2 : ∀ i, z_upd r1 4 45 3 0 4 45 i = if i = 3 then 0 else r1 4 45 i := fun i => by rw [zu_row]; rfl
  obtain ⟨r2, er2⟩ : ∃ x, x = z_upd r1 4 45 3 0 := ⟨_, rfl⟩
  rw [← er2] at p2 w2 ⊢
  have v2 : ∀ i, i ≠ 3 → i ≠ 16 → (i < 1487 ∨ 1606 < i) → r2 4 45 i = r 4 45 i := fun i i0 i1 i2 => by rw [w2, if_neg i0, k4 i i1 i2]
  have an : AN m1 r2 := ⟨⟨hk.1.of (fun i i0 i1 => v2 i (by omega) (by omega) (by omega)), by rw [k1 0 33 (by omega), onV_of (fun i i0 i1 => v2 i (by omega) (by omega) (by omega))]; exact hk.2.1, fun m m0 m1 => by rw [k1 0 34 (by omega), v2 _ (by omega) (by omega) (by omega)]; exact hk.2.2.1 m m0 m1⟩, l1.pt (fun _ _ => rfl) (fun i hi => by rw [w2, if_neg (by omega)]), fun m m0 m1 => by rw [k1 0 35 (by omega), v2 _ (by omega) (by omega) (by omega)]; exact hk.2.2.2.1 m m0 m1, fun m m0 m1 => by rw [k1 0 36 (by omega), v2 _ (by omega) (by omega) (by omega)]; exact hk.2.2.2.2 m m0 m1⟩
  obtain ⟨c3', r3, e1, e2, e3, e4, e5⟩ := anew_loop (t := m1 0 8 9) (a := a) (k := fun m516 => fl282_89_1 (fun m520 => ((m520 4 45 0), m520)) a (zfu 100001) 0 m516) (zfu 4) (zfu 4) 2 m1 r2 (B + 1) p2 (by omega) (by omega) (by omega) (by rw [zfu_eq]; omega) (by rw [zfu_eq]; omega) an (by rw [m8, v2 0 (by omega) (by omega) (by omega), ht])
  obtain ⟨x1, x2⟩ := q132_1 0 0 (m1 0 8 9) o1.1 o1.2 (by omega) (by omega) (by omega) (by have := o1.t 0; omega)
  have e1' : f132_1 0 0 (m1 0 8 9) m1 = c3' := e1
  rw [e1'] at x1 x2
  have o3 : OM (B + 5) c3' := ⟨x1, x2.jb.up (by omega)⟩
  rw [e1, e2, r282_N (zfu 100001) 0 r3 (by omega) (by rw [zfu_eq]; omega), show a - 0 = a by omega]
  try dsimp only
  obtain ⟨n1, n2, n3⟩ := e4
  have o4 : OM (B + 5) (z_upd c3' 0 19 5 0) := u19_5 (g := 0) (x := 0) o3 (by omega)
  have zk : ∀ k, k ≠ 19 → z_upd c3' 0 19 5 0 0 k = c3' 0 k := fun k hk => zu_k _ _ _ hk
  have z19 : ∀ i, i ≠ 5 → z_upd c3' 0 19 5 0 0 19 i = c 0 19 i := fun i hi => by rw [zu_row, fu_i _ _ hi, n1 19 (by omega), k1 0 19 (by omega)]
  obtain ⟨m4, em4⟩ : ∃ x, x = z_upd c3' 0 19 5 0 := ⟨_, rfl⟩
  rw [← em4] at o4 zk z19 ⊢
  have ck : ∀ k, k ≠ 19 → (k < 33 ∨ 38 < k) → m4 0 k = c 0 k := fun k h19 hk => by rw [zk k h19, n1 k hk, k1 0 k (by omega)]
  have wr : ∀ i, i ≠ 3 → i ≠ 16 → (i < 40 ∨ 59 < i) → (i < 1487 ∨ 1606 < i) → r3 4 45 i = r 4 45 i := fun i i0 i1 i2 i3 => by rw [n3 i i1 i2 i3, v2 i i0 i1 i3]
  have hG : MG A Z (m4 0) (r3 4 45) := by
    obtain ⟨b1, b2, b3, b4, b5, b6, b7, b8, b9, b10⟩ := hCB
    have hwb := WB.of e5
    refine MG.of ?_ ⟨?_, ?_, ?_⟩ (hMV.o.pt (fun i _ _ => by rw [ck 8 (by omega) (by omega)]) (fun i i0 i1 => wr i (by omega) (by omega) (by omega) (by omega))) (hMV.r.pt (ck 24 (by omega) (by omega)) (fun i i0 i1 => wr i (by omega) (by omega) (by omega) (by omega))) ⟨e3.1.1, by rw [zk 33 (by decide)]; exact e3.1.2.1, fun m m0 m1 => by rw [zk 34 (by decide)]; exact e3.1.2.2 m m0 m1, fun m m0 m1 => by rw [zk 35 (by decide)]; exact e3.2.2.1 m m0 m1, fun m m0 m1 => by rw [zk 36 (by decide)]; exact e3.2.2.2 m m0 m1⟩ (e3.2.1.pt (fun k hk => zk k (by omega)) (fun _ _ => rfl)) (hMV.d.pt (fun k k0 k1 => ck k (by omega) (by omega)) (fun i hi => wr i (by omega) (by omega) (by omega) (by omega))) (hMV.ld.pt (fun i _ _ => by rw [ck 27 (by omega) (by omega)]) (ck 28 (by omega) (by omega)) (ck 29 (by omega) (by omega)) (fun i hi => wr i (by omega) (by omega) (by omega) (by omega))) ?_ ?_ ((hCR.c (by rw [ck 11 (by omega) (by omega)]) (ck 12 (by omega) (by omega)) (ck 13 (by omega) (by omega)) (ck 14 (by omega) (by omega)) (ck 15 (by omega) (by omega)) (ck 16 (by omega) (by omega)) (ck 17 (by omega) (by omega)) (ck 18 (by omega) (by omega))).w (CB.of o4.2 0) (fun i i0 i1 => wr i (by omega) (by omega) (by omega) (by omega))) ⟨?_, ?_, ?_, ?_, ?_, ?_, ?_, ?_, ?_, ?_⟩ ?_ ?_
    · rw [wr 0 (by omega) (by omega) (by omega) (by omega), ck 8 (by omega) (by omega)]
      exact ht
    · rw [wr 13 (by omega) (by omega) (by omega) (by omega), ck 8 (by omega) (by omega)]
      exact hMV.n.1
    · rw [wr 14 (by omega) (by omega) (by omega) (by omega), ck 8 (by omega) (by omega)]
      exact hMV.n.2.1
    · rw [wr 15 (by omega) (by omega) (by omega) (by omega), ck 8 (by omega) (by omega)]
      exact hMV.n.2.2
    · unfold OD
      rw [wr 21 (by omega) (by omega) (by omega) (by omega), wr 8 (by omega) (by omega) (by omega) (by omega), ck 27 (by omega) (by omega)]
      exact hMV.od
    · have h22 : m4 0 22 = c 0 22 := ck 22 (by omega) (by omega)
      exact ⟨by rw [z19 3 (by decide), wr 1 (by omega) (by omega) (by omega) (by omega)]; exact hWV.1, by rw [z19 4 (by decide), wr 2 (by omega) (by omega) (by omega) (by omega)]; exact hWV.2.1, hWV.2.2.1.pt hWV.2.2.2.2 (fun i => by rw [h22]) (z19 6 (by decide)) (fun i hi => wr i (by omega) (by omega) (by omega) (by omega)), hWV.2.2.2.1.pt (ck 10 (by omega) (by omega)) (fun i hi => wr i (by omega) (by omega) (by omega) (by omega)), hwb⟩
    · rw [ck 8 (by omega) (by omega)]
      exact b1
    · rw [ck 8 (by omega) (by omega), ck 24 (by omega) (by omega)]
      exact b2
    · rw [ck 8 (by omega) (by omega), ck 27 (by omega) (by omega)]
      exact b3
    · rw [ck 8 (by omega) (by omega), ck 27 (by omega) (by omega)]
      exact b4
    · rw [ck 8 (by omega) (by omega)]
      exact b5
    · intro m m0 m1'
      obtain ⟨f1, f2, f3⟩ := n2 m m0 m1'
      obtain ⟨g1, g2, g3⟩ := b6 m m0 m1'
      rw [ck 8 (by omega) (by omega), zk 34 (by decide), zk 35 (by decide), zk 36 (by decide), f1, f2, k1 0 34 (by omega), k1 0 35 (by omega)]
      rw [k1 0 36 (by omega)] at f3
      exact ⟨g1, g2, by omega⟩
    · rw [ck 8 (by omega) (by omega)]
      exact b7
    · rw [ck 8 (by omega) (by omega), ck 27 (by omega) (by omega)]
      exact b8
    · rw [ck 8 (by omega) (by omega)]
      exact b9
    · rw [ck 27 (by omega) (by omega)]
      exact b10
    · rw [ck 8 (by omega) (by omega)]
      exact hs
    · rw [ck 8 (by omega) (by omega)]
      exact hp
  have st4 : m4 0 10 4 = r3 4 45 8 := hG.2.1.2.2.2.1.2.2.2.2.1
  have b8' := r45_8 e5.2.o 4
  have c9 : m4 0 8 9 = c 0 8 9 := by rw [ck 8 (by omega) (by omega)]
  have c15 : m4 0 8 15 = c 0 8 15 := by rw [ck 8 (by omega) (by omega)]
  obtain ⟨c', ef, y1, y2, y3, y4, y5, y6⟩ := offs_loop (a := a) (b := max 1 (m4 0 10 4)) hA (zfu 100001) a 0 m4 r3 (B + 5) o4 (e5.up (by omega)) hG (by omega) (by omega) c2 (by omega) (by omega) (by rw [zfu_eq]; omega) (by omega) (by omega) (by omega)
  rw [ef]
  refine ⟨y1, ⟨?_, fun k k0 k1' => ?_⟩, ?_, ?_, fun hx => y6 (hx.rows (fun k k0 k1 _ _ _ => ck k (by omega) (by omega)))⟩
  · have w3 : oN a.toNat r3 4 45 3 = 0 := by rw [y4 3 (by omega), n3 3 (by omega) (by omega) (by omega), w2, if_pos rfl]
    have hwb := WB.of e5
    show oN a.toNat r3 4 45 3 < oN a.toNat r3 4 45 1 * oN a.toNat r3 4 45 2
    rw [w3, y4 1 (by omega), y4 2 (by omega)]
    exact Int.mul_pos (by have := hwb.1; omega) (by have := hwb.2.2.1; omega)
  · exfalso
    have w3 : oN a.toNat r3 4 45 3 = 0 := by rw [y4 3 (by omega), n3 3 (by omega) (by omega) (by omega), w2, if_pos rfl]
    have k1' : k < oN a.toNat r3 4 45 3 := k1'
    omega
  · show c' 0 8 15 ≤ c 0 8 15 + 100000
    rw [y2, c15]
    omega
  · show c' 0 8 10 = c 0 8 10
    rw [y5 10 (by omega) (by omega) (by decide), ck 8 (by omega) (by omega)]
