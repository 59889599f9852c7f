/-! The time and the wave's shape on both sides, call by call. -/
theorem f208_step {m : zM} {B : Int} (h : OM B m) (hB : B + 11 ≤ 1000000000) : OM (B + 11) (f208_1 m) ∧ f208_1 m 4 45 0 = min (m 4 45 0 + 1) 2000000000 := by
  obtain ⟨a, b⟩ := q208_1 h.1 h.2 hB
  exact ⟨⟨a, b.jb⟩, f208_time h hB⟩
/-- again -/
theorem r279_loop {k : zM → Int × zM} {a : Int} (ha : a ≤ 900) : ∀ (n : Nat) (y : Int) (m : zM) (B : Int), OM B m → 0 ≤ y → y ≤ a → a - y < n → B + 11 * (a - y) ≤ 1000000000 →
    ∃ m', fl279_18_1 k a n y m = k m' ∧ m' 4 45 0 = min (m 4 45 0 + (a - y)) 2000000000 := by
  intro n
  induction n with
  | zero =>
    intro y m B h h0 h1 h2
    omega
  | succ n ih =>
    intro y m B h h0 h1 h2 hB
    have hw := h.w
    show ∃ m', fl279_18_1_b (fl279_18_1 k a n) k a y m = k m' ∧ _
    unfold fl279_18_1_b
    by_cases c : a ≤ y
    · rw [if_pos c]
      exact ⟨m, rfl, by omega⟩
    · rw [if_neg c, zs_a]
      obtain ⟨o, e⟩ := f208_step h (by omega)
      obtain ⟨m', g1, g2⟩ := ih (y + 1) _ (B + 11) o (by omega) (by omega) (by omega) (by omega)
      exact ⟨m', g1, by omega⟩
theorem again_T {c r : zM} {B a : Int} (hc : OM B c) (hr : OM B r) (hB : B + 9911 ≤ 1000000000) (ht : c 0 8 9 = r 4 45 0) : (f69_1 a c).2 0 8 9 = (f279_1 a r).2 4 45 0 := by
  unfold f69_1 f279_1
  by_cases c1 : a < 1
  · rw [if_pos c1, if_pos c1]
    exact ht
  rw [if_neg c1, if_neg c1]
  by_cases c2 : a ≤ 900
  · rw [if_pos c2, if_pos c2]
    obtain ⟨m', g1, g2⟩ := r279_loop (k := fun m08 => zn (w64 (((m08 4 45 64)).tdiv (m08 4 45 5))) fun z13 => (z13, m08)) c2 (zfu 901) 0 r B hr (by omega) (by omega) (by rw [zfu_eq]; omega) (by omega)
    rw [g1, zs_a, zn_a, zn_a]
    show f25_1 0 a c 0 8 9 = m' 4 45 0
    rw [f25_time hc (by omega) (by decide) (by omega), g2]
    omega
  · rw [if_neg c2, if_neg c2]
    exact ht
/-- the shape, how many samples have come -/
def SH (c : zM) (r : zM) : Prop := c 0 19 3 = r 4 45 1 ∧ c 0 19 4 = r 4 45 2 ∧ c 0 19 5 = r 4 45 3
theorem cp205 {B : Int} {k : zM → Int × zM} : ∀ (n : Nat) (y : Int) (m : zM), 0 ≤ y → y ≤ 96 → 96 - y < n → OM B m → ∃ m', fl205_139_1 k n y m = k m' ∧ OM B m' ∧ (∀ i, (i < 95 ∨ 190 < i) → m' 4 45 i = m 4 45 i)
  | 0, y, m, h0, h1, h2, _ => by omega
  | n + 1, y, m, h0, h1, h2, h => by
    show ∃ m', fl205_139_1_b (fl205_139_1 k n) k y m = k m' ∧ _
    unfold fl205_139_1_b
    by_cases c : 96 ≤ y
    · rw [if_pos c]
      exact ⟨m, rfl, h, fun _ _ => rfl⟩
    · rw [if_neg c, zs_a]
      have hs : -500 ≤ m 4 45 (191 + y) ∧ m 4 45 (191 + y) ≤ 500 := r45_95 h.2.o 4 (i := 191 + y) (by omega)
      obtain ⟨m', g1, g2, g3⟩ := cp205 (k := k) n (y + 1) (z_upd m 4 45 (95 + y) (m 4 45 (191 + y))) (by omega) (by omega) (by omega) (u45_95 h (by omega) hs)
      exact ⟨m', g1, g2, fun i hi => by rw [g3 i hi, z_upd_i _ _ _ _ (by omega)]⟩
/-- only rows 22 of a group, and what the wave tells, have changed -/
def W22 (g : Nat) (m m' : zM) : Prop := ∀ g' k i, ¬ (g' = g ∧ (k = 22 ∨ (k = 19 ∧ i = 6))) → m' g' k i = m g' k i
theorem W22.rf (g : Nat) (m : zM) : W22 g m m := fun _ _ _ _ => rfl
theorem W22.trans {g : Nat} {a b c : zM} (h : W22 g a b) (h' : W22 g b c) : W22 g a c := fun g' k i h9 => (h' g' k i h9).trans (h g' k i h9)
theorem W22.upd (g : Nat) (m : zM) (i x : Int) : W22 g m (z_upd m g 22 i x) := fun g' k j h9 => by
  unfold z_upd
  rw [if_neg (fun e => h9 ⟨e.1, .inl e.2.1⟩)]
theorem f11_w {g : Nat} {a N : Int} : ∀ (n : Nat) (y : Int) (m : zM), W22 g m (fl11_6_1 (fun m => m) g a N n y m)
  | 0, _, m => W22.rf g m
  | n + 1, y, m => by
    show W22 g m (fl11_6_1_b (fl11_6_1 (fun m => m) g a N n) (fun m => m) g a N y m)
    unfold fl11_6_1_b
    split
    · exact W22.rf g m
    · rw [zs_a]
      exact (W22.upd g m _ _).trans (f11_w n _ _)
theorem f22_w (g : Nat) (a b x : Int) (m : zM) : W22 g m (f22_1 g a b x m) := by
  unfold f22_1
  simp only [zs_a, zn_a]
  exact (W22.upd g m _ _).trans (W22.upd g _ _ _)
theorem f21_in {g : Nat} {k : zM → zM} {a b c : Int} : ∀ (n : Nat) (y : Int) (m : zM), y ≤ m g 19 3 → m g 19 3 - y < n → ∃ m', fl21_37_1 k g a b c n y m = k m' ∧ W22 g m m'
  | 0, y, m, h0, h1 => by omega
  | n + 1, y, m, h0, h1 => by
    show ∃ m', fl21_37_1_b (fl21_37_1 k g a b c n) k g a b c y m = k m' ∧ W22 g m m'
    unfold fl21_37_1_b
    by_cases c1 : m g 19 3 ≤ y
    · rw [if_pos c1]
      exact ⟨m, rfl, W22.rf g m⟩
    · rw [if_neg c1]
      simp only [zs_a, zn_a]
      generalize hA : f22_1 g 0 y (m g 20 (b * m g 19 3 + y) * m g 21 (b * m g 19 3 + y)) m = m1
      have w1 : W22 g m m1 := by rw [← hA]; exact f22_w _ _ _ _ _
      generalize hB : f22_1 g 1 y _ m1 = m2
      have w2 : W22 g m m2 := w1.trans (by rw [← hB]; exact f22_w _ _ _ _ _)
      generalize hC : f22_1 g 2 y _ m2 = m3
      have w3 : W22 g m m3 := w2.trans (by rw [← hC]; exact f22_w _ _ _ _ _)
      generalize hD : f22_1 g 3 y _ m3 = m4
      have w4 : W22 g m m4 := w3.trans (by rw [← hD]; exact f22_w _ _ _ _ _)
      have e3 : m4 g 19 3 = m g 19 3 := w4 _ _ _ (by omega)
      obtain ⟨m', g1, g2⟩ := f21_in (g := g) (k := k) (a := a) (b := b) (c := c) n (y + 1) m4 (by omega) (by omega)
      exact ⟨m', g1, w4.trans g2⟩
theorem f21_out {g : Nat} {k : zM → zM} {a : Int} : ∀ (n : Nat) (y : Int) (m : zM), 0 ≤ m g 19 3 → m g 19 3 ≤ 3 → y ≤ m g 19 4 → m g 19 4 - y < n → ∃ m', fl21_17_1 k g a n y m = k m' ∧ W22 g m m'
  | 0, y, m, h3, h4, h0, h1 => by omega
  | n + 1, y, m, h3, h4, h0, h1 => by
    show ∃ m', fl21_17_1_b (fl21_17_1 k g a n) k g a y m = k m' ∧ W22 g m m'
    unfold fl21_17_1_b
    by_cases c1 : m g 19 4 ≤ y
    · rw [if_pos c1]
      exact ⟨m, rfl, W22.rf g m⟩
    · rw [if_neg c1, zn_a]
      obtain ⟨m1, g1, g2⟩ := f21_in (g := g) (k := fun m12 => fl21_17_1 k g a n (y + 1) m12) (a := a) (b := y) (c := (y + a) % m g 19 4) (zfu 4) 0 m h3 (by rw [zfu_eq]; omega)
      rw [g1]
      have e3 : m1 g 19 3 = m g 19 3 := g2 _ _ _ (by omega)
      have e4 : m1 g 19 4 = m g 19 4 := g2 _ _ _ (by omega)
      obtain ⟨m', g3, g4⟩ := f21_out (g := g) (k := k) (a := a) n (y + 1) m1 (by omega) (by omega) (by omega) (by omega)
      exact ⟨m', g3, g2.trans g4⟩
theorem f21_w {g : Nat} {m : zM} (h3 : 0 ≤ m g 19 3 ∧ m g 19 3 ≤ 3) (h4 : 0 ≤ m g 19 4 ∧ m g 19 4 ≤ 16) : W22 g m (f21_1 g m) := by
  unfold f21_1
  rw [zs_a]
  have w1 : W22 g m (f11_1 g 0 m) := f11_w (zfu 17) 0 m
  generalize f11_1 g 0 m = m1 at w1 ⊢
  have e3 : m1 g 19 3 = m g 19 3 := w1 _ _ _ (by omega)
  have e4 : m1 g 19 4 = m g 19 4 := w1 _ _ _ (by omega)
  obtain ⟨m', g1, g2⟩ := f21_out (g := g) (k := fun m05 => zn (f23_1 g 3 m05) fun v11 => zs (z_upd m05 g 19 6 v11) fun m12 => m12) (a := m1 g 19 4 / 4) (zfu 17) 0 m1 (by omega) (by omega) (by omega) (by rw [zfu_eq]; omega)
  rw [g1]
  simp only [zs_a, zn_a]
  refine (w1.trans g2).trans (fun g' k i h9 => ?_)
  unfold z_upd
  rw [if_neg (fun e => h9 ⟨e.1, .inr ⟨e.2.1, e.2.2⟩⟩)]
theorem jx {L G : List Nat} {B : Int} {m0 m : zM} (h : J (zQ L G) m0 B m) (f : Nat) {g k : Nat} {i : Int} (ha : ja k i = f) (hL : L.contains f = false) : m g k i = m0 g k i :=
  h.eqf f ha (fun e => by rw [List.contains_iff_mem.mpr e] at hL; cases hL)
theorem jy {L G : List Nat} {B : Int} {m0 m : zM} (h : J (zQ L G) m0 B m) {g : Nat} (hL : G.contains g = false) : m g = m0 g := by
  funext k i
  exact h.eqg (fun e => by rw [List.contains_iff_mem.mpr e] at hL; cases hL)
theorem sample_T {c r : zM} {B a b : Int} (hc : OM B c) (hr : OM B r) (hB : B + 7208 ≤ 1000000000) (ht : c 0 8 9 = r 4 45 0) (hs : SH c r) : (f19_1 a b c).1 = (f205_1 a b r).1 ∧ (f19_1 a b c).2 0 8 9 = (f205_1 a b r).2 4 45 0 ∧ SH (f19_1 a b c).2 (f205_1 a b r).2 := by
  unfold f19_1 f205_1
  by_cases c1 : a < -500
  · rw [if_pos c1, if_pos c1]
    exact ⟨rfl, ht, hs⟩
  rw [if_neg c1, if_neg c1]
  by_cases c2 : a ≤ 500
  case neg =>
    rw [if_pos (by omega), if_neg c2]
    exact ⟨rfl, ht, hs⟩
  rw [if_neg (by omega), if_pos c2]
  by_cases c3 : b < -500
  · rw [if_pos c3, if_pos c3]
    exact ⟨rfl, ht, hs⟩
  rw [if_neg c3, if_neg c3]
  by_cases c4 : b ≤ 500
  case neg =>
    rw [if_neg c4, if_neg c4]
    exact ⟨rfl, ht, hs⟩
  rw [if_pos c4, if_pos c4]
  have p1 : 1 ≤ c 0 19 3 ∧ c 0 19 3 ≤ 3 := r19_3 hc.2.o 0
  have p2 : 4 ≤ c 0 19 4 ∧ c 0 19 4 ≤ 16 := r19_4 hc.2.o 0
  have p3 : 0 ≤ c 0 19 5 ∧ c 0 19 5 ≤ 47 := r19_5 hc.2.o 0
  obtain ⟨s1, s2, s3⟩ := hs
  -- the class
  obtain ⟨v, c', ev, h1, h2, h3, h4, h5, h6⟩ : ∃ v c', f20_1 0 a b c = (v, c') ∧ OM B c' ∧ c' 0 8 9 = c 0 8 9 ∧ c' 0 19 3 = c 0 19 3 ∧ c' 0 19 4 = c 0 19 4 ∧ (v = if c 0 19 3 * c 0 19 4 ≤ c 0 19 5 + 1 then 1 else 0) ∧ c' 0 19 5 = if c 0 19 3 * c 0 19 4 ≤ c 0 19 5 + 1 then 0 else c 0 19 5 + 1 := by
    obtain ⟨k1, k2, k3⟩ := q20_1 0 a b hc.1 hc.2 (by omega) (by omega) (by omega) (by omega)
    refine ⟨(f20_1 0 a b c).1, (f20_1 0 a b c).2, rfl, ⟨k1, k2.jb⟩, jt k2 0 rfl, ?_⟩
    unfold f20_1
    simp only [zs_a, zn_a]
    have o1 := u20_0 (g := 0) (i := c 0 19 5) (x := a) hc (by omega) (by omega)
    have e1 : ∀ i, z_upd c 0 20 (c 0 19 5) a 0 19 i = c 0 19 i := fun i => by rw [zu_k _ _ _ (by decide)]
    generalize z_upd c 0 20 (c 0 19 5) a = m1 at o1 e1 ⊢
    have o2 := u21_0 (g := 0) (i := m1 0 19 5) (x := b) o1 (by rw [e1]; omega) (by omega)
    have e2 : ∀ i, z_upd m1 0 21 (m1 0 19 5) b 0 19 i = c 0 19 i := fun i => by rw [zu_k _ _ _ (by decide), e1]
    generalize z_upd m1 0 21 (m1 0 19 5) b = m2 at o2 e2 ⊢
    have e3 : z_upd m2 0 19 5 (m2 0 19 5 + 1) 0 19 3 = c 0 19 3 := by rw [z_upd_o _ _ rfl, e2]
    have e4 : z_upd m2 0 19 5 (m2 0 19 5 + 1) 0 19 4 = c 0 19 4 := by rw [z_upd_o _ _ rfl, e2]
    have e5 : z_upd m2 0 19 5 (m2 0 19 5 + 1) 0 19 5 = c 0 19 5 + 1 := by rw [z_upd_same, e2]
    rw [e3, e4, e5]
    by_cases d : c 0 19 3 * c 0 19 4 ≤ c 0 19 5 + 1
    · rw [if_pos d, if_pos d, if_pos d, z_upd_upd]
      have o3 := u19_5 (g := 0) (x := 0) o2 (by omega)
      have n3 : z_upd m2 0 19 5 0 0 19 3 = c 0 19 3 := by rw [z_upd_o _ _ rfl, e2]
      have n4 : z_upd m2 0 19 5 0 0 19 4 = c 0 19 4 := by rw [z_upd_o _ _ rfl, e2]
      have n5 : z_upd m2 0 19 5 0 0 19 5 = 0 := z_upd_same _ _ _ _ _
      generalize z_upd m2 0 19 5 0 = m3 at o3 n3 n4 n5 ⊢
      have w := f21_w (g := 0) (m := m3) (by omega) (by omega)
      dsimp only
      rw [w _ _ _ (by omega), w _ _ _ (by omega), w _ _ _ (by omega)]
      exact ⟨n3, n4, rfl, n5⟩
    · rw [if_neg d, if_neg d, if_neg d]
      dsimp only
      exact ⟨e3, e4, rfl, e5⟩
  rw [zb_eq ev]
  have cls : ∃ m', (zs (if v = 0 then c' else zs (f25_1 0 1 c') fun m09 => m09) fun m13 => (m13 0 19 5, m13)) = (m' 0 19 5, m') ∧ m' 0 19 3 = c 0 19 3 ∧ m' 0 19 4 = c 0 19 4 ∧ (m' 0 19 5 = if c 0 19 3 * c 0 19 4 ≤ c 0 19 5 + 1 then 0 else c 0 19 5 + 1) ∧ m' 0 8 9 = if c 0 19 3 * c 0 19 4 ≤ c 0 19 5 + 1 then min (c 0 8 9 + 1) 2000000000 else c 0 8 9 := by
    rw [zs_a]
    refine ⟨_, rfl, ?_⟩
    by_cases d : c 0 19 3 * c 0 19 4 ≤ c 0 19 5 + 1
    · rw [if_pos d] at h5 h6
      rw [if_neg (by omega), if_pos d, if_pos d, zs_a]
      obtain ⟨k1, k2⟩ := q25_1 0 1 h1.1 h1.2 (by omega) (by omega) (by omega)
      rw [jx k2 2 (ja19_0 (by omega)) rfl, jx k2 2 (ja19_0 (by omega)) rfl, jx k2 2 (ja19_0 (by omega)) rfl, f25_time h1 (by omega) (by omega) (by omega)]
      exact ⟨h3, h4, h6, by omega⟩
    · rw [if_neg d] at h5 h6
      rw [if_pos h5, if_neg d, if_neg d]
      exact ⟨h3, h4, h6, h2⟩
  obtain ⟨m', a0, a1, a2, a3, a4⟩ := cls
  rw [a0]
  -- the reference
  have kp := z_kp (x := r 4 45 3) (y := r 4 45 1) (by omega) (by omega)
  rw [zn_a, zn_a, zs_a]
  have o1 := u45_95 (g := 4) (i := 191 + 16 * (r 4 45 3 % r 4 45 1) + r 4 45 3 / r 4 45 1) (x := a) hr (by omega) (by omega)
  have e1 : ∀ i, i < 95 → z_upd r 4 45 (191 + 16 * (r 4 45 3 % r 4 45 1) + r 4 45 3 / r 4 45 1) a 4 45 i = r 4 45 i := fun i hi => z_upd_i _ _ _ _ (by omega)
  generalize z_upd r 4 45 (191 + 16 * (r 4 45 3 % r 4 45 1) + r 4 45 3 / r 4 45 1) a = r1 at o1 e1 ⊢
  rw [zn_a, zn_a, zs_a, e1 1 (by omega)]
  have o2 := u45_95 (g := 4) (i := 239 + 16 * (r 4 45 3 % r 4 45 1) + r 4 45 3 / r 4 45 1) (x := b) o1 (by omega) (by omega)
  have e2 : ∀ i, i < 95 → z_upd r1 4 45 (239 + 16 * (r 4 45 3 % r 4 45 1) + r 4 45 3 / r 4 45 1) b 4 45 i = r 4 45 i := fun i hi => by rw [z_upd_i _ _ _ _ (by omega), e1 i hi]
  generalize z_upd r1 4 45 (239 + 16 * (r 4 45 3 % r 4 45 1) + r 4 45 3 / r 4 45 1) b = r2 at o2 e2 ⊢
  rw [zs_a, zn_a, zs_a, z_upd_upd]
  have f1 : z_upd r2 4 45 3 (r2 4 45 3 + 1) 4 45 1 = r 4 45 1 := by rw [z_upd_o _ _ rfl, e2 _ (by omega)]
  have f2 : z_upd r2 4 45 3 (r2 4 45 3 + 1) 4 45 2 = r 4 45 2 := by rw [z_upd_o _ _ rfl, e2 _ (by omega)]
  have f3 : z_upd r2 4 45 3 (r2 4 45 3 + 1) 4 45 3 = r 4 45 3 + 1 := by rw [z_upd_same, e2 _ (by omega)]
  have f0 : z_upd r2 4 45 3 (r2 4 45 3 + 1) 4 45 0 = r 4 45 0 := by rw [z_upd_o _ _ rfl, e2 _ (by omega)]
  rw [f1, f2, f3]
  rw [s1, s2, s3] at a3 a4
  rw [s1] at a1
  rw [s2] at a2
  by_cases d : r 4 45 3 + 1 < r 4 45 1 * r 4 45 2
  · rw [if_neg (by omega)] at a3 a4
    rw [if_pos d]
    dsimp only
    refine ⟨a3, by rw [f0, a4]; exact ht, ?_, ?_, ?_⟩
    · rw [f1]; exact a1
    · rw [f2]; exact a2
    · rw [f3]; exact a3
  · rw [if_pos (by omega)] at a3 a4
    rw [if_neg d]
    have o3 := u45_3 (g := 4) (x := 0) o2 (by omega)
    have n0 : z_upd r2 4 45 3 0 4 45 0 = r 4 45 0 := by rw [z_upd_o _ _ rfl, e2 _ (by omega)]
    have n1 : z_upd r2 4 45 3 0 4 45 1 = r 4 45 1 := by rw [z_upd_o _ _ rfl, e2 _ (by omega)]
    have n2 : z_upd r2 4 45 3 0 4 45 2 = r 4 45 2 := by rw [z_upd_o _ _ rfl, e2 _ (by omega)]
    have n3 : z_upd r2 4 45 3 0 4 45 3 = 0 := z_upd_same _ _ _ _ _
    generalize z_upd r2 4 45 3 0 = r3 at o3 n0 n1 n2 n3 ⊢
    obtain ⟨r4, g1, g2, g3⟩ := cp205 (k := fun m34 => zs (f208_1 m34) fun m38 => ((0 : Int), m38)) (zfu 97) 0 r3 (by omega) (by omega) (by rw [zfu_eq]; omega) o3
    rw [g1, zs_a]
    obtain ⟨q1, q2⟩ := q208_1 g2.1 g2.2 (by omega)
    dsimp only
    refine ⟨a3, ?_, ?_, ?_, ?_⟩
    · rw [f208_time g2 (by omega), a4, g3 _ (by omega), n0, ht]
    · rw [jx q2 22 (ja45_1 (by omega)) rfl, g3 _ (by omega), n1]; exact a1
    · rw [jx q2 22 (ja45_1 (by omega)) rfl, g3 _ (by omega), n2]; exact a2
    · rw [jx q2 22 (ja45_1 (by omega)) rfl, g3 _ (by omega), n3]; exact a3
