/-! off, move, phases on both sides: time and shape. -/
theorem off_loop {g : Nat} (hg : g < 3) {a b : Int} (hb : 1 ≤ b ∧ b ≤ 1000000) : ∀ (n : Nat) (y3 y4 : Int) (m : zM) (B : Int), OM B m → 0 ≤ y3 → y3 ≤ 100000 → 0 ≤ y4 → y3 + y4 ≤ a → a - y4 < n → m g 8 9 + y3 ≤ 2000000000 → B + (a - y4) ≤ 1000000000 →
    ∃ m', fl131_43_1 (fun m => m) g a b n y3 y4 m = m' ∧ m' g 8 9 = m g 8 9 + y3 ∧ (∀ i, 0 ≤ i → i ≤ 6 → m' g 19 i = m g 19 i) := by
  intro n
  induction n with
  | zero =>
    intro y3 y4 m B h h0 h1 h2 h3 h4
    omega
  | succ n ih =>
    intro y3 y4 m B h h0 h1 h2 h3 h4 h5 hB
    have ht := h.t g
    show ∃ m', fl131_43_1_b (fl131_43_1 (fun m => m) g a b n) (fun m => m) g a b y3 y4 m = m' ∧ _
    unfold fl131_43_1_b
    by_cases c : a ≤ y4
    · rw [if_pos c]
      exact ⟨m, rfl, by omega, fun _ _ _ => rfl⟩
    rw [if_neg c]
    by_cases c2 : y3 ≤ 0
    · rw [if_pos c2]
      exact ⟨m, rfl, by omega, fun _ _ _ => rfl⟩
    rw [if_neg c2, zn_a]
    have hm := Int.emod_nonneg (m g 8 9) (show b ≠ 0 by omega)
    have hm2 := Int.emod_lt_of_pos (m g 8 9) (show 0 < b by omega)
    obtain ⟨k, hk⟩ : ∃ k, k = min y3 (b - m g 8 9 % b) := ⟨_, rfl⟩
    rw [← hk]
    obtain ⟨d1, d2⟩ := q133_1 g k (m g 33 3) h.1 h.2 (by omega) hg (by omega) (h.i (k := 33) (fj := 3) rfl rfl (zv33 hg) hg)
    have e1 := jt d2 g rfl
    have x1 : ∀ i, 0 ≤ i → i ≤ 6 → f133_1 g k (m g 33 3) m g 19 i = m g 19 i := fun i i0 i1 => jx d2 2 (ja19_0 ⟨i0, i1⟩) rfl
    have o1 : OM B (f133_1 g k (m g 33 3) m) := ⟨d1, d2.jb⟩
    rw [zs_a]
    generalize f133_1 g k (m g 33 3) m = m1 at e1 o1 x1 ⊢
    have o2 := u8_15 (g := g) o1 (w32_r (m1 g 8 15 + k))
    have e2 : z_upd m1 g 8 15 (w32 (m1 g 8 15 + k)) g 8 9 = m1 g 8 9 := z_upd_o _ _ rfl
    have x2 : ∀ i, z_upd m1 g 8 15 (w32 (m1 g 8 15 + k)) g 19 i = m1 g 19 i := fun i => by rw [zu_k _ _ _ (by decide)]
    rw [zn_a, zs_a]
    generalize z_upd m1 g 8 15 (w32 (m1 g 8 15 + k)) = m2 at o2 e2 x2 ⊢
    have o3 := u8_9 (g := g) (x := m2 g 8 9 + k) o2 (by omega)
    have e3 : z_upd m2 g 8 9 (m2 g 8 9 + k) g 8 9 = m2 g 8 9 + k := z_upd_same _ _ _ _ _
    have x3 : ∀ i, z_upd m2 g 8 9 (m2 g 8 9 + k) g 19 i = m2 g 19 i := fun i => by rw [zu_k _ _ _ (by decide)]
    rw [zs_a]
    generalize z_upd m2 g 8 9 (m2 g 8 9 + k) = m3 at o3 e3 x3 ⊢
    have b1 := q27_1 g (m3 g 8 9 - 1) o3.1 o3.2 (by omega) (by omega) (by omega)
    rw [zn_a]
    generalize f27_1 g (m3 g 8 9 - 1) m3 = v at b1 ⊢
    obtain ⟨r1, r2⟩ := q59_1 g v o3.1 o3.2 (by omega) hg b1
    have e4 := jt r2 g rfl
    have x4 : ∀ i, 0 ≤ i → i ≤ 6 → f59_1 g v m3 g 19 i = m3 g 19 i := fun i i0 i1 => jx r2 2 (ja19_0 ⟨i0, i1⟩) rfl
    rw [zs_a]
    obtain ⟨m', g1, g2, g3⟩ := ih (y3 - k) (y4 + 1) _ (B + 1) ⟨r1, r2.jb⟩ (by omega) (by omega) (by omega) (by omega) (by omega) (by omega) (by omega)
    exact ⟨m', g1, by omega, fun i i0 i1 => by rw [g3 i i0 i1, x4 i i0 i1, x3, x2, x1 i i0 i1]⟩
theorem f131_T {m : zM} {B a : Int} {g : Nat} (h : OM B m) (hB : B + 100006 ≤ 1000000000) (hg : g < 3) (ha : 1 ≤ a ∧ a ≤ 100000) (ht : m g 8 9 + a ≤ 2000000000) : f131_1 g a m g 8 9 = m g 8 9 + a ∧ f131_1 g a m g 19 3 = m g 19 3 ∧ f131_1 g a m g 19 4 = m g 19 4 ∧ f131_1 g a m g 19 5 = 0 := by
  unfold f131_1
  obtain ⟨d1, d2⟩ := q54_7 g 21 a h.1 h.2 (by omega) hg (by omega) (by omega)
  have e1 := jt d2 g rfl
  have x1 : ∀ i, 0 ≤ i → i ≤ 6 → f54_1 g 21 a m g 19 i = m g 19 i := fun i i0 i1 => jx d2 2 (ja19_0 ⟨i0, i1⟩) rfl
  have o1 : OM (B + 1) (f54_1 g 21 a m) := ⟨d1, d2.jb⟩
  rw [zs_a]
  generalize f54_1 g 21 a m = m1 at e1 o1 x1 ⊢
  obtain ⟨d3, d4⟩ := q132_1 g g (m1 g 8 9) o1.1 o1.2 (by omega) hg hg (o1.t g)
  have e2 := jt d4 g rfl
  have x2 : ∀ i, 0 ≤ i → i ≤ 6 → f132_1 g g (m1 g 8 9) m1 g 19 i = m1 g 19 i := fun i i0 i1 => jx d4 2 (ja19_0 ⟨i0, i1⟩) rfl
  have o2 : OM (B + 5) (f132_1 g g (m1 g 8 9) m1) := .q d3 d4 (by omega)
  rw [zs_a]
  generalize f132_1 g g (m1 g 8 9) m1 = m2 at e2 o2 x2 ⊢
  have o3 := u19_5 (g := g) (x := 0) o2 (by omega)
  have e3 : z_upd m2 g 19 5 0 g 8 9 = m2 g 8 9 := z_upd_o _ _ rfl
  have n3 : z_upd m2 g 19 5 0 g 19 3 = m2 g 19 3 := z_upd_o _ _ rfl
  have n4 : z_upd m2 g 19 5 0 g 19 4 = m2 g 19 4 := z_upd_o _ _ rfl
  have n5 : z_upd m2 g 19 5 0 g 19 5 = 0 := z_upd_same _ _ _ _ _
  rw [zs_a]
  generalize z_upd m2 g 19 5 0 = m3 at o3 e3 n3 n4 n5 ⊢
  have hb : 0 ≤ m3 g 10 4 ∧ m3 g 10 4 ≤ 1000000 := r10_0 o3.2.o g (i := 4) (by omega)
  obtain ⟨m', g1, g2, g3⟩ := off_loop hg (a := a) (b := max 1 (m3 g 10 4)) (by omega) (zfu 100001) a 0 m3 (B + 5) o3 (by omega) (by omega) (by omega) (by omega) (by rw [zfu_eq]; omega) (by omega) (by omega)
  rw [g1, g2, g3 3 (by omega) (by omega), g3 4 (by omega) (by omega), g3 5 (by omega) (by omega), n3, n4, n5, x2 3 (by omega) (by omega), x2 4 (by omega) (by omega), x1 3 (by omega) (by omega), x1 4 (by omega) (by omega)]
  exact ⟨by omega, rfl, rfl, rfl⟩
theorem r282a {k : zM → Int × zM} {a : Int} : ∀ (n : Nat) (y : Int) (m : zM) (B : Int), OM B m → 2 ≤ y → y ≤ 5 → 5 - y < n → B + (5 - y) ≤ 1000000000 →
    ∃ m', fl282_47_1 k a n y m = k m' ∧ OM (B + (5 - y)) m' ∧ (∀ i, 0 ≤ i → i ≤ 3 → m' 4 45 i = m 4 45 i)
  | 0, y, m, B, h, h0, h1, h2, hB => by omega
  | n + 1, y, m, B, h, h0, h1, h2, hB => by
    show ∃ m', fl282_47_1_b (fl282_47_1 k a n) k a y m = k m' ∧ _
    unfold fl282_47_1_b
    by_cases c : 5 ≤ y
    · rw [if_pos c]
      exact ⟨m, rfl, h.up (by omega), fun _ _ _ => rfl⟩
    rw [if_neg c, zs_a]
    have o1 := u45_40 (g := 4) (i := 55 + y) (x := 0) h (by omega) (by omega)
    have e1 : ∀ i, i ≤ 3 → z_upd m 4 45 (55 + y) 0 4 45 i = m 4 45 i := fun i hi => z_upd_i _ _ _ _ (by omega)
    generalize z_upd m 4 45 (55 + y) 0 = m1 at o1 e1 ⊢
    obtain ⟨m2, hm2⟩ : ∃ x, x = (if (m1 4 45 (40 + y)) = 1 then (zs (f229_1 y m1) fun m19 => m19) else (m1)) := ⟨_, rfl⟩
    have o2 : OM (B + 1) m2 ∧ (∀ i, 0 ≤ i → i ≤ 3 → m2 4 45 i = m1 4 45 i) := by
      rw [hm2]
      by_cases c2 : m1 4 45 (40 + y) = 1
      · rw [if_pos c2, zs_a]
        obtain ⟨d1, d2⟩ := q229_1 y o1.1 o1.2 (by omega) (by omega)
        refine ⟨⟨d1, d2.jb⟩, fun i i0 i1 => ?_⟩
        by_cases e : i = 0
        · rw [e]
          exact jx d2 31 ja45_0 rfl
        · exact jx d2 22 (ja45_1 (by omega)) rfl
      · rw [if_neg c2]
        exact ⟨o1.up (by omega), fun _ _ _ => rfl⟩
    rw [zs_eq hm2]
    obtain ⟨m', g1, g2, g3⟩ := r282a (k := k) (a := a) n (y + 1) m2 (B + 1) o2.1 (by omega) (by omega) (by omega) (by omega)
    exact ⟨m', g1, g2.up (by omega), fun i i0 i1 => by rw [g3 i i0 i1, o2.2 i i0 i1, e1 i i1]⟩
theorem r282b {k : zM → Int × zM} {a : Int} : ∀ (n : Nat) (y : Int) (m : zM) (B : Int), OM B m → 0 ≤ y → y ≤ a → a - y < n → B + (a - y) ≤ 1000000000 → m 4 45 0 + (a - y) ≤ 2000000000 →
    ∃ m', fl282_89_1 k a n y m = k m' ∧ m' 4 45 0 = m 4 45 0 + (a - y) ∧ (∀ i, 1 ≤ i → i ≤ 3 → m' 4 45 i = m 4 45 i)
  | 0, y, m, B, h, h0, h1, h2, hB, ht => by omega
  | n + 1, y, m, B, h, h0, h1, h2, hB, ht => by
    have hw := h.w
    show ∃ m', fl282_89_1_b (fl282_89_1 k a n) k a y m = k m' ∧ _
    unfold fl282_89_1_b
    by_cases c : a ≤ y
    · rw [if_pos c]
      exact ⟨m, rfl, by omega, fun _ _ _ => rfl⟩
    rw [if_neg c, zn_a, zs_a]
    have o1 := u45_14 (g := 4) (i := 15) h (by omega) (w64_r (m 4 45 15 + 1))
    have e1 : ∀ i, i ≤ 3 → z_upd m 4 45 15 (w64 (m 4 45 15 + 1)) 4 45 i = m 4 45 i := fun i hi => z_upd_i _ _ _ _ (by omega)
    generalize z_upd m 4 45 15 (w64 (m 4 45 15 + 1)) = m1 at o1 e1 ⊢
    rw [zn_a, zs_a]
    have o2 := u45_21 (g := 4) (i := 26) o1 (by omega) (w64_r (m1 4 45 26 + 1))
    have e2 : ∀ i, i ≤ 3 → z_upd m1 4 45 26 (w64 (m1 4 45 26 + 1)) 4 45 i = m1 4 45 i := fun i hi => z_upd_i _ _ _ _ (by omega)
    generalize z_upd m1 4 45 26 (w64 (m1 4 45 26 + 1)) = m2 at o2 e2 ⊢
    rw [zs_a]
    obtain ⟨d1, d2⟩ := q230_1 o2.1 o2.2 (by omega)
    have e3 := f230_time o2 (by omega)
    have e4 : ∀ i, 1 ≤ i → i ≤ 3 → f230_1 m2 4 45 i = m2 4 45 i := fun i i0 i1 => jx d2 22 (ja45_1 (by omega)) rfl
    rw [e2 _ (by omega), e1 _ (by omega)] at e3
    obtain ⟨m', g1, g2, g3⟩ := r282b (k := k) (a := a) n (y + 1) (f230_1 m2) (B + 1) ⟨d1, d2.jb⟩ (by omega) (by omega) (by omega) (by omega) (by omega)
    exact ⟨m', g1, by omega, fun i i0 i1 => by rw [g3 i i0 i1, e4 i i0 i1, e2 i i1, e1 i i1]⟩
theorem off_T {c r : zM} {B a : Int} (hc : OM B c) (hr : OM B r) (hB : B + 100006 ≤ 1000000000) (ht : c 0 8 9 = r 4 45 0) (hs : SH c r) : (f130_1 a c).1 = (f282_1 a r).1 ∧ (f130_1 a c).2 0 8 9 = (f282_1 a r).2 4 45 0 ∧ SH (f130_1 a c).2 (f282_1 a r).2 := by
  unfold f130_1 f282_1
  by_cases c1 : a < 1
  · rw [if_pos c1, if_pos c1]
    exact ⟨rfl, ht, hs⟩
  rw [if_neg c1, if_neg c1]
  by_cases c2 : a ≤ 100000
  case neg =>
    rw [if_pos (by omega), if_neg c2]
    exact ⟨rfl, ht, hs⟩
  rw [if_neg (by omega), if_pos c2, ht]
  by_cases c3 : r 4 45 0 + a ≤ 2000000000
  case neg =>
    rw [if_neg c3, if_neg c3]
    exact ⟨rfl, ht, hs⟩
  rw [if_pos c3, if_pos c3]
  obtain ⟨a1, a2, a3, a4⟩ := f131_T (a := a) (g := 0) hc hB (by omega) (by omega) (by omega)
  rw [zs_a, zs_a, zs_a]
  generalize f131_1 0 a c = c1 at a1 a2 a3 a4 ⊢
  obtain ⟨d1, d2⟩ := q223_1 21 a hr.1 hr.2 (by omega) (by omega) (by omega)
  have e1 : ∀ i, 0 ≤ i → i ≤ 3 → f223_1 21 a r 4 45 i = r 4 45 i := fun i i0 i1 => by
    by_cases e : i = 0
    · rw [e]
      exact jx d2 31 ja45_0 rfl
    · exact jx d2 22 (ja45_1 (by omega)) rfl
  have o1 : OM (B + 1) (f223_1 21 a r) := ⟨d1, d2.jb⟩
  generalize f223_1 21 a r = r1 at e1 o1 ⊢
  have o2 := u45_3 (g := 4) (x := 0) o1 (by omega)
  have n0 : z_upd r1 4 45 3 0 4 45 0 = r 4 45 0 := by rw [z_upd_o _ _ rfl, e1 _ (by omega) (by omega)]
  have n1 : z_upd r1 4 45 3 0 4 45 1 = r 4 45 1 := by rw [z_upd_o _ _ rfl, e1 _ (by omega) (by omega)]
  have n2 : z_upd r1 4 45 3 0 4 45 2 = r 4 45 2 := by rw [z_upd_o _ _ rfl, e1 _ (by omega) (by omega)]
  have n3 : z_upd r1 4 45 3 0 4 45 3 = 0 := z_upd_same _ _ _ _ _
  generalize z_upd r1 4 45 3 0 = r2 at o2 n0 n1 n2 n3 ⊢
  obtain ⟨r3, g1, g2, g3⟩ := r282a (k := fun m16 => fl282_89_1 (fun m20 => ((m20 4 45 0), m20)) a (zfu 100001) 0 m16) (a := a) (zfu 4) 2 r2 (B + 1) o2 (by omega) (by omega) (by rw [zfu_eq]; omega) (by omega)
  rw [g1]
  dsimp only
  have z0 := g3 0 (by omega) (by omega)
  obtain ⟨r4, g4, g5, g6⟩ := r282b (k := fun m20 => ((m20 4 45 0), m20)) (a := a) (zfu 100001) 0 r3 (B + 1 + (5 - 2)) g2 (by omega) (by omega) (by rw [zfu_eq]; omega) (by omega) (by omega)
  rw [g4]
  obtain ⟨s1, s2, s3⟩ := hs
  dsimp only
  refine ⟨by omega, by omega, ?_, ?_, ?_⟩
  · rw [g6 _ (by omega) (by omega), g3 _ (by omega) (by omega), n1, a2]
    exact s1
  · rw [g6 _ (by omega) (by omega), g3 _ (by omega) (by omega), n2, a3]
    exact s2
  · rw [g6 _ (by omega) (by omega), g3 _ (by omega) (by omega), n3, a4]
