section
/-! The calendar's text: a SPECIAL day, PRICES. -/
theorem f109_new {g : Nat} {d t : Int} {m : zM} (h : f29_1 g d m = -1) (hn : m g 11 7 < 16) : f109_1 g d t m = (1, z_upd (z_upd (z_upd m g 11 7 (m g 11 7 + 1)) g 17 (m g 11 7) d) g 18 (m g 11 7) t) := by
  unfold f109_1
  simp only [zn, zs]
  rw [if_pos h, if_pos hn]
theorem f108_0 {g : Nat} {d : Int} {m : zM} (h : f29_1 g d m = -1) : f108_1 g d m = 0 := by
  unfold f108_1
  simp only [zn]
  rw [if_pos h]
theorem f108_n {g : Nat} {d : Int} {m : zM} (h : ¬ f29_1 g d m = -1) : f108_1 g d m = 1 := by
  unfold f108_1
  simp only [zn]
  rw [if_neg h]
theorem PS.day {p0 : Int → Int} {c r' r : zM} (h : PS p0 c r') (h45 : r 4 45 = r' 4 45) (h49 : r 4 49 = r' 4 49) (h50 : r 4 50 = r' 4 50) (h14 : r 4 44 14 = r' 4 44 14) (hn : r 4 44 13 = r' 4 44 13 + 1) {d t : Int} (d0 : 0 ≤ d) (d1 : d ≤ 364) (t0 : 0 ≤ t) (t1 : t ≤ 7)
    (h9 : f29_1 3 d c = -1) (h16 : c 3 11 7 < 16) (hw : r' 4 45 (423 + d) = -1) : PS p0 (f109_1 3 d t c).2 (z_upd r 4 45 (423 + d) t) := by
  obtain ⟨l1, l2, l3, l4, l5, l6, l7, l8, l9, l10, l11⟩ := h
  have hcr := ((spput_eq (t := t) l10 l11 d0 (by omega) t0).2 (fun e => by omega)).2
  rw [f109_new h9 h16] at hcr ⊢
  dsimp only at hcr ⊢
  have hb2 := l11.2.1
  unfold PS
  have e4 : ∀ (i1 x1 i2 x2 i3 x3 : Int), z_upd (z_upd (z_upd c 3 11 i1 x1) 3 17 i2 x2) 3 18 i3 x3 4 = c 4 := fun _ _ _ _ _ _ => by rw [zu_g _ _ _ (by decide), zu_g _ _ _ (by decide), zu_g _ _ _ (by decide)]
  have e12 : ∀ (i1 x1 i2 x2 i3 x3 : Int) (k : Nat), k ≠ 11 → k ≠ 17 → k ≠ 18 → z_upd (z_upd (z_upd c 3 11 i1 x1) 3 17 i2 x2) 3 18 i3 x3 3 k = c 3 k := fun _ _ _ _ _ _ k k1 k2 k3 => by rw [zu_k _ _ _ k3, zu_k _ _ _ k2, zu_k _ _ _ k1]
  have e11 : ∀ (i2 x2 i3 x3 : Int), z_upd (z_upd (z_upd c 3 11 7 (c 3 11 7 + 1)) 3 17 i2 x2) 3 18 i3 x3 3 11 7 = c 3 11 7 + 1 := fun _ _ _ _ => by rw [z_upd_o _ _ rfl, z_upd_o _ _ rfl, z_upd_same]
  have e17 : ∀ (i2 x2 i3 x3 : Int), z_upd (z_upd (z_upd c 3 11 7 (c 3 11 7 + 1)) 3 17 i2 x2) 3 18 i3 x3 3 17 = fu (c 3 17) i2 x2 := fun _ _ _ _ => by rw [zu_k _ _ _ (by decide), zu_row, zu_k _ _ _ (by decide)]
  have e18 : ∀ (i2 x2 i3 x3 : Int), z_upd (z_upd (z_upd c 3 11 7 (c 3 11 7 + 1)) 3 17 i2 x2) 3 18 i3 x3 3 18 = fu (c 3 18) i3 x3 := fun _ _ _ _ => by rw [zu_row, zu_k _ _ _ (by decide), zu_k _ _ _ (by decide)]
  rw [e4, zu_k _ _ _ (show (49 : Nat) ≠ 45 by decide), zu_k _ _ _ (show (50 : Nat) ≠ 45 by decide), zu_k _ _ _ (show (44 : Nat) ≠ 45 by decide), e12 _ _ _ _ _ _ 12 (by decide) (by decide) (by decide), e11, h49, h50, h14, hn]
  refine ⟨l1, l2, l3, l4, l5, fun e t t0 t1 => ?_, ⟨fun e t t0 t1 => ?_, fun i i0 i1 => ?_⟩, by omega, l9, ?_, ?_⟩
  · rw [zu_row, fu_i _ _ (by omega), h45]
    exact l6 e t t0 t1
  · rw [zu_row, fu_i _ _ (by omega), h45]
    exact l7.1 e t t0 t1
  · rw [zu_row, fu_i _ _ (by omega), h45]
    exact l7.2 i i0 i1
  · rw [zu_row, h45]
    exact hcr
  · obtain ⟨b1, b2, b3, b4, b5, b6, b7, b8⟩ := l11
    unfold CB
    rw [e11, e17, e18, e12 _ _ _ _ _ _ 12 (by decide) (by decide) (by decide), e12 _ _ _ _ _ _ 13 (by decide) (by decide) (by decide), e12 _ _ _ _ _ _ 14 (by decide) (by decide) (by decide), e12 _ _ _ _ _ _ 15 (by decide) (by decide) (by decide), e12 _ _ _ _ _ _ 16 (by decide) (by decide) (by decide)]
    refine ⟨b1, by omega, fun i i0 i1 => ?_, fun i i0 i1 => ?_, b5, b6, b7, b8⟩
    · unfold fu
      split
      · omega
      · exact b3 i i0 i1
    · unfold fu
      split
      · omega
      · exact b4 i i0 i1
theorem special_eq {p0 : Int → Int} {c r : zM} (h : N0 c r) (hp : PS p0 c r) (hl : c 4 41 7 + 7 ≤ c 4 41 3) :
    (r 4 44 13 < 16 → ∃ v c' r', f107_1 c = (v, c') ∧ f275_1 (z_upd (z_upd r 4 44 8 (c 4 41 7 + 7)) 4 44 13 (r 4 44 13 + 1)) = r' ∧ OUT p0 v c' r') ∧
    (¬ r 4 44 13 < 16 → ∃ c', f107_1 c = (0, c') ∧ FL c' (f268_1 4 (r 4 44 8) r)) := by
  have h0 : 0 ≤ c 4 41 7 := h.1.2.2.2.1
  have hn : c 3 11 7 = r 4 44 13 := hp.2.2.2.2.2.2.2.1
  unfold f107_1
  rw [hn]
  constructor
  · intro hs
    rw [if_pos hs]
    have hN0 := h.pass (x := c 4 41 7 + 7) (by omega) hl
    have hN : N0 (z_upd c 4 41 7 (c 4 41 7 + 7)) (z_upd (z_upd r 4 44 8 (c 4 41 7 + 7)) 4 44 13 (r 4 44 13 + 1)) := hN0.congr (fun _ _ => rfl) rfl (fun i i0 i1 => z_upd_i _ _ _ _ (by omega)) (zu_k _ _ _ (by decide))
    have hP : PS p0 (z_upd c 4 41 7 (c 4 41 7 + 7)) (z_upd r 4 44 8 (c 4 41 7 + 7)) := hp.pres (EC.upd _ _ (by omega)) (ER.upd _ _ (by omega))
    have k13 : z_upd (z_upd r 4 44 8 (c 4 41 7 + 7)) 4 44 13 (r 4 44 13 + 1) 4 44 13 = r 4 44 13 + 1 := z_upd_same _ _ _ _ _
    have k14 : z_upd (z_upd r 4 44 8 (c 4 41 7 + 7)) 4 44 13 (r 4 44 13 + 1) 4 44 14 = z_upd r 4 44 8 (c 4 41 7 + 7) 4 44 14 := z_upd_o _ _ rfl
    have kk : ∀ k, k ≠ 44 → z_upd (z_upd r 4 44 8 (c 4 41 7 + 7)) 4 44 13 (r 4 44 13 + 1) 4 k = z_upd r 4 44 8 (c 4 41 7 + 7) 4 k := fun k hk => zu_k _ _ _ hk
    have kn : z_upd r 4 44 8 (c 4 41 7 + 7) 4 44 13 = r 4 44 13 := z_upd_o _ _ rfl
    have kc : z_upd c 4 41 7 (c 4 41 7 + 7) 3 11 7 = r 4 44 13 := by rw [zu_g _ _ _ (by decide)]; exact hn
    simp only [zs]
    unfold f275_1
    generalize z_upd (z_upd r 4 44 8 (c 4 41 7 + 7)) 4 44 13 (r 4 44 13 + 1) = r0 at hN k13 k14 kk ⊢
    generalize z_upd c 4 41 7 (c 4 41 7 + 7) = c0 at hN hP kc ⊢
    generalize z_upd r 4 44 8 (c 4 41 7 + 7) = rb at hP k14 kk kn
    obtain ⟨q1, q2, q3⟩ := num_eq hN (most := 364) (by omega)
    obtain ⟨v, c1, e1⟩ : ∃ a b, f100_1 364 c0 = (a, b) := ⟨_, _, rfl⟩
    obtain ⟨u, r1, e2⟩ : ∃ a b, f270_1 0 364 r0 = (a, b) := ⟨_, _, rfl⟩
    rw [e1, e2] at q3
    rw [e1] at q1
    rw [e2] at q2
    dsimp only at q1 q2 q3
    rw [zb_eq e1, zb_eq e2]
    rcases q3 with ⟨a1, a2, a3, a4, a5⟩ | ⟨a1, a2, a3⟩
    case inr =>
      rw [if_pos a1, if_neg (by rw [a3.2.1]; decide), zb_eq (fz_num a3.2.1 0 7)]
      exact ⟨_, _, _, rfl, rfl, .inr ⟨rfl, a3.fz (FZ.upd _ _ _ (by decide))⟩⟩
    subst a3
    have hP1 : PS p0 c1 rb := hP.pres q1 (ER.rf _)
    have w1 : r1 4 45 = rb 4 45 := by rw [q2.row (.inr (by decide))]; exact kk _ (by decide)
    rw [if_neg (by omega), if_pos a4.2.2.2.1, w1]
    rcases CR.sp (n' := rb) hP1.2.2.2.2.2.2.2.2.2.1 hP1.2.2.2.2.2.2.2.2.2.2 (d := u) a1 (by omega) with ⟨s1, s2, s3⟩ | ⟨s1, s2, s3, s4, s5⟩
    · have x1 : ∀ {A : Int → Int × zM}, zn (f108_1 3 u c1) A = A 0 := zn_eq (f108_0 s1).symm
      rw [x1, if_pos rfl, if_pos s2]
      obtain ⟨t1, t2, t3⟩ := num_eq a4 (most := 7) (by omega)
      obtain ⟨v2, c2, e3⟩ : ∃ a b, f100_1 7 c1 = (a, b) := ⟨_, _, rfl⟩
      obtain ⟨u2, r2, e4⟩ : ∃ a b, f270_1 0 7 r1 = (a, b) := ⟨_, _, rfl⟩
      rw [e3, e4] at t3
      rw [e3] at t1
      rw [e4] at t2
      dsimp only at t1 t2 t3
      rw [zb_eq e3, zb_eq e4]
      rcases t3 with ⟨b1, b2, b3, b4, b5⟩ | ⟨b1, b2, b3⟩
      case inr =>
        rw [if_pos b1]
        exact ⟨_, _, _, rfl, rfl, .inr ⟨rfl, b3.fz (FZ.upd _ _ _ (by decide))⟩⟩
      subst b3
      rw [if_neg (by omega)]
      have hP2 : PS p0 c2 rb := hP1.pres t1 (ER.rf _)
      have s6 : f29_1 3 u c2 = -1 := by
        rcases CR.sp (n' := rb) hP2.2.2.2.2.2.2.2.2.2.1 hP2.2.2.2.2.2.2.2.2.2.2 (d := u) a1 (by omega) with ⟨z1, _⟩ | ⟨_, _, _, _, z5⟩
        · exact z1
        · exact absurd s2 z5
      have k2 : c2 3 11 7 = r 4 44 13 := by rw [t1.g3, q1.g3]; exact kc
      have hE : f109_1 3 u u2 c2 = (1, (f109_1 3 u u2 c2).2) := by rw [f109_new s6 (by omega)]
      rw [zb_eq hE, if_neg (by decide)]
      refine ⟨1, _, _, rfl, rfl, .inl ⟨rfl, ?_, ?_⟩⟩
      · rw [f109_new s6 (by omega)]
        exact b4.congr (fun i _ => by dsimp only; rw [zu_g _ _ _ (by decide), zu_g _ _ _ (by decide), zu_g _ _ _ (by decide)]) (by dsimp only; rw [zu_g _ _ _ (by decide), zu_g _ _ _ (by decide), zu_g _ _ _ (by decide)]) (fun i _ _ => by show z_upd r2 4 45 (423 + u) u2 4 44 i = _; rw [zu_k _ _ _ (by decide)]) (zu_k _ _ _ (by decide))
      · exact hP2.day (by rw [t2.row (.inr (by decide))]; exact w1) (by rw [t2.row (.inr (by decide)), q2.row (.inr (by decide))]; exact kk _ (by decide)) (by rw [t2.row (.inr (by decide)), q2.row (.inr (by decide))]; exact kk _ (by decide)) (by rw [t2 _ _ _ (by omega), q2 _ _ _ (by omega)]; exact k14) (by rw [t2 _ _ _ (by omega), q2 _ _ _ (by omega), kn]; exact k13) a1 a2 b1 b2 s6 (by omega) s2
    · have x1 : ∀ {A : Int → Int × zM}, zn (f108_1 3 u c1) A = A 1 := zn_eq (f108_n (by omega)).symm
      rw [x1, if_neg (by decide), if_neg s5]
      obtain ⟨f1, f2, f3, f4⟩ := a4.fail (k := 3) (by decide) a5
      obtain ⟨v3, c3, e3⟩ : ∃ a b, f102_1 3 (c1 4 41 8) c1 = (a, b) := ⟨_, _, rfl⟩
      rw [e3] at f1 f2 f3
      dsimp only at f1 f2 f3
      subst f1
      have x2 : ∀ {A : zM → zM}, zs (f268_1 3 (r1 4 44 10) r1) A = A (f268_1 3 (r1 4 44 10) r1) := zs_eq rfl
      rw [zb_eq e3, x2, zb_eq (fz_num f2.2.1 0 7)]
      exact ⟨_, _, _, rfl, rfl, .inr ⟨rfl, f2.fz (FZ.upd _ _ _ (by decide))⟩⟩
  · intro hs
    rw [if_neg hs]
    obtain ⟨f1, f2, f3, f4⟩ := h.fail (k := 4) (by decide) h.1.2.2.2.2.2
    obtain ⟨v3, c3, e3⟩ : ∃ a b, f102_1 4 (c 4 41 7) c = (a, b) := ⟨_, _, rfl⟩
    rw [e3] at f1 f2 f3
    dsimp only at f1 f2 f3
    subst f1
    rw [zb_eq e3]
    exact ⟨_, rfl, f2⟩
end
section
/-! The calendar's text: PRICES, a line. -/
/-- a draft while PRICES are told -/
def PQ (p0 : Int → Int) (j : Int) (c r : zM) : Prop :=
  (0 ≤ c 4 41 9 ∧ c 4 41 9 < 256) ∧ (0 ≤ c 4 41 10 ∧ c 4 41 10 < 256) ∧ (∀ v : Int, 0 ≤ v → v < 8 → tbit (c 4 41 9) v = r 4 49 v) ∧ (∀ v : Int, 0 ≤ v → v < 4 → tbit (c 4 41 10) v = r 4 50 v) ∧
  (c 4 41 6 = 0 ∧ r 4 44 14 = 1) ∧ ((∀ t : Int, 0 ≤ t → t < j → c 4 43 t = r 4 45 (28 + t)) ∧ (∀ i : Int, (i < 28 ∨ 31 < i) → (i < 287 ∨ 787 < i) → r 4 45 i = p0 i)) ∧
  c 3 11 7 = r 4 44 13 ∧ (∀ v : Int, 0 ≤ v → v < 8 → tbit (c 4 41 9) v = 0 → c 3 12 v = 0) ∧ CR (c 3) (r 4 45) ∧ CB (c 3)
theorem PQ.pres {p0 : Int → Int} {j : Int} {c r c' r' : zM} (h : PQ p0 j c r) (hc : EC c c') (hr : ER r r') : PQ p0 j c' r' := by
  unfold PQ
  rw [hc 4 41 9 (by omega), hc 4 41 10 (by omega), hc 4 41 6 (by omega), hc.g3, hr.row (k := 49) (.inr (by decide)), hr.row (k := 50) (.inr (by decide)), hr.row (k := 45) (.inr (by decide)), hr 4 44 14 (by omega), hr 4 44 13 (by omega), hc.row (k := 43) (.inr (by decide))]
  exact h
theorem PQ.next {p0 : Int → Int} {j x : Int} {c r : zM} (h : PQ p0 j c r) (j0 : 0 ≤ j) (j1 : j < 4) : PQ p0 (j + 1) (z_upd c 4 43 j x) (z_upd r 4 45 (28 + j) x) := by
  obtain ⟨l1, l2, l3, l4, l5, l6, l7, l8, l9, l10⟩ := h
  unfold PQ
  rw [zu_k _ _ _ (show (41 : Nat) ≠ 43 by decide), zu_k _ _ _ (show (49 : Nat) ≠ 45 by decide), zu_k _ _ _ (show (50 : Nat) ≠ 45 by decide), zu_k _ _ _ (show (44 : Nat) ≠ 45 by decide), zu_g _ _ _ (show (3 : Nat) ≠ 4 by decide), zu_row, zu_row]
  refine ⟨l1, l2, l3, l4, l5, ⟨fun t t0 t1 => ?_, fun i i0 i1 => ?_⟩, l7, l8, l9.w l10 (fun i i0 i1 => fu_i _ _ (by omega)), l10⟩
  · by_cases e : t = j
    · rw [e, fu_s, fu_s]
    rw [fu_i _ _ e, fu_i _ _ (by omega)]
    exact l6.1 t t0 (by omega)
  · rw [fu_i _ _ (by omega)]
    exact l6.2 i i0 i1
theorem PQ.done {p0 : Int → Int} {c r : zM} (h : PQ p0 4 c r) : PS p0 (z_upd c 4 41 6 1) r := by
  obtain ⟨l1, l2, l3, l4, l5, l6, l7, l8, l9, l10⟩ := h
  unfold PS
  rw [z_upd_o (i' := 9) _ _ rfl, z_upd_o (i' := 10) _ _ rfl, z_upd_same, zu_g _ _ _ (show (3 : Nat) ≠ 4 by decide), zu_k _ _ _ (show (43 : Nat) ≠ 41 by decide)]
  exact ⟨l1, l2, l3, l4, ⟨l5.2.symm, .inr rfl⟩, fun _ => l6.1, ⟨fun e => absurd e (by decide), l6.2⟩, l7, l8, l9, l10⟩
theorem PS.begin {p0 : Int → Int} {c r : zM} (h : PS p0 c r) (h6 : c 4 41 6 = 0) : PQ p0 0 c (z_upd r 4 44 14 1) := by
  obtain ⟨l1, l2, l3, l4, l5, l6, l7, l8, l9, l10, l11⟩ := h
  unfold PQ
  rw [z_upd_same, z_upd_o (i' := 13) _ _ rfl, zu_k _ _ _ (show (49 : Nat) ≠ 44 by decide), zu_k _ _ _ (show (50 : Nat) ≠ 44 by decide), zu_k _ _ _ (show (45 : Nat) ≠ 44 by decide)]
  exact ⟨l1, l2, l3, l4, ⟨h6, rfl⟩, ⟨fun t t0 t1 => by omega, l7.2⟩, l8, l9, l10, l11⟩
theorem fz_pr {k : zM → zM} : ∀ (n : Nat) (y : Int) (r : zM), r 4 44 9 = 1 → y ≤ 4 → 4 - y < n → ∃ r', fl264_123_1 k n y r = k r' ∧ FZ r r'
  | 0, y, r, _, h0, h1 => by omega
  | n + 1, y, r, h, h0, h1 => by
    show ∃ r', fl264_123_1_b (fl264_123_1 k n) k y r = k r' ∧ FZ r r'
    unfold fl264_123_1_b
    by_cases c : 4 ≤ y
    · rw [if_pos c]
      exact ⟨r, rfl, FZ.rf r⟩
    · rw [if_neg c, zb_eq (fz_num h 0 100)]
      obtain ⟨r', e1, e2⟩ := fz_pr (k := k) n (y + 1) _ (fz_fu h (show (45 : Nat) ≠ 44 by decide) (28 + y) 0) (by omega) (by omega)
      exact ⟨r', e1, (FZ.upd _ _ _ (by decide)).trans e2⟩
theorem price_loop {p0 : Int → Int} {k : zM → zM} : ∀ (n n2 : Nat) (j : Int) (c r : zM), N0 c r → PQ p0 j c r → 0 ≤ j → j ≤ 4 → 4 - j < n → 4 - j < n2 →
    ∃ v c' r', fl110_25_1 (fun _ _ m => (0, m)) (fun m => zs (z_upd m 4 41 6 1) fun m => (1, m)) n j c = (v, c') ∧ fl264_123_1 k n2 j r = k r' ∧ OUT p0 v c' r' := by
  intro n
  induction n with
  | zero =>
    intro n2 j c r h hp j0 j1 h1
    omega
  | succ n ih =>
    intro n2 j c r h hp j0 j1 h1 h2
    obtain ⟨n2, rfl⟩ : ∃ j, n2 = j + 1 := ⟨n2 - 1, by omega⟩
    show ∃ v c' r', fl110_25_1_b (fl110_25_1 (fun _ _ m => (0, m)) (fun m => zs (z_upd m 4 41 6 1) fun m => (1, m)) n) (fun _ _ m => (0, m)) (fun m => zs (z_upd m 4 41 6 1) fun m => (1, m)) j c = (v, c') ∧ fl264_123_1_b (fl264_123_1 k n2) k j r = k r' ∧ _
    unfold fl110_25_1_b fl264_123_1_b
    by_cases c1 : 4 ≤ j
    · rw [if_pos c1, if_pos c1]
      obtain rfl : j = 4 := by omega
      exact ⟨1, _, r, rfl, rfl, .inl ⟨rfl, h.congr (fun i _ => z_upd_i _ _ _ _ (by omega)) (zu_k _ _ _ (by decide)) (fun _ _ _ => rfl) rfl, hp.done⟩⟩
    rw [if_neg c1, if_neg c1]
    obtain ⟨q1, q2, q3⟩ := num_eq h (most := 100) (by omega)
    obtain ⟨v, c2, e1⟩ : ∃ a b, f100_1 100 c = (a, b) := ⟨_, _, rfl⟩
    obtain ⟨u, r2, e2⟩ : ∃ a b, f270_1 0 100 r = (a, b) := ⟨_, _, rfl⟩
    rw [e1, e2] at q3
    rw [e1] at q1
    rw [e2] at q2
    dsimp only at q1 q2 q3
    rw [zb_eq e1, zb_eq e2]
    rcases q3 with ⟨a1, a2, a3, a4, a5⟩ | ⟨a1, a2, a3⟩
    · subst a3
      rw [if_neg (by omega)]
      exact ih n2 (j + 1) _ _ (a4.congr (fun i _ => by rw [zu_k _ _ _ (by decide)]) (zu_k _ _ _ (by decide)) (fun i _ _ => by rw [zu_k _ _ _ (by decide)]) (zu_k _ _ _ (by decide))) ((hp.pres q1 q2).next j0 (by omega)) (by omega) (by omega) (by omega) (by omega)
    · rw [if_pos a1]
      obtain ⟨r', g1, g2⟩ := fz_pr (k := k) n2 (j + 1) _ (fz_fu a3.2.1 (show (45 : Nat) ≠ 44 by decide) (28 + j) u) (by omega) (by omega)
      exact ⟨0, c2, r', rfl, g1, .inr ⟨rfl, (a3.fz (FZ.upd _ _ _ (by decide))).fz g2⟩⟩
end
section
/-! The calendar's text: a line. -/
noncomputable def lnC (c : zM) : Int × zM := zb (f94_1 c) fun v m => if v = 0 then (0, m) else f105_1 59 m
theorem OUT.end {p0 : Int → Int} {v : Int} {c r : zM} (h : OUT p0 v c r) : ∃ v' c', (if v = 0 then ((0 : Int), c) else f105_1 59 c) = (v', c') ∧ OUT p0 v' c' (f272_1 59 r) := by
  rcases h with ⟨a1, a2, a3⟩ | ⟨a1, a2⟩
  · obtain ⟨q1, q2, q3⟩ := sign_eq a2 (x := 59) (by omega)
    rw [if_neg (by omega)]
    rcases q3 with ⟨b1, b2, b3⟩ | ⟨b1, b2⟩
    · exact ⟨_, _, rfl, .inl ⟨b1, b2, a3.pres q1 q2⟩⟩
    · exact ⟨_, _, rfl, .inr ⟨b1, b2⟩⟩
  · rw [if_pos a1]
    exact ⟨_, _, rfl, .inr ⟨rfl, a2.fz (fz_must a2.2.1 59).fz⟩⟩
theorem f265_eq {c r : zM} (h : TP c r) :
    (f265_1 r = 1 ∧ f96_1 (f95_1 c) c = 1 ∧ f95_1 c = 5) ∨
    (f265_1 r = 2 ∧ f96_1 (f95_1 c) c = 0 ∧ f96_2 (f95_1 c) c = 1 ∧ f95_1 c = 6) ∨
    (f265_1 r = 3 ∧ f96_1 (f95_1 c) c = 0 ∧ f96_2 (f95_1 c) c = 0 ∧ f96_3 (f95_1 c) c = 1 ∧ f95_1 c = 7) ∨
    (f265_1 r = 4 ∧ f96_1 (f95_1 c) c = 0 ∧ f96_2 (f95_1 c) c = 0 ∧ f96_3 (f95_1 c) c = 0 ∧ f96_4 (f95_1 c) c = 1 ∧ f95_1 c = 5) ∨
    (f265_1 r = 0 ∧ f96_1 (f95_1 c) c = 0 ∧ f96_2 (f95_1 c) c = 0 ∧ f96_3 (f95_1 c) c = 0 ∧ f96_4 (f95_1 c) c = 0) := by
  obtain ⟨e1, w1⟩ := word1_eq h
  obtain ⟨e2, w2⟩ := word2_eq h
  obtain ⟨e3, w3⟩ := word3_eq h
  obtain ⟨e4, w4⟩ := word4_eq h
  unfold f265_1
  rw [zn_eq e1]
  rcases w1 with w1 | ⟨w1, n1⟩
  · rw [if_pos w1, zn_eq e2]
    rcases w2 with w2 | ⟨w2, n2⟩
    · rw [if_pos w2, zn_eq e3]
      rcases w3 with w3 | ⟨w3, n3⟩
      · rw [if_pos w3, zn_eq e4]
        simp only [zn]
        rcases w4 with w4 | ⟨w4, n4⟩
        · rw [if_pos w4]
          exact .inr (.inr (.inr (.inr ⟨rfl, w1, w2, w3, w4⟩)))
        · rw [if_neg (by omega)]
          exact .inr (.inr (.inr (.inl ⟨rfl, w1, w2, w3, w4, n4⟩)))
      · rw [if_neg (by omega)]
        exact .inr (.inr (.inl ⟨rfl, w1, w2, w3, n3⟩))
    · rw [if_neg (by omega)]
      exact .inr (.inl ⟨rfl, w1, w2, n2⟩)
  · rw [if_neg (by omega)]
    exact .inl ⟨rfl, w1, n1⟩
theorem line_eq {p0 : Int → Int} {c r : zM} (h : N0 c r) (hp : PS p0 c r) : ∃ v c', lnC c = (v, c') ∧ OUT p0 v c' (f264_1 r) := by
  obtain ⟨l1, l2, l3⟩ := let_eq h.1
  have e8 : c 4 41 7 = r 4 44 8 := h.1.2.2.2.2.2
  have e9 := h.2.2.2.1
  have h9 : ∀ x, z_upd r 4 44 8 x 4 44 9 = 0 := fun x => by rw [z_upd_o _ _ rfl]; exact e9
  unfold lnC f94_1 f264_1
  have x95 : ∀ {A : Int → Int × zM}, zn (f95_1 c) A = A (f95_1 c) := zn_eq rfl
  have x265 : ∀ {A : Int → zM}, zn (f265_1 r) A = A (f265_1 r) := zn_eq rfl
  have x267 : ∀ {A : Int → zM}, zn (f267_1 r) A = A (c 4 41 7 + f95_1 c) := zn_eq l1.symm
  have y1 : ∀ {A : Int → Int × zM}, zn (f96_1 (f95_1 c) c) A = A (f96_1 (f95_1 c) c) := zn_eq rfl
  have y2 : ∀ {A : Int → Int × zM}, zn (f96_2 (f95_1 c) c) A = A (f96_2 (f95_1 c) c) := zn_eq rfl
  have y3 : ∀ {A : Int → Int × zM}, zn (f96_3 (f95_1 c) c) A = A (f96_3 (f95_1 c) c) := zn_eq rfl
  have y4 : ∀ {A : Int → Int × zM}, zn (f96_4 (f95_1 c) c) A = A (f96_4 (f95_1 c) c) := zn_eq rfl
  rw [x95, x265, y1]
  rcases f265_eq h.1 with ⟨g0, g1, g2⟩ | ⟨g0, g1, g2, g3⟩ | ⟨g0, g1, g2, g3, g4⟩ | ⟨g0, g1, g2, g3, g4, g5⟩ | ⟨g0, g1, g2, g3, g4⟩
  · obtain ⟨v, c', r', t1, t2, t3⟩ := table_eq h hp (by omega)
    rw [g0, if_neg (by omega), if_neg (by decide), if_neg (by decide), if_neg (by decide), x267, g2]
    simp only [zs]
    rw [if_pos (h9 _), if_pos trivial, t2, t1]
    exact t3.end
  · obtain ⟨v, c', r', t1, t2, t3⟩ := season_eq h hp (by omega)
    rw [g0, if_pos g1, y2, if_neg (by omega), if_neg (by decide), if_neg (by decide), if_neg (by decide), x267, g3]
    simp only [zs]
    rw [if_pos (h9 _), if_neg (by decide), if_pos trivial, t2, t1]
    exact t3.end
  · have hn : c 3 11 7 = r 4 44 13 := hp.2.2.2.2.2.2.2.1
    have hb := hp.2.2.2.2.2.2.2.2.2.2.2.1
    obtain ⟨t1, t2⟩ := special_eq h hp (by omega)
    rw [g0, if_pos g1, y2, if_pos g2, y3, if_neg (by omega), if_neg (by decide), if_pos rfl]
    by_cases c1 : r 4 44 13 < 16
    · obtain ⟨v, c', r', t3, t4, t5⟩ := t1 c1
      rw [if_neg (by omega), x267, g4]
      simp only [zs, zn]
      have k13 : z_upd r 4 44 8 (c 4 41 7 + 7) 4 44 13 = r 4 44 13 := z_upd_o _ _ rfl
      rw [if_pos (h9 _), k13, w32_id (by omega), t4, t3]
      exact t5.end
    · obtain ⟨c', t3, t4⟩ := t2 c1
      rw [if_pos (by omega), t3]
      simp only [zs, zn]
      generalize f268_1 4 (r 4 44 8) r = r2 at t4 ⊢
      have z9 : z_upd r2 4 44 8 (f267_1 r2) 4 44 9 = 1 := by rw [z_upd_o _ _ rfl]; exact t4.2.1
      rw [if_neg (by rw [z9]; decide)]
      exact ⟨0, c', rfl, .inr ⟨rfl, t4.fz ⟨z_upd_o _ _ rfl, z_upd_o _ _ rfl, z_upd_o _ _ rfl, z_upd_o _ _ rfl⟩⟩⟩
  · rw [g0, if_pos g1, y2, if_pos g2, y3, if_pos g3, y4, if_neg (by omega), if_neg (by decide), if_neg (by decide), if_pos rfl]
    have h14 := hp.2.2.2.2.1
    unfold f110_1
    by_cases c1 : c 4 41 6 = 0
    · rw [if_pos c1, if_pos (by omega), x267, g5]
      simp only [zs]
      rw [if_pos (h9 _)]
      have hN0 := h.pass (x := c 4 41 7 + 5) (by have := h.1.2.2.2.1; omega) (by omega)
      have hN : N0 (z_upd c 4 41 7 (c 4 41 7 + 5)) (z_upd (z_upd r 4 44 8 (c 4 41 7 + 5)) 4 44 14 1) := hN0.congr (fun _ _ => rfl) rfl (fun i i0 i1 => z_upd_i _ _ _ _ (by omega)) (zu_k _ _ _ (by decide))
      have hP : PS p0 (z_upd c 4 41 7 (c 4 41 7 + 5)) (z_upd r 4 44 8 (c 4 41 7 + 5)) := hp.pres (EC.upd _ _ (by omega)) (ER.upd _ _ (by omega))
      have hQ := hP.begin (by rw [z_upd_o _ _ rfl]; exact c1)
      obtain ⟨v, c', r', t1, t2, t3⟩ := price_loop (p0 := p0) (k := fun m61 => f272_1 59 m61) (zfu 5) (zfu 5) 0 _ _ hN hQ (by omega) (by omega) (by rw [zfu_eq]; omega) (by rw [zfu_eq]; omega)
      simp only [zs] at t1
      rw [t1, t2]
      exact t3.end
    · rw [if_neg c1, if_neg (by omega)]
      obtain ⟨f1, f2, f3, f4⟩ := h.fail (k := 3) (by decide) e8
      obtain ⟨v3, c3, e3⟩ : ∃ a b, f102_1 3 (c 4 41 7) c = (a, b) := ⟨_, _, rfl⟩
      rw [e3] at f1 f2 f3
      dsimp only at f1 f2 f3
      subst f1
      rw [zb_eq e3]
      simp only [zs, zn]
      generalize f268_1 3 (r 4 44 8) r = r2 at f2 ⊢
      have z9 : z_upd r2 4 44 8 (f267_1 r2) 4 44 9 = 1 := by rw [z_upd_o _ _ rfl]; exact f2.2.1
      rw [if_neg (by rw [z9]; decide)]
      exact ⟨0, c3, rfl, .inr ⟨rfl, f2.fz ⟨z_upd_o _ _ rfl, z_upd_o _ _ rfl, z_upd_o _ _ rfl, z_upd_o _ _ rfl⟩⟩⟩
  · rw [g0, if_pos g1, y2, if_pos g2, y3, if_pos g3, y4, if_pos g4, if_pos rfl]
    obtain ⟨f1, f2, f3, f4⟩ := h.fail (k := 1) (by decide) e8
    obtain ⟨v3, c3, e3⟩ : ∃ a b, f102_1 1 (c 4 41 7) c = (a, b) := ⟨_, _, rfl⟩
    rw [e3] at f1 f2 f3
    dsimp only at f1 f2 f3
    subst f1
    rw [zb_eq e3]
    simp only [zs, zn]
    generalize f268_1 1 (r 4 44 8) r = r2 at f2 ⊢
    have z9 : z_upd r2 4 44 8 (f267_1 r2) 4 44 9 = 1 := by rw [z_upd_o _ _ rfl]; exact f2.2.1
    rw [if_neg (by rw [z9]; decide)]
    exact ⟨0, c3, rfl, .inr ⟨rfl, f2.fz ⟨z_upd_o _ _ rfl, z_upd_o _ _ rfl, z_upd_o _ _ rfl, z_upd_o _ _ rfl⟩⟩⟩
end
section
/-! The calendar's text: all its lines. -/
theorem lnC_eq (c : zM) (S : zM → Int × zM) (T : zM → Int × zM) : (zb (f94_1 c) fun v26 m24 => if v26 = 0 then S m24 else (zb (f105_1 59 m24) fun v30 m28 => if v30 = 0 then S m28 else T m28)) = zb (lnC c) fun v m => if v = 0 then S m else T m := by
  unfold lnC
  obtain ⟨v, m, e⟩ : ∃ a b, f94_1 c = (a, b) := ⟨_, _, rfl⟩
  rw [zb_eq e, zb_eq e]
  by_cases h : v = 0
  · rw [if_pos h, if_pos h]
    rfl
  · rw [if_neg h, if_neg h]
/-- parts of the state, group 4: what J says of rows -/
theorem ja46 {i : Int} (h : 0 ≤ i ∧ i ≤ 1618) : ja 46 i = 38 := ja46_0 h
theorem text_loop {p0 : Int → Int} {kC kR : Int → zM → Int × zM} : ∀ (n n2 : Nat) (y y2 : Int) (c r : zM) (B : Int), z_mok lL r → JB B r → B + 0 ≤ 1000000000 → N0 c r → PS p0 c r → 0 ≤ y2 → y2 ≤ c 4 41 7 → 301 - y2 < n → 301 - c 4 41 7 < n2 →
    ∃ y' y2' c' r', fl92_45_1 kC n y y2 c = kC y' c' ∧ fl260_55_1 kR n2 y r = kR y2' r' ∧ z_mok lL r' ∧ JB B r' ∧ (∀ i : Int, 0 ≤ i → i ≤ 1618 → r' 4 46 i = r 4 46 i) ∧ ((y' = y2' ∧ y ≤ y' ∧ N0 c' r' ∧ PS p0 c' r') ∨ FL c' r') := by
  intro n
  induction n with
  | zero =>
    intro n2 y y2 c r B hk hJ hB h hp h0 h1 h2
    have := h.1.2.1
    have := h.1.2.2.2.2.1
    omega
  | succ n ih =>
    intro n2 y y2 c r B hk hJ hB h hp h0 h1 h2 h3
    have hl := h.1.2.1
    have hl2 := h.1.2.2.2.2.1
    have hl3 := h.1.2.2.2.1
    obtain ⟨n2, rfl⟩ : ∃ j, n2 = j + 1 := ⟨n2 - 1, by omega⟩
    show ∃ y' y2' c' r', fl92_45_1_b (fl92_45_1 kC n) kC y y2 c = kC y' c' ∧ fl260_55_1_b (fl260_55_1 kR n2) kR y r = kR y2' r' ∧ _
    unfold fl92_45_1_b fl260_55_1_b
    rw [if_neg (by omega), ← h.1.1, ← h.1.2.2.2.2.2]
    by_cases c1 : c 4 41 3 ≤ c 4 41 7
    · rw [if_pos c1, if_pos c1]
      exact ⟨y, y, c, r, rfl, rfl, hk, hJ, fun _ _ _ => rfl, .inl ⟨rfl, Int.le_refl _, h, hp⟩⟩
    rw [if_neg c1, if_neg c1, if_pos h.2.1, if_pos h.2.2.2.1, lnC_eq]
    obtain ⟨v, c2, e1, e2⟩ := line_eq h hp
    rw [zb_eq e1]
    obtain ⟨g1, g2, g3, g4, g5⟩ := q264_1 hk hJ hB
    have s46 : ∀ i : Int, 0 ≤ i → i ≤ 1618 → f264_1 r 4 46 i = r 4 46 i := fun i i0 i1 => g2.eqf 38 (ja46 ⟨i0, i1⟩) (by simp [zQ])
    simp only [zs]
    generalize f264_1 r = r2 at e2 g1 g2 g3 g4 g5 s46 ⊢
    obtain ⟨k1, k2, k3, k4⟩ := q263_1 g1 g2.jb hB
    have t46 : ∀ i : Int, 0 ≤ i → i ≤ 1618 → f263_1 r2 4 46 i = r 4 46 i := fun i i0 i1 => (k2.eqf 38 (ja46 ⟨i0, i1⟩) (by simp [zQ])).trans (s46 i i0 i1)
    rcases e2 with ⟨a1, a2, a3⟩ | ⟨a1, a2⟩
    · rw [if_neg (by omega)]
      obtain ⟨b1, b2, b3, b4⟩ := bl_eq a2.1
      have e9 := a2.2.2.2.1
      have e8 := a2.1.2.2.2.2.2
      have e7 := h.1.2.2.2.2.2
      obtain ⟨y', y2', c', r', z1, z2, z3, z4, z5, z6⟩ := ih n2 (y + 1) (y2 + 1) _ _ B k1 k2.jb hB a2.bl (a3.pres b2.ec b3.er) (by omega) (by omega) (by omega) (by omega)
      exact ⟨y', y2', c', r', z1, z2, z3, z4, fun i i0 i1 => (z5 i i0 i1).trans (t46 i i0 i1), z6.imp (fun z => ⟨z.1, by have := z.2.1; omega, z.2.2⟩) id⟩
    · rw [if_pos a1]
      obtain ⟨n, rfl⟩ : ∃ j, n = j + 1 := ⟨n - 1, by omega⟩
      obtain ⟨n2, rfl⟩ : ∃ j, n2 = j + 1 := ⟨n2 - 1, by omega⟩
      have z9 : f263_1 r2 4 44 9 = 1 := (fz_bl _ r2 4 44 9 (by omega)).trans a2.2.1
      have zC : fl92_45_1 kC (n + 1) y (y2 + 1) c2 = kC y c2 := by
        show fl92_45_1_b (fl92_45_1 kC n) kC y (y2 + 1) c2 = _
        unfold fl92_45_1_b
        rw [if_neg (show ¬ c2 4 41 4 = 0 from a2.2.2.2.1)]
        split
        · rfl
        · split
          · rfl
          · rfl
      have zR : fl260_55_1 kR (n2 + 1) (y + 1) (f263_1 r2) = kR (y + 1) (f263_1 r2) := by
        show fl260_55_1_b (fl260_55_1 kR n2) kR (y + 1) (f263_1 r2) = _
        unfold fl260_55_1_b
        rw [if_neg (show ¬ f263_1 r2 4 44 9 = 0 by omega)]
        split
        · rfl
        · rfl
      rw [zC, zR]
      exact ⟨_, _, _, _, rfl, rfl, k1, k2.jb, t46, .inr (a2.fz (fz_bl _ r2).fz)⟩
/-! what is cleared first -/
theorem clr2 {kk : zM → zM} : ∀ (n : Nat) (y : Int) (m : zM), 0 ≤ y → y ≤ 8 → 8 - y < n → ∃ m', fl262_2_1 kk n y m = kk m' ∧ (∀ i, y ≤ i → i < 8 → m' 4 45 (287 + i) = 0 ∧ m' 4 49 i = 0) ∧ (∀ g k i, ¬ (g = 4 ∧ k = 45 ∧ 287 + y ≤ i ∧ i < 295) → ¬ (g = 4 ∧ k = 49 ∧ y ≤ i ∧ i < 8) → m' g k i = m g k i)
  | 0, y, m, h0, h1, h2 => by omega
  | n + 1, y, m, h0, h1, h2 => by
    show ∃ m', fl262_2_1_b (fl262_2_1 kk n) kk y m = kk m' ∧ _
    unfold fl262_2_1_b
    by_cases c : 8 ≤ y
    · rw [if_pos c]
      exact ⟨m, rfl, fun i i0 i1 => by omega, fun g k i _ _ => rfl⟩
    · rw [if_neg c]
      simp only [zs]
      obtain ⟨m', e1, e2, e3⟩ := clr2 (kk := kk) n (y + 1) (z_upd (z_upd m 4 45 (287 + y) 0) 4 49 y 0) (by omega) (by omega) (by omega)
      refine ⟨m', e1, fun i i0 i1 => ?_, fun g k i h3 h4 => ?_⟩
      · by_cases e : i = y
        · subst e
          rw [e3 _ _ _ (by omega) (by omega), e3 _ _ _ (by omega) (by omega), z_upd_same, zu_k _ _ _ (by decide), z_upd_same]
          exact ⟨rfl, rfl⟩
        · exact e2 i (by omega) i1
      · rw [e3 _ _ _ (by omega) (by omega)]
        unfold z_upd
        rw [if_neg (by omega), if_neg (by omega)]
theorem clr34 {kk : zM → zM} : ∀ (n : Nat) (y : Int) (m : zM), 0 ≤ y → y ≤ 4 → 4 - y < n → ∃ m', fl262_34_1 kk n y m = kk m' ∧ (∀ i, y ≤ i → i < 4 → m' 4 45 (391 + i) = (if i = 0 then 0 else -1) ∧ m' 4 50 i = 0) ∧ (∀ g k i, ¬ (g = 4 ∧ k = 45 ∧ 391 + y ≤ i ∧ i < 395) → ¬ (g = 4 ∧ k = 50 ∧ y ≤ i ∧ i < 4) → m' g k i = m g k i)
  | 0, y, m, h0, h1, h2 => by omega
  | n + 1, y, m, h0, h1, h2 => by
    show ∃ m', fl262_34_1_b (fl262_34_1 kk n) kk y m = kk m' ∧ _
    unfold fl262_34_1_b
    by_cases c : 4 ≤ y
    · rw [if_pos c]
      exact ⟨m, rfl, fun i i0 i1 => by omega, fun g k i _ _ => rfl⟩
    · rw [if_neg c]
      simp only [zs, zn]
      obtain ⟨m', e1, e2, e3⟩ := clr34 (kk := kk) n (y + 1) (z_upd (z_upd m 4 45 (391 + y) (if y = 0 then 0 else -1)) 4 50 y 0) (by omega) (by omega) (by omega)
      refine ⟨m', e1, fun i i0 i1 => ?_, fun g k i h3 h4 => ?_⟩
      · by_cases e : i = y
        · subst e
          rw [e3 _ _ _ (by omega) (by omega), e3 _ _ _ (by omega) (by omega), z_upd_same, zu_k _ _ _ (by decide), z_upd_same]
          exact ⟨rfl, rfl⟩
        · exact e2 i (by omega) i1
      · rw [e3 _ _ _ (by omega) (by omega)]
        generalize (if y = 0 then (0 : Int) else -1) = x
        unfold z_upd
        rw [if_neg (by omega), if_neg (by omega)]
theorem clr75 {kk : zM → zM} : ∀ (n : Nat) (y : Int) (m : zM), 0 ≤ y → y ≤ 28 → 28 - y < n → ∃ m', fl262_75_1 kk n y m = kk m' ∧ (∀ i, y ≤ i → i < 28 → m' 4 45 (395 + i) = 0) ∧ (∀ g k i, ¬ (g = 4 ∧ k = 45 ∧ 395 + y ≤ i ∧ i < 423) → m' g k i = m g k i)
  | 0, y, m, h0, h1, h2 => by omega
  | n + 1, y, m, h0, h1, h2 => by
    show ∃ m', fl262_75_1_b (fl262_75_1 kk n) kk y m = kk m' ∧ _
    unfold fl262_75_1_b
    by_cases c : 28 ≤ y
    · rw [if_pos c]
      exact ⟨m, rfl, fun i i0 i1 => by omega, fun g k i _ => rfl⟩
    · rw [if_neg c]
      simp only [zs]
      obtain ⟨m', e1, e2, e3⟩ := clr75 (kk := kk) n (y + 1) (z_upd m 4 45 (395 + y) 0) (by omega) (by omega) (by omega)
      refine ⟨m', e1, fun i i0 i1 => ?_, fun g k i h3 => ?_⟩
      · by_cases e : i = y
        · subst e
          rw [e3 _ _ _ (by omega), z_upd_same]
        · exact e2 i (by omega) i1
      · rw [e3 _ _ _ (by omega)]
        unfold z_upd
        rw [if_neg (by omega)]
theorem clr100 {kk : zM → zM} : ∀ (n : Nat) (y : Int) (m : zM), 0 ≤ y → y ≤ 365 → 365 - y < n → ∃ m', fl262_100_1 kk n y m = kk m' ∧ (∀ i, y ≤ i → i < 365 → m' 4 45 (423 + i) = -1) ∧ (∀ g k i, ¬ (g = 4 ∧ k = 45 ∧ 423 + y ≤ i ∧ i < 788) → m' g k i = m g k i)
  | 0, y, m, h0, h1, h2 => by omega
  | n + 1, y, m, h0, h1, h2 => by
    show ∃ m', fl262_100_1_b (fl262_100_1 kk n) kk y m = kk m' ∧ _
    unfold fl262_100_1_b
    by_cases c : 365 ≤ y
    · rw [if_pos c]
      exact ⟨m, rfl, fun i i0 i1 => by omega, fun g k i _ => rfl⟩
    · rw [if_neg c]
      simp only [zs]
      obtain ⟨m', e1, e2, e3⟩ := clr100 (kk := kk) n (y + 1) (z_upd m 4 45 (423 + y) (-1)) (by omega) (by omega) (by omega)
      refine ⟨m', e1, fun i i0 i1 => ?_, fun g k i h3 => ?_⟩
      · by_cases e : i = y
        · subst e
          rw [e3 _ _ _ (by omega), z_upd_same]
        · exact e2 i (by omega) i1
      · rw [e3 _ _ _ (by omega)]
        unfold z_upd
        rw [if_neg (by omega)]
/-- the reference, cleared -/
theorem clr_ref (m : zM) : ∃ m', f262_1 m = m' ∧ (∀ i, 0 ≤ i → i < 8 → m' 4 45 (287 + i) = 0 ∧ m' 4 49 i = 0) ∧ (∀ i, 0 ≤ i → i < 4 → m' 4 45 (391 + i) = (if i = 0 then 0 else -1) ∧ m' 4 50 i = 0) ∧ (∀ i, 0 ≤ i → i < 28 → m' 4 45 (395 + i) = 0) ∧ (∀ i, 0 ≤ i → i < 365 → m' 4 45 (423 + i) = -1) ∧
    m' 4 44 13 = 0 ∧ m' 4 44 14 = 0 ∧ (∀ i, (i < 287 ∨ 787 < i) → m' 4 45 i = m 4 45 i) ∧ (∀ k, k ≠ 45 → k ≠ 49 → k ≠ 50 → k ≠ 44 → m' 4 k = m 4 k) ∧ (∀ i, i ≠ 13 → i ≠ 14 → m' 4 44 i = m 4 44 i) := by
  unfold f262_1
  obtain ⟨m1, a1, a2, a3⟩ := clr2 (kk := fun m01 => fl262_34_1 (fun m05 => fl262_75_1 (fun m09 => fl262_100_1 (fun m13 => zs (z_upd m13 4 44 13 0) fun m17 => zs (z_upd m17 4 44 14 0) fun m19 => m19) (zfu 366) 0 m09) (zfu 29) 0 m05) (zfu 5) 0 m01) (zfu 9) 0 m (by omega) (by omega) (by rw [zfu_eq]; omega)
  obtain ⟨m2, b1, b2, b3⟩ := clr34 (kk := fun m05 => fl262_75_1 (fun m09 => fl262_100_1 (fun m13 => zs (z_upd m13 4 44 13 0) fun m17 => zs (z_upd m17 4 44 14 0) fun m19 => m19) (zfu 366) 0 m09) (zfu 29) 0 m05) (zfu 5) 0 m1 (by omega) (by omega) (by rw [zfu_eq]; omega)
  obtain ⟨m3, c1, c2, c3⟩ := clr75 (kk := fun m09 => fl262_100_1 (fun m13 => zs (z_upd m13 4 44 13 0) fun m17 => zs (z_upd m17 4 44 14 0) fun m19 => m19) (zfu 366) 0 m09) (zfu 29) 0 m2 (by omega) (by omega) (by rw [zfu_eq]; omega)
  obtain ⟨m4, d1, d2, d3⟩ := clr100 (kk := fun m13 => zs (z_upd m13 4 44 13 0) fun m17 => zs (z_upd m17 4 44 14 0) fun m19 => m19) (zfu 366) 0 m3 (by omega) (by omega) (by rw [zfu_eq]; omega)
  rw [a1]
  try dsimp only
  rw [b1]
  try dsimp only
  rw [c1]
  try dsimp only
  rw [d1]
  simp only [zs]
  have u : ∀ k i, k ≠ 44 → z_upd (z_upd m4 4 44 13 0) 4 44 14 0 4 k i = m4 4 k i := fun k i hk => by rw [zu_k _ _ _ hk, zu_k _ _ _ hk]
  refine ⟨_, rfl, fun i i0 i1 => ?_, fun i i0 i1 => ?_, fun i i0 i1 => ?_, fun i i0 i1 => ?_, ?_, ?_, fun i hi => ?_, fun k k1 k2 k3 k4 => ?_, fun i i0 i1 => ?_⟩
  · rw [u _ _ (by decide), u _ _ (by decide), d3 _ _ _ (by omega), d3 _ _ _ (by omega), c3 _ _ _ (by omega), c3 _ _ _ (by omega), b3 _ _ _ (by omega) (by omega), b3 _ _ _ (by omega) (by omega)]
    exact a2 i i0 i1
  · rw [u _ _ (by decide), u _ _ (by decide), d3 _ _ _ (by omega), d3 _ _ _ (by omega), c3 _ _ _ (by omega), c3 _ _ _ (by omega)]
    exact b2 i i0 i1
  · rw [u _ _ (by decide), d3 _ _ _ (by omega)]
    exact c2 i i0 i1
  · rw [u _ _ (by decide)]
    exact d2 i i0 i1
  · rw [z_upd_o _ _ rfl, z_upd_same]
  · rw [z_upd_same]
  · rw [u _ _ (by decide), d3 _ _ _ (by omega), c3 _ _ _ (by omega), b3 _ _ _ (by omega) (by omega), a3 _ _ _ (by omega) (by omega)]
  · funext i
    rw [u _ _ k4, d3 _ _ _ (by omega), c3 _ _ _ (by omega), b3 _ _ _ (by omega) (by omega), a3 _ _ _ (by omega) (by omega)]
  · rw [z_upd_i _ _ _ _ i1, z_upd_i _ _ _ _ i0, d3 _ _ _ (by omega), c3 _ _ _ (by omega), b3 _ _ _ (by omega) (by omega), a3 _ _ _ (by omega) (by omega)]
theorem fill1 {g : Nat} {x N : Int} : ∀ (n : Nat) (y : Int) (m : zM), y ≤ N → N - y < n → ∃ m', fl5_5_1 (fun m => m) g x N n y m = m' ∧ (∀ i, y ≤ i → i < N → m' g 12 i = x) ∧ (∀ g' k i, ¬ (g' = g ∧ k = 12 ∧ y ≤ i ∧ i < N) → m' g' k i = m g' k i)
  | 0, y, m, h1, h2 => by omega
  | n + 1, y, m, h1, h2 => by
    show ∃ m', fl5_5_1_b (fl5_5_1 (fun m => m) g x N n) (fun m => m) g x N y m = m' ∧ _
    unfold fl5_5_1_b
    by_cases c : N ≤ y
    · rw [if_pos c]
      exact ⟨m, rfl, fun i i0 i1 => by omega, fun g k i _ => rfl⟩
    · rw [if_neg c]
      simp only [zs]
      obtain ⟨m', e1, e2, e3⟩ := fill1 (g := g) (x := x) (N := N) n (y + 1) (z_upd m g 12 y x) (by omega) (by omega)
      refine ⟨m', e1, fun i i0 i1 => ?_, fun g' k i h3 => ?_⟩
      · by_cases e : i = y
        · subst e
          rw [e3 _ _ _ (by omega), z_upd_same]
        · exact e2 i (by omega) i1
      · rw [e3 _ _ _ (by omega)]
        unfold z_upd
        rw [if_neg (by omega)]
theorem fill2 {g : Nat} {x N : Int} : ∀ (n : Nat) (y : Int) (m : zM), y ≤ N → N - y < n → ∃ m', fl5_5_2 (fun m => m) g x N n y m = m' ∧ (∀ i, y ≤ i → i < N → m' g 15 i = x) ∧ (∀ g' k i, ¬ (g' = g ∧ k = 15 ∧ y ≤ i ∧ i < N) → m' g' k i = m g' k i)
  | 0, y, m, h1, h2 => by omega
  | n + 1, y, m, h1, h2 => by
    show ∃ m', fl5_5_2_b (fl5_5_2 (fun m => m) g x N n) (fun m => m) g x N y m = m' ∧ _
    unfold fl5_5_2_b
    by_cases c : N ≤ y
    · rw [if_pos c]
      exact ⟨m, rfl, fun i i0 i1 => by omega, fun g k i _ => rfl⟩
    · rw [if_neg c]
      simp only [zs]
      obtain ⟨m', e1, e2, e3⟩ := fill2 (g := g) (x := x) (N := N) n (y + 1) (z_upd m g 15 y x) (by omega) (by omega)
      refine ⟨m', e1, fun i i0 i1 => ?_, fun g' k i h3 => ?_⟩
      · by_cases e : i = y
        · subst e
          rw [e3 _ _ _ (by omega), z_upd_same]
        · exact e2 i (by omega) i1
      · rw [e3 _ _ _ (by omega)]
        unfold z_upd
        rw [if_neg (by omega)]
theorem fill3 {g : Nat} {x N : Int} : ∀ (n : Nat) (y : Int) (m : zM), y ≤ N → N - y < n → ∃ m', fl5_5_3 (fun m => m) g x N n y m = m' ∧ (∀ i, y ≤ i → i < N → m' g 16 i = x) ∧ (∀ g' k i, ¬ (g' = g ∧ k = 16 ∧ y ≤ i ∧ i < N) → m' g' k i = m g' k i)
  | 0, y, m, h1, h2 => by omega
  | n + 1, y, m, h1, h2 => by
    show ∃ m', fl5_5_3_b (fl5_5_3 (fun m => m) g x N n) (fun m => m) g x N y m = m' ∧ _
    unfold fl5_5_3_b
    by_cases c : N ≤ y
    · rw [if_pos c]
      exact ⟨m, rfl, fun i i0 i1 => by omega, fun g k i _ => rfl⟩
    · rw [if_neg c]
      simp only [zs]
      obtain ⟨m', e1, e2, e3⟩ := fill3 (g := g) (x := x) (N := N) n (y + 1) (z_upd m g 16 y x) (by omega) (by omega)
      refine ⟨m', e1, fun i i0 i1 => ?_, fun g' k i h3 => ?_⟩
      · by_cases e : i = y
        · subst e
          rw [e3 _ _ _ (by omega), z_upd_same]
        · exact e2 i (by omega) i1
      · rw [e3 _ _ _ (by omega)]
        unfold z_upd
        rw [if_neg (by omega)]
/-- the class' draft, cleared -/
theorem clr_cls (m : zM) : ∃ m', f4_1 3 m = m' ∧ (∀ i, 0 ≤ i → i < 8 → m' 3 12 i = 0) ∧ (∀ i, 0 ≤ i → i < 4 → m' 3 15 i = (if i = 0 then 0 else -1)) ∧ (∀ i, 0 ≤ i → i < 28 → m' 3 16 i = 0) ∧ m' 3 11 7 = 0 ∧ (∀ g, g ≠ 3 → m' g = m g) ∧ (∀ k, k ≠ 12 → k ≠ 15 → k ≠ 16 → k ≠ 11 → m' 3 k = m 3 k) := by
  unfold f4_1
  obtain ⟨m1, a1, a2, a3⟩ := fill1 (g := 3) (x := 0) (N := 8) (zfu 9) 0 m (by omega) (by rw [zfu_eq]; omega)
  obtain ⟨m2, b1, b2, b3⟩ := fill2 (g := 3) (x := -1) (N := 4) (zfu 5) 0 m1 (by omega) (by rw [zfu_eq]; omega)
  obtain ⟨m4, c1, c2, c3⟩ := fill3 (g := 3) (x := 0) (N := 28) (zfu 29) 0 (z_upd m2 3 15 0 0) (by omega) (by rw [zfu_eq]; omega)
  have e1 : f5_1 3 0 m = m1 := a1
  have e2 : f5_2 3 (-1) m1 = m2 := b1
  have e3 : f5_3 3 0 (z_upd m2 3 15 0 0) = m4 := c1
  simp only [zs]
  rw [e1, e2, e3]
  refine ⟨_, rfl, fun i i0 i1 => ?_, fun i i0 i1 => ?_, fun i i0 i1 => ?_, ?_, fun g hg => ?_, fun k k1 k2 k3 k4 => ?_⟩
  · rw [zu_k _ _ _ (by decide), c3 _ _ _ (by omega), zu_k _ _ _ (by decide), b3 _ _ _ (by omega)]
    exact a2 i i0 i1
  · rw [zu_k _ _ _ (by decide), c3 _ _ _ (by omega)]
    by_cases e : i = 0
    · subst e
      rw [z_upd_same, if_pos rfl]
    · rw [z_upd_i _ _ _ _ e, if_neg e]
      exact b2 i i0 i1
  · rw [zu_k _ _ _ (by decide)]
    exact c2 i i0 i1
  · rw [z_upd_same]
  · rw [zu_g _ _ _ hg]
    funext k i
    rw [c3 _ _ _ (by omega), zu_g _ _ _ hg, b3 _ _ _ (by omega), a3 _ _ _ (by omega)]
  · rw [zu_k _ _ _ k4]
    funext i
    rw [c3 _ _ _ (by omega), zu_k _ _ _ k2, b3 _ _ _ (by omega), a3 _ _ _ (by omega)]
end
section
/-! The calendar's text: the whole of it. -/
theorem cpy_k (m : zM) {g1 k1 g0 k0 g k : Nat} {sp dp n : Int} (h : g ≠ g1 ∨ k ≠ k1) : z_cpy m g1 k1 g0 k0 sp dp n g k = m g k := by
  funext i
  unfold z_cpy
  rw [if_neg (by omega)]
theorem cpy_in (m : zM) {g1 k1 g0 k0 : Nat} {sp dp n i : Int} (h : dp ≤ i ∧ i < dp + n) : z_cpy m g1 k1 g0 k0 sp dp n g1 k1 i = m g0 k0 (i - dp + sp) := by
  unfold z_cpy
  rw [if_pos ⟨rfl, rfl, h.1, h.2⟩]
theorem cpy_out (m : zM) {g1 k1 g0 k0 : Nat} {sp dp n i : Int} (h : ¬ (dp ≤ i ∧ i < dp + n)) : z_cpy m g1 k1 g0 k0 sp dp n g1 k1 i = m g1 k1 i := by
  unfold z_cpy
  rw [if_neg (fun e => h ⟨e.2.2.1, e.2.2.2⟩)]
theorem copy_row {m m' : zM} {g1 k1 g0 : Nat} {n : Int} (h : m' = z_cpy m g1 k1 g0 k1 0 0 n) : (∀ g k, (g ≠ g1 ∨ k ≠ k1) → m' g k = m g k) ∧ ∀ i, 0 ≤ i → i < n → m' g1 k1 i = m g0 k1 i := by
  subst h
  refine ⟨fun g k h => cpy_k m h, fun i i0 i1 => ?_⟩
  rw [cpy_in m (by omega), show i - 0 + 0 = i by omega]
/-- a calendar is copied -/
theorem copy_eq (m : zM) {g0 g1 : Nat} (hg : g0 ≠ g1) : ∃ m', f111_1 g0 g1 m = m' ∧ (∀ i, 0 ≤ i → i < 8 → m' g0 12 i = m g1 12 i) ∧ (∀ i, 0 ≤ i → i < 48 → m' g0 13 i = m g1 13 i) ∧ (∀ i, 0 ≤ i → i < 48 → m' g0 14 i = m g1 14 i) ∧ (∀ i, 0 ≤ i → i < 4 → m' g0 15 i = m g1 15 i) ∧
    (∀ i, 0 ≤ i → i < 28 → m' g0 16 i = m g1 16 i) ∧ (∀ i, 0 ≤ i → i < 16 → m' g0 17 i = m g1 17 i) ∧ (∀ i, 0 ≤ i → i < 16 → m' g0 18 i = m g1 18 i) ∧ m' g0 11 7 = m g1 11 7 ∧ (∀ g k, (g ≠ g0 ∨ k < 11 ∨ 18 < k) → m' g k = m g k) := by
  unfold f111_1
  simp only [zs]
  obtain ⟨m1, e1⟩ : ∃ x, x = z_cpy m g0 12 g1 12 0 0 8 := ⟨_, rfl⟩
  rw [← e1]
  obtain ⟨m2, e2⟩ : ∃ x, x = z_cpy m1 g0 13 g1 13 0 0 48 := ⟨_, rfl⟩
  rw [← e2]
  obtain ⟨m3, e3⟩ : ∃ x, x = z_cpy m2 g0 14 g1 14 0 0 48 := ⟨_, rfl⟩
  rw [← e3]
  obtain ⟨m4, e4⟩ : ∃ x, x = z_cpy m3 g0 15 g1 15 0 0 4 := ⟨_, rfl⟩
  rw [← e4]
  obtain ⟨m5, e5⟩ : ∃ x, x = z_cpy m4 g0 16 g1 16 0 0 28 := ⟨_, rfl⟩
  rw [← e5]
  obtain ⟨m6, e6⟩ : ∃ x, x = z_cpy m5 g0 17 g1 17 0 0 16 := ⟨_, rfl⟩
  rw [← e6]
  obtain ⟨m7, e7⟩ : ∃ x, x = z_cpy m6 g0 18 g1 18 0 0 16 := ⟨_, rfl⟩
  rw [← e7]
  obtain ⟨a1, b1⟩ := copy_row e1
  obtain ⟨a2, b2⟩ := copy_row e2
  obtain ⟨a3, b3⟩ := copy_row e3
  obtain ⟨a4, b4⟩ := copy_row e4
  obtain ⟨a5, b5⟩ := copy_row e5
  obtain ⟨a6, b6⟩ := copy_row e6
  obtain ⟨a7, b7⟩ := copy_row e7
  have s : ∀ k, m7 g1 k = m g1 k := fun k => by
    rw [a7 _ _ (.inl hg.symm), a6 _ _ (.inl hg.symm), a5 _ _ (.inl hg.symm), a4 _ _ (.inl hg.symm), a3 _ _ (.inl hg.symm), a2 _ _ (.inl hg.symm), a1 _ _ (.inl hg.symm)]
  refine ⟨_, rfl, fun i i0 i1 => ?_, fun i i0 i1 => ?_, fun i i0 i1 => ?_, fun i i0 i1 => ?_, fun i i0 i1 => ?_, fun i i0 i1 => ?_, fun i i0 i1 => ?_, ?_, fun g k h => ?_⟩
  · rw [zu_k _ _ _ (by decide), a7 _ _ (by omega), a6 _ _ (by omega), a5 _ _ (by omega), a4 _ _ (by omega), a3 _ _ (by omega), a2 _ _ (by omega), b1 i i0 i1]
  · rw [zu_k _ _ _ (by decide), a7 _ _ (by omega), a6 _ _ (by omega), a5 _ _ (by omega), a4 _ _ (by omega), a3 _ _ (by omega), b2 i i0 i1, a1 _ _ (by omega)]
  · rw [zu_k _ _ _ (by decide), a7 _ _ (by omega), a6 _ _ (by omega), a5 _ _ (by omega), a4 _ _ (by omega), b3 i i0 i1, a2 _ _ (by omega), a1 _ _ (by omega)]
  · rw [zu_k _ _ _ (by decide), a7 _ _ (by omega), a6 _ _ (by omega), a5 _ _ (by omega), b4 i i0 i1, a3 _ _ (by omega), a2 _ _ (by omega), a1 _ _ (by omega)]
  · rw [zu_k _ _ _ (by decide), a7 _ _ (by omega), a6 _ _ (by omega), b5 i i0 i1, a4 _ _ (by omega), a3 _ _ (by omega), a2 _ _ (by omega), a1 _ _ (by omega)]
  · rw [zu_k _ _ _ (by decide), a7 _ _ (by omega), b6 i i0 i1, a5 _ _ (by omega), a4 _ _ (by omega), a3 _ _ (by omega), a2 _ _ (by omega), a1 _ _ (by omega)]
  · rw [zu_k _ _ _ (by decide), b7 i i0 i1, a6 _ _ (by omega), a5 _ _ (by omega), a4 _ _ (by omega), a3 _ _ (by omega), a2 _ _ (by omega), a1 _ _ (by omega)]
  · rw [z_upd_same, s]
  · rcases h with h | h
    · rw [zu_g _ _ _ h, a7 _ _ (.inl h), a6 _ _ (.inl h), a5 _ _ (.inl h), a4 _ _ (.inl h), a3 _ _ (.inl h), a2 _ _ (.inl h), a1 _ _ (.inl h)]
    · rw [zu_k _ _ _ (by omega), a7 _ _ (by omega), a6 _ _ (by omega), a5 _ _ (by omega), a4 _ _ (by omega), a3 _ _ (by omega), a2 _ _ (by omega), a1 _ _ (by omega)]
/-- the same calendar within the rows' lengths -/
theorem CR.cg {c c' : Nat → Int → Int} {w : Int → Int} (h : CR c w) (hb : CB c) (h12 : ∀ i, 0 ≤ i → i < 8 → c' 12 i = c 12 i) (h13 : ∀ i, 0 ≤ i → i < 48 → c' 13 i = c 13 i) (h14 : ∀ i, 0 ≤ i → i < 48 → c' 14 i = c 14 i) (h15 : ∀ i, 0 ≤ i → i < 4 → c' 15 i = c 15 i)
    (h16 : ∀ i, 0 ≤ i → i < 28 → c' 16 i = c 16 i) (h17 : ∀ i, 0 ≤ i → i < 16 → c' 17 i = c 17 i) (h18 : ∀ i, 0 ≤ i → i < 16 → c' 18 i = c 18 i) (h11 : c' 11 7 = c 11 7) : CR c' w := by
  obtain ⟨⟨a1, a2, a3⟩, ⟨b1, b2⟩, c1, c2, c3, c4⟩ := h
  have n6 := hb.n6
  have n16 := hb.2.1
  refine ⟨⟨fun t t0 t1 => ?_, fun t k t0 t1 k0 k1 => ?_, fun t k t0 t1 k0 k1 => ?_⟩, ⟨fun s s0 s1 => ?_, fun d d0 d1 => ?_⟩, fun k k0 k1 => ?_, fun j k j0 j1 k1 => ?_, fun d d0 d1 d2 => ?_, ?_⟩
  · rw [h12 t t0 t1]
    exact a1 t t0 t1
  · rw [h12 t t0 t1] at k1
    have := n6 t t0 t1
    rw [h13 _ (by omega) (by omega), h14 _ (by omega) (by omega)]
    exact a2 t k t0 t1 k0 k1
  · rw [h12 t t0 t1] at k1
    have := n6 t t0 t1
    rw [h13 _ (by omega) (by omega), h13 _ (by omega) (by omega)]
    exact a3 t k t0 t1 k0 k1
  · rw [h15 s s0 s1]
    exact b1 s s0 s1
  · rw [h16 d d0 d1]
    exact b2 d d0 d1
  · rw [h11] at k1
    rw [h17 k k0 (by omega), h18 k k0 (by omega)]
    exact c1 k k0 k1
  · rw [h11] at k1
    rw [h17 j j0 (by omega), h17 k (by omega) (by omega)]
    exact c2 j k j0 j1 k1
  · obtain ⟨k, k0, k1, k2⟩ := c3 d d0 d1 d2
    exact ⟨k, k0, by rw [h11]; exact k1, by rw [h17 k k0 (by omega)]; exact k2⟩
  · rw [h11]
    exact c4
theorem mok_aside {m : zM} (h : z_mok lL m) : z_mok lL (z_cpy m 4 46 4 45 0 0 1619) := by
  refine z_mok_row h (g := 4) (k := 46) (t := 1) (N := 1619) rfl (fun hv i i0 i1 => ?_) (fun g' k' he => cpy_k m (by
    by_cases e : g' = 4
    · exact .inr (fun e2 => he (by rw [e, e2]))
    · exact .inl e))
  rw [cpy_in m (by omega), show i - 0 + 0 = i by omega]
  exact z_rgi h (show z_val lL 4 45 by unfold z_val; decide +kernel) rfl i0 i1
noncomputable def ldC (c : zM) : Int × zM := zb (f92_1 c) fun v07 m05 => zs (if v07 = (-1) then (m05) else (zs (f111_1 0 3 m05) fun m09 => if (m09 4 41 6) = 0 then (m09) else (zs (z_cpy m09 0 10 4 43 0 6 4) fun m14 => m14))) fun m17 => (v07, m17)
noncomputable def ldR (r : zM) : Int × zM := zs (z_cpy r 4 46 4 45 0 0 1619) fun m09 => zs (z_upd m09 4 44 9 0) fun m12 => zs (z_upd m12 4 44 8 0) fun m14 => zs (f262_1 m14) fun m16 => zs (f263_1 m16) fun m19 => fl260_55_1 (fun y22 m23 => zs (z_upd m23 4 44 5 0) fun m29 => if (m29 4 44 9) = 0 then ((y22, m29)) else (zs (z_cpy m29 4 45 4 46 0 0 1619) fun m33 => ((-1), m33))) (zfu 605) 0 m19
/-- nothing is told yet -/
theorem PS.first {c r c1 : zM} (h12 : ∀ i, 0 ≤ i → i < 8 → c1 3 12 i = 0) (h15 : ∀ i, 0 ≤ i → i < 4 → c1 3 15 i = (if i = 0 then 0 else -1)) (h16 : ∀ i, 0 ≤ i → i < 28 → c1 3 16 i = 0) (h11 : c1 3 11 7 = 0) (h9 : c1 4 41 9 = 0) (h10 : c1 4 41 10 = 0) (h6 : c1 4 41 6 = 0)
    (hb : CB (c 3)) (hk : ∀ k, k ≠ 12 → k ≠ 15 → k ≠ 16 → k ≠ 11 → c1 3 k = c 3 k) {r1 : zM} (e287 : ∀ i, 0 ≤ i → i < 8 → r1 4 45 (287 + i) = 0 ∧ r1 4 49 i = 0) (e391 : ∀ i, 0 ≤ i → i < 4 → r1 4 45 (391 + i) = (if i = 0 then 0 else -1) ∧ r1 4 50 i = 0) (e395 : ∀ i, 0 ≤ i → i < 28 → r1 4 45 (395 + i) = 0) (e423 : ∀ i, 0 ≤ i → i < 365 → r1 4 45 (423 + i) = -1)
    (e13 : r1 4 44 13 = 0) (e14 : r1 4 44 14 = 0) (e45 : ∀ i, (i < 287 ∨ 787 < i) → r1 4 45 i = r 4 45 i) : PS (r 4 45) c1 r1 := by
  have t0 : ∀ v : Int, 0 ≤ v → v < 8 → tbit 0 v = 0 := by
    intro v v0 v1
    obtain ⟨n, rfl⟩ : ∃ n : Nat, v = n := ⟨v.toNat, by omega⟩
    have : ∀ n : Nat, n < 8 → tbit 0 n = 0 := by decide +kernel
    exact this n (by omega)
  have sp0 : ∀ n : Nat, n ≤ 365 → spN (r1 4 45) n = 0 := by
    intro n
    induction n with
    | zero => exact fun _ => rfl
    | succ n ih =>
      intro hn
      unfold spN
      rw [ih (by omega), e423 n (by omega) (by omega)]
      rfl
  obtain ⟨b1, b2, b3, b4, b5, b6, b7, b8⟩ := hb
  unfold PS
  rw [h9, h10, h6, h11, e13, e14]
  refine ⟨by omega, by omega, fun v v0 v1 => ?_, fun v v0 v1 => ?_, ⟨rfl, .inl rfl⟩, fun e => absurd e (by decide), ⟨fun _ t t0 t1 => e45 _ (by omega), fun i i0 i1 => e45 _ (by omega)⟩, rfl, fun v v0 v1 _ => h12 v v0 v1, ⟨⟨fun t t0 t1 => ?_, fun t k t0 t1 k0 k1 => ?_, fun t k t0 t1 k0 k1 => ?_⟩, ⟨fun s s0 s1 => ?_, fun d d0 d1 => ?_⟩, fun k k0 k1 => ?_, fun j k j0 j1 k1 => ?_, fun d d0 d1 d2 => ?_, ?_⟩, ?_⟩
  · rw [t0 v v0 v1, (e287 v v0 v1).2]
  · rw [t0 v v0 (by omega), (e391 v v0 v1).2]
  · rw [h12 t t0 t1, (e287 t t0 t1).1]
  · rw [h12 t t0 t1] at k1
    omega
  · rw [h12 t t0 t1] at k1
    omega
  · rw [h15 s s0 s1, (e391 s s0 s1).1]
  · rw [h16 d d0 d1, e395 d d0 d1]
  · rw [h11] at k1
    omega
  · rw [h11] at k1
    omega
  · exact absurd (e423 d d0 d1) d2
  · rw [h11]
    exact sp0 365 (by omega)
  · unfold CB
    rw [h11, hk 13 (by decide) (by decide) (by decide) (by decide), hk 14 (by decide) (by decide) (by decide) (by decide), hk 17 (by decide) (by decide) (by decide) (by decide), hk 18 (by decide) (by decide) (by decide) (by decide)]
    refine ⟨fun t t0 t1 => ?_, by omega, b3, b4, b5, b6, fun s s0 s1 => ?_, fun d d0 d1 => ?_⟩
    · rw [h12 t t0 t1]
      omega
    · rw [h15 s s0 s1]
      split <;> omega
    · rw [h16 d d0 d1]
      omega
theorem load_open {c r : zM} {B : Int} (hkc : z_mok lL c) (hJc : JB B c) (hk : z_mok lL r) (hJ : JB B r) (hB : B + 0 ≤ 1000000000) (ht : c 4 41 3 = r 4 44 5) (hy : ∀ i : Int, 0 ≤ i → i < c 4 41 3 → tE (c 4 42 i) (r 4 48 i)) (h6 : r 4 44 6 = 0) (h7 : r 4 44 7 = -1) :
    ∃ v c' r', ldC c = (v, c') ∧ ldR r = (v, r') ∧ c' 4 41 3 = 0 ∧ r' 4 44 5 = 0 ∧ c' 4 41 4 = r' 4 44 6 ∧ c' 4 41 5 = r' 4 44 7 ∧
      ((v = -1 ∧ (∀ k i, c' 0 k i = c 0 k i) ∧ (∀ i, 0 ≤ i → i ≤ 1618 → r' 4 45 i = r 4 45 i)) ∨
       (0 ≤ v ∧ CR (c' 0) (r' 4 45) ∧ ((∀ t, 0 ≤ t → t < 4 → c 0 10 (6 + t) = r 4 45 (28 + t)) → ∀ t, 0 ≤ t → t < 4 → c' 0 10 (6 + t) = r' 4 45 (28 + t)) ∧ (∀ i : Int, (i < 28 ∨ 31 < i) → (i < 287 ∨ 787 < i) → r' 4 45 i = r 4 45 i) ∧
         (∀ k i, (k < 10 ∨ 18 < k) → c' 0 k i = c 0 k i) ∧ (∀ i, (i < 6 ∨ 9 < i) → c' 0 10 i = c 0 10 i))) := by
  have hl : 0 ≤ c 4 41 3 ∧ c 4 41 3 ≤ 300 := r41_3 hJc.o 4
  obtain ⟨c1, a0, a12, a15, a16, a11, ag, ak⟩ := clr_cls c
  have hq := (q92_1 hkc hJc hB).2.1
  have g0 : ∀ k i, (f92_1 c).2 0 k i = c 0 k i := fun k i => hq.eqg (by simp [zQ])
  obtain ⟨cs, ecs⟩ : ∃ x, x = z_upd (z_upd (z_upd (z_upd (z_upd (z_upd c1 4 41 4 0) 4 41 5 (-1)) 4 41 6 0) 4 41 7 0) 4 41 9 0) 4 41 10 0 := ⟨_, rfl⟩
  have cs3 : cs 3 = c1 3 := by rw [ecs, zu_g _ _ _ (by decide), zu_g _ _ _ (by decide), zu_g _ _ _ (by decide), zu_g _ _ _ (by decide), zu_g _ _ _ (by decide), zu_g _ _ _ (by decide)]
  have cs42 : cs 4 42 = c 4 42 := by rw [ecs, zu_k _ _ _ (by decide), zu_k _ _ _ (by decide), zu_k _ _ _ (by decide), zu_k _ _ _ (by decide), zu_k _ _ _ (by decide), zu_k _ _ _ (by decide), ag 4 (by decide)]
  have s3 : cs 4 41 3 = c 4 41 3 := by rw [ecs, z_upd_o _ _ rfl, z_upd_o _ _ rfl, z_upd_o _ _ rfl, z_upd_o _ _ rfl, z_upd_o _ _ rfl, z_upd_o _ _ rfl, ag 4 (by decide)]
  have s4 : cs 4 41 4 = 0 := by rw [ecs, z_upd_o _ _ rfl, z_upd_o _ _ rfl, z_upd_o _ _ rfl, z_upd_o _ _ rfl, z_upd_o _ _ rfl, z_upd_same]
  have s5 : cs 4 41 5 = -1 := by rw [ecs, z_upd_o _ _ rfl, z_upd_o _ _ rfl, z_upd_o _ _ rfl, z_upd_o _ _ rfl, z_upd_same]
  have s6 : cs 4 41 6 = 0 := by rw [ecs, z_upd_o _ _ rfl, z_upd_o _ _ rfl, z_upd_o _ _ rfl, z_upd_same]
  have s7 : cs 4 41 7 = 0 := by rw [ecs, z_upd_o _ _ rfl, z_upd_o _ _ rfl, z_upd_same]
  have s9 : cs 4 41 9 = 0 := by rw [ecs, z_upd_o _ _ rfl, z_upd_same]
  have s10 : cs 4 41 10 = 0 := by rw [ecs, z_upd_same]
  -- the reference
  obtain ⟨r1, er1⟩ : ∃ x, x = z_cpy r 4 46 4 45 0 0 1619 := ⟨_, rfl⟩
  obtain ⟨r2, er2⟩ : ∃ x, x = z_upd r1 4 44 9 0 := ⟨_, rfl⟩
  obtain ⟨r3, er3⟩ : ∃ x, x = z_upd r2 4 44 8 0 := ⟨_, rfl⟩
  have k1 : z_mok lL r1 := by rw [er1]; exact mok_aside hk
  have k2 : z_mok lL r2 := by rw [er2]; exact mok_put k1 (fj := 9) rfl rfl rfl (by show (-2147483648 : Int) ≤ 0 ∧ (0 : Int) ≤ 2147483647; omega) (fun _ => .inl rfl)
  have k3 : z_mok lL r3 := by rw [er3]; exact mok_put k2 (fj := 8) rfl rfl rfl (by show (-2147483648 : Int) ≤ 0 ∧ (0 : Int) ≤ 2147483647; omega) (fun _ => .inl rfl)
  have j0 : J (zQ [38, 39] [4]) r B r := hJ.j
  have j1 : J (zQ [38, 39] [4]) r B r1 := by
    rw [er1]
    exact j0.cp rfl (jq_of rfl) (by decide) (fun k _ => ⟨fun _ h => h, fun _ h => h⟩) (fun i hi h => h (by rw [ja46 (by omega)]; simp)) (fun h => h (by simp))
  have j2 : J (zQ [38, 39] [4]) r B r2 := w44_9 j1 er2 (by omega) (zQ_n rfl) (zQ_g (by simp))
  have j3 : J (zQ [38, 39] [4]) r B r3 := w44_8 j2 er3 (by omega) (zQ_n rfl) (zQ_g (by simp))
  have r3o : ∀ k, k ≠ 44 → k ≠ 46 → r3 4 k = r 4 k := fun k h1 h2 => by rw [er3, zu_k _ _ _ h1, er2, zu_k _ _ _ h1, er1, cpy_k _ (.inr h2)]
  have r3v : ∀ i, i ≠ 8 → i ≠ 9 → r3 4 44 i = r 4 44 i := fun i h1 h2 => by rw [er3, z_upd_i _ _ _ _ h1, er2, z_upd_i _ _ _ _ h2, er1, cpy_k _ (.inr (by decide))]
  have r346 : ∀ i, 0 ≤ i → i ≤ 1618 → r3 4 46 i = r 4 45 i := fun i i0 i1 => by rw [er3, zu_k _ _ _ (by decide), er2, zu_k _ _ _ (by decide), er1, cpy_in _ (by omega), show i - 0 + 0 = i by omega]
  have r38 : r3 4 44 8 = 0 := by rw [er3, z_upd_same]
  have r39 : r3 4 44 9 = 0 := by rw [er3, z_upd_o _ _ rfl, er2, z_upd_same]
  obtain ⟨k4, j4⟩ := q262_1 k3 j3.jb hB
  obtain ⟨r4, b0, b287, b391, b395, b423, b13, b14, b45, bk, b44⟩ := clr_ref r3
  rw [b0] at k4 j4
  obtain ⟨k5, j5, _, _⟩ := q263_1 k4 j4.jb hB
  have hN : N0 cs r4 := by
    refine ⟨⟨?_, ?_, fun i i0 i1 => ?_, ?_, ?_, ?_⟩, s4, s5, ?_, ?_, ?_⟩
    · rw [s3, ht, b44 _ (by decide) (by decide), r3v _ (by decide) (by decide)]
    · rw [s3]
      omega
    · rw [s3] at i1
      rw [cs42, bk _ (by decide) (by decide) (by decide) (by decide), r3o _ (by decide) (by decide)]
      exact hy i i0 i1
    · omega
    · omega
    · rw [s7, b44 _ (by decide) (by decide), r38]
    · rw [b44 _ (by decide) (by decide), r39]
    · rw [b44 _ (by decide) (by decide), r3v _ (by decide) (by decide), h6]
    · rw [b44 _ (by decide) (by decide), r3v _ (by decide) (by decide), h7]
  have hP : PS (r 4 45) cs r4 := PS.first (c := c) (by rw [cs3]; exact a12) (by rw [cs3]; exact a15) (by rw [cs3]; exact a16) (by rw [cs3]; exact a11) s9 s10 s6 (CB.of hJc 3) (by rw [cs3]; exact ak) b287 b391 b395 b423 b13 b14 (fun i hi => by rw [b45 i hi, r3o _ (by decide) (by decide)])
  obtain ⟨l1, l2, l3, l4⟩ := bl_eq hN.1
  obtain ⟨y', y2', c', r', z1, z2, z3, z4, z5, z6⟩ := text_loop (p0 := r 4 45) (kC := fun y19 m20 => zs (z_upd m20 4 41 3 0) fun m24 => if (m24 4 41 4) = 0 then ((y19, m24)) else (((-1), m24)))
    (kR := fun y22 m23 => zs (z_upd m23 4 44 5 0) fun m29 => if (m29 4 44 9) = 0 then ((y22, m29)) else (zs (z_cpy m29 4 45 4 46 0 0 1619) fun m33 => ((-1), m33))) (zfu 302) (zfu 605) 0 0 (f93_1 cs) (f263_1 r4) B k5 j5.jb hB hN.bl (hP.pres l2.ec l3.er) (Int.le_refl _) (by omega) (by rw [zfu_eq]; omega) (by rw [zfu_eq]; omega)
  have e92 : f92_1 c = fl92_45_1 (fun y19 m20 => zs (z_upd m20 4 41 3 0) fun m24 => if (m24 4 41 4) = 0 then ((y19, m24)) else (((-1), m24))) (zfu 302) 0 0 (f93_1 cs) := by
    unfold f92_1
    simp only [zs]
    rw [a0, ← ecs]
  have e260 : ldR r = fl260_55_1 (fun y22 m23 => zs (z_upd m23 4 44 5 0) fun m29 => if (m29 4 44 9) = 0 then ((y22, m29)) else (zs (z_cpy m29 4 45 4 46 0 0 1619) fun m33 => ((-1), m33))) (zfu 605) 0 (f263_1 r4) := by
    unfold ldR
    simp only [zs]
    rw [← er1, ← er2, ← er3, b0]
  rw [e260, z2]
  rw [z1] at e92
  simp only [zs] at e92 ⊢
  unfold ldC
  have u3 : ∀ x i, i ≠ 3 → z_upd c' 4 41 3 x 4 41 i = c' 4 41 i := fun x i h => z_upd_i _ _ _ _ h
  have w5 : ∀ x i, i ≠ 5 → z_upd r' 4 44 5 x 4 44 i = r' 4 44 i := fun x i h => z_upd_i _ _ _ _ h
  rw [u3 _ _ (by decide)] at e92
  rw [w5 _ _ (by decide)]
  rcases z6 with ⟨v1, v2, v3, v4⟩ | v1
  · subst v1
    rw [if_pos v3.2.1] at e92
    rw [if_pos v3.2.2.2.1]
    rw [e92] at g0
    dsimp only at g0
    rw [zb_eq e92]
    simp only [zs]
    rw [if_neg (by omega)]
    obtain ⟨m9, d0, d12, d13, d14, d15, d16, d17, d18, d11, dk⟩ := copy_eq (z_upd c' 4 41 3 0) (show (0 : Nat) ≠ 3 by decide)
    rw [d0]
    have m94 : m9 4 = z_upd c' 4 41 3 0 4 := by funext k; exact dk 4 k (.inl (by decide))
    have hcr : CR (m9 0) (r' 4 45) := by
      refine v4.2.2.2.2.2.2.2.2.2.1.cg v4.2.2.2.2.2.2.2.2.2.2 (fun i i0 i1 => ?_) (fun i i0 i1 => ?_) (fun i i0 i1 => ?_) (fun i i0 i1 => ?_) (fun i i0 i1 => ?_) (fun i i0 i1 => ?_) (fun i i0 i1 => ?_) ?_
      · rw [d12 i i0 i1, zu_g _ _ _ (by decide)]
      · rw [d13 i i0 i1, zu_g _ _ _ (by decide)]
      · rw [d14 i i0 i1, zu_g _ _ _ (by decide)]
      · rw [d15 i i0 i1, zu_g _ _ _ (by decide)]
      · rw [d16 i i0 i1, zu_g _ _ _ (by decide)]
      · rw [d17 i i0 i1, zu_g _ _ _ (by decide)]
      · rw [d18 i i0 i1, zu_g _ _ _ (by decide)]
      · rw [d11, zu_g _ _ _ (by decide)]
    have w45 : z_upd r' 4 44 5 0 4 45 = r' 4 45 := zu_k _ _ _ (by decide)
    obtain ⟨q1, q2, q3, q4, q5, q6, q7, q8, q9, q10, q11⟩ := v4
    have k0 : ∀ k i, (k < 11 ∨ 18 < k) → m9 0 k i = c 0 k i := fun k i hk => by rw [dk 0 k (.inr hk)]; exact g0 k i
    have e6 : m9 4 41 6 = c' 4 41 6 := by rw [m94, u3 _ _ (by decide)]
    by_cases c6 : c' 4 41 6 = 0
    · rw [if_pos (by rw [e6]; exact c6)]
      refine ⟨y', m9, _, rfl, rfl, ?_, z_upd_same _ _ _ _ _, ?_, ?_, .inr ⟨by omega, by rw [w45]; exact hcr, fun hpr t t0 t1 => ?_, fun i i0 i1 => by rw [w45]; exact q7.2 i i0 i1, fun k i hk => k0 k i (by omega), fun i _ => k0 10 i (by omega)⟩⟩
      · rw [m94, z_upd_same]
      · rw [m94, u3 _ _ (by decide), w5 _ _ (by decide), v3.2.1, v3.2.2.2.2.1]
      · rw [m94, u3 _ _ (by decide), w5 _ _ (by decide), v3.2.2.1, v3.2.2.2.2.2]
      · rw [w45, q7.1 c6 t t0 t1, k0 10 _ (by omega)]
        exact hpr t t0 t1
    · rw [if_neg (by rw [e6]; exact c6)]
      have n4 : ∀ k i, z_cpy m9 0 10 4 43 0 6 4 4 k i = m9 4 k i := fun k i => by rw [cpy_k _ (.inl (by decide))]
      have n0 : ∀ k, k ≠ 10 → z_cpy m9 0 10 4 43 0 6 4 0 k = m9 0 k := fun k hk => cpy_k _ (.inr hk)
      refine ⟨y', _, _, rfl, rfl, ?_, z_upd_same _ _ _ _ _, ?_, ?_, .inr ⟨by omega, ?_, fun hpr t t0 t1 => ?_, fun i i0 i1 => by rw [w45]; exact q7.2 i i0 i1, fun k i hk => by rw [n0 k (by omega)]; exact k0 k i (by omega), fun i hi => by rw [cpy_out _ (by omega)]; exact k0 10 i (by omega)⟩⟩
      · rw [n4, m94, z_upd_same]
      · rw [n4, m94, u3 _ _ (by decide), w5 _ _ (by decide), v3.2.1, v3.2.2.2.2.1]
      · rw [n4, m94, u3 _ _ (by decide), w5 _ _ (by decide), v3.2.2.1, v3.2.2.2.2.2]
      · rw [w45]
        exact hcr.c (by rw [n0 _ (by decide)]) (n0 _ (by decide)) (n0 _ (by decide)) (n0 _ (by decide)) (n0 _ (by decide)) (n0 _ (by decide)) (n0 _ (by decide)) (n0 _ (by decide))
      · rw [w45, cpy_in _ (by omega), show 6 + t - 6 + 0 = t by omega, m94, zu_k _ _ _ (by decide)]
        exact q6 (by omega) t t0 t1
  · rw [if_neg v1.2.2.2.1] at e92
    rw [if_neg (by rw [v1.2.1]; decide)]
    rw [e92] at g0
    dsimp only at g0
    rw [zb_eq e92]
    simp only [zs]
    rw [if_pos trivial]
    refine ⟨_, _, _, rfl, rfl, z_upd_same _ _ _ _ _, ?_, ?_, ?_, .inl ⟨rfl, g0, fun i i0 i1 => ?_⟩⟩
    · rw [cpy_k _ (.inr (by decide)), z_upd_same]
    · rw [cpy_k _ (.inr (by decide)), u3 _ _ (by decide), w5 _ _ (by decide)]
      exact v1.2.2.1
    · rw [cpy_k _ (.inr (by decide)), u3 _ _ (by decide), w5 _ _ (by decide)]
      exact v1.2.2.2.2
    · rw [cpy_in _ (by omega), show i - 0 + 0 = i by omega, zu_k _ _ _ (by decide), z5 i i0 i1, l3 _ _ _ (by omega), bk _ (by decide) (by decide) (by decide) (by decide), r346 i i0 i1]
end
section
/-! What the time is behind a call. -/
theorem w32_r (x : Int) : -2147483648 ≤ w32 x ∧ w32 x ≤ 2147483647 := z_r32 _
theorem w64_r (x : Int) : -9223372036854775808 ≤ w64 x ∧ w64 x ≤ 9223372036854775807 := z_r64 _
/-- the words undone, step by step: no great check for the kernel -/
theorem zs_a {α : Type} (p : zM) (f : zM → α) : zs p f = f p := zs_eq rfl
theorem zn_a {α : Type} (p : Int) (f : Int → α) : zn p f = f p := zn_eq rfl
theorem zb_a {α : Type} (p : Int × zM) (f : Int → zM → α) : zb p f = f p.1 p.2 := zb_eq rfl
theorem OM.q {B B' : Int} {m0 m : zM} {L G : List Nat} (h : z_mok lL m) (hJ : J (zQ L G) m0 B' m) (hb : B' ≤ B) : OM B m := ⟨h, hJ.jb.up hb⟩
theorem OM.t {B : Int} {m : zM} (h : OM B m) (g : Nat) : 0 ≤ m g 8 9 ∧ m g 8 9 ≤ 2000000000 := r8_9 h.2.o g
theorem OM.w {B : Int} {m : zM} (h : OM B m) : 0 ≤ m 4 45 0 ∧ m 4 45 0 ≤ 2000000000 := r45_0 h.2.o 4
/-- a field that is an int -/
theorem OM.i {B : Int} {m : zM} {g k fj ci : Nat} {fs : List zF} (h : OM B m) (hk : lL.1 k = some (.inl (ci, fs))) (hf : fs[fj]? = some (.inl 0)) (hv : z_ok lL (zr g k)) (hg : g < 3) : -2147483648 ≤ m g k (fj : Int) ∧ m g k (fj : Int) ≤ 2147483647 := by
  rcases hv with e | hv
  · exact absurd e.1 (show ¬ g = 99 by omega)
  · have h1 := h.1 g k hv
    unfold z_ck at h1
    rw [hk] at h1
    exact (h1 fj (.inl 0) hf).1
theorem jt {L G : List Nat} {B : Int} {m0 m : zM} (h : J (zQ L G) m0 B m) (g : Nat) (hL : L.contains 11 = false) : m g 8 9 = m0 g 8 9 :=
  h.eqf 11 (ja8_0 (by omega)) (fun e => by rw [List.contains_iff_mem.mpr e] at hL; cases hL)
theorem jw0 {L G : List Nat} {B : Int} {m0 m : zM} (h : J (zQ L G) m0 B m) (hL : L.contains 31 = false) : m 4 45 0 = m0 4 45 0 :=
  h.eqf 31 ja45_0 (fun e => by rw [List.contains_iff_mem.mpr e] at hL; cases hL)
theorem f26_time {m : zM} {B a : Int} {g : Nat} (h : OM B m) (hB : B + 8 ≤ 1000000000) (hg : g < 3) (ha : 1 ≤ a ∧ a ≤ 3600) :
    ∃ v m', f26_1 g a m = (v, m') ∧ 1 ≤ v ∧ v ≤ a ∧ OM (B + 8) m' ∧ m' g 8 9 = min (m g 8 9 + v) 2000000000 := by
  obtain ⟨k1, k2, k3, k4, k5⟩ := q26_1 g a h.1 h.2 hB hg ha ha.1
  refine ⟨(f26_1 g a m).1, (f26_1 g a m).2, rfl, k4, k5, ⟨k1, k2.jb⟩, ?_⟩
  have ht := h.t g
  unfold f26_1
  simp only [zs, zn]
  have b1 := q27_1 g (m g 8 9) h.1 h.2 (by omega) (by omega) (by omega)
  generalize f27_1 g (m g 8 9) m = v1 at b1 ⊢
  have b2 := q34_1 g (m g 10 2) h.1 h.2 (by omega) hg (r10_0 h.2.o g (i := 2) (by omega))
  generalize f34_1 g (m g 10 2) m = v2 at b2 ⊢
  obtain ⟨b3, b4, b5, b6⟩ := q35_1 g a v1 v2 h.1 h.2 (by omega) hg ha b1 b2 ha.1
  generalize f35_1 g a v1 v2 m = v at b3 b4 b5 b6 ⊢
  obtain ⟨c1, c2⟩ := q49_1 g v v1 h.1 h.2 (by omega) hg b3 b1
  have e1 := jt c2 g rfl
  have o1 : OM B (f49_1 g v v1 m) := ⟨c1, c2.jb⟩
  generalize f49_1 g v v1 m = m1 at e1 o1 ⊢
  have o2 := u8_13 (g := g) o1 (w32_r (m1 g 8 13 + v))
  have e2 : z_upd m1 g 8 13 (w32 (m1 g 8 13 + v)) g 8 9 = m1 g 8 9 := z_upd_o _ _ rfl
  generalize z_upd m1 g 8 13 (w32 (m1 g 8 13 + v)) = m2 at o2 e2 ⊢
  have o3 := u8_9 (g := g) (x := m2 g 8 9 + (v - 1)) o2 (by omega)
  have e3 : z_upd m2 g 8 9 (m2 g 8 9 + (v - 1)) g 8 9 = m2 g 8 9 + (v - 1) := z_upd_same _ _ _ _ _
  generalize z_upd m2 g 8 9 (m2 g 8 9 + (v - 1)) = m3 at o3 e3 ⊢
  obtain ⟨d1, d2⟩ := q53_1 g o3.1 o3.2 (by omega) hg
  have e4 := jt d2 g rfl
  have o4 : OM (B + 1) (f53_1 g m3) := ⟨d1, d2.jb⟩
  generalize f53_1 g m3 = m4 at o4 e4 ⊢
  have t4 := o4.t g
  obtain ⟨f1, f2⟩ := q56_1 g g v v2 (m4 g 10 3) (m4 g 8 9) o4.1 o4.2 (by omega) hg hg b3 b2 (r10_0 o4.2.o g (i := 3) (by omega)) t4
  have e5 := jt f2 g rfl
  have o5 : OM (B + 7) (f56_1 g g v v2 (m4 g 10 3) (m4 g 8 9) m4) := .q f1 f2 (by omega)
  generalize f56_1 g g v v2 (m4 g 10 3) (m4 g 8 9) m4 = m5 at o5 e5 ⊢
  obtain ⟨s1, s2⟩ := q58_1 g v (m5 g 33 3) o5.1 o5.2 (by omega) hg b3 (o5.i (k := 33) (fj := 3) rfl rfl (zv33 hg) hg)
  have e6 := jt s2 g rfl
  have o6 : OM (B + 7) (f58_1 g v (m5 g 33 3) m5) := ⟨s1, s2.jb⟩
  generalize f58_1 g v (m5 g 33 3) m5 = m6 at o6 e6 ⊢
  by_cases c : 2000000000 ≤ m6 g 8 9
  · rw [if_pos c]
    obtain ⟨r1, r2⟩ := q59_1 g v1 o6.1 o6.2 (by omega) hg b1
    rw [jt r2 g rfl]
    omega
  · rw [if_neg c]
    have o7 := u8_9 (g := g) (x := m6 g 8 9 + 1) o6 (by omega)
    have e7 : z_upd m6 g 8 9 (m6 g 8 9 + 1) g 8 9 = m6 g 8 9 + 1 := z_upd_same _ _ _ _ _
    generalize z_upd m6 g 8 9 (m6 g 8 9 + 1) = m7 at o7 e7 ⊢
    obtain ⟨r1, r2⟩ := q59_1 g v1 o7.1 o7.2 (by omega) hg b1
    rw [jt r2 g rfl]
    omega
theorem f25_loop {g : Nat} (hg : g < 3) {a : Int} (ha : 1 ≤ a ∧ a ≤ 900) : ∀ (n : Nat) (y2 y3 : Int) (m : zM) (B : Int), OM B m → 0 ≤ y2 → y2 ≤ 900 → 0 ≤ y3 → y2 + y3 ≤ a → a - y3 < n → B + 8 * (a - y3) ≤ 1000000000 →
    ∃ m', fl25_4_1 (fun m => m) g a n y2 y3 m = m' ∧ m' g 8 9 = min (m g 8 9 + y2) 2000000000 := by
  intro n
  induction n with
  | zero =>
    intro y2 y3 m B h h0 h1 h2 h3 h4
    omega
  | succ n ih =>
    intro y2 y3 m B h h0 h1 h2 h3 h4 hB
    have ht := h.t g
    show ∃ m', fl25_4_1_b (fl25_4_1 (fun m => m) g a n) (fun m => m) g a y2 y3 m = m' ∧ _
    unfold fl25_4_1_b
    by_cases c : a ≤ y3
    · rw [if_pos c]
      exact ⟨m, rfl, by omega⟩
    rw [if_neg c]
    by_cases c2 : y2 ≤ 0
    · rw [if_pos c2]
      exact ⟨m, rfl, by omega⟩
    rw [if_neg c2]
    obtain ⟨v, m1, e1, e2, e3, e4, e5⟩ := f26_time (a := y2) h (by omega) hg (by omega)
    rw [zb_eq e1]
    obtain ⟨m', g1, g2⟩ := ih (y2 - v) (y3 + 1) m1 (B + 8) e4 (by omega) (by omega) (by omega) (by omega) (by omega) (by omega)
    exact ⟨m', g1, by omega⟩
theorem f25_time {m : zM} {B a : Int} {g : Nat} (h : OM B m) (hB : B + 7208 ≤ 1000000000) (hg : g < 3) (ha : 1 ≤ a ∧ a ≤ 900) : f25_1 g a m g 8 9 = min (m g 8 9 + a) 2000000000 := by
  obtain ⟨m', e1, e2⟩ := f25_loop hg ha (zfu 901) a 0 m B h (by omega) (by omega) (by omega) (by omega) (by rw [zfu_eq]; omega) (by omega)
  rw [show f25_1 g a m = m' from e1]
  exact e2
/-! the reference -/
theorem f230_time {m : zM} {B : Int} (h : OM B m) (hB : B + 1 ≤ 1000000000) : f230_1 m 4 45 0 = min (m 4 45 0 + 1) 2000000000 := by
  unfold f230_1
  simp only [zs, zn]
  have hw := h.w
  have o1 : OM B (z_upd m 4 45 27 (zorL (m 4 45 27) (f231_1 m))) := u45_21 h (by omega) (z_r64 _)
  have e1 : z_upd m 4 45 27 (zorL (m 4 45 27) (f231_1 m)) 4 45 0 = m 4 45 0 := z_upd_o _ _ rfl
  generalize z_upd m 4 45 27 (zorL (m 4 45 27) (f231_1 m)) = m1 at o1 e1 ⊢
  by_cases c : m1 4 45 0 = 2000000000
  · rw [if_pos c]
    omega
  · rw [if_neg c]
    have o2 := u45_0 (g := 4) (x := m1 4 45 0 + 1) o1 (by omega)
    have e2 : z_upd m1 4 45 0 (m1 4 45 0 + 1) 4 45 0 = m1 4 45 0 + 1 := z_upd_same _ _ _ _ _
    generalize z_upd m1 4 45 0 (m1 4 45 0 + 1) = m2 at o2 e2 ⊢
    by_cases c2 : m2 4 45 0 % m2 4 45 8 = 0
    · rw [if_pos c2]
      obtain ⟨r1, r2⟩ := q232_1 0 o2.1 o2.2 (by omega) (by omega)
      rw [jw0 r2 rfl]
      omega
    · rw [if_neg c2]
      omega
noncomputable def g208 (v07 v17 : Int) (m : zM) : zM := zn ((v07 * v07)) fun z22 => zn ((v17 * v17)) fun z23 => zn (f214_1 (z22 + z23) m) fun v26 => zs (z_upd m 4 45 13 ((m 4 45 13) + 1)) fun m28 => zn (w64 ((m28 4 45 25) + 1)) fun z30 => zs (z_upd m28 4 45 25 z30) fun m31 => zn (f215_1 v07 m31) fun v35 => zs (if v35 < (m31 4 45 4) then (zn (f215_1 v17 m31) fun v44 => if v44 < (m31 4 45 4) then (zn (w64 ((m31 4 45 14) + 1)) fun z50 => zs (z_upd m31 4 45 14 z50) fun m51 => m51) else (zs (f216_1 v07 v17 v26 m31) fun m47 => m47)) else (zs (f216_1 v07 v17 v26 m31) fun m39 => m39)) fun m54 => zs (f222_1 m54) fun m58 => zs (f224_1 m58) fun m61 => zs (f230_1 m61) fun m64 => m64
/-- how much flows, as the reference has it -/
theorem zn_id (p : Int) : (zn p fun v => v) = p := rfl
noncomputable def pw (i : Int) (m : zM) : Int := if (m 4 45 12) = 1 then (0) else (zn (f209_1 i m) fun v06 => v06)
theorem zn2 {α : Type} (p q : Int) (f : Int → Int → α) : (zn p fun a => zn q fun b => f a b) = f p q := rfl
theorem f208_g (m : zM) : f208_1 m = g208 (pw 0 m) (pw 1 m) m := by
  unfold f208_1 g208
  rw [zn2]
  unfold pw
  rfl
theorem pw_r {B : Int} {m : zM} (h : OM B m) (hB : B ≤ 1000000000) {i : Int} (hi : 0 ≤ i ∧ i ≤ 3) : -12000000 ≤ pw i m ∧ pw i m ≤ 12000000 := by
  have a := q209_1 i h.1 h.2 (by omega) hi
  unfold pw
  rw [zn_id]
  split <;> omega
theorem f208_time {m : zM} {B : Int} (h : OM B m) (hB : B + 11 ≤ 1000000000) : f208_1 m 4 45 0 = min (m 4 45 0 + 1) 2000000000 := by
  rw [f208_g]
  have b0 := pw_r h (by omega) (i := 0) (by omega)
  have b1 := pw_r h (by omega) (i := 1) (by omega)
  generalize pw 0 m = x at b0 ⊢
  generalize pw 1 m = y at b1 ⊢
  unfold g208
  simp only [zs_a, zn_a]
  have sx := z_sqr (e := 12000000) (x := x) (by omega)
  have sy := z_sqr (e := 12000000) (x := y) (by omega)
  have b2 := q214_1 (x * x + y * y) h.1 h.2 (by omega) (by omega)
  generalize f214_1 (x * x + y * y) m = z at b2 ⊢
  have n0 : 0 ≤ m 4 45 13 ∧ m 4 45 13 ≤ B := r45_13 h.2.o 4
  have o1 : OM (B + 1) (z_upd m 4 45 13 (m 4 45 13 + 1)) := u45_13 (h.up (by omega)) (by omega) (by omega)
  have e1 : z_upd m 4 45 13 (m 4 45 13 + 1) 4 45 0 = m 4 45 0 := z_upd_o _ _ rfl
  generalize z_upd m 4 45 13 (m 4 45 13 + 1) = m1 at o1 e1 ⊢
  have o2 := u45_21 (g := 4) (i := 25) o1 (by omega) (w64_r (m1 4 45 25 + 1))
  have e2 : z_upd m1 4 45 25 (w64 (m1 4 45 25 + 1)) 4 45 0 = m1 4 45 0 := z_upd_o _ _ rfl
  generalize z_upd m1 4 45 25 (w64 (m1 4 45 25 + 1)) = m2 at o2 e2 ⊢
  have key : ∀ m3, OM (B + 1) m3 → m3 4 45 0 = m 4 45 0 → f230_1 (f224_1 (f222_1 m3)) 4 45 0 = min (m 4 45 0 + 1) 2000000000 := by
    intro m3 o3 e3
    obtain ⟨d1, d2⟩ := q222_1 o3.1 o3.2 (by omega)
    have e4 := jw0 d2 rfl
    have o4 : OM (B + 2) (f222_1 m3) := .q d1 d2 (by omega)
    obtain ⟨d3, d4⟩ := q224_1 o4.1 o4.2 (by omega)
    have e5 := jw0 d4 rfl
    have o5 : OM (B + 10) (f224_1 (f222_1 m3)) := .q d3 d4 (by omega)
    rw [f230_time o5 (by omega)]
    omega
  have k2 : OM (B + 1) (f216_1 x y z m2) ∧ f216_1 x y z m2 4 45 0 = m 4 45 0 := by
    obtain ⟨d1, d2⟩ := q216_1 x y z o2.1 o2.2 (by omega) b0 b1 b2
    exact ⟨⟨d1, d2.jb⟩, by rw [jw0 d2 rfl]; omega⟩
  apply key
  · by_cases c : f215_1 x m2 < m2 4 45 4
    · rw [if_pos c]
      by_cases c2 : f215_1 y m2 < m2 4 45 4
      · rw [if_pos c2]
        exact u45_14 o2 (by omega) (w64_r _)
      · rw [if_neg c2]
        exact k2.1
    · rw [if_neg c]
      exact k2.1
  · by_cases c : f215_1 x m2 < m2 4 45 4
    · rw [if_pos c]
      by_cases c2 : f215_1 y m2 < m2 4 45 4
      · rw [if_pos c2, z_upd_o _ _ rfl]
        omega
      · rw [if_neg c2]
        exact k2.2
    · rw [if_neg c]
      exact k2.2
end
section
/-! The time and the wave's shape on both sides, call by call. -/
theorem f208_step {m : zM} {B : Int} (h : OM B m) (hB : B + 11 ≤ 1000000000) : OM (B + 11) (f208_1 m) ∧ f208_1 m 4 45 0 = min (m 4 45 0 + 1) 2000000000 := by
  obtain ⟨a, b⟩ := q208_1 h.1 h.2 hB
  exact ⟨⟨a, b.jb⟩, f208_time h hB⟩
/-- again -/
theorem r279_loop {k : zM → Int × zM} {a : Int} (ha : a ≤ 900) : ∀ (n : Nat) (y : Int) (m : zM) (B : Int), OM B m → 0 ≤ y → y ≤ a → a - y < n → B + 11 * (a - y) ≤ 1000000000 →
    ∃ m', fl279_18_1 k a n y m = k m' ∧ m' 4 45 0 = min (m 4 45 0 + (a - y)) 2000000000 := by
  intro n
  induction n with
  | zero =>
    intro y m B h h0 h1 h2
    omega
  | succ n ih =>
    intro y m B h h0 h1 h2 hB
    have hw := h.w
    show ∃ m', fl279_18_1_b (fl279_18_1 k a n) k a y m = k m' ∧ _
    unfold fl279_18_1_b
    by_cases c : a ≤ y
    · rw [if_pos c]
      exact ⟨m, rfl, by omega⟩
    · rw [if_neg c, zs_a]
      obtain ⟨o, e⟩ := f208_step h (by omega)
      obtain ⟨m', g1, g2⟩ := ih (y + 1) _ (B + 11) o (by omega) (by omega) (by omega) (by omega)
      exact ⟨m', g1, by omega⟩
theorem again_T {c r : zM} {B a : Int} (hc : OM B c) (hr : OM B r) (hB : B + 9911 ≤ 1000000000) (ht : c 0 8 9 = r 4 45 0) : (f69_1 a c).2 0 8 9 = (f279_1 a r).2 4 45 0 := by
  unfold f69_1 f279_1
  by_cases c1 : a < 1
  · rw [if_pos c1, if_pos c1]
    exact ht
  rw [if_neg c1, if_neg c1]
  by_cases c2 : a ≤ 900
  · rw [if_pos c2, if_pos c2]
    obtain ⟨m', g1, g2⟩ := r279_loop (k := fun m08 => zn (w64 (((m08 4 45 64)).tdiv (m08 4 45 5))) fun z13 => (z13, m08)) c2 (zfu 901) 0 r B hr (by omega) (by omega) (by rw [zfu_eq]; omega) (by omega)
    rw [g1, zs_a, zn_a, zn_a]
    show f25_1 0 a c 0 8 9 = m' 4 45 0
    rw [f25_time hc (by omega) (by decide) (by omega), g2]
    omega
  · rw [if_neg c2, if_neg c2]
    exact ht
/-- the shape, how many samples have come -/
def SH (c : zM) (r : zM) : Prop := c 0 19 3 = r 4 45 1 ∧ c 0 19 4 = r 4 45 2 ∧ c 0 19 5 = r 4 45 3
theorem cp205 {B : Int} {k : zM → Int × zM} : ∀ (n : Nat) (y : Int) (m : zM), 0 ≤ y → y ≤ 96 → 96 - y < n → OM B m → ∃ m', fl205_139_1 k n y m = k m' ∧ OM B m' ∧ (∀ i, (i < 95 ∨ 190 < i) → m' 4 45 i = m 4 45 i)
  | 0, y, m, h0, h1, h2, _ => by omega
  | n + 1, y, m, h0, h1, h2, h => by
    show ∃ m', fl205_139_1_b (fl205_139_1 k n) k y m = k m' ∧ _
    unfold fl205_139_1_b
    by_cases c : 96 ≤ y
    · rw [if_pos c]
      exact ⟨m, rfl, h, fun _ _ => rfl⟩
    · rw [if_neg c, zs_a]
      have hs : -500 ≤ m 4 45 (191 + y) ∧ m 4 45 (191 + y) ≤ 500 := r45_95 h.2.o 4 (i := 191 + y) (by omega)
      obtain ⟨m', g1, g2, g3⟩ := cp205 (k := k) n (y + 1) (z_upd m 4 45 (95 + y) (m 4 45 (191 + y))) (by omega) (by omega) (by omega) (u45_95 h (by omega) hs)
      exact ⟨m', g1, g2, fun i hi => by rw [g3 i hi, z_upd_i _ _ _ _ (by omega)]⟩
/-- only rows 22 of a group, and what the wave tells, have changed -/
def W22 (g : Nat) (m m' : zM) : Prop := ∀ g' k i, ¬ (g' = g ∧ (k = 22 ∨ (k = 19 ∧ i = 6))) → m' g' k i = m g' k i
theorem W22.rf (g : Nat) (m : zM) : W22 g m m := fun _ _ _ _ => rfl
theorem W22.trans {g : Nat} {a b c : zM} (h : W22 g a b) (h' : W22 g b c) : W22 g a c := fun g' k i h9 => (h' g' k i h9).trans (h g' k i h9)
theorem W22.upd (g : Nat) (m : zM) (i x : Int) : W22 g m (z_upd m g 22 i x) := fun g' k j h9 => by
  unfold z_upd
  rw [if_neg (fun e => h9 ⟨e.1, .inl e.2.1⟩)]
theorem f11_w {g : Nat} {a N : Int} : ∀ (n : Nat) (y : Int) (m : zM), W22 g m (fl11_6_1 (fun m => m) g a N n y m)
  | 0, _, m => W22.rf g m
  | n + 1, y, m => by
    show W22 g m (fl11_6_1_b (fl11_6_1 (fun m => m) g a N n) (fun m => m) g a N y m)
    unfold fl11_6_1_b
    split
    · exact W22.rf g m
    · rw [zs_a]
      exact (W22.upd g m _ _).trans (f11_w n _ _)
theorem f22_w (g : Nat) (a b x : Int) (m : zM) : W22 g m (f22_1 g a b x m) := by
  unfold f22_1
  simp only [zs_a, zn_a]
  exact (W22.upd g m _ _).trans (W22.upd g _ _ _)
theorem f21_in {g : Nat} {k : zM → zM} {a b c : Int} : ∀ (n : Nat) (y : Int) (m : zM), y ≤ m g 19 3 → m g 19 3 - y < n → ∃ m', fl21_37_1 k g a b c n y m = k m' ∧ W22 g m m'
  | 0, y, m, h0, h1 => by omega
  | n + 1, y, m, h0, h1 => by
    show ∃ m', fl21_37_1_b (fl21_37_1 k g a b c n) k g a b c y m = k m' ∧ W22 g m m'
    unfold fl21_37_1_b
    by_cases c1 : m g 19 3 ≤ y
    · rw [if_pos c1]
      exact ⟨m, rfl, W22.rf g m⟩
    · rw [if_neg c1]
      simp only [zs_a, zn_a]
      generalize hA : f22_1 g 0 y (m g 20 (b * m g 19 3 + y) * m g 21 (b * m g 19 3 + y)) m = m1
      have w1 : W22 g m m1 := by rw [← hA]; exact f22_w _ _ _ _ _
      generalize hB : f22_1 g 1 y _ m1 = m2
      have w2 : W22 g m m2 := w1.trans (by rw [← hB]; exact f22_w _ _ _ _ _)
      generalize hC : f22_1 g 2 y _ m2 = m3
      have w3 : W22 g m m3 := w2.trans (by rw [← hC]; exact f22_w _ _ _ _ _)
      generalize hD : f22_1 g 3 y _ m3 = m4
      have w4 : W22 g m m4 := w3.trans (by rw [← hD]; exact f22_w _ _ _ _ _)
      have e3 : m4 g 19 3 = m g 19 3 := w4 _ _ _ (by omega)
      obtain ⟨m', g1, g2⟩ := f21_in (g := g) (k := k) (a := a) (b := b) (c := c) n (y + 1) m4 (by omega) (by omega)
      exact ⟨m', g1, w4.trans g2⟩
theorem f21_out {g : Nat} {k : zM → zM} {a : Int} : ∀ (n : Nat) (y : Int) (m : zM), 0 ≤ m g 19 3 → m g 19 3 ≤ 3 → y ≤ m g 19 4 → m g 19 4 - y < n → ∃ m', fl21_17_1 k g a n y m = k m' ∧ W22 g m m'
  | 0, y, m, h3, h4, h0, h1 => by omega
  | n + 1, y, m, h3, h4, h0, h1 => by
    show ∃ m', fl21_17_1_b (fl21_17_1 k g a n) k g a y m = k m' ∧ W22 g m m'
    unfold fl21_17_1_b
    by_cases c1 : m g 19 4 ≤ y
    · rw [if_pos c1]
      exact ⟨m, rfl, W22.rf g m⟩
    · rw [if_neg c1, zn_a]
      obtain ⟨m1, g1, g2⟩ := f21_in (g := g) (k := fun m12 => fl21_17_1 k g a n (y + 1) m12) (a := a) (b := y) (c := (y + a) % m g 19 4) (zfu 4) 0 m h3 (by rw [zfu_eq]; omega)
      rw [g1]
      have e3 : m1 g 19 3 = m g 19 3 := g2 _ _ _ (by omega)
      have e4 : m1 g 19 4 = m g 19 4 := g2 _ _ _ (by omega)
      obtain ⟨m', g3, g4⟩ := f21_out (g := g) (k := k) (a := a) n (y + 1) m1 (by omega) (by omega) (by omega) (by omega)
      exact ⟨m', g3, g2.trans g4⟩
theorem f21_w {g : Nat} {m : zM} (h3 : 0 ≤ m g 19 3 ∧ m g 19 3 ≤ 3) (h4 : 0 ≤ m g 19 4 ∧ m g 19 4 ≤ 16) : W22 g m (f21_1 g m) := by
  unfold f21_1
  rw [zs_a]
  have w1 : W22 g m (f11_1 g 0 m) := f11_w (zfu 17) 0 m
  generalize f11_1 g 0 m = m1 at w1 ⊢
  have e3 : m1 g 19 3 = m g 19 3 := w1 _ _ _ (by omega)
  have e4 : m1 g 19 4 = m g 19 4 := w1 _ _ _ (by omega)
  obtain ⟨m', g1, g2⟩ := f21_out (g := g) (k := fun m05 => zn (f23_1 g 3 m05) fun v11 => zs (z_upd m05 g 19 6 v11) fun m12 => m12) (a := m1 g 19 4 / 4) (zfu 17) 0 m1 (by omega) (by omega) (by omega) (by rw [zfu_eq]; omega)
  rw [g1]
  simp only [zs_a, zn_a]
  refine (w1.trans g2).trans (fun g' k i h9 => ?_)
  unfold z_upd
  rw [if_neg (fun e => h9 ⟨e.1, .inr ⟨e.2.1, e.2.2⟩⟩)]
theorem jx {L G : List Nat} {B : Int} {m0 m : zM} (h : J (zQ L G) m0 B m) (f : Nat) {g k : Nat} {i : Int} (ha : ja k i = f) (hL : L.contains f = false) : m g k i = m0 g k i :=
  h.eqf f ha (fun e => by rw [List.contains_iff_mem.mpr e] at hL; cases hL)
theorem jy {L G : List Nat} {B : Int} {m0 m : zM} (h : J (zQ L G) m0 B m) {g : Nat} (hL : G.contains g = false) : m g = m0 g := by
  funext k i
  exact h.eqg (fun e => by rw [List.contains_iff_mem.mpr e] at hL; cases hL)
theorem sample_T {c r : zM} {B a b : Int} (hc : OM B c) (hr : OM B r) (hB : B + 7208 ≤ 1000000000) (ht : c 0 8 9 = r 4 45 0) (hs : SH c r) : (f19_1 a b c).1 = (f205_1 a b r).1 ∧ (f19_1 a b c).2 0 8 9 = (f205_1 a b r).2 4 45 0 ∧ SH (f19_1 a b c).2 (f205_1 a b r).2 := by
  unfold f19_1 f205_1
  by_cases c1 : a < -500
  · rw [if_pos c1, if_pos c1]
    exact ⟨rfl, ht, hs⟩
  rw [if_neg c1, if_neg c1]
  by_cases c2 : a ≤ 500
  case neg =>
    rw [if_pos (by omega), if_neg c2]
    exact ⟨rfl, ht, hs⟩
  rw [if_neg (by omega), if_pos c2]
  by_cases c3 : b < -500
  · rw [if_pos c3, if_pos c3]
    exact ⟨rfl, ht, hs⟩
  rw [if_neg c3, if_neg c3]
  by_cases c4 : b ≤ 500
  case neg =>
    rw [if_neg c4, if_neg c4]
    exact ⟨rfl, ht, hs⟩
  rw [if_pos c4, if_pos c4]
  have p1 : 1 ≤ c 0 19 3 ∧ c 0 19 3 ≤ 3 := r19_3 hc.2.o 0
  have p2 : 4 ≤ c 0 19 4 ∧ c 0 19 4 ≤ 16 := r19_4 hc.2.o 0
  have p3 : 0 ≤ c 0 19 5 ∧ c 0 19 5 ≤ 47 := r19_5 hc.2.o 0
  obtain ⟨s1, s2, s3⟩ := hs
  -- the class
  obtain ⟨v, c', ev, h1, h2, h3, h4, h5, h6⟩ : ∃ v c', f20_1 0 a b c = (v, c') ∧ OM B c' ∧ c' 0 8 9 = c 0 8 9 ∧ c' 0 19 3 = c 0 19 3 ∧ c' 0 19 4 = c 0 19 4 ∧ (v = if c 0 19 3 * c 0 19 4 ≤ c 0 19 5 + 1 then 1 else 0) ∧ c' 0 19 5 = if c 0 19 3 * c 0 19 4 ≤ c 0 19 5 + 1 then 0 else c 0 19 5 + 1 := by
    obtain ⟨k1, k2, k3⟩ := q20_1 0 a b hc.1 hc.2 (by omega) (by omega) (by omega) (by omega)
    refine ⟨(f20_1 0 a b c).1, (f20_1 0 a b c).2, rfl, ⟨k1, k2.jb⟩, jt k2 0 rfl, ?_⟩
    unfold f20_1
    simp only [zs_a, zn_a]
    have o1 := u20_0 (g := 0) (i := c 0 19 5) (x := a) hc (by omega) (by omega)
    have e1 : ∀ i, z_upd c 0 20 (c 0 19 5) a 0 19 i = c 0 19 i := fun i => by rw [zu_k _ _ _ (by decide)]
    generalize z_upd c 0 20 (c 0 19 5) a = m1 at o1 e1 ⊢
    have o2 := u21_0 (g := 0) (i := m1 0 19 5) (x := b) o1 (by rw [e1]; omega) (by omega)
    have e2 : ∀ i, z_upd m1 0 21 (m1 0 19 5) b 0 19 i = c 0 19 i := fun i => by rw [zu_k _ _ _ (by decide), e1]
    generalize z_upd m1 0 21 (m1 0 19 5) b = m2 at o2 e2 ⊢
    have e3 : z_upd m2 0 19 5 (m2 0 19 5 + 1) 0 19 3 = c 0 19 3 := by rw [z_upd_o _ _ rfl, e2]
    have e4 : z_upd m2 0 19 5 (m2 0 19 5 + 1) 0 19 4 = c 0 19 4 := by rw [z_upd_o _ _ rfl, e2]
    have e5 : z_upd m2 0 19 5 (m2 0 19 5 + 1) 0 19 5 = c 0 19 5 + 1 := by rw [z_upd_same, e2]
    rw [e3, e4, e5]
    by_cases d : c 0 19 3 * c 0 19 4 ≤ c 0 19 5 + 1
    · rw [if_pos d, if_pos d, if_pos d, z_upd_upd]
      have o3 := u19_5 (g := 0) (x := 0) o2 (by omega)
      have n3 : z_upd m2 0 19 5 0 0 19 3 = c 0 19 3 := by rw [z_upd_o _ _ rfl, e2]
      have n4 : z_upd m2 0 19 5 0 0 19 4 = c 0 19 4 := by rw [z_upd_o _ _ rfl, e2]
      have n5 : z_upd m2 0 19 5 0 0 19 5 = 0 := z_upd_same _ _ _ _ _
      generalize z_upd m2 0 19 5 0 = m3 at o3 n3 n4 n5 ⊢
      have w := f21_w (g := 0) (m := m3) (by omega) (by omega)
      dsimp only
      rw [w _ _ _ (by omega), w _ _ _ (by omega), w _ _ _ (by omega)]
      exact ⟨n3, n4, rfl, n5⟩
    · rw [if_neg d, if_neg d, if_neg d]
      dsimp only
      exact ⟨e3, e4, rfl, e5⟩
  rw [zb_eq ev]
  have cls : ∃ m', (zs (if v = 0 then c' else zs (f25_1 0 1 c') fun m09 => m09) fun m13 => (m13 0 19 5, m13)) = (m' 0 19 5, m') ∧ m' 0 19 3 = c 0 19 3 ∧ m' 0 19 4 = c 0 19 4 ∧ (m' 0 19 5 = if c 0 19 3 * c 0 19 4 ≤ c 0 19 5 + 1 then 0 else c 0 19 5 + 1) ∧ m' 0 8 9 = if c 0 19 3 * c 0 19 4 ≤ c 0 19 5 + 1 then min (c 0 8 9 + 1) 2000000000 else c 0 8 9 := by
    rw [zs_a]
    refine ⟨_, rfl, ?_⟩
    by_cases d : c 0 19 3 * c 0 19 4 ≤ c 0 19 5 + 1
    · rw [if_pos d] at h5 h6
      rw [if_neg (by omega), if_pos d, if_pos d, zs_a]
      obtain ⟨k1, k2⟩ := q25_1 0 1 h1.1 h1.2 (by omega) (by omega) (by omega)
      rw [jx k2 2 (ja19_0 (by omega)) rfl, jx k2 2 (ja19_0 (by omega)) rfl, jx k2 2 (ja19_0 (by omega)) rfl, f25_time h1 (by omega) (by omega) (by omega)]
      exact ⟨h3, h4, h6, by omega⟩
    · rw [if_neg d] at h5 h6
      rw [if_pos h5, if_neg d, if_neg d]
      exact ⟨h3, h4, h6, h2⟩
  obtain ⟨m', a0, a1, a2, a3, a4⟩ := cls
  rw [a0]
  -- the reference
  have kp := z_kp (x := r 4 45 3) (y := r 4 45 1) (by omega) (by omega)
  rw [zn_a, zn_a, zs_a]
  have o1 := u45_95 (g := 4) (i := 191 + 16 * (r 4 45 3 % r 4 45 1) + r 4 45 3 / r 4 45 1) (x := a) hr (by omega) (by omega)
  have e1 : ∀ i, i < 95 → z_upd r 4 45 (191 + 16 * (r 4 45 3 % r 4 45 1) + r 4 45 3 / r 4 45 1) a 4 45 i = r 4 45 i := fun i hi => z_upd_i _ _ _ _ (by omega)
  generalize z_upd r 4 45 (191 + 16 * (r 4 45 3 % r 4 45 1) + r 4 45 3 / r 4 45 1) a = r1 at o1 e1 ⊢
  rw [zn_a, zn_a, zs_a, e1 1 (by omega)]
  have o2 := u45_95 (g := 4) (i := 239 + 16 * (r 4 45 3 % r 4 45 1) + r 4 45 3 / r 4 45 1) (x := b) o1 (by omega) (by omega)
  have e2 : ∀ i, i < 95 → z_upd r1 4 45 (239 + 16 * (r 4 45 3 % r 4 45 1) + r 4 45 3 / r 4 45 1) b 4 45 i = r 4 45 i := fun i hi => by rw [z_upd_i _ _ _ _ (by omega), e1 i hi]
  generalize z_upd r1 4 45 (239 + 16 * (r 4 45 3 % r 4 45 1) + r 4 45 3 / r 4 45 1) b = r2 at o2 e2 ⊢
  rw [zs_a, zn_a, zs_a, z_upd_upd]
  have f1 : z_upd r2 4 45 3 (r2 4 45 3 + 1) 4 45 1 = r 4 45 1 := by rw [z_upd_o _ _ rfl, e2 _ (by omega)]
  have f2 : z_upd r2 4 45 3 (r2 4 45 3 + 1) 4 45 2 = r 4 45 2 := by rw [z_upd_o _ _ rfl, e2 _ (by omega)]
  have f3 : z_upd r2 4 45 3 (r2 4 45 3 + 1) 4 45 3 = r 4 45 3 + 1 := by rw [z_upd_same, e2 _ (by omega)]
  have f0 : z_upd r2 4 45 3 (r2 4 45 3 + 1) 4 45 0 = r 4 45 0 := by rw [z_upd_o _ _ rfl, e2 _ (by omega)]
  rw [f1, f2, f3]
  rw [s1, s2, s3] at a3 a4
  rw [s1] at a1
  rw [s2] at a2
  by_cases d : r 4 45 3 + 1 < r 4 45 1 * r 4 45 2
  · rw [if_neg (by omega)] at a3 a4
    rw [if_pos d]
    dsimp only
    refine ⟨a3, by rw [f0, a4]; exact ht, ?_, ?_, ?_⟩
    · rw [f1]; exact a1
    · rw [f2]; exact a2
    · rw [f3]; exact a3
  · rw [if_pos (by omega)] at a3 a4
    rw [if_neg d]
    have o3 := u45_3 (g := 4) (x := 0) o2 (by omega)
    have n0 : z_upd r2 4 45 3 0 4 45 0 = r 4 45 0 := by rw [z_upd_o _ _ rfl, e2 _ (by omega)]
    have n1 : z_upd r2 4 45 3 0 4 45 1 = r 4 45 1 := by rw [z_upd_o _ _ rfl, e2 _ (by omega)]
    have n2 : z_upd r2 4 45 3 0 4 45 2 = r 4 45 2 := by rw [z_upd_o _ _ rfl, e2 _ (by omega)]
    have n3 : z_upd r2 4 45 3 0 4 45 3 = 0 := z_upd_same _ _ _ _ _
    generalize z_upd r2 4 45 3 0 = r3 at o3 n0 n1 n2 n3 ⊢
    obtain ⟨r4, g1, g2, g3⟩ := cp205 (k := fun m34 => zs (f208_1 m34) fun m38 => ((0 : Int), m38)) (zfu 97) 0 r3 (by omega) (by omega) (by rw [zfu_eq]; omega) o3
    rw [g1, zs_a]
    obtain ⟨q1, q2⟩ := q208_1 g2.1 g2.2 (by omega)
    dsimp only
    refine ⟨a3, ?_, ?_, ?_, ?_⟩
    · rw [f208_time g2 (by omega), a4, g3 _ (by omega), n0, ht]
    · rw [jx q2 22 (ja45_1 (by omega)) rfl, g3 _ (by omega), n1]; exact a1
    · rw [jx q2 22 (ja45_1 (by omega)) rfl, g3 _ (by omega), n2]; exact a2
    · rw [jx q2 22 (ja45_1 (by omega)) rfl, g3 _ (by omega), n3]; exact a3
end
section
/-! off, move, phases on both sides: time and shape. -/
theorem off_loop {g : Nat} (hg : g < 3) {a b : Int} (hb : 1 ≤ b ∧ b ≤ 1000000) : ∀ (n : Nat) (y3 y4 : Int) (m : zM) (B : Int), OM B m → 0 ≤ y3 → y3 ≤ 100000 → 0 ≤ y4 → y3 + y4 ≤ a → a - y4 < n → m g 8 9 + y3 ≤ 2000000000 → B + (a - y4) ≤ 1000000000 →
    ∃ m', fl131_43_1 (fun m => m) g a b n y3 y4 m = m' ∧ m' g 8 9 = m g 8 9 + y3 ∧ (∀ i, 0 ≤ i → i ≤ 6 → m' g 19 i = m g 19 i) := by
  intro n
  induction n with
  | zero =>
    intro y3 y4 m B h h0 h1 h2 h3 h4
    omega
  | succ n ih =>
    intro y3 y4 m B h h0 h1 h2 h3 h4 h5 hB
    have ht := h.t g
    show ∃ m', fl131_43_1_b (fl131_43_1 (fun m => m) g a b n) (fun m => m) g a b y3 y4 m = m' ∧ _
    unfold fl131_43_1_b
    by_cases c : a ≤ y4
    · rw [if_pos c]
      exact ⟨m, rfl, by omega, fun _ _ _ => rfl⟩
    rw [if_neg c]
    by_cases c2 : y3 ≤ 0
    · rw [if_pos c2]
      exact ⟨m, rfl, by omega, fun _ _ _ => rfl⟩
    rw [if_neg c2, zn_a]
    have hm := Int.emod_nonneg (m g 8 9) (show b ≠ 0 by omega)
    have hm2 := Int.emod_lt_of_pos (m g 8 9) (show 0 < b by omega)
    obtain ⟨k, hk⟩ : ∃ k, k = min y3 (b - m g 8 9 % b) := ⟨_, rfl⟩
    rw [← hk]
    obtain ⟨d1, d2⟩ := q133_1 g k (m g 33 3) h.1 h.2 (by omega) hg (by omega) (h.i (k := 33) (fj := 3) rfl rfl (zv33 hg) hg)
    have e1 := jt d2 g rfl
    have x1 : ∀ i, 0 ≤ i → i ≤ 6 → f133_1 g k (m g 33 3) m g 19 i = m g 19 i := fun i i0 i1 => jx d2 2 (ja19_0 ⟨i0, i1⟩) rfl
    have o1 : OM B (f133_1 g k (m g 33 3) m) := ⟨d1, d2.jb⟩
    rw [zs_a]
    generalize f133_1 g k (m g 33 3) m = m1 at e1 o1 x1 ⊢
    have o2 := u8_15 (g := g) o1 (w32_r (m1 g 8 15 + k))
    have e2 : z_upd m1 g 8 15 (w32 (m1 g 8 15 + k)) g 8 9 = m1 g 8 9 := z_upd_o _ _ rfl
    have x2 : ∀ i, z_upd m1 g 8 15 (w32 (m1 g 8 15 + k)) g 19 i = m1 g 19 i := fun i => by rw [zu_k _ _ _ (by decide)]
    rw [zn_a, zs_a]
    generalize z_upd m1 g 8 15 (w32 (m1 g 8 15 + k)) = m2 at o2 e2 x2 ⊢
    have o3 := u8_9 (g := g) (x := m2 g 8 9 + k) o2 (by omega)
    have e3 : z_upd m2 g 8 9 (m2 g 8 9 + k) g 8 9 = m2 g 8 9 + k := z_upd_same _ _ _ _ _
    have x3 : ∀ i, z_upd m2 g 8 9 (m2 g 8 9 + k) g 19 i = m2 g 19 i := fun i => by rw [zu_k _ _ _ (by decide)]
    rw [zs_a]
    generalize z_upd m2 g 8 9 (m2 g 8 9 + k) = m3 at o3 e3 x3 ⊢
    have b1 := q27_1 g (m3 g 8 9 - 1) o3.1 o3.2 (by omega) (by omega) (by omega)
    rw [zn_a]
    generalize f27_1 g (m3 g 8 9 - 1) m3 = v at b1 ⊢
    obtain ⟨r1, r2⟩ := q59_1 g v o3.1 o3.2 (by omega) hg b1
    have e4 := jt r2 g rfl
    have x4 : ∀ i, 0 ≤ i → i ≤ 6 → f59_1 g v m3 g 19 i = m3 g 19 i := fun i i0 i1 => jx r2 2 (ja19_0 ⟨i0, i1⟩) rfl
    rw [zs_a]
    obtain ⟨m', g1, g2, g3⟩ := ih (y3 - k) (y4 + 1) _ (B + 1) ⟨r1, r2.jb⟩ (by omega) (by omega) (by omega) (by omega) (by omega) (by omega) (by omega)
    exact ⟨m', g1, by omega, fun i i0 i1 => by rw [g3 i i0 i1, x4 i i0 i1, x3, x2, x1 i i0 i1]⟩
theorem f131_T {m : zM} {B a : Int} {g : Nat} (h : OM B m) (hB : B + 100006 ≤ 1000000000) (hg : g < 3) (ha : 1 ≤ a ∧ a ≤ 100000) (ht : m g 8 9 + a ≤ 2000000000) : f131_1 g a m g 8 9 = m g 8 9 + a ∧ f131_1 g a m g 19 3 = m g 19 3 ∧ f131_1 g a m g 19 4 = m g 19 4 ∧ f131_1 g a m g 19 5 = 0 := by
  unfold f131_1
  obtain ⟨d1, d2⟩ := q54_7 g 21 a h.1 h.2 (by omega) hg (by omega) (by omega)
  have e1 := jt d2 g rfl
  have x1 : ∀ i, 0 ≤ i → i ≤ 6 → f54_1 g 21 a m g 19 i = m g 19 i := fun i i0 i1 => jx d2 2 (ja19_0 ⟨i0, i1⟩) rfl
  have o1 : OM (B + 1) (f54_1 g 21 a m) := ⟨d1, d2.jb⟩
  rw [zs_a]
  generalize f54_1 g 21 a m = m1 at e1 o1 x1 ⊢
  obtain ⟨d3, d4⟩ := q132_1 g g (m1 g 8 9) o1.1 o1.2 (by omega) hg hg (o1.t g)
  have e2 := jt d4 g rfl
  have x2 : ∀ i, 0 ≤ i → i ≤ 6 → f132_1 g g (m1 g 8 9) m1 g 19 i = m1 g 19 i := fun i i0 i1 => jx d4 2 (ja19_0 ⟨i0, i1⟩) rfl
  have o2 : OM (B + 5) (f132_1 g g (m1 g 8 9) m1) := .q d3 d4 (by omega)
  rw [zs_a]
  generalize f132_1 g g (m1 g 8 9) m1 = m2 at e2 o2 x2 ⊢
  have o3 := u19_5 (g := g) (x := 0) o2 (by omega)
  have e3 : z_upd m2 g 19 5 0 g 8 9 = m2 g 8 9 := z_upd_o _ _ rfl
  have n3 : z_upd m2 g 19 5 0 g 19 3 = m2 g 19 3 := z_upd_o _ _ rfl
  have n4 : z_upd m2 g 19 5 0 g 19 4 = m2 g 19 4 := z_upd_o _ _ rfl
  have n5 : z_upd m2 g 19 5 0 g 19 5 = 0 := z_upd_same _ _ _ _ _
  rw [zs_a]
  generalize z_upd m2 g 19 5 0 = m3 at o3 e3 n3 n4 n5 ⊢
  have hb : 0 ≤ m3 g 10 4 ∧ m3 g 10 4 ≤ 1000000 := r10_0 o3.2.o g (i := 4) (by omega)
  obtain ⟨m', g1, g2, g3⟩ := off_loop hg (a := a) (b := max 1 (m3 g 10 4)) (by omega) (zfu 100001) a 0 m3 (B + 5) o3 (by omega) (by omega) (by omega) (by omega) (by rw [zfu_eq]; omega) (by omega) (by omega)
  rw [g1, g2, g3 3 (by omega) (by omega), g3 4 (by omega) (by omega), g3 5 (by omega) (by omega), n3, n4, n5, x2 3 (by omega) (by omega), x2 4 (by omega) (by omega), x1 3 (by omega) (by omega), x1 4 (by omega) (by omega)]
  exact ⟨by omega, rfl, rfl, rfl⟩
theorem r282a {k : zM → Int × zM} {a : Int} : ∀ (n : Nat) (y : Int) (m : zM) (B : Int), OM B m → 2 ≤ y → y ≤ 5 → 5 - y < n → B + (5 - y) ≤ 1000000000 →
    ∃ m', fl282_47_1 k a n y m = k m' ∧ OM (B + (5 - y)) m' ∧ (∀ i, 0 ≤ i → i ≤ 3 → m' 4 45 i = m 4 45 i)
  | 0, y, m, B, h, h0, h1, h2, hB => by omega
  | n + 1, y, m, B, h, h0, h1, h2, hB => by
    show ∃ m', fl282_47_1_b (fl282_47_1 k a n) k a y m = k m' ∧ _
    unfold fl282_47_1_b
    by_cases c : 5 ≤ y
    · rw [if_pos c]
      exact ⟨m, rfl, h.up (by omega), fun _ _ _ => rfl⟩
    rw [if_neg c, zs_a]
    have o1 := u45_40 (g := 4) (i := 55 + y) (x := 0) h (by omega) (by omega)
    have e1 : ∀ i, i ≤ 3 → z_upd m 4 45 (55 + y) 0 4 45 i = m 4 45 i := fun i hi => z_upd_i _ _ _ _ (by omega)
    generalize z_upd m 4 45 (55 + y) 0 = m1 at o1 e1 ⊢
    obtain ⟨m2, hm2⟩ : ∃ x, x = (if (m1 4 45 (40 + y)) = 1 then (zs (f229_1 y m1) fun m19 => m19) else (m1)) := ⟨_, rfl⟩
    have o2 : OM (B + 1) m2 ∧ (∀ i, 0 ≤ i → i ≤ 3 → m2 4 45 i = m1 4 45 i) := by
      rw [hm2]
      by_cases c2 : m1 4 45 (40 + y) = 1
      · rw [if_pos c2, zs_a]
        obtain ⟨d1, d2⟩ := q229_1 y o1.1 o1.2 (by omega) (by omega)
        refine ⟨⟨d1, d2.jb⟩, fun i i0 i1 => ?_⟩
        by_cases e : i = 0
        · rw [e]
          exact jx d2 31 ja45_0 rfl
        · exact jx d2 22 (ja45_1 (by omega)) rfl
      · rw [if_neg c2]
        exact ⟨o1.up (by omega), fun _ _ _ => rfl⟩
    rw [zs_eq hm2]
    obtain ⟨m', g1, g2, g3⟩ := r282a (k := k) (a := a) n (y + 1) m2 (B + 1) o2.1 (by omega) (by omega) (by omega) (by omega)
    exact ⟨m', g1, g2.up (by omega), fun i i0 i1 => by rw [g3 i i0 i1, o2.2 i i0 i1, e1 i i1]⟩
theorem r282b {k : zM → Int × zM} {a : Int} : ∀ (n : Nat) (y : Int) (m : zM) (B : Int), OM B m → 0 ≤ y → y ≤ a → a - y < n → B + (a - y) ≤ 1000000000 → m 4 45 0 + (a - y) ≤ 2000000000 →
    ∃ m', fl282_89_1 k a n y m = k m' ∧ m' 4 45 0 = m 4 45 0 + (a - y) ∧ (∀ i, 1 ≤ i → i ≤ 3 → m' 4 45 i = m 4 45 i)
  | 0, y, m, B, h, h0, h1, h2, hB, ht => by omega
  | n + 1, y, m, B, h, h0, h1, h2, hB, ht => by
    have hw := h.w
    show ∃ m', fl282_89_1_b (fl282_89_1 k a n) k a y m = k m' ∧ _
    unfold fl282_89_1_b
    by_cases c : a ≤ y
    · rw [if_pos c]
      exact ⟨m, rfl, by omega, fun _ _ _ => rfl⟩
    rw [if_neg c, zn_a, zs_a]
    have o1 := u45_14 (g := 4) (i := 15) h (by omega) (w64_r (m 4 45 15 + 1))
    have e1 : ∀ i, i ≤ 3 → z_upd m 4 45 15 (w64 (m 4 45 15 + 1)) 4 45 i = m 4 45 i := fun i hi => z_upd_i _ _ _ _ (by omega)
    generalize z_upd m 4 45 15 (w64 (m 4 45 15 + 1)) = m1 at o1 e1 ⊢
    rw [zn_a, zs_a]
    have o2 := u45_21 (g := 4) (i := 26) o1 (by omega) (w64_r (m1 4 45 26 + 1))
    have e2 : ∀ i, i ≤ 3 → z_upd m1 4 45 26 (w64 (m1 4 45 26 + 1)) 4 45 i = m1 4 45 i := fun i hi => z_upd_i _ _ _ _ (by omega)
    generalize z_upd m1 4 45 26 (w64 (m1 4 45 26 + 1)) = m2 at o2 e2 ⊢
    rw [zs_a]
    obtain ⟨d1, d2⟩ := q230_1 o2.1 o2.2 (by omega)
    have e3 := f230_time o2 (by omega)
    have e4 : ∀ i, 1 ≤ i → i ≤ 3 → f230_1 m2 4 45 i = m2 4 45 i := fun i i0 i1 => jx d2 22 (ja45_1 (by omega)) rfl
    rw [e2 _ (by omega), e1 _ (by omega)] at e3
    obtain ⟨m', g1, g2, g3⟩ := r282b (k := k) (a := a) n (y + 1) (f230_1 m2) (B + 1) ⟨d1, d2.jb⟩ (by omega) (by omega) (by omega) (by omega) (by omega)
    exact ⟨m', g1, by omega, fun i i0 i1 => by rw [g3 i i0 i1, e4 i i0 i1, e2 i i1, e1 i i1]⟩
theorem off_T {c r : zM} {B a : Int} (hc : OM B c) (hr : OM B r) (hB : B + 100006 ≤ 1000000000) (ht : c 0 8 9 = r 4 45 0) (hs : SH c r) : (f130_1 a c).1 = (f282_1 a r).1 ∧ (f130_1 a c).2 0 8 9 = (f282_1 a r).2 4 45 0 ∧ SH (f130_1 a c).2 (f282_1 a r).2 := by
  unfold f130_1 f282_1
  by_cases c1 : a < 1
  · rw [if_pos c1, if_pos c1]
    exact ⟨rfl, ht, hs⟩
  rw [if_neg c1, if_neg c1]
  by_cases c2 : a ≤ 100000
  case neg =>
    rw [if_pos (by omega), if_neg c2]
    exact ⟨rfl, ht, hs⟩
  rw [if_neg (by omega), if_pos c2, ht]
  by_cases c3 : r 4 45 0 + a ≤ 2000000000
  case neg =>
    rw [if_neg c3, if_neg c3]
    exact ⟨rfl, ht, hs⟩
  rw [if_pos c3, if_pos c3]
  obtain ⟨a1, a2, a3, a4⟩ := f131_T (a := a) (g := 0) hc hB (by omega) (by omega) (by omega)
  rw [zs_a, zs_a, zs_a]
  generalize f131_1 0 a c = c1 at a1 a2 a3 a4 ⊢
  obtain ⟨d1, d2⟩ := q223_1 21 a hr.1 hr.2 (by omega) (by omega) (by omega)
  have e1 : ∀ i, 0 ≤ i → i ≤ 3 → f223_1 21 a r 4 45 i = r 4 45 i := fun i i0 i1 => by
    by_cases e : i = 0
    · rw [e]
      exact jx d2 31 ja45_0 rfl
    · exact jx d2 22 (ja45_1 (by omega)) rfl
  have o1 : OM (B + 1) (f223_1 21 a r) := ⟨d1, d2.jb⟩
  generalize f223_1 21 a r = r1 at e1 o1 ⊢
  have o2 := u45_3 (g := 4) (x := 0) o1 (by omega)
  have n0 : z_upd r1 4 45 3 0 4 45 0 = r 4 45 0 := by rw [z_upd_o _ _ rfl, e1 _ (by omega) (by omega)]
  have n1 : z_upd r1 4 45 3 0 4 45 1 = r 4 45 1 := by rw [z_upd_o _ _ rfl, e1 _ (by omega) (by omega)]
  have n2 : z_upd r1 4 45 3 0 4 45 2 = r 4 45 2 := by rw [z_upd_o _ _ rfl, e1 _ (by omega) (by omega)]
  have n3 : z_upd r1 4 45 3 0 4 45 3 = 0 := z_upd_same _ _ _ _ _
  generalize z_upd r1 4 45 3 0 = r2 at o2 n0 n1 n2 n3 ⊢
  obtain ⟨r3, g1, g2, g3⟩ := r282a (k := fun m16 => fl282_89_1 (fun m20 => ((m20 4 45 0), m20)) a (zfu 100001) 0 m16) (a := a) (zfu 4) 2 r2 (B + 1) o2 (by omega) (by omega) (by rw [zfu_eq]; omega) (by omega)
  rw [g1]
  dsimp only
  have z0 := g3 0 (by omega) (by omega)
  obtain ⟨r4, g4, g5, g6⟩ := r282b (k := fun m20 => ((m20 4 45 0), m20)) (a := a) (zfu 100001) 0 r3 (B + 1 + (5 - 2)) g2 (by omega) (by omega) (by rw [zfu_eq]; omega) (by omega) (by omega)
  rw [g4]
  obtain ⟨s1, s2, s3⟩ := hs
  dsimp only
  refine ⟨by omega, by omega, ?_, ?_, ?_⟩
  · rw [g6 _ (by omega) (by omega), g3 _ (by omega) (by omega), n1, a2]
    exact s1
  · rw [g6 _ (by omega) (by omega), g3 _ (by omega) (by omega), n2, a3]
    exact s2
  · rw [g6 _ (by omega) (by omega), g3 _ (by omega) (by omega), n3, a4]
end
section
/-! The seal on both sides. -/
def SE (B : Int) (c : Nat → Int → Int) (w : Int → Int) : Prop := c 39 0 = w 1614 ∧ c 39 1 = w 1615 ∧ c 39 2 = w 1616 ∧ c 39 4 = w 1617 ∧ c 39 3 = w 1618 ∧ 0 ≤ c 39 3 ∧ c 39 3 ≤ B
theorem SE.up {B B' : Int} {c : Nat → Int → Int} {w : Int → Int} (h : SE B c w) (hb : B ≤ B') : SE B' c w := ⟨h.1, h.2.1, h.2.2.1, h.2.2.2.1, h.2.2.2.2.1, h.2.2.2.2.2.1, Int.le_trans h.2.2.2.2.2.2 hb⟩
theorem SE.of {B : Int} {c c' : Nat → Int → Int} {w w' : Int → Int} (h : SE B c w) (hc : ∀ i, 0 ≤ i → i ≤ 4 → c' 39 i = c 39 i) (hw : ∀ i, 1614 ≤ i → i ≤ 1618 → w' i = w i) : SE B c' w' := by
  unfold SE
  rw [hc 0 (by omega) (by omega), hc 1 (by omega) (by omega), hc 2 (by omega) (by omega), hc 3 (by omega) (by omega), hc 4 (by omega) (by omega), hw 1614 (by omega) (by omega), hw 1615 (by omega) (by omega), hw 1616 (by omega) (by omega), hw 1617 (by omega) (by omega), hw 1618 (by omega) (by omega)]
  exact h
theorem shut_T {c r : zM} {B : Int} (hc : OM B c) (hr : OM B r) (hB : B + 1 ≤ 1000000000) (hs : SE B (c 0) (r 4 45)) :
    ∃ v c' r', f17_1 0 c = (v, c') ∧ f203_1 r = (v, r') ∧ (v = 0 ∨ v = 1) ∧ v = c 0 39 0 ∧ OM B c' ∧ OM B r' ∧ SE (B + 1) (c' 0) (r' 4 45) ∧ (∀ g k i, ¬ (g = 0 ∧ k = 39 ∧ i = 3) → c' g k i = c g k i) ∧ (∀ g k i, ¬ (g = 4 ∧ k = 45 ∧ i = 1618) → r' g k i = r g k i) := by
  obtain ⟨k1, k2, k3⟩ := q17_1 0 hc.1 hc.2 (by omega) (by omega)
  obtain ⟨k4, k5, k6⟩ := q203_1 hr.1 hr.2 (by omega)
  have hv : 0 ≤ c 0 39 0 ∧ c 0 39 0 ≤ 1 := r39_0 hc.2.o 0
  obtain ⟨s1, s2, s3, s4, s5, s6, s7⟩ := hs
  refine ⟨c 0 39 0, (f17_1 0 c).2, (f203_1 r).2, ?_, ?_, by omega, rfl, ⟨k1, k2.jb⟩, ⟨k4, k5.jb⟩, ?_, ?_, ?_⟩
  · refine Prod.ext ?_ rfl
    unfold f17_1
    simp only [zs_a, zn_a]
    by_cases h : c 0 39 0 = 0
    · rw [if_pos h]
    · rw [if_neg h]
      show z_upd c 0 39 3 (w32 (c 0 39 3 + 1)) 0 39 0 = c 0 39 0
      rw [z_upd_o _ _ rfl]
  · refine Prod.ext ?_ rfl
    unfold f203_1
    simp only [zs_a, zn_a]
    rw [z_upd_o _ _ rfl, ← s1]
    by_cases h : c 0 39 0 = 1
    · rw [if_pos h, h]
    · rw [if_neg h]
      omega
  · unfold f17_1 f203_1
    simp only [zs_a, zn_a]
    rw [w64_id (by omega)]
    by_cases h : c 0 39 0 = 0
    · rw [if_pos h]
      refine SE.up (SE.of ⟨s1, s2, s3, s4, s5, s6, s7⟩ (fun i _ _ => rfl) (fun i i0 i1 => ?_)) (by omega)
      rw [zu_row]
      by_cases e : i = 1618
      · rw [e, fu_s]
        omega
      · rw [fu_i _ _ e]
    · rw [if_neg h, w32_id (by omega)]
      unfold SE
      try dsimp only
      rw [zu_row, zu_row, fu_i _ _ (show (0 : Int) ≠ 3 by decide), fu_i _ _ (show (1 : Int) ≠ 3 by decide), fu_i _ _ (show (2 : Int) ≠ 3 by decide), fu_i _ _ (show (4 : Int) ≠ 3 by decide), fu_i _ _ (show (1614 : Int) ≠ 1618 by decide), fu_i _ _ (show (1615 : Int) ≠ 1618 by decide), fu_i _ _ (show (1616 : Int) ≠ 1618 by decide), fu_i _ _ (show (1617 : Int) ≠ 1618 by decide), fu_s, fu_s]
      omega
  · intro g k i h9
    unfold f17_1
    simp only [zs_a, zn_a]
    by_cases h : c 0 39 0 = 0
    · rw [if_pos h]
    · rw [if_neg h]
      unfold z_upd
      exact if_neg h9
  · intro g k i h9
    unfold f203_1
    simp only [zs_a, zn_a]
    unfold z_upd
    exact if_neg h9
theorem seal_T {c r : zM} {B a : Int} (hc : OM B c) (hr : OM B r) (hB : B + 1 ≤ 1000000000) (hs : SE B (c 0) (r 4 45)) : (f114_1 a c).1 = (f276_1 a r).1 ∧ SE B ((f114_1 a c).2 0) ((f276_1 a r).2 4 45) := by
  have hv : 0 ≤ c 0 39 0 ∧ c 0 39 0 ≤ 1 := r39_0 hc.2.o 0
  have s1 := hs.1
  unfold f114_1 f115_1 f276_1
  by_cases h : c 0 39 0 = 0
  case neg =>
    rw [if_neg h, if_pos (show r 4 45 1614 = 1 by omega), zb_a]
    exact ⟨rfl, hs⟩
  rw [if_pos h, if_neg (show ¬ r 4 45 1614 = 1 by omega)]
  by_cases c1 : a < 0
  · rw [if_pos c1, if_pos c1, zb_a]
    exact ⟨rfl, hs⟩
  rw [if_neg c1, if_neg c1]
  by_cases c2 : a ≤ 9999
  case neg =>
    rw [if_neg c2, if_neg c2, zb_a]
    exact ⟨rfl, hs⟩
  rw [if_pos c2, if_pos c2]
  simp only [zs_a, zb_a]
  rw [if_neg (by decide)]
  have o1 := u39_1 (g := 0) (x := a) (u39_0 (g := 0) (x := 1) hc (by omega)) (by omega)
  have o2 := u45_1615 (g := 4) (x := a) (u45_1614 (g := 4) (x := 1) hr (by omega)) (by omega)
  have e : SE B (z_upd (z_upd c 0 39 0 1) 0 39 1 a 0) (z_upd (z_upd r 4 45 1614 1) 4 45 1615 a 4 45) := by
    obtain ⟨s1, s2, s3, s4, s5, s6, s7⟩ := hs
    unfold SE
    rw [zu_row, zu_row, zu_row, zu_row, fu_i _ _ (show (0 : Int) ≠ 1 by decide), fu_s, fu_s, fu_i _ _ (show (2 : Int) ≠ 1 by decide), fu_i _ _ (show (2 : Int) ≠ 0 by decide), fu_i _ _ (show (3 : Int) ≠ 1 by decide), fu_i _ _ (show (3 : Int) ≠ 0 by decide), fu_i _ _ (show (4 : Int) ≠ 1 by decide), fu_i _ _ (show (4 : Int) ≠ 0 by decide),
      fu_i _ _ (show (1614 : Int) ≠ 1615 by decide), fu_s, fu_s, fu_i _ _ (show (1616 : Int) ≠ 1615 by decide), fu_i _ _ (show (1616 : Int) ≠ 1614 by decide), fu_i _ _ (show (1617 : Int) ≠ 1615 by decide), fu_i _ _ (show (1617 : Int) ≠ 1614 by decide), fu_i _ _ (show (1618 : Int) ≠ 1615 by decide), fu_i _ _ (show (1618 : Int) ≠ 1614 by decide)]
    exact ⟨rfl, rfl, s3, s4, s5, s6, s7⟩
  generalize z_upd (z_upd c 0 39 0 1) 0 39 1 a = c1 at o1 e ⊢
  generalize z_upd (z_upd r 4 45 1614 1) 4 45 1615 a = r1 at o2 e ⊢
  obtain ⟨d1, d2⟩ := q54_2 0 30 0 o1.1 o1.2 (by omega) (by omega) (by omega) (by omega)
  obtain ⟨d3, d4⟩ := q223_1 30 0 o2.1 o2.2 (by omega) (by omega) (by omega)
  refine ⟨rfl, ?_⟩
  dsimp only
  exact e.of (fun i i0 i1 => jx d2 4 (ja39_0 ⟨i0, i1⟩) rfl) (fun i i0 i1 => jx d4 24 (ja45_1614 ⟨i0, i1⟩) rfl)
theorem fuSE {B : Int} {c : Nat → Int → Int} {w : Int → Int} (h : SE B c w) {c' : Nat → Int → Int} {w' : Int → Int} (h0 : c' 39 0 = w' 1614) (h1 : c' 39 1 = w' 1615) (h2 : c' 39 2 = w' 1616) (h4 : c' 39 4 = w' 1617) (h3 : c' 39 3 = c 39 3) (h3' : w' 1618 = w 1618) : SE B c' w' := by
  obtain ⟨s1, s2, s3, s4, s5, s6, s7⟩ := h
  exact ⟨h0, h1, h2, h4, by rw [h3, h3']; exact s5, by omega, by omega⟩
theorem open_T {c r : zM} {B a : Int} (hc : OM B c) (hr : OM B r) (hB : B + 4 ≤ 1000000000) (ht : c 0 8 9 = r 4 45 0) (hs : SE B (c 0) (r 4 45)) : (f116_1 a c).1 = (f277_1 a r).1 ∧ SE B ((f116_1 a c).2 0) ((f277_1 a r).2 4 45) := by
  have hv : 0 ≤ c 0 39 0 ∧ c 0 39 0 ≤ 1 := r39_0 hc.2.o 0
  have hw2 : 0 ≤ r 4 45 1616 ∧ r 4 45 1616 ≤ B := r45_1616 hr.2.o 4
  have hw0 := hr.w
  obtain ⟨s1, s2, s3, s4, s5, s6, s7⟩ := hs
  have e118 : f118_1 0 (c 0 8 9) c = f278_1 r := by
    unfold f118_1 f278_1
    rw [ht, s4, zn_a]
    split <;> omega
  unfold f116_1 f117_1 f277_1
  by_cases h : c 0 39 0 = 0
  · rw [if_pos h, if_pos (show r 4 45 1614 = 0 by omega), zb_a]
    exact ⟨rfl, s1, s2, s3, s4, s5, s6, s7⟩
  rw [if_neg h, if_neg (show ¬ r 4 45 1614 = 0 by omega), zn_a, zn_a, e118]
  by_cases c1 : f278_1 r ≤ 0
  case neg =>
    rw [if_neg c1, if_neg c1, zb_a]
    exact ⟨rfl, s1, s2, s3, s4, s5, s6, s7⟩
  rw [if_pos c1, if_pos c1, s2]
  by_cases c2 : a = r 4 45 1615
  · rw [if_pos c2, if_pos c2]
    unfold f119_1
    simp only [zs_a, zb_a]
    have o1 := u39_4 (g := 0) (x := 0) (u39_2 (g := 0) (x := 0) (u39_0 (g := 0) (x := 0) hc (by omega)) (by omega) (by omega)) (by omega)
    have o2 := u45_1617 (g := 4) (x := 0) (u45_1616 (g := 4) (x := 0) (u45_1614 (g := 4) (x := 0) hr (by omega)) (by omega) (by omega)) (by omega)
    have e : SE B (z_upd (z_upd (z_upd c 0 39 0 0) 0 39 2 0) 0 39 4 0 0) (z_upd (z_upd (z_upd r 4 45 1614 0) 4 45 1616 0) 4 45 1617 0 4 45) := by
      refine fuSE ⟨s1, s2, s3, s4, s5, s6, s7⟩ ?_ ?_ ?_ ?_ ?_ ?_
      · rw [z_upd_o _ _ rfl, z_upd_o _ _ rfl, z_upd_same, z_upd_o _ _ rfl, z_upd_o _ _ rfl, z_upd_same]
      · rw [z_upd_o _ _ rfl, z_upd_o _ _ rfl, z_upd_o _ _ rfl, z_upd_o _ _ rfl, z_upd_o _ _ rfl, z_upd_o _ _ rfl]; exact s2
      · rw [z_upd_o _ _ rfl, z_upd_same, z_upd_o _ _ rfl, z_upd_same]
      · rw [z_upd_same, z_upd_same]
      · rw [z_upd_o _ _ rfl, z_upd_o _ _ rfl, z_upd_o _ _ rfl]
      · rw [z_upd_o _ _ rfl, z_upd_o _ _ rfl, z_upd_o _ _ rfl]
    generalize z_upd (z_upd (z_upd c 0 39 0 0) 0 39 2 0) 0 39 4 0 = c1 at o1 e ⊢
    generalize z_upd (z_upd (z_upd r 4 45 1614 0) 4 45 1616 0) 4 45 1617 0 = r1 at o2 e ⊢
    obtain ⟨d1, d2⟩ := q54_5 0 31 0 o1.1 o1.2 (by omega) (by omega) (by omega) (by omega)
    obtain ⟨d3, d4⟩ := q223_1 31 0 o2.1 o2.2 (by omega) (by omega) (by omega)
    refine ⟨by first | rfl | trivial, ?_⟩
    try dsimp only
    exact e.of (fun i i0 i1 => jx d2 4 (ja39_0 ⟨i0, i1⟩) rfl) (fun i i0 i1 => jx d4 24 (ja45_1614 ⟨i0, i1⟩) rfl)
  · rw [if_neg c2, if_neg c2]
    simp only [zs_a, zb_a]
    have o1 : OM (B + 1) (z_upd c 0 39 2 (c 0 39 2 + 1)) := u39_2 (g := 0) (hc.up (by omega)) (by omega) (by omega)
    have o2 : OM (B + 1) (z_upd r 4 45 1616 (r 4 45 1616 + 1)) := u45_1616 (g := 4) (hr.up (by omega)) (by omega) (by omega)
    have e : SE B (z_upd c 0 39 2 (c 0 39 2 + 1) 0) (z_upd r 4 45 1616 (r 4 45 1616 + 1) 4 45) := by
      refine fuSE ⟨s1, s2, s3, s4, s5, s6, s7⟩ ?_ ?_ ?_ ?_ ?_ ?_
      · rw [z_upd_o _ _ rfl, z_upd_o _ _ rfl]; exact s1
      · rw [z_upd_o _ _ rfl, z_upd_o _ _ rfl]; exact s2
      · rw [z_upd_same, z_upd_same, s3]
      · rw [z_upd_o _ _ rfl, z_upd_o _ _ rfl]; exact s4
      · rw [z_upd_o _ _ rfl]
      · rw [z_upd_o _ _ rfl]
    have t1 : z_upd c 0 39 2 (c 0 39 2 + 1) 0 8 9 = r 4 45 0 := by rw [z_upd_o _ _ rfl]; exact ht
    have t2 : z_upd r 4 45 1616 (r 4 45 1616 + 1) 4 45 0 = r 4 45 0 := z_upd_o _ _ rfl
    have b2 : z_upd c 0 39 2 (c 0 39 2 + 1) 0 39 2 = c 0 39 2 + 1 := z_upd_same _ _ _ _ _
    have b3 : z_upd r 4 45 1616 (r 4 45 1616 + 1) 4 45 1616 = r 4 45 1616 + 1 := z_upd_same _ _ _ _ _
    generalize z_upd c 0 39 2 (c 0 39 2 + 1) = c1 at o1 e t1 b2 ⊢
    generalize z_upd r 4 45 1616 (r 4 45 1616 + 1) = r1 at o2 e t2 b3 ⊢
    obtain ⟨d1, d2⟩ := q54_3 0 32 (c1 0 39 2) o1.1 o1.2 (by omega) (by omega) (by omega) (by omega)
    obtain ⟨d3, d4⟩ := q223_1 32 (r1 4 45 1616) o2.1 o2.2 (by omega) (by omega) (by omega)
    have e2 := e.of (fun i i0 i1 => jx d2 4 (g := 0) (ja39_0 ⟨i0, i1⟩) rfl) (fun i i0 i1 => jx d4 24 (g := 4) (ja45_1614 ⟨i0, i1⟩) rfl)
    have t3 := (jt d2 0 rfl).trans t1
    have t4 := (jw0 d4 rfl).trans t2
    have o3 : OM (B + 2) (f54_1 0 32 (c1 0 39 2) c1) := .q d1 d2 (by omega)
    have o4 : OM (B + 2) (f223_1 32 (r1 4 45 1616) r1) := .q d3 d4 (by omega)
    generalize f54_1 0 32 (c1 0 39 2) c1 = c2 at o3 e2 t3 ⊢
    generalize f223_1 32 (r1 4 45 1616) r1 = r2 at o4 e2 t4 ⊢
    obtain ⟨v1, v2, v3, v4, v5, v6, v7⟩ := e2
    rw [v3]
    by_cases c3 : r2 4 45 1616 < 3
    · rw [if_pos c3, if_pos c3]
      exact ⟨rfl, v1, v2, v3, v4, v5, v6, v7⟩
    · rw [if_neg c3, if_neg c3]
      unfold f121_1
      simp only [zs_a]
      have o5 := u39_4 (g := 0) (x := c2 0 8 9 + 300) (u39_2 (g := 0) (x := 0) o3 (by omega) (by omega)) (by omega)
      have t5 : z_upd r2 4 45 1616 0 4 45 0 = r2 4 45 0 := z_upd_o _ _ rfl
      rw [t5]
      have o6 := u45_1617 (g := 4) (x := r2 4 45 0 + 300) (u45_1616 (g := 4) (x := 0) o4 (by omega) (by omega)) (by omega)
      have e3 : SE B (z_upd (z_upd c2 0 39 2 0) 0 39 4 (c2 0 8 9 + 300) 0) (z_upd (z_upd r2 4 45 1616 0) 4 45 1617 (r2 4 45 0 + 300) 4 45) := by
        refine fuSE ⟨v1, v2, v3, v4, v5, v6, v7⟩ ?_ ?_ ?_ ?_ ?_ ?_
        · rw [z_upd_o _ _ rfl, z_upd_o _ _ rfl, z_upd_o _ _ rfl, z_upd_o _ _ rfl]; exact v1
        · rw [z_upd_o _ _ rfl, z_upd_o _ _ rfl, z_upd_o _ _ rfl, z_upd_o _ _ rfl]; exact v2
        · rw [z_upd_o _ _ rfl, z_upd_same, z_upd_o _ _ rfl, z_upd_same]
        · rw [z_upd_same, z_upd_same]
          omega
        · rw [z_upd_o _ _ rfl, z_upd_o _ _ rfl]
        · rw [z_upd_o _ _ rfl, z_upd_o _ _ rfl]
      generalize z_upd (z_upd c2 0 39 2 0) 0 39 4 (c2 0 8 9 + 300) = c3 at o5 e3 ⊢
      generalize z_upd (z_upd r2 4 45 1616 0) 4 45 1617 (r2 4 45 0 + 300) = r3 at o6 e3 ⊢
      obtain ⟨d5, d6⟩ := q54_4 0 33 0 o5.1 o5.2 (by omega) (by omega) (by omega) (by omega)
      obtain ⟨d7, d8⟩ := q223_1 33 0 o6.1 o6.2 (by omega) (by omega) (by omega)
      refine ⟨by first | rfl | trivial, ?_⟩
      try dsimp only
      exact e3.of (fun i i0 i1 => jx d6 4 (ja39_0 ⟨i0, i1⟩) rfl) (fun i i0 i1 => jx d8 24 (ja45_1614 ⟨i0, i1⟩) rfl)
end
section
/-! The calendar's calls on both sides; move, phases. -/
theorem shut_R {c r : zM} {B : Int} (hc : OM B c) (hr : OM B r) (hB : B + 1 ≤ 1000000000) (hs : SE B (c 0) (r 4 45)) (h : CR (c 0) (r 4 45)) :
    ∃ v c' r', f17_1 0 c = (v, c') ∧ f203_1 r = (v, r') ∧ (v = 0 ∨ v = 1) ∧ OM B c' ∧ OM B r' ∧ SE (B + 1) (c' 0) (r' 4 45) ∧ CR (c' 0) (r' 4 45) ∧ (∀ g k i, ¬ (g = 0 ∧ k = 39 ∧ i = 3) → c' g k i = c g k i) ∧ (∀ g k i, ¬ (g = 4 ∧ k = 45 ∧ i = 1618) → r' g k i = r g k i) := by
  obtain ⟨v, c', r', e1, e2, hv, -, oc, ro, se, fc, fr⟩ := shut_T hc hr hB hs
  exact ⟨v, c', r', e1, e2, hv, oc, ro, se, (h.w (CB.of hc.2 0) (fun i i0 i1 => fr 4 45 i (by omega))).c (fc 0 11 7 (by omega)) (funext fun i => fc 0 12 i (by omega)) (funext fun i => fc 0 13 i (by omega)) (funext fun i => fc 0 14 i (by omega)) (funext fun i => fc 0 15 i (by omega)) (funext fun i => fc 0 16 i (by omega)) (funext fun i => fc 0 17 i (by omega)) (funext fun i => fc 0 18 i (by omega)), fc, fr⟩
theorem SE.zu {B : Int} {c r : zM} (h : SE B (c 0) (r 4 45)) {k : Nat} {i x j y : Int} (hk : k ≠ 39) (hj : j < 1614) : SE B (z_upd c 0 k i x 0) (z_upd r 4 45 j y 4 45) :=
  h.of (fun a _ _ => by rw [zu_k _ _ _ (fun e => hk e.symm)]) (fun a a0 a1 => by rw [zu_row, fu_i _ _ (by omega)])
theorem table_T {c r : zM} {B a b d : Int} (hc : OM B c) (hr : OM B r) (hB : B + 1 ≤ 1000000000) (hs : SE B (c 0) (r 4 45)) (h : CR (c 0) (r 4 45)) :
    (f78_1 a b d c).1 = (f240_1 a b d r).1 ∧ SE (B + 1) ((f78_1 a b d c).2 0) ((f240_1 a b d r).2 4 45) ∧ CR ((f78_1 a b d c).2 0) ((f240_1 a b d r).2 4 45) := by
  obtain ⟨v, c1, r1, e1, e2, hv, oc, ro, se, cr, -, -⟩ := shut_R hc hr hB hs h
  have main : 0 ≤ a → a < 8 → 0 ≤ b → b ≤ 86399 → 0 ≤ d → d ≤ 3 → (f81_1 0 a b d c1).1 = (f243_1 a b d r1).1 ∧ SE (B + 1) ((f81_1 0 a b d c1).2 0) ((f243_1 a b d r1).2 4 45) ∧ CR ((f81_1 0 a b d c1).2 0) ((f243_1 a b d r1).2 4 45) := by
    intro h0 h1 h2 h3 h4 h5
    obtain ⟨p1, p2⟩ := put_eq cr (CB.of oc.2 0) (s := b) (x := d) h0 h1
    obtain ⟨-, k2, -⟩ := q81_1 0 a b d oc.1 oc.2 (by omega) (by omega) (by omega) (by omega) (by omega)
    obtain ⟨-, k4, -⟩ := q243_1 a b d ro.1 ro.2 (by omega) (by omega) (by omega) (by omega)
    exact ⟨p1, se.of (fun i i0 i1 => jx k2 4 (ja39_0 ⟨i0, i1⟩) rfl) (fun i i0 i1 => jx k4 24 (ja45_1614 ⟨i0, i1⟩) rfl), p2⟩
  unfold f78_1 f240_1
  rw [e1, e2]
  simp only [zb_a]
  repeat' split
  all_goals first
    | exact ⟨by first | rfl | trivial, se, cr⟩
    | (exfalso; omega)
    | exact main (by omega) (by omega) (by omega) (by omega) (by omega) (by omega)
theorem wipe_T {c r : zM} {B a : Int} (hc : OM B c) (hr : OM B r) (hB : B + 1 ≤ 1000000000) (hs : SE B (c 0) (r 4 45)) (h : CR (c 0) (r 4 45)) :
    (f83_1 a c).1 = (f244_1 a r).1 ∧ SE (B + 1) ((f83_1 a c).2 0) ((f244_1 a r).2 4 45) ∧ CR ((f83_1 a c).2 0) ((f244_1 a r).2 4 45) := by
  obtain ⟨v, c1, r1, e1, e2, hv, oc, ro, se, cr, -, -⟩ := shut_R hc hr hB hs h
  have main : 0 ≤ a → a < 8 → c1 0 12 a = r1 4 45 (287 + a) ∧ SE (B + 1) (z_upd c1 0 12 a 0 0) (z_upd r1 4 45 (287 + a) 0 4 45) ∧ CR (z_upd c1 0 12 a 0 0) (z_upd r1 4 45 (287 + a) 0 4 45) := by
    intro h0 h1
    refine ⟨cr.1.1 a h0 h1, se.zu (by decide) (by omega), ?_, ?_, ?_⟩
    · rw [zu_row, zu_row, zu_k _ _ _ (show (13 : Nat) ≠ 12 by decide), zu_k _ _ _ (show (14 : Nat) ≠ 12 by decide)]
      exact cr.1.wipe (CB.of oc.2 0).n6 h0 h1
    · rw [zu_row, zu_k _ _ _ (show (15 : Nat) ≠ 12 by decide), zu_k _ _ _ (show (16 : Nat) ≠ 12 by decide)]
      exact cr.2.1.w (fun i i0 i1 => fu_i _ _ (by omega))
    · rw [zu_row, zu_k _ _ _ (show (11 : Nat) ≠ 12 by decide), zu_k _ _ _ (show (17 : Nat) ≠ 12 by decide), zu_k _ _ _ (show (18 : Nat) ≠ 12 by decide)]
      exact cr.2.2.w (CB.of oc.2 0).d (fun i i0 i1 => fu_i _ _ (by omega))
  unfold f83_1 f244_1
  rw [e1, e2]
  simp only [zb_a, zs_a, f84_1]
  repeat' split
  all_goals first
    | exact ⟨by first | rfl | trivial, se, cr⟩
    | (exfalso; omega)
    | exact main (by omega) (by omega)
theorem season_T {c r : zM} {B a b : Int} (hc : OM B c) (hr : OM B r) (hB : B + 1 ≤ 1000000000) (hs : SE B (c 0) (r 4 45)) (h : CR (c 0) (r 4 45)) :
    (f122_1 a b c).1 = (f245_1 a b r).1 ∧ SE (B + 1) ((f122_1 a b c).2 0) ((f245_1 a b r).2 4 45) ∧ CR ((f122_1 a b c).2 0) ((f245_1 a b r).2 4 45) := by
  obtain ⟨v, c1, r1, e1, e2, hv, oc, ro, se, cr, -, -⟩ := shut_R hc hr hB hs h
  have main : 0 ≤ a → a < 4 → (1 : Int) = 1 ∧ SE (B + 1) (z_upd c1 0 15 a b 0) (z_upd r1 4 45 (391 + a) b 4 45) ∧ CR (z_upd c1 0 15 a b 0) (z_upd r1 4 45 (391 + a) b 4 45) := by
    intro h0 h1
    refine ⟨rfl, se.zu (by decide) (by omega), ?_, ?_, ?_⟩
    · rw [zu_row, zu_k _ _ _ (show (12 : Nat) ≠ 15 by decide), zu_k _ _ _ (show (13 : Nat) ≠ 15 by decide), zu_k _ _ _ (show (14 : Nat) ≠ 15 by decide)]
      exact cr.1.w (CB.of oc.2 0).n6 (fun i i0 i1 => fu_i _ _ (by omega))
    · rw [zu_row, zu_row, zu_k _ _ _ (show (16 : Nat) ≠ 15 by decide)]
      exact cr.2.1.season h0 h1
    · rw [zu_row, zu_k _ _ _ (show (11 : Nat) ≠ 15 by decide), zu_k _ _ _ (show (17 : Nat) ≠ 15 by decide), zu_k _ _ _ (show (18 : Nat) ≠ 15 by decide)]
      exact cr.2.2.w (CB.of oc.2 0).d (fun i i0 i1 => fu_i _ _ (by omega))
  unfold f122_1 f245_1
  rw [e1, e2]
  simp only [zb_a, zs_a, zn_a]
  repeat' split
  all_goals first
    | exact ⟨by first | rfl | trivial, se, cr⟩
    | (exfalso; omega)
    | exact main (by omega) (by omega)
theorem week_T {c r : zM} {B a b d : Int} (hc : OM B c) (hr : OM B r) (hB : B + 1 ≤ 1000000000) (hs : SE B (c 0) (r 4 45)) (h : CR (c 0) (r 4 45)) :
    (f124_1 a b d c).1 = (f247_1 a b d r).1 ∧ SE (B + 1) ((f124_1 a b d c).2 0) ((f247_1 a b d r).2 4 45) ∧ CR ((f124_1 a b d c).2 0) ((f247_1 a b d r).2 4 45) := by
  obtain ⟨v, c1, r1, e1, e2, hv, oc, ro, se, cr, -, -⟩ := shut_R hc hr hB hs h
  have main : 0 ≤ a → a < 4 → 0 ≤ b → b ≤ 6 → (1 : Int) = 1 ∧ SE (B + 1) (z_upd c1 0 16 (a * 7 + b) d 0) (z_upd r1 4 45 (395 + 7 * a + b) d 4 45) ∧ CR (z_upd c1 0 16 (a * 7 + b) d 0) (z_upd r1 4 45 (395 + 7 * a + b) d 4 45) := by
    intro h0 h1 h2 h3
    refine ⟨rfl, se.zu (by decide) (by omega), ?_, ?_, ?_⟩
    · rw [zu_row, zu_k _ _ _ (show (12 : Nat) ≠ 16 by decide), zu_k _ _ _ (show (13 : Nat) ≠ 16 by decide), zu_k _ _ _ (show (14 : Nat) ≠ 16 by decide)]
      exact cr.1.w (CB.of oc.2 0).n6 (fun i i0 i1 => fu_i _ _ (by omega))
    · rw [zu_row, zu_row, zu_k _ _ _ (show (15 : Nat) ≠ 16 by decide), show 395 + 7 * a + b = 395 + (a * 7 + b) by omega]
      exact cr.2.1.week (by omega) (by omega)
    · rw [zu_row, zu_k _ _ _ (show (11 : Nat) ≠ 16 by decide), zu_k _ _ _ (show (17 : Nat) ≠ 16 by decide), zu_k _ _ _ (show (18 : Nat) ≠ 16 by decide)]
      exact cr.2.2.w (CB.of oc.2 0).d (fun i i0 i1 => fu_i _ _ (by omega))
  unfold f124_1 f247_1
  rw [e1, e2]
  simp only [zb_a, zs_a]
  repeat' split
  all_goals first
    | exact ⟨by first | rfl | trivial, se, cr⟩
    | (exfalso; omega)
    | exact main (by omega) (by omega) (by omega) (by omega)
theorem special_T {c r : zM} {B a b : Int} (hc : OM B c) (hr : OM B r) (hB : B + 1 ≤ 1000000000) (hs : SE B (c 0) (r 4 45)) (h : CR (c 0) (r 4 45)) :
    (f125_1 a b c).1 = (f248_1 a b r).1 ∧ SE (B + 1) ((f125_1 a b c).2 0) ((f248_1 a b r).2 4 45) ∧ CR ((f125_1 a b c).2 0) ((f248_1 a b r).2 4 45) := by
  obtain ⟨v, c1, r1, e1, e2, hv, oc, ro, se, cr, -, -⟩ := shut_R hc hr hB hs h
  have hb := CB.of oc.2 0
  unfold f125_1 f248_1
  rw [e1, e2]
  simp only [zb_a, zs_a, zn_a]
  by_cases h0 : v = 0
  case neg =>
    rw [if_neg h0, if_neg h0]
    exact ⟨by first | rfl | trivial, se, cr⟩
  rw [if_pos h0, if_pos h0]
  by_cases h1 : a < 0
  · rw [if_pos h1, if_pos h1]
    exact ⟨by first | rfl | trivial, se, cr⟩
  rw [if_neg h1, if_neg h1]
  by_cases h2 : a < 365
  case neg =>
    rw [if_neg h2, if_neg (show ¬ a ≤ 364 by omega)]
    exact ⟨by first | rfl | trivial, se, cr⟩
  rw [if_pos h2, if_pos (show a ≤ 364 by omega)]
  by_cases h3 : b = -1
  · rw [if_pos h3, if_pos h3]
    obtain ⟨p1, p2⟩ := spdrop_eq cr hb (d := a) (by omega) h2
    by_cases h4 : r1 4 45 (423 + a) = -1
    · rw [p1 h4, if_pos h4, if_pos rfl]
      exact ⟨by first | rfl | trivial, se, cr⟩
    · obtain ⟨p3, p4⟩ := p2 h4
      obtain ⟨-, k2, -⟩ := q126_1 0 a oc.1 oc.2 (by omega) (by omega) (by omega)
      rw [if_neg h4, if_neg (by decide)]
      refine ⟨p3, se.of (fun i i0 i1 => jx k2 4 (ja39_0 ⟨i0, i1⟩) rfl) (fun i i0 i1 => ?_), ?_⟩
      · dsimp only
        rw [zu_row, fu_i _ _ (by omega)]
      · dsimp only
        rw [zu_row, h3]
        exact p4
  rw [if_neg h3, if_neg h3]
  by_cases h4 : b < 0
  · rw [if_pos h4, if_pos h4]
    exact ⟨by first | rfl | trivial, se, cr⟩
  rw [if_neg h4, if_neg h4]
  by_cases h5 : 8 ≤ b
  · rw [if_pos h5, if_neg (show ¬ b ≤ 7 by omega)]
    exact ⟨by first | rfl | trivial, se, cr⟩
  rw [if_neg h5, if_pos (show b ≤ 7 by omega), sps_eq, cr.2.2.2.2.2]
  obtain ⟨p1, p2⟩ := spput_eq cr hb (d := a) (t := b) (by omega) h2 (by omega)
  have main : ¬ (r1 4 45 (423 + a) = -1 ∧ c1 0 11 7 = 16) → ((if (f109_1 0 a b c1).1 = 0 then (0 : Int) else 1) = 1) ∧ SE (B + 1) ((f109_1 0 a b c1).2 0) (z_upd r1 4 45 (423 + a) b 4 45) ∧ CR ((f109_1 0 a b c1).2 0) (z_upd r1 4 45 (423 + a) b 4 45) := by
    intro h9
    obtain ⟨p3, p4⟩ := p2 h9
    obtain ⟨-, k2, -⟩ := q109_1 0 a b oc.1 oc.2 (by omega) (by omega) (by omega) (by omega)
    refine ⟨?_, se.of (fun i i0 i1 => jx k2 4 (ja39_0 ⟨i0, i1⟩) rfl) (fun i i0 i1 => ?_), ?_⟩
    · rw [p3, if_neg (by decide)]
    · rw [zu_row, fu_i _ _ (by omega)]
    · rw [zu_row]
      exact p4
  by_cases h6 : r1 4 45 (423 + a) = -1
  · rw [if_pos h6, if_pos rfl]
    by_cases h7 : c1 0 11 7 = 16
    · rw [if_pos h7, p1 h6 h7]
      dsimp only
      rw [if_pos rfl]
      exact ⟨by first | rfl | trivial, se, cr⟩
    · rw [if_neg h7]
      exact main (fun e => h7 e.2)
  · rw [if_neg h6, if_neg (show ¬ (1 : Int) = 0 by decide)]
    exact main (fun e => h6 e.1)
/-- the time and the seal as the clock is moved -/
theorem move_T {c r : zM} {B a : Int} (hc : OM B c) (hr : OM B r) (hB : B + 2 ≤ 1000000000) (ht : c 0 8 9 = r 4 45 0) (hs : SE B (c 0) (r 4 45)) (h : CR (c 0) (r 4 45)) :
    (f127_1 a c).1 = (f281_1 a r).1 ∧ (f127_1 a c).2 0 8 9 = (f281_1 a r).2 4 45 0 ∧ SE (B + 1) ((f127_1 a c).2 0) ((f281_1 a r).2 4 45) := by
  obtain ⟨v, c1, r1, e1, e2, hv, oc, ro, se, cr, fc, fr⟩ := shut_R hc hr (by omega) hs h
  have t1 : c1 0 8 9 = r1 4 45 0 := by
    rw [fc 0 8 9 (by omega), fr 4 45 0 (by omega)]
    exact ht
  have main : 0 ≤ a → a ≤ 2000000000 → (f129_1 0 a c1).1 = r1 4 45 0 ∧ (f129_1 0 a c1).2 0 8 9 = (f223_1 20 (r1 4 45 0) (f233_1 (z_upd (f232_1 64 r1) 4 45 0 a))) 4 45 0 ∧ SE (B + 1) ((f129_1 0 a c1).2 0) ((f223_1 20 (r1 4 45 0) (f233_1 (z_upd (f232_1 64 r1) 4 45 0 a))) 4 45) := by
    intro h0 h1
    have tc := oc.t 0
    have hbl : 0 ≤ c1 0 10 4 ∧ c1 0 10 4 ≤ 1000000 := r10_0 oc.2.o 0 (i := 4) (by omega)
    obtain ⟨k1, k2⟩ := q60_1 0 (c1 0 8 9) (max 1 (c1 0 10 4)) 64 oc.1 oc.2 (by omega) (by omega) tc (by omega) (by omega)
    have o1 : OM (B + 1) (f60_1 0 (c1 0 8 9) (max 1 (c1 0 10 4)) 64 c1) := ⟨k1, k2.jb⟩
    have o2 := u27_9 (g := 0) (x := a) (u8_9 (g := 0) (x := a) o1 ⟨h0, h1⟩) ⟨h0, h1⟩
    obtain ⟨k3, k4⟩ := q54_6 0 20 (c1 0 8 9) o2.1 o2.2 (by omega) (by omega) (by omega) tc
    obtain ⟨j1, j2⟩ := q232_1 64 ro.1 ro.2 (by omega) (by omega)
    have p1 : OM (B + 1) (f232_1 64 r1) := ⟨j1, j2.jb⟩
    have p2 := u45_0 (g := 4) (x := a) p1 ⟨h0, h1⟩
    obtain ⟨j3, j4⟩ := q233_1 p2.1 p2.2 (by omega)
    obtain ⟨j5, j6⟩ := q223_1 20 (r1 4 45 0) j3 j4.jb (by omega) (by omega) (by have := ro.w; omega)
    refine ⟨t1, ?_, ?_⟩
    · unfold f129_1
      simp only [zs_a]
      rw [jt k4 0 rfl, jw0 j6 rfl, jw0 j4 rfl, zu_k _ _ _ (show (8 : Nat) ≠ 27 by decide), zu_row, zu_row, fu_s, fu_s]
    · unfold f129_1
      simp only [zs_a]
      refine se.of (fun i i0 i1 => ?_) (fun i i0 i1 => ?_)
      · rw [jx k4 4 (ja39_0 ⟨i0, i1⟩) rfl, zu_k _ _ _ (show (39 : Nat) ≠ 27 by decide), zu_k _ _ _ (show (39 : Nat) ≠ 8 by decide), jx k2 4 (ja39_0 ⟨i0, i1⟩) rfl]
      · rw [jx j6 24 (ja45_1614 ⟨i0, i1⟩) rfl, jx j4 24 (ja45_1614 ⟨i0, i1⟩) rfl, zu_row, fu_i _ _ (by omega), jx j2 24 (ja45_1614 ⟨i0, i1⟩) rfl]
  unfold f127_1 f281_1
  rw [e1, e2]
  simp only [zb_a, zs_a]
  repeat' split
  all_goals first
    | exact ⟨by first | rfl | trivial, t1, se⟩
    | (exfalso; omega)
    | exact main (by omega) (by omega)
theorem ph202 {k : zM → Int × zM} : ∀ (n : Nat) (y : Int) (m : zM), 95 ≤ y → y ≤ 191 → 191 - y < n → ∃ m', fl202_67_1 k n y m = k m' ∧ (∀ i, (i < 95 ∨ 190 < i) → m' 4 45 i = m 4 45 i)
  | 0, y, m, h0, h1, h2 => by omega
  | n + 1, y, m, h0, h1, h2 => by
    show ∃ m', fl202_67_1_b (fl202_67_1 k n) k y m = k m' ∧ _
    unfold fl202_67_1_b
    by_cases h : 191 ≤ y
    · rw [if_pos h]
      exact ⟨m, rfl, fun _ _ => rfl⟩
    · rw [if_neg h, zs_a]
      obtain ⟨m', e, e2⟩ := ph202 (k := k) n (y + 1) (z_upd m 4 45 y 0) (by omega) (by omega) (by omega)
      exact ⟨m', e, fun i hi => by rw [e2 i hi, zu_row, fu_i _ _ (by omega)]⟩
theorem phases_T {c r : zM} {B a b : Int} (hc : OM B c) (hr : OM B r) (hB : B + 1 ≤ 1000000000) (hq : SH c r) (hs : SE B (c 0) (r 4 45)) (h : CR (c 0) (r 4 45)) :
    (f16_1 a b c).1 = (f202_1 a b r).1 ∧ SH (f16_1 a b c).2 (f202_1 a b r).2 ∧ SE (B + 1) ((f16_1 a b c).2 0) ((f202_1 a b r).2 4 45) := by
  obtain ⟨v, c1, r1, e1, e2, hv, oc, ro, se, cr, fc, fr⟩ := shut_R hc hr (by omega) hs h
  have t1 : SH c1 r1 := by
    unfold SH
    rw [fc 0 19 3 (by omega), fc 0 19 4 (by omega), fc 0 19 5 (by omega), fr 4 45 1 (by omega), fr 4 45 2 (by omega), fr 4 45 3 (by omega)]
    exact hq
  obtain ⟨m', e, e3⟩ := ph202 (k := fun m => (1, m)) (zfu 97) 95 (z_upd (z_upd (z_upd r1 4 45 1 a) 4 45 2 b) 4 45 3 0) (by omega) (by omega) (by rw [zfu_eq]; omega)
  have main : (1 : Int) = 1 ∧ SH (f11_1 0 0 (z_upd (z_upd (z_upd (z_upd c1 0 19 3 a) 0 19 4 b) 0 19 5 0) 0 19 6 0)) m' ∧ SE (B + 1) (f11_1 0 0 (z_upd (z_upd (z_upd (z_upd c1 0 19 3 a) 0 19 4 b) 0 19 5 0) 0 19 6 0) 0) (m' 4 45) := by
    have hw := f11_w (g := 0) (a := 0) (N := 16) (zfu 17) 0 (z_upd (z_upd (z_upd (z_upd c1 0 19 3 a) 0 19 4 b) 0 19 5 0) 0 19 6 0)
    refine ⟨rfl, ⟨?_, ?_, ?_⟩, se.of (fun i i0 i1 => ?_) (fun i i0 i1 => ?_)⟩
    · refine (hw 0 19 3 (by omega)).trans ?_
      rw [e3 1 (by omega)]
      simp only [zu_row]
      unfold fu
      repeat' split
      all_goals first | rfl | omega
    · refine (hw 0 19 4 (by omega)).trans ?_
      rw [e3 2 (by omega)]
      simp only [zu_row]
      unfold fu
      repeat' split
      all_goals first | rfl | omega
    · refine (hw 0 19 5 (by omega)).trans ?_
      rw [e3 3 (by omega)]
      simp only [zu_row]
      unfold fu
      repeat' split
      all_goals first | rfl | omega
    · refine (hw 0 39 i (by omega)).trans ?_
      rw [zu_k _ _ _ (show (39 : Nat) ≠ 19 by decide), zu_k _ _ _ (show (39 : Nat) ≠ 19 by decide), zu_k _ _ _ (show (39 : Nat) ≠ 19 by decide), zu_k _ _ _ (show (39 : Nat) ≠ 19 by decide)]
    · rw [e3 i (by omega), zu_row, fu_i _ _ (by omega), zu_row, fu_i _ _ (by omega), zu_row, fu_i _ _ (by omega)]
  unfold f16_1 f18_1 f202_1
  rw [e1, e2]
  simp only [zb_a, zs_a]
  rw [e]
  repeat' split
  all_goals first
    | exact ⟨by first | rfl | trivial, t1, se⟩
    | (exfalso; omega)
    | exact main
end
