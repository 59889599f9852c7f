/-! The calendar's text: a SPECIAL day, PRICES. -/
theorem f109_new {g : Nat} {d t : Int} {m : zM} (h : f29_1 g d m = -1) (hn : m g 11 7 < 16) : f109_1 g d t m = (1, z_upd (z_upd (z_upd m g 11 7 (m g 11 7 + 1)) g 17 (m g 11 7) d) g 18 (m g 11 7) t) := by
  unfold f109_1
  simp only [zn, zs]
  rw [if_pos h, if_pos hn]
theorem f108_0 {g : Nat} {d : Int} {m : zM} (h : f29_1 g d m = -1) : f108_1 g d m = 0 := by
  unfold f108_1
  simp only [zn]
  rw [if_pos h]
theorem f108_n {g : Nat} {d : Int} {m : zM} (h : ¬ f29_1 g d m = -1) : f108_1 g d m = 1 := by
  unfold f108_1
  simp only [zn]
  rw [if_neg h]
theorem PS.day {p0 : Int → Int} {c r' r : zM} (h : PS p0 c r') (h45 : r 4 45 = r' 4 45) (h49 : r 4 49 = r' 4 49) (h50 : r 4 50 = r' 4 50) (h14 : r 4 44 14 = r' 4 44 14) (hn : r 4 44 13 = r' 4 44 13 + 1) {d t : Int} (d0 : 0 ≤ d) (d1 : d ≤ 364) (t0 : 0 ≤ t) (t1 : t ≤ 7)
    (h9 : f29_1 3 d c = -1) (h16 : c 3 11 7 < 16) (hw : r' 4 45 (423 + d) = -1) : PS p0 (f109_1 3 d t c).2 (z_upd r 4 45 (423 + d) t) := by
  obtain ⟨l1, l2, l3, l4, l5, l6, l7, l8, l9, l10, l11⟩ := h
  have hcr := ((spput_eq (t := t) l10 l11 d0 (by omega) t0).2 (fun e => by omega)).2
  rw [f109_new h9 h16] at hcr ⊢
  dsimp only at hcr ⊢
  have hb2 := l11.2.1
  unfold PS
  have e4 : ∀ (i1 x1 i2 x2 i3 x3 : Int), z_upd (z_upd (z_upd c 3 11 i1 x1) 3 17 i2 x2) 3 18 i3 x3 4 = c 4 := fun _ _ _ _ _ _ => by rw [zu_g _ _ _ (by decide), zu_g _ _ _ (by decide), zu_g _ _ _ (by decide)]
  have e12 : ∀ (i1 x1 i2 x2 i3 x3 : Int) (k : Nat), k ≠ 11 → k ≠ 17 → k ≠ 18 → z_upd (z_upd (z_upd c 3 11 i1 x1) 3 17 i2 x2) 3 18 i3 x3 3 k = c 3 k := fun _ _ _ _ _ _ k k1 k2 k3 => by rw [zu_k _ _ _ k3, zu_k _ _ _ k2, zu_k _ _ _ k1]
  have e11 : ∀ (i2 x2 i3 x3 : Int), z_upd (z_upd (z_upd c 3 11 7 (c 3 11 7 + 1)) 3 17 i2 x2) 3 18 i3 x3 3 11 7 = c 3 11 7 + 1 := fun _ _ _ _ => by rw [z_upd_o _ _ rfl, z_upd_o _ _ rfl, z_upd_same]
  have e17 : ∀ (i2 x2 i3 x3 : Int), z_upd (z_upd (z_upd c 3 11 7 (c 3 11 7 + 1)) 3 17 i2 x2) 3 18 i3 x3 3 17 = fu (c 3 17) i2 x2 := fun _ _ _ _ => by rw [zu_k _ _ _ (by decide), zu_row, zu_k _ _ _ (by decide)]
  have e18 : ∀ (i2 x2 i3 x3 : Int), z_upd (z_upd (z_upd c 3 11 7 (c 3 11 7 + 1)) 3 17 i2 x2) 3 18 i3 x3 3 18 = fu (c 3 18) i3 x3 := fun _ _ _ _ => by rw [zu_row, zu_k _ _ _ (by decide), zu_k _ _ _ (by decide)]
  rw [e4, zu_k _ _ _ (show (49 : Nat) ≠ 45 by decide), zu_k _ _ _ (show (50 : Nat) ≠ 45 by decide), zu_k _ _ _ (show (44 : Nat) ≠ 45 by decide), e12 _ _ _ _ _ _ 12 (by decide) (by decide) (by decide), e11, h49, h50, h14, hn]
  refine ⟨l1, l2, l3, l4, l5, fun e t t0 t1 => ?_, ⟨fun e t t0 t1 => ?_, fun i i0 i1 => ?_⟩, by omega, l9, ?_, ?_⟩
  · rw [zu_row, fu_i _ _ (by omega), h45]
    exact l6 e t t0 t1
  · rw [zu_row, fu_i _ _ (by omega), h45]
    exact l7.1 e t t0 t1
  · rw [zu_row, fu_i _ _ (by omega), h45]
    exact l7.2 i i0 i1
  · rw [zu_row, h45]
    exact hcr
  · obtain ⟨b1, b2, b3, b4, b5, b6, b7, b8⟩ := l11
    unfold CB
    rw [e11, e17, e18, e12 _ _ _ _ _ _ 12 (by decide) (by decide) (by decide), e12 _ _ _ _ _ _ 13 (by decide) (by decide) (by decide), e12 _ _ _ _ _ _ 14 (by decide) (by decide) (by decide), e12 _ _ _ _ _ _ 15 (by decide) (by decide) (by decide), e12 _ _ _ _ _ _ 16 (by decide) (by decide) (by decide)]
    refine ⟨b1, by omega, fun i i0 i1 => ?_, fun i i0 i1 => ?_, b5, b6, b7, b8⟩
    · unfold fu
      split
      · omega
      · exact b3 i i0 i1
    · unfold fu
      split
      · omega
      · exact b4 i i0 i1
theorem special_eq {p0 : Int → Int} {c r : zM} (h : N0 c r) (hp : PS p0 c r) (hl : c 4 41 7 + 7 ≤ c 4 41 3) :
    (r 4 44 13 < 16 → ∃ v c' r', f107_1 c = (v, c') ∧ f275_1 (z_upd (z_upd r 4 44 8 (c 4 41 7 + 7)) 4 44 13 (r 4 44 13 + 1)) = r' ∧ OUT p0 v c' r') ∧
    (¬ r 4 44 13 < 16 → ∃ c', f107_1 c = (0, c') ∧ FL c' (f268_1 4 (r 4 44 8) r)) := by
  have h0 : 0 ≤ c 4 41 7 := h.1.2.2.2.1
  have hn : c 3 11 7 = r 4 44 13 := hp.2.2.2.2.2.2.2.1
  unfold f107_1
  rw [hn]
  constructor
  · intro hs
    rw [if_pos hs]
    have hN0 := h.pass (x := c 4 41 7 + 7) (by omega) hl
    have hN : N0 (z_upd c 4 41 7 (c 4 41 7 + 7)) (z_upd (z_upd r 4 44 8 (c 4 41 7 + 7)) 4 44 13 (r 4 44 13 + 1)) := hN0.congr (fun _ _ => rfl) rfl (fun i i0 i1 => z_upd_i _ _ _ _ (by omega)) (zu_k _ _ _ (by decide))
    have hP : PS p0 (z_upd c 4 41 7 (c 4 41 7 + 7)) (z_upd r 4 44 8 (c 4 41 7 + 7)) := hp.pres (EC.upd _ _ (by omega)) (ER.upd _ _ (by omega))
    have k13 : z_upd (z_upd r 4 44 8 (c 4 41 7 + 7)) 4 44 13 (r 4 44 13 + 1) 4 44 13 = r 4 44 13 + 1 := z_upd_same _ _ _ _ _
    have k14 : z_upd (z_upd r 4 44 8 (c 4 41 7 + 7)) 4 44 13 (r 4 44 13 + 1) 4 44 14 = z_upd r 4 44 8 (c 4 41 7 + 7) 4 44 14 := z_upd_o _ _ rfl
    have kk : ∀ k, k ≠ 44 → z_upd (z_upd r 4 44 8 (c 4 41 7 + 7)) 4 44 13 (r 4 44 13 + 1) 4 k = z_upd r 4 44 8 (c 4 41 7 + 7) 4 k := fun k hk => zu_k _ _ _ hk
    have kn : z_upd r 4 44 8 (c 4 41 7 + 7) 4 44 13 = r 4 44 13 := z_upd_o _ _ rfl
    have kc : z_upd c 4 41 7 (c 4 41 7 + 7) 3 11 7 = r 4 44 13 := by rw [zu_g _ _ _ (by decide)]; exact hn
    simp only [zs]
    unfold f275_1
    generalize z_upd (z_upd r 4 44 8 (c 4 41 7 + 7)) 4 44 13 (r 4 44 13 + 1) = r0 at hN k13 k14 kk ⊢
    generalize z_upd c 4 41 7 (c 4 41 7 + 7) = c0 at hN hP kc ⊢
    generalize z_upd r 4 44 8 (c 4 41 7 + 7) = rb at hP k14 kk kn
    obtain ⟨q1, q2, q3⟩ := num_eq hN (most := 364) (by omega)
    obtain ⟨v, c1, e1⟩ : ∃ a b, f100_1 364 c0 = (a, b) := ⟨_, _, rfl⟩
    obtain ⟨u, r1, e2⟩ : ∃ a b, f270_1 0 364 r0 = (a, b) := ⟨_, _, rfl⟩
    rw [e1, e2] at q3
    rw [e1] at q1
    rw [e2] at q2
    dsimp only at q1 q2 q3
    rw [zb_eq e1, zb_eq e2]
    rcases q3 with ⟨a1, a2, a3, a4, a5⟩ | ⟨a1, a2, a3⟩
    case inr =>
      rw [if_pos a1, if_neg (by rw [a3.2.1]; decide), zb_eq (fz_num a3.2.1 0 7)]
      exact ⟨_, _, _, rfl, rfl, .inr ⟨rfl, a3.fz (FZ.upd _ _ _ (by decide))⟩⟩
    subst a3
    have hP1 : PS p0 c1 rb := hP.pres q1 (ER.rf _)
    have w1 : r1 4 45 = rb 4 45 := by rw [q2.row (.inr (by decide))]; exact kk _ (by decide)
    rw [if_neg (by omega), if_pos a4.2.2.2.1, w1]
    rcases CR.sp (n' := rb) hP1.2.2.2.2.2.2.2.2.2.1 hP1.2.2.2.2.2.2.2.2.2.2 (d := u) a1 (by omega) with ⟨s1, s2, s3⟩ | ⟨s1, s2, s3, s4, s5⟩
    · have x1 : ∀ {A : Int → Int × zM}, zn (f108_1 3 u c1) A = A 0 := zn_eq (f108_0 s1).symm
      rw [x1, if_pos rfl, if_pos s2]
      obtain ⟨t1, t2, t3⟩ := num_eq a4 (most := 7) (by omega)
      obtain ⟨v2, c2, e3⟩ : ∃ a b, f100_1 7 c1 = (a, b) := ⟨_, _, rfl⟩
      obtain ⟨u2, r2, e4⟩ : ∃ a b, f270_1 0 7 r1 = (a, b) := ⟨_, _, rfl⟩
      rw [e3, e4] at t3
      rw [e3] at t1
      rw [e4] at t2
      dsimp only at t1 t2 t3
      rw [zb_eq e3, zb_eq e4]
      rcases t3 with ⟨b1, b2, b3, b4, b5⟩ | ⟨b1, b2, b3⟩
      case inr =>
        rw [if_pos b1]
        exact ⟨_, _, _, rfl, rfl, .inr ⟨rfl, b3.fz (FZ.upd _ _ _ (by decide))⟩⟩
      subst b3
      rw [if_neg (by omega)]
      have hP2 : PS p0 c2 rb := hP1.pres t1 (ER.rf _)
      have s6 : f29_1 3 u c2 = -1 := by
        rcases CR.sp (n' := rb) hP2.2.2.2.2.2.2.2.2.2.1 hP2.2.2.2.2.2.2.2.2.2.2 (d := u) a1 (by omega) with ⟨z1, _⟩ | ⟨_, _, _, _, z5⟩
        · exact z1
        · exact absurd s2 z5
      have k2 : c2 3 11 7 = r 4 44 13 := by rw [t1.g3, q1.g3]; exact kc
      have hE : f109_1 3 u u2 c2 = (1, (f109_1 3 u u2 c2).2) := by rw [f109_new s6 (by omega)]
      rw [zb_eq hE, if_neg (by decide)]
      refine ⟨1, _, _, rfl, rfl, .inl ⟨rfl, ?_, ?_⟩⟩
      · rw [f109_new s6 (by omega)]
        exact b4.congr (fun i _ => by dsimp only; rw [zu_g _ _ _ (by decide), zu_g _ _ _ (by decide), zu_g _ _ _ (by decide)]) (by dsimp only; rw [zu_g _ _ _ (by decide), zu_g _ _ _ (by decide), zu_g _ _ _ (by decide)]) (fun i _ _ => by show z_upd r2 4 45 (423 + u) u2 4 44 i = _; rw [zu_k _ _ _ (by decide)]) (zu_k _ _ _ (by decide))
      · exact hP2.day (by rw [t2.row (.inr (by decide))]; exact w1) (by rw [t2.row (.inr (by decide)), q2.row (.inr (by decide))]; exact kk _ (by decide)) (by rw [t2.row (.inr (by decide)), q2.row (.inr (by decide))]; exact kk _ (by decide)) (by rw [t2 _ _ _ (by omega), q2 _ _ _ (by omega)]; exact k14) (by rw [t2 _ _ _ (by omega), q2 _ _ _ (by omega), kn]; exact k13) a1 a2 b1 b2 s6 (by omega) s2
    · have x1 : ∀ {A : Int → Int × zM}, zn (f108_1 3 u c1) A = A 1 := zn_eq (f108_n (by omega)).symm
      rw [x1, if_neg (by decide), if_neg s5]
      obtain ⟨f1, f2, f3, f4⟩ := a4.fail (k := 3) (by decide) a5
      obtain ⟨v3, c3, e3⟩ : ∃ a b, f102_1 3 (c1 4 41 8) c1 = (a, b) := ⟨_, _, rfl⟩
      rw [e3] at f1 f2 f3
      dsimp only at f1 f2 f3
      subst f1
      have x2 : ∀ {A : zM → zM}, zs (f268_1 3 (r1 4 44 10) r1) A = A (f268_1 3 (r1 4 44 10) r1) := zs_eq rfl
      rw [zb_eq e3, x2, zb_eq (fz_num f2.2.1 0 7)]
      exact ⟨_, _, _, rfl, rfl, .inr ⟨rfl, f2.fz (FZ.upd _ _ _ (by decide))⟩⟩
  · intro hs
    rw [if_neg hs]
    obtain ⟨f1, f2, f3, f4⟩ := h.fail (k := 4) (by decide) h.1.2.2.2.2.2
    obtain ⟨v3, c3, e3⟩ : ∃ a b, f102_1 4 (c 4 41 7) c = (a, b) := ⟨_, _, rfl⟩
    rw [e3] at f1 f2 f3
    dsimp only at f1 f2 f3
    subst f1
    rw [zb_eq e3]
    exact ⟨_, rfl, f2⟩
