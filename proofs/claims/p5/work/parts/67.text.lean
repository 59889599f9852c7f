/-! The calendar's text: tables. -/
theorem N0.congr {c r c' r' : zM} (h : N0 c r) (hc : ∀ i, i = 3 ∨ i = 4 ∨ i = 5 ∨ i = 7 → c' 4 41 i = c 4 41 i) (ht : c' 4 42 = c 4 42) (hr : ∀ i, 5 ≤ i → i ≤ 9 → r' 4 44 i = r 4 44 i) (hb : r' 4 48 = r 4 48) : N0 c' r' := by
  obtain ⟨⟨a1, a2, a3, a4, a5, a6⟩, b1, b2, b3, b4, b5⟩ := h
  have e3 := hc 3 (by omega)
  have e4 := hc 4 (by omega)
  have e5 := hc 5 (by omega)
  have e7 := hc 7 (by omega)
  have f5 := hr 5 (by omega) (by omega)
  have f6 := hr 6 (by omega) (by omega)
  have f7 := hr 7 (by omega) (by omega)
  have f8 := hr 8 (by omega) (by omega)
  have f9 := hr 9 (by omega) (by omega)
  refine ⟨⟨by omega, by omega, fun i i0 i1 => ?_, by omega, by omega, by omega⟩, by omega, by omega, by omega, by omega, by omega⟩
  rw [ht, hb]
  exact a3 i i0 (by omega)
theorem N0.pass {c r : zM} (h : N0 c r) {x : Int} (h0 : 0 ≤ x) (h1 : x ≤ c 4 41 3) : N0 (z_upd c 4 41 7 x) (z_upd r 4 44 8 x) := by
  obtain ⟨a, b1, b2, b3, b4, b5⟩ := h
  refine ⟨a.pres (EC.upd _ _ (by omega)) (ER.upd _ _ (by omega)) (by rw [z_upd_same]; exact h0) (by rw [z_upd_same]; exact h1) (by rw [z_upd_same, z_upd_same]), ?_, ?_, ?_, ?_, ?_⟩ <;> rw [z_upd_o _ _ rfl] <;> assumption
theorem fz_tl {t : Int} : ∀ (n : Nat) (r : zM), r 4 44 9 = 1 → fl269_40_1 (fun m => m) t n r = r
  | 0, _, _ => rfl
  | n + 1, r, h => by
    show fl269_40_1_b (fl269_40_1 (fun m => m) t n) (fun m => m) t r = r
    unfold fl269_40_1_b
    rw [if_neg (by omega)]
/-- what putSwitch and puts leave alone -/
theorem put_c {m : zM} {g : Nat} {t s x : Int} (h0 : 0 ≤ t) (h1 : t < 8) (hc : 0 ≤ m g 12 t ∧ m g 12 t ≤ 6) : (∀ g' k', g' ≠ g ∨ (k' ≠ 12 ∧ k' ≠ 13 ∧ k' ≠ 14) → (f81_1 g t s x m).2 g' k' = m g' k') ∧ (∀ v, v ≠ t → (f81_1 g t s x m).2 g 12 v = m g 12 v) ∧ (f82_1 g t s m = 0 → m g 12 t < 6 → (f81_1 g t s x m).2 g 12 t = m g 12 t + 1) := by
  obtain ⟨v, m1, r1, p1, p2, p3, p4, p5, p6, p7⟩ := put_cls m g t s x h0 h1 hc
  obtain ⟨u, e1, e2, e3, e4, e5⟩ := sb_spec m g t s hc
  rw [p1]
  refine ⟨p6, fun w hw => ?_, fun h2 h3 => ?_⟩
  · show m1 g 12 w = m g 12 w
    rcases p7 with ⟨a1, a2, a3, a4, a5, a6⟩ | ⟨a1, a2, a3, a4⟩ | ⟨a1, a2, a3, a4, a5, a6⟩
    · rw [a4]
    · rw [a4]
    · rw [a4, fu_i _ _ hw]
  · show m1 g 12 t = m g 12 t + 1
    have huv : u = v := by
      rcases Int.lt_trichotomy u v with c | c | c
      · have g1 := p4 u e2 c
        have g2 := e5 (by omega)
        omega
      · exact c
      · have g1 := e4 v p2 c
        have g2 := p5 (by omega)
        omega
    subst huv
    rw [hs_eq m g t s u e1 e2 e3] at h2
    rcases p7 with ⟨a1, a2, a3, a4, a5, a6⟩ | ⟨a1, a2, a3, a4⟩ | ⟨a1, a2, a3, a4, a5, a6⟩
    · rw [if_pos ⟨a1, a2⟩] at h2
      exact absurd h2 (by decide)
    · omega
    · rw [a4, fu_s]
theorem put_r {m : zM} {t s x : Int} (h0 : 0 ≤ t) (h1 : t < 8) (hc : 0 ≤ m 4 45 (287 + t) ∧ m 4 45 (287 + t) ≤ 6) : (∀ g' k', ¬ (g' = 4 ∧ k' = 45) → (f243_1 t s x m).2 g' k' = m g' k') ∧ (∀ i, i < 287 ∨ 390 < i → (f243_1 t s x m).2 4 45 i = m 4 45 i) := by
  obtain ⟨v, m2, r2, p1, p2, p3, p4, p5, p6, p7⟩ := put_ref m t s x h0 h1 hc
  rw [p1]
  refine ⟨p6, fun i hi => ?_⟩
  show m2 4 45 i = m 4 45 i
  rcases p7 with ⟨a1, a2, a3, a4⟩ | ⟨a1, a2, a3, a4⟩ | ⟨a1, a2, a3, a4⟩
  · rw [a4, fu_i _ _ (by omega), fu_i _ _ (by omega), fu_i _ _ (by omega)]
  · rw [a4]
  · rw [a4, fu_i _ _ (by omega), fu_i _ _ (by omega), fu_i _ _ (by omega)]
    unfold shW
    rw [if_neg (by omega)]
/-- the rows of SWITCHES -/
theorem sws_loop {p0 : Int → Int} {t : Int} (t0 : 0 ≤ t) (t1 : t < 8) : ∀ (n n2 : Nat) (k : Int) (c r : zM), N0 c r → PS p0 c r → tbit (c 4 41 9) t = 1 → k = c 3 12 t → 7 - k < n → 7 - k < n2 →
    ∃ v c' r', fl97_38_1 (fun _ m => (0, m)) (fun m => (1, m)) t n k c = (v, c') ∧ fl269_40_1 (fun m => m) t n2 r = r' ∧ ((v = 1 ∧ N0 c' r' ∧ PS p0 c' r') ∨ (v = 0 ∧ FL c' r')) := by
  intro n
  induction n with
  | zero =>
    intro n2 k c r h hp hb hk h1
    have h6 := (hp.2.2.2.2.2.2.2.2.2.2.1 t t0 t1).2
    omega
  | succ n ih =>
    intro n2 k c r h hp hb hk h1 h2
    have h6 := hp.2.2.2.2.2.2.2.2.2.2.1 t t0 t1
    obtain ⟨n2, rfl⟩ : ∃ j, n2 = j + 1 := ⟨n2 - 1, by omega⟩
    show ∃ v c' r', fl97_38_1_b (fl97_38_1 (fun _ m => (0, m)) (fun m => (1, m)) t n) (fun _ m => (0, m)) (fun m => (1, m)) t k c = (v, c') ∧ fl269_40_1_b (fl269_40_1 (fun m => m) t n2) (fun m => m) t r = r' ∧ _
    unfold fl97_38_1_b fl269_40_1_b
    rw [if_neg (show ¬ 6 < k by omega), if_pos h.2.2.2.1]
    obtain ⟨g1, g2, g3, g4, g5⟩ := digit_eq h
    obtain ⟨vd, c1, ed⟩ : ∃ a b, f103_1 c = (a, b) := ⟨_, _, rfl⟩
    obtain ⟨ud, r1, fd⟩ : ∃ a b, f271_1 r = (a, b) := ⟨_, _, rfl⟩
    rw [ed] at g1 g3 g4 g5
    rw [fd] at g2 g3 g4
    dsimp only at g1 g2 g3 g4 g5
    subst g4
    rw [zb_eq ed, zb_eq fd]
    have hp1 := hp.pres g1.ec g2.er
    by_cases cd : ud = 0
    · rw [if_pos cd, if_pos cd]
      exact ⟨_, _, _, rfl, rfl, .inl ⟨rfl, g3, hp1⟩⟩
    rw [if_neg cd, if_neg cd]
    have fin : ∀ (ec : EC c c1), c1 3 12 t = k := fun ec => by rw [ec.g3]; exact hk.symm
    have hk1 := fin g1.ec
    have hb1 : tbit (c1 4 41 9) t = 1 := by rw [g1 _ _ _ (by omega)]; exact hb
    -- the hour
    obtain ⟨q1, q2, q3⟩ := num_eq g3 (most := 23) (by omega)
    obtain ⟨vh, c2, eh⟩ : ∃ a b, f100_1 23 c1 = (a, b) := ⟨_, _, rfl⟩
    obtain ⟨uh, r2, fh⟩ : ∃ a b, f270_1 0 23 r1 = (a, b) := ⟨_, _, rfl⟩
    rw [eh, fh] at q3
    rw [eh] at q1
    rw [fh] at q2
    dsimp only at q1 q2 q3
    unfold f104_1
    rw [zb_eq fh]
    have e104 : ∀ {A : Int → zM → Int × zM}, zb (f100_1 23 c1) A = A vh c2 := zb_eq eh
    rw [e104]
    have frozen : ∀ {c3 r3 : zM}, FL c3 r3 → ∃ v c' r', zb ((0 : Int), c3) (fun v17 m15 => if v17 = 0 then ((0 : Int), m15) else fl97_38_1 (fun _ m => (0, m)) (fun m => (1, m)) t n (k + 1) m15) = (v, c') ∧ fl269_40_1 (fun m => m) t n2 r3 = r' ∧ ((v = 1 ∧ N0 c' r' ∧ PS p0 c' r') ∨ (v = 0 ∧ FL c' r')) := by
      intro c3 r3 hf
      refine ⟨0, c3, r3, ?_, fz_tl n2 r3 hf.2.1, .inr ⟨rfl, hf⟩⟩
      show (if (0 : Int) = 0 then ((0 : Int), c3) else fl97_38_1 (fun _ m => (0, m)) (fun m => (1, m)) t n (k + 1) c3) = (0, c3)
      exact if_pos rfl
    have wrong : ∀ {r3 : zM}, r3 4 44 9 = 1 → (∀ {A : Int → zM → zM} {A' : Int → zM → Int → zM → zM} {B : zM → zM}, (zs (f272_1 58 r3) fun m50 => zb (f270_1 0 59 m50) fun v55 m53 => if (m53 4 44 9) = 0 then A v55 m53 else (zb (f270_1 0 3 m53) fun v60 m58 => if (m58 4 44 9) = 0 then A' v55 m53 v60 m58 else B m58)) = B (f272_1 58 r3)) := by
      intro r3 h3 A A' B
      have h4 := frz h3 58
      simp only [zs, zb, fz_num h4]
      rw [if_neg (by omega), if_neg (by omega)]
    rcases q3 with ⟨a1, a2, a3, a4, a5⟩ | ⟨a1, a2, a3⟩
    case inr =>
      rw [if_pos a1, if_neg (by rw [a3.2.1]; decide), wrong a3.2.1]
      exact frozen (a3.fz (fz_must a3.2.1 58).fz)
    subst a3
    have hp2 := hp1.pres q1 q2
    have hk2 : c2 3 12 t = k := by rw [q1.g3]; exact hk1
    have hr2 : r2 4 45 (287 + t) = k := by rw [← hp2.2.2.2.2.2.2.2.2.2.1.1.1 t t0 t1]; exact hk2
    rw [if_neg (by omega), if_pos a4.2.2.2.1, hr2]
    by_cases c6 : k = 6
    · rw [if_neg (by omega), if_pos c6]
      obtain ⟨f1, f2, f3, f4⟩ := a4.fail (k := 4) (by decide) a5
      obtain ⟨v3, c3, e3⟩ : ∃ a b, f102_1 4 (c2 4 41 8) c2 = (a, b) := ⟨_, _, rfl⟩
      rw [e3] at f1 f2 f3
      dsimp only at f1 f2 f3
      subst f1
      rw [zb_eq e3]
      have e4 : ∀ {A : zM → zM}, zs (f268_1 4 (r2 4 44 10) r2) A = A (f268_1 4 (r2 4 44 10) r2) := zs_eq rfl
      rw [e4, wrong f2.2.1]
      exact frozen (f2.fz (fz_must f2.2.1 58).fz)
    rw [if_pos (by omega), if_neg c6]
    -- the sign
    obtain ⟨s1, s2, s3⟩ := sign_eq a4 (x := 58) (by omega)
    obtain ⟨v3, c3, e3⟩ : ∃ a b, f105_1 58 c2 = (a, b) := ⟨_, _, rfl⟩
    obtain ⟨r3, e4⟩ : ∃ a, f272_1 58 r2 = a := ⟨_, rfl⟩
    rw [e3, e4] at s3
    rw [e3] at s1
    rw [e4] at s2
    dsimp only at s1 s2 s3
    have x1 : ∀ {A : zM → zM}, zs (f272_1 58 r2) A = A r3 := zs_eq e4.symm
    have x2 : ∀ {A : Int → zM → Int × zM}, zb (f105_1 58 c2) A = A v3 c3 := zb_eq e3
    rw [x1, x2]
    rcases s3 with ⟨b1, b2, b3⟩ | ⟨b1, b2⟩
    case inr =>
      rw [if_pos b1, zb_eq (fz_num b2.2.1 0 59), if_neg (by rw [b2.2.1]; decide), zb_eq (fz_num b2.2.1 0 3), if_neg (by rw [b2.2.1]; decide)]
      exact frozen b2
    rw [if_neg (by omega)]
    have hp3 := hp2.pres s1 s2
    have hk3 : c3 3 12 t = k := by rw [s1.g3]; exact hk2
    -- the minute
    obtain ⟨m1, m2, m3⟩ := num_eq b2 (most := 59) (by omega)
    obtain ⟨vm, c4, e5⟩ : ∃ a b, f100_1 59 c3 = (a, b) := ⟨_, _, rfl⟩
    obtain ⟨um, r4, e6⟩ : ∃ a b, f270_1 0 59 r3 = (a, b) := ⟨_, _, rfl⟩
    rw [e5, e6] at m3
    rw [e5] at m1
    rw [e6] at m2
    dsimp only at m1 m2 m3
    have x3 : ∀ {A : Int → zM → zM}, zb (f270_1 0 59 r3) A = A um r4 := zb_eq e6
    have x4 : ∀ {A : Int → zM → Int × zM}, zb (f100_1 59 c3) A = A vm c4 := zb_eq e5
    rw [x3, x4]
    rcases m3 with ⟨d1, d2, d3, d4, d5⟩ | ⟨d1, d2, d3⟩
    case inr =>
      rw [if_pos d1, if_neg (by rw [d3.2.1]; decide), zb_eq (fz_num d3.2.1 0 3), if_neg (by rw [d3.2.1]; decide)]
      exact frozen d3
    subst d3
    rw [if_neg (by omega), if_pos d4.2.2.2.1]
    have hp4 := hp3.pres m1 m2
    have hk4 : c4 3 12 t = k := by rw [m1.g3]; exact hk3
    have hsec : (3600 : Int) * uh + 60 * um = uh * 3600 + um * 60 := by omega
    obtain ⟨w1, w2⟩ := isw_eq (c := c4) (r := r4) (g := 3) (t := t) (s := uh * 3600 + um * 60) hp4.2.2.2.2.2.2.2.2.2.1 hp4.2.2.2.2.2.2.2.2.2.2 t0 t1
    obtain ⟨z, hz⟩ : ∃ z, f82_1 3 t (uh * 3600 + um * 60) c4 = z := ⟨_, rfl⟩
    rw [hz] at w1 w2
    have x5 : ∀ {A : Int → zM}, zn (f273_1 t (3600 * uh + 60 * um) r4) A = A z := zn_eq (by rw [hsec, w1])
    have x6 : ∀ {A : Int → Int × zM}, zn (f82_1 3 t (uh * 3600 + um * 60) c4) A = A z := zn_eq hz.symm
    rw [x5, x6]
    by_cases cz : z = 0
    case neg =>
      rw [if_neg cz, if_neg cz]
      obtain ⟨f1, f2, f3, f4⟩ := d4.fail (k := 3) (by decide) d5
      obtain ⟨v5, c5, e7⟩ : ∃ a b, f102_1 3 (c4 4 41 8) c4 = (a, b) := ⟨_, _, rfl⟩
      obtain ⟨r5, e8⟩ : ∃ a, f268_1 3 (r4 4 44 10) r4 = a := ⟨_, rfl⟩
      rw [e7, e8] at f2
      rw [e7] at f1
      dsimp only at f1 f2
      subst f1
      have x7 : ∀ {A : zM → zM}, zs (f268_1 3 (r4 4 44 10) r4) A = A r5 := zs_eq e8.symm
      rw [zb_eq e7, x7, zb_eq (fz_num f2.2.1 0 3), if_neg (by rw [f2.2.1]; decide)]
      exact frozen f2
    rw [if_pos cz, if_pos cz]
    -- the tariff
    obtain ⟨t2, t3, t4⟩ := num_eq d4 (most := 3) (by omega)
    obtain ⟨vt, c5, e7⟩ : ∃ a b, f100_1 3 c4 = (a, b) := ⟨_, _, rfl⟩
    obtain ⟨ut, r5, e8⟩ : ∃ a b, f270_1 0 3 r4 = (a, b) := ⟨_, _, rfl⟩
    rw [e7, e8] at t4
    rw [e7] at t2
    rw [e8] at t3
    dsimp only at t2 t3 t4
    have x7 : ∀ {A : Int → zM → zM}, zb (f270_1 0 3 r4) A = A ut r5 := zb_eq e8
    have x8 : ∀ {A : Int → zM → Int × zM}, zb (f100_1 3 c4) A = A vt c5 := zb_eq e7
    rw [x7, x8]
    rcases t4 with ⟨g1, g2, g3, g4, g5⟩ | ⟨g1, g2, g3⟩
    case inr =>
      rw [if_pos g1, if_neg (by rw [g3.2.1]; decide)]
      exact frozen g3
    subst g3
    rw [if_neg (by omega), if_pos g4.2.2.2.1]
    have hp5 := hp4.pres t2 t3
    have hk5 : c5 3 12 t = k := by rw [t2.g3]; exact hk4
    obtain ⟨v6, c6, e9⟩ : ∃ a b, f81_1 3 t (uh * 3600 + um * 60) ut c5 = (a, b) := ⟨_, _, rfl⟩
    obtain ⟨u6, r6, e10⟩ : ∃ a b, f243_1 t (3600 * uh + 60 * um) ut r5 = (a, b) := ⟨_, _, rfl⟩
    have x9 : ∀ {A : Int → zM → zM}, zb (f243_1 t (3600 * uh + 60 * um) ut r5) A = A u6 r6 := zb_eq e10
    have x10 : ∀ {A : Int → zM → Int × zM}, zb (f81_1 3 t (uh * 3600 + um * 60) ut c5) A = A v6 c6 := zb_eq e9
    rw [x9, x10]
    rw [hsec] at e10
    have hcr := hp5.2.2.2.2.2.2.2.2.2.1
    have hcb := hp5.2.2.2.2.2.2.2.2.2.2
    obtain ⟨p1, p2⟩ := put_eq (t := t) (s := uh * 3600 + um * 60) (x := ut) hcr hcb t0 t1
    obtain ⟨p3, p4, p5⟩ := put_c (s := uh * 3600 + um * 60) (x := ut) t0 t1 (hcb.1 t t0 t1)
    obtain ⟨p6, p7⟩ := put_r (m := r5) (s := uh * 3600 + um * 60) (x := ut) t0 t1 (by rw [← hcr.1.1 t t0 t1]; exact hcb.1 t t0 t1)
    have p8 := CB.put (s := uh * 3600 + um * 60) (x := ut) hcb t0 t1 (by omega) ⟨g1, g2⟩
    rw [e9] at p2 p3 p4 p5 p8
    rw [e10] at p2 p6 p7
    dsimp only at p2 p3 p4 p5 p6 p7 p8
    have hb5 : tbit (c5 4 41 9) t = 1 := by rw [t2 _ _ _ (by omega), m1 _ _ _ (by omega), s1 _ _ _ (by omega), q1 _ _ _ (by omega)]; exact hb1
    have z5 : f82_1 3 t (uh * 3600 + um * 60) c5 = 0 := by
      have e3 : CR (c5 3) (r4 4 45) := by rw [t2.g3]; exact hp4.2.2.2.2.2.2.2.2.2.1
      rw [← (isw_eq (s := uh * 3600 + um * 60) e3 hcb t0 t1).1, w1]
      exact cz
    have z6 := p5 z5 (by omega)
    have y41 : c6 4 41 = c5 4 41 := p3 4 41 (.inl (by decide))
    have n6 : N0 c6 r6 := g4.congr (fun i _ => by rw [y41]) (p3 4 42 (.inl (by decide))) (fun i _ _ => by rw [p6 4 44 (by decide)]) (p6 4 48 (by decide))
    refine ih n2 (k + 1) c6 r6 n6 ?_ (by rw [y41]; exact hb5) (by omega) (by omega) (by omega)
    obtain ⟨l1, l2, l3, l4, l5, l6, l7, l8, l9, l10, l11⟩ := hp5
    unfold PS
    rw [y41, p6 4 49 (by decide), p6 4 50 (by decide), p6 4 44 (by decide), p3 4 43 (.inl (by decide)), p3 3 11 (.inr (by decide))]
    refine ⟨l1, l2, l3, l4, l5, fun e x0 x1 x2 => ?_, ⟨fun e x0 x1 x2 => ?_, fun i i0 i1 => ?_⟩, l8, fun x0 x1 x2 e => ?_, p2, p8⟩
    · rw [p7 _ (by omega)]
      exact l6 e x0 x1 x2
    · rw [p7 _ (by omega)]
      exact l7.1 e x0 x1 x2
    · rw [p7 _ (by omega)]
      exact l7.2 i i0 i1
    · by_cases e9 : x0 = t
      · subst e9
        rw [hb5] at e
        exact absurd e (by decide)
      · rw [p4 _ e9]
        exact l9 x0 x1 x2 e
