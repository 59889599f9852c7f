/-! The calendar's calls on both sides; move, phases. -/
theorem shut_R {c r : zM} {B : Int} (hc : OM B c) (hr : OM B r) (hB : B + 1 ≤ 1000000000) (hs : SE B (c 0) (r 4 45)) (h : CR (c 0) (r 4 45)) :
    ∃ v c' r', f17_1 0 c = (v, c') ∧ f203_1 r = (v, r') ∧ (v = 0 ∨ v = 1) ∧ OM B c' ∧ OM B r' ∧ SE (B + 1) (c' 0) (r' 4 45) ∧ CR (c' 0) (r' 4 45) ∧ (∀ g k i, ¬ (g = 0 ∧ k = 39 ∧ i = 3) → c' g k i = c g k i) ∧ (∀ g k i, ¬ (g = 4 ∧ k = 45 ∧ i = 1618) → r' g k i = r g k i) := by
  obtain ⟨v, c', r', e1, e2, hv, -, oc, ro, se, fc, fr⟩ := shut_T hc hr hB hs
  exact ⟨v, c', r', e1, e2, hv, oc, ro, se, (h.w (CB.of hc.2 0) (fun i i0 i1 => fr 4 45 i (by omega))).c (fc 0 11 7 (by omega)) (funext fun i => fc 0 12 i (by omega)) (funext fun i => fc 0 13 i (by omega)) (funext fun i => fc 0 14 i (by omega)) (funext fun i => fc 0 15 i (by omega)) (funext fun i => fc 0 16 i (by omega)) (funext fun i => fc 0 17 i (by omega)) (funext fun i => fc 0 18 i (by omega)), fc, fr⟩
theorem SE.zu {B : Int} {c r : zM} (h : SE B (c 0) (r 4 45)) {k : Nat} {i x j y : Int} (hk : k ≠ 39) (hj : j < 1614) : SE B (z_upd c 0 k i x 0) (z_upd r 4 45 j y 4 45) :=
  h.of (fun a _ _ => by rw [zu_k _ _ _ (fun e => hk e.symm)]) (fun a a0 a1 => by rw [zu_row, fu_i _ _ (by omega)])
theorem table_T {c r : zM} {B a b d : Int} (hc : OM B c) (hr : OM B r) (hB : B + 1 ≤ 1000000000) (hs : SE B (c 0) (r 4 45)) (h : CR (c 0) (r 4 45)) :
    (f78_1 a b d c).1 = (f240_1 a b d r).1 ∧ SE (B + 1) ((f78_1 a b d c).2 0) ((f240_1 a b d r).2 4 45) ∧ CR ((f78_1 a b d c).2 0) ((f240_1 a b d r).2 4 45) := by
  obtain ⟨v, c1, r1, e1, e2, hv, oc, ro, se, cr, -, -⟩ := shut_R hc hr hB hs h
  have main : 0 ≤ a → a < 8 → 0 ≤ b → b ≤ 86399 → 0 ≤ d → d ≤ 3 → (f81_1 0 a b d c1).1 = (f243_1 a b d r1).1 ∧ SE (B + 1) ((f81_1 0 a b d c1).2 0) ((f243_1 a b d r1).2 4 45) ∧ CR ((f81_1 0 a b d c1).2 0) ((f243_1 a b d r1).2 4 45) := by
    intro h0 h1 h2 h3 h4 h5
    obtain ⟨p1, p2⟩ := put_eq cr (CB.of oc.2 0) (s := b) (x := d) h0 h1
    obtain ⟨-, k2, -⟩ := q81_1 0 a b d oc.1 oc.2 (by omega) (by omega) (by omega) (by omega) (by omega)
    obtain ⟨-, k4, -⟩ := q243_1 a b d ro.1 ro.2 (by omega) (by omega) (by omega) (by omega)
    exact ⟨p1, se.of (fun i i0 i1 => jx k2 4 (ja39_0 ⟨i0, i1⟩) rfl) (fun i i0 i1 => jx k4 24 (ja45_1614 ⟨i0, i1⟩) rfl), p2⟩
  unfold f78_1 f240_1
  rw [e1, e2]
  simp only [zb_a]
  repeat' split
  all_goals first
    | exact ⟨by first | rfl | trivial, se, cr⟩
    | (exfalso; omega)
    | exact main (by omega) (by omega) (by omega) (by omega) (by omega) (by omega)
theorem wipe_T {c r : zM} {B a : Int} (hc : OM B c) (hr : OM B r) (hB : B + 1 ≤ 1000000000) (hs : SE B (c 0) (r 4 45)) (h : CR (c 0) (r 4 45)) :
    (f83_1 a c).1 = (f244_1 a r).1 ∧ SE (B + 1) ((f83_1 a c).2 0) ((f244_1 a r).2 4 45) ∧ CR ((f83_1 a c).2 0) ((f244_1 a r).2 4 45) := by
  obtain ⟨v, c1, r1, e1, e2, hv, oc, ro, se, cr, -, -⟩ := shut_R hc hr hB hs h
  have main : 0 ≤ a → a < 8 → c1 0 12 a = r1 4 45 (287 + a) ∧ SE (B + 1) (z_upd c1 0 12 a 0 0) (z_upd r1 4 45 (287 + a) 0 4 45) ∧ CR (z_upd c1 0 12 a 0 0) (z_upd r1 4 45 (287 + a) 0 4 45) := by
    intro h0 h1
    refine ⟨cr.1.1 a h0 h1, se.zu (by decide) (by omega), ?_, ?_, ?_⟩
    · rw [zu_row, zu_row, zu_k _ _ _ (show (13 : Nat) ≠ 12 by decide), zu_k _ _ _ (show (14 : Nat) ≠ 12 by decide)]
      exact cr.1.wipe (CB.of oc.2 0).n6 h0 h1
    · rw [zu_row, zu_k _ _ _ (show (15 : Nat) ≠ 12 by decide), zu_k _ _ _ (show (16 : Nat) ≠ 12 by decide)]
      exact cr.2.1.w (fun i i0 i1 => fu_i _ _ (by omega))
    · rw [zu_row, zu_k _ _ _ (show (11 : Nat) ≠ 12 by decide), zu_k _ _ _ (show (17 : Nat) ≠ 12 by decide), zu_k _ _ _ (show (18 : Nat) ≠ 12 by decide)]
      exact cr.2.2.w (CB.of oc.2 0).d (fun i i0 i1 => fu_i _ _ (by omega))
  unfold f83_1 f244_1
  rw [e1, e2]
  simp only [zb_a, zs_a, f84_1]
  repeat' split
  all_goals first
    | exact ⟨by first | rfl | trivial, se, cr⟩
    | (exfalso; omega)
    | exact main (by omega) (by omega)
theorem season_T {c r : zM} {B a b : Int} (hc : OM B c) (hr : OM B r) (hB : B + 1 ≤ 1000000000) (hs : SE B (c 0) (r 4 45)) (h : CR (c 0) (r 4 45)) :
    (f122_1 a b c).1 = (f245_1 a b r).1 ∧ SE (B + 1) ((f122_1 a b c).2 0) ((f245_1 a b r).2 4 45) ∧ CR ((f122_1 a b c).2 0) ((f245_1 a b r).2 4 45) := by
  obtain ⟨v, c1, r1, e1, e2, hv, oc, ro, se, cr, -, -⟩ := shut_R hc hr hB hs h
  have main : 0 ≤ a → a < 4 → (1 : Int) = 1 ∧ SE (B + 1) (z_upd c1 0 15 a b 0) (z_upd r1 4 45 (391 + a) b 4 45) ∧ CR (z_upd c1 0 15 a b 0) (z_upd r1 4 45 (391 + a) b 4 45) := by
    intro h0 h1
    refine ⟨rfl, se.zu (by decide) (by omega), ?_, ?_, ?_⟩
    · rw [zu_row, zu_k _ _ _ (show (12 : Nat) ≠ 15 by decide), zu_k _ _ _ (show (13 : Nat) ≠ 15 by decide), zu_k _ _ _ (show (14 : Nat) ≠ 15 by decide)]
      exact cr.1.w (CB.of oc.2 0).n6 (fun i i0 i1 => fu_i _ _ (by omega))
    · rw [zu_row, zu_row, zu_k _ _ _ (show (16 : Nat) ≠ 15 by decide)]
      exact cr.2.1.season h0 h1
    · rw [zu_row, zu_k _ _ _ (show (11 : Nat) ≠ 15 by decide), zu_k _ _ _ (show (17 : Nat) ≠ 15 by decide), zu_k _ _ _ (show (18 : Nat) ≠ 15 by decide)]
      exact cr.2.2.w (CB.of oc.2 0).d (fun i i0 i1 => fu_i _ _ (by omega))
  unfold f122_1 f245_1
  rw [e1, e2]
  simp only [zb_a, zs_a, zn_a]
  repeat' split
  all_goals first
    | exact ⟨by first | rfl | trivial, se, cr⟩
    | (exfalso; omega)
    | exact main (by omega) (by omega)
theorem week_T {c r : zM} {B a b d : Int} (hc : OM B c) (hr : OM B r) (hB : B + 1 ≤ 1000000000) (hs : SE B (c 0) (r 4 45)) (h : CR (c 0) (r 4 45)) :
    (f124_1 a b d c).1 = (f247_1 a b d r).1 ∧ SE (B + 1) ((f124_1 a b d c).2 0) ((f247_1 a b d r).2 4 45) ∧ CR ((f124_1 a b d c).2 0) ((f247_1 a b d r).2 4 45) := by
  obtain ⟨v, c1, r1, e1, e2, hv, oc, ro, se, cr, -, -⟩ := shut_R hc hr hB hs h
  have main : 0 ≤ a → a < 4 → 0 ≤ b → b ≤ 6 → (1 : Int) = 1 ∧ SE (B + 1) (z_upd c1 0 16 (a * 7 + b) d 0) (z_upd r1 4 45 (395 + 7 * a + b) d 4 45) ∧ CR (z_upd c1 0 16 (a * 7 + b) d 0) (z_upd r1 4 45 (395 + 7 * a + b) d 4 45) := by
    intro h0 h1 h2 h3
    refine ⟨rfl, se.zu (by decide) (by omega), ?_, ?_, ?_⟩
    · rw [zu_row, zu_k _ _ _ (show (12 : Nat) ≠ 16 by decide), zu_k _ _ _ (show (13 : Nat) ≠ 16 by decide), zu_k _ _ _ (show (14 : Nat) ≠ 16 by decide)]
      exact cr.1.w (CB.of oc.2 0).n6 (fun i i0 i1 => fu_i _ _ (by omega))
    · rw [zu_row, zu_row, zu_k _ _ _ (show (15 : Nat) ≠ 16 by decide), show 395 + 7 * a + b = 395 + (a * 7 + b) by omega]
      exact cr.2.1.week (by omega) (by omega)
    · rw [zu_row, zu_k _ _ _ (show (11 : Nat) ≠ 16 by decide), zu_k _ _ _ (show (17 : Nat) ≠ 16 by decide), zu_k _ _ _ (show (18 : Nat) ≠ 16 by decide)]
      exact cr.2.2.w (CB.of oc.2 0).d (fun i i0 i1 => fu_i _ _ (by omega))
  unfold f124_1 f247_1
  rw [e1, e2]
  simp only [zb_a, zs_a]
  repeat' split
  all_goals first
    | exact ⟨by first | rfl | trivial, se, cr⟩
    | (exfalso; omega)
    | exact main (by omega) (by omega) (by omega) (by omega)
theorem special_T {c r : zM} {B a b : Int} (hc : OM B c) (hr : OM B r) (hB : B + 1 ≤ 1000000000) (hs : SE B (c 0) (r 4 45)) (h : CR (c 0) (r 4 45)) :
    (f125_1 a b c).1 = (f248_1 a b r).1 ∧ SE (B + 1) ((f125_1 a b c).2 0) ((f248_1 a b r).2 4 45) ∧ CR ((f125_1 a b c).2 0) ((f248_1 a b r).2 4 45) := by
  obtain ⟨v, c1, r1, e1, e2, hv, oc, ro, se, cr, -, -⟩ := shut_R hc hr hB hs h
  have hb := CB.of oc.2 0
  unfold f125_1 f248_1
  rw [e1, e2]
  simp only [zb_a, zs_a, zn_a]
  by_cases h0 : v = 0
  case neg =>
    rw [if_neg h0, if_neg h0]
    exact ⟨by first | rfl | trivial, se, cr⟩
  rw [if_pos h0, if_pos h0]
  by_cases h1 : a < 0
  · rw [if_pos h1, if_pos h1]
    exact ⟨by first | rfl | trivial, se, cr⟩
  rw [if_neg h1, if_neg h1]
  by_cases h2 : a < 365
  case neg =>
    rw [if_neg h2, if_neg (show ¬ a ≤ 364 by omega)]
    exact ⟨by first | rfl | trivial, se, cr⟩
  rw [if_pos h2, if_pos (show a ≤ 364 by omega)]
  by_cases h3 : b = -1
  · rw [if_pos h3, if_pos h3]
    obtain ⟨p1, p2⟩ := spdrop_eq cr hb (d := a) (by omega) h2
    by_cases h4 : r1 4 45 (423 + a) = -1
    · rw [p1 h4, if_pos h4, if_pos rfl]
      exact ⟨by first | rfl | trivial, se, cr⟩
    · obtain ⟨p3, p4⟩ := p2 h4
      obtain ⟨-, k2, -⟩ := q126_1 0 a oc.1 oc.2 (by omega) (by omega) (by omega)
      rw [if_neg h4, if_neg (by decide)]
      refine ⟨p3, se.of (fun i i0 i1 => jx k2 4 (ja39_0 ⟨i0, i1⟩) rfl) (fun i i0 i1 => ?_), ?_⟩
      · dsimp only
        rw [zu_row, fu_i _ _ (by omega)]
      · dsimp only
        rw [zu_row, h3]
        exact p4
  rw [if_neg h3, if_neg h3]
  by_cases h4 : b < 0
  · rw [if_pos h4, if_pos h4]
    exact ⟨by first | rfl | trivial, se, cr⟩
  rw [if_neg h4, if_neg h4]
  by_cases h5 : 8 ≤ b
  · rw [if_pos h5, if_neg (show ¬ b ≤ 7 by omega)]
    exact ⟨by first | rfl | trivial, se, cr⟩
  rw [if_neg h5, if_pos (show b ≤ 7 by omega), sps_eq, cr.2.2.2.2.2]
  obtain ⟨p1, p2⟩ := spput_eq cr hb (d := a) (t := b) (by omega) h2 (by omega)
  have main : ¬ (r1 4 45 (423 + a) = -1 ∧ c1 0 11 7 = 16) → ((if (f109_1 0 a b c1).1 = 0 then (0 : Int) else 1) = 1) ∧ SE (B + 1) ((f109_1 0 a b c1).2 0) (z_upd r1 4 45 (423 + a) b 4 45) ∧ CR ((f109_1 0 a b c1).2 0) (z_upd r1 4 45 (423 + a) b 4 45) := by
    intro h9
    obtain ⟨p3, p4⟩ := p2 h9
    obtain ⟨-, k2, -⟩ := q109_1 0 a b oc.1 oc.2 (by omega) (by omega) (by omega) (by omega)
    refine ⟨?_, se.of (fun i i0 i1 => jx k2 4 (ja39_0 ⟨i0, i1⟩) rfl) (fun i i0 i1 => ?_), ?_⟩
    · rw [p3, if_neg (by decide)]
    · rw [zu_row, fu_i _ _ (by omega)]
    · rw [zu_row]
      exact p4
  by_cases h6 : r1 4 45 (423 + a) = -1
  · rw [if_pos h6, if_pos rfl]
    by_cases h7 : c1 0 11 7 = 16
    · rw [if_pos h7, p1 h6 h7]
      dsimp only
      rw [if_pos rfl]
      exact ⟨by first | rfl | trivial, se, cr⟩
    · rw [if_neg h7]
      exact main (fun e => h7 e.2)
  · rw [if_neg h6, if_neg (show ¬ (1 : Int) = 0 by decide)]
    exact main (fun e => h6 e.1)
/-- the time and the seal as the clock is moved -/
theorem move_T {c r : zM} {B a : Int} (hc : OM B c) (hr : OM B r) (hB : B + 2 ≤ 1000000000) (ht : c 0 8 9 = r 4 45 0) (hs : SE B (c 0) (r 4 45)) (h : CR (c 0) (r 4 45)) :
    (f127_1 a c).1 = (f281_1 a r).1 ∧ (f127_1 a c).2 0 8 9 = (f281_1 a r).2 4 45 0 ∧ SE (B + 1) ((f127_1 a c).2 0) ((f281_1 a r).2 4 45) := by
  obtain ⟨v, c1, r1, e1, e2, hv, oc, ro, se, cr, fc, fr⟩ := shut_R hc hr (by omega) hs h
  have t1 : c1 0 8 9 = r1 4 45 0 := by
    rw [fc 0 8 9 (by omega), fr 4 45 0 (by omega)]
    exact ht
  have main : 0 ≤ a → a ≤ 2000000000 → (f129_1 0 a c1).1 = r1 4 45 0 ∧ (f129_1 0 a c1).2 0 8 9 = (f223_1 20 (r1 4 45 0) (f233_1 (z_upd (f232_1 64 r1) 4 45 0 a))) 4 45 0 ∧ SE (B + 1) ((f129_1 0 a c1).2 0) ((f223_1 20 (r1 4 45 0) (f233_1 (z_upd (f232_1 64 r1) 4 45 0 a))) 4 45) := by
    intro h0 h1
    have tc := oc.t 0
    have hbl : 0 ≤ c1 0 10 4 ∧ c1 0 10 4 ≤ 1000000 := r10_0 oc.2.o 0 (i := 4) (by omega)
    obtain ⟨k1, k2⟩ := q60_1 0 (c1 0 8 9) (max 1 (c1 0 10 4)) 64 oc.1 oc.2 (by omega) (by omega) tc (by omega) (by omega)
    have o1 : OM (B + 1) (f60_1 0 (c1 0 8 9) (max 1 (c1 0 10 4)) 64 c1) := ⟨k1, k2.jb⟩
    have o2 := u27_9 (g := 0) (x := a) (u8_9 (g := 0) (x := a) o1 ⟨h0, h1⟩) ⟨h0, h1⟩
    obtain ⟨k3, k4⟩ := q54_6 0 20 (c1 0 8 9) o2.1 o2.2 (by omega) (by omega) (by omega) tc
    obtain ⟨j1, j2⟩ := q232_1 64 ro.1 ro.2 (by omega) (by omega)
    have p1 : OM (B + 1) (f232_1 64 r1) := ⟨j1, j2.jb⟩
    have p2 := u45_0 (g := 4) (x := a) p1 ⟨h0, h1⟩
    obtain ⟨j3, j4⟩ := q233_1 p2.1 p2.2 (by omega)
    obtain ⟨j5, j6⟩ := q223_1 20 (r1 4 45 0) j3 j4.jb (by omega) (by omega) (by have := ro.w; omega)
    refine ⟨t1, ?_, ?_⟩
    · unfold f129_1
      simp only [zs_a]
      rw [jt k4 0 rfl, jw0 j6 rfl, jw0 j4 rfl, zu_k _ _ _ (show (8 : Nat) ≠ 27 by decide), zu_row, zu_row, fu_s, fu_s]
    · unfold f129_1
      simp only [zs_a]
      refine se.of (fun i i0 i1 => ?_) (fun i i0 i1 => ?_)
      · rw [jx k4 4 (ja39_0 ⟨i0, i1⟩) rfl, zu_k _ _ _ (show (39 : Nat) ≠ 27 by decide), zu_k _ _ _ (show (39 : Nat) ≠ 8 by decide), jx k2 4 (ja39_0 ⟨i0, i1⟩) rfl]
      · rw [jx j6 24 (ja45_1614 ⟨i0, i1⟩) rfl, jx j4 24 (ja45_1614 ⟨i0, i1⟩) rfl, zu_row, fu_i _ _ (by omega), jx j2 24 (ja45_1614 ⟨i0, i1⟩) rfl]
  unfold f127_1 f281_1
  rw [e1, e2]
  simp only [zb_a, zs_a]
  repeat' split
  all_goals first
    | exact ⟨by first | rfl | trivial, t1, se⟩
    | (exfalso; omega)
    | exact main (by omega) (by omega)
theorem ph202 {k : zM → Int × zM} : ∀ (n : Nat) (y : Int) (m : zM), 95 ≤ y → y ≤ 191 → 191 - y < n → ∃ m', fl202_67_1 k n y m = k m' ∧ (∀ i, (i < 95 ∨ 190 < i) → m' 4 45 i = m 4 45 i)
  | 0, y, m, h0, h1, h2 => by omega
  | n + 1, y, m, h0, h1, h2 => by
    show ∃ m', fl202_67_1_b (fl202_67_1 k n) k y m = k m' ∧ _
    unfold fl202_67_1_b
    by_cases h : 191 ≤ y
    · rw [if_pos h]
      exact ⟨m, rfl, fun _ _ => rfl⟩
    · rw [if_neg h, zs_a]
      obtain ⟨m', e, e2⟩ := ph202 (k := k) n (y + 1) (z_upd m 4 45 y 0) (by omega) (by omega) (by omega)
      exact ⟨m', e, fun i hi => by rw [e2 i hi, zu_row, fu_i _ _ (by omega)]⟩
theorem phases_T {c r : zM} {B a b : Int} (hc : OM B c) (hr : OM B r) (hB : B + 1 ≤ 1000000000) (hq : SH c r) (hs : SE B (c 0) (r 4 45)) (h : CR (c 0) (r 4 45)) :
    (f16_1 a b c).1 = (f202_1 a b r).1 ∧ SH (f16_1 a b c).2 (f202_1 a b r).2 ∧ SE (B + 1) ((f16_1 a b c).2 0) ((f202_1 a b r).2 4 45) := by
  obtain ⟨v, c1, r1, e1, e2, hv, oc, ro, se, cr, fc, fr⟩ := shut_R hc hr (by omega) hs h
  have t1 : SH c1 r1 := by
    unfold SH
    rw [fc 0 19 3 (by omega), fc 0 19 4 (by omega), fc 0 19 5 (by omega), fr 4 45 1 (by omega), fr 4 45 2 (by omega), fr 4 45 3 (by omega)]
    exact hq
  obtain ⟨m', e, e3⟩ := ph202 (k := fun m => (1, m)) (zfu 97) 95 (z_upd (z_upd (z_upd r1 4 45 1 a) 4 45 2 b) 4 45 3 0) (by omega) (by omega) (by rw [zfu_eq]; omega)
  have main : (1 : Int) = 1 ∧ SH (f11_1 0 0 (z_upd (z_upd (z_upd (z_upd c1 0 19 3 a) 0 19 4 b) 0 19 5 0) 0 19 6 0)) m' ∧ SE (B + 1) (f11_1 0 0 (z_upd (z_upd (z_upd (z_upd c1 0 19 3 a) 0 19 4 b) 0 19 5 0) 0 19 6 0) 0) (m' 4 45) := by
    have hw := f11_w (g := 0) (a := 0) (N := 16) (zfu 17) 0 (z_upd (z_upd (z_upd (z_upd c1 0 19 3 a) 0 19 4 b) 0 19 5 0) 0 19 6 0)
    refine ⟨rfl, ⟨?_, ?_, ?_⟩, se.of (fun i i0 i1 => ?_) (fun i i0 i1 => ?_)⟩
    · refine (hw 0 19 3 (by omega)).trans ?_
      rw [e3 1 (by omega)]
      simp only [zu_row]
      unfold fu
      repeat' split
      all_goals first | rfl | omega
    · refine (hw 0 19 4 (by omega)).trans ?_
      rw [e3 2 (by omega)]
      simp only [zu_row]
      unfold fu
      repeat' split
      all_goals first | rfl | omega
    · refine (hw 0 19 5 (by omega)).trans ?_
      rw [e3 3 (by omega)]
      simp only [zu_row]
      unfold fu
      repeat' split
      all_goals first | rfl | omega
    · refine (hw 0 39 i (by omega)).trans ?_
      rw [zu_k _ _ _ (show (39 : Nat) ≠ 19 by decide), zu_k _ _ _ (show (39 : Nat) ≠ 19 by decide), zu_k _ _ _ (show (39 : Nat) ≠ 19 by decide), zu_k _ _ _ (show (39 : Nat) ≠ 19 by decide)]
    · rw [e3 i (by omega), zu_row, fu_i _ _ (by omega), zu_row, fu_i _ _ (by omega), zu_row, fu_i _ _ (by omega)]
  unfold f16_1 f18_1 f202_1
  rw [e1, e2]
  simp only [zb_a, zs_a]
  rw [e]
  repeat' split
  all_goals first
    | exact ⟨by first | rfl | trivial, t1, se⟩
    | (exfalso; omega)
    | exact main
