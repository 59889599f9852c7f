/-! The calendar's text: SEASONS, SPECIAL days, PRICES. -/
theorem fz_fu {r : zM} (h : r 4 44 9 = 1) {k : Nat} (hk : k ≠ 44) (i x : Int) : z_upd r 4 k i x 4 44 9 = 1 := by
  rw [z_upd_o _ _ (by simp only [Ne.symm hk, false_and, decide_false])]
  exact h
theorem fz_se {v : Int} : ∀ (n : Nat) (y : Int) (r : zM), r 4 44 9 = 1 → FZ r (fl274_60_1 (fun m => m) v n y r)
  | 0, _, r, _ => FZ.rf r
  | n + 1, y, r, h => by
    show FZ r (fl274_60_1_b (fl274_60_1 (fun m => m) v n) (fun m => m) v y r)
    unfold fl274_60_1_b
    by_cases c : 7 ≤ y
    · rw [if_pos c]
      exact FZ.rf r
    · rw [if_neg c, zb_eq (fz_num h 0 7)]
      exact (FZ.upd _ _ _ (by decide)).trans (fz_se n _ _ (fz_fu h (by decide) _ _))
theorem PS.year {p0 : Int → Int} {c r : zM} (h : PS p0 c r) {s x : Int} (s0 : 0 ≤ s) (s1 : s < 4) (x0 : 0 ≤ x) (x1 : x ≤ 364) : PS p0 (z_upd c 3 15 s x) (z_upd r 4 45 (391 + s) x) := by
  obtain ⟨l1, l2, l3, l4, l5, l6, l7, l8, l9, l10, l11⟩ := h
  unfold PS
  have e4 : z_upd c 3 15 s x 4 = c 4 := zu_g _ _ _ (by decide)
  rw [e4, zu_k _ _ _ (show (49 : Nat) ≠ 45 by decide), zu_k _ _ _ (show (50 : Nat) ≠ 45 by decide), zu_k _ _ _ (show (44 : Nat) ≠ 45 by decide), zu_k _ _ _ (show (11 : Nat) ≠ 15 by decide), zu_k _ _ _ (show (12 : Nat) ≠ 15 by decide)]
  refine ⟨l1, l2, l3, l4, l5, fun e t t0 t1 => ?_, ⟨fun e t t0 t1 => ?_, fun i i0 i1 => ?_⟩, l8, l9, ⟨?_, ?_, ?_⟩, ?_⟩
  · rw [zu_row, fu_i _ _ (by omega)]
    exact l6 e t t0 t1
  · rw [zu_row, fu_i _ _ (by omega)]
    exact l7.1 e t t0 t1
  · rw [zu_row, fu_i _ _ (by omega)]
    exact l7.2 i i0 i1
  · rw [zu_k _ _ _ (show (12 : Nat) ≠ 15 by decide), zu_k _ _ _ (show (13 : Nat) ≠ 15 by decide), zu_k _ _ _ (show (14 : Nat) ≠ 15 by decide), zu_row]
    exact l10.1.w l11.n6 (fun i i0 i1 => fu_i _ _ (by omega))
  · rw [zu_row, zu_k _ _ _ (show (16 : Nat) ≠ 15 by decide), zu_row]
    exact l10.2.1.season s0 s1
  · rw [zu_k _ _ _ (show (11 : Nat) ≠ 15 by decide), zu_k _ _ _ (show (17 : Nat) ≠ 15 by decide), zu_k _ _ _ (show (18 : Nat) ≠ 15 by decide), zu_row]
    exact l10.2.2.w l11.d (fun i i0 i1 => fu_i _ _ (by omega))
  · obtain ⟨b1, b2, b3, b4, b5, b6, b7, b8⟩ := l11
    unfold CB
    rw [zu_k _ _ _ (show (11 : Nat) ≠ 15 by decide), zu_k _ _ _ (show (12 : Nat) ≠ 15 by decide), zu_k _ _ _ (show (13 : Nat) ≠ 15 by decide), zu_k _ _ _ (show (14 : Nat) ≠ 15 by decide), zu_k _ _ _ (show (16 : Nat) ≠ 15 by decide), zu_k _ _ _ (show (17 : Nat) ≠ 15 by decide), zu_k _ _ _ (show (18 : Nat) ≠ 15 by decide), zu_row]
    refine ⟨b1, b2, b3, b4, b5, b6, fun i i0 i1 => ?_, b8⟩
    unfold fu
    split
    · omega
    · exact b7 i i0 i1
theorem PS.week {p0 : Int → Int} {c r : zM} (h : PS p0 c r) {d x : Int} (s0 : 0 ≤ d) (s1 : d < 28) (x0 : 0 ≤ x) (x1 : x ≤ 7) : PS p0 (z_upd c 3 16 d x) (z_upd r 4 45 (395 + d) x) := by
  obtain ⟨l1, l2, l3, l4, l5, l6, l7, l8, l9, l10, l11⟩ := h
  unfold PS
  have e4 : z_upd c 3 16 d x 4 = c 4 := zu_g _ _ _ (by decide)
  rw [e4, zu_k _ _ _ (show (49 : Nat) ≠ 45 by decide), zu_k _ _ _ (show (50 : Nat) ≠ 45 by decide), zu_k _ _ _ (show (44 : Nat) ≠ 45 by decide), zu_k _ _ _ (show (11 : Nat) ≠ 16 by decide), zu_k _ _ _ (show (12 : Nat) ≠ 16 by decide)]
  refine ⟨l1, l2, l3, l4, l5, fun e t t0 t1 => ?_, ⟨fun e t t0 t1 => ?_, fun i i0 i1 => ?_⟩, l8, l9, ⟨?_, ?_, ?_⟩, ?_⟩
  · rw [zu_row, fu_i _ _ (by omega)]
    exact l6 e t t0 t1
  · rw [zu_row, fu_i _ _ (by omega)]
    exact l7.1 e t t0 t1
  · rw [zu_row, fu_i _ _ (by omega)]
    exact l7.2 i i0 i1
  · rw [zu_k _ _ _ (show (12 : Nat) ≠ 16 by decide), zu_k _ _ _ (show (13 : Nat) ≠ 16 by decide), zu_k _ _ _ (show (14 : Nat) ≠ 16 by decide), zu_row]
    exact l10.1.w l11.n6 (fun i i0 i1 => fu_i _ _ (by omega))
  · rw [zu_k _ _ _ (show (15 : Nat) ≠ 16 by decide), zu_row, zu_row]
    exact l10.2.1.week s0 s1
  · rw [zu_k _ _ _ (show (11 : Nat) ≠ 16 by decide), zu_k _ _ _ (show (17 : Nat) ≠ 16 by decide), zu_k _ _ _ (show (18 : Nat) ≠ 16 by decide), zu_row]
    exact l10.2.2.w l11.d (fun i i0 i1 => fu_i _ _ (by omega))
  · obtain ⟨b1, b2, b3, b4, b5, b6, b7, b8⟩ := l11
    unfold CB
    rw [zu_k _ _ _ (show (11 : Nat) ≠ 16 by decide), zu_k _ _ _ (show (12 : Nat) ≠ 16 by decide), zu_k _ _ _ (show (13 : Nat) ≠ 16 by decide), zu_k _ _ _ (show (14 : Nat) ≠ 16 by decide), zu_k _ _ _ (show (15 : Nat) ≠ 16 by decide), zu_k _ _ _ (show (17 : Nat) ≠ 16 by decide), zu_k _ _ _ (show (18 : Nat) ≠ 16 by decide), zu_row]
    refine ⟨b1, b2, b3, b4, b5, b6, b7, fun i i0 i1 => ?_⟩
    unfold fu
    split
    · omega
    · exact b8 i i0 i1
theorem N0.cal {c r : zM} (h : N0 c r) {g k : Nat} (hg : g ≠ 4) (i x : Int) {k' : Nat} (hk : k' ≠ 44 ∧ k' ≠ 48) (i' x' : Int) : N0 (z_upd c g k i x) (z_upd r 4 k' i' x') :=
  h.congr (fun j _ => by rw [zu_g _ _ _ (fun e => hg e.symm)]) (by rw [zu_g _ _ _ (fun e => hg e.symm)]) (fun j _ _ => by rw [zu_k _ _ _ (fun e => hk.1 e.symm)]) (zu_k _ _ _ (fun e => hk.2 e.symm))
/-- the seven TARIFF tables of a season -/
theorem week_loop {p0 : Int → Int} {s : Int} (s0 : 0 ≤ s) (s1 : s < 4) : ∀ (n n2 : Nat) (j : Int) (c r : zM), N0 c r → PS p0 c r → 0 ≤ j → j ≤ 7 → 7 - j < n → 7 - j < n2 →
    ∃ v c' r', fl106_62_1 (fun _ _ m => (0, m)) (fun m => (1, m)) s n j c = (v, c') ∧ fl274_60_1 (fun m => m) s n2 j r = r' ∧ OUT p0 v c' r' := by
  intro n
  induction n with
  | zero =>
    intro n2 j c r h hp j0 j1 h1
    omega
  | succ n ih =>
    intro n2 j c r h hp j0 j1 h1 h2
    obtain ⟨n2, rfl⟩ : ∃ j, n2 = j + 1 := ⟨n2 - 1, by omega⟩
    show ∃ v c' r', fl106_62_1_b (fl106_62_1 (fun _ _ m => (0, m)) (fun m => (1, m)) s n) (fun _ _ m => (0, m)) (fun m => (1, m)) s j c = (v, c') ∧ fl274_60_1_b (fl274_60_1 (fun m => m) s n2) (fun m => m) s j r = r' ∧ _
    unfold fl106_62_1_b fl274_60_1_b
    by_cases c1 : 7 ≤ j
    · rw [if_pos c1, if_pos c1]
      exact ⟨1, c, r, rfl, rfl, .inl ⟨rfl, h, hp⟩⟩
    rw [if_neg c1, if_neg c1]
    obtain ⟨q1, q2, q3⟩ := num_eq h (most := 7) (by omega)
    obtain ⟨v, c2, e1⟩ : ∃ a b, f100_1 7 c = (a, b) := ⟨_, _, rfl⟩
    obtain ⟨u, r2, e2⟩ : ∃ a b, f270_1 0 7 r = (a, b) := ⟨_, _, rfl⟩
    rw [e1, e2] at q3
    rw [e1] at q1
    rw [e2] at q2
    dsimp only at q1 q2 q3
    rw [zb_eq e1, zb_eq e2]
    rcases q3 with ⟨a1, a2, a3, a4, a5⟩ | ⟨a1, a2, a3⟩
    · subst a3
      rw [if_neg (by omega), show s * 7 + j = 7 * s + j by omega, show (395 : Int) + 7 * s + j = 395 + (7 * s + j) by omega]
      exact ih n2 (j + 1) _ _ (a4.cal (by decide) _ _ ⟨by decide, by decide⟩ _ _) ((hp.pres q1 q2).week (by omega) (by omega) a1 a2) (by omega) (by omega) (by omega) (by omega)
    · rw [if_pos a1]
      exact ⟨0, c2, _, rfl, rfl, .inr ⟨rfl, (a3.fz (FZ.upd _ _ _ (by decide))).fz (fz_se n2 _ _ (fz_fu a3.2.1 (by decide) _ _))⟩⟩
theorem season_eq {p0 : Int → Int} {c r : zM} (h : N0 c r) (hp : PS p0 c r) (hl : c 4 41 7 + 6 ≤ c 4 41 3) :
    ∃ v c' r', f106_1 c = (v, c') ∧ f274_1 (z_upd r 4 44 8 (c 4 41 7 + 6)) = r' ∧ OUT p0 v c' r' := by
  have h0 : 0 ≤ c 4 41 7 := h.1.2.2.2.1
  have hN := h.pass (x := c 4 41 7 + 6) (by omega) hl
  have hP : PS p0 (z_upd c 4 41 7 (c 4 41 7 + 6)) (z_upd r 4 44 8 (c 4 41 7 + 6)) := hp.pres (EC.upd _ _ (by omega)) (ER.upd _ _ (by omega))
  unfold f106_1 f274_1
  simp only [zs]
  generalize z_upd c 4 41 7 (c 4 41 7 + 6) = c0 at hN hP ⊢
  generalize z_upd r 4 44 8 (c 4 41 7 + 6) = r0 at hN hP ⊢
  obtain ⟨v, c1, u, r1, e1, e2, g1, g2, g3⟩ := told_eq hN (x := c0 4 41 10) (most := 3) hP.2.1 (by omega)
  rw [zb_eq e1, zb_eq e2]
  have hP1 := hP.pres g1 g2
  have wrong : ∀ {r2 : zM} {u : Int}, FL c1 r2 → FL c1 (zb (f270_1 0 364 (z_upd r2 4 50 u 1)) fun v23 m21 => fl274_60_1 (fun m26 => m26) u (zfu 8) 0 (z_upd m21 4 45 (391 + u) v23)) := by
    intro r2 u hf
    have h1 := fz_fu hf.2.1 (show (50 : Nat) ≠ 44 by decide) u 1
    rw [zb_eq (fz_num h1 0 364)]
    exact ((hf.fz (FZ.upd _ _ _ (by decide))).fz (FZ.upd _ _ _ (by decide))).fz (fz_se _ _ _ (fz_fu h1 (by decide) _ _))
  rcases g3 with ⟨a1, a2, a3, a4, a5⟩ | ⟨a1, a2⟩ | ⟨a1, a2, a3, a4, a5, a6⟩
  · subst a3
    have e9 : c1 4 41 10 = c0 4 41 10 := g1 _ _ _ (by omega)
    obtain ⟨t1, t2, t3⟩ := tbit_set hP1.2.1 (v := u) (by omega)
    rw [← e9] at a4
    have e50 : r1 4 50 u = 0 := by rw [← hP1.2.2.2.1 u a1 (by omega)]; exact a4
    rw [if_neg (by omega), if_pos a5.2.2.2.1, if_pos e50]
    simp only [zn]
    obtain ⟨b, hb⟩ : ∃ b, b = zor (c1 4 41 10) (zshl 1 u) := ⟨_, rfl⟩
    rw [← hb] at t1 t3 ⊢
    have hN2 : N0 (z_upd c1 4 41 10 b) (z_upd r1 4 50 u 1) := a5.congr (fun i hi => z_upd_i _ _ _ _ (by omega)) (zu_k _ _ _ (by decide)) (fun i _ _ => z_upd_o _ _ rfl) (zu_k _ _ _ (by decide))
    have hP2 : PS p0 (z_upd c1 4 41 10 b) (z_upd r1 4 50 u 1) := by
      refine hP1.n3 (zu_g _ _ _ (by decide)) (zu_k _ _ _ (by decide)) (zu_k _ _ _ (by decide)) (z_upd_o _ _ rfl) (z_upd_o _ _ rfl) (z_upd_o _ _ rfl) ?_ ?_ ?_ ?_ ?_
      · rw [z_upd_o _ _ rfl]
        exact hP1.1
      · rw [z_upd_same]
        exact t1
      · intro v v0 v1
        rw [z_upd_o _ _ rfl, zu_k _ _ _ (by decide)]
        exact hP1.2.2.1 v v0 v1
      · intro v v0 v1
        rw [z_upd_same, t3 v v0 (by omega), zu_row]
        by_cases e : v = u
        · rw [if_pos e, e, fu_s]
        · rw [if_neg e, fu_i _ _ e]
          exact hP1.2.2.2.1 v v0 v1
      · intro v v0 v1 e
        rw [z_upd_o _ _ rfl] at e
        exact hP1.2.2.2.2.2.2.2.2.1 v v0 v1 e
    generalize z_upd c1 4 41 10 b = c2 at hN2 hP2 ⊢
    generalize z_upd r1 4 50 u 1 = r2 at hN2 hP2 ⊢
    obtain ⟨q1, q2, q3⟩ := num_eq hN2 (most := 364) (by omega)
    obtain ⟨v, c3, e3⟩ : ∃ a b, f100_1 364 c2 = (a, b) := ⟨_, _, rfl⟩
    obtain ⟨u3, r3, e4⟩ : ∃ a b, f270_1 0 364 r2 = (a, b) := ⟨_, _, rfl⟩
    rw [e3, e4] at q3
    rw [e3] at q1
    rw [e4] at q2
    dsimp only at q1 q2 q3
    rw [zb_eq e3, zb_eq e4]
    rcases q3 with ⟨b1, b2, b3, b4, b5⟩ | ⟨b1, b2, b3⟩
    · subst b3
      rw [if_neg (by omega)]
      exact week_loop a1 (by omega) (zfu 8) (zfu 8) 0 _ _ (b4.cal (by decide) _ _ ⟨by decide, by decide⟩ _ _) ((hP2.pres q1 q2).year a1 (by omega) b1 b2) (by omega) (by omega) (by rw [zfu_eq]; omega) (by rw [zfu_eq]; omega)
    · rw [if_pos b1]
      exact ⟨0, c3, _, rfl, rfl, .inr ⟨rfl, (b3.fz (FZ.upd _ _ _ (by decide))).fz (fz_se _ _ _ (fz_fu b3.2.1 (by decide) _ _))⟩⟩
  · rw [if_pos a1, if_neg (by rw [a2.2.1]; decide)]
    exact ⟨_, _, _, rfl, rfl, .inr ⟨rfl, wrong a2⟩⟩
  · have e9 : c1 4 41 10 = c0 4 41 10 := g1 _ _ _ (by omega)
    rw [← e9, hP1.2.2.2.1 u a3 (by omega)] at a5
    rw [if_pos a1, if_pos a2, if_neg (by omega)]
    exact ⟨_, _, _, rfl, rfl, .inr ⟨rfl, wrong a6⟩⟩
