/-! The calendar's text: PRICES, a line. -/
/-- a draft while PRICES are told -/
def PQ (p0 : Int → Int) (j : Int) (c r : zM) : Prop :=
  (0 ≤ c 4 41 9 ∧ c 4 41 9 < 256) ∧ (0 ≤ c 4 41 10 ∧ c 4 41 10 < 256) ∧ (∀ v : Int, 0 ≤ v → v < 8 → tbit (c 4 41 9) v = r 4 49 v) ∧ (∀ v : Int, 0 ≤ v → v < 4 → tbit (c 4 41 10) v = r 4 50 v) ∧
  (c 4 41 6 = 0 ∧ r 4 44 14 = 1) ∧ ((∀ t : Int, 0 ≤ t → t < j → c 4 43 t = r 4 45 (28 + t)) ∧ (∀ i : Int, (i < 28 ∨ 31 < i) → (i < 287 ∨ 787 < i) → r 4 45 i = p0 i)) ∧
  c 3 11 7 = r 4 44 13 ∧ (∀ v : Int, 0 ≤ v → v < 8 → tbit (c 4 41 9) v = 0 → c 3 12 v = 0) ∧ CR (c 3) (r 4 45) ∧ CB (c 3)
theorem PQ.pres {p0 : Int → Int} {j : Int} {c r c' r' : zM} (h : PQ p0 j c r) (hc : EC c c') (hr : ER r r') : PQ p0 j c' r' := by
  unfold PQ
  rw [hc 4 41 9 (by omega), hc 4 41 10 (by omega), hc 4 41 6 (by omega), hc.g3, hr.row (k := 49) (.inr (by decide)), hr.row (k := 50) (.inr (by decide)), hr.row (k := 45) (.inr (by decide)), hr 4 44 14 (by omega), hr 4 44 13 (by omega), hc.row (k := 43) (.inr (by decide))]
  exact h
theorem PQ.next {p0 : Int → Int} {j x : Int} {c r : zM} (h : PQ p0 j c r) (j0 : 0 ≤ j) (j1 : j < 4) : PQ p0 (j + 1) (z_upd c 4 43 j x) (z_upd r 4 45 (28 + j) x) := by
  obtain ⟨l1, l2, l3, l4, l5, l6, l7, l8, l9, l10⟩ := h
  unfold PQ
  rw [zu_k _ _ _ (show (41 : Nat) ≠ 43 by decide), zu_k _ _ _ (show (49 : Nat) ≠ 45 by decide), zu_k _ _ _ (show (50 : Nat) ≠ 45 by decide), zu_k _ _ _ (show (44 : Nat) ≠ 45 by decide), zu_g _ _ _ (show (3 : Nat) ≠ 4 by decide), zu_row, zu_row]
  refine ⟨l1, l2, l3, l4, l5, ⟨fun t t0 t1 => ?_, fun i i0 i1 => ?_⟩, l7, l8, l9.w l10 (fun i i0 i1 => fu_i _ _ (by omega)), l10⟩
  · by_cases e : t = j
    · rw [e, fu_s, fu_s]
    rw [fu_i _ _ e, fu_i _ _ (by omega)]
    exact l6.1 t t0 (by omega)
  · rw [fu_i _ _ (by omega)]
    exact l6.2 i i0 i1
theorem PQ.done {p0 : Int → Int} {c r : zM} (h : PQ p0 4 c r) : PS p0 (z_upd c 4 41 6 1) r := by
  obtain ⟨l1, l2, l3, l4, l5, l6, l7, l8, l9, l10⟩ := h
  unfold PS
  rw [z_upd_o (i' := 9) _ _ rfl, z_upd_o (i' := 10) _ _ rfl, z_upd_same, zu_g _ _ _ (show (3 : Nat) ≠ 4 by decide), zu_k _ _ _ (show (43 : Nat) ≠ 41 by decide)]
  exact ⟨l1, l2, l3, l4, ⟨l5.2.symm, .inr rfl⟩, fun _ => l6.1, ⟨fun e => absurd e (by decide), l6.2⟩, l7, l8, l9, l10⟩
theorem PS.begin {p0 : Int → Int} {c r : zM} (h : PS p0 c r) (h6 : c 4 41 6 = 0) : PQ p0 0 c (z_upd r 4 44 14 1) := by
  obtain ⟨l1, l2, l3, l4, l5, l6, l7, l8, l9, l10, l11⟩ := h
  unfold PQ
  rw [z_upd_same, z_upd_o (i' := 13) _ _ rfl, zu_k _ _ _ (show (49 : Nat) ≠ 44 by decide), zu_k _ _ _ (show (50 : Nat) ≠ 44 by decide), zu_k _ _ _ (show (45 : Nat) ≠ 44 by decide)]
  exact ⟨l1, l2, l3, l4, ⟨h6, rfl⟩, ⟨fun t t0 t1 => by omega, l7.2⟩, l8, l9, l10, l11⟩
theorem fz_pr {k : zM → zM} : ∀ (n : Nat) (y : Int) (r : zM), r 4 44 9 = 1 → y ≤ 4 → 4 - y < n → ∃ r', fl264_123_1 k n y r = k r' ∧ FZ r r'
  | 0, y, r, _, h0, h1 => by omega
  | n + 1, y, r, h, h0, h1 => by
    show ∃ r', fl264_123_1_b (fl264_123_1 k n) k y r = k r' ∧ FZ r r'
    unfold fl264_123_1_b
    by_cases c : 4 ≤ y
    · rw [if_pos c]
      exact ⟨r, rfl, FZ.rf r⟩
    · rw [if_neg c, zb_eq (fz_num h 0 100)]
      obtain ⟨r', e1, e2⟩ := fz_pr (k := k) n (y + 1) _ (fz_fu h (show (45 : Nat) ≠ 44 by decide) (28 + y) 0) (by omega) (by omega)
      exact ⟨r', e1, (FZ.upd _ _ _ (by decide)).trans e2⟩
theorem price_loop {p0 : Int → Int} {k : zM → zM} : ∀ (n n2 : Nat) (j : Int) (c r : zM), N0 c r → PQ p0 j c r → 0 ≤ j → j ≤ 4 → 4 - j < n → 4 - j < n2 →
    ∃ v c' r', fl110_25_1 (fun _ _ m => (0, m)) (fun m => zs (z_upd m 4 41 6 1) fun m => (1, m)) n j c = (v, c') ∧ fl264_123_1 k n2 j r = k r' ∧ OUT p0 v c' r' := by
  intro n
  induction n with
  | zero =>
    intro n2 j c r h hp j0 j1 h1
    omega
  | succ n ih =>
    intro n2 j c r h hp j0 j1 h1 h2
    obtain ⟨n2, rfl⟩ : ∃ j, n2 = j + 1 := ⟨n2 - 1, by omega⟩
    show ∃ v c' r', fl110_25_1_b (fl110_25_1 (fun _ _ m => (0, m)) (fun m => zs (z_upd m 4 41 6 1) fun m => (1, m)) n) (fun _ _ m => (0, m)) (fun m => zs (z_upd m 4 41 6 1) fun m => (1, m)) j c = (v, c') ∧ fl264_123_1_b (fl264_123_1 k n2) k j r = k r' ∧ _
    unfold fl110_25_1_b fl264_123_1_b
    by_cases c1 : 4 ≤ j
    · rw [if_pos c1, if_pos c1]
      obtain rfl : j = 4 := by omega
      exact ⟨1, _, r, rfl, rfl, .inl ⟨rfl, h.congr (fun i _ => z_upd_i _ _ _ _ (by omega)) (zu_k _ _ _ (by decide)) (fun _ _ _ => rfl) rfl, hp.done⟩⟩
    rw [if_neg c1, if_neg c1]
    obtain ⟨q1, q2, q3⟩ := num_eq h (most := 100) (by omega)
    obtain ⟨v, c2, e1⟩ : ∃ a b, f100_1 100 c = (a, b) := ⟨_, _, rfl⟩
    obtain ⟨u, r2, e2⟩ : ∃ a b, f270_1 0 100 r = (a, b) := ⟨_, _, rfl⟩
    rw [e1, e2] at q3
    rw [e1] at q1
    rw [e2] at q2
    dsimp only at q1 q2 q3
    rw [zb_eq e1, zb_eq e2]
    rcases q3 with ⟨a1, a2, a3, a4, a5⟩ | ⟨a1, a2, a3⟩
    · subst a3
      rw [if_neg (by omega)]
      exact ih n2 (j + 1) _ _ (a4.congr (fun i _ => by rw [zu_k _ _ _ (by decide)]) (zu_k _ _ _ (by decide)) (fun i _ _ => by rw [zu_k _ _ _ (by decide)]) (zu_k _ _ _ (by decide))) ((hp.pres q1 q2).next j0 (by omega)) (by omega) (by omega) (by omega) (by omega)
    · rw [if_pos a1]
      obtain ⟨r', g1, g2⟩ := fz_pr (k := k) n2 (j + 1) _ (fz_fu a3.2.1 (show (45 : Nat) ≠ 44 by decide) (28 + j) u) (by omega) (by omega)
      exact ⟨0, c2, r', rfl, g1, .inr ⟨rfl, (a3.fz (FZ.upd _ _ _ (by decide))).fz g2⟩⟩
