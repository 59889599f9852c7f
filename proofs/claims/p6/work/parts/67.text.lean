/-! The calendar's text: tables. -/
theorem N0.congr {c r c' r' : zM} (h : N0 c r) (hc : ∀ i, i = 3 ∨ i = 4 ∨ i = 5 ∨ i = 7 → c' 4 41 i = c 4 41 i) (ht : c' 4 42 = c 4 42) (hr : ∀ i, 5 ≤ i → i ≤ 9 → r' 4 44 i = r 4 44 i) (hb : r' 4 48 = r 4 48) : N0 c' r' := by
  obtain ⟨⟨a1, a2, a3, a4, a5, a6⟩, b1, b2, b3, b4, b5⟩ := h
  have e3 := hc 3 (by omega)
  have e4 := hc 4 (by omega)
  have e5 := hc 5 (by omega)
  have e7 := hc 7 (by omega)
  have f5 := hr 5 (by omega) (by omega)
  have f6 := hr 6 (by omega) (by omega)
  have f7 := hr 7 (by omega) (by omega)
  have f8 := hr 8 (by omega) (by omega)
  have f9 := hr 9 (by omega) (by omega)
  refine ⟨⟨by omega, by omega, fun i i0 i1 => ?_, by omega, by omega, by omega⟩, by omega, by omega, by omega, by omega, by omega⟩
  rw [ht, hb]
  exact a3 i i0 (by omega)
theorem N0.pass {c r : zM} (h : N0 c r) {x : Int} (h0 : 0 ≤ x) (h1 : x ≤ c 4 41 3) : N0 (z_upd c 4 41 7 x) (z_upd r 4 44 8 x) := by
  obtain ⟨a, b1, b2, b3, b4, b5⟩ := h
  refine ⟨a.pres (EC.upd _ _ (by omega)) (ER.upd _ _ (by omega)) (by rw [z_upd_same]; exact h0) (by rw [z_upd_same]; exact h1) (by rw [z_upd_same, z_upd_same]), ?_, ?_, ?_, ?_, ?_⟩ <;> rw [z_upd_o _ _ rfl] <;> assumption
theorem fz_tl {t : Int} : ∀ (n : Nat) (r : zM), r 4 44 9 = 1 → fl269_40_1 (fun m => m) t n r = r
  | 0, _, _ => rfl
  | n + 1, r, h => by
    show fl269_40_1_b (fl269_40_1 (fun m => m) t n) (fun m => m) t r = r
    unfold fl269_40_1_b
    rw [if_neg (by omega)]
/-- what putSwitch and puts leave alone -/
theorem put_c {m : zM} {g : Nat} {t s x : Int} (h0 : 0 ≤ t) (h1 : t < 8) (hc : 0 ≤ m g 12 t ∧ m g 12 t ≤ 6) : (∀ g' k', g' ≠ g ∨ (k' ≠ 12 ∧ k' ≠ 13 ∧ k' ≠ 14) → (f81_1 g t s x m).2 g' k' = m g' k') ∧ (∀ v, v ≠ t → (f81_1 g t s x m).2 g 12 v = m g 12 v) ∧ (f82_1 g t s m = 0 → m g 12 t < 6 → (f81_1 g t s x m).2 g 12 t = m g 12 t + 1) := by
  obtain ⟨v, m1, r1, p1, p2, p3, p4, p5, p6, p7⟩ := put_cls m g t s x h0 h1 hc
  obtain ⟨u, e1, e2, e3, e4, e5⟩ := sb_spec m g t s hc
  rw [p1]
  refine ⟨p6, fun w hw => ?_, fun h2 h3 => ?_⟩
  · show m1 g 12 w = m g 12 w
    rcases p7 with ⟨a1, a2, a3, a4, a5, a6⟩ | ⟨a1, a2, a3, a4⟩ | ⟨a1, a2, a3, a4, a5, a6⟩
    · rw [a4]
    · rw [a4]
    · rw [a4, fu_i _ _ hw]
  · show m1 g 12 t = m g 12 t + 1
    have huv : u = v := by
      rcases Int.lt_trichotomy u v with c | c | c
      · have g1 := p4 u e2 c
        have g2 := e5 (by omega)
        omega
      · exact c
      · have g1 := e4 v p2 c
        have g2 := p5 (by omega)
        omega
    subst huv
    rw [hs_eq m g t s u e1 e2 e3] at h2
    rcases p7 with ⟨a1, a2, a3, a4, a5, a6⟩ | ⟨a1, a2, a3, a4⟩ | ⟨a1, a2, a3, a4, a5, a6⟩
    · rw [if_pos ⟨a1, a2⟩] at h2
      exact absurd h2 (by decide)
    · omega
    · rw [a4, fu_s]
theorem put_r {m : zM} {t s x : Int} (h0 : 0 ≤ t) (h1 : t < 8) (hc : 0 ≤ m 4 45 (287 + t) ∧ m 4 45 (287 + t) ≤ 6) : (∀ g' k', ¬ (g' = 4 ∧ k' = 45) → (f243_1 t s x m).2 g' k' = m g' k') ∧ (∀ i, i < 287 ∨ 390 < i → (f243_1 t s x m).2 4 45 i = m 4 45 i) := by
  obtain ⟨v, m2, r2, p1, p2, p3, p4, p5, p6, p7⟩ := put_ref m t s x h0 h1 hc
  rw [p1]
  refine ⟨p6, fun i hi => ?_⟩
  show m2 4 45 i = m 4 45 i
  rcases p7 with ⟨a1, a2, a3, a4⟩ | ⟨a1, a2, a3, a4⟩ | ⟨a1, a2, a3, a4⟩
  · rw [a4, fu_i _ _ (by omega), fu_i _ _ (by omega), fu_i _ _ (by omega)]
  · rw [a4]
  · rw [a4, fu_i _ _ (by omega), fu_i _ _ (by omega), fu_i _ _ (by omega)]
    unfold shW
    rw [if_neg (by omega)]
/-- the rows of SWITCHES -/
theorem sws_loop {p0 : Int → Int} {t : Int} (t0 : 0 ≤ t) (t1 : t < 8) : ∀ (n n2 : Nat) (k : Int) (c r : zM), N0 c r → PS p0 c r → tbit (c 4 41 9) t = 1 → k = c 3 12 t → 7 - k < n → 7 - k < n2 →
    ∃ v c' r', fl97_38_1 (fun _ m => (0, m)) (fun m => (1, m)) t n k c = (v, c') ∧ fl269_40_1 (fun m => m) t n2 r = r' ∧ ((v = 1 ∧ N0 c' r' ∧ PS p0 c' r') ∨ (v = 0 ∧ FL c' r')) := by
  intro n
  induction n with
  | zero =>
    intro n2 k c r h hp hb hk h1
    have h6 := (hp.2.2.2.2.2.2.2.2.2.2.1 t t0 t1).2
    omega
  | succ n ih =>
    intro n2 k c r h hp hb hk h1 h2
    have h6 := hp.2.2.2.2.2.2.2.2.2.2.1 t t0 t1
    obtain ⟨n2, rfl⟩ : ∃ j, n2 = j + 1 := ⟨n2 - 1, by omega⟩
    show ∃ v c' r', fl97_38_1_b (fl97_38_1 (fun _ m => (0, m)) (fun m => (1, m)) t n) (fun _ m => (0, m)) (fun m => (1, m)) t k c = (v, c') ∧ fl269_40_1_b (fl269_40_1 (fun m => m) t n2) (fun m => m) t r = r' ∧ _
    unfold fl97_38_1_b fl269_40_1_b
    rw [if_neg (show ¬ 6 < k by omega), if_pos h.2.2.2.1]
    obtain ⟨g1, g2, g3, g4, g5⟩ := digit_eq h
    obtain ⟨vd, c1, ed⟩ : ∃ a b, f103_1 c = (a, b) := ⟨_, _, rfl⟩
    obtain ⟨ud, r1, fd⟩ : ∃ a b, f271_1 r = (a, b) := ⟨_, _, rfl⟩
    rw [ed] at g1 g3 g4 g5
    rw [fd] at g2 g3 g4
    dsimp only at g1 g2 g3 g4 g5
    subst g4
    rw [zb_eq ed, zb_eq fd]
    have hp1 := hp.pres g1.ec g2.er
    by_cases cd : ud = 0
    · rw [if_pos cd, if_pos cd]
      exact ⟨_, _, _, rfl, rfl, .inl ⟨rfl, g3, hp1⟩⟩
    rw [if_neg cd, if_neg cd]
    have fin : ∀ (ec : EC c c1), c1 3 12 t = k := fun ec => by rw [ec.g3]; exact hk.symm
    have hk1 := fin g1.ec
    have hb1 : tbit (c1 4 41 9) t = 1 := by rw [g1 _ _ _ (by omega)]; exact hb
    -- the hour
    obtain ⟨q1, q2, q3⟩ := num_eq g3 (most := 23) (by omega)
    obtain ⟨vh, c2, eh⟩ : ∃ a b, f100_1 23 c1 = (a, b) := ⟨_, _, rfl⟩
    obtain ⟨uh, r2, fh⟩ : ∃ a b, f270_1 0 23 r1 = (a, b) := ⟨_, _, rfl⟩
    rw [eh, fh] at q3
    rw [eh] at q1
    rw [fh] at q2
    dsimp only at q1 q2 q3
    unfold f104_1
    rw [zb_eq fh]
    have e104 : ∀ {A : Int → zM → Int × zM}, zb (f100_1 23 c1) A = A vh c2 := zb_eq eh
    rw [e104]
    have frozen : ∀ {c3 r3 : zM}, FL c3 r3 → ∃ v c' r', zb ((0 : Int), c3) (fun v17 m15 => if v17 = 0 then ((0 : Int), m15) else fl97_38_1 (fun _ m => (0, m)) (fun m => (1, m)) t n (k + 1) m15) = (v, c') ∧ fl269_40_1 (fun m => m) t n2 r3 = r' ∧ ((v = 1 ∧ N0 c' r' ∧ PS p0 c' r') ∨ (v = 0 ∧ FL c' r')) := by
      intro c3 r3 hf
      refine ⟨0, c3, r3, ?_, fz_tl n2 r3 hf.2.1, .inr ⟨rfl, hf⟩⟩
      show (if (0 : Int) = 0 then ((0 : Int), c3) else _) = _
      rw [if_pos rfl]
    rcases q3 with ⟨a1, a2, a3, a4, a5⟩ | ⟨a1, a2, a3⟩
    · sorry
    · sorry
