/-! The calendar's text: a line. -/
noncomputable def lnC (c : zM) : Int × zM := zb (f94_1 c) fun v m => if v = 0 then (0, m) else f105_1 59 m
theorem OUT.end {p0 : Int → Int} {v : Int} {c r : zM} (h : OUT p0 v c r) : ∃ v' c', (if v = 0 then ((0 : Int), c) else f105_1 59 c) = (v', c') ∧ OUT p0 v' c' (f272_1 59 r) := by
  rcases h with ⟨a1, a2, a3⟩ | ⟨a1, a2⟩
  · obtain ⟨q1, q2, q3⟩ := sign_eq a2 (x := 59) (by omega)
    rw [if_neg (by omega)]
    rcases q3 with ⟨b1, b2, b3⟩ | ⟨b1, b2⟩
    · exact ⟨_, _, rfl, .inl ⟨b1, b2, a3.pres q1 q2⟩⟩
    · exact ⟨_, _, rfl, .inr ⟨b1, b2⟩⟩
  · rw [if_pos a1]
    exact ⟨_, _, rfl, .inr ⟨rfl, a2.fz (fz_must a2.2.1 59).fz⟩⟩
theorem f265_eq {c r : zM} (h : TP c r) :
    (f265_1 r = 1 ∧ f96_1 (f95_1 c) c = 1 ∧ f95_1 c = 5) ∨
    (f265_1 r = 2 ∧ f96_1 (f95_1 c) c = 0 ∧ f96_2 (f95_1 c) c = 1 ∧ f95_1 c = 6) ∨
    (f265_1 r = 3 ∧ f96_1 (f95_1 c) c = 0 ∧ f96_2 (f95_1 c) c = 0 ∧ f96_3 (f95_1 c) c = 1 ∧ f95_1 c = 7) ∨
    (f265_1 r = 4 ∧ f96_1 (f95_1 c) c = 0 ∧ f96_2 (f95_1 c) c = 0 ∧ f96_3 (f95_1 c) c = 0 ∧ f96_4 (f95_1 c) c = 1 ∧ f95_1 c = 5) ∨
    (f265_1 r = 0 ∧ f96_1 (f95_1 c) c = 0 ∧ f96_2 (f95_1 c) c = 0 ∧ f96_3 (f95_1 c) c = 0 ∧ f96_4 (f95_1 c) c = 0) := by
  obtain ⟨e1, w1⟩ := word1_eq h
  obtain ⟨e2, w2⟩ := word2_eq h
  obtain ⟨e3, w3⟩ := word3_eq h
  obtain ⟨e4, w4⟩ := word4_eq h
  unfold f265_1
  rw [zn_eq e1]
  rcases w1 with w1 | ⟨w1, n1⟩
  · rw [if_pos w1, zn_eq e2]
    rcases w2 with w2 | ⟨w2, n2⟩
    · rw [if_pos w2, zn_eq e3]
      rcases w3 with w3 | ⟨w3, n3⟩
      · rw [if_pos w3, zn_eq e4]
        simp only [zn]
        rcases w4 with w4 | ⟨w4, n4⟩
        · rw [if_pos w4]
          exact .inr (.inr (.inr (.inr ⟨rfl, w1, w2, w3, w4⟩)))
        · rw [if_neg (by omega)]
          exact .inr (.inr (.inr (.inl ⟨rfl, w1, w2, w3, w4, n4⟩)))
      · rw [if_neg (by omega)]
        exact .inr (.inr (.inl ⟨rfl, w1, w2, w3, n3⟩))
    · rw [if_neg (by omega)]
      exact .inr (.inl ⟨rfl, w1, w2, n2⟩)
  · rw [if_neg (by omega)]
    exact .inl ⟨rfl, w1, n1⟩
theorem line_eq {p0 : Int → Int} {c r : zM} (h : N0 c r) (hp : PS p0 c r) : ∃ v c', lnC c = (v, c') ∧ OUT p0 v c' (f264_1 r) := by
  obtain ⟨l1, l2, l3⟩ := let_eq h.1
  have e8 : c 4 41 7 = r 4 44 8 := h.1.2.2.2.2.2
  have e9 := h.2.2.2.1
  have h9 : ∀ x, z_upd r 4 44 8 x 4 44 9 = 0 := fun x => by rw [z_upd_o _ _ rfl]; exact e9
  unfold lnC f94_1 f264_1
  have x95 : ∀ {A : Int → Int × zM}, zn (f95_1 c) A = A (f95_1 c) := zn_eq rfl
  have x265 : ∀ {A : Int → zM}, zn (f265_1 r) A = A (f265_1 r) := zn_eq rfl
  have x267 : ∀ {A : Int → zM}, zn (f267_1 r) A = A (c 4 41 7 + f95_1 c) := zn_eq l1.symm
  have y1 : ∀ {A : Int → Int × zM}, zn (f96_1 (f95_1 c) c) A = A (f96_1 (f95_1 c) c) := zn_eq rfl
  have y2 : ∀ {A : Int → Int × zM}, zn (f96_2 (f95_1 c) c) A = A (f96_2 (f95_1 c) c) := zn_eq rfl
  have y3 : ∀ {A : Int → Int × zM}, zn (f96_3 (f95_1 c) c) A = A (f96_3 (f95_1 c) c) := zn_eq rfl
  have y4 : ∀ {A : Int → Int × zM}, zn (f96_4 (f95_1 c) c) A = A (f96_4 (f95_1 c) c) := zn_eq rfl
  rw [x95, x265, y1]
  rcases f265_eq h.1 with ⟨g0, g1, g2⟩ | ⟨g0, g1, g2, g3⟩ | ⟨g0, g1, g2, g3, g4⟩ | ⟨g0, g1, g2, g3, g4, g5⟩ | ⟨g0, g1, g2, g3, g4⟩
  · obtain ⟨v, c', r', t1, t2, t3⟩ := table_eq h hp (by omega)
    rw [g0, if_neg (by omega), if_neg (by decide), if_neg (by decide), if_neg (by decide), x267, g2]
    simp only [zs]
    rw [if_pos (h9 _), if_pos trivial, t2, t1]
    exact t3.end
  · obtain ⟨v, c', r', t1, t2, t3⟩ := season_eq h hp (by omega)
    rw [g0, if_pos g1, y2, if_neg (by omega), if_neg (by decide), if_neg (by decide), if_neg (by decide), x267, g3]
    simp only [zs]
    rw [if_pos (h9 _), if_neg (by decide), if_pos trivial, t2, t1]
    exact t3.end
  · have hn : c 3 11 7 = r 4 44 13 := hp.2.2.2.2.2.2.2.1
    have hb := hp.2.2.2.2.2.2.2.2.2.2.2.1
    obtain ⟨t1, t2⟩ := special_eq h hp (by omega)
    rw [g0, if_pos g1, y2, if_pos g2, y3, if_neg (by omega), if_neg (by decide), if_pos rfl]
    by_cases c1 : r 4 44 13 < 16
    · obtain ⟨v, c', r', t3, t4, t5⟩ := t1 c1
      rw [if_neg (by omega), x267, g4]
      simp only [zs, zn]
      have k13 : z_upd r 4 44 8 (c 4 41 7 + 7) 4 44 13 = r 4 44 13 := z_upd_o _ _ rfl
      rw [if_pos (h9 _), k13, w32_id (by omega), t4, t3]
      exact t5.end
    · obtain ⟨c', t3, t4⟩ := t2 c1
      rw [if_pos (by omega), t3]
      simp only [zs, zn]
      generalize f268_1 4 (r 4 44 8) r = r2 at t4 ⊢
      have z9 : z_upd r2 4 44 8 (f267_1 r2) 4 44 9 = 1 := by rw [z_upd_o _ _ rfl]; exact t4.2.1
      rw [if_neg (by rw [z9]; decide)]
      exact ⟨0, c', rfl, .inr ⟨rfl, t4.fz ⟨z_upd_o _ _ rfl, z_upd_o _ _ rfl, z_upd_o _ _ rfl, z_upd_o _ _ rfl⟩⟩⟩
  · rw [g0, if_pos g1, y2, if_pos g2, y3, if_pos g3, y4, if_neg (by omega), if_neg (by decide), if_neg (by decide), if_pos rfl]
    have h14 := hp.2.2.2.2.1
    unfold f110_1
    by_cases c1 : c 4 41 6 = 0
    · rw [if_pos c1, if_pos (by omega), x267, g5]
      simp only [zs]
      rw [if_pos (h9 _)]
      have hN0 := h.pass (x := c 4 41 7 + 5) (by have := h.1.2.2.2.1; omega) (by omega)
      have hN : N0 (z_upd c 4 41 7 (c 4 41 7 + 5)) (z_upd (z_upd r 4 44 8 (c 4 41 7 + 5)) 4 44 14 1) := hN0.congr (fun _ _ => rfl) rfl (fun i i0 i1 => z_upd_i _ _ _ _ (by omega)) (zu_k _ _ _ (by decide))
      have hP : PS p0 (z_upd c 4 41 7 (c 4 41 7 + 5)) (z_upd r 4 44 8 (c 4 41 7 + 5)) := hp.pres (EC.upd _ _ (by omega)) (ER.upd _ _ (by omega))
      have hQ := hP.begin (by rw [z_upd_o _ _ rfl]; exact c1)
      obtain ⟨v, c', r', t1, t2, t3⟩ := price_loop (p0 := p0) (k := fun m61 => f272_1 59 m61) (zfu 5) (zfu 5) 0 _ _ hN hQ (by omega) (by omega) (by rw [zfu_eq]; omega) (by rw [zfu_eq]; omega)
      simp only [zs] at t1
      rw [t1, t2]
      exact t3.end
    · rw [if_neg c1, if_neg (by omega)]
      obtain ⟨f1, f2, f3, f4⟩ := h.fail (k := 3) (by decide) e8
      obtain ⟨v3, c3, e3⟩ : ∃ a b, f102_1 3 (c 4 41 7) c = (a, b) := ⟨_, _, rfl⟩
      rw [e3] at f1 f2 f3
      dsimp only at f1 f2 f3
      subst f1
      rw [zb_eq e3]
      simp only [zs, zn]
      generalize f268_1 3 (r 4 44 8) r = r2 at f2 ⊢
      have z9 : z_upd r2 4 44 8 (f267_1 r2) 4 44 9 = 1 := by rw [z_upd_o _ _ rfl]; exact f2.2.1
      rw [if_neg (by rw [z9]; decide)]
      exact ⟨0, c3, rfl, .inr ⟨rfl, f2.fz ⟨z_upd_o _ _ rfl, z_upd_o _ _ rfl, z_upd_o _ _ rfl, z_upd_o _ _ rfl⟩⟩⟩
  · rw [g0, if_pos g1, y2, if_pos g2, y3, if_pos g3, y4, if_pos g4, if_pos rfl]
    obtain ⟨f1, f2, f3, f4⟩ := h.fail (k := 1) (by decide) e8
    obtain ⟨v3, c3, e3⟩ : ∃ a b, f102_1 1 (c 4 41 7) c = (a, b) := ⟨_, _, rfl⟩
    rw [e3] at f1 f2 f3
    dsimp only at f1 f2 f3
    subst f1
    rw [zb_eq e3]
    simp only [zs, zn]
    generalize f268_1 1 (r 4 44 8) r = r2 at f2 ⊢
    have z9 : z_upd r2 4 44 8 (f267_1 r2) 4 44 9 = 1 := by rw [z_upd_o _ _ rfl]; exact f2.2.1
    rw [if_neg (by rw [z9]; decide)]
    exact ⟨0, c3, rfl, .inr ⟨rfl, f2.fz ⟨z_upd_o _ _ rfl, z_upd_o _ _ rfl, z_upd_o _ _ rfl, z_upd_o _ _ rfl⟩⟩⟩
