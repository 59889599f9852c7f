/-! The calendar's text: the four lines. -/
theorem told_eq {c r : zM} (h : N0 c r) {x most : Int} (hx : 0 ≤ x ∧ x < 256) (hm : 0 ≤ most ∧ most < 8) :
    ∃ v c1 u r1, f99_1 most x c = (v, c1) ∧ f270_1 0 most r = (u, r1) ∧ EC c c1 ∧ ER r r1 ∧
      ((0 ≤ v ∧ v ≤ most ∧ u = v ∧ tbit x v = 0 ∧ N0 c1 r1) ∨ (v = -1 ∧ FL c1 r1) ∨ (v = -1 ∧ r1 4 44 9 = 0 ∧ 0 ≤ u ∧ u ≤ most ∧ tbit x u = 1 ∧ FL c1 (f268_1 3 (r1 4 44 10) r1))) := by
  obtain ⟨q1, q2, q3⟩ := num_eq h (most := most) (by omega)
  obtain ⟨v, c1, e1⟩ : ∃ a b, f100_1 most c = (a, b) := ⟨_, _, rfl⟩
  obtain ⟨u, r1, e2⟩ : ∃ a b, f270_1 0 most r = (a, b) := ⟨_, _, rfl⟩
  rw [e1, e2] at q3
  rw [e1] at q1
  rw [e2] at q2
  dsimp only at q1 q2 q3
  unfold f99_1
  rw [zb_eq e1]
  rcases q3 with ⟨a1, a2, a3, a4, a5⟩ | ⟨a1, a2, a3⟩
  · rw [if_neg (by omega)]
    simp only [zn]
    obtain ⟨t1, t2, t3⟩ := tbit_set hx (v := v) (by omega)
    by_cases c1' : tbit x v = 1
    · rw [if_pos (show zand (zshr x v) 1 = 1 from c1')]
      obtain ⟨f1, f2, f3, f4⟩ := a4.fail (k := 3) (by decide) a5
      obtain ⟨v3, c3, e3⟩ : ∃ a b, f102_1 3 (c1 4 41 8) c1 = (a, b) := ⟨_, _, rfl⟩
      rw [e3] at f1 f2 f3
      dsimp only at f1 f2 f3
      rw [zb_eq e3]
      exact ⟨_, _, u, r1, rfl, e2, q1.trans f3, q2, .inr (.inr ⟨rfl, a4.2.2.2.1, by omega, by omega, by rw [a3]; exact c1', f2⟩)⟩
    · rw [if_neg (show ¬ zand (zshr x v) 1 = 1 from c1')]
      exact ⟨_, _, u, r1, rfl, e2, q1, q2, .inl ⟨a1, a2, a3, by omega, a4⟩⟩
  · rw [if_pos a1]
    exact ⟨_, _, u, r1, rfl, e2, q1, q2, .inr (.inl ⟨a1, a3⟩)⟩
/-- what lines tell: done, or a fault on both sides -/
def OUT (p0 : Int → Int) (v : Int) (c r : zM) : Prop := (v = 1 ∧ N0 c r ∧ PS p0 c r) ∨ (v = 0 ∧ FL c r)
theorem PS.n3 {p0 : Int → Int} {c r c' r' : zM} (h : PS p0 c r) (h3 : c' 3 = c 3) (h43 : c' 4 43 = c 4 43) (h45 : r' 4 45 = r 4 45) (h6 : c' 4 41 6 = c 4 41 6) (h13 : r' 4 44 13 = r 4 44 13) (h14 : r' 4 44 14 = r 4 44 14)
    (hb : 0 ≤ c' 4 41 9 ∧ c' 4 41 9 < 256) (hb' : 0 ≤ c' 4 41 10 ∧ c' 4 41 10 < 256) (ht : ∀ v : Int, 0 ≤ v → v < 8 → tbit (c' 4 41 9) v = r' 4 49 v) (hs : ∀ v : Int, 0 ≤ v → v < 4 → tbit (c' 4 41 10) v = r' 4 50 v)
    (ht0 : ∀ v : Int, 0 ≤ v → v < 8 → tbit (c' 4 41 9) v = 0 → c 3 12 v = 0) : PS p0 c' r' := by
  obtain ⟨l1, l2, l3, l4, l5, l6, l7, l8, l9, l10, l11⟩ := h
  unfold PS
  rw [h3, h43, h45, h6, h13, h14]
  exact ⟨hb, hb', ht, hs, l5, l6, l7, l8, ht0, l10, l11⟩
theorem table_eq {p0 : Int → Int} {c r : zM} (h : N0 c r) (hp : PS p0 c r) (hl : c 4 41 7 + 5 ≤ c 4 41 3) :
    ∃ v c' r', f97_1 c = (v, c') ∧ f269_1 (z_upd r 4 44 8 (c 4 41 7 + 5)) = r' ∧ OUT p0 v c' r' := by
  have h0 : 0 ≤ c 4 41 7 := h.1.2.2.2.1
  have hN := h.pass (x := c 4 41 7 + 5) (by omega) hl
  have hP : PS p0 (z_upd c 4 41 7 (c 4 41 7 + 5)) (z_upd r 4 44 8 (c 4 41 7 + 5)) := hp.pres (EC.upd _ _ (by omega)) (ER.upd _ _ (by omega))
  unfold f97_1 f269_1
  simp only [zs]
  generalize z_upd c 4 41 7 (c 4 41 7 + 5) = c0 at hN hP ⊢
  generalize z_upd r 4 44 8 (c 4 41 7 + 5) = r0 at hN hP ⊢
  obtain ⟨v, c1, u, r1, e1, e2, g1, g2, g3⟩ := told_eq hN (x := c0 4 41 9) (most := 7) hP.1 (by omega)
  rw [zb_eq e1, zb_eq e2]
  have hP1 := hP.pres g1 g2
  rcases g3 with ⟨a1, a2, a3, a4, a5⟩ | ⟨a1, a2⟩ | ⟨a1, a2, a3, a4, a5, a6⟩
  · subst a3
    have e9 : c1 4 41 9 = c0 4 41 9 := g1 _ _ _ (by omega)
    obtain ⟨t1, t2, t3⟩ := tbit_set hP1.1 (v := u) (by omega)
    rw [← e9] at a4
    have e49 : r1 4 49 u = 0 := by rw [← hP1.2.2.1 u a1 (by omega)]; exact a4
    rw [if_neg (by omega), if_pos a5.2.2.2.1, if_pos e49]
    simp only [zn]
    obtain ⟨b, hb⟩ : ∃ b, b = zor (c1 4 41 9) (zshl 1 u) := ⟨_, rfl⟩
    rw [← hb] at t1 t3 ⊢
    have hN2 : N0 (z_upd c1 4 41 9 b) (z_upd r1 4 49 u 1) := a5.congr (fun i hi => z_upd_i _ _ _ _ (by omega)) (zu_k _ _ _ (by decide)) (fun i _ _ => z_upd_o _ _ rfl) (zu_k _ _ _ (by decide))
    have hP2 : PS p0 (z_upd c1 4 41 9 b) (z_upd r1 4 49 u 1) := by
      refine hP1.n3 (zu_g _ _ _ (by decide)) (zu_k _ _ _ (by decide)) (zu_k _ _ _ (by decide)) (z_upd_o _ _ rfl) (z_upd_o _ _ rfl) (z_upd_o _ _ rfl) ?_ ?_ ?_ ?_ ?_
      · rw [z_upd_same]
        exact t1
      · rw [z_upd_o _ _ rfl]
        exact hP1.2.1
      · intro v v0 v1
        rw [z_upd_same, t3 v v0 v1, zu_row]
        by_cases e : v = u
        · rw [if_pos e, e, fu_s]
        · rw [if_neg e, fu_i _ _ e]
          exact hP1.2.2.1 v v0 v1
      · intro v v0 v1
        rw [z_upd_o _ _ rfl, zu_k _ _ _ (by decide)]
        exact hP1.2.2.2.1 v v0 v1
      · intro v v0 v1 e
        rw [z_upd_same, t3 v v0 v1] at e
        by_cases e8 : v = u
        · rw [if_pos e8] at e
          exact absurd e (by decide)
        · rw [if_neg e8] at e
          exact hP1.2.2.2.2.2.2.2.2.1 v v0 v1 e
    have hc0 : c1 3 12 u = 0 := hP1.2.2.2.2.2.2.2.2.1 u a1 (by omega) a4
    refine sws_loop a1 (by omega) (zfu 8) (zfu 605) 0 _ _ hN2 hP2 ?_ ?_ (by rw [zfu_eq]; omega) (by rw [zfu_eq]; omega)
    · rw [z_upd_same, t3 u a1 (by omega), if_pos rfl]
    · rw [z_upd_o _ _ rfl]
      exact hc0.symm
  · rw [if_pos a1, if_neg (by rw [a2.2.1]; decide)]
    have hz : z_upd r1 4 49 u 1 4 44 9 = 1 := by rw [z_upd_o _ _ rfl]; exact a2.2.1
    exact ⟨_, _, _, rfl, rfl, .inr ⟨rfl, by rw [fz_tl _ _ hz]; exact a2.fz (FZ.upd _ _ _ (by decide))⟩⟩
  · have e9 : c1 4 41 9 = c0 4 41 9 := g1 _ _ _ (by omega)
    rw [← e9, hP1.2.2.1 u a3 (by omega)] at a5
    rw [if_pos a1, if_pos a2, if_neg (by omega)]
    generalize f268_1 3 (r1 4 44 10) r1 = r2 at a6 ⊢
    have hz : z_upd r2 4 49 u 1 4 44 9 = 1 := by rw [z_upd_o _ _ rfl]; exact a6.2.1
    exact ⟨_, _, _, rfl, rfl, .inr ⟨rfl, by rw [fz_tl _ _ hz]; exact a6.fz (FZ.upd _ _ _ (by decide))⟩⟩
