/-! The seal on both sides. -/
def SE (B : Int) (c : Nat → Int → Int) (w : Int → Int) : Prop := c 39 0 = w 1614 ∧ c 39 1 = w 1615 ∧ c 39 2 = w 1616 ∧ c 39 4 = w 1617 ∧ c 39 3 = w 1618 ∧ 0 ≤ c 39 3 ∧ c 39 3 ≤ B
theorem SE.up {B B' : Int} {c : Nat → Int → Int} {w : Int → Int} (h : SE B c w) (hb : B ≤ B') : SE B' c w := ⟨h.1, h.2.1, h.2.2.1, h.2.2.2.1, h.2.2.2.2.1, h.2.2.2.2.2.1, Int.le_trans h.2.2.2.2.2.2 hb⟩
theorem SE.of {B : Int} {c c' : Nat → Int → Int} {w w' : Int → Int} (h : SE B c w) (hc : ∀ i, 0 ≤ i → i ≤ 4 → c' 39 i = c 39 i) (hw : ∀ i, 1614 ≤ i → i ≤ 1618 → w' i = w i) : SE B c' w' := by
  unfold SE
  rw [hc 0 (by omega) (by omega), hc 1 (by omega) (by omega), hc 2 (by omega) (by omega), hc 3 (by omega) (by omega), hc 4 (by omega) (by omega), hw 1614 (by omega) (by omega), hw 1615 (by omega) (by omega), hw 1616 (by omega) (by omega), hw 1617 (by omega) (by omega), hw 1618 (by omega) (by omega)]
  exact h
theorem shut_T {c r : zM} {B : Int} (hc : OM B c) (hr : OM B r) (hB : B + 1 ≤ 1000000000) (hs : SE B (c 0) (r 4 45)) :
    ∃ v c' r', f17_1 0 c = (v, c') ∧ f203_1 r = (v, r') ∧ (v = 0 ∨ v = 1) ∧ v = c 0 39 0 ∧ OM B c' ∧ OM B r' ∧ SE (B + 1) (c' 0) (r' 4 45) ∧ (∀ g k i, ¬ (g = 0 ∧ k = 39 ∧ i = 3) → c' g k i = c g k i) ∧ (∀ g k i, ¬ (g = 4 ∧ k = 45 ∧ i = 1618) → r' g k i = r g k i) := by
  obtain ⟨k1, k2, k3⟩ := q17_1 0 hc.1 hc.2 (by omega) (by omega)
  obtain ⟨k4, k5, k6⟩ := q203_1 hr.1 hr.2 (by omega)
  have hv : 0 ≤ c 0 39 0 ∧ c 0 39 0 ≤ 1 := r39_0 hc.2.o 0
  obtain ⟨s1, s2, s3, s4, s5, s6, s7⟩ := hs
  refine ⟨c 0 39 0, (f17_1 0 c).2, (f203_1 r).2, ?_, ?_, by omega, rfl, ⟨k1, k2.jb⟩, ⟨k4, k5.jb⟩, ?_, ?_, ?_⟩
  · refine Prod.ext ?_ rfl
    unfold f17_1
    simp only [zs_a, zn_a]
    by_cases h : c 0 39 0 = 0
    · rw [if_pos h]
    · rw [if_neg h]
      show z_upd c 0 39 3 (w32 (c 0 39 3 + 1)) 0 39 0 = c 0 39 0
      rw [z_upd_o _ _ rfl]
  · refine Prod.ext ?_ rfl
    unfold f203_1
    simp only [zs_a, zn_a]
    rw [z_upd_o _ _ rfl, ← s1]
    by_cases h : c 0 39 0 = 1
    · rw [if_pos h, h]
    · rw [if_neg h]
      omega
  · unfold f17_1 f203_1
    simp only [zs_a, zn_a]
    rw [w64_id (by omega)]
    by_cases h : c 0 39 0 = 0
    · rw [if_pos h]
      refine SE.up (SE.of ⟨s1, s2, s3, s4, s5, s6, s7⟩ (fun i _ _ => rfl) (fun i i0 i1 => ?_)) (by omega)
      rw [zu_row]
      by_cases e : i = 1618
      · rw [e, fu_s]
        omega
      · rw [fu_i _ _ e]
    · rw [if_neg h, w32_id (by omega)]
      unfold SE
      try dsimp only
      rw [zu_row, zu_row, fu_i _ _ (show (0 : Int) ≠ 3 by decide), fu_i _ _ (show (1 : Int) ≠ 3 by decide), fu_i _ _ (show (2 : Int) ≠ 3 by decide), fu_i _ _ (show (4 : Int) ≠ 3 by decide), fu_i _ _ (show (1614 : Int) ≠ 1618 by decide), fu_i _ _ (show (1615 : Int) ≠ 1618 by decide), fu_i _ _ (show (1616 : Int) ≠ 1618 by decide), fu_i _ _ (show (1617 : Int) ≠ 1618 by decide), fu_s, fu_s]
      omega
  · intro g k i h9
    unfold f17_1
    simp only [zs_a, zn_a]
    by_cases h : c 0 39 0 = 0
    · rw [if_pos h]
    · rw [if_neg h]
      unfold z_upd
      exact if_neg h9
  · intro g k i h9
    unfold f203_1
    simp only [zs_a, zn_a]
    unfold z_upd
    exact if_neg h9
theorem seal_T {c r : zM} {B a : Int} (hc : OM B c) (hr : OM B r) (hB : B + 1 ≤ 1000000000) (hs : SE B (c 0) (r 4 45)) : (f114_1 a c).1 = (f276_1 a r).1 ∧ SE B ((f114_1 a c).2 0) ((f276_1 a r).2 4 45) := by
  have hv : 0 ≤ c 0 39 0 ∧ c 0 39 0 ≤ 1 := r39_0 hc.2.o 0
  have s1 := hs.1
  unfold f114_1 f115_1 f276_1
  by_cases h : c 0 39 0 = 0
  case neg =>
    rw [if_neg h, if_pos (show r 4 45 1614 = 1 by omega), zb_a]
    exact ⟨rfl, hs⟩
  rw [if_pos h, if_neg (show ¬ r 4 45 1614 = 1 by omega)]
  by_cases c1 : a < 0
  · rw [if_pos c1, if_pos c1, zb_a]
    exact ⟨rfl, hs⟩
  rw [if_neg c1, if_neg c1]
  by_cases c2 : a ≤ 9999
  case neg =>
    rw [if_neg c2, if_neg c2, zb_a]
    exact ⟨rfl, hs⟩
  rw [if_pos c2, if_pos c2]
  simp only [zs_a, zb_a]
  rw [if_neg (by decide)]
  have o1 := u39_1 (g := 0) (x := a) (u39_0 (g := 0) (x := 1) hc (by omega)) (by omega)
  have o2 := u45_1615 (g := 4) (x := a) (u45_1614 (g := 4) (x := 1) hr (by omega)) (by omega)
  have e : SE B (z_upd (z_upd c 0 39 0 1) 0 39 1 a 0) (z_upd (z_upd r 4 45 1614 1) 4 45 1615 a 4 45) := by
    obtain ⟨s1, s2, s3, s4, s5, s6, s7⟩ := hs
    unfold SE
    rw [zu_row, zu_row, zu_row, zu_row, fu_i _ _ (show (0 : Int) ≠ 1 by decide), fu_s, fu_s, fu_i _ _ (show (2 : Int) ≠ 1 by decide), fu_i _ _ (show (2 : Int) ≠ 0 by decide), fu_i _ _ (show (3 : Int) ≠ 1 by decide), fu_i _ _ (show (3 : Int) ≠ 0 by decide), fu_i _ _ (show (4 : Int) ≠ 1 by decide), fu_i _ _ (show (4 : Int) ≠ 0 by decide),
      fu_i _ _ (show (1614 : Int) ≠ 1615 by decide), fu_s, fu_s, fu_i _ _ (show (1616 : Int) ≠ 1615 by decide), fu_i _ _ (show (1616 : Int) ≠ 1614 by decide), fu_i _ _ (show (1617 : Int) ≠ 1615 by decide), fu_i _ _ (show (1617 : Int) ≠ 1614 by decide), fu_i _ _ (show (1618 : Int) ≠ 1615 by decide), fu_i _ _ (show (1618 : Int) ≠ 1614 by decide)]
    exact ⟨rfl, rfl, s3, s4, s5, s6, s7⟩
  generalize z_upd (z_upd c 0 39 0 1) 0 39 1 a = c1 at o1 e ⊢
  generalize z_upd (z_upd r 4 45 1614 1) 4 45 1615 a = r1 at o2 e ⊢
  obtain ⟨d1, d2⟩ := q54_2 0 30 0 o1.1 o1.2 (by omega) (by omega) (by omega) (by omega)
  obtain ⟨d3, d4⟩ := q223_1 30 0 o2.1 o2.2 (by omega) (by omega) (by omega)
  refine ⟨rfl, ?_⟩
  dsimp only
  exact e.of (fun i i0 i1 => jx d2 4 (ja39_0 ⟨i0, i1⟩) rfl) (fun i i0 i1 => jx d4 24 (ja45_1614 ⟨i0, i1⟩) rfl)
theorem fuSE {B : Int} {c : Nat → Int → Int} {w : Int → Int} (h : SE B c w) {c' : Nat → Int → Int} {w' : Int → Int} (h0 : c' 39 0 = w' 1614) (h1 : c' 39 1 = w' 1615) (h2 : c' 39 2 = w' 1616) (h4 : c' 39 4 = w' 1617) (h3 : c' 39 3 = c 39 3) (h3' : w' 1618 = w 1618) : SE B c' w' := by
  obtain ⟨s1, s2, s3, s4, s5, s6, s7⟩ := h
  exact ⟨h0, h1, h2, h4, by rw [h3, h3']; exact s5, by omega, by omega⟩
theorem open_T {c r : zM} {B a : Int} (hc : OM B c) (hr : OM B r) (hB : B + 4 ≤ 1000000000) (ht : c 0 8 9 = r 4 45 0) (hs : SE B (c 0) (r 4 45)) : (f116_1 a c).1 = (f277_1 a r).1 ∧ SE B ((f116_1 a c).2 0) ((f277_1 a r).2 4 45) := by
  have hv : 0 ≤ c 0 39 0 ∧ c 0 39 0 ≤ 1 := r39_0 hc.2.o 0
  have hw2 : 0 ≤ r 4 45 1616 ∧ r 4 45 1616 ≤ B := r45_1616 hr.2.o 4
  have hw0 := hr.w
  obtain ⟨s1, s2, s3, s4, s5, s6, s7⟩ := hs
  have e118 : f118_1 0 (c 0 8 9) c = f278_1 r := by
    unfold f118_1 f278_1
    rw [ht, s4, zn_a]
    split <;> omega
  unfold f116_1 f117_1 f277_1
  by_cases h : c 0 39 0 = 0
  · rw [if_pos h, if_pos (show r 4 45 1614 = 0 by omega), zb_a]
    exact ⟨rfl, s1, s2, s3, s4, s5, s6, s7⟩
  rw [if_neg h, if_neg (show ¬ r 4 45 1614 = 0 by omega), zn_a, zn_a, e118]
  by_cases c1 : f278_1 r ≤ 0
  case neg =>
    rw [if_neg c1, if_neg c1, zb_a]
    exact ⟨rfl, s1, s2, s3, s4, s5, s6, s7⟩
  rw [if_pos c1, if_pos c1, s2]
  by_cases c2 : a = r 4 45 1615
  · rw [if_pos c2, if_pos c2]
    unfold f119_1
    simp only [zs_a, zb_a]
    have o1 := u39_4 (g := 0) (x := 0) (u39_2 (g := 0) (x := 0) (u39_0 (g := 0) (x := 0) hc (by omega)) (by omega) (by omega)) (by omega)
    have o2 := u45_1617 (g := 4) (x := 0) (u45_1616 (g := 4) (x := 0) (u45_1614 (g := 4) (x := 0) hr (by omega)) (by omega) (by omega)) (by omega)
    have e : SE B (z_upd (z_upd (z_upd c 0 39 0 0) 0 39 2 0) 0 39 4 0 0) (z_upd (z_upd (z_upd r 4 45 1614 0) 4 45 1616 0) 4 45 1617 0 4 45) := by
      refine fuSE ⟨s1, s2, s3, s4, s5, s6, s7⟩ ?_ ?_ ?_ ?_ ?_ ?_
      · rw [z_upd_o _ _ rfl, z_upd_o _ _ rfl, z_upd_same, z_upd_o _ _ rfl, z_upd_o _ _ rfl, z_upd_same]
      · rw [z_upd_o _ _ rfl, z_upd_o _ _ rfl, z_upd_o _ _ rfl, z_upd_o _ _ rfl, z_upd_o _ _ rfl, z_upd_o _ _ rfl]; exact s2
      · rw [z_upd_o _ _ rfl, z_upd_same, z_upd_o _ _ rfl, z_upd_same]
      · rw [z_upd_same, z_upd_same]
      · rw [z_upd_o _ _ rfl, z_upd_o _ _ rfl, z_upd_o _ _ rfl]
      · rw [z_upd_o _ _ rfl, z_upd_o _ _ rfl, z_upd_o _ _ rfl]
    generalize z_upd (z_upd (z_upd c 0 39 0 0) 0 39 2 0) 0 39 4 0 = c1 at o1 e ⊢
    generalize z_upd (z_upd (z_upd r 4 45 1614 0) 4 45 1616 0) 4 45 1617 0 = r1 at o2 e ⊢
    obtain ⟨d1, d2⟩ := q54_5 0 31 0 o1.1 o1.2 (by omega) (by omega) (by omega) (by omega)
    obtain ⟨d3, d4⟩ := q223_1 31 0 o2.1 o2.2 (by omega) (by omega) (by omega)
    refine ⟨by first | rfl | trivial, ?_⟩
    try dsimp only
    exact e.of (fun i i0 i1 => jx d2 4 (ja39_0 ⟨i0, i1⟩) rfl) (fun i i0 i1 => jx d4 24 (ja45_1614 ⟨i0, i1⟩) rfl)
  · rw [if_neg c2, if_neg c2]
    simp only [zs_a, zb_a]
    have o1 : OM (B + 1) (z_upd c 0 39 2 (c 0 39 2 + 1)) := u39_2 (g := 0) (hc.up (by omega)) (by omega) (by omega)
    have o2 : OM (B + 1) (z_upd r 4 45 1616 (r 4 45 1616 + 1)) := u45_1616 (g := 4) (hr.up (by omega)) (by omega) (by omega)
    have e : SE B (z_upd c 0 39 2 (c 0 39 2 + 1) 0) (z_upd r 4 45 1616 (r 4 45 1616 + 1) 4 45) := by
      refine fuSE ⟨s1, s2, s3, s4, s5, s6, s7⟩ ?_ ?_ ?_ ?_ ?_ ?_
      · rw [z_upd_o _ _ rfl, z_upd_o _ _ rfl]; exact s1
      · rw [z_upd_o _ _ rfl, z_upd_o _ _ rfl]; exact s2
      · rw [z_upd_same, z_upd_same, s3]
      · rw [z_upd_o _ _ rfl, z_upd_o _ _ rfl]; exact s4
      · rw [z_upd_o _ _ rfl]
      · rw [z_upd_o _ _ rfl]
    have t1 : z_upd c 0 39 2 (c 0 39 2 + 1) 0 8 9 = r 4 45 0 := by rw [z_upd_o _ _ rfl]; exact ht
    have t2 : z_upd r 4 45 1616 (r 4 45 1616 + 1) 4 45 0 = r 4 45 0 := z_upd_o _ _ rfl
    have b2 : z_upd c 0 39 2 (c 0 39 2 + 1) 0 39 2 = c 0 39 2 + 1 := z_upd_same _ _ _ _ _
    have b3 : z_upd r 4 45 1616 (r 4 45 1616 + 1) 4 45 1616 = r 4 45 1616 + 1 := z_upd_same _ _ _ _ _
    generalize z_upd c 0 39 2 (c 0 39 2 + 1) = c1 at o1 e t1 b2 ⊢
    generalize z_upd r 4 45 1616 (r 4 45 1616 + 1) = r1 at o2 e t2 b3 ⊢
    obtain ⟨d1, d2⟩ := q54_3 0 32 (c1 0 39 2) o1.1 o1.2 (by omega) (by omega) (by omega) (by omega)
    obtain ⟨d3, d4⟩ := q223_1 32 (r1 4 45 1616) o2.1 o2.2 (by omega) (by omega) (by omega)
    have e2 := e.of (fun i i0 i1 => jx d2 4 (g := 0) (ja39_0 ⟨i0, i1⟩) rfl) (fun i i0 i1 => jx d4 24 (g := 4) (ja45_1614 ⟨i0, i1⟩) rfl)
    have t3 := (jt d2 0 rfl).trans t1
    have t4 := (jw0 d4 rfl).trans t2
    have o3 : OM (B + 2) (f54_1 0 32 (c1 0 39 2) c1) := .q d1 d2 (by omega)
    have o4 : OM (B + 2) (f223_1 32 (r1 4 45 1616) r1) := .q d3 d4 (by omega)
    generalize f54_1 0 32 (c1 0 39 2) c1 = c2 at o3 e2 t3 ⊢
    generalize f223_1 32 (r1 4 45 1616) r1 = r2 at o4 e2 t4 ⊢
    obtain ⟨v1, v2, v3, v4, v5, v6, v7⟩ := e2
    rw [v3]
    by_cases c3 : r2 4 45 1616 < 3
    · rw [if_pos c3, if_pos c3]
      exact ⟨rfl, v1, v2, v3, v4, v5, v6, v7⟩
    · rw [if_neg c3, if_neg c3]
      unfold f121_1
      simp only [zs_a]
      have o5 := u39_4 (g := 0) (x := c2 0 8 9 + 300) (u39_2 (g := 0) (x := 0) o3 (by omega) (by omega)) (by omega)
      have t5 : z_upd r2 4 45 1616 0 4 45 0 = r2 4 45 0 := z_upd_o _ _ rfl
      rw [t5]
      have o6 := u45_1617 (g := 4) (x := r2 4 45 0 + 300) (u45_1616 (g := 4) (x := 0) o4 (by omega) (by omega)) (by omega)
      have e3 : SE B (z_upd (z_upd c2 0 39 2 0) 0 39 4 (c2 0 8 9 + 300) 0) (z_upd (z_upd r2 4 45 1616 0) 4 45 1617 (r2 4 45 0 + 300) 4 45) := by
        refine fuSE ⟨v1, v2, v3, v4, v5, v6, v7⟩ ?_ ?_ ?_ ?_ ?_ ?_
        · rw [z_upd_o _ _ rfl, z_upd_o _ _ rfl, z_upd_o _ _ rfl, z_upd_o _ _ rfl]; exact v1
        · rw [z_upd_o _ _ rfl, z_upd_o _ _ rfl, z_upd_o _ _ rfl, z_upd_o _ _ rfl]; exact v2
        · rw [z_upd_o _ _ rfl, z_upd_same, z_upd_o _ _ rfl, z_upd_same]
        · rw [z_upd_same, z_upd_same]
          omega
        · rw [z_upd_o _ _ rfl, z_upd_o _ _ rfl]
        · rw [z_upd_o _ _ rfl, z_upd_o _ _ rfl]
      generalize z_upd (z_upd c2 0 39 2 0) 0 39 4 (c2 0 8 9 + 300) = c3 at o5 e3 ⊢
      generalize z_upd (z_upd r2 4 45 1616 0) 4 45 1617 (r2 4 45 0 + 300) = r3 at o6 e3 ⊢
      obtain ⟨d5, d6⟩ := q54_4 0 33 0 o5.1 o5.2 (by omega) (by omega) (by omega) (by omega)
      obtain ⟨d7, d8⟩ := q223_1 33 0 o6.1 o6.2 (by omega) (by omega) (by omega)
      refine ⟨by first | rfl | trivial, ?_⟩
      try dsimp only
      exact e3.of (fun i i0 i1 => jx d6 4 (ja39_0 ⟨i0, i1⟩) rfl) (fun i i0 i1 => jx d8 24 (ja45_1614 ⟨i0, i1⟩) rfl)
