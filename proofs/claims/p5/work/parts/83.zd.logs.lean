/-! Seal, marks, credit: what the log tells. -/
theorem MG.of {A Z : Int} {c : Nat → Int → Int} {w : Int → Int} (t : w 0 = c 8 9) (n : CN c w) (o : CO c w) (r : RG c w) (k : MK c w) (l : LG c w) (d : DM c w) (ld : LD c w) (od : OD c w) (v : WV c w) (cr : CR c w) (b : CBD A Z c) (s : c 8 12 = shO (c 8 11) (c 8 10)) (p : c 8 11 = 0 ∨ c 8 11 = 1) : MG A Z c w := ⟨MV.of t n o r k l d ld od, v, cr, b, s, p⟩
/-- stores beside the log -/
theorem LG.zz {c : zM} {r : zM} {k : Nat} {i x j y : Int} (h : LG (c 0) (r 4 45)) (hk : k ≠ 37 ∧ k ≠ 38) (hj : j ≠ 16 ∧ (j < 1487 ∨ 1606 < j)) : LG (z_upd c 0 k i x 0) (z_upd r 4 45 j y 4 45) :=
  h.pt (fun k' hk' => zu_k _ _ _ (by omega)) (fun i hi => by rw [zu_row, fu_i _ _ (by omega)])
theorem LG.zc {c : zM} {w : Int → Int} {k : Nat} {i x : Int} (h : LG (c 0) w) (hk : k ≠ 37 ∧ k ≠ 38) : LG (z_upd c 0 k i x 0) w :=
  h.pt (fun k' hk' => zu_k _ _ _ (by omega)) (fun i hi => rfl)
theorem LG.zr {c : Nat → Int → Int} {r : zM} {j y : Int} (h : LG c (r 4 45)) (hj : j ≠ 16 ∧ (j < 1487 ∨ 1606 < j)) : LG c (z_upd r 4 45 j y 4 45) :=
  h.pt (fun k' hk' => rfl) (fun i hi => by rw [zu_row, fu_i _ _ (by omega)])
/-- a line more, with the class' clock -/
theorem LG.log4 {c r : zM} {b x : Int} (h : LG (c 0) (r 4 45)) (ht : c 0 8 9 = r 4 45 0) : LG (f54_1 0 b x c 0) (f223_1 b x r 4 45) := by
  unfold f54_1
  rw [zs_a]
  exact h.log ht
theorem log4_c (m : zM) (b x : Int) : (∀ g' k, (g' ≠ 0 ∨ (k ≠ 37 ∧ k ≠ 38)) → f54_1 0 b x m g' k = m g' k) := by
  unfold f54_1
  rw [zs_a]
  exact (log_c m 0 (m 0 8 9) b x).2.2.1
theorem seal_L {c r : zM} {B a : Int} (hc : OM B c) (ht : c 0 8 9 = r 4 45 0) (hs : SE B (c 0) (r 4 45)) (h : LG (c 0) (r 4 45)) : LG ((f114_1 a c).2 0) ((f276_1 a r).2 4 45) := by
  have hv : 0 ≤ c 0 39 0 ∧ c 0 39 0 ≤ 1 := r39_0 hc.2.o 0
  have s1 := hs.1
  unfold f114_1 f115_1 f276_1
  by_cases h0 : c 0 39 0 = 0
  case neg =>
    rw [if_neg h0, if_pos (show r 4 45 1614 = 1 by omega), zb_a, if_pos rfl]
    exact h
  rw [if_pos h0, if_neg (show ¬ r 4 45 1614 = 1 by omega)]
  by_cases h1 : a < 0
  · rw [if_pos h1, if_pos h1, zb_a, if_pos rfl]
    exact h
  rw [if_neg h1, if_neg h1]
  by_cases h2 : a ≤ 9999
  case neg =>
    rw [if_neg h2, if_neg h2, zb_a, if_pos rfl]
    exact h
  rw [if_pos h2, if_pos h2, zs_a, zs_a, zb_a, if_neg (show ¬ (1 : Int) = 0 by decide), zs_a, zs_a, zs_a, zs_a]
  refine LG.log4 ((h.zz (by decide) (by decide)).zz (by decide) (by decide)) ?_
  try dsimp only
  rw [zu_k _ _ _ (by decide), zu_k _ _ _ (by decide), zu_row, fu_i _ _ (by decide), zu_row, fu_i _ _ (by decide)]
  exact ht
theorem open_L {c r : zM} {B a : Int} (hc : OM B c) (ht : c 0 8 9 = r 4 45 0) (hs : SE B (c 0) (r 4 45)) (h : LG (c 0) (r 4 45)) : LG ((f116_1 a c).2 0) ((f277_1 a r).2 4 45) := by
  have hv : 0 ≤ c 0 39 0 ∧ c 0 39 0 ≤ 1 := r39_0 hc.2.o 0
  obtain ⟨s1, s2, s3, s4, s5, s6, s7⟩ := hs
  have e118 : f118_1 0 (c 0 8 9) c = f278_1 r := by
    unfold f118_1 f278_1
    rw [ht, s4, zn_a]
    split <;> omega
  unfold f116_1 f117_1 f277_1
  by_cases h0 : c 0 39 0 = 0
  · rw [if_pos h0, if_pos (show r 4 45 1614 = 0 by omega), zb_a]
    exact h
  rw [if_neg h0, if_neg (show ¬ r 4 45 1614 = 0 by omega), zn_a, zn_a, e118]
  by_cases c1 : f278_1 r ≤ 0
  case neg =>
    rw [if_neg c1, if_neg c1, zb_a]
    exact h
  rw [if_pos c1, if_pos c1, s2]
  by_cases c2 : a = r 4 45 1615
  · rw [if_pos c2, if_pos c2]
    unfold f119_1
    simp only [zs_a, zb_a]
    refine LG.log4 (((h.zz (by decide) (by decide)).zz (by decide) (by decide)).zz (by decide) (by decide)) ?_
    try dsimp only
    rw [zu_k _ _ _ (by decide), zu_k _ _ _ (by decide), zu_k _ _ _ (by decide), zu_row, fu_i _ _ (by decide), zu_row, fu_i _ _ (by decide), zu_row, fu_i _ _ (by decide)]
    exact ht
  · rw [if_neg c2, if_neg c2]
    simp only [zs_a]
    have t1 : z_upd c 0 39 2 (c 0 39 2 + 1) 0 8 9 = z_upd r 4 45 1616 (r 4 45 1616 + 1) 4 45 0 := by rw [zu_k _ _ _ (by decide), zu_row, fu_i _ _ (by decide)]; exact ht
    have v1 : z_upd c 0 39 2 (c 0 39 2 + 1) 0 39 2 = r 4 45 1616 + 1 := by rw [zu_row, fu_s, s3]
    have v2 : z_upd r 4 45 1616 (r 4 45 1616 + 1) 4 45 1616 = r 4 45 1616 + 1 := by rw [zu_row, fu_s]
    have l1 : LG (z_upd c 0 39 2 (c 0 39 2 + 1) 0) (z_upd r 4 45 1616 (r 4 45 1616 + 1) 4 45) := h.zz (by decide) (by decide)
    rw [v1, v2]
    generalize z_upd c 0 39 2 (c 0 39 2 + 1) = m1 at t1 v1 l1 ⊢
    generalize z_upd r 4 45 1616 (r 4 45 1616 + 1) = r1 at t1 v2 l1 ⊢
    have l2 := l1.log4 (b := 32) (x := r 4 45 1616 + 1) t1
    have k1 := log4_c m1 32 (r 4 45 1616 + 1)
    obtain ⟨-, -, -, k3, k4⟩ := log_r r1 32 (r 4 45 1616 + 1) l1.2.1
    have v3 : f54_1 0 32 (r 4 45 1616 + 1) m1 0 39 2 = r 4 45 1616 + 1 := by rw [k1 0 39 (by omega), v1]
    have v4 : f223_1 32 (r 4 45 1616 + 1) r1 4 45 1616 = r 4 45 1616 + 1 := by rw [k4 1616 (by omega) (by omega), v2]
    have t2 : f54_1 0 32 (r 4 45 1616 + 1) m1 0 8 9 = f223_1 32 (r 4 45 1616 + 1) r1 4 45 0 := by rw [k1 0 8 (by omega), k4 0 (by omega) (by omega), t1]
    rw [v3, v4]
    generalize f54_1 0 32 (r 4 45 1616 + 1) m1 = m2 at l2 t2 ⊢
    generalize f223_1 32 (r 4 45 1616 + 1) r1 = r2 at l2 t2 ⊢
    by_cases c3 : r 4 45 1616 + 1 < 3
    · rw [if_pos c3, if_pos c3, zb_a]
      exact l2
    · rw [if_neg c3, if_neg c3]
      unfold f121_1
      simp only [zs_a, zb_a]
      refine LG.log4 ((l2.zz (by decide) (by decide)).zz (by decide) (by decide)) ?_
      try dsimp only
      rw [zu_k _ _ _ (by decide), zu_k _ _ _ (by decide), zu_row, fu_i _ _ (by decide), zu_row, fu_i _ _ (by decide)]
      exact t2
/-! a mark by hand -/
theorem mk_of {c c' r r' : zM} {y : Int} (hk : MK (c 0) (r 4 45)) (k0 : K0 (c' 0) (r' 4 45)) (ck : CK 0 c c') (rk : RK y r r') (hy : 0 ≤ y ∧ y < 5) : MK (c' 0) (r' 4 45) := by
  obtain ⟨-, -, -, h4, h5⟩ := hk
  refine ⟨k0.1, k0.2.1, k0.2.2, fun m m0 m1 => ?_, fun m m0 m1 => ?_⟩
  · rw [ck 0 35 (by omega), rk.1 _ (by omega) (by omega) (by omega) (by omega)]
    exact h4 m m0 m1
  · rw [ck 0 36 (by omega), rk.1 _ (by omega) (by omega) (by omega) (by omega)]
    exact h5 m m0 m1
theorem mark_S {c r : zM} {A Z a b : Int} (h : MG A Z (c 0) (r 4 45)) (hA : A ≤ 5000000) (hZ : Z ≤ 900000000) (hb : 0 ≤ b ∧ b ≤ 1) :
    MK ((f134_1 a b c).2 0) ((f283_1 a b r).2 4 45) ∧ LG ((f134_1 a b c).2 0) ((f283_1 a b r).2 4 45) ∧ ∀ m, 0 ≤ m → m < 5 → (0 ≤ (f134_1 a b c).2 0 34 m ∧ (f134_1 a b c).2 0 34 m ≤ Z + 1 + c 0 8 13) ∧ (f134_1 a b c).2 0 35 m = c 0 35 m ∧ (f134_1 a b c).2 0 36 m = c 0 36 m := by
  have hk := h.1.k
  have hl := h.1.l
  have ht := h.1.t
  have b1 := h.2.2.2.1.1
  have bb := h.2.2.2.1.2.2.2.2.2.1
  have same : ∀ m, 0 ≤ m → m < 5 → (0 ≤ c 0 34 m ∧ c 0 34 m ≤ Z + 1 + c 0 8 13) ∧ c 0 35 m = c 0 35 m ∧ c 0 36 m = c 0 36 m := fun m m0 m1 => ⟨by have := (bb m m0 m1).1; omega, rfl, rfl⟩
  unfold f134_1 f283_1
  by_cases a0 : a < 0
  · rw [if_pos a0, if_pos a0]
    exact ⟨hk, hl, same⟩
  rw [if_neg a0, if_neg a0]
  by_cases a1 : 2 ≤ a
  · rw [if_pos a1, if_neg (show ¬ a ≤ 1 by omega)]
    exact ⟨hk, hl, same⟩
  rw [if_neg a1, if_pos (show a ≤ 1 by omega), zn_a, zn_a]
  have ev : f40_1 0 a c = r 4 45 (40 + a) := isOn_c hk.1 hk.2.1 (by omega) (by omega)
  have h01 := hk.1 a (by omega) (by omega)
  have er : (if r 4 45 (40 + a) = 1 then (1 : Int) else 0) = r 4 45 (40 + a) := by split <;> omega
  rw [ev, er]
  by_cases e : r 4 45 (40 + a) = b
  · rw [if_pos e, if_pos e]
    exact ⟨hk, hl, same⟩
  rw [if_neg e, if_neg e]
  have k0 : K0 (c 0) (r 4 45) := ⟨hk.1, hk.2.1, hk.2.2.1⟩
  have x34 : ∀ m, 0 ≤ m → m < 5 → r 4 45 (45 + m) = c 0 34 m := fun m m0 m1 => (hk.2.2.1 m m0 m1).symm
  by_cases b0 : b = 0
  · rw [b0, if_pos rfl]
    simp only [zs_a]
    obtain ⟨t1, t2, -, t4, t5, t6⟩ := turn_off (c := c) (r := r) (g := 0) (y := a) (t := c 0 8 9) k0 hl (by omega) (by omega) ht.symm (by omega)
    refine ⟨mk_of hk t1 t4 t5 (by omega), t2, fun m m0 m1 => ⟨?_, by rw [t4 0 35 (by omega)], by rw [t4 0 36 (by omega)]⟩⟩
    have z := (bb m m0 m1).1
    rw [t1.2.2 m m0 m1]
    by_cases em : m = a
    · rw [em, t6, x34 a (by omega) (by omega), ← em]
      omega
    · rw [t5.1 _ (by omega) (by omega) (by omega) (by omega), x34 m m0 m1]
      omega
  · have b1' : b = 1 := by omega
    rw [b1', if_neg (show ¬ (1 : Int) = 0 by decide)]
    simp only [zs_a]
    have zb := (bb a (by omega) (by omega)).1
    obtain ⟨t1, t2, -, t4, t5, t6⟩ := turn_on (c := c) (r := r) (g := 0) (y := a) (t := c 0 8 9) k0 hl (by omega) (by omega) ht.symm (by omega) (by rw [x34 a (by omega) (by omega)]; omega)
    refine ⟨mk_of hk t1 t4 t5 (by omega), t2, fun m m0 m1 => ⟨?_, by rw [t4 0 35 (by omega)], by rw [t4 0 36 (by omega)]⟩⟩
    have z := (bb m m0 m1).1
    rw [t1.2.2 m m0 m1]
    by_cases em : m = a
    · rw [em, t6, x34 a (by omega) (by omega)]
      omega
    · rw [t5.1 _ (by omega) (by omega) (by omega) (by omega), x34 m m0 m1]
      omega
/-! credit -/
theorem sw_S {c r : zM} (h11 : c 0 8 11 = r 4 45 11) (h10 : c 0 8 10 = r 4 45 10) (h12 : c 0 8 12 = r 4 45 12) (h9 : c 0 8 9 = r 4 45 0) (hp : c 0 8 11 = 0 ∨ c 0 8 11 = 1) (hl : LG (c 0) (r 4 45)) :
    LG (f53_1 0 c 0) (f222_1 r 4 45) ∧ CO (f53_1 0 c 0) (f222_1 r 4 45) ∧ f53_1 0 c 0 8 12 = shO (f53_1 0 c 0 8 11) (f53_1 0 c 0 8 10) ∧ f53_1 0 c 0 8 11 = c 0 8 11 ∧ f53_1 0 c 0 8 10 = c 0 8 10 ∧ f222_1 r 4 45 10 = r 4 45 10 := by
  obtain ⟨v1, v2, v3, v4, -, v6, -, -⟩ := switch_T h11 h10 h12 h9 hp hl
  have x11 := v4 11 (by decide)
  have x10 := v4 10 (by decide)
  have y10 := v6 10 (by decide) (by decide) (by decide)
  refine ⟨v1, ⟨?_, ?_, ?_⟩, ?_, x11, x10, y10⟩
  · rw [y10, x10, h10]
  · rw [v6 11 (by decide) (by decide) (by decide), x11, h11]
  · rw [v3, v2]
  · rw [v2, x11, x10]
theorem prepaid_S {c r : zM} {A Z a : Int} (ha : 0 ≤ a ∧ a ≤ 1) (h : MG A Z (c 0) (r 4 45)) : CO ((f135_1 a c).2 0) ((f284_1 a r).2 4 45) ∧ LG ((f135_1 a c).2 0) ((f284_1 a r).2 4 45) ∧ (f135_1 a c).2 0 8 12 = shO ((f135_1 a c).2 0 8 11) ((f135_1 a c).2 0 8 10) ∧ ((f135_1 a c).2 0 8 11 = 0 ∨ (f135_1 a c).2 0 8 11 = 1) ∧ (f135_1 a c).2 0 8 10 = c 0 8 10 := by
  obtain ⟨o10, o11, o12⟩ := h.1.o
  have hl := h.1.l
  have ht := h.1.t
  obtain ⟨-, -, -, -, hs, hp⟩ := id h
  unfold f135_1 f284_1
  have er : (if r 4 45 11 = 1 then (1 : Int) else 0) = r 4 45 11 := by split <;> omega
  have ea : (if a = 0 then (0 : Int) else 1) = a := by split <;> omega
  rw [zn_a, zn_a, er, ea, o11]
  by_cases e : c 0 8 11 = a
  · rw [if_pos e, if_pos e]
    exact ⟨h.1.o, hl, hs, hp, rfl⟩
  rw [if_neg e, if_neg e, zs_a, zs_a, zs_a, zs_a]
  have x : ∀ i, z_upd c 0 8 11 a 0 8 i = if i = 11 then a else c 0 8 i := fun i => by rw [zu_row]; rfl
  have y : ∀ i, z_upd r 4 45 11 a 4 45 i = if i = 11 then a else r 4 45 i := fun i => by rw [zu_row]; rfl
  have x11 : z_upd c 0 8 11 a 0 8 11 = a := by rw [x, if_pos rfl]
  have x10 : z_upd c 0 8 11 a 0 8 10 = c 0 8 10 := by rw [x, if_neg (by decide)]
  obtain ⟨s1, s2, s3, s4, s5, -⟩ := sw_S (c := z_upd c 0 8 11 a) (r := z_upd r 4 45 11 a) (by rw [x11, y, if_pos rfl]) (by rw [x10, y, if_neg (by decide), o10]) (by rw [x, if_neg (by decide), y, if_neg (by decide), o12]) (by rw [x, if_neg (by decide), y, if_neg (by decide), ht]) (by rw [x11]; omega) (hl.zz (by decide) (by decide))
  refine ⟨s2, s1, s3, ?_, ?_⟩
  · try dsimp only
    rw [s4, x11]
    omega
  · try dsimp only
    rw [s5, x10]
theorem pay_S {c r : zM} {A Z a : Int} (h : MG A Z (c 0) (r 4 45)) (hA : A ≤ 5000000) : (f136_1 a c).1 = (f285_1 a r).1 ∧ CO ((f136_1 a c).2 0) ((f285_1 a r).2 4 45) ∧ LG ((f136_1 a c).2 0) ((f285_1 a r).2 4 45) ∧ (f136_1 a c).2 0 8 12 = shO ((f136_1 a c).2 0 8 11) ((f136_1 a c).2 0 8 10) ∧ (f136_1 a c).2 0 8 11 = c 0 8 11 ∧ c 0 8 10 ≤ (f136_1 a c).2 0 8 10 ∧ (f136_1 a c).2 0 8 10 ≤ c 0 8 10 + 1000000000 := by
  obtain ⟨o10, o11, o12⟩ := h.1.o
  have hl := h.1.l
  have ht := h.1.t
  obtain ⟨-, -, -, hb, hs, hp⟩ := id h
  have b10 := hb.2.2.2.2.2.2.1
  have b13 := hb.1
  unfold f136_1 f285_1
  by_cases a0 : a < 0
  · rw [if_pos a0, if_pos a0]
    exact ⟨rfl, h.1.o, hl, hs, rfl, Int.le_refl _, show c 0 8 10 ≤ c 0 8 10 + 1000000000 by omega⟩
  rw [if_neg a0, if_neg a0]
  by_cases a1 : a ≤ 1000000000
  case neg =>
    rw [if_neg a1, if_neg a1]
    exact ⟨rfl, h.1.o, hl, hs, rfl, Int.le_refl _, show c 0 8 10 ≤ c 0 8 10 + 1000000000 by omega⟩
  rw [if_pos a1, if_pos a1, zn_a, zn_a, o10, w64_id (x := c 0 8 10 + a) (by omega), zs_a, zs_a, zs_a, zs_a]
  have x : ∀ i, z_upd c 0 8 10 (c 0 8 10 + a) 0 8 i = if i = 10 then c 0 8 10 + a else c 0 8 i := fun i => by rw [zu_row]; rfl
  have y : ∀ i, z_upd r 4 45 10 (c 0 8 10 + a) 4 45 i = if i = 10 then c 0 8 10 + a else r 4 45 i := fun i => by rw [zu_row]; rfl
  have x11 : z_upd c 0 8 10 (c 0 8 10 + a) 0 8 11 = c 0 8 11 := by rw [x, if_neg (by decide)]
  have x10 : z_upd c 0 8 10 (c 0 8 10 + a) 0 8 10 = c 0 8 10 + a := by rw [x, if_pos rfl]
  obtain ⟨s1, s2, s3, s4, s5, s6⟩ := sw_S (c := z_upd c 0 8 10 (c 0 8 10 + a)) (r := z_upd r 4 45 10 (c 0 8 10 + a)) (by rw [x11, y, if_neg (by decide), o11]) (by rw [x10, y, if_pos rfl]) (by rw [x, if_neg (by decide), y, if_neg (by decide), o12]) (by rw [x, if_neg (by decide), y, if_neg (by decide), ht]) (by rw [x11]; exact hp) (hl.zz (by decide) (by decide))
  refine ⟨s2.1.symm, s2, s1, s3, ?_, ?_, ?_⟩
  · try dsimp only
    rw [s4, x11]
  · try dsimp only
    rw [s5, x10]
    omega
  · try dsimp only
    rw [s5, x10]
    omega
