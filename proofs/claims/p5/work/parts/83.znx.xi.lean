/-! The bounds, behind each call of the class. -/
theorem end_X {c : zM} {A Z t blk told : Int} (hb : CBD A Z (c 0)) (hA : A ≤ 2900000) (h : XI (c 0)) : XI (f60_1 0 t blk told c 0) ∧ ∀ k, k < 27 ∨ 29 < k → f60_1 0 t blk told c 0 k = c 0 k := by
  obtain ⟨e6, e7, e3⟩ := hb.e3 hA
  obtain ⟨l1, l2⟩ := end_LN (t := t) (blk := blk) (told := told) e6 e7 e3 h.1
  exact ⟨⟨l1, h.2.1.of (fun t _ _ => by rw [l2 31 (.inr (by decide))]), h.2.2.of (fun i _ _ => Int.le_of_eq (by rw [l2 24 (.inl (by decide))])) (fun i _ _ => by rw [l2 25 (.inl (by decide))]) (fun i _ _ => by rw [l2 26 (.inl (by decide))])⟩, l2⟩
theorem f77_k {g : Nat} {a b : Int} {m : zM} : ∀ k, k ≠ 10 → f77_1 g a b m g k = m g k := fun k hk => by
  unfold f77_1
  simp only [zn_a, zs_a]
  split
  · rfl
  · rw [zu_k _ _ _ hk]
theorem f17_k {g : Nat} {m : zM} : ∀ k, k ≠ 39 → (f17_1 g m).2 g k = m g k := fun k hk => by
  unfold f17_1
  simp only [zn_a, zs_a]
  split
  · rfl
  · rw [zu_k _ _ _ hk]
theorem CBD.k39 {A Z : Int} {c c' : Nat → Int → Int} (h : CBD A Z c) (e : ∀ k, k ≠ 39 → c' k = c k) : CBD A Z c' := h.pt (fun k hk => e k (by omega))
theorem f74_X {c : zM} {A Z a b : Int} (hb : CBD A Z (c 0)) (hA : A ≤ 2900000) (h : XI (c 0)) : XI ((f74_1 0 a b c).2 0) := by
  have h77 : ∀ m : zM, XI (m 0) → XI (f77_1 0 a b m 0) := fun m hm => hm.rows (fun k k0 k1 _ _ _ => f77_k k (by omega))
  unfold f74_1
  simp only [zn_a, zs_a]
  by_cases e0 : f75_1 0 a b c = 0
  · rw [if_pos e0]
    exact h
  rw [if_neg e0]
  by_cases e1 : a = 1
  · rw [if_pos e1]
    by_cases e2 : c 0 8 13 ≤ 0
    · rw [if_pos e2]
      exact h77 c h
    · rw [if_neg e2]
      exact h
  rw [if_neg e1]
  by_cases e4 : a = 4
  · rw [if_pos e4]
    exact h77 _ (end_X hb hA h).1
  · rw [if_neg e4]
    exact h77 c h
theorem set_X {c : zM} {A Z a b : Int} (hb : CBD A Z (c 0)) (hA : A ≤ 2900000) (h : XI (c 0)) : XI ((f73_1 a b c).2 0) := by
  have e := f17_k (g := 0) (m := c)
  have h1 : XI ((f17_1 0 c).2 0) := h.rows (fun k k0 k1 _ _ _ => e k (by omega))
  unfold f73_1
  rw [zb_a]
  try dsimp only
  by_cases x : (f17_1 0 c).1 = 0
  · rw [if_pos x, zb_a]
    exact f74_X (hb.k39 e) hA h1
  · rw [if_neg x]
    exact h1
theorem f54_k {g : Nat} {a b : Int} {m : zM} : ∀ k, k ≠ 37 → k ≠ 38 → f54_1 g a b m g k = m g k := fun k h1 h2 => by
  unfold f54_1
  rw [zs_a]
  exact (log_c m g (m g 8 9) a b).2.2.1 g k (.inr ⟨h1, h2⟩)
theorem move_X {c : zM} {A Z a : Int} (hb : CBD A Z (c 0)) (hA : A ≤ 2900000) (h : XI (c 0)) : XI ((f127_1 a c).2 0) := by
  have e := f17_k (g := 0) (m := c)
  have h1 : XI ((f17_1 0 c).2 0) := h.rows (fun k k0 k1 _ _ _ => e k (by omega))
  unfold f127_1
  rw [zb_a]
  try dsimp only
  by_cases x : (f17_1 0 c).1 = 0
  case neg =>
    rw [if_neg x]
    exact h1
  rw [if_pos x]
  by_cases x1 : a < 0
  · rw [if_pos x1]
    exact h1
  rw [if_neg x1]
  by_cases x2 : 2000000000 < a
  · rw [if_pos x2]
    exact h1
  rw [if_neg x2, zb_a]
  generalize (f17_1 0 c).2 = c1 at e h1 ⊢
  have hb1 := hb.k39 e
  unfold f129_1
  simp only [zs_a]
  refine (end_X (t := c1 0 8 9) (blk := max 1 (c1 0 10 4)) (told := 64) hb1 hA h1).1.rows (fun k k0 k1 k27 _ _ => ?_)
  rw [f54_k k (by omega) (by omega), zu_k _ _ _ k27, zu_k _ _ _ (by omega)]
theorem bill_X {c : zM} {B A Z : Int} (hc : OM B c) (hb : CBD A Z (c 0)) (hA : A ≤ 2900000) (h : XI (c 0)) : XI ((f137_1 c).2 0) := by
  obtain ⟨x1, x2, x3, x4, x5⟩ := h
  have c2 := hb.2.1
  have c1 := hb.1
  have h3 : 0 ≤ c 0 23 3 := (r23_3 hc.2.o 0).1
  obtain ⟨m', e, e23, -, e25, e26, e26d, -, e26o, e31, -, ek⟩ := bill_c (c := c) h3 (fun i i0 i1 => by
    have a := x3 i i0 i1
    have b := c2 i i0 i1
    omega)
  have hm : XI (m' 0) := by
    refine ⟨LN.of x1 (fun i _ _ => by rw [ek 0 28 (by omega)]), fun t t0 t1 => by rw [e31 t t0 t1]; omega, fun i i0 i1 => ?_, fun j i j0 j1 i0 i1 => ?_, fun j k j0 j1 k0 k1 => ?_⟩
    · have b := c2 i i0 i1
      rw [e25 i i0 i1, ek 0 24 (by omega)]
      omega
    · by_cases y : j = c 0 23 3 % 6
      · have a := x3 i i0 i1
        have b := c2 i i0 i1
        rw [y, e26 i i0 i1]
        omega
      · rw [e26o _ (by omega)]
        exact x4 j i j0 j1 i0 i1
    · by_cases y : j = c 0 23 3 % 6
      · rw [y, e26d k k0 k1]
        exact x2 k k0 k1
      · rw [e26o _ (by omega)]
        exact x5 j k j0 j1 k0 k1
  unfold f137_1
  rw [zs_a, e]
  exact hm.rows (fun k k0 k1 _ _ _ => f54_k k (by omega) (by omega))
theorem image_X {c : zM} {a : Int} (h0 : XI (c 0)) (h1 : c 4 40 4 ≠ 0 → XI (c 1)) : XI ((f195_1 a c).2 0) ∧ ((f195_1 a c).2 4 40 4 ≠ 0 → XI ((f195_1 a c).2 1)) := by
  unfold f195_1
  simp only [zs_a]
  by_cases x : a = 0
  · rw [if_pos x]
    by_cases y : c 4 40 4 = 0
    · rw [if_pos y]
      exact ⟨h0, h1⟩
    · rw [if_neg y]
      have hq := f171_1_c (show 0 ≠ 1 by decide) c
      have e1 : f171_1 0 1 c 1 = c 1 := hq.1 1 (by decide)
      refine ⟨(h1 y).fe (copy_FE (by decide) c 5) (copy_FE (by decide) c 7) (copy_FE (by decide) c 8) (copy_FE (by decide) c 10), fun _ => ?_⟩
      try dsimp only
      rw [e1]
      exact h1 y
  · rw [if_neg x]
    have hq := f171_1_c (show 1 ≠ 0 by decide) c
    have e0 : f171_1 1 0 c 0 = c 0 := hq.1 0 (by decide)
    have xg : ∀ g, g ≠ 4 → z_upd (f171_1 1 0 c) 4 40 4 1 g = f171_1 1 0 c g := fun g hg => zu_g _ _ _ hg
    refine ⟨?_, fun _ => ?_⟩
    · try dsimp only
      rw [xg 0 (by decide), e0]
      exact h0
    · try dsimp only
      rw [xg 1 (by decide)]
      exact h0.fe (copy_FE (by decide) c 5) (copy_FE (by decide) c 7) (copy_FE (by decide) c 8) (copy_FE (by decide) c 10)
