/-! The image, on both sides. -/
theorem op3_image {c r : zM} {B a : Int} (hc : OM B c) (h : Rel3 B c r) : MY B ((f195_1 a c).2 0) ((f314_1 a r).2 4 45) ∧ ((f314_1 a r).2 4 44 3 = 1 → MY B ((f195_1 a c).2 1) ((f314_1 a r).2 4 47)) := by
  have hf : 0 ≤ c 4 40 4 ∧ c 4 40 4 ≤ 1 := r40_4 hc.2.o 4
  obtain ⟨hr2, h2, h3⟩ := id h
  have h40 := hr2.2.1
  unfold f195_1 f314_1
  simp only [zs_a]
  by_cases h0 : a = 0
  · rw [if_pos h0, if_pos h0]
    by_cases h6 : c 4 40 4 = 0
    · rw [if_pos h6, if_pos (by omega)]
      exact ⟨h2, h3⟩
    · rw [if_neg h6, if_neg (by omega)]
      have hq := f171_1_c (show 0 ≠ 1 by decide) c
      have e1 : f171_1 0 1 c 1 = c 1 := hq.1 1 (by decide)
      have w47 : z_upd (z_cpy r 4 45 4 47 0 0 1619) 4 44 3 1 4 47 = r 4 47 := by rw [zu_k _ _ _ (by decide), cpy_k _ (.inr (by decide))]
      refine ⟨(h3 (by omega)).all (CB.of hc.2 1) (fun n => copy_FE (show 0 ≠ 1 by decide) c n) (fun i i0 i1 => ?_), fun _ => ?_⟩
      · try dsimp only
        rw [zu_k _ _ _ (by decide), cpy_in _ (by omega), show i - 0 + 0 = i by omega]
      · try dsimp only
        rw [e1, w47]
        exact h3 (by omega)
  · rw [if_neg h0, if_neg h0]
    have hq := f171_1_c (show 1 ≠ 0 by decide) c
    have e0 : f171_1 1 0 c 0 = c 0 := hq.1 0 (by decide)
    have xg : ∀ g, g ≠ 4 → z_upd (f171_1 1 0 c) 4 40 4 1 g = f171_1 1 0 c g := fun g hg => zu_g _ _ _ hg
    have w45 : z_upd (z_cpy r 4 47 4 45 0 0 1619) 4 44 3 1 4 45 = r 4 45 := by rw [zu_k _ _ _ (by decide), cpy_k _ (.inr (by decide))]
    refine ⟨?_, fun _ => ?_⟩
    · try dsimp only
      rw [xg 0 (by decide), e0, w45]
      exact h2
    · try dsimp only
      rw [xg 1 (by decide)]
      refine h2.all (CB.of hc.2 0) (fun n => copy_FE (show 1 ≠ 0 by decide) c n) (fun i i0 i1 => ?_)
      rw [zu_k _ _ _ (by decide), cpy_in _ (by omega), show i - 0 + 0 = i by omega]
theorem st3_image {m m1 m2 : zM} {B a v w : Int} (ha : 0 ≤ a ∧ a ≤ 1) (hk : z_mok lL m) (hJ : JB B m) (hB : B + 220000 ≤ 700000000) (h : Rel3 B m m) (e1 : f195_1 a m = (v, m1)) (e2 : f314_1 a m1 = (w, m2)) : v = w ∧ Rel3 (B + 220000) m2 m2 := by
  obtain ⟨k1, k2, -⟩ := q195_1 a hk hJ (by omega) ha
  rw [e1] at k1 k2
  try dsimp only at k1 k2
  obtain ⟨-, k4, -⟩ := q314_1 a k1 k2.jb (by omega) ha
  rw [e2] at k4
  try dsimp only at k4
  have g2 := st_image ha hk hJ (by omega) h.1 e1 e2
  have h3 : Rel3 B m m1 := ⟨h.1.rj k2 rfl rfl, by rw [k2.row 45 rfl rfl 4]; exact h.2.1, fun e => by rw [k2.row 47 rfl rfl 4]; exact h.2.2 (by rw [← k2.row 44 rfl rfl 4]; exact e)⟩
  have g := op3_image (a := a) ⟨hk, hJ⟩ h3
  rw [e1, e2] at g
  try dsimp only at g
  exact ⟨g2.1, g2.2, by rw [jy k4 (g := 0) rfl]; exact g.1.up (by omega), fun e => by rw [jy k4 (g := 1) rfl]; exact (g.2 e).up (by omega)⟩
