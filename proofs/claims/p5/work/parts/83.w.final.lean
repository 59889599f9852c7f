/-! The last second of a stretch. -/
theorem switch_T {c r : zM} {g : Nat} (h11 : c g 8 11 = r 4 45 11) (h10 : c g 8 10 = r 4 45 10) (h12 : c g 8 12 = r 4 45 12) (h9 : c g 8 9 = r 4 45 0) (hp : c g 8 11 = 0 ∨ c g 8 11 = 1) (hl : LG (c g) (r 4 45)) :
    LG (f53_1 g c g) (f222_1 r 4 45) ∧ f53_1 g c g 8 12 = shO (c g 8 11) (c g 8 10) ∧ f222_1 r 4 45 12 = shO (c g 8 11) (c g 8 10) ∧ (∀ i, i ≠ 12 → f53_1 g c g 8 i = c g 8 i) ∧ (∀ g' k, (g' ≠ g ∨ (k ≠ 8 ∧ k ≠ 37 ∧ k ≠ 38)) → f53_1 g c g' k = c g' k) ∧
    (∀ i, i ≠ 12 → i ≠ 16 → (i < 1487 ∨ 1606 < i) → f222_1 r 4 45 i = r 4 45 i) ∧ (∀ g k, (g ≠ 4 ∨ k ≠ 45) → f222_1 r g k = r g k) ∧ c g 37 1 ≤ f53_1 g c g 37 1 := by
  have ev : (if c g 8 11 = 0 then (0 : Int) else if c g 8 10 ≤ 0 then 1 else 0) = shO (c g 8 11) (c g 8 10) := by
    unfold shO
    rcases hp with e | e
    · rw [if_pos e, if_neg (by omega)]
    · rw [if_neg (by omega), if_pos e]
  have er : (if r 4 45 11 = 1 then (if r 4 45 10 ≤ 0 then (1 : Int) else 0) else 0) = shO (c g 8 11) (c g 8 10) := by
    unfold shO
    rw [h11, h10]
  have hv : shO (c g 8 11) (c g 8 10) = 0 ∨ shO (c g 8 11) (c g 8 10) = 1 := by
    unfold shO
    repeat' split
    all_goals omega
  unfold f53_1 f222_1
  simp only [zn_a, zs_a]
  rw [ev, er]
  generalize shO (c g 8 11) (c g 8 10) = v at hv ⊢
  by_cases e : v = c g 8 12
  · rw [if_pos e, if_pos (show r 4 45 12 = v by omega)]
    exact ⟨hl, e.symm, by omega, fun _ _ => rfl, fun _ _ _ => rfl, fun _ _ _ _ => rfl, fun _ _ _ => rfl, Int.le_refl _⟩
  · rw [if_neg e, if_neg (show ¬ r 4 45 12 = v by omega)]
    have e12 : z_upd c g 8 12 v g 8 12 = v := by rw [zu_row, fu_s]
    have e9 : z_upd c g 8 12 v g 8 9 = c g 8 9 := by rw [zu_row, fu_i _ _ (by decide)]
    have el : (if v = 0 then (23 : Int) else 22) = if v = 1 then 22 else 23 := by
      rcases hv with x | x
      · rw [if_pos x, if_neg (by omega)]
      · rw [if_neg (by omega), if_pos x]
    unfold f54_1
    simp only [zs_a]
    rw [e12, e9, el]
    generalize (if v = 1 then (22 : Int) else 23) = b
    have l1 : LG (z_upd c g 8 12 v g) (z_upd r 4 45 12 v 4 45) := hl.pt (fun k hk => zu_k _ _ _ (by omega)) (fun i hi => by rw [zu_row, fu_i _ _ (by omega)])
    obtain ⟨a1, a2, a3, a4⟩ := log_c (z_upd c g 8 12 v) g (c g 8 9) b 0
    obtain ⟨s1, s2, s3, s4, s5⟩ := log_r (z_upd r 4 45 12 v) b 0 l1.2.1
    refine ⟨l1.log (by rw [zu_row, fu_i _ _ (by decide)]; exact h9), ?_, ?_, fun i hi => ?_, fun g' k hk => ?_, fun i i0 i1 i2 => ?_, fun g' k hk => ?_, ?_⟩
    · rw [a3 g 8 (.inr (by decide)), zu_row, fu_s]
    · rw [s5 12 (by decide) (by decide), zu_row, fu_s]
    · rw [a3 g 8 (.inr (by decide)), zu_row, fu_i _ _ hi]
    · rw [a3 g' k (by omega)]
      rcases hk with hk | hk
      · rw [zu_g _ _ _ hk]
      · rw [zu_k _ _ _ hk.1]
    · rw [s5 i i1 i2, zu_row, fu_i _ _ i0]
    · rw [s4 g' k hk]
      rcases hk with hk | hk
      · rw [zu_g _ _ _ hk]
      · rw [zu_k _ _ _ hk]
    · rw [a1, zu_k _ _ _ (by decide)]
      omega
/-- a block ends by time, or not -/
theorem goes_T {c r : zM} {g : Nat} {B tar : Int} (hg : g < 3) (hc : OM B c) (h16 : ∀ i, 1607 ≤ i ∧ i ≤ 1610 → -9223372036854775808 ≤ r 4 45 i ∧ r 4 45 i ≤ 9223372036854775807) (b8 : 1 ≤ r 4 45 8 ∧ r 4 45 8 ≤ 3600) (b9 : 1 ≤ r 4 45 9 ∧ r 4 45 9 ≤ 6) (b0 : 0 ≤ r 4 45 0 ∧ r 4 45 0 ≤ 2000000000) (hL : LD (c g) (r 4 45)) (hO : OD (c g) (r 4 45)) (hD : DM (c g) (r 4 45)) (hS : ST (c g) (r 4 45)) (h0 : c g 8 9 = r 4 45 0) (hn : 1 ≤ r 4 45 25 + r 4 45 26) (ht : 0 ≤ tar ∧ tar < 4)
    (htar : ∀ m : zM, (∀ i, 287 ≤ i → i ≤ 787 → m 4 45 i = r 4 45 i) → f217_1 (r 4 45 0 - 1) m = tar) (hB : B + 1 ≤ 1000000000) :
    LD (f59_1 g tar c g) ((if r 4 45 0 % r 4 45 8 = 0 then f232_1 0 r else r) 4 45) ∧ OD (f59_1 g tar c g) ((if r 4 45 0 % r 4 45 8 = 0 then f232_1 0 r else r) 4 45) ∧ DM (f59_1 g tar c g) ((if r 4 45 0 % r 4 45 8 = 0 then f232_1 0 r else r) 4 45) ∧
    (∀ g' k, (g' ≠ g ∨ k < 27 ∨ 32 < k) → f59_1 g tar c g' k = c g' k) ∧ (∀ i, (i < 17 ∨ 39 < i) → (i < 788 ∨ 1171 < i) → (i < 1607 ∨ 1610 < i) → (if r 4 45 0 % r 4 45 8 = 0 then f232_1 0 r else r) 4 45 i = r 4 45 i) ∧ (r 4 45 18 = (if r 4 45 0 % r 4 45 8 = 0 then f232_1 0 r else r) 4 45 18) ∧ (∀ i, 28 ≤ i → i ≤ 31 → (if r 4 45 0 % r 4 45 8 = 0 then f232_1 0 r else r) 4 45 i = r 4 45 i) ∧
    (∀ i, 3 ≤ i → i ≤ 8 → f59_1 g tar c g 27 i = 0 ∨ f59_1 g tar c g 27 i = c g 27 i) ∧ (0 ≤ f59_1 g tar c g 27 9 ∧ f59_1 g tar c g 27 9 ≤ 2000000000 ∨ f59_1 g tar c g 27 9 = c g 27 9) := by
  have eb : max 1 (c g 10 4) = r 4 45 8 := by have := hS.2.2.2.2.1; omega
  unfold f59_1
  simp only [zn_a, zs_a]
  rw [eb, h0]
  by_cases hz : r 4 45 0 % r 4 45 8 = 0
  case neg =>
    rw [if_neg hz, if_neg hz]
    exact ⟨hL, hO, hD, fun _ _ _ => rfl, fun _ _ _ _ => rfl, rfl, fun _ _ _ => rfl, fun _ _ _ => .inr rfl, .inr rfl⟩
  rw [if_pos hz, if_pos hz]
  obtain ⟨r1, e1, e2, e3, e4, e5, e6, e7, e8⟩ := ends_T (g := g) (t := r 4 45 0) (blk := r 4 45 8) (told := 0) h16 hL hO rfl rfl (.inl rfl)
  rw [if_neg (by omega), if_pos rfl] at e1
  rw [if_neg (by omega)] at e8
  obtain ⟨c1, ec1⟩ : ∃ x, x = f60_1 g (r 4 45 0) (r 4 45 8) 0 c := ⟨_, rfl⟩
  have hc9 := end_c c g (r 4 45 0) (r 4 45 8) 0 (by have := hL.2.2.2.2; obtain ⟨x3, x4, x5, x6, x7, x8, x9, x10, x11, x12, -⟩ := this; omega) (by have := hL.2.2.2.2; obtain ⟨x3, x4, x5, x6, x7, x8, x9, x10, x11, x12, -⟩ := this; omega)
  rw [← ec1] at e2 e3 e5 hc9 ⊢
  rw [e1]
  have q5 : c1 g 10 5 = r1 4 45 9 := by rw [e5 g 10 (.inr (by decide)), e6 9 (by decide) (by decide) (by decide) (by decide)]; exact hS.2.2.2.2.2.1
  obtain ⟨j1, j2⟩ := q60_1 g (r 4 45 0) (r 4 45 8) 0 hc.1 hc.2 (by omega) hg b0 (by omega) (by omega)
  rw [← ec1] at j1 j2
  have o1 : OM (B + 1) c1 := ⟨j1, j2.jb⟩
  have dm0 : DM (c1 g) (r1 4 45) := by
    obtain ⟨d1, d2, d3, d4⟩ := hD
    refine ⟨by rw [e5 g 30 (.inr (by decide)), e6 19 (by decide) (by decide) (by decide) (by decide)]; exact d1, by rw [e5 g 30 (.inr (by decide)), e6 20 (by decide) (by decide) (by decide) (by decide)]; exact d2, fun t t0 t1 => ?_, fun t t0 t1 => ?_⟩
    · rw [e5 g 31 (.inr (by decide)), e6 _ (by omega) (by omega) (by omega) (by omega)]
      exact d3 t t0 t1
    · rw [e5 g 32 (.inr (by decide)), e6 _ (by omega) (by omega) (by omega) (by omega)]
      exact d4 t t0 t1
  have r10 : r1 4 45 0 = r 4 45 0 := e6 0 (by decide) (by decide) (by decide) (by decide)
  obtain ⟨f1, f2, f3, f4⟩ := dem_T (c := c1) (r := r1) (g := g) (win := c1 g 10 5) (blk := r 4 45 8) (tar := tar) (c64_28 o1 g) (by rw [e6 8 (by decide) (by decide) (by decide) (by decide)]; exact b8) (by rw [e6 9 (by decide) (by decide) (by decide) (by decide)]; exact b9) (by rw [r10]; exact b0) e2 dm0 q5 (e6 8 (by decide) (by decide) (by decide) (by decide)).symm ht (by rw [e8.1]; have := hL.2.1; omega) (by rw [e8.1, r10]; exact e8.2) (fun m hm => by rw [r10]; exact htar m (fun i i0 i1 => by rw [hm i i0 i1, e6 i (by omega) (by omega) (by omega) (by omega)]))
  have w6 : ∀ i, i ≠ 17 → i ≠ 19 → i ≠ 20 → (i < 21 ∨ 27 < i) → (i < 32 ∨ 39 < i) → (i < 788 ∨ 1171 < i) → (i < 1607 ∨ 1610 < i) → f236_1 r1 4 45 i = r 4 45 i := fun i i0 i1 i2 i3 i4 i5 i6 => by rw [f3 i i1 i2 i4, e6 i i0 i3 i5 i6]
  refine ⟨?_, ?_, f1, fun g' k hk => by rw [f2 g' k (by omega), e5 g' k (by omega)], fun i i0 i1 i2 => w6 i (by omega) (by omega) (by omega) (by omega) (by omega) i1 i2, (w6 18 (by decide) (by decide) (by decide) (by decide) (by decide) (by decide) (by decide)).symm, fun i i0 i1 => w6 i (by omega) (by omega) (by omega) (by omega) (by omega) (by omega) (by omega), fun i i0 i1 => ?_, .inl ?_⟩
  · obtain ⟨l1, l2, ⟨l3, l4⟩, l5, l6⟩ := e2
    have e17 : f236_1 r1 4 45 17 = r1 4 45 17 := f3 17 (by decide) (by decide) (by decide)
    have q : ∀ k, (k < 30 ∨ 32 < k) → f64_1 g g (c1 g 10 5) (r 4 45 8) tar c1 g k = c1 g k := fun k hk => f2 g k (by omega)
    refine ⟨by rw [q 27 (by decide), e17]; exact l1, by omega, ⟨fun i i0 i1 k k0 k1 => ?_, fun jj j0 j1 k k0 k1 => ?_⟩, fun k k0 k1 => ?_, ?_⟩
    · rw [e17] at i1 ⊢
      rw [q 28 (by decide), f3 _ (by omega) (by omega) (by omega)]
      exact l3 i i0 i1 k k0 k1
    · rw [e17] at j0
      rw [q 28 (by decide)]
      exact l4 jj j0 j1 k k0 k1
    · rw [q 29 (by decide), f3 _ (by omega) (by omega) (by omega)]
      exact l5 k k0 k1
    · unfold LB
      rw [q 27 (by decide), f3 22 (by decide) (by decide) (by decide), f3 23 (by decide) (by decide) (by decide), f3 24 (by decide) (by decide) (by decide), f3 25 (by decide) (by decide) (by decide), f3 26 (by decide) (by decide) (by decide), f3 27 (by decide) (by decide) (by decide)]
      exact l6
  · unfold OD
    rw [f3 21 (by decide) (by decide) (by decide), e4, f2 g 27 (.inr (by decide)), e3, f3 8 (by decide) (by decide) (by decide), e6 8 (by decide) (by decide) (by decide) (by decide)]
  · rw [f2 g 27 (.inr (by decide))]
    exact .inl (hc9.1 i i0 i1)
  · rw [f2 g 27 (.inr (by decide)), e3]
    exact b0
