/-! The last second of a stretch, put together. -/
set_option maxHeartbeats 4000000 in
theorem final_A {c r : zM} {g : Nat} {B j n tar seen K A Z : Int} {D so : Int → Int} (hg : g < 3) (hQ : QJ D K j tar so (c g) (r 4 45)) (hc : OM B c) (hr : OM B r) (hB : B + 20 ≤ 1000000000) (hwv : WV (c g) (r 4 45)) (hcb : CBD A Z (c g)) (hA : A ≤ 5000000) (hZ : Z ≤ 900000000) (hop : c g 8 12 = shO (c g 8 11) (c g 8 10)) (hpre : c g 8 11 = 0 ∨ c g 8 11 = 1)
    (hD : ∀ q, D q = DL (c g 8 12) (c g 22 3) (c g 22 7) (c g 19 6) (c g 10 0) q) (hK : K = if crp (c g 8 12) (c g 22 3) (c g 22 7) (c g 10 0) = 0 then 0 else 1) (ht : 0 ≤ tar ∧ tar < 4) (hn : n = j + 1) (hj : 0 ≤ j ∧ j ≤ 3599) (hseen : -2147483648 ≤ seen ∧ seen ≤ 2147483647)
    (htar : ∀ m' : zM, (∀ i, i = 0 ∨ (287 ≤ i ∧ i ≤ 787) → m' 4 45 i = r 4 45 i) → f217_1 (m' 4 45 0) m' = tar) (htar2 : ∀ m : zM, (∀ i, 287 ≤ i → i ≤ 787 → m 4 45 i = r 4 45 i) → f217_1 (r 4 45 0) m = tar) (hso : ∀ m' : zM, WV (c g) (m' 4 45) → ∀ y, 2 ≤ y → y < 5 → soR y m' = so y)
    (hso2 : ∀ y, 2 ≤ y → y < 5 → (so y = 0 ∨ so y = 1) ∧ (if zand (zshr seen y) 1 = 1 then (1 : Int) else 0) = so y) (qm : ∀ y, 2 ≤ y → y < 5 → r 4 45 (40 + y) = 1 → so y = 0 → j = 0) :
    ∃ c6 r4, cS g n tar seen c = f59_1 g tar (if 2000000000 ≤ c6 g 8 9 then c6 else z_upd c6 g 8 9 (c6 g 8 9 + 1)) ∧ f208_1 r = (if r 4 45 0 = 2000000000 then r4 else (if (r 4 45 0 + 1) % r 4 45 8 = 0 then f232_1 0 (z_upd r4 4 45 0 (r 4 45 0 + 1)) else z_upd r4 4 45 0 (r 4 45 0 + 1))) ∧ OM (B + 7) c6 ∧ c6 g 8 9 = c g 8 9 + (n - 1) ∧ r4 4 45 0 = r 4 45 0 ∧ NUM (c6 g) (r4 4 45) ∧ CBD (A + n) Z (c6 g) ∧ c6 g 8 12 = shO (c6 g 8 11) (c6 g 8 10) ∧ c6 g 8 11 = c g 8 11 ∧ c6 g 8 15 = c g 8 15 ∧ c6 g 8 10 ≤ c g 8 10 ∧ c6 g 8 13 = c g 8 13 + n ∧ c6 g 10 = c g 10 ∧
      (∀ i, (4 ≤ i ∧ i ≤ 9) ∨ (28 ≤ i ∧ i ≤ 31) ∨ (287 ≤ i ∧ i ≤ 787) ∨ (1607 ≤ i ∧ i ≤ 1613) → r4 4 45 i = r 4 45 i) ∧ c6 g 27 6 = c g 27 6 + n := by
  have hQ0 := hQ
  have hob : c g 8 12 = 0 ∨ c g 8 12 = 1 := by
    rw [hop]
    unfold shO
    repeat' split
    all_goals omega
  obtain ⟨e0, e13, e15, e11, e12, hF, hMI, hLG, hDM, hLL, e25, e26, e27, hOD⟩ := hQ
  obtain ⟨eD, eK⟩ := DR_eq hwv e12.symm hob
  have hst := hwv.2.2.2.1
  obtain ⟨s0, s1, s2, s3, s4, s5, s6, -, -, -, s10⟩ := id hst
  obtain ⟨bP, bQ, bS⟩ := hwv.sums
  have hu := r45_5 hr.2.o 4
  have hp : ∀ t, 0 ≤ t → t < 4 → 0 ≤ r 4 45 (28 + t) ∧ r 4 45 (28 + t) ≤ 100 := fun t t0 t1 => r45_28 hr.2.o 4 (by omega)
  have hDb : ∀ q, 0 ≤ D q ∧ D q ≤ 17000000 := fun q => by
    rw [hD q]
    unfold DL
    split
    · exact dl_b bP bQ bS q
    · omega
  have hKb : 0 ≤ K ∧ K ≤ 1 := by
    rw [hK]
    split <;> omega
  have hRB := hQ0.rb hcb hA hst hu hp ht (by omega) hDb hKb
  have h7 := r45_7 hr.2.o 4
  obtain ⟨cb1, cb2, cb3, cb4, cb5, cb6, cb7, cb8, cb9, cb10⟩ := hcb
  have h25 : 0 ≤ r 4 45 25 ∧ r 4 45 25 ≤ 1000000000 := by omega
  have hw0 := hr.w
  -- the reference flows
  have F1 := hF.step hr (by omega) hRB ht htar h25 (fun q => by rw [eD q, hD q]) (by rw [eK, hK])
  rw [← hn] at F1
  obtain ⟨-, -, -, -, -, -, -, a13, a25, hfA, -⟩ := flow_r hr (by omega) hRB ht htar h25
  obtain ⟨r1, er1⟩ : ∃ x, x = fA r := ⟨_, rfl⟩
  rw [← er1] at F1 a13 a25 hfA
  -- the class flows
  have hFB : FB g c := ⟨bP, bQ, bS, fun i i0 i1 => by have := cb2 i i0 i1; omega, by omega, fun t t0 t1 => by rw [s6 t t0 t1]; exact hp t t0 t1, by omega, by have := cb3 3 (by omega) (by omega); omega, by have := cb3 4 (by omega) (by omega); omega, by have := cb3 5 (by omega) (by omega); omega, by omega, hob⟩
  obtain ⟨f1, f2, f3, f4, f5, f6, f7, f8, f9⟩ := flow_c (n := n) (tar := tar) hFB (by omega) ht hD
  obtain ⟨j1, j2⟩ := q49_1 g n tar hc.1 hc.2 (by omega) hg (by omega) (by omega)
  have o1 : OM B (f49_1 g n tar c) := ⟨j1, j2.jb⟩
  have tc := hc.t g
  unfold cS
  simp only [zn_a, zs_a]
  rw [f8 13 (by decide) (by decide), w32_id (x := c g 8 13 + n) (by omega)]
  obtain ⟨c1, ec1⟩ : ∃ x, x = f49_1 g n tar c := ⟨_, rfl⟩
  rw [← ec1] at f1 f2 f3 f4 f5 f6 f7 f8 f9 o1 ⊢
  have o2 := u8_13 (g := g) (x := c g 8 13 + n) o1 (by omega)
  have t2 : z_upd c1 g 8 13 (c g 8 13 + n) g 8 9 = c g 8 9 := by rw [zu_row, fu_i _ _ (by decide), f8 9 (by decide) (by decide)]
  rw [t2]
  have o3 := u8_9 (g := g) (x := c g 8 9 + (n - 1)) o2 (by omega)
  obtain ⟨c3, ec3⟩ : ∃ x, x = z_upd (z_upd c1 g 8 13 (c g 8 13 + n)) g 8 9 (c g 8 9 + (n - 1)) := ⟨_, rfl⟩
  rw [← ec3] at o3 ⊢
  have d8 : ∀ i, c3 g 8 i = if i = 9 then c g 8 9 + (n - 1) else if i = 13 then c g 8 13 + n else c1 g 8 i := fun i => by rw [ec3, zu_row, zu_row]; rfl
  have dk : ∀ g' k, (g' ≠ g ∨ k ≠ 8) → c3 g' k = c1 g' k := fun g' k hk => by
    rw [ec3]
    rcases hk with hk | hk
    · rw [zu_g _ _ _ hk, zu_g _ _ _ hk]
    · rw [zu_k _ _ _ hk, zu_k _ _ _ hk]
  -- the switch
  have w1 : ∀ i, i ≠ 10 → i ≠ 13 → i ≠ 14 → i ≠ 25 → (i < 22 ∨ 24 < i) → (i < 60 ∨ 94 < i) → r1 4 45 i = r 4 45 i := hfA
  have hcr : c3 g 8 10 = r1 4 45 10 := by
    rw [d8, if_neg (by decide), if_neg (by decide), f2, F1.2.2.1, w1 5 (by decide) (by decide) (by decide) (by decide) (by decide) (by decide), w1 (28 + tar) (by omega) (by omega) (by omega) (by omega) (by omega) (by omega), ← s1, ← s6 tar ht.1 ht.2]
  have l3 : LG (c3 g) (r1 4 45) := hLG.pt (fun k hk => by rw [dk g k (by omega), f9 g k (by omega)]) (fun i hi => w1 i (by omega) (by omega) (by omega) (by omega) (by omega) (by omega))
  have d811 : c3 g 8 11 = c g 8 11 := by rw [d8, if_neg (by decide), if_neg (by decide), f8 11 (by decide) (by decide)]
  have d812 : c3 g 8 12 = c g 8 12 := by rw [d8, if_neg (by decide), if_neg (by decide), f8 12 (by decide) (by decide)]
  obtain ⟨v1, v2, v3, v4, v5, v6, v7, v8⟩ := switch_T (c := c3) (r := r1) (g := g) (by rw [d811, w1 11 (by decide) (by decide) (by decide) (by decide) (by decide) (by decide)]; exact e11.symm) hcr (by rw [d812, w1 12 (by decide) (by decide) (by decide) (by decide) (by decide) (by decide)]; exact e12.symm) (by rw [d8, if_pos rfl, w1 0 (by decide) (by decide) (by decide) (by decide) (by decide) (by decide)]; omega) (by rw [d811]; exact hpre) l3
  obtain ⟨k1, k2⟩ := q53_1 g o3.1 o3.2 (by omega) hg
  have o4 : OM (B + 1) (f53_1 g c3) := ⟨k1, k2.jb⟩
  obtain ⟨c4, ec4⟩ : ∃ x, x = f53_1 g c3 := ⟨_, rfl⟩
  obtain ⟨r2, er2⟩ : ∃ x, x = f222_1 r1 := ⟨_, rfl⟩
  rw [← ec4] at v1 v2 v4 v5 v8 o4 ⊢
  rw [← er2] at v1 v3 v6 v7
  have w2 : ∀ i, i ≠ 10 → i ≠ 12 → i ≠ 13 → i ≠ 14 → i ≠ 16 → i ≠ 25 → (i < 22 ∨ 24 < i) → (i < 60 ∨ 94 < i) → (i < 1487 ∨ 1606 < i) → r2 4 45 i = r 4 45 i := fun i i0 i1 i2 i3 i4 i5 i6 i7 i8 => by rw [v6 i i1 i4 i8, w1 i i0 i2 i3 i5 i6 i7]
  have w2a : ∀ i, i ≠ 12 → i ≠ 16 → (i < 1487 ∨ 1606 < i) → r2 4 45 i = r1 4 45 i := v6
  have ck : ∀ k, k ≠ 8 → k ≠ 24 → k ≠ 27 → k ≠ 37 → k ≠ 38 → c4 g k = c g k := fun k x1 x2 x3 x4 x5 => by rw [v5 g k (.inr ⟨x1, x4, x5⟩), dk g k (.inr x1), f9 g k (.inr ⟨x1, x2, x3⟩)]
  have t4 : c4 g 8 9 = c g 8 9 + (n - 1) := by rw [v4 9 (by decide), d8, if_pos rfl]
  have d4 : c4 g 10 3 = c g 10 3 := by rw [ck 10 (by decide) (by decide) (by decide) (by decide) (by decide)]
  rw [t4, d4]
  -- the marks
  have mi : MI 0 j so (c4 g) (r2 4 45) := by
    obtain ⟨x1, x2, x3⟩ := hMI
    have wm : ∀ i, 40 ≤ i → i ≤ 59 → r2 4 45 i = r 4 45 i := fun i i0 i1 => w2 i (by omega) (by omega) (by omega) (by omega) (by omega) (by omega) (by omega) (by omega) (by omega)
    refine ⟨x1.pt (fun k hk => ck k (by omega) (by omega) (by omega) (by omega) (by omega)) (fun i i0 i1 => wm i i0 (by omega)), fun m m0 m1 => ?_, fun m m0 m1 => ?_⟩
    · rw [wm _ (by omega) (by omega), wm _ (by omega) (by omega), ck 35 (by decide) (by decide) (by decide) (by decide) (by decide)]
      exact x2 m m0 m1
    · rw [wm _ (by omega) (by omega), ck 36 (by decide) (by decide) (by decide) (by decide) (by decide)]
      exact x3 m m0 m1
  have hMb : MB 0 (r2 4 45) := fun m m0 m1 => by
    have x := hMI.2.1 m m0 m1
    have y := hMI.2.2 m m0 m1
    have k := hMI.1.2.2 m m0 m1
    have z := cb6 m m0 m1
    rw [if_neg (by omega)] at x
    rw [w2 _ (by omega) (by omega) (by omega) (by omega) (by omega) (by omega) (by omega) (by omega) (by omega), w2 _ (by omega) (by omega) (by omega) (by omega) (by omega) (by omega) (by omega) (by omega) (by omega), w2 _ (by omega) (by omega) (by omega) (by omega) (by omega) (by omega) (by omega) (by omega) (by omega)]
    refine ⟨by omega, ?_, ?_⟩
    · rw [x]
      split <;> omega
    · rw [y]
      repeat' split
      all_goals omega
  obtain ⟨g1, g2, g3, g4, g5, g6⟩ := marks_T (c := c4) (r := r2) (g := g) (j := j) (n := n) (seen := seen) (delay := c g 10 3) (t := c g 8 9 + (n - 1)) (so := so) mi v1 hMb hn (by omega) (by rw [w2 0 (by decide) (by decide) (by decide) (by decide) (by decide) (by decide) (by decide) (by decide) (by decide)]; omega) (by rw [w2 7 (by decide) (by decide) (by decide) (by decide) (by decide) (by decide) (by decide) (by decide) (by decide)]; exact s3) (by omega)
    (fun m' hm' y y0 y1 => hso m' (hwv.pt (fun i hi => by rw [hm' i hi, w2 i (by omega) (by omega) (by omega) (by omega) (by omega) (by omega) (by omega) (by omega) (by omega)])) y y0 y1) hso2 (fun y y0 y1 h9 => qm y y0 y1 (by rw [← w2 (40 + y) (by omega) (by omega) (by omega) (by omega) (by omega) (by omega) (by omega) (by omega) (by omega)]; exact h9))
  obtain ⟨k3, k4⟩ := q56_1 g g n seen (c g 10 3) (c g 8 9 + (n - 1)) o4.1 o4.2 (by omega) hg hg (by omega) hseen (by omega) (by omega)
  have o5 : OM (B + 7) (f56_1 g g n seen (c g 10 3) (c g 8 9 + (n - 1)) c4) := .q k3 k4 (by omega)
  obtain ⟨c5, ec5⟩ : ∃ x, x = f56_1 g g n seen (c g 10 3) (c g 8 9 + (n - 1)) c4 := ⟨_, rfl⟩
  obtain ⟨r3, er3⟩ : ∃ x, x = f224_1 r2 := ⟨_, rfl⟩
  rw [← ec5] at g1 g2 g3 o5 ⊢
  rw [← er3] at g1 g2 g4 g5 g6
  have w3 : ∀ i, i ≠ 10 → i ≠ 12 → i ≠ 13 → i ≠ 14 → i ≠ 16 → i ≠ 25 → (i < 22 ∨ 24 < i) → (i < 40 ∨ 94 < i) → (i < 1487 ∨ 1606 < i) → r3 4 45 i = r 4 45 i := fun i i0 i1 i2 i3 i4 i5 i6 i7 i8 => by rw [g4.1 i i4 (by omega) i8, w2 i i0 i1 i2 i3 i4 i5 i6 (by omega) i8]
  have w3a : ∀ i, i ≠ 12 → i ≠ 16 → (i < 40 ∨ 59 < i) → (i < 1487 ∨ 1606 < i) → r3 4 45 i = r1 4 45 i := fun i i0 i1 i2 i3 => by rw [g4.1 i i1 i2 i3, w2a i i0 i1 i3]
  have c5k : ∀ k, (k < 33 ∨ 38 < k) → c5 g k = c4 g k := fun k hk => g3 g k (by omega)
  -- block: seconds, marks
  have b276 : c5 g 27 6 = c g 27 6 := by rw [c5k 27 (by decide), v5 g 27 (.inr (by decide)), dk g 27 (.inr (by decide)), f7 6 (by decide) (by decide) (by decide)]
  have b278 : c5 g 27 8 = c g 27 8 := by rw [c5k 27 (by decide), v5 g 27 (.inr (by decide)), dk g 27 (.inr (by decide)), f7 8 (by decide) (by decide) (by decide)]
  have hb0 := hMI.1.1
  have hb3 := g1.1
  have ov3 := onV_r hb3
  have ov0 := onV_r hb0
  have o533 : c5 g 33 3 = onV (r3 4 45) := g1.2.1
  obtain ⟨k5, k6⟩ := q58_1 g n (c5 g 33 3) o5.1 o5.2 (by omega) hg (by omega) (o5.i (k := 33) (fj := 3) rfl rfl (zv33 hg) hg)
  have o6 : OM (B + 7) (f58_1 g n (c5 g 33 3) c5) := ⟨k5, k6.jb⟩
  have e58 : f58_1 g n (c5 g 33 3) c5 = z_upd (z_upd c5 g 27 6 (c g 27 6 + n)) g 27 8 (zorN (c g 27 8) (onV (r3 4 45))) := by
    unfold f58_1
    simp only [zn_a, zs_a]
    have u8 : z_upd c5 g 27 6 (w32 (c5 g 27 6 + n)) g 27 8 = c g 27 8 := by rw [zu_row, fu_i _ _ (by decide), b278]
    rw [u8, b276, w32_id (by omega), o533, zor_eq (by omega) (by omega)]
  obtain ⟨c6, ec6⟩ : ∃ x, x = f58_1 g n (c5 g 33 3) c5 := ⟨_, rfl⟩
  rw [← ec6] at o6 e58 ⊢
  have q627 : ∀ i, c6 g 27 i = if i = 8 then zorN (c g 27 8) (onV (r3 4 45)) else if i = 6 then c g 27 6 + n else c5 g 27 i := fun i => by rw [e58, zu_row, zu_row]; rfl
  have q6k : ∀ g' k, (g' ≠ g ∨ k ≠ 27) → c6 g' k = c5 g' k := fun g' k hk => by
    rw [e58]
    rcases hk with hk | hk
    · rw [zu_g _ _ _ hk, zu_g _ _ _ hk]
    · rw [zu_k _ _ _ hk, zu_k _ _ _ hk]
  have t6 : c6 g 8 9 = c g 8 9 + (n - 1) := by rw [q6k g 8 (.inr (by decide)), c5k 8 (by decide)]; exact t4
  -- the reference: marks of the block, time
  have z27 : zorL (r3 4 45 27) (f231_1 r3) = zorN (c g 27 8) (onV (r3 4 45)) := by
    have hr27 : 0 ≤ r 4 45 27 ∧ r 4 45 27 < 32 := by
      rw [e27]
      split
      · exact cb10
      · exact zorN_32 cb10 ov0
    rw [on_r hb3, w3 27 (by decide) (by decide) (by decide) (by decide) (by decide) (by decide) (by decide) (by decide) (by decide), zorL_eq (by omega) (by omega), e27]
    by_cases hj0 : j = 0
    · rw [if_pos hj0]
    · rw [if_neg hj0]
      exact on_sub hb0 hb3 (fun m m0 m1 h9 => g5 hj0 m m0 m1 (by rw [w2 _ (by omega) (by omega) (by omega) (by omega) (by omega) (by omega) (by omega) (by omega) (by omega)]; exact h9))
  have z27b := zorN_32 cb10 ov3
  obtain ⟨r4, er4⟩ : ∃ x, x = z_upd r3 4 45 27 (zorN (c g 27 8) (onV (r3 4 45))) := ⟨_, rfl⟩
  have w4 : ∀ i, r4 4 45 i = if i = 27 then zorN (c g 27 8) (onV (r3 4 45)) else r3 4 45 i := fun i => by rw [er4, zu_row]; rfl
  have r30 : r3 4 45 0 = r 4 45 0 := w3 0 (by decide) (by decide) (by decide) (by decide) (by decide) (by decide) (by decide) (by decide) (by decide)
  have w40 : r4 4 45 0 = r 4 45 0 := by rw [w4 0, if_neg (by decide), r30]
  have r38 : r3 4 45 8 = r 4 45 8 := w3 8 (by decide) (by decide) (by decide) (by decide) (by decide) (by decide) (by decide) (by decide) (by decide)
  have e230 : f208_1 r = if r 4 45 0 = 2000000000 then r4 else (if (r 4 45 0 + 1) % r 4 45 8 = 0 then f232_1 0 (z_upd r4 4 45 0 (r 4 45 0 + 1)) else z_upd r4 4 45 0 (r 4 45 0 + 1)) := by
    rw [f208_A, ← er1, ← er2, ← er3]
    unfold f230_1
    simp only [zn_a, zs_a]
    rw [z27, ← er4, w40]
    by_cases hL : r 4 45 0 = 2000000000
    · rw [if_pos hL, if_pos hL]
    · rw [if_neg hL, if_neg hL]
      have u0 : z_upd r4 4 45 0 (r 4 45 0 + 1) 4 45 0 = r 4 45 0 + 1 := by rw [zu_row, fu_s]
      have u8 : z_upd r4 4 45 0 (r 4 45 0 + 1) 4 45 8 = r 4 45 8 := by rw [zu_row, fu_i _ _ (by decide), w4, if_neg (by decide), r38]
      rw [u0, u8]
  -- what both are ahead of the block's end
  have base : ∀ (c7 r5 : zM), (∀ k, k ≠ 8 → c7 g k = c6 g k) → (∀ i, i ≠ 9 → c7 g 8 i = c6 g 8 i) → (∀ i, i ≠ 0 → r5 4 45 i = r4 4 45 i) → (r5 4 45 0 = c7 g 8 9) →
      r5 4 45 13 = c7 g 8 13 ∧ r5 4 45 14 = c7 g 8 14 ∧ r5 4 45 15 = c7 g 8 15 ∧ r5 4 45 10 = c7 g 8 10 ∧ r5 4 45 11 = c7 g 8 11 ∧ r5 4 45 12 = c7 g 8 12 ∧ (∀ q t, 0 ≤ q → q < 7 → 0 ≤ t → t < 4 → r5 4 45 (60 + 5 * q + t) = c7 g 24 (q * 4 + t)) ∧ (∀ q, 0 ≤ q → q < 7 → r5 4 45 (60 + 5 * q + 4) = r5 4 45 (60 + 5 * q + 0) + r5 4 45 (60 + 5 * q + 1) + r5 4 45 (60 + 5 * q + 2) + r5 4 45 (60 + 5 * q + 3)) ∧
        MK (c7 g) (r5 4 45) ∧ LG (c7 g) (r5 4 45) ∧ DM (c7 g) (r5 4 45) ∧ LD (c7 g) (r5 4 45) ∧ OD (c7 g) (r5 4 45) := by
    intro c7 r5 hk h8 hw h09
    have w5 : ∀ i, i ≠ 0 → i ≠ 27 → r5 4 45 i = r3 4 45 i := fun i i0 i1 => by rw [hw i i0, w4, if_neg i1]
    have w5a : ∀ i, i ≠ 0 → i ≠ 12 → i ≠ 16 → i ≠ 27 → (i < 40 ∨ 59 < i) → (i < 1487 ∨ 1606 < i) → r5 4 45 i = r1 4 45 i := fun i i0 i1 i2 i3 i4 i5 => by rw [w5 i i0 i3, w3a i i1 i2 i4 i5]
    have w5b : ∀ i, i ≠ 0 → i ≠ 27 → i ≠ 10 → i ≠ 12 → i ≠ 13 → i ≠ 14 → i ≠ 16 → i ≠ 25 → (i < 22 ∨ 24 < i) → (i < 40 ∨ 94 < i) → (i < 1487 ∨ 1606 < i) → r5 4 45 i = r 4 45 i := fun i x0 x1 x2 x3 x4 x5 x6 x7 x8 x9 x10 => by rw [w5 i x0 x1, w3 i x2 x3 x4 x5 x6 x7 x8 x9 x10]
    have c8 : ∀ i, i ≠ 9 → c7 g 8 i = c4 g 8 i := fun i hi => by rw [h8 i hi, q6k g 8 (.inr (by decide)), c5k 8 (by decide)]
    have c8a : ∀ i, i ≠ 9 → i ≠ 12 → c7 g 8 i = c3 g 8 i := fun i i0 i1 => by rw [c8 i i0, v4 i i1]
    have k7 : ∀ k, k ≠ 8 → k ≠ 27 → (k < 33 ∨ 38 < k) → c7 g k = c4 g k := fun k x0 x1 x2 => by rw [hk k x0, q6k g k (by omega), c5k k x2]
    have k7m : ∀ k, 33 ≤ k → k ≤ 38 → c7 g k = c5 g k := fun k x0 x1 => by rw [hk k (by omega), q6k g k (by omega)]
    have k7a : ∀ k, k ≠ 8 → k ≠ 24 → k ≠ 27 → (k < 33 ∨ 38 < k) → c7 g k = c g k := fun k x0 x1 x2 x3 => by rw [k7 k x0 x2 x3, ck k x0 x1 x2 (by omega) (by omega)]
    have k24 : c7 g 24 = c1 g 24 := by rw [k7 24 (by decide) (by decide) (by decide), v5 g 24 (.inr (by decide)), dk g 24 (.inr (by decide))]
    have k27 : ∀ i, c7 g 27 i = if i = 8 then zorN (c g 27 8) (onV (r3 4 45)) else if i = 6 then c g 27 6 + n else c1 g 27 i := fun i => by
      rw [hk 27 (by decide), q627, c5k 27 (by decide), v5 g 27 (.inr (by decide)), dk g 27 (.inr (by decide))]
    refine ⟨?_, ?_, ?_, ?_, ?_, ?_, fun q t q0 q1 t0 t1 => ?_, fun q q0 q1 => ?_, ?_, ?_, ?_, ?_, ?_⟩
    · rw [w5a 13 (by decide) (by decide) (by decide) (by decide) (by decide) (by decide), a13, c8a 13 (by decide) (by decide), d8, if_neg (by decide), if_pos rfl]
      omega
    · rw [w5a 14 (by decide) (by decide) (by decide) (by decide) (by decide) (by decide), F1.2.2.2.1, c8a 14 (by decide) (by decide), d8, if_neg (by decide), if_neg (by decide), f3, hK]
      split
      · rw [Int.mul_zero]
      · rw [Int.mul_one]
    · rw [w5b 15 (by decide) (by decide) (by decide) (by decide) (by decide) (by decide) (by decide) (by decide) (by decide) (by decide) (by decide), c8a 15 (by decide) (by decide), d8, if_neg (by decide), if_neg (by decide), f8 15 (by decide) (by decide)]
      exact e15
    · rw [w5a 10 (by decide) (by decide) (by decide) (by decide) (by decide) (by decide), c8a 10 (by decide) (by decide)]
      exact hcr.symm
    · rw [w5b 11 (by decide) (by decide) (by decide) (by decide) (by decide) (by decide) (by decide) (by decide) (by decide) (by decide) (by decide), c8a 11 (by decide) (by decide), d811]
      exact e11
    · rw [w5 12 (by decide) (by decide), g4.1 12 (by decide) (by decide) (by decide), v3, c8 12 (by decide), v2]
    · rw [w5a _ (by omega) (by omega) (by omega) (by omega) (by omega) (by omega), F1.1 q t q0 q1 t0 t1, k24, f1 q t q0 q1 t0 t1]
    · rw [w5a _ (by omega) (by omega) (by omega) (by omega) (by omega) (by omega), w5a _ (by omega) (by omega) (by omega) (by omega) (by omega) (by omega), w5a _ (by omega) (by omega) (by omega) (by omega) (by omega) (by omega), w5a _ (by omega) (by omega) (by omega) (by omega) (by omega) (by omega), w5a _ (by omega) (by omega) (by omega) (by omega) (by omega) (by omega)]
      exact F1.2.1 q q0 q1
    · obtain ⟨x1, x2, x3, x4, x5⟩ := g1
      refine ⟨x1.of (fun i i0 i1 => w5 i (by omega) (by omega)), by rw [k7m 33 (by decide) (by decide), onV_of (fun i i0 i1 => w5 i (by omega) (by omega))]; exact x2, fun m m0 m1 => ?_, fun m m0 m1 => ?_, fun m m0 m1 => ?_⟩
      · rw [k7m 34 (by decide) (by decide), w5 _ (by omega) (by omega)]
        exact x3 m m0 m1
      · rw [k7m 35 (by decide) (by decide), w5 _ (by omega) (by omega)]
        exact x4 m m0 m1
      · rw [k7m 36 (by decide) (by decide), w5 _ (by omega) (by omega)]
        exact x5 m m0 m1
    · exact g2.pt (fun k hk => k7m k (by omega) (by omega)) (fun i hi => w5 i (by omega) (by omega))
    · obtain ⟨x1, x2, x3, x4⟩ := hDM
      refine ⟨by rw [k7a 30 (by decide) (by decide) (by decide) (by decide), w5b 19 (by decide) (by decide) (by decide) (by decide) (by decide) (by decide) (by decide) (by decide) (by decide) (by decide) (by decide)]; exact x1, by rw [k7a 30 (by decide) (by decide) (by decide) (by decide), w5b 20 (by decide) (by decide) (by decide) (by decide) (by decide) (by decide) (by decide) (by decide) (by decide) (by decide) (by decide)]; exact x2, fun t t0 t1 => ?_, fun t t0 t1 => ?_⟩
      · rw [k7a 31 (by decide) (by decide) (by decide) (by decide), w5b _ (by omega) (by omega) (by omega) (by omega) (by omega) (by omega) (by omega) (by omega) (by omega) (by omega) (by omega)]
        exact x3 t t0 t1
      · rw [k7a 32 (by decide) (by decide) (by decide) (by decide), w5b _ (by omega) (by omega) (by omega) (by omega) (by omega) (by omega) (by omega) (by omega) (by omega) (by omega) (by omega)]
        exact x4 t t0 t1
    · obtain ⟨x1, x2, ⟨x3, x4⟩, x5⟩ := hLL
      have e17 : r5 4 45 17 = r 4 45 17 := w5b 17 (by decide) (by decide) (by decide) (by decide) (by decide) (by decide) (by decide) (by decide) (by decide) (by decide) (by decide)
      have e26' : r5 4 45 26 = r 4 45 26 := w5b 26 (by decide) (by decide) (by decide) (by decide) (by decide) (by decide) (by decide) (by decide) (by decide) (by decide) (by decide)
      have e25' : r5 4 45 25 = c g 27 6 + n := by rw [w5a 25 (by decide) (by decide) (by decide) (by decide) (by decide) (by decide), a25]; omega
      have e27' : r5 4 45 27 = zorN (c g 27 8) (onV (r3 4 45)) := by rw [hw 27 (by decide), w4, if_pos rfl]
      have m27 : ∀ i, i ≠ 8 → i ≠ 6 → c7 g 27 i = c1 g 27 i := fun i i0 i1 => by rw [k27, if_neg i0, if_neg i1]
      have n27 : ∀ i, i ≠ 3 → i ≠ 4 → i ≠ 5 → c1 g 27 i = c g 27 i := f7
      refine ⟨by rw [m27 2 (by decide) (by decide), n27 2 (by decide) (by decide) (by decide), e17]; exact x1, by omega, ⟨fun i i0 i1 k k0 k1 => ?_, fun jj j0 j1 k k0 k1 => ?_⟩, fun k k0 k1 => ?_, ?_, ?_, ?_, ?_, ?_, ?_, by omega, by omega, by omega, by omega, by omega, by omega⟩
      · rw [e17] at i1 ⊢
        rw [k7a 28 (by decide) (by decide) (by decide) (by decide), w5b _ (by omega) (by omega) (by omega) (by omega) (by omega) (by omega) (by omega) (by omega) (by omega) (by omega) (by omega)]
        exact x3 i i0 i1 k k0 k1
      · rw [e17] at j0
        rw [k7a 28 (by decide) (by decide) (by decide) (by decide)]
        exact x4 jj j0 j1 k k0 k1
      · rw [k7a 29 (by decide) (by decide) (by decide) (by decide), w5b _ (by omega) (by omega) (by omega) (by omega) (by omega) (by omega) (by omega) (by omega) (by omega) (by omega) (by omega)]
        exact x5 k k0 k1
      · rw [m27 3 (by decide) (by decide), w5a 22 (by decide) (by decide) (by decide) (by decide) (by decide) (by decide), F1.2.2.2.2.1, f4]
      · rw [m27 4 (by decide) (by decide), w5a 23 (by decide) (by decide) (by decide) (by decide) (by decide) (by decide), F1.2.2.2.2.2.1, f5]
      · rw [m27 5 (by decide) (by decide), w5a 24 (by decide) (by decide) (by decide) (by decide) (by decide) (by decide), F1.2.2.2.2.2.2, f6]
      · rw [k27, if_neg (by decide), if_pos rfl, e25']
      · rw [m27 7 (by decide) (by decide), n27 7 (by decide) (by decide) (by decide), e26']
        exact e26.symm
      · rw [k27, if_pos rfl, e27']
    · have k279 : c7 g 27 9 = c g 27 9 := by rw [k27, if_neg (show ¬ (9 : Int) = 8 by decide), if_neg (show ¬ (9 : Int) = 6 by decide), f7 9 (by decide) (by decide) (by decide)]
      unfold OD
      rw [w5b 21 (by decide) (by decide) (by decide) (by decide) (by decide) (by decide) (by decide) (by decide) (by decide) (by decide) (by decide), w5b 8 (by decide) (by decide) (by decide) (by decide) (by decide) (by decide) (by decide) (by decide) (by decide) (by decide) (by decide), k279]
      exact hOD
  have nd : ∀ q, 0 ≤ n * D q ∧ n * D q ≤ 17000000 * n := fun q => by
    have y := mul_le3 (a := n) (b := D q) (A := n) (B := 17000000) (by omega) (Int.le_refl _) (hDb q).1 (hDb q).2
    omega
  have xc0 : c g 8 10 - 1700000000 * n ≤ c g 8 10 - ((c g 24 tar + n * D 0) / c g 10 1 - c g 24 tar / c g 10 1) * c g 10 (6 + tar) ∧ c g 8 10 - ((c g 24 tar + n * D 0) / c g 10 1 - c g 24 tar / c g 10 1) * c g 10 (6 + tar) ≤ c g 8 10 := by
    have y0 := cb2 tar (by omega) (by omega)
    have u := nd 0
    have hu1 : 1 ≤ c g 10 1 := by omega
    have qm' : c g 24 tar / c g 10 1 ≤ (c g 24 tar + n * D 0) / c g 10 1 := Int.ediv_le_ediv (by omega) (by omega)
    have q2 : (c g 24 tar + n * D 0) / c g 10 1 ≤ c g 24 tar / c g 10 1 + n * D 0 := by
      have h1 : c g 24 tar + n * D 0 ≤ c g 24 tar + n * D 0 * c g 10 1 := by
        have := Int.mul_le_mul_of_nonneg_left (c := n * D 0) (show 1 ≤ c g 10 1 from hu1) u.1
        omega
      have h2 := Int.ediv_le_ediv (show 0 < c g 10 1 by omega) h1
      rw [Int.add_mul_ediv_right _ _ (by omega)] at h2
      exact h2
    have hpt := hp tar ht.1 ht.2
    rw [← s6 tar ht.1 ht.2] at hpt
    have cm := mul_le3 (a := (c g 24 tar + n * D 0) / c g 10 1 - c g 24 tar / c g 10 1) (b := c g 10 (6 + tar)) (A := 17000000 * n) (B := 100) (by omega) (by omega) hpt.1 hpt.2
    omega
  -- the class' bounds
  have cnum : ∀ (c7 : zM), (∀ k, k = 24 ∨ 33 ≤ k → c7 g k = c6 g k) → (∀ i, i ≠ 9 → c7 g 8 i = c6 g 8 i) → (∀ i, 3 ≤ i → i ≤ 8 → c7 g 27 i = 0 ∨ c7 g 27 i = c6 g 27 i) → CBD (A + n) Z (c7 g) := by
    intro c7 hk h8 h27
    have c8a : ∀ i, i ≠ 9 → i ≠ 12 → c7 g 8 i = c3 g 8 i := fun i i0 i1 => by rw [h8 i i0, q6k g 8 (.inr (by decide)), c5k 8 (by decide), v4 i i1]
    have x13 : c7 g 8 13 = c g 8 13 + n := by rw [c8a 13 (by decide) (by decide), d8, if_neg (by decide), if_pos rfl]
    have x15 : c7 g 8 15 = c g 8 15 := by rw [c8a 15 (by decide) (by decide), d8, if_neg (by decide), if_neg (by decide), f8 15 (by decide) (by decide)]
    have x14 : c7 g 8 14 = c g 8 14 + if crp (c g 8 12) (c g 22 3) (c g 22 7) (c g 10 0) = 0 then 0 else n := by rw [c8a 14 (by decide) (by decide), d8, if_neg (by decide), if_neg (by decide), f3]
    have x10 : c7 g 8 10 = c g 8 10 - ((c g 24 tar + n * D 0) / c g 10 1 - c g 24 tar / c g 10 1) * c g 10 (6 + tar) := by rw [c8a 10 (by decide) (by decide), d8, if_neg (by decide), if_neg (by decide), f2]
    have x24 : ∀ i, 0 ≤ i → i < 28 → 0 ≤ c7 g 24 i ∧ c7 g 24 i ≤ 17000000 * (c g 8 13 + n) := fun i i0 i1 => by
      rw [hk 24 (by decide), q6k g 24 (.inr (by decide)), c5k 24 (by decide), v5 g 24 (.inr (by decide)), dk g 24 (.inr (by decide))]
      have y := f1 (i / 4) (i % 4) (by omega) (by omega) (by omega) (by omega)
      rw [show i / 4 * 4 + i % 4 = i by omega] at y
      have z := cb2 i i0 i1
      have u := nd (i / 4)
      rw [y]
      split <;> omega
    have x6 : ∀ i, 3 ≤ i → i ≤ 5 → 0 ≤ c6 g 27 i ∧ c6 g 27 i ≤ 17000000 * (c g 8 13 + n) := fun i i0 i1 => by
      rw [q627, if_neg (by omega), if_neg (by omega), c5k 27 (by decide), v5 g 27 (.inr (by decide)), dk g 27 (.inr (by decide))]
      have z := cb3 i i0 i1
      rcases (show i = 3 ∨ i = 4 ∨ i = 5 by omega) with rfl | rfl | rfl
      · have u := nd 0
        rw [f4]
        omega
      · have u := nd 1
        rw [f5]
        omega
      · have u := nd 6
        rw [f6]
        omega
    have xc : c g 8 10 - 1700000000 * n ≤ c7 g 8 10 ∧ c7 g 8 10 ≤ c g 8 10 := by
      rw [x10]
      exact xc0
    refine ⟨by omega, fun i i0 i1 => by rw [x13]; exact x24 i i0 i1, fun i i0 i1 => ?_, ?_, ?_, fun m m0 m1 => ?_, by omega, ?_, by omega, ?_⟩
    · rw [x13]
      rcases h27 i i0 (by omega) with h | h
      · rw [h]
        omega
      · rw [h]
        exact x6 i i0 i1
    · rcases h27 6 (by omega) (by omega) with h | h
      · rw [h]
        omega
      · rw [h, q627, if_neg (by decide), if_pos rfl]
        omega
    · rw [x14, x13]
      split <;> omega
    · rw [x13, hk 34 (by decide), hk 35 (by decide), hk 36 (by decide), q6k g 34 (.inr (by decide)), q6k g 35 (.inr (by decide)), q6k g 36 (.inr (by decide)), g1.2.2.1 m m0 m1, g1.2.2.2.1 m m0 m1, g1.2.2.2.2 m m0 m1]
      obtain ⟨y1, y2, y3⟩ := g6 m m0 m1
      have bb := g1.1 m m0 m1
      have z := cb6 m m0 m1
      have k := hMI.1.2.2 m m0 m1
      have x := hMI.2.1 m m0 m1
      have y := hMI.2.2 m m0 m1
      rw [if_neg (by omega)] at x
      have ww : ∀ i, 40 ≤ i → i ≤ 59 → r2 4 45 i = r 4 45 i := fun i i0 i1 => w2 i (by omega) (by omega) (by omega) (by omega) (by omega) (by omega) (by omega) (by omega) (by omega)
      rw [ww _ (by omega) (by omega)] at y1 y2 y3
      have x' : r 4 45 (50 + m) ≤ c g 35 m + j ∧ c g 35 m ≤ r 4 45 (50 + m) := by
        rw [x]
        split <;> omega
      have y' : r 4 45 (55 + m) ≤ c g 36 m + j := by
        rw [y]
        repeat' split
        all_goals omega
      clear x y x14
      omega
    · rcases h27 7 (by omega) (by omega) with h | h
      · rw [h]
        omega
      · rw [h, x15, q627, if_neg (by decide), if_neg (by decide), c5k 27 (by decide), v5 g 27 (.inr (by decide)), dk g 27 (.inr (by decide)), f7 7 (by decide) (by decide) (by decide)]
        exact cb8
    · rcases h27 8 (by omega) (by omega) with h | h
      · rw [h]
        omega
      · rw [h, q627, if_pos rfl]
        exact z27b
  refine ⟨c6, r4, rfl, e230, o6, t6, w40, base c6 r4 (fun _ _ => rfl) (fun _ _ => rfl) (fun _ _ => rfl) (by rw [w40, t6]; omega), cnum c6 (fun _ _ => rfl) (fun _ _ => rfl) (fun _ _ _ => .inr rfl), ?_, ?_, ?_, ?_, ?_, ?_, fun i hi => ?_, ?_⟩
  · rw [q6k g 8 (.inr (by decide)), c5k 8 (by decide), v2, v4 11 (by decide), v4 10 (by decide)]
  · rw [q6k g 8 (.inr (by decide)), c5k 8 (by decide), v4 11 (by decide), d811]
  · rw [q6k g 8 (.inr (by decide)), c5k 8 (by decide), v4 15 (by decide), d8, if_neg (by decide), if_neg (by decide), f8 15 (by decide) (by decide)]
  · rw [q6k g 8 (.inr (by decide)), c5k 8 (by decide), v4 10 (by decide), d8, if_neg (by decide), if_neg (by decide), f2]
    exact xc0.2
  · rw [q6k g 8 (.inr (by decide)), c5k 8 (by decide), v4 13 (by decide), d8, if_neg (by decide), if_pos rfl]
  · rw [q6k g 10 (.inr (by decide)), c5k 10 (by decide), ck 10 (by decide) (by decide) (by decide) (by decide) (by decide)]
  · rw [w4, if_neg (by omega), w3 i (by omega) (by omega) (by omega) (by omega) (by omega) (by omega) (by omega) (by omega) (by omega)]
  · rw [q627, if_neg (by decide), if_pos rfl]
theorem final_T {c r : zM} {g : Nat} {B j n tar seen K A Z : Int} {D so : Int → Int} (hg : g < 3) (hQ : QJ D K j tar so (c g) (r 4 45)) (hc : OM B c) (hr : OM B r) (hB : B + 20 ≤ 1000000000) (hwv : WV (c g) (r 4 45)) (hcb : CBD A Z (c g)) (hA : A ≤ 5000000) (hZ : Z ≤ 900000000) (hop : c g 8 12 = shO (c g 8 11) (c g 8 10)) (hpre : c g 8 11 = 0 ∨ c g 8 11 = 1)
    (hD : ∀ q, D q = DL (c g 8 12) (c g 22 3) (c g 22 7) (c g 19 6) (c g 10 0) q) (hK : K = if crp (c g 8 12) (c g 22 3) (c g 22 7) (c g 10 0) = 0 then 0 else 1) (ht : 0 ≤ tar ∧ tar < 4) (hn : n = j + 1) (hj : 0 ≤ j ∧ j ≤ 3599) (hseen : -2147483648 ≤ seen ∧ seen ≤ 2147483647)
    (htar : ∀ m' : zM, (∀ i, i = 0 ∨ (287 ≤ i ∧ i ≤ 787) → m' 4 45 i = r 4 45 i) → f217_1 (m' 4 45 0) m' = tar) (htar2 : ∀ m : zM, (∀ i, 287 ≤ i → i ≤ 787 → m 4 45 i = r 4 45 i) → f217_1 (r 4 45 0) m = tar) (hso : ∀ m' : zM, WV (c g) (m' 4 45) → ∀ y, 2 ≤ y → y < 5 → soR y m' = so y)
    (hso2 : ∀ y, 2 ≤ y → y < 5 → (so y = 0 ∨ so y = 1) ∧ (if zand (zshr seen y) 1 = 1 then (1 : Int) else 0) = so y) (qm : ∀ y, 2 ≤ y → y < 5 → r 4 45 (40 + y) = 1 → so y = 0 → j = 0) :
    MV (cS g n tar seen c g) (f208_1 r 4 45) ∧ cS g n tar seen c g 8 12 = shO (cS g n tar seen c g 8 11) (cS g n tar seen c g 8 10) ∧ cS g n tar seen c g 8 11 = c g 8 11 ∧ CBD (A + n) Z (cS g n tar seen c g) ∧ cS g n tar seen c g 8 9 = min (c g 8 9 + n) 2000000000 ∧ cS g n tar seen c g 8 13 = c g 8 13 + n ∧ cS g n tar seen c g 8 15 = c g 8 15 ∧ cS g n tar seen c g 8 10 ≤ c g 8 10 := by
  obtain ⟨c6, r4, ec, e230, o6, t6, w40, x0, cb, k12, k11, k15, k10, k13, kr10, st, n6⟩ := final_A (seen := seen) hg hQ hc hr hB hwv hcb hA hZ hop hpre hD hK ht hn hj hseen htar htar2 hso hso2 qm
  have e0 := hQ.1
  have hst := hwv.2.2.2.1
  obtain ⟨s0, s1, s2, s3, s4, s5, s6, -, -, -, s10⟩ := id hst
  have hw0 := hr.w
  have tc := hc.t g
  have b8 := r45_8 hr.2.o 4
  rw [ec]
  by_cases hL : r 4 45 0 = 2000000000
  · -- the last second there is
    rw [if_pos (show 2000000000 ≤ c6 g 8 9 by omega)]
    have e59 : f59_1 g tar c6 = c6 := by
      unfold f59_1
      simp only [zn_a, zs_a]
      have eb : max 1 (c6 g 10 4) = r 4 45 8 := by
        rw [kr10]
        omega
      rw [eb, if_neg (last_blk s10 (by rw [t6]; omega))]
    rw [e59, e230, if_pos hL]
    exact ⟨⟨by rw [w40, t6]; omega, x0⟩, k12, k11, cb, by rw [t6]; omega, k13, k15, k10⟩
  · rw [if_neg (show ¬ 2000000000 ≤ c6 g 8 9 by omega)]
    have o7 := u8_9 (g := g) (x := c6 g 8 9 + 1) o6 (by omega)
    obtain ⟨c7, ec7⟩ : ∃ x, x = z_upd c6 g 8 9 (c6 g 8 9 + 1) := ⟨_, rfl⟩
    rw [← ec7] at o7 ⊢
    have q78 : ∀ i, c7 g 8 i = if i = 9 then c g 8 9 + n else c6 g 8 i := fun i => by
      rw [ec7, zu_row, show c6 g 8 9 + 1 = c g 8 9 + n by omega]
      rfl
    have q7k : ∀ k, k ≠ 8 → c7 g k = c6 g k := fun k hk => by rw [ec7, zu_k _ _ _ hk]
    obtain ⟨r5, er5⟩ : ∃ x, x = z_upd r4 4 45 0 (r 4 45 0 + 1) := ⟨_, rfl⟩
    have w5 : ∀ i, r5 4 45 i = if i = 0 then r 4 45 0 + 1 else r4 4 45 i := fun i => by rw [er5, zu_row]; rfl
    obtain ⟨x1, x2, x3, x4, x5, x6, x7, x8, x9, x10, x11, x12, x13⟩ := x0.t (c' := c7 g) (w' := r5 4 45) q7k (fun i hi => by rw [q78, if_neg hi]) (fun i hi => by rw [w5, if_neg hi])
    have r50 : r5 4 45 0 = r 4 45 0 + 1 := by rw [w5, if_pos rfl]
    have w5r : ∀ i, (4 ≤ i ∧ i ≤ 9) ∨ (28 ≤ i ∧ i ≤ 31) ∨ (287 ≤ i ∧ i ≤ 787) ∨ (1607 ≤ i ∧ i ≤ 1613) → r5 4 45 i = r 4 45 i := fun i hi => by rw [w5, if_neg (by omega), st i hi]
    have r58 : r5 4 45 8 = r 4 45 8 := w5r 8 (by omega)
    have st7 : ST (c7 g) (r5 4 45) := hst.pt (by rw [q7k 10 (by decide), kr10]) (fun i hi => w5r i (by omega))
    have h16 : ∀ i, 1607 ≤ i ∧ i ≤ 1610 → -9223372036854775808 ≤ r5 4 45 i ∧ r5 4 45 i ≤ 9223372036854775807 := fun i hi => by
      rw [w5r i (by omega)]
      exact r64_1607 hr hi
    obtain ⟨y1, y2, y3, y4, y5, y6, y7, y8, y9⟩ := goes_T (c := c7) (r := r5) (g := g) (B := B + 7) (tar := tar) hg o7 h16 (by rw [r58]; exact b8) (by rw [w5r 9 (by omega)]; exact r45_9 hr.2.o 4) (by omega) x12 x13 x11 st7 (by rw [r50, q78, if_pos rfl]; omega) (by
        have z8 := x12.2.2.2.2
        obtain ⟨-, -, -, u4, u5, -, u7, -, u9, -⟩ := z8
        have e6 : c7 g 27 6 = c g 27 6 + n := by rw [q7k 27 (by decide), n6]
        have := hcb.2.2.2.1
        omega) ht (fun m hm => by
        rw [r50, show r 4 45 0 + 1 - 1 = r 4 45 0 by omega]
        exact htar2 m (fun i i0 i1 => by rw [hm i i0 i1, w5r i (by omega)])) (by omega)
    have eF : f208_1 r = if r5 4 45 0 % r5 4 45 8 = 0 then f232_1 0 r5 else r5 := by
      rw [e230, if_neg hL, r50, r58, ← er5]
    rw [eF]
    obtain ⟨R, hR⟩ : ∃ x, x = (if r5 4 45 0 % r5 4 45 8 = 0 then f232_1 0 r5 else r5) := ⟨_, rfl⟩
    rw [← hR] at y1 y2 y3 y5 y6 y7 ⊢
    obtain ⟨C, hC⟩ : ∃ x, x = f59_1 g tar c7 := ⟨_, rfl⟩
    rw [← hC] at y1 y2 y3 y4 y8 y9 ⊢
    have C8 : C g 8 = c7 g 8 := y4 g 8 (by omega)
    have C8v : ∀ i, i ≠ 9 → C g 8 i = c6 g 8 i := fun i hi => by rw [C8, q78, if_neg hi]
    have C24 : C g 24 = c7 g 24 := y4 g 24 (by omega)
    have Ck : ∀ k, 33 ≤ k → C g k = c7 g k := fun k hk => y4 g k (by omega)
    have R_ : ∀ i, (i < 17 ∨ 39 < i) → (i < 788 ∨ 1171 < i) → (i < 1607 ∨ 1610 < i) → R 4 45 i = r5 4 45 i := y5
    refine ⟨⟨?_, ?_, ?_, ?_, ?_, ?_, ?_, fun q t q0 q1 t0 t1 => ?_, fun q q0 q1 => ?_, ?_, ?_, y3, y1, y2⟩, ?_, ?_, ?_, ?_, ?_, ?_, ?_⟩
    · rw [R_ 0 (by omega) (by omega) (by omega), r50, C8, q78, if_pos rfl]
      omega
    · rw [R_ 13 (by omega) (by omega) (by omega), C8]
      exact x1
    · rw [R_ 14 (by omega) (by omega) (by omega), C8]
      exact x2
    · rw [R_ 15 (by omega) (by omega) (by omega), C8]
      exact x3
    · rw [R_ 10 (by omega) (by omega) (by omega), C8]
      exact x4
    · rw [R_ 11 (by omega) (by omega) (by omega), C8]
      exact x5
    · rw [R_ 12 (by omega) (by omega) (by omega), C8]
      exact x6
    · rw [R_ _ (by omega) (by omega) (by omega), C24]
      exact x7 q t q0 q1 t0 t1
    · rw [R_ _ (by omega) (by omega) (by omega), R_ _ (by omega) (by omega) (by omega), R_ _ (by omega) (by omega) (by omega), R_ _ (by omega) (by omega) (by omega), R_ _ (by omega) (by omega) (by omega)]
      exact x8 q q0 q1
    · obtain ⟨u1, u2, u3, u4, u5⟩ := x9
      refine ⟨u1.of (fun i i0 i1 => R_ i (by omega) (by omega) (by omega)), by rw [Ck 33 (by decide), onV_of (fun i i0 i1 => R_ i (by omega) (by omega) (by omega))]; exact u2, fun m m0 m1 => ?_, fun m m0 m1 => ?_, fun m m0 m1 => ?_⟩
      · rw [Ck 34 (by decide), R_ _ (by omega) (by omega) (by omega)]
        exact u3 m m0 m1
      · rw [Ck 35 (by decide), R_ _ (by omega) (by omega) (by omega)]
        exact u4 m m0 m1
      · rw [Ck 36 (by decide), R_ _ (by omega) (by omega) (by omega)]
        exact u5 m m0 m1
    · exact x10.pt (fun k hk => Ck k (by omega)) (fun i hi => R_ i (by omega) (by omega) (by omega))
    · rw [C8v 12 (by decide), C8v 11 (by decide), C8v 10 (by decide)]
      exact k12
    · rw [C8v 11 (by decide)]
      exact k11
    · obtain ⟨cb1, cb2, cb3, cb4, cb5, cb6, cb7, cb8, cb9, cb10⟩ := cb
      have c27 : ∀ i, 3 ≤ i → i ≤ 8 → C g 27 i = 0 ∨ C g 27 i = c6 g 27 i := fun i i0 i1 => by
        rcases y8 i i0 i1 with h | h
        · exact .inl h
        · exact .inr (by rw [h, q7k 27 (by decide)])
      have c24 : C g 24 = c6 g 24 := by rw [C24, q7k 24 (by decide)]
      have ck : ∀ k, 33 ≤ k → C g k = c6 g k := fun k hk => by rw [Ck k hk, q7k k (by omega)]
      refine ⟨by rw [C8v 13 (by decide)]; exact cb1, by rw [C8v 13 (by decide), c24]; exact cb2, fun i i0 i1 => ?_, ?_, by rw [C8v 13 (by decide), C8v 14 (by decide)]; exact cb5, by rw [C8v 13 (by decide), ck 34 (by decide), ck 35 (by decide), ck 36 (by decide)]; exact cb6, by rw [C8v 13 (by decide), C8v 10 (by decide)]; exact cb7, ?_, by rw [C8v 15 (by decide)]; exact cb9, ?_⟩
      · have z := cb3 i i0 i1
        rw [C8v 13 (by decide)]
        rcases c27 i i0 (by omega) with h | h <;> omega
      · rw [C8v 13 (by decide)]
        rcases c27 6 (by omega) (by omega) with h | h <;> omega
      · rw [C8v 15 (by decide)]
        rcases c27 7 (by omega) (by omega) with h | h <;> omega
      · rcases c27 8 (by omega) (by omega) with h | h <;> omega
    · rw [C8, q78, if_pos rfl]
      omega
    · rw [C8v 13 (by decide)]
      exact k13
    · rw [C8v 15 (by decide)]
      exact k15
    · rw [C8v 10 (by decide)]
      exact k10
