/-! One more quiet second. -/
/-- what a second leaves of the reference -/
theorem sec_keep {r : zM} {B : Int} (ho : OM B r) (hB : B + 11 ≤ 1000000000) : OM (B + 11) (f208_1 r) ∧ (∀ i, (1 ≤ i ∧ i ≤ 9) ∨ i = 18 ∨ (28 ≤ i ∧ i ≤ 31) ∨ (95 ≤ i ∧ i ≤ 787) ∨ (1172 ≤ i ∧ i ≤ 1486) ∨ (1611 ≤ i ∧ i ≤ 1618) → f208_1 r 4 45 i = r 4 45 i) ∧ J (zQ [26, 27, 28, 29, 30, 31, 32, 33] [4]) r (B + 11) (f208_1 r) := by
  obtain ⟨k1, k2⟩ := q208_1 ho.1 ho.2 hB
  refine ⟨⟨k1, k2.jb⟩, fun i hi => ?_, k2⟩
  by_cases h1 : 1 ≤ i ∧ i ≤ 3
  · exact jx k2 22 (ja45_1 h1) rfl
  by_cases h2 : 4 ≤ i ∧ i ≤ 9
  · exact jx k2 23 (ja45_4 h2) rfl
  by_cases h3 : i = 18
  · rw [h3]
    exact jx k2 25 ja45_18 rfl
  by_cases h4 : 28 ≤ i ∧ i ≤ 31
  · exact jx k2 23 (ja45_28 h4) rfl
  by_cases h5 : 95 ≤ i ∧ i ≤ 286
  · exact jx k2 22 (ja45_95 h5) rfl
  by_cases h6 : 287 ≤ i ∧ i ≤ 787
  · exact jx k2 21 (ja45_287 h6) rfl
  by_cases h7 : 1172 ≤ i ∧ i ≤ 1486
  · exact jx k2 25 (ja45_1172 h7) rfl
  by_cases h8 : 1611 ≤ i ∧ i ≤ 1613
  · exact jx k2 23 (ja45_1611 h8) rfl
  · exact jx k2 24 (ja45_1614 (by omega)) rfl
/-- whether the switch shall be open -/
def shO (pre cr : Int) : Int := if pre = 1 then (if cr ≤ 0 then 1 else 0) else 0
theorem sw_q {m : zM} (h : m 4 45 12 = shO (m 4 45 11) (m 4 45 10)) : f222_1 m = m := by
  unfold f222_1
  rw [zn_a]
  unfold shO at h
  rw [if_pos h]
theorem quiet_T {c r : zM} {g : Nat} {B j tar K A Z : Int} {D so : Int → Int} (hQ : QJ D K j tar so (c g) (r 4 45)) (ho : OM B r) (hB : B + 11 ≤ 1000000000) (hwv : WV (c g) (r 4 45)) (hc : CBD A Z (c g)) (hA : A ≤ 5000000) (hop : c g 8 12 = shO (c g 8 11) (c g 8 10)) (hpre : c g 8 11 = 0 ∨ c g 8 11 = 1)
    (hD : ∀ q, D q = DL (c g 8 12) (c g 22 3) (c g 22 7) (c g 19 6) (c g 10 0) q) (hK : K = if crp (c g 8 12) (c g 22 3) (c g 22 7) (c g 10 0) = 0 then 0 else 1) (ht : 0 ≤ tar ∧ tar < 4) (hj : 0 ≤ j ∧ j ≤ 3600)
    (htar : ∀ m' : zM, (∀ i, i = 0 ∨ (287 ≤ i ∧ i ≤ 787) → m' 4 45 i = r 4 45 i) → f217_1 (m' 4 45 0) m' = tar) (hso : ∀ m' : zM, WV (c g) (m' 4 45) → ∀ y, 2 ≤ y → y < 5 → soR y m' = so y) (hso2 : ∀ y, 2 ≤ y → y < 5 → so y = 0 ∨ so y = 1)
    (qt : r 4 45 0 < 2000000000) (qb : (r 4 45 0 + 1) % r 4 45 8 ≠ 0) (qo : c g 8 11 = 1 → c g 8 12 = 0 → 0 < c g 8 10 - ((c g 24 tar + (j + 1) * D 0) / c g 10 1 - c g 24 tar / c g 10 1) * c g 10 (6 + tar))
    (qm : ∀ m, 2 ≤ m → m < 5 → (r 4 45 (40 + m) = 1 → so m = 1) ∧ (r 4 45 (40 + m) = 0 → so m = 1 → c g 36 m + (j + 1) ≤ c g 10 3)) :
    QJ D K (j + 1) tar so (c g) (f208_1 r 4 45) := by
  have hQ0 := hQ
  have hob : c g 8 12 = 0 ∨ c g 8 12 = 1 := by
    rw [hop]
    unfold shO
    repeat' split
    all_goals omega
  obtain ⟨e0, e13, e15, e11, e12, hF, ⟨hk0, hsec, hlen⟩, hLG, hDM, hLL, e25, e26, e27, hOD⟩ := hQ
  obtain ⟨eD, eK⟩ := DR_eq hwv e12.symm hob
  have hst := hwv.2.2.2.1
  obtain ⟨s0, s1, s2, s3, s4, s5, s6, -, -, -, s10⟩ := id hst
  obtain ⟨bP, bQ, bS⟩ := hwv.sums
  have hu := r45_5 ho.2.o 4
  have hp : ∀ t, 0 ≤ t → t < 4 → 0 ≤ r 4 45 (28 + t) ∧ r 4 45 (28 + t) ≤ 100 := fun t t0 t1 => r45_28 ho.2.o 4 (by omega)
  have hDb : ∀ q, 0 ≤ D q ∧ D q ≤ 17000000 := fun q => by
    rw [hD q]
    unfold DL
    split
    · exact dl_b bP bQ bS q
    · omega
  have hKb : 0 ≤ K ∧ K ≤ 1 := by
    rw [hK]
    split <;> omega
  have hRB := hQ0.rb hc hA hst hu hp ht hj hDb hKb
  have h7 : 0 ≤ r 4 45 7 := (r45_7 ho.2.o 4).1
  have h13 := hc.1
  have h276 := hc.2.2.2.1
  have h25 : 0 ≤ r 4 45 25 ∧ r 4 45 25 ≤ 1000000000 := by omega
  -- it flows
  have F1 := hF.step ho (by omega) hRB ht htar h25 (fun q => by rw [eD q, hD q]) (by rw [eK, hK])
  obtain ⟨-, -, -, -, -, -, -, a13, a25, ao, -⟩ := flow_r ho (by omega) hRB ht htar h25
  have hfA : ∀ i, i ≠ 10 → i ≠ 13 → i ≠ 14 → i ≠ 25 → (i < 22 ∨ 24 < i) → (i < 60 ∨ 94 < i) → fA r 4 45 i = r 4 45 i := ao
  -- the switch
  have esw : f222_1 (fA r) = fA r := by
    refine sw_q ?_
    rw [hfA 12 (by omega) (by omega) (by omega) (by omega) (by omega) (by omega), hfA 11 (by omega) (by omega) (by omega) (by omega) (by omega) (by omega), e12, e11, F1.2.2.1, hfA 5 (by omega) (by omega) (by omega) (by omega) (by omega) (by omega), hfA (28 + tar) (by omega) (by omega) (by omega) (by omega) (by omega) (by omega), ← s1, ← s6 tar ht.1 ht.2]
    rcases hob with e | e
    · rcases hpre with p | p
      · rw [e, p]
        rfl
      · have := qo p e
        rw [e, p]
        unfold shO
        rw [if_pos rfl, if_neg (by omega)]
    · have d0 : D 0 = 0 := by
        rw [hD 0]
        unfold DL
        rw [if_neg (fun h9 => by omega)]
      rw [d0, Int.mul_zero, Int.add_zero, Int.sub_self, Int.zero_mul, Int.sub_zero]
      exact hop
  -- the marks
  obtain ⟨r1, er1⟩ : ∃ x, x = fA r := ⟨_, rfl⟩
  rw [← er1] at F1 a13 a25 hfA esw
  have w1 : ∀ i, 26 ≤ i → i ≤ 59 → r1 4 45 i = r 4 45 i := fun i i0 i1 => hfA i (by omega) (by omega) (by omega) (by omega) (by omega) (by omega)
  have hb1 : b01 (r1 4 45) := hk0.1.of (fun i i0 i1 => w1 i (by omega) (by omega))
  have hMb : ∀ i, 0 ≤ i → i < 5 → (0 ≤ r 4 45 (50 + i) ∧ r 4 45 (50 + i) ≤ 1000000000) ∧ 0 ≤ r 4 45 (55 + i) ∧ r 4 45 (55 + i) ≤ 1000000000 := fun i i0 i1 => by
    have x := hsec i i0 i1
    have y := hlen i i0 i1
    have z := hc.2.2.2.2.2.1 i i0 i1
    rw [if_neg (by omega)] at x
    refine ⟨?_, ?_⟩
    · rw [x]
      split <;> omega
    · rw [y]
      repeat' split
      all_goals omega
  obtain ⟨g1, g2, g3, g4⟩ := marks_q (m := r1) (so := so) (fun m' hm' y y0 y1 => hso m' (hwv.pt (fun i hi => by rw [hm' i (by omega), hfA i (by omega) (by omega) (by omega) (by omega) (by omega) (by omega)])) y y0 y1) hso2 hb1 (fun i i0 i1 => by rw [w1 _ (by omega) (by omega), w1 _ (by omega) (by omega)]; exact hMb i i0 i1) (by rw [hfA 7 (by omega) (by omega) (by omega) (by omega) (by omega) (by omega)]; exact h7) (fun y y0 y1 => by
    rw [w1 _ (by omega) (by omega), w1 _ (by omega) (by omega), hfA 7 (by omega) (by omega) (by omega) (by omega) (by omega) (by omega)]
    refine ⟨(qm y y0 y1).1, fun h9 h8 => ?_⟩
    have x := (qm y y0 y1).2 h9 h8
    have y' := hlen y (by omega) y1
    rw [if_neg (by omega), if_pos h8] at y'
    omega)
  obtain ⟨r3, er3⟩ : ∃ x, x = f224_1 r1 := ⟨_, rfl⟩
  rw [← er3] at g1 g2 g3 g4
  have w3 : ∀ i, (i < 50 ∨ i = 55 ∨ i = 56 ∨ 59 < i) → r3 4 45 i = r1 4 45 i := g3
  have hb3 : b01 (r3 4 45) := hb1.of (fun i i0 i1 => w3 i (by omega))
  have ov : onV (r3 4 45) = onV (r 4 45) := onV_of (fun i i0 i1 => by rw [w3 i (by omega), w1 i (by omega) (by omega)])
  have e327 : r3 4 45 27 = r 4 45 27 := by rw [w3 27 (by omega), w1 27 (by omega) (by omega)]
  have e30 : r3 4 45 0 = r 4 45 0 := by rw [w3 0 (by omega), hfA 0 (by omega) (by omega) (by omega) (by omega) (by omega) (by omega)]
  have e38 : r3 4 45 8 = r 4 45 8 := by rw [w3 8 (by omega), hfA 8 (by omega) (by omega) (by omega) (by omega) (by omega) (by omega)]
  have h278 := hc.2.2.2.2.2.2.2.2.2
  have ovr := onV_r hk0.1
  have h27 : 0 ≤ r 4 45 27 ∧ r 4 45 27 < 32 := by
    rw [e27]
    split
    · exact h278
    · exact zorN_32 h278 ovr
  have egoes := goes_q (m := r3) hb3 (by rw [e327]; exact h27) (by rw [e30]; omega) (by rw [e30, e38]; exact qb)
  rw [e327, ov, e30] at egoes
  have e208 : f208_1 r = z_upd (z_upd r3 4 45 27 (zorN (r 4 45 27) (onV (r 4 45)))) 4 45 0 (r 4 45 0 + 1) := by
    rw [f208_A, ← er1, esw, ← er3]
    exact egoes
  have w5 : ∀ i, i ≠ 0 → i ≠ 27 → f208_1 r 4 45 i = r3 4 45 i := fun i i0 i1 => by rw [e208, zu_row, fu_i _ _ i0, zu_row, fu_i _ _ i1]
  have w50 : f208_1 r 4 45 0 = r 4 45 0 + 1 := by rw [e208, zu_row, fu_s]
  have w527 : f208_1 r 4 45 27 = zorN (r 4 45 27) (onV (r 4 45)) := by rw [e208, zu_row, fu_i _ _ (by omega), zu_row, fu_s]
  -- rows that are as behind the flow
  have wf : ∀ i, i ≠ 0 → i ≠ 27 → (i < 50 ∨ i = 55 ∨ i = 56 ∨ 59 < i) → f208_1 r 4 45 i = r1 4 45 i := fun i i0 i1 i2 => by rw [w5 i i0 i1, w3 i i2]
  have wr : ∀ i, i ≠ 0 → i ≠ 27 → i ≠ 10 → i ≠ 13 → i ≠ 14 → i ≠ 25 → (i < 22 ∨ 24 < i) → (i < 50 ∨ 94 < i) → f208_1 r 4 45 i = r 4 45 i := fun i i0 i1 i2 i3 i4 i5 i6 i7 => by rw [wf i i0 i1 (by omega), hfA i i2 i3 i4 i5 i6 (by omega)]
  have ov5 : onV (f208_1 r 4 45) = onV (r 4 45) := onV_of (fun i i0 i1 => wr i (by omega) (by omega) (by omega) (by omega) (by omega) (by omega) (by omega) (by omega))
  refine ⟨?_, ?_, ?_, ?_, ?_, ?_, ⟨?_, fun m m0 m1 => ?_, fun m m0 m1 => ?_⟩, ?_, ?_, ?_, ?_, ?_, ?_, ?_⟩
  · rw [w50]
    omega
  · rw [wf 13 (by omega) (by omega) (by omega), a13]
    omega
  · rw [wr 15 (by omega) (by omega) (by omega) (by omega) (by omega) (by omega) (by omega) (by omega)]
    exact e15
  · rw [wr 11 (by omega) (by omega) (by omega) (by omega) (by omega) (by omega) (by omega) (by omega)]
    exact e11
  · rw [wr 12 (by omega) (by omega) (by omega) (by omega) (by omega) (by omega) (by omega) (by omega)]
    exact e12
  · obtain ⟨x1, x2, x3, x4, x5, x6, x7⟩ := F1
    refine ⟨fun q t q0 q1 t0 t1 => ?_, fun q q0 q1 => ?_, ?_, ?_, ?_, ?_, ?_⟩
    · rw [wf _ (by omega) (by omega) (by omega)]
      exact x1 q t q0 q1 t0 t1
    · rw [wf _ (by omega) (by omega) (by omega), wf _ (by omega) (by omega) (by omega), wf _ (by omega) (by omega) (by omega), wf _ (by omega) (by omega) (by omega), wf _ (by omega) (by omega) (by omega)]
      exact x2 q q0 q1
    · rw [wf 10 (by omega) (by omega) (by omega), wf 5 (by omega) (by omega) (by omega), wf (28 + tar) (by omega) (by omega) (by omega)]
      exact x3
    · rw [wf 14 (by omega) (by omega) (by omega)]
      exact x4
    · rw [wf 22 (by omega) (by omega) (by omega)]
      exact x5
    · rw [wf 23 (by omega) (by omega) (by omega)]
      exact x6
    · rw [wf 24 (by omega) (by omega) (by omega)]
      exact x7
  · exact hk0.pt (fun _ _ => rfl) (fun i i0 i1 => wr i (by omega) (by omega) (by omega) (by omega) (by omega) (by omega) (by omega) (by omega))
  · have x := hsec m m0 m1
    have y := hk0.1 m m0 m1
    rw [if_neg (by omega)] at x ⊢
    rw [w5 _ (by omega) (by omega), w5 _ (by omega) (by omega), g1 m m0 m1, w3 _ (by omega), w1 _ (by omega) (by omega), w1 _ (by omega) (by omega), x]
    rcases y with y | y
    · rw [y, if_neg (by omega), if_neg (by omega)]
      omega
    · rw [y, if_pos rfl, if_pos rfl]
      omega
  · have x := hlen m m0 m1
    rw [w5 _ (by omega) (by omega)]
    by_cases h2 : m < 2
    · rw [if_pos (.inr h2)] at x ⊢
      rw [w3 _ (by omega), w1 _ (by omega) (by omega)]
      exact x
    · rw [if_neg (by omega)] at x ⊢
      rw [g2 m (by omega) m1, w1 _ (by omega) (by omega)]
      by_cases h3 : so m = 1
      · rw [if_pos h3] at x ⊢
        rw [if_pos h3, x]
        omega
      · rw [if_neg h3, if_neg h3, if_neg (by omega)]
  · exact hLG.pt (fun _ _ => rfl) (fun i hi => wr i (by omega) (by omega) (by omega) (by omega) (by omega) (by omega) (by omega) (by omega))
  · obtain ⟨d1, d2, d3, d4⟩ := hDM
    refine ⟨by rw [wr 19 (by omega) (by omega) (by omega) (by omega) (by omega) (by omega) (by omega) (by omega)]; exact d1, by rw [wr 20 (by omega) (by omega) (by omega) (by omega) (by omega) (by omega) (by omega) (by omega)]; exact d2, fun t t0 t1 => ?_, fun t t0 t1 => ?_⟩
    · rw [wr _ (by omega) (by omega) (by omega) (by omega) (by omega) (by omega) (by omega) (by omega)]
      exact d3 t t0 t1
    · rw [wr _ (by omega) (by omega) (by omega) (by omega) (by omega) (by omega) (by omega) (by omega)]
      exact d4 t t0 t1
  · obtain ⟨l1, l2, ⟨l3, l4⟩, l5⟩ := hLL
    have e17 := wr 17 (by omega) (by omega) (by omega) (by omega) (by omega) (by omega) (by omega) (by omega)
    refine ⟨by rw [e17]; exact l1, by rw [e17]; exact l2, ⟨fun i i0 i1 k k0 k1 => ?_, fun jj j0 j1 k k0 k1 => ?_⟩, fun k k0 k1 => ?_⟩
    · rw [e17] at i1 ⊢
      rw [wr _ (by omega) (by omega) (by omega) (by omega) (by omega) (by omega) (by omega) (by omega)]
      exact l3 i i0 i1 k k0 k1
    · rw [e17] at j0
      exact l4 jj j0 j1 k k0 k1
    · rw [wr _ (by omega) (by omega) (by omega) (by omega) (by omega) (by omega) (by omega) (by omega)]
      exact l5 k k0 k1
  · rw [wf 25 (by omega) (by omega) (by omega), a25, e25]
    omega
  · rw [wr 26 (by omega) (by omega) (by omega) (by omega) (by omega) (by omega) (by omega) (by omega)]
    exact e26
  · rw [w527, ov5, if_neg (by omega), e27]
    by_cases hj0 : j = 0
    · rw [if_pos hj0]
    · rw [if_neg hj0, zorN_self h278.1]
  · unfold OD
    rw [wr 21 (by omega) (by omega) (by omega) (by omega) (by omega) (by omega) (by omega) (by omega), wr 8 (by omega) (by omega) (by omega) (by omega) (by omega) (by omega) (by omega) (by omega)]
    exact hOD
