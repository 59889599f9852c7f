-- WorkMeter$Registers.sum
theorem c71_2 {s : Nat × (Nat → Int32)} {S : zS} {m0 m : zM} {B : Int} {d : Nat} {Q : Option zV → zM → Prop} (g0 : Nat) (a1 a2 : Int) (hd : 14 ≤ d) (hJ : J S m0 B m) (hB : B + 0 ≤ 1000000000) (ha1 : 0 ≤ a1 ∧ a1 ≤ 6) (ha2 : (-1) ≤ a2 ∧ a2 ≤ (-1)) (hQ : ∀ (v : Int), (True) → f71_1 g0 a1 a2 m = v → Q (some (zl v)) m) : X (EE s) d 71 0 [(0, zr g0 23), (1, zi a1), (2, zi a2)] [] m Q := by
  refine X.aload_n 1 i71_0 rfl rfl rfl ?_
  refine X.getR 4 i71_1 rfl rfl (by decide) rfl rfl ?_
  refine X.iload_n 5 i71_4 rfl rfl rfl ?_
  refine X.iconst 6 i71_5 rfl rfl (by decide) ?_
  refine X.imul 7 i71_6 rfl rfl (by omega) ?_
  refine X.iload_n 8 i71_7 rfl rfl rfl ?_
  refine X.calls 11 [zr g0 24, zi (a1 * 4), zi a2] [] [(0, zr g0 24), (1, zi (a1 * 4)), (2, zi a2)] i71_8 (by decide) rfl rfl (by omega) rfl rfl t72 (Nat.le_of_ble_eq_true rfl) (Nat.le_of_ble_eq_true rfl) rfl ?_
  refine c72_1 (B := B) g0 (a1 * 4) a2 (by omega) (hJ.up (by omega)) (by omega) (by omega) (by omega) (fun v503 hv503 hFv503 => ?_)
  show X (EE s) d 71 11 [(0, zr g0 23), (1, zi a1), (2, zi a2)] [zl v503] m _
  refine X.retl i71_11 rfl t71 ?_
  exact hQ v503 (by first | trivial | omega) (Eq.trans (zn_eq hFv503.symm) rfl) 
-- WorkMeter$Registers.sum
theorem c71_3 {s : Nat × (Nat → Int32)} {S : zS} {m0 m : zM} {B : Int} {d : Nat} {Q : Option zV → zM → Prop} (g0 : Nat) (a1 a2 : Int) (hd : 14 ≤ d) (hJ : J S m0 B m) (hB : B + 0 ≤ 1000000000) (ha1 : 0 ≤ a1 ∧ a1 ≤ 6) (ha2 : 0 ≤ a2 ∧ a2 ≤ 3) (hQ : ∀ (v : Int), (True) → f71_1 g0 a1 a2 m = v → Q (some (zl v)) m) : X (EE s) d 71 0 [(0, zr g0 23), (1, zi a1), (2, zi a2)] [] m Q := by
  refine X.aload_n 1 i71_0 rfl rfl rfl ?_
  refine X.getR 4 i71_1 rfl rfl (by decide) rfl rfl ?_
  refine X.iload_n 5 i71_4 rfl rfl rfl ?_
  refine X.iconst 6 i71_5 rfl rfl (by decide) ?_
  refine X.imul 7 i71_6 rfl rfl (by omega) ?_
  refine X.iload_n 8 i71_7 rfl rfl rfl ?_
  refine X.calls 11 [zr g0 24, zi (a1 * 4), zi a2] [] [(0, zr g0 24), (1, zi (a1 * 4)), (2, zi a2)] i71_8 (by decide) rfl rfl (by omega) rfl rfl t72 (Nat.le_of_ble_eq_true rfl) (Nat.le_of_ble_eq_true rfl) rfl ?_
  refine c72_1 (B := B) g0 (a1 * 4) a2 (by omega) (hJ.up (by omega)) (by omega) (by omega) (by omega) (fun v503 hv503 hFv503 => ?_)
  show X (EE s) d 71 11 [(0, zr g0 23), (1, zi a1), (2, zi a2)] [zl v503] m _
  refine X.retl i71_11 rfl t71 ?_
  exact hQ v503 (by first | trivial | omega) (Eq.trans (zn_eq hFv503.symm) rfl) 
-- WorkMeter.raw
noncomputable def f144_1 (a1 a2 : Int) (m : zM) : Int :=
  if a1 < 0 then
  ((-1))
  else
  (if 7 ≤ a1 then
  ((-1))
  else
  (if a2 = (-1) then
  (zn (f71_1 0 a1 a2 m) fun v510 =>
  v510)
  else
  (if a2 < 0 then
  ((-1))
  else
  (if 4 ≤ a2 then
  ((-1))
  else
  (zn (f71_1 0 a1 a2 m) fun v521 =>
  v521)))))
-- WorkMeter.raw
theorem c144_1 {s : Nat × (Nat → Int32)} {S : zS} {m0 m : zM} {B : Int} {d : Nat} {Q : Option zV → zM → Prop} (a1 a2 : Int) (hd : 15 ≤ d) (hJ : J S m0 B m) (hB : B + 0 ≤ 1000000000) (ha1 : (-2147483648) ≤ a1 ∧ a1 ≤ 2147483647) (ha2 : (-2147483648) ≤ a2 ∧ a2 ≤ 2147483647) (hQ : ∀ (v : Int), (True) → f144_1 a1 a2 m = v → Q (some (zl v)) m) : X (EE s) d 144 0 [(0, zr 4 40), (1, zi a1), (2, zi a2)] [] m Q := by
  refine X.iload_n 1 i144_0 rfl rfl rfl ?_
  refine X.calls 4 [zi a1] [] [(0, zi a1)] i144_1 (by decide) rfl rfl (by omega) rfl rfl t145 (Nat.le_of_ble_eq_true rfl) (Nat.le_of_ble_eq_true rfl) rfl ?_
  refine X.iload_n 1 i145_0 rfl rfl rfl ?_
  refine X.iflt 14 4 i145_1 rfl rfl rfl (fun h501 => ?_) (fun h501 => ?_)
  · refine X.cut [] i145_14 rfl ?_
    refine X.iconst 15 i145_14 rfl rfl (by decide) ?_
    refine X.retz i145_15 rfl t145 (by omega) ?_
    show X (EE s) d 144 4 [(0, zr 4 40), (1, zi a1), (2, zi a2)] [zi 0] m _
    refine X.ifeq 14 7 i144_4 rfl rfl rfl (fun h502 => ?_) (fun h502 => (by exfalso; omega))
    refine X.cut [] i144_14 rfl ?_
    refine X.ldc2 17 i144_14 rfl rfl (by decide) ?_
    refine X.retl i144_17 rfl t144 ?_
    exact hQ (-1) (by first | trivial | omega) (Eq.trans (if_pos h501) rfl) 
  · refine X.iload_n 5 i145_4 rfl rfl rfl ?_
    refine X.bipush 7 i145_5 rfl rfl (by decide) ?_
    refine X.icmpge 14 10 i145_7 rfl rfl rfl (fun h503 => ?_) (fun h503 => ?_)
    · refine X.cut [] i145_14 rfl ?_
      refine X.iconst 15 i145_14 rfl rfl (by decide) ?_
      refine X.retz i145_15 rfl t145 (by omega) ?_
      show X (EE s) d 144 4 [(0, zr 4 40), (1, zi a1), (2, zi a2)] [zi 0] m _
      refine X.ifeq 14 7 i144_4 rfl rfl rfl (fun h504 => ?_) (fun h504 => (by exfalso; omega))
      refine X.cut [] i144_14 rfl ?_
      refine X.ldc2 17 i144_14 rfl rfl (by decide) ?_
      refine X.retl i144_17 rfl t144 ?_
      exact hQ (-1) (by first | trivial | omega) (Eq.trans (if_neg h501) (Eq.trans (if_pos h503) rfl)) 
    · refine X.iconst 11 i145_10 rfl rfl (by decide) ?_
      refine X.goto 15 i145_11 rfl rfl ?_
      refine X.cut [] i145_15 rfl ?_
      refine X.retz i145_15 rfl t145 (by omega) ?_
      show X (EE s) d 144 4 [(0, zr 4 40), (1, zi a1), (2, zi a2)] [zi 1] m _
      refine X.ifeq 14 7 i144_4 rfl rfl rfl (fun h505 => (by exfalso; omega)) (fun h505 => ?_)
      refine X.iload_n 8 i144_7 rfl rfl rfl ?_
      refine X.calls 11 [zi a2] [] [(0, zi a2)] i144_8 (by decide) rfl rfl (by omega) rfl rfl t146 (Nat.le_of_ble_eq_true rfl) (Nat.le_of_ble_eq_true rfl) rfl ?_
      refine X.iload_n 1 i146_0 rfl rfl rfl ?_
      refine X.iconst 2 i146_1 rfl rfl (by decide) ?_
      refine X.icmpeq 12 5 i146_2 rfl rfl rfl (fun h506 => ?_) (fun h506 => ?_)
      · refine X.cut [] i146_12 rfl ?_
        refine X.iconst 13 i146_12 rfl rfl (by decide) ?_
        refine X.goto 17 i146_13 rfl rfl ?_
        refine X.retz i146_17 rfl t146 (by omega) ?_
        show X (EE s) d 144 11 [(0, zr 4 40), (1, zi a1), (2, zi a2)] [zi 1] m _
        refine X.ifne 18 14 i144_11 rfl rfl rfl (fun h507 => ?_) (fun h507 => (by exfalso; omega))
        refine X.aload_n 19 i144_18 rfl rfl rfl ?_
        refine X.getF 22 i144_19 rfl rfl (by decide) rfl rfl ?_
        refine X.getR 25 i144_22 rfl rfl (by decide) rfl rfl ?_
        refine X.iload_n 26 i144_25 rfl rfl rfl ?_
        refine X.iload_n 27 i144_26 rfl rfl rfl ?_
        refine X.callv 30 [zi a1, zi a2] [] [(0, zr 0 23), (1, zi a1), (2, zi a2)] i144_27 rfl (by decide) rfl rfl (by omega) rfl rfl (by decide) rfl t71 (Nat.le_of_ble_eq_true rfl) (Nat.le_of_ble_eq_true rfl) rfl ?_
        refine c71_2 (B := B) 0 a1 a2 (by omega) (hJ.up (by omega)) (by omega) (by omega) (by omega) (fun v510 hv510 hFv510 => ?_)
        show X (EE s) d 144 30 [(0, zr 4 40), (1, zi a1), (2, zi a2)] [zl v510] m _
        refine X.retl i144_30 rfl t144 ?_
        exact hQ v510 (by first | trivial | omega) (Eq.trans (if_neg h501) (Eq.trans (if_neg h503) (Eq.trans (if_pos h506) (Eq.trans (zn_eq hFv510.symm) rfl)))) 
      · refine X.iload_n 6 i146_5 rfl rfl rfl ?_
        refine X.calls 9 [zi a2] [] [(0, zi a2)] i146_6 (by decide) rfl rfl (by omega) rfl rfl t80 (Nat.le_of_ble_eq_true rfl) (Nat.le_of_ble_eq_true rfl) rfl ?_
        refine X.iload_n 1 i80_0 rfl rfl rfl ?_
        refine X.iflt 13 4 i80_1 rfl rfl rfl (fun h511 => ?_) (fun h511 => ?_)
        · refine X.cut [] i80_13 rfl ?_
          refine X.iconst 14 i80_13 rfl rfl (by decide) ?_
          refine X.retz i80_14 rfl t80 (by omega) ?_
          show X (EE s) (d - 1) 146 9 [(0, zi a2)] [zi 0] m _
          refine X.ifeq 16 12 i146_9 rfl rfl rfl (fun h512 => ?_) (fun h512 => (by exfalso; omega))
          refine X.cut [] i146_16 rfl ?_
          refine X.iconst 17 i146_16 rfl rfl (by decide) ?_
          refine X.retz i146_17 rfl t146 (by omega) ?_
          show X (EE s) d 144 11 [(0, zr 4 40), (1, zi a1), (2, zi a2)] [zi 0] m _
          refine X.ifne 18 14 i144_11 rfl rfl rfl (fun h513 => (by exfalso; omega)) (fun h513 => ?_)
          refine X.cut [] i144_14 rfl ?_
          refine X.ldc2 17 i144_14 rfl rfl (by decide) ?_
          refine X.retl i144_17 rfl t144 ?_
          exact hQ (-1) (by first | trivial | omega) (Eq.trans (if_neg h501) (Eq.trans (if_neg h503) (Eq.trans (if_neg h506) (Eq.trans (if_pos h511) rfl)))) 
        · refine X.iload_n 5 i80_4 rfl rfl rfl ?_
          refine X.iconst 6 i80_5 rfl rfl (by decide) ?_
          refine X.icmpge 13 9 i80_6 rfl rfl rfl (fun h514 => ?_) (fun h514 => ?_)
          · refine X.cut [] i80_13 rfl ?_
            refine X.iconst 14 i80_13 rfl rfl (by decide) ?_
            refine X.retz i80_14 rfl t80 (by omega) ?_
            show X (EE s) (d - 1) 146 9 [(0, zi a2)] [zi 0] m _
            refine X.ifeq 16 12 i146_9 rfl rfl rfl (fun h515 => ?_) (fun h515 => (by exfalso; omega))
            refine X.cut [] i146_16 rfl ?_
            refine X.iconst 17 i146_16 rfl rfl (by decide) ?_
            refine X.retz i146_17 rfl t146 (by omega) ?_
            show X (EE s) d 144 11 [(0, zr 4 40), (1, zi a1), (2, zi a2)] [zi 0] m _
            refine X.ifne 18 14 i144_11 rfl rfl rfl (fun h516 => (by exfalso; omega)) (fun h516 => ?_)
            refine X.cut [] i144_14 rfl ?_
            refine X.ldc2 17 i144_14 rfl rfl (by decide) ?_
            refine X.retl i144_17 rfl t144 ?_
            exact hQ (-1) (by first | trivial | omega) (Eq.trans (if_neg h501) (Eq.trans (if_neg h503) (Eq.trans (if_neg h506) (Eq.trans (if_neg h511) (Eq.trans (if_pos h514) rfl))))) 
          · refine X.iconst 10 i80_9 rfl rfl (by decide) ?_
            refine X.goto 14 i80_10 rfl rfl ?_
            refine X.cut [] i80_14 rfl ?_
            refine X.retz i80_14 rfl t80 (by omega) ?_
            show X (EE s) (d - 1) 146 9 [(0, zi a2)] [zi 1] m _
            refine X.ifeq 16 12 i146_9 rfl rfl rfl (fun h517 => (by exfalso; omega)) (fun h517 => ?_)
            refine X.cut [] i146_12 rfl ?_
            refine X.iconst 13 i146_12 rfl rfl (by decide) ?_
            refine X.goto 17 i146_13 rfl rfl ?_
            refine X.retz i146_17 rfl t146 (by omega) ?_
            show X (EE s) d 144 11 [(0, zr 4 40), (1, zi a1), (2, zi a2)] [zi 1] m _
            refine X.ifne 18 14 i144_11 rfl rfl rfl (fun h518 => ?_) (fun h518 => (by exfalso; omega))
            refine X.aload_n 19 i144_18 rfl rfl rfl ?_
            refine X.getF 22 i144_19 rfl rfl (by decide) rfl rfl ?_
            refine X.getR 25 i144_22 rfl rfl (by decide) rfl rfl ?_
            refine X.iload_n 26 i144_25 rfl rfl rfl ?_
            refine X.iload_n 27 i144_26 rfl rfl rfl ?_
            refine X.callv 30 [zi a1, zi a2] [] [(0, zr 0 23), (1, zi a1), (2, zi a2)] i144_27 rfl (by decide) rfl rfl (by omega) rfl rfl (by decide) rfl t71 (Nat.le_of_ble_eq_true rfl) (Nat.le_of_ble_eq_true rfl) rfl ?_
            refine c71_3 (B := B) 0 a1 a2 (by omega) (hJ.up (by omega)) (by omega) (by omega) (by omega) (fun v521 hv521 hFv521 => ?_)
            show X (EE s) d 144 30 [(0, zr 4 40), (1, zi a1), (2, zi a2)] [zl v521] m _
            refine X.retl i144_30 rfl t144 ?_
            exact hQ v521 (by first | trivial | omega) (Eq.trans (if_neg h501) (Eq.trans (if_neg h503) (Eq.trans (if_neg h506) (Eq.trans (if_neg h511) (Eq.trans (if_neg h514) (Eq.trans (zn_eq hFv521.symm) rfl)))))) 
-- WorkMeterModel.rawAt
noncomputable def f291_1 (a0 a1 : Int) (m : zM) : Int :=
  zn (if a1 = (-1) then
  (4)
  else
  (a1)) fun v502 =>
  ((5 * a0) + v502)
-- WorkMeterModel.rawAt
theorem c291_1 {s : Nat × (Nat → Int32)} {S : zS} {m0 m : zM} {B : Int} {d : Nat} {Q : Option zV → zM → Prop} (a0 a1 : Int) (hd : 13 ≤ d) (hJ : J S m0 B m) (hB : B + 0 ≤ 1000000000) (ha0 : 0 ≤ a0 ∧ a0 ≤ 6) (ha1 : (-1) ≤ a1 ∧ a1 ≤ 3) (hQ : ∀ (v : Int), (0 ≤ v ∧ v ≤ 34) → f291_1 a0 a1 m = v → Q (some (zi v)) m) : X (EE s) d 291 0 [(0, zi a0), (1, zi a1)] [] m Q := by
  refine X.iconst 1 i291_0 rfl rfl (by decide) ?_
  refine X.iload_n 2 i291_1 rfl rfl rfl ?_
  refine X.imul 3 i291_2 rfl rfl (by omega) ?_
  refine X.iload_n 4 i291_3 rfl rfl rfl ?_
  refine X.iconst 5 i291_4 rfl rfl (by decide) ?_
  have hK505 : ∀ (v : Int) , (0 ≤ v ∧ v ≤ 4) → (if a1 = (-1) then
      (4)
      else
      (a1)) = v → X (EE s) d 291 13 [] [zi v, zi (5 * a0)] m Q := by
    intro v502 hv502 hT506
    refine X.iadd 14 i291_13 rfl rfl (by omega) ?_
    refine X.reti i291_14 rfl t291 ?_
    exact hQ ((5 * a0) + v502) (by first | trivial | omega) (Eq.trans (zn_eq hT506.symm) rfl) 
  refine X.icmpne 12 8 i291_5 rfl rfl rfl (fun h501 => ?_) (fun h501 => ?_)
  · refine X.cut [(1, zi a1)] i291_12 rfl ?_
    refine X.iload_n 13 i291_12 rfl rfl rfl ?_
    refine X.cut [] i291_13 rfl ?_
    exact hK505 a1 (by first | trivial | omega) (Eq.trans (if_neg h501) rfl)
  · refine X.iconst 9 i291_8 rfl rfl (by decide) ?_
    refine X.goto 13 i291_9 rfl rfl ?_
    refine X.cut [] i291_13 rfl ?_
    exact hK505 4 (by first | trivial | omega) (Eq.trans (if_pos h501) rfl)
-- WorkMeterModel.raw
noncomputable def f295_1 (a1 a2 : Int) (m : zM) : Int :=
  if a1 < 0 then
  ((-1))
  else
  (if a1 ≤ 6 then
  (if a2 = (-1) then
  (zn (f291_1 a1 a2 m) fun v514 =>
  (m 4 45 (60 + v514)))
  else
  (if a2 < 0 then
  ((-1))
  else
  (if a2 ≤ 3 then
  (zn (f291_1 a1 a2 m) fun v527 =>
  (m 4 45 (60 + v527)))
  else
  ((-1)))))
  else
  ((-1)))
-- WorkMeterModel.raw
theorem c295_1 {s : Nat × (Nat → Int32)} {S : zS} {m0 m : zM} {B : Int} {d : Nat} {Q : Option zV → zM → Prop} (a1 a2 : Int) (hd : 14 ≤ d) (hJ : J S m0 B m) (hB : B + 0 ≤ 1000000000) (ha1 : (-2147483648) ≤ a1 ∧ a1 ≤ 2147483647) (ha2 : (-2147483648) ≤ a2 ∧ a2 ≤ 2147483647) (hQ : ∀ (v : Int), (True) → f295_1 a1 a2 m = v → Q (some (zl v)) m) : X (EE s) d 295 0 [(0, zr 4 44), (1, zi a1), (2, zi a2)] [] m Q := by
  refine X.iload_n 1 i295_0 rfl rfl rfl ?_
  refine X.iload_n 2 i295_1 rfl rfl rfl ?_
  refine X.calls 5 [zi a1, zi a2] [] [(0, zi a1), (1, zi a2)] i295_2 (by decide) rfl rfl (by omega) rfl rfl t290 (Nat.le_of_ble_eq_true rfl) (Nat.le_of_ble_eq_true rfl) rfl ?_
  refine X.iload_n 1 i290_0 rfl rfl rfl ?_
  refine X.i2l 2 i290_1 rfl rfl ?_
  refine X.lconst (y := 0) 3 i290_2 rfl rfl rfl ?_
  refine X.ldc2 6 i290_3 rfl rfl (by decide) ?_
  refine X.calls 9 [zl a1, zl 0, zl 6] [] [(0, zl a1), (2, zl 0), (4, zl 6)] i290_6 (by decide) rfl rfl (by omega) rfl rfl t204 (Nat.le_of_ble_eq_true rfl) (Nat.le_of_ble_eq_true rfl) rfl ?_
  refine X.lload_n 1 i204_0 rfl rfl rfl ?_
  refine X.lload_n 2 i204_1 rfl rfl rfl ?_
  refine X.lcmp 3 i204_2 rfl rfl (fun z501 hz501 => ?_)
  refine X.iflt 17 6 i204_3 rfl rfl rfl (fun h502 => ?_) (fun h502 => ?_)
  · have h502c : a1 < 0 := by omega
    clear h502 hz501
    refine X.cut [] i204_17 rfl ?_
    refine X.iconst 18 i204_17 rfl rfl (by decide) ?_
    refine X.retz i204_18 rfl t204 (by omega) ?_
    show X (EE s) (d - 1) 290 9 [(0, zi a1), (1, zi a2)] [zi 0] m _
    refine X.ifeq 28 12 i290_9 rfl rfl rfl (fun h503 => ?_) (fun h503 => (by exfalso; omega))
    refine X.cut [] i290_28 rfl ?_
    refine X.iconst 29 i290_28 rfl rfl (by decide) ?_
    refine X.retz i290_29 rfl t290 (by omega) ?_
    show X (EE s) d 295 5 [(0, zr 4 44), (1, zi a1), (2, zi a2)] [zi 0] m _
    refine X.ifeq 24 8 i295_5 rfl rfl rfl (fun h504 => ?_) (fun h504 => (by exfalso; omega))
    refine X.cut [] i295_24 rfl ?_
    refine X.ldc2 27 i295_24 rfl rfl (by decide) ?_
    refine X.retl i295_27 rfl t295 ?_
    exact hQ (-1) (by first | trivial | omega) (Eq.trans (if_pos h502c) rfl) 
  · have h502c : ¬ a1 < 0 := by omega
    clear h502 hz501
    refine X.lload_n 7 i204_6 rfl rfl rfl ?_
    refine X.lload 9 i204_7 rfl rfl rfl ?_
    refine X.lcmp 10 i204_9 rfl rfl (fun z505 hz505 => ?_)
    refine X.ifgt 17 13 i204_10 rfl rfl rfl (fun h506 => ?_) (fun h506 => ?_)
    · have h506c : ¬ a1 ≤ 6 := by omega
      clear h506 hz505
      refine X.cut [] i204_17 rfl ?_
      refine X.iconst 18 i204_17 rfl rfl (by decide) ?_
      refine X.retz i204_18 rfl t204 (by omega) ?_
      show X (EE s) (d - 1) 290 9 [(0, zi a1), (1, zi a2)] [zi 0] m _
      refine X.ifeq 28 12 i290_9 rfl rfl rfl (fun h507 => ?_) (fun h507 => (by exfalso; omega))
      refine X.cut [] i290_28 rfl ?_
      refine X.iconst 29 i290_28 rfl rfl (by decide) ?_
      refine X.retz i290_29 rfl t290 (by omega) ?_
      show X (EE s) d 295 5 [(0, zr 4 44), (1, zi a1), (2, zi a2)] [zi 0] m _
      refine X.ifeq 24 8 i295_5 rfl rfl rfl (fun h508 => ?_) (fun h508 => (by exfalso; omega))
      refine X.cut [] i295_24 rfl ?_
      refine X.ldc2 27 i295_24 rfl rfl (by decide) ?_
      refine X.retl i295_27 rfl t295 ?_
      exact hQ (-1) (by first | trivial | omega) (Eq.trans (if_neg h502c) (Eq.trans (if_neg h506c) rfl)) 
    · have h506c : a1 ≤ 6 := by omega
      clear h506 hz505
      refine X.iconst 14 i204_13 rfl rfl (by decide) ?_
      refine X.goto 18 i204_14 rfl rfl ?_
      refine X.cut [] i204_18 rfl ?_
      refine X.retz i204_18 rfl t204 (by omega) ?_
      show X (EE s) (d - 1) 290 9 [(0, zi a1), (1, zi a2)] [zi 1] m _
      refine X.ifeq 28 12 i290_9 rfl rfl rfl (fun h509 => (by exfalso; omega)) (fun h509 => ?_)
      refine X.iload_n 13 i290_12 rfl rfl rfl ?_
      refine X.iconst 14 i290_13 rfl rfl (by decide) ?_
      refine X.icmpeq 24 17 i290_14 rfl rfl rfl (fun h510 => ?_) (fun h510 => ?_)
      · refine X.cut [] i290_24 rfl ?_
        refine X.iconst 25 i290_24 rfl rfl (by decide) ?_
        refine X.goto 29 i290_25 rfl rfl ?_
        refine X.retz i290_29 rfl t290 (by omega) ?_
        show X (EE s) d 295 5 [(0, zr 4 44), (1, zi a1), (2, zi a2)] [zi 1] m _
        refine X.ifeq 24 8 i295_5 rfl rfl rfl (fun h511 => (by exfalso; omega)) (fun h511 => ?_)
        refine X.aload_n 9 i295_8 rfl rfl rfl ?_
        refine X.getF 12 i295_9 rfl rfl (by decide) rfl rfl ?_
        refine X.bipush 14 i295_12 rfl rfl (by decide) ?_
        refine X.iload_n 15 i295_14 rfl rfl rfl ?_
        refine X.iload_n 16 i295_15 rfl rfl rfl ?_
        refine X.calls 19 [zi a1, zi a2] [zi 60, zr 4 45] [(0, zi a1), (1, zi a2)] i295_16 (by decide) rfl rfl (by omega) rfl rfl t291 (Nat.le_of_ble_eq_true rfl) (Nat.le_of_ble_eq_true rfl) rfl ?_
        refine c291_1 (B := B)  a1 a2 (by omega) (hJ.up (by omega)) (by omega) (by omega) (by omega) (fun v514 hv514 hFv514 => ?_)
        show X (EE s) d 295 19 [(0, zr 4 44), (1, zi a1), (2, zi a2)] [zi v514, zi 60, zr 4 45] m _
        refine X.iadd 20 i295_19 rfl rfl (by omega) ?_
        refine X.lald 21 i295_20 rfl rfl (by decide) rfl (by omega) ?_
        refine X.goto 27 i295_21 rfl rfl ?_
        refine X.cut [] i295_27 rfl ?_
        refine X.retl i295_27 rfl t295 ?_
        exact hQ (m 4 45 (60 + v514)) (by first | trivial | omega) (Eq.trans (if_neg h502c) (Eq.trans (if_pos h506c) (Eq.trans (if_pos h510) (Eq.trans (zn_eq hFv514.symm) rfl)))) 
      · refine X.iload_n 18 i290_17 rfl rfl rfl ?_
        refine X.calls 21 [zi a2] [] [(0, zi a2)] i290_18 (by decide) rfl rfl (by omega) rfl rfl t242 (Nat.le_of_ble_eq_true rfl) (Nat.le_of_ble_eq_true rfl) rfl ?_
        refine X.iload_n 1 i242_0 rfl rfl rfl ?_
        refine X.i2l 2 i242_1 rfl rfl ?_
        refine X.lconst (y := 0) 3 i242_2 rfl rfl rfl ?_
        refine X.ldc2 6 i242_3 rfl rfl (by decide) ?_
        refine X.calls 9 [zl a2, zl 0, zl 3] [] [(0, zl a2), (2, zl 0), (4, zl 3)] i242_6 (by decide) rfl rfl (by omega) rfl rfl t204 (Nat.le_of_ble_eq_true rfl) (Nat.le_of_ble_eq_true rfl) rfl ?_
        refine X.lload_n 1 i204_0 rfl rfl rfl ?_
        refine X.lload_n 2 i204_1 rfl rfl rfl ?_
        refine X.lcmp 3 i204_2 rfl rfl (fun z515 hz515 => ?_)
        refine X.iflt 17 6 i204_3 rfl rfl rfl (fun h516 => ?_) (fun h516 => ?_)
        · have h516c : a2 < 0 := by omega
          clear h516 hz515
          refine X.cut [] i204_17 rfl ?_
          refine X.iconst 18 i204_17 rfl rfl (by decide) ?_
          refine X.retz i204_18 rfl t204 (by omega) ?_
          show X (EE s) ((d - 1) - 1) 242 9 [(0, zi a2)] [zi 0] m _
          refine X.retz i242_9 rfl t242 (by omega) ?_
          show X (EE s) (d - 1) 290 21 [(0, zi a1), (1, zi a2)] [zi 0] m _
          refine X.ifeq 28 24 i290_21 rfl rfl rfl (fun h517 => ?_) (fun h517 => (by exfalso; omega))
          refine X.cut [] i290_28 rfl ?_
          refine X.iconst 29 i290_28 rfl rfl (by decide) ?_
          refine X.retz i290_29 rfl t290 (by omega) ?_
          show X (EE s) d 295 5 [(0, zr 4 44), (1, zi a1), (2, zi a2)] [zi 0] m _
          refine X.ifeq 24 8 i295_5 rfl rfl rfl (fun h518 => ?_) (fun h518 => (by exfalso; omega))
          refine X.cut [] i295_24 rfl ?_
          refine X.ldc2 27 i295_24 rfl rfl (by decide) ?_
          refine X.retl i295_27 rfl t295 ?_
          exact hQ (-1) (by first | trivial | omega) (Eq.trans (if_neg h502c) (Eq.trans (if_pos h506c) (Eq.trans (if_neg h510) (Eq.trans (if_pos h516c) rfl)))) 
        · have h516c : ¬ a2 < 0 := by omega
          clear h516 hz515
          refine X.lload_n 7 i204_6 rfl rfl rfl ?_
          refine X.lload 9 i204_7 rfl rfl rfl ?_
          refine X.lcmp 10 i204_9 rfl rfl (fun z519 hz519 => ?_)
          refine X.ifgt 17 13 i204_10 rfl rfl rfl (fun h520 => ?_) (fun h520 => ?_)
          · have h520c : ¬ a2 ≤ 3 := by omega
            clear h520 hz519
            refine X.cut [] i204_17 rfl ?_
            refine X.iconst 18 i204_17 rfl rfl (by decide) ?_
            refine X.retz i204_18 rfl t204 (by omega) ?_
            show X (EE s) ((d - 1) - 1) 242 9 [(0, zi a2)] [zi 0] m _
            refine X.retz i242_9 rfl t242 (by omega) ?_
            show X (EE s) (d - 1) 290 21 [(0, zi a1), (1, zi a2)] [zi 0] m _
            refine X.ifeq 28 24 i290_21 rfl rfl rfl (fun h521 => ?_) (fun h521 => (by exfalso; omega))
            refine X.cut [] i290_28 rfl ?_
            refine X.iconst 29 i290_28 rfl rfl (by decide) ?_
            refine X.retz i290_29 rfl t290 (by omega) ?_
            show X (EE s) d 295 5 [(0, zr 4 44), (1, zi a1), (2, zi a2)] [zi 0] m _
            refine X.ifeq 24 8 i295_5 rfl rfl rfl (fun h522 => ?_) (fun h522 => (by exfalso; omega))
            refine X.cut [] i295_24 rfl ?_
            refine X.ldc2 27 i295_24 rfl rfl (by decide) ?_
            refine X.retl i295_27 rfl t295 ?_
            exact hQ (-1) (by first | trivial | omega) (Eq.trans (if_neg h502c) (Eq.trans (if_pos h506c) (Eq.trans (if_neg h510) (Eq.trans (if_neg h516c) (Eq.trans (if_neg h520c) rfl))))) 
          · have h520c : a2 ≤ 3 := by omega
            clear h520 hz519
            refine X.iconst 14 i204_13 rfl rfl (by decide) ?_
            refine X.goto 18 i204_14 rfl rfl ?_
            refine X.cut [] i204_18 rfl ?_
            refine X.retz i204_18 rfl t204 (by omega) ?_
            show X (EE s) ((d - 1) - 1) 242 9 [(0, zi a2)] [zi 1] m _
            refine X.retz i242_9 rfl t242 (by omega) ?_
            show X (EE s) (d - 1) 290 21 [(0, zi a1), (1, zi a2)] [zi 1] m _
            refine X.ifeq 28 24 i290_21 rfl rfl rfl (fun h523 => (by exfalso; omega)) (fun h523 => ?_)
            refine X.cut [] i290_24 rfl ?_
            refine X.iconst 25 i290_24 rfl rfl (by decide) ?_
            refine X.goto 29 i290_25 rfl rfl ?_
            refine X.retz i290_29 rfl t290 (by omega) ?_
            show X (EE s) d 295 5 [(0, zr 4 44), (1, zi a1), (2, zi a2)] [zi 1] m _
            refine X.ifeq 24 8 i295_5 rfl rfl rfl (fun h524 => (by exfalso; omega)) (fun h524 => ?_)
            refine X.aload_n 9 i295_8 rfl rfl rfl ?_
            refine X.getF 12 i295_9 rfl rfl (by decide) rfl rfl ?_
            refine X.bipush 14 i295_12 rfl rfl (by decide) ?_
            refine X.iload_n 15 i295_14 rfl rfl rfl ?_
            refine X.iload_n 16 i295_15 rfl rfl rfl ?_
            refine X.calls 19 [zi a1, zi a2] [zi 60, zr 4 45] [(0, zi a1), (1, zi a2)] i295_16 (by decide) rfl rfl (by omega) rfl rfl t291 (Nat.le_of_ble_eq_true rfl) (Nat.le_of_ble_eq_true rfl) rfl ?_
            refine c291_1 (B := B)  a1 a2 (by omega) (hJ.up (by omega)) (by omega) (by omega) (by omega) (fun v527 hv527 hFv527 => ?_)
            show X (EE s) d 295 19 [(0, zr 4 44), (1, zi a1), (2, zi a2)] [zi v527, zi 60, zr 4 45] m _
            refine X.iadd 20 i295_19 rfl rfl (by omega) ?_
            refine X.lald 21 i295_20 rfl rfl (by decide) rfl (by omega) ?_
            refine X.goto 27 i295_21 rfl rfl ?_
            refine X.cut [] i295_27 rfl ?_
            refine X.retl i295_27 rfl t295 ?_
            exact hQ (m 4 45 (60 + v527)) (by first | trivial | omega) (Eq.trans (if_neg h502c) (Eq.trans (if_pos h506c) (Eq.trans (if_neg h510) (Eq.trans (if_neg h516c) (Eq.trans (if_pos h520c) (Eq.trans (zn_eq hFv527.symm) rfl)))))) 
-- WorkMeter.reading
noncomputable def f147_1 (a1 a2 : Int) (m : zM) : Int :=
  if a1 < 0 then
  ((-1))
  else
  (if 7 ≤ a1 then
  ((-1))
  else
  (if a2 = (-1) then
  (zn (f71_1 0 a1 a2 m) fun v510 =>
  zn (w64 ((v510).tdiv (max 1 (m 0 10 1)))) fun z512 =>
  z512)
  else
  (if a2 < 0 then
  ((-1))
  else
  (if 4 ≤ a2 then
  ((-1))
  else
  (zn (f71_1 0 a1 a2 m) fun v523 =>
  zn (w64 ((v523).tdiv (max 1 (m 0 10 1)))) fun z525 =>
  z525)))))
-- WorkMeter.reading
theorem c147_1 {s : Nat × (Nat → Int32)} {S : zS} {m0 m : zM} {B : Int} {d : Nat} {Q : Option zV → zM → Prop} (a1 a2 : Int) (hd : 15 ≤ d) (hJ : J S m0 B m) (hB : B + 0 ≤ 1000000000) (ha1 : (-2147483648) ≤ a1 ∧ a1 ≤ 2147483647) (ha2 : (-2147483648) ≤ a2 ∧ a2 ≤ 2147483647) (hQ : ∀ (v : Int), (True) → f147_1 a1 a2 m = v → Q (some (zl v)) m) : X (EE s) d 147 0 [(0, zr 4 40), (1, zi a1), (2, zi a2)] [] m Q := by
  refine X.iload_n 1 i147_0 rfl rfl rfl ?_
  refine X.calls 4 [zi a1] [] [(0, zi a1)] i147_1 (by decide) rfl rfl (by omega) rfl rfl t145 (Nat.le_of_ble_eq_true rfl) (Nat.le_of_ble_eq_true rfl) rfl ?_
  refine X.iload_n 1 i145_0 rfl rfl rfl ?_
  refine X.iflt 14 4 i145_1 rfl rfl rfl (fun h501 => ?_) (fun h501 => ?_)
  · refine X.cut [] i145_14 rfl ?_
    refine X.iconst 15 i145_14 rfl rfl (by decide) ?_
    refine X.retz i145_15 rfl t145 (by omega) ?_
    show X (EE s) d 147 4 [(0, zr 4 40), (1, zi a1), (2, zi a2)] [zi 0] m _
    refine X.ifeq 14 7 i147_4 rfl rfl rfl (fun h502 => ?_) (fun h502 => (by exfalso; omega))
    refine X.cut [] i147_14 rfl ?_
    refine X.ldc2 17 i147_14 rfl rfl (by decide) ?_
    refine X.retl i147_17 rfl t147 ?_
    exact hQ (-1) (by first | trivial | omega) (Eq.trans (if_pos h501) rfl) 
  · refine X.iload_n 5 i145_4 rfl rfl rfl ?_
    refine X.bipush 7 i145_5 rfl rfl (by decide) ?_
    refine X.icmpge 14 10 i145_7 rfl rfl rfl (fun h503 => ?_) (fun h503 => ?_)
    · refine X.cut [] i145_14 rfl ?_
      refine X.iconst 15 i145_14 rfl rfl (by decide) ?_
      refine X.retz i145_15 rfl t145 (by omega) ?_
      show X (EE s) d 147 4 [(0, zr 4 40), (1, zi a1), (2, zi a2)] [zi 0] m _
      refine X.ifeq 14 7 i147_4 rfl rfl rfl (fun h504 => ?_) (fun h504 => (by exfalso; omega))
      refine X.cut [] i147_14 rfl ?_
      refine X.ldc2 17 i147_14 rfl rfl (by decide) ?_
      refine X.retl i147_17 rfl t147 ?_
      exact hQ (-1) (by first | trivial | omega) (Eq.trans (if_neg h501) (Eq.trans (if_pos h503) rfl)) 
    · refine X.iconst 11 i145_10 rfl rfl (by decide) ?_
      refine X.goto 15 i145_11 rfl rfl ?_
      refine X.cut [] i145_15 rfl ?_
      refine X.retz i145_15 rfl t145 (by omega) ?_
      show X (EE s) d 147 4 [(0, zr 4 40), (1, zi a1), (2, zi a2)] [zi 1] m _
      refine X.ifeq 14 7 i147_4 rfl rfl rfl (fun h505 => (by exfalso; omega)) (fun h505 => ?_)
      refine X.iload_n 8 i147_7 rfl rfl rfl ?_
      refine X.calls 11 [zi a2] [] [(0, zi a2)] i147_8 (by decide) rfl rfl (by omega) rfl rfl t146 (Nat.le_of_ble_eq_true rfl) (Nat.le_of_ble_eq_true rfl) rfl ?_
      refine X.iload_n 1 i146_0 rfl rfl rfl ?_
      refine X.iconst 2 i146_1 rfl rfl (by decide) ?_
      refine X.icmpeq 12 5 i146_2 rfl rfl rfl (fun h506 => ?_) (fun h506 => ?_)
      · refine X.cut [] i146_12 rfl ?_
        refine X.iconst 13 i146_12 rfl rfl (by decide) ?_
        refine X.goto 17 i146_13 rfl rfl ?_
        refine X.retz i146_17 rfl t146 (by omega) ?_
        show X (EE s) d 147 11 [(0, zr 4 40), (1, zi a1), (2, zi a2)] [zi 1] m _
        refine X.ifne 18 14 i147_11 rfl rfl rfl (fun h507 => ?_) (fun h507 => (by exfalso; omega))
        refine X.aload_n 19 i147_18 rfl rfl rfl ?_
        refine X.getF 22 i147_19 rfl rfl (by decide) rfl rfl ?_
        refine X.getR 25 i147_22 rfl rfl (by decide) rfl rfl ?_
        refine X.iload_n 26 i147_25 rfl rfl rfl ?_
        refine X.iload_n 27 i147_26 rfl rfl rfl ?_
        refine X.callv 30 [zi a1, zi a2] [] [(0, zr 0 23), (1, zi a1), (2, zi a2)] i147_27 rfl (by decide) rfl rfl (by omega) rfl rfl (by decide) rfl t71 (Nat.le_of_ble_eq_true rfl) (Nat.le_of_ble_eq_true rfl) rfl ?_
        refine c71_2 (B := B) 0 a1 a2 (by omega) (hJ.up (by omega)) (by omega) (by omega) (by omega) (fun v510 hv510 hFv510 => ?_)
        show X (EE s) d 147 30 [(0, zr 4 40), (1, zi a1), (2, zi a2)] [zl v510] m _
        refine X.aload_n 31 i147_30 rfl rfl rfl ?_
        refine X.getF 34 i147_31 rfl rfl (by decide) rfl rfl ?_
        refine X.getR 37 i147_34 rfl rfl (by decide) rfl rfl ?_
        refine X.callv 40 [] [zl v510] [(0, zr 0 9)] i147_37 rfl (by decide) rfl rfl (by omega) rfl rfl (by decide) rfl t48 (Nat.le_of_ble_eq_true rfl) (Nat.le_of_ble_eq_true rfl) rfl ?_
        refine X.iconst 1 i48_0 rfl rfl (by decide) ?_
        refine X.aload_n 2 i48_1 rfl rfl rfl ?_
        refine X.getR 5 i48_2 rfl rfl (by decide) rfl rfl ?_
        refine X.iconst 6 i48_5 rfl rfl (by decide) ?_
        refine X.iald 7 i48_6 rfl rfl (by decide) rfl (by omega) ?_
        have h511 := r10_0 hJ 0 (i := 1) (by omega)
        refine X.maxI 10 i48_7 rfl rfl (by omega) (Nat.le_of_ble_eq_true rfl) ?_
        refine X.reti i48_10 rfl t48 ?_
        show X (EE s) d 147 40 [(0, zr 4 40), (1, zi a1), (2, zi a2)] [zi (max 1 (m 0 10 1)), zl v510] m _
        refine X.i2l 41 i147_40 rfl rfl ?_
        refine X.ldivW 42 i147_41 rfl rfl (by omega) (fun z512 ez512 hz512 => ?_)
        refine X.retl i147_42 rfl t147 ?_
        exact hQ z512 (by first | trivial | omega) (Eq.trans (if_neg h501) (Eq.trans (if_neg h503) (Eq.trans (if_pos h506) (Eq.trans (zn_eq hFv510.symm) (Eq.trans (zn_eq ez512) rfl))))) 
      · refine X.iload_n 6 i146_5 rfl rfl rfl ?_
        refine X.calls 9 [zi a2] [] [(0, zi a2)] i146_6 (by decide) rfl rfl (by omega) rfl rfl t80 (Nat.le_of_ble_eq_true rfl) (Nat.le_of_ble_eq_true rfl) rfl ?_
        refine X.iload_n 1 i80_0 rfl rfl rfl ?_
        refine X.iflt 13 4 i80_1 rfl rfl rfl (fun h513 => ?_) (fun h513 => ?_)
        · refine X.cut [] i80_13 rfl ?_
          refine X.iconst 14 i80_13 rfl rfl (by decide) ?_
          refine X.retz i80_14 rfl t80 (by omega) ?_
          show X (EE s) (d - 1) 146 9 [(0, zi a2)] [zi 0] m _
          refine X.ifeq 16 12 i146_9 rfl rfl rfl (fun h514 => ?_) (fun h514 => (by exfalso; omega))
          refine X.cut [] i146_16 rfl ?_
          refine X.iconst 17 i146_16 rfl rfl (by decide) ?_
          refine X.retz i146_17 rfl t146 (by omega) ?_
          show X (EE s) d 147 11 [(0, zr 4 40), (1, zi a1), (2, zi a2)] [zi 0] m _
          refine X.ifne 18 14 i147_11 rfl rfl rfl (fun h515 => (by exfalso; omega)) (fun h515 => ?_)
          refine X.cut [] i147_14 rfl ?_
          refine X.ldc2 17 i147_14 rfl rfl (by decide) ?_
          refine X.retl i147_17 rfl t147 ?_
          exact hQ (-1) (by first | trivial | omega) (Eq.trans (if_neg h501) (Eq.trans (if_neg h503) (Eq.trans (if_neg h506) (Eq.trans (if_pos h513) rfl)))) 
        · refine X.iload_n 5 i80_4 rfl rfl rfl ?_
          refine X.iconst 6 i80_5 rfl rfl (by decide) ?_
          refine X.icmpge 13 9 i80_6 rfl rfl rfl (fun h516 => ?_) (fun h516 => ?_)
          · refine X.cut [] i80_13 rfl ?_
            refine X.iconst 14 i80_13 rfl rfl (by decide) ?_
            refine X.retz i80_14 rfl t80 (by omega) ?_
            show X (EE s) (d - 1) 146 9 [(0, zi a2)] [zi 0] m _
            refine X.ifeq 16 12 i146_9 rfl rfl rfl (fun h517 => ?_) (fun h517 => (by exfalso; omega))
            refine X.cut [] i146_16 rfl ?_
            refine X.iconst 17 i146_16 rfl rfl (by decide) ?_
            refine X.retz i146_17 rfl t146 (by omega) ?_
            show X (EE s) d 147 11 [(0, zr 4 40), (1, zi a1), (2, zi a2)] [zi 0] m _
            refine X.ifne 18 14 i147_11 rfl rfl rfl (fun h518 => (by exfalso; omega)) (fun h518 => ?_)
            refine X.cut [] i147_14 rfl ?_
            refine X.ldc2 17 i147_14 rfl rfl (by decide) ?_
            refine X.retl i147_17 rfl t147 ?_
            exact hQ (-1) (by first | trivial | omega) (Eq.trans (if_neg h501) (Eq.trans (if_neg h503) (Eq.trans (if_neg h506) (Eq.trans (if_neg h513) (Eq.trans (if_pos h516) rfl))))) 
          · refine X.iconst 10 i80_9 rfl rfl (by decide) ?_
            refine X.goto 14 i80_10 rfl rfl ?_
            refine X.cut [] i80_14 rfl ?_
            refine X.retz i80_14 rfl t80 (by omega) ?_
            show X (EE s) (d - 1) 146 9 [(0, zi a2)] [zi 1] m _
            refine X.ifeq 16 12 i146_9 rfl rfl rfl (fun h519 => (by exfalso; omega)) (fun h519 => ?_)
            refine X.cut [] i146_12 rfl ?_
            refine X.iconst 13 i146_12 rfl rfl (by decide) ?_
            refine X.goto 17 i146_13 rfl rfl ?_
            refine X.retz i146_17 rfl t146 (by omega) ?_
            show X (EE s) d 147 11 [(0, zr 4 40), (1, zi a1), (2, zi a2)] [zi 1] m _
            refine X.ifne 18 14 i147_11 rfl rfl rfl (fun h520 => ?_) (fun h520 => (by exfalso; omega))
            refine X.aload_n 19 i147_18 rfl rfl rfl ?_
            refine X.getF 22 i147_19 rfl rfl (by decide) rfl rfl ?_
            refine X.getR 25 i147_22 rfl rfl (by decide) rfl rfl ?_
            refine X.iload_n 26 i147_25 rfl rfl rfl ?_
            refine X.iload_n 27 i147_26 rfl rfl rfl ?_
            refine X.callv 30 [zi a1, zi a2] [] [(0, zr 0 23), (1, zi a1), (2, zi a2)] i147_27 rfl (by decide) rfl rfl (by omega) rfl rfl (by decide) rfl t71 (Nat.le_of_ble_eq_true rfl) (Nat.le_of_ble_eq_true rfl) rfl ?_
            refine c71_3 (B := B) 0 a1 a2 (by omega) (hJ.up (by omega)) (by omega) (by omega) (by omega) (fun v523 hv523 hFv523 => ?_)
            show X (EE s) d 147 30 [(0, zr 4 40), (1, zi a1), (2, zi a2)] [zl v523] m _
            refine X.aload_n 31 i147_30 rfl rfl rfl ?_
            refine X.getF 34 i147_31 rfl rfl (by decide) rfl rfl ?_
            refine X.getR 37 i147_34 rfl rfl (by decide) rfl rfl ?_
            refine X.callv 40 [] [zl v523] [(0, zr 0 9)] i147_37 rfl (by decide) rfl rfl (by omega) rfl rfl (by decide) rfl t48 (Nat.le_of_ble_eq_true rfl) (Nat.le_of_ble_eq_true rfl) rfl ?_
            refine X.iconst 1 i48_0 rfl rfl (by decide) ?_
            refine X.aload_n 2 i48_1 rfl rfl rfl ?_
            refine X.getR 5 i48_2 rfl rfl (by decide) rfl rfl ?_
            refine X.iconst 6 i48_5 rfl rfl (by decide) ?_
            refine X.iald 7 i48_6 rfl rfl (by decide) rfl (by omega) ?_
            have h524 := r10_0 hJ 0 (i := 1) (by omega)
            refine X.maxI 10 i48_7 rfl rfl (by omega) (Nat.le_of_ble_eq_true rfl) ?_
            refine X.reti i48_10 rfl t48 ?_
            show X (EE s) d 147 40 [(0, zr 4 40), (1, zi a1), (2, zi a2)] [zi (max 1 (m 0 10 1)), zl v523] m _
            refine X.i2l 41 i147_40 rfl rfl ?_
            refine X.ldivW 42 i147_41 rfl rfl (by omega) (fun z525 ez525 hz525 => ?_)
            refine X.retl i147_42 rfl t147 ?_
            exact hQ z525 (by first | trivial | omega) (Eq.trans (if_neg h501) (Eq.trans (if_neg h503) (Eq.trans (if_neg h506) (Eq.trans (if_neg h513) (Eq.trans (if_neg h516) (Eq.trans (zn_eq hFv523.symm) (Eq.trans (zn_eq ez525) rfl))))))) 
-- WorkMeterModel.reading
noncomputable def f296_1 (a1 a2 : Int) (m : zM) : Int :=
  if a1 < 0 then
  ((-1))
  else
  (if a1 ≤ 6 then
  (if a2 = (-1) then
  (zn (f291_1 a1 a2 m) fun v514 =>
  zn (w64 (((m 4 45 (60 + v514))).tdiv (m 4 45 5))) fun z516 =>
  z516)
  else
  (if a2 < 0 then
  ((-1))
  else
  (if a2 ≤ 3 then
  (zn (f291_1 a1 a2 m) fun v529 =>
  zn (w64 (((m 4 45 (60 + v529))).tdiv (m 4 45 5))) fun z531 =>
  z531)
  else
  ((-1)))))
  else
  ((-1)))
-- WorkMeterModel.reading
theorem c296_1 {s : Nat × (Nat → Int32)} {S : zS} {m0 m : zM} {B : Int} {d : Nat} {Q : Option zV → zM → Prop} (a1 a2 : Int) (hd : 14 ≤ d) (hJ : J S m0 B m) (hB : B + 0 ≤ 1000000000) (ha1 : (-2147483648) ≤ a1 ∧ a1 ≤ 2147483647) (ha2 : (-2147483648) ≤ a2 ∧ a2 ≤ 2147483647) (hQ : ∀ (v : Int), (True) → f296_1 a1 a2 m = v → Q (some (zl v)) m) : X (EE s) d 296 0 [(0, zr 4 44), (1, zi a1), (2, zi a2)] [] m Q := by
  refine X.iload_n 1 i296_0 rfl rfl rfl ?_
  refine X.iload_n 2 i296_1 rfl rfl rfl ?_
  refine X.calls 5 [zi a1, zi a2] [] [(0, zi a1), (1, zi a2)] i296_2 (by decide) rfl rfl (by omega) rfl rfl t290 (Nat.le_of_ble_eq_true rfl) (Nat.le_of_ble_eq_true rfl) rfl ?_
  refine X.iload_n 1 i290_0 rfl rfl rfl ?_
  refine X.i2l 2 i290_1 rfl rfl ?_
  refine X.lconst (y := 0) 3 i290_2 rfl rfl rfl ?_
  refine X.ldc2 6 i290_3 rfl rfl (by decide) ?_
  refine X.calls 9 [zl a1, zl 0, zl 6] [] [(0, zl a1), (2, zl 0), (4, zl 6)] i290_6 (by decide) rfl rfl (by omega) rfl rfl t204 (Nat.le_of_ble_eq_true rfl) (Nat.le_of_ble_eq_true rfl) rfl ?_
  refine X.lload_n 1 i204_0 rfl rfl rfl ?_
  refine X.lload_n 2 i204_1 rfl rfl rfl ?_
  refine X.lcmp 3 i204_2 rfl rfl (fun z501 hz501 => ?_)
  refine X.iflt 17 6 i204_3 rfl rfl rfl (fun h502 => ?_) (fun h502 => ?_)
  · have h502c : a1 < 0 := by omega
    clear h502 hz501
    refine X.cut [] i204_17 rfl ?_
    refine X.iconst 18 i204_17 rfl rfl (by decide) ?_
    refine X.retz i204_18 rfl t204 (by omega) ?_
    show X (EE s) (d - 1) 290 9 [(0, zi a1), (1, zi a2)] [zi 0] m _
    refine X.ifeq 28 12 i290_9 rfl rfl rfl (fun h503 => ?_) (fun h503 => (by exfalso; omega))
    refine X.cut [] i290_28 rfl ?_
    refine X.iconst 29 i290_28 rfl rfl (by decide) ?_
    refine X.retz i290_29 rfl t290 (by omega) ?_
    show X (EE s) d 296 5 [(0, zr 4 44), (1, zi a1), (2, zi a2)] [zi 0] m _
    refine X.ifeq 31 8 i296_5 rfl rfl rfl (fun h504 => ?_) (fun h504 => (by exfalso; omega))
    refine X.cut [] i296_31 rfl ?_
    refine X.ldc2 34 i296_31 rfl rfl (by decide) ?_
    refine X.retl i296_34 rfl t296 ?_
    exact hQ (-1) (by first | trivial | omega) (Eq.trans (if_pos h502c) rfl) 
  · have h502c : ¬ a1 < 0 := by omega
    clear h502 hz501
    refine X.lload_n 7 i204_6 rfl rfl rfl ?_
    refine X.lload 9 i204_7 rfl rfl rfl ?_
    refine X.lcmp 10 i204_9 rfl rfl (fun z505 hz505 => ?_)
    refine X.ifgt 17 13 i204_10 rfl rfl rfl (fun h506 => ?_) (fun h506 => ?_)
    · have h506c : ¬ a1 ≤ 6 := by omega
      clear h506 hz505
      refine X.cut [] i204_17 rfl ?_
      refine X.iconst 18 i204_17 rfl rfl (by decide) ?_
      refine X.retz i204_18 rfl t204 (by omega) ?_
      show X (EE s) (d - 1) 290 9 [(0, zi a1), (1, zi a2)] [zi 0] m _
      refine X.ifeq 28 12 i290_9 rfl rfl rfl (fun h507 => ?_) (fun h507 => (by exfalso; omega))
      refine X.cut [] i290_28 rfl ?_
      refine X.iconst 29 i290_28 rfl rfl (by decide) ?_
      refine X.retz i290_29 rfl t290 (by omega) ?_
      show X (EE s) d 296 5 [(0, zr 4 44), (1, zi a1), (2, zi a2)] [zi 0] m _
      refine X.ifeq 31 8 i296_5 rfl rfl rfl (fun h508 => ?_) (fun h508 => (by exfalso; omega))
      refine X.cut [] i296_31 rfl ?_
      refine X.ldc2 34 i296_31 rfl rfl (by decide) ?_
      refine X.retl i296_34 rfl t296 ?_
      exact hQ (-1) (by first | trivial | omega) (Eq.trans (if_neg h502c) (Eq.trans (if_neg h506c) rfl)) 
    · have h506c : a1 ≤ 6 := by omega
      clear h506 hz505
      refine X.iconst 14 i204_13 rfl rfl (by decide) ?_
      refine X.goto 18 i204_14 rfl rfl ?_
      refine X.cut [] i204_18 rfl ?_
      refine X.retz i204_18 rfl t204 (by omega) ?_
      show X (EE s) (d - 1) 290 9 [(0, zi a1), (1, zi a2)] [zi 1] m _
      refine X.ifeq 28 12 i290_9 rfl rfl rfl (fun h509 => (by exfalso; omega)) (fun h509 => ?_)
      refine X.iload_n 13 i290_12 rfl rfl rfl ?_
      refine X.iconst 14 i290_13 rfl rfl (by decide) ?_
      refine X.icmpeq 24 17 i290_14 rfl rfl rfl (fun h510 => ?_) (fun h510 => ?_)
      · refine X.cut [] i290_24 rfl ?_
        refine X.iconst 25 i290_24 rfl rfl (by decide) ?_
        refine X.goto 29 i290_25 rfl rfl ?_
        refine X.retz i290_29 rfl t290 (by omega) ?_
        show X (EE s) d 296 5 [(0, zr 4 44), (1, zi a1), (2, zi a2)] [zi 1] m _
        refine X.ifeq 31 8 i296_5 rfl rfl rfl (fun h511 => (by exfalso; omega)) (fun h511 => ?_)
        refine X.aload_n 9 i296_8 rfl rfl rfl ?_
        refine X.getF 12 i296_9 rfl rfl (by decide) rfl rfl ?_
        refine X.bipush 14 i296_12 rfl rfl (by decide) ?_
        refine X.iload_n 15 i296_14 rfl rfl rfl ?_
        refine X.iload_n 16 i296_15 rfl rfl rfl ?_
        refine X.calls 19 [zi a1, zi a2] [zi 60, zr 4 45] [(0, zi a1), (1, zi a2)] i296_16 (by decide) rfl rfl (by omega) rfl rfl t291 (Nat.le_of_ble_eq_true rfl) (Nat.le_of_ble_eq_true rfl) rfl ?_
        refine c291_1 (B := B)  a1 a2 (by omega) (hJ.up (by omega)) (by omega) (by omega) (by omega) (fun v514 hv514 hFv514 => ?_)
        show X (EE s) d 296 19 [(0, zr 4 44), (1, zi a1), (2, zi a2)] [zi v514, zi 60, zr 4 45] m _
        refine X.iadd 20 i296_19 rfl rfl (by omega) ?_
        refine X.lald 21 i296_20 rfl rfl (by decide) rfl (by omega) ?_
        refine X.aload_n 22 i296_21 rfl rfl rfl ?_
        refine X.getF 25 i296_22 rfl rfl (by decide) rfl rfl ?_
        refine X.iconst 26 i296_25 rfl rfl (by decide) ?_
        refine X.lald 27 i296_26 rfl rfl (by decide) rfl (by omega) ?_
        have h515 := r45_5 hJ 4
        refine X.ldivW 28 i296_27 rfl rfl (by omega) (fun z516 ez516 hz516 => ?_)
        refine X.goto 34 i296_28 rfl rfl ?_
        refine X.cut [] i296_34 rfl ?_
        refine X.retl i296_34 rfl t296 ?_
        exact hQ z516 (by first | trivial | omega) (Eq.trans (if_neg h502c) (Eq.trans (if_pos h506c) (Eq.trans (if_pos h510) (Eq.trans (zn_eq hFv514.symm) (Eq.trans (zn_eq ez516) rfl))))) 
      · refine X.iload_n 18 i290_17 rfl rfl rfl ?_
        refine X.calls 21 [zi a2] [] [(0, zi a2)] i290_18 (by decide) rfl rfl (by omega) rfl rfl t242 (Nat.le_of_ble_eq_true rfl) (Nat.le_of_ble_eq_true rfl) rfl ?_
        refine X.iload_n 1 i242_0 rfl rfl rfl ?_
        refine X.i2l 2 i242_1 rfl rfl ?_
        refine X.lconst (y := 0) 3 i242_2 rfl rfl rfl ?_
        refine X.ldc2 6 i242_3 rfl rfl (by decide) ?_
        refine X.calls 9 [zl a2, zl 0, zl 3] [] [(0, zl a2), (2, zl 0), (4, zl 3)] i242_6 (by decide) rfl rfl (by omega) rfl rfl t204 (Nat.le_of_ble_eq_true rfl) (Nat.le_of_ble_eq_true rfl) rfl ?_
        refine X.lload_n 1 i204_0 rfl rfl rfl ?_
        refine X.lload_n 2 i204_1 rfl rfl rfl ?_
        refine X.lcmp 3 i204_2 rfl rfl (fun z517 hz517 => ?_)
        refine X.iflt 17 6 i204_3 rfl rfl rfl (fun h518 => ?_) (fun h518 => ?_)
        · have h518c : a2 < 0 := by omega
          clear h518 hz517
          refine X.cut [] i204_17 rfl ?_
          refine X.iconst 18 i204_17 rfl rfl (by decide) ?_
          refine X.retz i204_18 rfl t204 (by omega) ?_
          show X (EE s) ((d - 1) - 1) 242 9 [(0, zi a2)] [zi 0] m _
          refine X.retz i242_9 rfl t242 (by omega) ?_
          show X (EE s) (d - 1) 290 21 [(0, zi a1), (1, zi a2)] [zi 0] m _
          refine X.ifeq 28 24 i290_21 rfl rfl rfl (fun h519 => ?_) (fun h519 => (by exfalso; omega))
          refine X.cut [] i290_28 rfl ?_
          refine X.iconst 29 i290_28 rfl rfl (by decide) ?_
          refine X.retz i290_29 rfl t290 (by omega) ?_
          show X (EE s) d 296 5 [(0, zr 4 44), (1, zi a1), (2, zi a2)] [zi 0] m _
          refine X.ifeq 31 8 i296_5 rfl rfl rfl (fun h520 => ?_) (fun h520 => (by exfalso; omega))
          refine X.cut [] i296_31 rfl ?_
          refine X.ldc2 34 i296_31 rfl rfl (by decide) ?_
          refine X.retl i296_34 rfl t296 ?_
          exact hQ (-1) (by first | trivial | omega) (Eq.trans (if_neg h502c) (Eq.trans (if_pos h506c) (Eq.trans (if_neg h510) (Eq.trans (if_pos h518c) rfl)))) 
        · have h518c : ¬ a2 < 0 := by omega
          clear h518 hz517
          refine X.lload_n 7 i204_6 rfl rfl rfl ?_
          refine X.lload 9 i204_7 rfl rfl rfl ?_
          refine X.lcmp 10 i204_9 rfl rfl (fun z521 hz521 => ?_)
          refine X.ifgt 17 13 i204_10 rfl rfl rfl (fun h522 => ?_) (fun h522 => ?_)
          · have h522c : ¬ a2 ≤ 3 := by omega
            clear h522 hz521
            refine X.cut [] i204_17 rfl ?_
            refine X.iconst 18 i204_17 rfl rfl (by decide) ?_
            refine X.retz i204_18 rfl t204 (by omega) ?_
            show X (EE s) ((d - 1) - 1) 242 9 [(0, zi a2)] [zi 0] m _
            refine X.retz i242_9 rfl t242 (by omega) ?_
            show X (EE s) (d - 1) 290 21 [(0, zi a1), (1, zi a2)] [zi 0] m _
            refine X.ifeq 28 24 i290_21 rfl rfl rfl (fun h523 => ?_) (fun h523 => (by exfalso; omega))
            refine X.cut [] i290_28 rfl ?_
            refine X.iconst 29 i290_28 rfl rfl (by decide) ?_
            refine X.retz i290_29 rfl t290 (by omega) ?_
            show X (EE s) d 296 5 [(0, zr 4 44), (1, zi a1), (2, zi a2)] [zi 0] m _
            refine X.ifeq 31 8 i296_5 rfl rfl rfl (fun h524 => ?_) (fun h524 => (by exfalso; omega))
            refine X.cut [] i296_31 rfl ?_
            refine X.ldc2 34 i296_31 rfl rfl (by decide) ?_
            refine X.retl i296_34 rfl t296 ?_
            exact hQ (-1) (by first | trivial | omega) (Eq.trans (if_neg h502c) (Eq.trans (if_pos h506c) (Eq.trans (if_neg h510) (Eq.trans (if_neg h518c) (Eq.trans (if_neg h522c) rfl))))) 
          · have h522c : a2 ≤ 3 := by omega
            clear h522 hz521
            refine X.iconst 14 i204_13 rfl rfl (by decide) ?_
            refine X.goto 18 i204_14 rfl rfl ?_
            refine X.cut [] i204_18 rfl ?_
            refine X.retz i204_18 rfl t204 (by omega) ?_
            show X (EE s) ((d - 1) - 1) 242 9 [(0, zi a2)] [zi 1] m _
            refine X.retz i242_9 rfl t242 (by omega) ?_
            show X (EE s) (d - 1) 290 21 [(0, zi a1), (1, zi a2)] [zi 1] m _
            refine X.ifeq 28 24 i290_21 rfl rfl rfl (fun h525 => (by exfalso; omega)) (fun h525 => ?_)
            refine X.cut [] i290_24 rfl ?_
            refine X.iconst 25 i290_24 rfl rfl (by decide) ?_
            refine X.goto 29 i290_25 rfl rfl ?_
            refine X.retz i290_29 rfl t290 (by omega) ?_
            show X (EE s) d 296 5 [(0, zr 4 44), (1, zi a1), (2, zi a2)] [zi 1] m _
            refine X.ifeq 31 8 i296_5 rfl rfl rfl (fun h526 => (by exfalso; omega)) (fun h526 => ?_)
            refine X.aload_n 9 i296_8 rfl rfl rfl ?_
            refine X.getF 12 i296_9 rfl rfl (by decide) rfl rfl ?_
            refine X.bipush 14 i296_12 rfl rfl (by decide) ?_
            refine X.iload_n 15 i296_14 rfl rfl rfl ?_
            refine X.iload_n 16 i296_15 rfl rfl rfl ?_
            refine X.calls 19 [zi a1, zi a2] [zi 60, zr 4 45] [(0, zi a1), (1, zi a2)] i296_16 (by decide) rfl rfl (by omega) rfl rfl t291 (Nat.le_of_ble_eq_true rfl) (Nat.le_of_ble_eq_true rfl) rfl ?_
            refine c291_1 (B := B)  a1 a2 (by omega) (hJ.up (by omega)) (by omega) (by omega) (by omega) (fun v529 hv529 hFv529 => ?_)
            show X (EE s) d 296 19 [(0, zr 4 44), (1, zi a1), (2, zi a2)] [zi v529, zi 60, zr 4 45] m _
            refine X.iadd 20 i296_19 rfl rfl (by omega) ?_
            refine X.lald 21 i296_20 rfl rfl (by decide) rfl (by omega) ?_
            refine X.aload_n 22 i296_21 rfl rfl rfl ?_
            refine X.getF 25 i296_22 rfl rfl (by decide) rfl rfl ?_
            refine X.iconst 26 i296_25 rfl rfl (by decide) ?_
            refine X.lald 27 i296_26 rfl rfl (by decide) rfl (by omega) ?_
            have h530 := r45_5 hJ 4
            refine X.ldivW 28 i296_27 rfl rfl (by omega) (fun z531 ez531 hz531 => ?_)
            refine X.goto 34 i296_28 rfl rfl ?_
            refine X.cut [] i296_34 rfl ?_
            refine X.retl i296_34 rfl t296 ?_
            exact hQ z531 (by first | trivial | omega) (Eq.trans (if_neg h502c) (Eq.trans (if_pos h506c) (Eq.trans (if_neg h510) (Eq.trans (if_neg h518c) (Eq.trans (if_pos h522c) (Eq.trans (zn_eq hFv529.symm) (Eq.trans (zn_eq ez531) rfl))))))) 
-- WorkMeter.tariffAt
noncomputable def f148_1 (a1 : Int) (m : zM) : Int :=
  if a1 < 0 then
  ((-1))
  else
  (if 2000000000 < a1 then
  ((-1))
  else
  (zn (f27_1 0 a1 m) fun v508 =>
  v508))
-- WorkMeter.tariffAt
theorem c148_1 {s : Nat × (Nat → Int32)} {S : zS} {m0 m : zM} {B : Int} {d : Nat} {Q : Option zV → zM → Prop} (a1 : Int) (hd : 16 ≤ d) (hJ : J S m0 B m) (hB : B + 0 ≤ 1000000000) (ha1 : (-2147483648) ≤ a1 ∧ a1 ≤ 2147483647) (hQ : ∀ (v : Int), ((-1) ≤ v ∧ v ≤ 3) → f148_1 a1 m = v → Q (some (zi v)) m) : X (EE s) d 148 0 [(0, zr 4 40), (1, zi a1)] [] m Q := by
  refine X.iload_n 1 i148_0 rfl rfl rfl ?_
  refine X.calls 4 [zi a1] [] [(0, zi a1)] i148_1 (by decide) rfl rfl (by omega) rfl rfl t128 (Nat.le_of_ble_eq_true rfl) (Nat.le_of_ble_eq_true rfl) rfl ?_
  refine X.iload_n 1 i128_0 rfl rfl rfl ?_
  refine X.iflt 14 4 i128_1 rfl rfl rfl (fun h501 => ?_) (fun h501 => ?_)
  · refine X.cut [] i128_14 rfl ?_
    refine X.iconst 15 i128_14 rfl rfl (by decide) ?_
    refine X.retz i128_15 rfl t128 (by omega) ?_
    show X (EE s) d 148 4 [(0, zr 4 40), (1, zi a1)] [zi 0] m _
    refine X.ifeq 21 7 i148_4 rfl rfl rfl (fun h502 => ?_) (fun h502 => (by exfalso; omega))
    refine X.cut [] i148_21 rfl ?_
    refine X.iconst 22 i148_21 rfl rfl (by decide) ?_
    refine X.reti i148_22 rfl t148 ?_
    exact hQ (-1) (by first | trivial | omega) (Eq.trans (if_pos h501) rfl) 
  · refine X.iload_n 5 i128_4 rfl rfl rfl ?_
    refine X.ldc 7 i128_5 rfl rfl (by decide) ?_
    refine X.icmpgt 14 10 i128_7 rfl rfl rfl (fun h503 => ?_) (fun h503 => ?_)
    · refine X.cut [] i128_14 rfl ?_
      refine X.iconst 15 i128_14 rfl rfl (by decide) ?_
      refine X.retz i128_15 rfl t128 (by omega) ?_
      show X (EE s) d 148 4 [(0, zr 4 40), (1, zi a1)] [zi 0] m _
      refine X.ifeq 21 7 i148_4 rfl rfl rfl (fun h504 => ?_) (fun h504 => (by exfalso; omega))
      refine X.cut [] i148_21 rfl ?_
      refine X.iconst 22 i148_21 rfl rfl (by decide) ?_
      refine X.reti i148_22 rfl t148 ?_
      exact hQ (-1) (by first | trivial | omega) (Eq.trans (if_neg h501) (Eq.trans (if_pos h503) rfl)) 
    · refine X.iconst 11 i128_10 rfl rfl (by decide) ?_
      refine X.goto 15 i128_11 rfl rfl ?_
      refine X.cut [] i128_15 rfl ?_
      refine X.retz i128_15 rfl t128 (by omega) ?_
      show X (EE s) d 148 4 [(0, zr 4 40), (1, zi a1)] [zi 1] m _
      refine X.ifeq 21 7 i148_4 rfl rfl rfl (fun h505 => (by exfalso; omega)) (fun h505 => ?_)
      refine X.aload_n 8 i148_7 rfl rfl rfl ?_
      refine X.getF 11 i148_8 rfl rfl (by decide) rfl rfl ?_
      refine X.getR 14 i148_11 rfl rfl (by decide) rfl rfl ?_
      refine X.iload_n 15 i148_14 rfl rfl rfl ?_
      refine X.callv 18 [zi a1] [] [(0, zr 0 11), (1, zi a1)] i148_15 rfl (by decide) rfl rfl (by omega) rfl rfl (by decide) rfl t27 (Nat.le_of_ble_eq_true rfl) (Nat.le_of_ble_eq_true rfl) rfl ?_
      refine c27_1 (B := B) 0 a1 (by omega) (hJ.up (by omega)) (by omega) (by omega) (fun v508 hv508 hFv508 => ?_)
      show X (EE s) d 148 18 [(0, zr 4 40), (1, zi a1)] [zi v508] m _
      refine X.goto 22 i148_18 rfl rfl ?_
      refine X.cut [] i148_22 rfl ?_
      refine X.reti i148_22 rfl t148 ?_
      exact hQ v508 (by first | trivial | omega) (Eq.trans (if_neg h501) (Eq.trans (if_neg h503) (Eq.trans (zn_eq hFv508.symm) rfl))) 
-- WorkMeterModel.tariffAt
noncomputable def f250_1 (a1 : Int) (m : zM) : Int :=
  if a1 < 0 then
  ((-1))
  else
  (if a1 ≤ 2000000000 then
  (zn (f217_1 a1 m) fun v510 =>
  v510)
  else
  ((-1)))
-- WorkMeterModel.tariffAt
theorem c250_1 {s : Nat × (Nat → Int32)} {S : zS} {m0 m : zM} {B : Int} {d : Nat} {Q : Option zV → zM → Prop} (a1 : Int) (hd : 16 ≤ d) (hJ : J S m0 B m) (hB : B + 0 ≤ 1000000000) (ha1 : (-2147483648) ≤ a1 ∧ a1 ≤ 2147483647) (hQ : ∀ (v : Int), ((-1) ≤ v ∧ v ≤ 3) → f250_1 a1 m = v → Q (some (zi v)) m) : X (EE s) d 250 0 [(0, zr 4 44), (1, zi a1)] [] m Q := by
  refine X.iload_n 1 i250_0 rfl rfl rfl ?_
  refine X.i2l 2 i250_1 rfl rfl ?_
  refine X.lconst (y := 0) 3 i250_2 rfl rfl rfl ?_
  refine X.ldc2 6 i250_3 rfl rfl (by decide) ?_
  refine X.calls 9 [zl a1, zl 0, zl 2000000000] [] [(0, zl a1), (2, zl 0), (4, zl 2000000000)] i250_6 (by decide) rfl rfl (by omega) rfl rfl t204 (Nat.le_of_ble_eq_true rfl) (Nat.le_of_ble_eq_true rfl) rfl ?_
  refine X.lload_n 1 i204_0 rfl rfl rfl ?_
  refine X.lload_n 2 i204_1 rfl rfl rfl ?_
  refine X.lcmp 3 i204_2 rfl rfl (fun z501 hz501 => ?_)
  refine X.iflt 17 6 i204_3 rfl rfl rfl (fun h502 => ?_) (fun h502 => ?_)
  · have h502c : a1 < 0 := by omega
    clear h502 hz501
    refine X.cut [] i204_17 rfl ?_
    refine X.iconst 18 i204_17 rfl rfl (by decide) ?_
    refine X.retz i204_18 rfl t204 (by omega) ?_
    show X (EE s) d 250 9 [(0, zr 4 44), (1, zi a1)] [zi 0] m _
    refine X.ifeq 20 12 i250_9 rfl rfl rfl (fun h503 => ?_) (fun h503 => (by exfalso; omega))
    refine X.cut [] i250_20 rfl ?_
    refine X.iconst 21 i250_20 rfl rfl (by decide) ?_
    refine X.reti i250_21 rfl t250 ?_
    exact hQ (-1) (by first | trivial | omega) (Eq.trans (if_pos h502c) rfl) 
  · have h502c : ¬ a1 < 0 := by omega
    clear h502 hz501
    refine X.lload_n 7 i204_6 rfl rfl rfl ?_
    refine X.lload 9 i204_7 rfl rfl rfl ?_
    refine X.lcmp 10 i204_9 rfl rfl (fun z504 hz504 => ?_)
    refine X.ifgt 17 13 i204_10 rfl rfl rfl (fun h505 => ?_) (fun h505 => ?_)
    · have h505c : ¬ a1 ≤ 2000000000 := by omega
      clear h505 hz504
      refine X.cut [] i204_17 rfl ?_
      refine X.iconst 18 i204_17 rfl rfl (by decide) ?_
      refine X.retz i204_18 rfl t204 (by omega) ?_
      show X (EE s) d 250 9 [(0, zr 4 44), (1, zi a1)] [zi 0] m _
      refine X.ifeq 20 12 i250_9 rfl rfl rfl (fun h506 => ?_) (fun h506 => (by exfalso; omega))
      refine X.cut [] i250_20 rfl ?_
      refine X.iconst 21 i250_20 rfl rfl (by decide) ?_
      refine X.reti i250_21 rfl t250 ?_
      exact hQ (-1) (by first | trivial | omega) (Eq.trans (if_neg h502c) (Eq.trans (if_neg h505c) rfl)) 
    · have h505c : a1 ≤ 2000000000 := by omega
      clear h505 hz504
      refine X.iconst 14 i204_13 rfl rfl (by decide) ?_
      refine X.goto 18 i204_14 rfl rfl ?_
      refine X.cut [] i204_18 rfl ?_
      refine X.retz i204_18 rfl t204 (by omega) ?_
      show X (EE s) d 250 9 [(0, zr 4 44), (1, zi a1)] [zi 1] m _
      refine X.ifeq 20 12 i250_9 rfl rfl rfl (fun h507 => (by exfalso; omega)) (fun h507 => ?_)
      refine X.aload_n 13 i250_12 rfl rfl rfl ?_
      refine X.iload_n 14 i250_13 rfl rfl rfl ?_
      refine X.callv 17 [zi a1] [] [(0, zr 4 44), (1, zi a1)] i250_14 rfl (by decide) rfl rfl (by omega) rfl rfl (by decide) rfl t217 (Nat.le_of_ble_eq_true rfl) (Nat.le_of_ble_eq_true rfl) rfl ?_
      refine c217_1 (B := B)  a1 (by omega) (hJ.up (by omega)) (by omega) (by omega) (fun v510 hv510 hFv510 => ?_)
      show X (EE s) d 250 17 [(0, zr 4 44), (1, zi a1)] [zi v510] m _
      refine X.goto 21 i250_17 rfl rfl ?_
      refine X.cut [] i250_21 rfl ?_
      refine X.reti i250_21 rfl t250 ?_
      exact hQ v510 (by first | trivial | omega) (Eq.trans (if_neg h502c) (Eq.trans (if_pos h505c) (Eq.trans (zn_eq hFv510.symm) rfl))) 
-- WorkMeter.tableOf
noncomputable def f149_1 (a1 : Int) (m : zM) : Int :=
  if a1 < 0 then
  ((-1))
  else
  (if 23148 < a1 then
  ((-1))
  else
  (zn (f28_1 0 a1 m) fun v508 =>
  v508))
-- WorkMeter.tableOf
theorem c149_1 {s : Nat × (Nat → Int32)} {S : zS} {m0 m : zM} {B : Int} {d : Nat} {Q : Option zV → zM → Prop} (a1 : Int) (hd : 15 ≤ d) (hJ : J S m0 B m) (hB : B + 0 ≤ 1000000000) (ha1 : (-2147483648) ≤ a1 ∧ a1 ≤ 2147483647) (hQ : ∀ (v : Int), ((-1) ≤ v ∧ v ≤ 7) → f149_1 a1 m = v → Q (some (zi v)) m) : X (EE s) d 149 0 [(0, zr 4 40), (1, zi a1)] [] m Q := by
  refine X.iload_n 1 i149_0 rfl rfl rfl ?_
  refine X.calls 4 [zi a1] [] [(0, zi a1)] i149_1 (by decide) rfl rfl (by omega) rfl rfl t150 (Nat.le_of_ble_eq_true rfl) (Nat.le_of_ble_eq_true rfl) rfl ?_
  refine X.iload_n 1 i150_0 rfl rfl rfl ?_
  refine X.iflt 15 4 i150_1 rfl rfl rfl (fun h501 => ?_) (fun h501 => ?_)
  · refine X.cut [] i150_15 rfl ?_
    refine X.iconst 16 i150_15 rfl rfl (by decide) ?_
    refine X.retz i150_16 rfl t150 (by omega) ?_
    show X (EE s) d 149 4 [(0, zr 4 40), (1, zi a1)] [zi 0] m _
    refine X.ifeq 21 7 i149_4 rfl rfl rfl (fun h502 => ?_) (fun h502 => (by exfalso; omega))
    refine X.cut [] i149_21 rfl ?_
    refine X.iconst 22 i149_21 rfl rfl (by decide) ?_
    refine X.reti i149_22 rfl t149 ?_
    exact hQ (-1) (by first | trivial | omega) (Eq.trans (if_pos h501) rfl) 
  · refine X.iload_n 5 i150_4 rfl rfl rfl ?_
    refine X.sipush 8 i150_5 rfl rfl (by decide) ?_
    refine X.icmpgt 15 11 i150_8 rfl rfl rfl (fun h503 => ?_) (fun h503 => ?_)
    · refine X.cut [] i150_15 rfl ?_
      refine X.iconst 16 i150_15 rfl rfl (by decide) ?_
      refine X.retz i150_16 rfl t150 (by omega) ?_
      show X (EE s) d 149 4 [(0, zr 4 40), (1, zi a1)] [zi 0] m _
      refine X.ifeq 21 7 i149_4 rfl rfl rfl (fun h504 => ?_) (fun h504 => (by exfalso; omega))
      refine X.cut [] i149_21 rfl ?_
      refine X.iconst 22 i149_21 rfl rfl (by decide) ?_
      refine X.reti i149_22 rfl t149 ?_
      exact hQ (-1) (by first | trivial | omega) (Eq.trans (if_neg h501) (Eq.trans (if_pos h503) rfl)) 
    · refine X.iconst 12 i150_11 rfl rfl (by decide) ?_
      refine X.goto 16 i150_12 rfl rfl ?_
      refine X.cut [] i150_16 rfl ?_
      refine X.retz i150_16 rfl t150 (by omega) ?_
      show X (EE s) d 149 4 [(0, zr 4 40), (1, zi a1)] [zi 1] m _
      refine X.ifeq 21 7 i149_4 rfl rfl rfl (fun h505 => (by exfalso; omega)) (fun h505 => ?_)
      refine X.aload_n 8 i149_7 rfl rfl rfl ?_
      refine X.getF 11 i149_8 rfl rfl (by decide) rfl rfl ?_
      refine X.getR 14 i149_11 rfl rfl (by decide) rfl rfl ?_
      refine X.iload_n 15 i149_14 rfl rfl rfl ?_
      refine X.callv 18 [zi a1] [] [(0, zr 0 11), (1, zi a1)] i149_15 rfl (by decide) rfl rfl (by omega) rfl rfl (by decide) rfl t28 (Nat.le_of_ble_eq_true rfl) (Nat.le_of_ble_eq_true rfl) rfl ?_
      refine c28_1 (B := B) 0 a1 (by omega) (hJ.up (by omega)) (by omega) (by omega) (fun v508 hv508 hFv508 => ?_)
      show X (EE s) d 149 18 [(0, zr 4 40), (1, zi a1)] [zi v508] m _
      refine X.goto 22 i149_18 rfl rfl ?_
      refine X.cut [] i149_22 rfl ?_
      refine X.reti i149_22 rfl t149 ?_
      exact hQ v508 (by first | trivial | omega) (Eq.trans (if_neg h501) (Eq.trans (if_neg h503) (Eq.trans (zn_eq hFv508.symm) rfl))) 
-- WorkMeterModel.tableOf
noncomputable def f251_1 (a1 : Int) (m : zM) : Int :=
  if a1 < 0 then
  ((-1))
  else
  (if a1 ≤ 23148 then
  (zn (f218_1 a1 m) fun v510 =>
  v510)
  else
  ((-1)))
-- WorkMeterModel.tableOf
theorem c251_1 {s : Nat × (Nat → Int32)} {S : zS} {m0 m : zM} {B : Int} {d : Nat} {Q : Option zV → zM → Prop} (a1 : Int) (hd : 15 ≤ d) (hJ : J S m0 B m) (hB : B + 0 ≤ 1000000000) (ha1 : (-2147483648) ≤ a1 ∧ a1 ≤ 2147483647) (hQ : ∀ (v : Int), ((-1) ≤ v ∧ v ≤ 7) → f251_1 a1 m = v → Q (some (zi v)) m) : X (EE s) d 251 0 [(0, zr 4 44), (1, zi a1)] [] m Q := by
  refine X.iload_n 1 i251_0 rfl rfl rfl ?_
  refine X.i2l 2 i251_1 rfl rfl ?_
  refine X.lconst (y := 0) 3 i251_2 rfl rfl rfl ?_
  refine X.ldc2 6 i251_3 rfl rfl (by decide) ?_
  refine X.calls 9 [zl a1, zl 0, zl 23148] [] [(0, zl a1), (2, zl 0), (4, zl 23148)] i251_6 (by decide) rfl rfl (by omega) rfl rfl t204 (Nat.le_of_ble_eq_true rfl) (Nat.le_of_ble_eq_true rfl) rfl ?_
  refine X.lload_n 1 i204_0 rfl rfl rfl ?_
  refine X.lload_n 2 i204_1 rfl rfl rfl ?_
  refine X.lcmp 3 i204_2 rfl rfl (fun z501 hz501 => ?_)
  refine X.iflt 17 6 i204_3 rfl rfl rfl (fun h502 => ?_) (fun h502 => ?_)
  · have h502c : a1 < 0 := by omega
    clear h502 hz501
    refine X.cut [] i204_17 rfl ?_
    refine X.iconst 18 i204_17 rfl rfl (by decide) ?_
    refine X.retz i204_18 rfl t204 (by omega) ?_
    show X (EE s) d 251 9 [(0, zr 4 44), (1, zi a1)] [zi 0] m _
    refine X.ifeq 20 12 i251_9 rfl rfl rfl (fun h503 => ?_) (fun h503 => (by exfalso; omega))
    refine X.cut [] i251_20 rfl ?_
    refine X.iconst 21 i251_20 rfl rfl (by decide) ?_
    refine X.reti i251_21 rfl t251 ?_
    exact hQ (-1) (by first | trivial | omega) (Eq.trans (if_pos h502c) rfl) 
  · have h502c : ¬ a1 < 0 := by omega
    clear h502 hz501
    refine X.lload_n 7 i204_6 rfl rfl rfl ?_
    refine X.lload 9 i204_7 rfl rfl rfl ?_
    refine X.lcmp 10 i204_9 rfl rfl (fun z504 hz504 => ?_)
    refine X.ifgt 17 13 i204_10 rfl rfl rfl (fun h505 => ?_) (fun h505 => ?_)
    · have h505c : ¬ a1 ≤ 23148 := by omega
      clear h505 hz504
      refine X.cut [] i204_17 rfl ?_
      refine X.iconst 18 i204_17 rfl rfl (by decide) ?_
      refine X.retz i204_18 rfl t204 (by omega) ?_
      show X (EE s) d 251 9 [(0, zr 4 44), (1, zi a1)] [zi 0] m _
      refine X.ifeq 20 12 i251_9 rfl rfl rfl (fun h506 => ?_) (fun h506 => (by exfalso; omega))
      refine X.cut [] i251_20 rfl ?_
      refine X.iconst 21 i251_20 rfl rfl (by decide) ?_
      refine X.reti i251_21 rfl t251 ?_
      exact hQ (-1) (by first | trivial | omega) (Eq.trans (if_neg h502c) (Eq.trans (if_neg h505c) rfl)) 
    · have h505c : a1 ≤ 23148 := by omega
      clear h505 hz504
      refine X.iconst 14 i204_13 rfl rfl (by decide) ?_
      refine X.goto 18 i204_14 rfl rfl ?_
      refine X.cut [] i204_18 rfl ?_
      refine X.retz i204_18 rfl t204 (by omega) ?_
      show X (EE s) d 251 9 [(0, zr 4 44), (1, zi a1)] [zi 1] m _
      refine X.ifeq 20 12 i251_9 rfl rfl rfl (fun h507 => (by exfalso; omega)) (fun h507 => ?_)
      refine X.aload_n 13 i251_12 rfl rfl rfl ?_
      refine X.iload_n 14 i251_13 rfl rfl rfl ?_
      refine X.callv 17 [zi a1] [] [(0, zr 4 44), (1, zi a1)] i251_14 rfl (by decide) rfl rfl (by omega) rfl rfl (by decide) rfl t218 (Nat.le_of_ble_eq_true rfl) (Nat.le_of_ble_eq_true rfl) rfl ?_
      refine c218_1 (B := B)  a1 (by omega) (hJ.up (by omega)) (by omega) (by omega) (fun v510 hv510 hFv510 => ?_)
      show X (EE s) d 251 17 [(0, zr 4 44), (1, zi a1)] [zi v510] m _
      refine X.goto 21 i251_17 rfl rfl ?_
      refine X.cut [] i251_21 rfl ?_
      refine X.reti i251_21 rfl t251 ?_
      exact hQ v510 (by first | trivial | omega) (Eq.trans (if_neg h502c) (Eq.trans (if_pos h505c) (Eq.trans (zn_eq hFv510.symm) rfl))) 
-- WorkMeter.switching
noncomputable def f151_1 (a1 a2 a3 : Int) (m : zM) : Int :=
  if a1 < 0 then
  ((-1))
  else
  (if 8 ≤ a1 then
  ((-1))
  else
  (if a2 = (-1) then
  ((m 0 12 a1))
  else
  (if a2 < 0 then
  ((-1))
  else
  (if (m 0 12 a1) ≤ a2 then
  ((-1))
  else
  (if a3 < 0 then
  ((-1))
  else
  (if a3 ≤ 1 then
  (zn (if a3 = 0 then
  ((m 0 13 ((a1 * 6) + a2)))
  else
  ((m 0 14 ((a1 * 6) + a2)))) fun v515 =>
  v515)
  else
  ((-1))))))))
-- WorkMeter.switching
theorem c151_1 {s : Nat × (Nat → Int32)} {S : zS} {m0 m : zM} {B : Int} {d : Nat} {Q : Option zV → zM → Prop} (a1 a2 a3 : Int) (hd : 13 ≤ d) (hJ : J S m0 B m) (hB : B + 0 ≤ 1000000000) (ha1 : (-2147483648) ≤ a1 ∧ a1 ≤ 2147483647) (ha2 : (-2147483648) ≤ a2 ∧ a2 ≤ 2147483647) (ha3 : (-2147483648) ≤ a3 ∧ a3 ≤ 2147483647) (hQ : ∀ (v : Int), ((-1) ≤ v ∧ v ≤ 86399) → f151_1 a1 a2 a3 m = v → Q (some (zi v)) m) : X (EE s) d 151 0 [(0, zr 4 40), (1, zi a1), (2, zi a2), (3, zi a3)] [] m Q := by
  refine X.iload_n 1 i151_0 rfl rfl rfl ?_
  refine X.calls 4 [zi a1] [] [(0, zi a1)] i151_1 (by decide) rfl rfl (by omega) rfl rfl t79 (Nat.le_of_ble_eq_true rfl) (Nat.le_of_ble_eq_true rfl) rfl ?_
  refine X.iload_n 1 i79_0 rfl rfl rfl ?_
  refine X.iflt 14 4 i79_1 rfl rfl rfl (fun h501 => ?_) (fun h501 => ?_)
  · refine X.cut [] i79_14 rfl ?_
    refine X.iconst 15 i79_14 rfl rfl (by decide) ?_
    refine X.retz i79_15 rfl t79 (by omega) ?_
    show X (EE s) d 151 4 [(0, zr 4 40), (1, zi a1), (2, zi a2), (3, zi a3)] [zi 0] m _
    refine X.ifne 9 7 i151_4 rfl rfl rfl (fun h502 => (by exfalso; omega)) (fun h502 => ?_)
    refine X.iconst 8 i151_7 rfl rfl (by decide) ?_
    refine X.reti i151_8 rfl t151 ?_
    exact hQ (-1) (by first | trivial | omega) (Eq.trans (if_pos h501) rfl) 
  · refine X.iload_n 5 i79_4 rfl rfl rfl ?_
    refine X.bipush 7 i79_5 rfl rfl (by decide) ?_
    refine X.icmpge 14 10 i79_7 rfl rfl rfl (fun h503 => ?_) (fun h503 => ?_)
    · refine X.cut [] i79_14 rfl ?_
      refine X.iconst 15 i79_14 rfl rfl (by decide) ?_
      refine X.retz i79_15 rfl t79 (by omega) ?_
      show X (EE s) d 151 4 [(0, zr 4 40), (1, zi a1), (2, zi a2), (3, zi a3)] [zi 0] m _
      refine X.ifne 9 7 i151_4 rfl rfl rfl (fun h504 => (by exfalso; omega)) (fun h504 => ?_)
      refine X.iconst 8 i151_7 rfl rfl (by decide) ?_
      refine X.reti i151_8 rfl t151 ?_
      exact hQ (-1) (by first | trivial | omega) (Eq.trans (if_neg h501) (Eq.trans (if_pos h503) rfl)) 
    · refine X.iconst 11 i79_10 rfl rfl (by decide) ?_
      refine X.goto 15 i79_11 rfl rfl ?_
      refine X.cut [] i79_15 rfl ?_
      refine X.retz i79_15 rfl t79 (by omega) ?_
      show X (EE s) d 151 4 [(0, zr 4 40), (1, zi a1), (2, zi a2), (3, zi a3)] [zi 1] m _
      refine X.ifne 9 7 i151_4 rfl rfl rfl (fun h505 => ?_) (fun h505 => (by exfalso; omega))
      refine X.aload_n 10 i151_9 rfl rfl rfl ?_
      refine X.getF 13 i151_10 rfl rfl (by decide) rfl rfl ?_
      refine X.getR 16 i151_13 rfl rfl (by decide) rfl rfl ?_
      refine X.getR 19 i151_16 rfl rfl (by decide) rfl rfl ?_
      refine X.iload_n 20 i151_19 rfl rfl rfl ?_
      refine X.iald 21 i151_20 rfl rfl (by decide) rfl (by omega) ?_
      have h506 := r12_0 hJ 0 (i := a1) (by omega)
      refine X.istore 23 [(0, zr 4 40), (1, zi a1), (2, zi a2), (3, zi a3), (4, zi (m 0 12 a1))] i151_21 rfl rfl rfl ?_
      refine X.iload_n 24 i151_23 rfl rfl rfl ?_
      refine X.iconst 25 i151_24 rfl rfl (by decide) ?_
      refine X.icmpne 31 28 i151_25 rfl rfl rfl (fun h507 => ?_) (fun h507 => ?_)
      · refine X.iload_n 32 i151_31 rfl rfl rfl ?_
        refine X.iflt 50 35 i151_32 rfl rfl rfl (fun h508 => ?_) (fun h508 => ?_)
        · refine X.cut [] i151_50 rfl ?_
          refine X.iconst 51 i151_50 rfl rfl (by decide) ?_
          refine X.reti i151_51 rfl t151 ?_
          exact hQ (-1) (by first | trivial | omega) (Eq.trans (if_neg h501) (Eq.trans (if_neg h503) (Eq.trans (if_neg h507) (Eq.trans (if_pos h508) rfl)))) 
        · refine X.iload_n 36 i151_35 rfl rfl rfl ?_
          refine X.iload 38 i151_36 rfl rfl rfl ?_
          refine X.icmpge 50 41 i151_38 rfl rfl rfl (fun h509 => ?_) (fun h509 => ?_)
          · refine X.cut [] i151_50 rfl ?_
            refine X.iconst 51 i151_50 rfl rfl (by decide) ?_
            refine X.reti i151_51 rfl t151 ?_
            exact hQ (-1) (by first | trivial | omega) (Eq.trans (if_neg h501) (Eq.trans (if_neg h503) (Eq.trans (if_neg h507) (Eq.trans (if_neg h508) (Eq.trans (if_pos h509) rfl))))) 
          · refine X.iload_n 42 i151_41 rfl rfl rfl ?_
            refine X.iflt 50 45 i151_42 rfl rfl rfl (fun h510 => ?_) (fun h510 => ?_)
            · refine X.cut [] i151_50 rfl ?_
              refine X.iconst 51 i151_50 rfl rfl (by decide) ?_
              refine X.reti i151_51 rfl t151 ?_
              exact hQ (-1) (by first | trivial | omega) (Eq.trans (if_neg h501) (Eq.trans (if_neg h503) (Eq.trans (if_neg h507) (Eq.trans (if_neg h508) (Eq.trans (if_neg h509) (Eq.trans (if_pos h510) rfl)))))) 
            · refine X.iload_n 46 i151_45 rfl rfl rfl ?_
              refine X.iconst 47 i151_46 rfl rfl (by decide) ?_
              refine X.icmple 52 50 i151_47 rfl rfl rfl (fun h511 => ?_) (fun h511 => ?_)
              · refine X.cut [(0, zr 4 40), (1, zi a1), (2, zi a2), (3, zi a3)] i151_52 rfl ?_
                refine X.iload_n 53 i151_52 rfl rfl rfl ?_
                refine X.bipush 55 i151_53 rfl rfl (by decide) ?_
                refine X.imul 56 i151_55 rfl rfl (by omega) ?_
                refine X.iload_n 57 i151_56 rfl rfl rfl ?_
                refine X.iadd 58 i151_57 rfl rfl (by omega) ?_
                refine X.istore 60 [(0, zr 4 40), (1, zi a1), (2, zi a2), (3, zi a3), (5, zi ((a1 * 6) + a2))] i151_58 rfl rfl rfl ?_
                refine X.iload_n 61 i151_60 rfl rfl rfl ?_
                have hK518 : ∀ (v : Int) , (0 ≤ v ∧ v ≤ 86399) → (if a3 = 0 then
                    ((m 0 13 ((a1 * 6) + a2)))
                    else
                    ((m 0 14 ((a1 * 6) + a2)))) = v → X (EE s) d 151 93 [] [zi v] m Q := by
                  intro v515 hv515 hT519
                  refine X.reti i151_93 rfl t151 ?_
                  exact hQ v515 (by first | trivial | omega) (Eq.trans (if_neg h501) (Eq.trans (if_neg h503) (Eq.trans (if_neg h507) (Eq.trans (if_neg h508) (Eq.trans (if_neg h509) (Eq.trans (if_neg h510) (Eq.trans (if_pos h511) (Eq.trans (zn_eq hT519.symm) rfl)))))))) 
                refine X.ifne 80 64 i151_61 rfl rfl rfl (fun h512 => ?_) (fun h512 => ?_)
                · refine X.cut [(0, zr 4 40), (5, zi ((a1 * 6) + a2))] i151_80 rfl ?_
                  refine X.aload_n 81 i151_80 rfl rfl rfl ?_
                  refine X.getF 84 i151_81 rfl rfl (by decide) rfl rfl ?_
                  refine X.getR 87 i151_84 rfl rfl (by decide) rfl rfl ?_
                  refine X.getR 90 i151_87 rfl rfl (by decide) rfl rfl ?_
                  refine X.iload 92 i151_90 rfl rfl rfl ?_
                  refine X.iald 93 i151_92 rfl rfl (by decide) rfl (by omega) ?_
                  have h513 := r14_0 hJ 0 (i := ((a1 * 6) + a2)) (by omega)
                  refine X.cut [] i151_93 rfl ?_
                  exact hK518 (m 0 14 ((a1 * 6) + a2)) (by first | trivial | omega) (Eq.trans (if_neg h512) rfl)
                · refine X.aload_n 65 i151_64 rfl rfl rfl ?_
                  refine X.getF 68 i151_65 rfl rfl (by decide) rfl rfl ?_
                  refine X.getR 71 i151_68 rfl rfl (by decide) rfl rfl ?_
                  refine X.getR 74 i151_71 rfl rfl (by decide) rfl rfl ?_
                  refine X.iload 76 i151_74 rfl rfl rfl ?_
                  refine X.iald 77 i151_76 rfl rfl (by decide) rfl (by omega) ?_
                  have h514 := r13_0 hJ 0 (i := ((a1 * 6) + a2)) (by omega)
                  refine X.goto 93 i151_77 rfl rfl ?_
                  refine X.cut [] i151_93 rfl ?_
                  exact hK518 (m 0 13 ((a1 * 6) + a2)) (by first | trivial | omega) (Eq.trans (if_pos h512) rfl)
              · refine X.cut [] i151_50 rfl ?_
                refine X.iconst 51 i151_50 rfl rfl (by decide) ?_
                refine X.reti i151_51 rfl t151 ?_
                exact hQ (-1) (by first | trivial | omega) (Eq.trans (if_neg h501) (Eq.trans (if_neg h503) (Eq.trans (if_neg h507) (Eq.trans (if_neg h508) (Eq.trans (if_neg h509) (Eq.trans (if_neg h510) (Eq.trans (if_neg h511) rfl))))))) 
      · refine X.iload 30 i151_28 rfl rfl rfl ?_
        refine X.reti i151_30 rfl t151 ?_
        exact hQ (m 0 12 a1) (by first | trivial | omega) (Eq.trans (if_neg h501) (Eq.trans (if_neg h503) (Eq.trans (if_pos h507) rfl))) 
-- WorkMeterModel.switching
noncomputable def f252_1 (a1 a2 a3 : Int) (m : zM) : Int :=
  if a1 < 0 then
  ((-1))
  else
  (if a1 ≤ 7 then
  (if a2 = (-1) then
  ((m 4 45 (287 + a1)))
  else
  (if a2 < 0 then
  ((-1))
  else
  (if a2 ≤ ((m 4 45 (287 + a1)) - 1) then
  (if a3 < 0 then
  ((-1))
  else
  (if a3 ≤ 1 then
  (zn (if a3 = 0 then
  (295)
  else
  (343)) fun v525 =>
  (m 4 45 ((v525 + (6 * a1)) + a2)))
  else
  ((-1))))
  else
  ((-1)))))
  else
  ((-1)))
-- WorkMeterModel.switching
theorem c252_1 {s : Nat × (Nat → Int32)} {S : zS} {m0 m : zM} {B : Int} {d : Nat} {Q : Option zV → zM → Prop} (a1 a2 a3 : Int) (hd : 13 ≤ d) (hJ : J S m0 B m) (hB : B + 0 ≤ 1000000000) (ha1 : (-2147483648) ≤ a1 ∧ a1 ≤ 2147483647) (ha2 : (-2147483648) ≤ a2 ∧ a2 ≤ 2147483647) (ha3 : (-2147483648) ≤ a3 ∧ a3 ≤ 2147483647) (hQ : ∀ (v : Int), ((-1) ≤ v ∧ v ≤ 86399) → f252_1 a1 a2 a3 m = v → Q (some (zi v)) m) : X (EE s) d 252 0 [(0, zr 4 44), (1, zi a1), (2, zi a2), (3, zi a3)] [] m Q := by
  refine X.iload_n 1 i252_0 rfl rfl rfl ?_
  refine X.calls 4 [zi a1] [] [(0, zi a1)] i252_1 (by decide) rfl rfl (by omega) rfl rfl t241 (Nat.le_of_ble_eq_true rfl) (Nat.le_of_ble_eq_true rfl) rfl ?_
  refine X.iload_n 1 i241_0 rfl rfl rfl ?_
  refine X.i2l 2 i241_1 rfl rfl ?_
  refine X.lconst (y := 0) 3 i241_2 rfl rfl rfl ?_
  refine X.ldc2 6 i241_3 rfl rfl (by decide) ?_
  refine X.calls 9 [zl a1, zl 0, zl 7] [] [(0, zl a1), (2, zl 0), (4, zl 7)] i241_6 (by decide) rfl rfl (by omega) rfl rfl t204 (Nat.le_of_ble_eq_true rfl) (Nat.le_of_ble_eq_true rfl) rfl ?_
  refine X.lload_n 1 i204_0 rfl rfl rfl ?_
  refine X.lload_n 2 i204_1 rfl rfl rfl ?_
  refine X.lcmp 3 i204_2 rfl rfl (fun z501 hz501 => ?_)
  refine X.iflt 17 6 i204_3 rfl rfl rfl (fun h502 => ?_) (fun h502 => ?_)
  · have h502c : a1 < 0 := by omega
    clear h502 hz501
    refine X.cut [] i204_17 rfl ?_
    refine X.iconst 18 i204_17 rfl rfl (by decide) ?_
    refine X.retz i204_18 rfl t204 (by omega) ?_
    show X (EE s) (d - 1) 241 9 [(0, zi a1)] [zi 0] m _
    refine X.retz i241_9 rfl t241 (by omega) ?_
    show X (EE s) d 252 4 [(0, zr 4 44), (1, zi a1), (2, zi a2), (3, zi a3)] [zi 0] m _
    refine X.ifne 9 7 i252_4 rfl rfl rfl (fun h503 => (by exfalso; omega)) (fun h503 => ?_)
    refine X.iconst 8 i252_7 rfl rfl (by decide) ?_
    refine X.reti i252_8 rfl t252 ?_
    exact hQ (-1) (by first | trivial | omega) (Eq.trans (if_pos h502c) rfl) 
  · have h502c : ¬ a1 < 0 := by omega
    clear h502 hz501
    refine X.lload_n 7 i204_6 rfl rfl rfl ?_
    refine X.lload 9 i204_7 rfl rfl rfl ?_
    refine X.lcmp 10 i204_9 rfl rfl (fun z504 hz504 => ?_)
    refine X.ifgt 17 13 i204_10 rfl rfl rfl (fun h505 => ?_) (fun h505 => ?_)
    · have h505c : ¬ a1 ≤ 7 := by omega
      clear h505 hz504
      refine X.cut [] i204_17 rfl ?_
      refine X.iconst 18 i204_17 rfl rfl (by decide) ?_
      refine X.retz i204_18 rfl t204 (by omega) ?_
      show X (EE s) (d - 1) 241 9 [(0, zi a1)] [zi 0] m _
      refine X.retz i241_9 rfl t241 (by omega) ?_
      show X (EE s) d 252 4 [(0, zr 4 44), (1, zi a1), (2, zi a2), (3, zi a3)] [zi 0] m _
      refine X.ifne 9 7 i252_4 rfl rfl rfl (fun h506 => (by exfalso; omega)) (fun h506 => ?_)
      refine X.iconst 8 i252_7 rfl rfl (by decide) ?_
      refine X.reti i252_8 rfl t252 ?_
      exact hQ (-1) (by first | trivial | omega) (Eq.trans (if_neg h502c) (Eq.trans (if_neg h505c) rfl)) 
    · have h505c : a1 ≤ 7 := by omega
      clear h505 hz504
      refine X.iconst 14 i204_13 rfl rfl (by decide) ?_
      refine X.goto 18 i204_14 rfl rfl ?_
      refine X.cut [] i204_18 rfl ?_
      refine X.retz i204_18 rfl t204 (by omega) ?_
      show X (EE s) (d - 1) 241 9 [(0, zi a1)] [zi 1] m _
      refine X.retz i241_9 rfl t241 (by omega) ?_
      show X (EE s) d 252 4 [(0, zr 4 44), (1, zi a1), (2, zi a2), (3, zi a3)] [zi 1] m _
      refine X.ifne 9 7 i252_4 rfl rfl rfl (fun h507 => ?_) (fun h507 => (by exfalso; omega))
      refine X.iload_n 10 i252_9 rfl rfl rfl ?_
      refine X.iconst 11 i252_10 rfl rfl (by decide) ?_
      refine X.icmpne 26 14 i252_11 rfl rfl rfl (fun h508 => ?_) (fun h508 => ?_)
      · refine X.iload_n 27 i252_26 rfl rfl rfl ?_
        refine X.i2l 28 i252_27 rfl rfl ?_
        refine X.lconst (y := 0) 29 i252_28 rfl rfl rfl ?_
        refine X.aload_n 30 i252_29 rfl rfl rfl ?_
        refine X.getF 33 i252_30 rfl rfl (by decide) rfl rfl ?_
        refine X.sipush 36 i252_33 rfl rfl (by decide) ?_
        refine X.iload_n 37 i252_36 rfl rfl rfl ?_
        refine X.iadd 38 i252_37 rfl rfl (by omega) ?_
        refine X.lald 39 i252_38 rfl rfl (by decide) rfl (by omega) ?_
        have h509 := r45_287 hJ 4 (i := (287 + a1)) (by omega)
        refine X.lconst (y := 1) 40 i252_39 rfl rfl rfl ?_
        refine X.lsub 41 i252_40 rfl rfl (by omega) ?_
        refine X.calls 44 [zl a2, zl 0, zl ((m 4 45 (287 + a1)) - 1)] [] [(0, zl a2), (2, zl 0), (4, zl ((m 4 45 (287 + a1)) - 1))] i252_41 (by decide) rfl rfl (by omega) rfl rfl t204 (Nat.le_of_ble_eq_true rfl) (Nat.le_of_ble_eq_true rfl) rfl ?_
        refine X.lload_n 1 i204_0 rfl rfl rfl ?_
        refine X.lload_n 2 i204_1 rfl rfl rfl ?_
        refine X.lcmp 3 i204_2 rfl rfl (fun z510 hz510 => ?_)
        refine X.iflt 17 6 i204_3 rfl rfl rfl (fun h511 => ?_) (fun h511 => ?_)
        · have h511c : a2 < 0 := by omega
          clear h511 hz510
          refine X.cut [] i204_17 rfl ?_
          refine X.iconst 18 i204_17 rfl rfl (by decide) ?_
          refine X.retz i204_18 rfl t204 (by omega) ?_
          show X (EE s) d 252 44 [(0, zr 4 44), (1, zi a1), (2, zi a2), (3, zi a3)] [zi 0] m _
          refine X.ifeq 57 47 i252_44 rfl rfl rfl (fun h512 => ?_) (fun h512 => (by exfalso; omega))
          refine X.cut [] i252_57 rfl ?_
          refine X.iconst 58 i252_57 rfl rfl (by decide) ?_
          refine X.reti i252_58 rfl t252 ?_
          exact hQ (-1) (by first | trivial | omega) (Eq.trans (if_neg h502c) (Eq.trans (if_pos h505c) (Eq.trans (if_neg h508) (Eq.trans (if_pos h511c) rfl)))) 
        · have h511c : ¬ a2 < 0 := by omega
          clear h511 hz510
          refine X.lload_n 7 i204_6 rfl rfl rfl ?_
          refine X.lload 9 i204_7 rfl rfl rfl ?_
          refine X.lcmp 10 i204_9 rfl rfl (fun z513 hz513 => ?_)
          refine X.ifgt 17 13 i204_10 rfl rfl rfl (fun h514 => ?_) (fun h514 => ?_)
          · have h514c : ¬ a2 ≤ ((m 4 45 (287 + a1)) - 1) := by omega
            clear h514 hz513
            refine X.cut [] i204_17 rfl ?_
            refine X.iconst 18 i204_17 rfl rfl (by decide) ?_
            refine X.retz i204_18 rfl t204 (by omega) ?_
            show X (EE s) d 252 44 [(0, zr 4 44), (1, zi a1), (2, zi a2), (3, zi a3)] [zi 0] m _
            refine X.ifeq 57 47 i252_44 rfl rfl rfl (fun h515 => ?_) (fun h515 => (by exfalso; omega))
            refine X.cut [] i252_57 rfl ?_
            refine X.iconst 58 i252_57 rfl rfl (by decide) ?_
            refine X.reti i252_58 rfl t252 ?_
            exact hQ (-1) (by first | trivial | omega) (Eq.trans (if_neg h502c) (Eq.trans (if_pos h505c) (Eq.trans (if_neg h508) (Eq.trans (if_neg h511c) (Eq.trans (if_neg h514c) rfl))))) 
          · have h514c : a2 ≤ ((m 4 45 (287 + a1)) - 1) := by omega
            clear h514 hz513
            refine X.iconst 14 i204_13 rfl rfl (by decide) ?_
            refine X.goto 18 i204_14 rfl rfl ?_
            refine X.cut [] i204_18 rfl ?_
            refine X.retz i204_18 rfl t204 (by omega) ?_
            show X (EE s) d 252 44 [(0, zr 4 44), (1, zi a1), (2, zi a2), (3, zi a3)] [zi 1] m _
            refine X.ifeq 57 47 i252_44 rfl rfl rfl (fun h516 => (by exfalso; omega)) (fun h516 => ?_)
            refine X.iload_n 48 i252_47 rfl rfl rfl ?_
            refine X.i2l 49 i252_48 rfl rfl ?_
            refine X.lconst (y := 0) 50 i252_49 rfl rfl rfl ?_
            refine X.lconst (y := 1) 51 i252_50 rfl rfl rfl ?_
            refine X.calls 54 [zl a3, zl 0, zl 1] [] [(0, zl a3), (2, zl 0), (4, zl 1)] i252_51 (by decide) rfl rfl (by omega) rfl rfl t204 (Nat.le_of_ble_eq_true rfl) (Nat.le_of_ble_eq_true rfl) rfl ?_
            refine X.lload_n 1 i204_0 rfl rfl rfl ?_
            refine X.lload_n 2 i204_1 rfl rfl rfl ?_
            refine X.lcmp 3 i204_2 rfl rfl (fun z517 hz517 => ?_)
            refine X.iflt 17 6 i204_3 rfl rfl rfl (fun h518 => ?_) (fun h518 => ?_)
            · have h518c : a3 < 0 := by omega
              clear h518 hz517
              refine X.cut [] i204_17 rfl ?_
              refine X.iconst 18 i204_17 rfl rfl (by decide) ?_
              refine X.retz i204_18 rfl t204 (by omega) ?_
              show X (EE s) d 252 54 [(0, zr 4 44), (1, zi a1), (2, zi a2), (3, zi a3)] [zi 0] m _
              refine X.ifne 59 57 i252_54 rfl rfl rfl (fun h519 => (by exfalso; omega)) (fun h519 => ?_)
              refine X.cut [] i252_57 rfl ?_
              refine X.iconst 58 i252_57 rfl rfl (by decide) ?_
              refine X.reti i252_58 rfl t252 ?_
              exact hQ (-1) (by first | trivial | omega) (Eq.trans (if_neg h502c) (Eq.trans (if_pos h505c) (Eq.trans (if_neg h508) (Eq.trans (if_neg h511c) (Eq.trans (if_pos h514c) (Eq.trans (if_pos h518c) rfl)))))) 
            · have h518c : ¬ a3 < 0 := by omega
              clear h518 hz517
              refine X.lload_n 7 i204_6 rfl rfl rfl ?_
              refine X.lload 9 i204_7 rfl rfl rfl ?_
              refine X.lcmp 10 i204_9 rfl rfl (fun z520 hz520 => ?_)
              refine X.ifgt 17 13 i204_10 rfl rfl rfl (fun h521 => ?_) (fun h521 => ?_)
              · have h521c : ¬ a3 ≤ 1 := by omega
                clear h521 hz520
                refine X.cut [] i204_17 rfl ?_
                refine X.iconst 18 i204_17 rfl rfl (by decide) ?_
                refine X.retz i204_18 rfl t204 (by omega) ?_
                show X (EE s) d 252 54 [(0, zr 4 44), (1, zi a1), (2, zi a2), (3, zi a3)] [zi 0] m _
                refine X.ifne 59 57 i252_54 rfl rfl rfl (fun h522 => (by exfalso; omega)) (fun h522 => ?_)
                refine X.cut [] i252_57 rfl ?_
                refine X.iconst 58 i252_57 rfl rfl (by decide) ?_
                refine X.reti i252_58 rfl t252 ?_
                exact hQ (-1) (by first | trivial | omega) (Eq.trans (if_neg h502c) (Eq.trans (if_pos h505c) (Eq.trans (if_neg h508) (Eq.trans (if_neg h511c) (Eq.trans (if_pos h514c) (Eq.trans (if_neg h518c) (Eq.trans (if_neg h521c) rfl))))))) 
              · have h521c : a3 ≤ 1 := by omega
                clear h521 hz520
                refine X.iconst 14 i204_13 rfl rfl (by decide) ?_
                refine X.goto 18 i204_14 rfl rfl ?_
                refine X.cut [] i204_18 rfl ?_
                refine X.retz i204_18 rfl t204 (by omega) ?_
                show X (EE s) d 252 54 [(0, zr 4 44), (1, zi a1), (2, zi a2), (3, zi a3)] [zi 1] m _
                refine X.ifne 59 57 i252_54 rfl rfl rfl (fun h523 => ?_) (fun h523 => (by exfalso; omega))
                refine X.aload_n 60 i252_59 rfl rfl rfl ?_
                refine X.getF 63 i252_60 rfl rfl (by decide) rfl rfl ?_
                refine X.iload_n 64 i252_63 rfl rfl rfl ?_
                have hK528 : ∀ (v : Int) , (295 ≤ v ∧ v ≤ 343) → (if a3 = 0 then
                    (295)
                    else
                    (343)) = v → X (EE s) d 252 76 [(1, zi a1), (2, zi a2)] [zi v, zr 4 45] m Q := by
                  intro v525 hv525 hT529
                  refine X.bipush 78 i252_76 rfl rfl (by decide) ?_
                  refine X.iload_n 79 i252_78 rfl rfl rfl ?_
                  refine X.imul 80 i252_79 rfl rfl (by omega) ?_
                  refine X.iadd 81 i252_80 rfl rfl (by omega) ?_
                  refine X.iload_n 82 i252_81 rfl rfl rfl ?_
                  refine X.iadd 83 i252_82 rfl rfl (by omega) ?_
                  refine X.lald 84 i252_83 rfl rfl (by decide) rfl (by omega) ?_
                  have h530 := r45_295 hJ 4 (i := ((v525 + (6 * a1)) + a2)) (by omega)
                  refine X.l2i 85 i252_84 rfl rfl (by omega) ?_
                  refine X.reti i252_85 rfl t252 ?_
                  exact hQ (m 4 45 ((v525 + (6 * a1)) + a2)) (by first | trivial | omega) (Eq.trans (if_neg h502c) (Eq.trans (if_pos h505c) (Eq.trans (if_neg h508) (Eq.trans (if_neg h511c) (Eq.trans (if_pos h514c) (Eq.trans (if_neg h518c) (Eq.trans (if_pos h521c) (Eq.trans (zn_eq hT529.symm) rfl)))))))) 
                refine X.ifne 73 67 i252_64 rfl rfl rfl (fun h524 => ?_) (fun h524 => ?_)
                · refine X.cut [(1, zi a1), (2, zi a2)] i252_73 rfl ?_
                  refine X.sipush 76 i252_73 rfl rfl (by decide) ?_
                  exact hK528 343 (by first | trivial | omega) (Eq.trans (if_neg h524) rfl)
                · refine X.sipush 70 i252_67 rfl rfl (by decide) ?_
                  refine X.goto 76 i252_70 rfl rfl ?_
                  refine X.cut [(1, zi a1), (2, zi a2)] i252_76 rfl ?_
                  exact hK528 295 (by first | trivial | omega) (Eq.trans (if_pos h524) rfl)
      · refine X.aload_n 15 i252_14 rfl rfl rfl ?_
        refine X.getF 18 i252_15 rfl rfl (by decide) rfl rfl ?_
        refine X.sipush 21 i252_18 rfl rfl (by decide) ?_
        refine X.iload_n 22 i252_21 rfl rfl rfl ?_
        refine X.iadd 23 i252_22 rfl rfl (by omega) ?_
        refine X.lald 24 i252_23 rfl rfl (by decide) rfl (by omega) ?_
        have h531 := r45_287 hJ 4 (i := (287 + a1)) (by omega)
        refine X.l2i 25 i252_24 rfl rfl (by omega) ?_
        refine X.reti i252_25 rfl t252 ?_
        exact hQ (m 4 45 (287 + a1)) (by first | trivial | omega) (Eq.trans (if_neg h502c) (Eq.trans (if_pos h505c) (Eq.trans (if_pos h508) rfl))) 
noncomputable def fl153_36_1_b (self : Int → Int → Int) (k59 : Int → Int → Int) (k76 : Int) (g0 : Nat) (y2 y3 : Int) (m : zM) (y4 y5 : Int) : Int :=
  if 105 ≤ y5 then
  (k76)
  else
  (if y2 < y4 then
  (k76)
  else
  (zn (f27_1 g0 y4 m) fun v514 =>
  if v514 = y3 then
  (zn (f37_1 g0 y4 m) fun v518 =>
  self v518 (y5 + 1))
  else
  (k59 y4 y5)))
noncomputable def fl153_36_1 (k59 : Int → Int → Int) (k76 : Int) (g0 : Nat) (y2 y3 : Int) (m : zM) : Nat → Int → Int → Int
  | 0 => fun y4 y5 => 0
  | n + 1 => fl153_36_1_b (fl153_36_1 k59 k76 g0 y2 y3 m n) k59 k76 g0 y2 y3 m
theorem l153_36_1 {s : Nat × (Nat → Int32)} {S : zS} {m0 : zM} {m : zM} {B : Int} {d : Nat} {Q : Option zV → zM → Prop} {R0 : Int} {k59 : Int → Int → Int} {k76 : Int} (g0 : Nat) (y2 y3 : Int) (hd : 16 ≤ d) (hJ : J S m0 B m) (hB9 : B ≤ 1000000000) (hy2 : 1295999 ≤ y2 ∧ y2 ≤ 2000000000) (hy3 : 0 ≤ y3 ∧ y3 ≤ 3)
    (K59 : ∀ (x4 x5 : Int) , (0 ≤ x4 ∧ x4 ≤ 2000000000) → (0 ≤ x5 ∧ x5 ≤ 104) → R0 = k59 x4 x5 → X (EE s) d 153 59 [(0, zr g0 11), (2, zi y2), (3, zi y3), (4, zi x4), (5, zi x5)] [] m Q)
    (K76 : R0 = k76 → X (EE s) d 153 76 [] [] m Q) :
    ∀ (n : Nat) (y4 y5 : Int) , (0 ≤ y4 ∧ y4 ≤ 2000246400) → (0 ≤ y5 ∧ y5 ≤ 105) → 105 - y5 < (n : Int) → R0 = fl153_36_1 k59 k76 g0 y2 y3 m n y4 y5 → X (EE s) d 153 36 [(0, zr g0 11), (2, zi y2), (3, zi y3), (4, zi y4), (5, zi y5)] [] m Q := by
  intro n
  induction n with
  | zero =>
    intro y4 y5 hy4 hy5 hn hR
    exfalso
    omega
  | succ n ih =>
    intro y4 y5 hy4 hy5 hn hR
    replace hR : R0 = fl153_36_1_b (fl153_36_1 k59 k76 g0 y2 y3 m n) k59 k76 g0 y2 y3 m y4 y5 := hR
    refine X.iload 38 i153_36 rfl rfl rfl ?_
    refine X.bipush 40 i153_38 rfl rfl (by decide) ?_
    refine X.icmpge 76 43 i153_40 rfl rfl rfl (fun h510 => ?_) (fun h510 => ?_)
    · refine X.cut [] i153_76 rfl ?_
      exact K76   (Eq.trans hR (Eq.trans (if_pos h510) rfl))
    · refine X.iload 45 i153_43 rfl rfl rfl ?_
      refine X.iload_n 46 i153_45 rfl rfl rfl ?_
      refine X.icmpgt 76 49 i153_46 rfl rfl rfl (fun h511 => ?_) (fun h511 => ?_)
      · refine X.cut [] i153_76 rfl ?_
        exact K76   (Eq.trans hR (Eq.trans (if_neg h510) (Eq.trans (if_pos h511) rfl)))
      · refine X.aload_n 50 i153_49 rfl rfl rfl ?_
        refine X.iload 52 i153_50 rfl rfl rfl ?_
        refine X.callv 55 [zi y4] [] [(0, zr g0 11), (1, zi y4)] i153_52 rfl (by decide) rfl rfl (by omega) rfl rfl (by decide) rfl t27 (Nat.le_of_ble_eq_true rfl) (Nat.le_of_ble_eq_true rfl) rfl ?_
        refine c27_1 (B := B) g0 y4 (by omega) (hJ.up (by omega)) (by omega) (by omega) (fun v514 hv514 hFv514 => ?_)
        show X (EE s) d 153 55 [(0, zr g0 11), (2, zi y2), (3, zi y3), (4, zi y4), (5, zi y5)] [zi v514] m _
        refine X.iload_n 56 i153_55 rfl rfl rfl ?_
        refine X.icmpeq 62 59 i153_56 rfl rfl rfl (fun h515 => ?_) (fun h515 => ?_)
        · refine X.aload_n 63 i153_62 rfl rfl rfl ?_
          refine X.iload 65 i153_63 rfl rfl rfl ?_
          refine X.callv 68 [zi y4] [] [(0, zr g0 11), (1, zi y4)] i153_65 rfl (by decide) rfl rfl (by omega) rfl rfl (by decide) rfl t37 (Nat.le_of_ble_eq_true rfl) (Nat.le_of_ble_eq_true rfl) rfl ?_
          refine c37_1 (B := B) g0 y4 (by omega) (hJ.up (by omega)) (by omega) (by omega) (fun v518 hv518 hFv518 hqv518_0 => ?_)
          show X (EE s) d 153 68 [(0, zr g0 11), (2, zi y2), (3, zi y3), (4, zi y4), (5, zi y5)] [zi v518] m _
          refine X.istore 70 [(0, zr g0 11), (2, zi y2), (3, zi y3), (4, zi v518), (5, zi y5)] i153_68 rfl rfl rfl ?_
          refine X.iinc 73 [(0, zr g0 11), (2, zi y2), (3, zi y3), (4, zi v518), (5, zi (y5 + 1))] i153_70 rfl rfl rfl (by omega) rfl ?_
          refine X.goto 36 i153_73 rfl rfl ?_
          exact ih v518 (y5 + 1) (by omega) (by omega) (by omega) (Eq.trans hR (Eq.trans (if_neg h510) (Eq.trans (if_neg h511) (Eq.trans (zn_eq hFv514.symm) (Eq.trans (if_pos h515) (Eq.trans (zn_eq hFv518.symm) rfl))))))
        · exact K59 y4 y5 (by first | trivial | omega) (by first | trivial | omega) (Eq.trans hR (Eq.trans (if_neg h510) (Eq.trans (if_neg h511) (Eq.trans (zn_eq hFv514.symm) (Eq.trans (if_neg h515) rfl)))))
-- WorkMeter$Calendar.changeAfter
noncomputable def f153_1 (g0 : Nat) (a1 : Int) (m : zM) : Int :=
  zn (f27_1 g0 a1 m) fun v503 =>
  zn (f37_1 g0 a1 m) fun v506 =>
  fl153_36_1 (fun y507 y508 =>
  y507) ((-1)) g0 (min (((((a1 / 86400) + 14) + 1) * 86400) - 1) 2000000000) v503 m (zfu 106) v506 0
-- WorkMeter$Calendar.changeAfter
theorem c153_1 {s : Nat × (Nat → Int32)} {S : zS} {m0 m : zM} {B : Int} {d : Nat} {Q : Option zV → zM → Prop} (g0 : Nat) (a1 : Int) (hd : 16 ≤ d) (hJ : J S m0 B m) (hB : B + 0 ≤ 1000000000) (ha1 : 0 ≤ a1 ∧ a1 ≤ 2000000000) (hQ : ∀ (v : Int), ((-1) ≤ v ∧ v ≤ 2000000000) → f153_1 g0 a1 m = v → Q (some (zi v)) m) : X (EE s) d 153 0 [(0, zr g0 11), (1, zi a1)] [] m Q := by
  refine X.iload_n 1 i153_0 rfl rfl rfl ?_
  refine X.ldc 3 i153_1 rfl rfl (by decide) ?_
  refine X.idiv 4 i153_3 rfl rfl (by omega) ?_
  refine X.bipush 6 i153_4 rfl rfl (by decide) ?_
  refine X.iadd 7 i153_6 rfl rfl (by omega) ?_
  refine X.iconst 8 i153_7 rfl rfl (by decide) ?_
  refine X.iadd 9 i153_8 rfl rfl (by omega) ?_
  refine X.ldc 11 i153_9 rfl rfl (by decide) ?_
  refine X.imul 12 i153_11 rfl rfl (by omega) ?_
  refine X.iconst 13 i153_12 rfl rfl (by decide) ?_
  refine X.isub 14 i153_13 rfl rfl (by omega) ?_
  refine X.ldc 16 i153_14 rfl rfl (by decide) ?_
  refine X.minI 19 i153_16 rfl rfl (by omega) (Nat.le_of_ble_eq_true rfl) ?_
  refine X.istore_n 20 [(0, zr g0 11), (1, zi a1), (2, zi (min (((((a1 / 86400) + 14) + 1) * 86400) - 1) 2000000000))] i153_19 rfl rfl rfl ?_
  refine X.aload_n 21 i153_20 rfl rfl rfl ?_
  refine X.iload_n 22 i153_21 rfl rfl rfl ?_
  refine X.callv 25 [zi a1] [] [(0, zr g0 11), (1, zi a1)] i153_22 rfl (by decide) rfl rfl (by omega) rfl rfl (by decide) rfl t27 (Nat.le_of_ble_eq_true rfl) (Nat.le_of_ble_eq_true rfl) rfl ?_
  refine c27_1 (B := B) g0 a1 (by omega) (hJ.up (by omega)) (by omega) (by omega) (fun v503 hv503 hFv503 => ?_)
  show X (EE s) d 153 25 [(0, zr g0 11), (1, zi a1), (2, zi (min (((((a1 / 86400) + 14) + 1) * 86400) - 1) 2000000000))] [zi v503] m _
  refine X.istore_n 26 [(0, zr g0 11), (1, zi a1), (2, zi (min (((((a1 / 86400) + 14) + 1) * 86400) - 1) 2000000000)), (3, zi v503)] i153_25 rfl rfl rfl ?_
  refine X.aload_n 27 i153_26 rfl rfl rfl ?_
  refine X.iload_n 28 i153_27 rfl rfl rfl ?_
  refine X.callv 31 [zi a1] [] [(0, zr g0 11), (1, zi a1)] i153_28 rfl (by decide) rfl rfl (by omega) rfl rfl (by decide) rfl t37 (Nat.le_of_ble_eq_true rfl) (Nat.le_of_ble_eq_true rfl) rfl ?_
  refine c37_1 (B := B) g0 a1 (by omega) (hJ.up (by omega)) (by omega) (by omega) (fun v506 hv506 hFv506 hqv506_0 => ?_)
  show X (EE s) d 153 31 [(0, zr g0 11), (1, zi a1), (2, zi (min (((((a1 / 86400) + 14) + 1) * 86400) - 1) 2000000000)), (3, zi v503)] [zi v506] m _
  refine X.istore 33 [(0, zr g0 11), (1, zi a1), (2, zi (min (((((a1 / 86400) + 14) + 1) * 86400) - 1) 2000000000)), (3, zi v503), (4, zi v506)] i153_31 rfl rfl rfl ?_
  refine X.iconst 34 i153_33 rfl rfl (by decide) ?_
  refine X.istore 36 [(0, zr g0 11), (1, zi a1), (2, zi (min (((((a1 / 86400) + 14) + 1) * 86400) - 1) 2000000000)), (3, zi v503), (4, zi v506), (5, zi 0)] i153_34 rfl rfl rfl ?_
  refine X.cut [(0, zr g0 11), (2, zi (min (((((a1 / 86400) + 14) + 1) * 86400) - 1) 2000000000)), (3, zi v503), (4, zi v506), (5, zi 0)] i153_36 rfl ?_
  have hz106 := zfu_eq 106
  refine l153_36_1 (s := s) (m := m) (B := B) (d := d) (R0 := (f153_1 g0 a1 m)) g0 (min (((((a1 / 86400) + 14) + 1) * 86400) - 1) 2000000000) v503  (by omega) (hJ.up (by omega)) (by omega) (by omega) (by omega) (fun y507 y508 hby507 hby508 hR512 => ?_) (fun  hR516 => ?_) (zfu 106) v506 0 (by omega) (by omega) (by omega) (Eq.trans (zn_eq hFv503.symm) (Eq.trans (zn_eq hFv506.symm) rfl))
  · refine X.iload 61 i153_59 rfl rfl rfl ?_
    refine X.reti i153_61 rfl t153 ?_
    exact hQ y507 (by first | trivial | omega) (Eq.trans hR512 rfl) 
  · refine X.iconst 77 i153_76 rfl rfl (by decide) ?_
    refine X.reti i153_77 rfl t153 ?_
    exact hQ (-1) (by first | trivial | omega) (Eq.trans hR516 rfl) 
-- WorkMeter.next
noncomputable def f152_1 (a1 : Int) (m : zM) : Int :=
  if a1 < 0 then
  ((-1))
  else
  (if a1 ≤ 1 then
  (zn (f153_1 0 (m 0 8 9) m) fun v506 =>
  if v506 = (-1) then
  (v506)
  else
  (if a1 = 0 then
  (v506)
  else
  (zn (f27_1 0 v506 m) fun v511 =>
  v511)))
  else
  ((-1)))
-- WorkMeter.next
theorem c152_1 {s : Nat × (Nat → Int32)} {S : zS} {m0 m : zM} {B : Int} {d : Nat} {Q : Option zV → zM → Prop} (a1 : Int) (hd : 17 ≤ d) (hJ : J S m0 B m) (hB : B + 0 ≤ 1000000000) (ha1 : (-2147483648) ≤ a1 ∧ a1 ≤ 2147483647) (hQ : ∀ (v : Int), ((-1) ≤ v ∧ v ≤ 2000000000) → f152_1 a1 m = v → Q (some (zi v)) m) : X (EE s) d 152 0 [(0, zr 4 40), (1, zi a1)] [] m Q := by
  refine X.iload_n 1 i152_0 rfl rfl rfl ?_
  refine X.iflt 9 4 i152_1 rfl rfl rfl (fun h501 => ?_) (fun h501 => ?_)
  · refine X.cut [] i152_9 rfl ?_
    refine X.iconst 10 i152_9 rfl rfl (by decide) ?_
    refine X.reti i152_10 rfl t152 ?_
    exact hQ (-1) (by first | trivial | omega) (Eq.trans (if_pos h501) rfl) 
  · refine X.iload_n 5 i152_4 rfl rfl rfl ?_
    refine X.iconst 6 i152_5 rfl rfl (by decide) ?_
    refine X.icmple 11 9 i152_6 rfl rfl rfl (fun h502 => ?_) (fun h502 => ?_)
    · refine X.aload_n 12 i152_11 rfl rfl rfl ?_
      refine X.getF 15 i152_12 rfl rfl (by decide) rfl rfl ?_
      refine X.getR 18 i152_15 rfl rfl (by decide) rfl rfl ?_
      refine X.aload_n 19 i152_18 rfl rfl rfl ?_
      refine X.getF 22 i152_19 rfl rfl (by decide) rfl rfl ?_
      refine X.getI 25 9 i152_22 rfl rfl (by decide) rfl rfl rfl ?_
      have h503 := r8_9 hJ 0
      refine X.callv 28 [zi (m 0 8 9)] [] [(0, zr 0 11), (1, zi (m 0 8 9))] i152_25 rfl (by decide) rfl rfl (by omega) rfl rfl (by decide) rfl t153 (Nat.le_of_ble_eq_true rfl) (Nat.le_of_ble_eq_true rfl) rfl ?_
      refine c153_1 (B := B) 0 (m 0 8 9) (by omega) (hJ.up (by omega)) (by omega) (by omega) (fun v506 hv506 hFv506 => ?_)
      show X (EE s) d 152 28 [(0, zr 4 40), (1, zi a1)] [zi v506] m _
      refine X.istore_n 29 [(0, zr 4 40), (1, zi a1), (2, zi v506)] i152_28 rfl rfl rfl ?_
      refine X.iload_n 30 i152_29 rfl rfl rfl ?_
      refine X.iconst 31 i152_30 rfl rfl (by decide) ?_
      refine X.icmpeq 38 34 i152_31 rfl rfl rfl (fun h507 => ?_) (fun h507 => ?_)
      · refine X.cut [(2, zi v506)] i152_38 rfl ?_
        refine X.iload_n 39 i152_38 rfl rfl rfl ?_
        refine X.reti i152_39 rfl t152 ?_
        exact hQ v506 (by first | trivial | omega) (Eq.trans (if_neg h501) (Eq.trans (if_pos h502) (Eq.trans (zn_eq hFv506.symm) (Eq.trans (if_pos h507) rfl)))) 
      · refine X.iload_n 35 i152_34 rfl rfl rfl ?_
        refine X.ifne 40 38 i152_35 rfl rfl rfl (fun h508 => ?_) (fun h508 => ?_)
        · refine X.cut [(0, zr 4 40), (2, zi v506)] i152_40 rfl ?_
          refine X.aload_n 41 i152_40 rfl rfl rfl ?_
          refine X.getF 44 i152_41 rfl rfl (by decide) rfl rfl ?_
          refine X.getR 47 i152_44 rfl rfl (by decide) rfl rfl ?_
          refine X.iload_n 48 i152_47 rfl rfl rfl ?_
          refine X.callv 51 [zi v506] [] [(0, zr 0 11), (1, zi v506)] i152_48 rfl (by decide) rfl rfl (by omega) rfl rfl (by decide) rfl t27 (Nat.le_of_ble_eq_true rfl) (Nat.le_of_ble_eq_true rfl) rfl ?_
          refine c27_1 (B := B) 0 v506 (by omega) (hJ.up (by omega)) (by omega) (by omega) (fun v511 hv511 hFv511 => ?_)
          show X (EE s) d 152 51 [(0, zr 4 40), (2, zi v506)] [zi v511] m _
          refine X.reti i152_51 rfl t152 ?_
          exact hQ v511 (by first | trivial | omega) (Eq.trans (if_neg h501) (Eq.trans (if_pos h502) (Eq.trans (zn_eq hFv506.symm) (Eq.trans (if_neg h507) (Eq.trans (if_neg h508) (Eq.trans (zn_eq hFv511.symm) rfl)))))) 
        · refine X.cut [(2, zi v506)] i152_38 rfl ?_
          refine X.iload_n 39 i152_38 rfl rfl rfl ?_
          refine X.reti i152_39 rfl t152 ?_
          exact hQ v506 (by first | trivial | omega) (Eq.trans (if_neg h501) (Eq.trans (if_pos h502) (Eq.trans (zn_eq hFv506.symm) (Eq.trans (if_neg h507) (Eq.trans (if_pos h508) rfl))))) 
    · refine X.cut [] i152_9 rfl ?_
      refine X.iconst 10 i152_9 rfl rfl (by decide) ?_
      refine X.reti i152_10 rfl t152 ?_
      exact hQ (-1) (by first | trivial | omega) (Eq.trans (if_neg h501) (Eq.trans (if_neg h502) rfl)) 
