-- WorkMeterModel.block
theorem c299_1 {s : Nat × (Nat → Int32)} {S : zS} {m0 m : zM} {B : Int} {d : Nat} {Q : Option zV → zM → Prop} (a1 : Int) (hd : 13 ≤ d) (hJ : J S m0 B m) (hB : B + 0 ≤ 1000000000) (ha1 : (-2147483648) ≤ a1 ∧ a1 ≤ 2147483647) (hQ : ∀ (v : Int), (True) → f299_1 a1 m = v → Q (some (zl v)) m) : X (EE s) d 299 0 [(0, zr 4 44), (1, zi a1)] [] m Q := by
  refine X.iload_n 1 i299_0 rfl rfl rfl ?_
  by_cases h501 : a1 = 0
  · refine X.tsIn 40 0 i299_1 rfl (by omega) rfl rfl ?_
    refine X.cut [(0, zr 4 44)] i299_40 rfl ?_
    refine X.aload_n 41 i299_40 rfl rfl rfl ?_
    refine X.getF 44 i299_41 rfl rfl (by decide) rfl rfl ?_
    refine X.bipush 46 i299_44 rfl rfl (by decide) ?_
    refine X.lald 47 i299_46 rfl rfl (by decide) rfl (by omega) ?_
    refine X.retl i299_47 rfl t299 ?_
    exact hQ (m 4 45 22) (by first | trivial | omega) (Eq.trans (if_pos h501) rfl) 
  by_cases h502 : a1 = 1
  · refine X.tsIn 48 1 i299_1 rfl (by omega) rfl rfl ?_
    refine X.cut [(0, zr 4 44)] i299_48 rfl ?_
    refine X.aload_n 49 i299_48 rfl rfl rfl ?_
    refine X.getF 52 i299_49 rfl rfl (by decide) rfl rfl ?_
    refine X.bipush 54 i299_52 rfl rfl (by decide) ?_
    refine X.lald 55 i299_54 rfl rfl (by decide) rfl (by omega) ?_
    refine X.retl i299_55 rfl t299 ?_
    exact hQ (m 4 45 23) (by first | trivial | omega) (Eq.trans (if_neg h501) (Eq.trans (if_pos h502) rfl)) 
  by_cases h503 : a1 = 2
  · refine X.tsIn 56 2 i299_1 rfl (by omega) rfl rfl ?_
    refine X.cut [(0, zr 4 44)] i299_56 rfl ?_
    refine X.aload_n 57 i299_56 rfl rfl rfl ?_
    refine X.getF 60 i299_57 rfl rfl (by decide) rfl rfl ?_
    refine X.bipush 62 i299_60 rfl rfl (by decide) ?_
    refine X.lald 63 i299_62 rfl rfl (by decide) rfl (by omega) ?_
    refine X.retl i299_63 rfl t299 ?_
    exact hQ (m 4 45 24) (by first | trivial | omega) (Eq.trans (if_neg h501) (Eq.trans (if_neg h502) (Eq.trans (if_pos h503) rfl))) 
  by_cases h504 : a1 = 3
  · refine X.tsIn 64 3 i299_1 rfl (by omega) rfl rfl ?_
    refine X.cut [(0, zr 4 44)] i299_64 rfl ?_
    refine X.aload_n 65 i299_64 rfl rfl rfl ?_
    refine X.getF 68 i299_65 rfl rfl (by decide) rfl rfl ?_
    refine X.bipush 70 i299_68 rfl rfl (by decide) ?_
    refine X.lald 71 i299_70 rfl rfl (by decide) rfl (by omega) ?_
    refine X.retl i299_71 rfl t299 ?_
    exact hQ (m 4 45 25) (by first | trivial | omega) (Eq.trans (if_neg h501) (Eq.trans (if_neg h502) (Eq.trans (if_neg h503) (Eq.trans (if_pos h504) rfl)))) 
  by_cases h505 : a1 = 4
  · refine X.tsIn 72 4 i299_1 rfl (by omega) rfl rfl ?_
    refine X.cut [(0, zr 4 44)] i299_72 rfl ?_
    refine X.aload_n 73 i299_72 rfl rfl rfl ?_
    refine X.getF 76 i299_73 rfl rfl (by decide) rfl rfl ?_
    refine X.bipush 78 i299_76 rfl rfl (by decide) ?_
    refine X.lald 79 i299_78 rfl rfl (by decide) rfl (by omega) ?_
    refine X.retl i299_79 rfl t299 ?_
    exact hQ (m 4 45 26) (by first | trivial | omega) (Eq.trans (if_neg h501) (Eq.trans (if_neg h502) (Eq.trans (if_neg h503) (Eq.trans (if_neg h504) (Eq.trans (if_pos h505) rfl))))) 
  by_cases h506 : a1 = 5
  · refine X.tsIn 80 5 i299_1 rfl (by omega) rfl rfl ?_
    refine X.cut [(0, zr 4 44)] i299_80 rfl ?_
    refine X.aload_n 81 i299_80 rfl rfl rfl ?_
    refine X.getF 84 i299_81 rfl rfl (by decide) rfl rfl ?_
    refine X.bipush 86 i299_84 rfl rfl (by decide) ?_
    refine X.lald 87 i299_86 rfl rfl (by decide) rfl (by omega) ?_
    refine X.aload_n 88 i299_87 rfl rfl rfl ?_
    refine X.getF 91 i299_88 rfl rfl (by decide) rfl rfl ?_
    refine X.bipush 93 i299_91 rfl rfl (by decide) ?_
    refine X.lald 94 i299_93 rfl rfl (by decide) rfl (by omega) ?_
    refine X.lconst (y := 0) 95 i299_94 rfl rfl rfl ?_
    refine X.lcmp 96 i299_95 rfl rfl (fun z507 hz507 => ?_)
    have hK512 : ∀ (v : Int) , (0 ≤ v ∧ v ≤ 32) → (if (m 4 45 26) ≤ 0 then
        (0)
        else
        (32)) = v → X (EE s) d 299 105 [(0, zr 4 44)] [zi v, zl (m 4 45 27)] m Q := by
      intro v509 hv509 hT513
      refine X.i2l 106 i299_105 rfl rfl ?_
      refine X.llE 107 .lor (fun x y => x ||| y) i299_106 rfl rfl rfl (fun _ _ => rfl) (fun z514 ez514 hz514 => ?_)
      refine X.aload_n 108 i299_107 rfl rfl rfl ?_
      refine X.getF 111 i299_108 rfl rfl (by decide) rfl rfl ?_
      refine X.bipush 113 i299_111 rfl rfl (by decide) ?_
      refine X.lald 114 i299_113 rfl rfl (by decide) rfl (by omega) ?_
      refine X.lconst (y := 1) 115 i299_114 rfl rfl rfl ?_
      refine X.lcmp 116 i299_115 rfl rfl (fun z515 hz515 => ?_)
      have hK520 : ∀ (v : Int) , (0 ≤ v ∧ v ≤ 128) → (if (m 4 45 21) = 1 then
          (128)
          else
          (0)) = v → X (EE s) d 299 126 [] [zi v, zl z514] m Q := by
        intro v517 hv517 hT521
        refine X.i2l 127 i299_126 rfl rfl ?_
        refine X.llE 128 .lor (fun x y => x ||| y) i299_127 rfl rfl rfl (fun _ _ => rfl) (fun z522 ez522 hz522 => ?_)
        refine X.retl i299_128 rfl t299 ?_
        exact hQ z522 (by first | trivial | omega) (Eq.trans (if_neg h501) (Eq.trans (if_neg h502) (Eq.trans (if_neg h503) (Eq.trans (if_neg h504) (Eq.trans (if_neg h505) (Eq.trans (if_pos h506) (Eq.trans (zn_eq hT513.symm) (Eq.trans (zn_eq ez514) (Eq.trans (zn_eq hT521.symm) (Eq.trans (zn_eq ez522) rfl)))))))))) 
      refine X.ifne 125 119 i299_116 rfl rfl rfl (fun h516 => ?_) (fun h516 => ?_)
      · have h516c : ¬ (m 4 45 21) = 1 := by omega
        clear h516 hz515
        refine X.cut [] i299_125 rfl ?_
        refine X.iconst 126 i299_125 rfl rfl (by decide) ?_
        exact hK520 0 (by first | trivial | omega) (Eq.trans (if_neg h516c) rfl)
      · have h516c : (m 4 45 21) = 1 := by omega
        clear h516 hz515
        refine X.sipush 122 i299_119 rfl rfl (by decide) ?_
        refine X.goto 126 i299_122 rfl rfl ?_
        refine X.cut [] i299_126 rfl ?_
        exact hK520 128 (by first | trivial | omega) (Eq.trans (if_pos h516c) rfl)
    refine X.ifle 104 99 i299_96 rfl rfl rfl (fun h508 => ?_) (fun h508 => ?_)
    · have h508c : (m 4 45 26) ≤ 0 := by omega
      clear h508 hz507
      refine X.iconst 105 i299_104 rfl rfl (by decide) ?_
      exact hK512 0 (by first | trivial | omega) (Eq.trans (if_pos h508c) rfl)
    · have h508c : ¬ (m 4 45 26) ≤ 0 := by omega
      clear h508 hz507
      refine X.bipush 101 i299_99 rfl rfl (by decide) ?_
      refine X.goto 105 i299_101 rfl rfl ?_
      exact hK512 32 (by first | trivial | omega) (Eq.trans (if_neg h508c) rfl)
  refine X.tsOut 129 i299_1 rfl (by omega) rfl ?_
  refine X.cut [] i299_129 rfl ?_
  refine X.ldc2 132 i299_129 rfl rfl (by decide) ?_
  refine X.retl i299_132 rfl t299 ?_
  exact hQ (-1) (by first | trivial | omega) (Eq.trans (if_neg h501) (Eq.trans (if_neg h502) (Eq.trans (if_neg h503) (Eq.trans (if_neg h504) (Eq.trans (if_neg h505) (Eq.trans (if_neg h506) rfl)))))) 
-- WorkMeter.demand
noncomputable def f157_1 (a1 : Int) (m : zM) : Int :=
  if a1 = 0 then
  ((m 0 30 2))
  else
  (zn (if a1 = 1 then
  ((m 0 30 3))
  else
  ((-1))) fun v504 =>
  v504)
-- WorkMeter.demand
theorem c157_1 {s : Nat × (Nat → Int32)} {S : zS} {m0 m : zM} {B : Int} {d : Nat} {Q : Option zV → zM → Prop} (a1 : Int) (hd : 13 ≤ d) (hJ : J S m0 B m) (hB : B + 0 ≤ 1000000000) (ha1 : (-2147483648) ≤ a1 ∧ a1 ≤ 2147483647) (hQ : ∀ (v : Int), (True) → f157_1 a1 m = v → Q (some (zl v)) m) : X (EE s) d 157 0 [(0, zr 4 40), (1, zi a1)] [] m Q := by
  refine X.iload_n 1 i157_0 rfl rfl rfl ?_
  refine X.ifne 15 4 i157_1 rfl rfl rfl (fun h501 => ?_) (fun h501 => ?_)
  · refine X.iload_n 16 i157_15 rfl rfl rfl ?_
    refine X.iconst 17 i157_16 rfl rfl (by decide) ?_
    have hK507 : ∀ (v : Int) , ((-2147483648) ≤ v ∧ v ≤ 2147483647) → (if a1 = 1 then
        ((m 0 30 3))
        else
        ((-1))) = v → X (EE s) d 157 37 [] [zl v] m Q := by
      intro v504 hv504 hT508
      refine X.retl i157_37 rfl t157 ?_
      exact hQ v504 (by first | trivial | omega) (Eq.trans (if_neg h501) (Eq.trans (zn_eq hT508.symm) rfl)) 
    refine X.icmpne 34 20 i157_17 rfl rfl rfl (fun h502 => ?_) (fun h502 => ?_)
    · refine X.cut [] i157_34 rfl ?_
      refine X.ldc2 37 i157_34 rfl rfl (by decide) ?_
      exact hK507 (-1) (by first | trivial | omega) (Eq.trans (if_neg h502) rfl)
    · refine X.aload_n 21 i157_20 rfl rfl rfl ?_
      refine X.getF 24 i157_21 rfl rfl (by decide) rfl rfl ?_
      refine X.getR 27 i157_24 rfl rfl (by decide) rfl rfl ?_
      refine X.getIr 30 3 i157_27 rfl rfl (by decide) rfl rfl rfl (fun h503 => ?_)
      refine X.i2l 31 i157_30 rfl rfl ?_
      refine X.goto 37 i157_31 rfl rfl ?_
      refine X.cut [] i157_37 rfl ?_
      exact hK507 (m 0 30 3) (by first | trivial | omega) (Eq.trans (if_pos h502) rfl)
  · refine X.aload_n 5 i157_4 rfl rfl rfl ?_
    refine X.getF 8 i157_5 rfl rfl (by decide) rfl rfl ?_
    refine X.getR 11 i157_8 rfl rfl (by decide) rfl rfl ?_
    refine X.getL 14 2 i157_11 rfl rfl (by decide) rfl rfl rfl ?_
    refine X.retl i157_14 rfl t157 ?_
    exact hQ (m 0 30 2) (by first | trivial | omega) (Eq.trans (if_pos h501) rfl) 
-- WorkMeterModel.demand
noncomputable def f300_1 (a1 : Int) (m : zM) : Int :=
  zn (if a1 = 0 then
  ((m 4 45 19))
  else
  (if a1 = 1 then
  ((m 4 45 20))
  else
  ((-1)))) fun v503 =>
  v503
-- WorkMeterModel.demand
theorem c300_1 {s : Nat × (Nat → Int32)} {S : zS} {m0 m : zM} {B : Int} {d : Nat} {Q : Option zV → zM → Prop} (a1 : Int) (hd : 13 ≤ d) (hJ : J S m0 B m) (hB : B + 0 ≤ 1000000000) (ha1 : (-2147483648) ≤ a1 ∧ a1 ≤ 2147483647) (hQ : ∀ (v : Int), (True) → f300_1 a1 m = v → Q (some (zl v)) m) : X (EE s) d 300 0 [(0, zr 4 44), (1, zi a1)] [] m Q := by
  refine X.iload_n 1 i300_0 rfl rfl rfl ?_
  have hK506 : ∀ (v : Int) , (True) → (if a1 = 0 then
      ((m 4 45 19))
      else
      (if a1 = 1 then
      ((m 4 45 20))
      else
      ((-1)))) = v → X (EE s) d 300 32 [] [zl v] m Q := by
    intro v503 hv503 hT507
    refine X.retl i300_32 rfl t300 ?_
    exact hQ v503 (by first | trivial | omega) (Eq.trans (zn_eq hT507.symm) rfl) 
  refine X.ifne 14 4 i300_1 rfl rfl rfl (fun h501 => ?_) (fun h501 => ?_)
  · refine X.iload_n 15 i300_14 rfl rfl rfl ?_
    refine X.iconst 16 i300_15 rfl rfl (by decide) ?_
    refine X.icmpne 29 19 i300_16 rfl rfl rfl (fun h502 => ?_) (fun h502 => ?_)
    · refine X.cut [] i300_29 rfl ?_
      refine X.ldc2 32 i300_29 rfl rfl (by decide) ?_
      exact hK506 (-1) (by first | trivial | omega) (Eq.trans (if_neg h501) (Eq.trans (if_neg h502) rfl))
    · refine X.aload_n 20 i300_19 rfl rfl rfl ?_
      refine X.getF 23 i300_20 rfl rfl (by decide) rfl rfl ?_
      refine X.bipush 25 i300_23 rfl rfl (by decide) ?_
      refine X.lald 26 i300_25 rfl rfl (by decide) rfl (by omega) ?_
      refine X.goto 32 i300_26 rfl rfl ?_
      refine X.cut [] i300_32 rfl ?_
      exact hK506 (m 4 45 20) (by first | trivial | omega) (Eq.trans (if_neg h501) (Eq.trans (if_pos h502) rfl))
  · refine X.aload_n 5 i300_4 rfl rfl rfl ?_
    refine X.getF 8 i300_5 rfl rfl (by decide) rfl rfl ?_
    refine X.bipush 10 i300_8 rfl rfl (by decide) ?_
    refine X.lald 11 i300_10 rfl rfl (by decide) rfl (by omega) ?_
    refine X.goto 32 i300_11 rfl rfl ?_
    refine X.cut [] i300_32 rfl ?_
    exact hK506 (m 4 45 19) (by first | trivial | omega) (Eq.trans (if_pos h501) rfl)
-- WorkMeter.greatest
noncomputable def f158_1 (a1 a2 : Int) (m : zM) : Int :=
  if a1 < 0 then
  ((-1))
  else
  (if 4 ≤ a1 then
  ((-1))
  else
  (if a2 = 0 then
  ((m 0 31 a1))
  else
  (zn (if a2 = 1 then
  ((m 0 32 a1))
  else
  ((-1))) fun v509 =>
  v509)))
-- WorkMeter.greatest
theorem c158_1 {s : Nat × (Nat → Int32)} {S : zS} {m0 m : zM} {B : Int} {d : Nat} {Q : Option zV → zM → Prop} (a1 a2 : Int) (hd : 13 ≤ d) (hJ : J S m0 B m) (hB : B + 0 ≤ 1000000000) (ha1 : (-2147483648) ≤ a1 ∧ a1 ≤ 2147483647) (ha2 : (-2147483648) ≤ a2 ∧ a2 ≤ 2147483647) (hQ : ∀ (v : Int), (True) → f158_1 a1 a2 m = v → Q (some (zl v)) m) : X (EE s) d 158 0 [(0, zr 4 40), (1, zi a1), (2, zi a2)] [] m Q := by
  refine X.iload_n 1 i158_0 rfl rfl rfl ?_
  refine X.calls 4 [zi a1] [] [(0, zi a1)] i158_1 (by decide) rfl rfl (by omega) rfl rfl t80 (Nat.le_of_ble_eq_true rfl) (Nat.le_of_ble_eq_true rfl) rfl ?_
  refine X.iload_n 1 i80_0 rfl rfl rfl ?_
  refine X.iflt 13 4 i80_1 rfl rfl rfl (fun h501 => ?_) (fun h501 => ?_)
  · refine X.cut [] i80_13 rfl ?_
    refine X.iconst 14 i80_13 rfl rfl (by decide) ?_
    refine X.retz i80_14 rfl t80 (by omega) ?_
    show X (EE s) d 158 4 [(0, zr 4 40), (1, zi a1), (2, zi a2)] [zi 0] m _
    refine X.ifne 11 7 i158_4 rfl rfl rfl (fun h502 => (by exfalso; omega)) (fun h502 => ?_)
    refine X.ldc2 10 i158_7 rfl rfl (by decide) ?_
    refine X.retl i158_10 rfl t158 ?_
    exact hQ (-1) (by first | trivial | omega) (Eq.trans (if_pos h501) rfl) 
  · refine X.iload_n 5 i80_4 rfl rfl rfl ?_
    refine X.iconst 6 i80_5 rfl rfl (by decide) ?_
    refine X.icmpge 13 9 i80_6 rfl rfl rfl (fun h503 => ?_) (fun h503 => ?_)
    · refine X.cut [] i80_13 rfl ?_
      refine X.iconst 14 i80_13 rfl rfl (by decide) ?_
      refine X.retz i80_14 rfl t80 (by omega) ?_
      show X (EE s) d 158 4 [(0, zr 4 40), (1, zi a1), (2, zi a2)] [zi 0] m _
      refine X.ifne 11 7 i158_4 rfl rfl rfl (fun h504 => (by exfalso; omega)) (fun h504 => ?_)
      refine X.ldc2 10 i158_7 rfl rfl (by decide) ?_
      refine X.retl i158_10 rfl t158 ?_
      exact hQ (-1) (by first | trivial | omega) (Eq.trans (if_neg h501) (Eq.trans (if_pos h503) rfl)) 
    · refine X.iconst 10 i80_9 rfl rfl (by decide) ?_
      refine X.goto 14 i80_10 rfl rfl ?_
      refine X.cut [] i80_14 rfl ?_
      refine X.retz i80_14 rfl t80 (by omega) ?_
      show X (EE s) d 158 4 [(0, zr 4 40), (1, zi a1), (2, zi a2)] [zi 1] m _
      refine X.ifne 11 7 i158_4 rfl rfl rfl (fun h505 => ?_) (fun h505 => (by exfalso; omega))
      refine X.iload_n 12 i158_11 rfl rfl rfl ?_
      refine X.ifne 28 15 i158_12 rfl rfl rfl (fun h506 => ?_) (fun h506 => ?_)
      · refine X.iload_n 29 i158_28 rfl rfl rfl ?_
        refine X.iconst 30 i158_29 rfl rfl (by decide) ?_
        have hK512 : ∀ (v : Int) , ((-2147483648) ≤ v ∧ v ≤ 2147483647) → (if a2 = 1 then
            ((m 0 32 a1))
            else
            ((-1))) = v → X (EE s) d 158 52 [] [zl v] m Q := by
          intro v509 hv509 hT513
          refine X.retl i158_52 rfl t158 ?_
          exact hQ v509 (by first | trivial | omega) (Eq.trans (if_neg h501) (Eq.trans (if_neg h503) (Eq.trans (if_neg h506) (Eq.trans (zn_eq hT513.symm) rfl)))) 
        refine X.icmpne 49 33 i158_30 rfl rfl rfl (fun h507 => ?_) (fun h507 => ?_)
        · refine X.cut [] i158_49 rfl ?_
          refine X.ldc2 52 i158_49 rfl rfl (by decide) ?_
          exact hK512 (-1) (by first | trivial | omega) (Eq.trans (if_neg h507) rfl)
        · refine X.aload_n 34 i158_33 rfl rfl rfl ?_
          refine X.getF 37 i158_34 rfl rfl (by decide) rfl rfl ?_
          refine X.getR 40 i158_37 rfl rfl (by decide) rfl rfl ?_
          refine X.getR 43 i158_40 rfl rfl (by decide) rfl rfl ?_
          refine X.iload_n 44 i158_43 rfl rfl rfl ?_
          refine X.ialdr 45 i158_44 rfl rfl (by decide) rfl (by omega) (fun h508 => ?_)
          refine X.i2l 46 i158_45 rfl rfl ?_
          refine X.goto 52 i158_46 rfl rfl ?_
          refine X.cut [] i158_52 rfl ?_
          exact hK512 (m 0 32 a1) (by first | trivial | omega) (Eq.trans (if_pos h507) rfl)
      · refine X.aload_n 16 i158_15 rfl rfl rfl ?_
        refine X.getF 19 i158_16 rfl rfl (by decide) rfl rfl ?_
        refine X.getR 22 i158_19 rfl rfl (by decide) rfl rfl ?_
        refine X.getR 25 i158_22 rfl rfl (by decide) rfl rfl ?_
        refine X.iload_n 26 i158_25 rfl rfl rfl ?_
        refine X.lald 27 i158_26 rfl rfl (by decide) rfl (by omega) ?_
        refine X.retl i158_27 rfl t158 ?_
        exact hQ (m 0 31 a1) (by first | trivial | omega) (Eq.trans (if_neg h501) (Eq.trans (if_neg h503) (Eq.trans (if_pos h506) rfl))) 
-- WorkMeterModel.greatest
noncomputable def f301_1 (a1 a2 : Int) (m : zM) : Int :=
  if a1 < 0 then
  ((-1))
  else
  (if a1 ≤ 3 then
  (zn (if a2 = 0 then
  ((m 4 45 (32 + a1)))
  else
  (if a2 = 1 then
  ((m 4 45 (36 + a1)))
  else
  ((-1)))) fun v510 =>
  v510)
  else
  ((-1)))
-- WorkMeterModel.greatest
theorem c301_1 {s : Nat × (Nat → Int32)} {S : zS} {m0 m : zM} {B : Int} {d : Nat} {Q : Option zV → zM → Prop} (a1 a2 : Int) (hd : 13 ≤ d) (hJ : J S m0 B m) (hB : B + 0 ≤ 1000000000) (ha1 : (-2147483648) ≤ a1 ∧ a1 ≤ 2147483647) (ha2 : (-2147483648) ≤ a2 ∧ a2 ≤ 2147483647) (hQ : ∀ (v : Int), (True) → f301_1 a1 a2 m = v → Q (some (zl v)) m) : X (EE s) d 301 0 [(0, zr 4 44), (1, zi a1), (2, zi a2)] [] m Q := by
  refine X.iload_n 1 i301_0 rfl rfl rfl ?_
  refine X.calls 4 [zi a1] [] [(0, zi a1)] i301_1 (by decide) rfl rfl (by omega) rfl rfl t242 (Nat.le_of_ble_eq_true rfl) (Nat.le_of_ble_eq_true rfl) rfl ?_
  refine X.iload_n 1 i242_0 rfl rfl rfl ?_
  refine X.i2l 2 i242_1 rfl rfl ?_
  refine X.lconst (y := 0) 3 i242_2 rfl rfl rfl ?_
  refine X.ldc2 6 i242_3 rfl rfl (by decide) ?_
  refine X.calls 9 [zl a1, zl 0, zl 3] [] [(0, zl a1), (2, zl 0), (4, zl 3)] i242_6 (by decide) rfl rfl (by omega) rfl rfl t204 (Nat.le_of_ble_eq_true rfl) (Nat.le_of_ble_eq_true rfl) rfl ?_
  refine X.lload_n 1 i204_0 rfl rfl rfl ?_
  refine X.lload_n 2 i204_1 rfl rfl rfl ?_
  refine X.lcmp 3 i204_2 rfl rfl (fun z501 hz501 => ?_)
  refine X.iflt 17 6 i204_3 rfl rfl rfl (fun h502 => ?_) (fun h502 => ?_)
  · have h502c : a1 < 0 := by omega
    clear h502 hz501
    refine X.cut [] i204_17 rfl ?_
    refine X.iconst 18 i204_17 rfl rfl (by decide) ?_
    refine X.retz i204_18 rfl t204 (by omega) ?_
    show X (EE s) (d - 1) 242 9 [(0, zi a1)] [zi 0] m _
    refine X.retz i242_9 rfl t242 (by omega) ?_
    show X (EE s) d 301 4 [(0, zr 4 44), (1, zi a1), (2, zi a2)] [zi 0] m _
    refine X.ifne 11 7 i301_4 rfl rfl rfl (fun h503 => (by exfalso; omega)) (fun h503 => ?_)
    refine X.ldc2 10 i301_7 rfl rfl (by decide) ?_
    refine X.retl i301_10 rfl t301 ?_
    exact hQ (-1) (by first | trivial | omega) (Eq.trans (if_pos h502c) rfl) 
  · have h502c : ¬ a1 < 0 := by omega
    clear h502 hz501
    refine X.lload_n 7 i204_6 rfl rfl rfl ?_
    refine X.lload 9 i204_7 rfl rfl rfl ?_
    refine X.lcmp 10 i204_9 rfl rfl (fun z504 hz504 => ?_)
    refine X.ifgt 17 13 i204_10 rfl rfl rfl (fun h505 => ?_) (fun h505 => ?_)
    · have h505c : ¬ a1 ≤ 3 := by omega
      clear h505 hz504
      refine X.cut [] i204_17 rfl ?_
      refine X.iconst 18 i204_17 rfl rfl (by decide) ?_
      refine X.retz i204_18 rfl t204 (by omega) ?_
      show X (EE s) (d - 1) 242 9 [(0, zi a1)] [zi 0] m _
      refine X.retz i242_9 rfl t242 (by omega) ?_
      show X (EE s) d 301 4 [(0, zr 4 44), (1, zi a1), (2, zi a2)] [zi 0] m _
      refine X.ifne 11 7 i301_4 rfl rfl rfl (fun h506 => (by exfalso; omega)) (fun h506 => ?_)
      refine X.ldc2 10 i301_7 rfl rfl (by decide) ?_
      refine X.retl i301_10 rfl t301 ?_
      exact hQ (-1) (by first | trivial | omega) (Eq.trans (if_neg h502c) (Eq.trans (if_neg h505c) rfl)) 
    · have h505c : a1 ≤ 3 := by omega
      clear h505 hz504
      refine X.iconst 14 i204_13 rfl rfl (by decide) ?_
      refine X.goto 18 i204_14 rfl rfl ?_
      refine X.cut [] i204_18 rfl ?_
      refine X.retz i204_18 rfl t204 (by omega) ?_
      show X (EE s) (d - 1) 242 9 [(0, zi a1)] [zi 1] m _
      refine X.retz i242_9 rfl t242 (by omega) ?_
      show X (EE s) d 301 4 [(0, zr 4 44), (1, zi a1), (2, zi a2)] [zi 1] m _
      refine X.ifne 11 7 i301_4 rfl rfl rfl (fun h507 => ?_) (fun h507 => (by exfalso; omega))
      refine X.iload_n 12 i301_11 rfl rfl rfl ?_
      have hK513 : ∀ (v : Int) , (True) → (if a2 = 0 then
          ((m 4 45 (32 + a1)))
          else
          (if a2 = 1 then
          ((m 4 45 (36 + a1)))
          else
          ((-1)))) = v → X (EE s) d 301 47 [] [zl v] m Q := by
        intro v510 hv510 hT514
        refine X.retl i301_47 rfl t301 ?_
        exact hQ v510 (by first | trivial | omega) (Eq.trans (if_neg h502c) (Eq.trans (if_pos h505c) (Eq.trans (zn_eq hT514.symm) rfl))) 
      refine X.ifne 27 15 i301_12 rfl rfl rfl (fun h508 => ?_) (fun h508 => ?_)
      · refine X.iload_n 28 i301_27 rfl rfl rfl ?_
        refine X.iconst 29 i301_28 rfl rfl (by decide) ?_
        refine X.icmpne 44 32 i301_29 rfl rfl rfl (fun h509 => ?_) (fun h509 => ?_)
        · refine X.cut [] i301_44 rfl ?_
          refine X.ldc2 47 i301_44 rfl rfl (by decide) ?_
          exact hK513 (-1) (by first | trivial | omega) (Eq.trans (if_neg h508) (Eq.trans (if_neg h509) rfl))
        · refine X.aload_n 33 i301_32 rfl rfl rfl ?_
          refine X.getF 36 i301_33 rfl rfl (by decide) rfl rfl ?_
          refine X.bipush 38 i301_36 rfl rfl (by decide) ?_
          refine X.iload_n 39 i301_38 rfl rfl rfl ?_
          refine X.iadd 40 i301_39 rfl rfl (by omega) ?_
          refine X.lald 41 i301_40 rfl rfl (by decide) rfl (by omega) ?_
          refine X.goto 47 i301_41 rfl rfl ?_
          refine X.cut [] i301_47 rfl ?_
          exact hK513 (m 4 45 (36 + a1)) (by first | trivial | omega) (Eq.trans (if_neg h508) (Eq.trans (if_pos h509) rfl))
      · refine X.aload_n 16 i301_15 rfl rfl rfl ?_
        refine X.getF 19 i301_16 rfl rfl (by decide) rfl rfl ?_
        refine X.bipush 21 i301_19 rfl rfl (by decide) ?_
        refine X.iload_n 22 i301_21 rfl rfl rfl ?_
        refine X.iadd 23 i301_22 rfl rfl (by omega) ?_
        refine X.lald 24 i301_23 rfl rfl (by decide) rfl (by omega) ?_
        refine X.goto 47 i301_24 rfl rfl ?_
        refine X.cut [] i301_47 rfl ?_
        exact hK513 (m 4 45 (32 + a1)) (by first | trivial | omega) (Eq.trans (if_pos h508) rfl)
noncomputable def fl72_16_2_b (self : Int → Int → Int) (k37 : Int → Int) (g0 : Nat) (y1 : Int) (m : zM) (y3 y5 : Int) : Int :=
  if 4 ≤ y5 then
  (k37 y3)
  else
  (zn (w64 (y3 + (m g0 26 (y1 + y5)))) fun z506 =>
  self z506 (y5 + 1))
noncomputable def fl72_16_2 (k37 : Int → Int) (g0 : Nat) (y1 : Int) (m : zM) : Nat → Int → Int → Int
  | 0 => fun y3 y5 => 0
  | n + 1 => fl72_16_2_b (fl72_16_2 k37 g0 y1 m n) k37 g0 y1 m
theorem l72_16_2 {s : Nat × (Nat → Int32)} {S : zS} {m0 : zM} {m : zM} {B : Int} {d : Nat} {Q : Option zV → zM → Prop} {R0 : Int} {k37 : Int → Int} (g0 : Nat) (y1 : Int) (hd : 13 ≤ d) (hJ : J S m0 B m) (hB9 : B ≤ 1000000000) (hy1 : 0 ≤ y1 ∧ y1 ≤ 194)
    (K37 : ∀ (x3 : Int) , (True) → R0 = k37 x3 → X (EE s) d 72 37 [(3, zl x3)] [] m Q) :
    ∀ (n : Nat) (y3 y5 : Int) , (0 ≤ y5 ∧ y5 ≤ 4) → 4 - y5 < (n : Int) → R0 = fl72_16_2 k37 g0 y1 m n y3 y5 → X (EE s) d 72 16 [(0, zr g0 26), (1, zi y1), (3, zl y3), (5, zi y5)] [] m Q := by
  intro n
  induction n with
  | zero =>
    intro y3 y5 hy5 hn hR
    exfalso
    omega
  | succ n ih =>
    intro y3 y5 hy5 hn hR
    replace hR : R0 = fl72_16_2_b (fl72_16_2 k37 g0 y1 m n) k37 g0 y1 m y3 y5 := hR
    refine X.iload 18 i72_16 rfl rfl rfl ?_
    refine X.iconst 19 i72_18 rfl rfl (by decide) ?_
    refine X.icmpge 37 22 i72_19 rfl rfl rfl (fun h505 => ?_) (fun h505 => ?_)
    · refine X.cut [(3, zl y3)] i72_37 rfl ?_
      exact K37 y3 (by first | trivial | omega) (Eq.trans hR (Eq.trans (if_pos h505) rfl))
    · refine X.lload_n 23 i72_22 rfl rfl rfl ?_
      refine X.aload_n 24 i72_23 rfl rfl rfl ?_
      refine X.iload_n 25 i72_24 rfl rfl rfl ?_
      refine X.iload 27 i72_25 rfl rfl rfl ?_
      refine X.iadd 28 i72_27 rfl rfl (by omega) ?_
      refine X.lald 29 i72_28 rfl rfl (by decide) rfl (by omega) ?_
      refine X.laddW 30 i72_29 rfl rfl (fun z506 ez506 hz506 => ?_)
      refine X.lstore_n 31 [(0, zr g0 26), (1, zi y1), (3, zl z506), (5, zi y5)] i72_30 rfl rfl rfl ?_
      refine X.iinc 34 [(0, zr g0 26), (1, zi y1), (3, zl z506), (5, zi (y5 + 1))] i72_31 rfl rfl rfl (by omega) rfl ?_
      refine X.goto 16 i72_34 rfl rfl ?_
      exact ih z506 (y5 + 1) (by omega) (by omega) (Eq.trans hR (Eq.trans (if_neg h505) (Eq.trans (zn_eq ez506) rfl)))
-- WorkMeter$Registers.sumIn
noncomputable def f72_2 (g0 : Nat) (a1 a2 : Int) (m : zM) : Int :=
  if a2 = (-1) then
  (fl72_16_2 (fun y502 =>
  y502) g0 a1 m (zfu 5) 0 0)
  else
  ((m g0 26 (a1 + a2)))
-- WorkMeter$Registers.sumIn
theorem c72_2 {s : Nat × (Nat → Int32)} {S : zS} {m0 m : zM} {B : Int} {d : Nat} {Q : Option zV → zM → Prop} (g0 : Nat) (a1 a2 : Int) (hd : 13 ≤ d) (hJ : J S m0 B m) (hB : B + 0 ≤ 1000000000) (ha1 : 0 ≤ a1 ∧ a1 ≤ 194) (ha2 : (-1) ≤ a2 ∧ a2 ≤ 3) (hQ : ∀ (v : Int), (True) → f72_2 g0 a1 a2 m = v → Q (some (zl v)) m) : X (EE s) d 72 0 [(0, zr g0 26), (1, zi a1), (2, zi a2)] [] m Q := by
  refine X.iload_n 1 i72_0 rfl rfl rfl ?_
  refine X.iconst 2 i72_1 rfl rfl (by decide) ?_
  refine X.icmpeq 11 5 i72_2 rfl rfl rfl (fun h501 => ?_) (fun h501 => ?_)
  · refine X.cut [(0, zr g0 26), (1, zi a1)] i72_11 rfl ?_
    refine X.lconst (y := 0) 12 i72_11 rfl rfl rfl ?_
    refine X.lstore_n 13 [(0, zr g0 26), (1, zi a1), (3, zl 0)] i72_12 rfl rfl rfl ?_
    refine X.iconst 14 i72_13 rfl rfl (by decide) ?_
    refine X.istore 16 [(0, zr g0 26), (1, zi a1), (3, zl 0), (5, zi 0)] i72_14 rfl rfl rfl ?_
    have hz5 := zfu_eq 5
    refine l72_16_2 (s := s) (m := m) (B := B) (d := d) (R0 := (f72_2 g0 a1 a2 m)) g0 a1  (by omega) (hJ.up (by omega)) (by omega) (by omega) (fun y502 hby502 hR506 => ?_) (zfu 5) 0 0 (by omega) (by omega) (Eq.trans (if_pos h501) rfl)
    refine X.lload_n 38 i72_37 rfl rfl rfl ?_
    refine X.retl i72_38 rfl t72 ?_
    exact hQ y502 (by first | trivial | omega) (Eq.trans hR506 rfl) 
  · refine X.aload_n 6 i72_5 rfl rfl rfl ?_
    refine X.iload_n 7 i72_6 rfl rfl rfl ?_
    refine X.iload_n 8 i72_7 rfl rfl rfl ?_
    refine X.iadd 9 i72_8 rfl rfl (by omega) ?_
    refine X.lald 10 i72_9 rfl rfl (by decide) rfl (by omega) ?_
    refine X.retl i72_10 rfl t72 ?_
    exact hQ (m g0 26 (a1 + a2)) (by first | trivial | omega) (Eq.trans (if_neg h501) rfl) 
-- WorkMeter$Registers.billedSum
noncomputable def f161_1 (g0 : Nat) (a1 a2 a3 : Int) (m : zM) : Int :=
  zn (f72_2 g0 ((((((m g0 23 3) - 1) - a1) % 6) * 33) + (a2 * 4)) a3 m) fun v504 =>
  v504
-- WorkMeter$Registers.billedSum
theorem c161_1 {s : Nat × (Nat → Int32)} {S : zS} {m0 m : zM} {B : Int} {d : Nat} {Q : Option zV → zM → Prop} (g0 : Nat) (a1 a2 a3 : Int) (hd : 14 ≤ d) (hJ : J S m0 B m) (hB : B + 0 ≤ 1000000000) (ha1 : 0 ≤ a1 ∧ a1 ≤ 5) (ha2 : 0 ≤ a2 ∧ a2 ≤ 6) (ha3 : (-1) ≤ a3 ∧ a3 ≤ 3) (hp0 : 0 ≤ a1) (hp1 : a1 < m g0 23 3) (hQ : ∀ (v : Int), (True) → f161_1 g0 a1 a2 a3 m = v → Q (some (zl v)) m) : X (EE s) d 161 0 [(0, zr g0 23), (1, zi a1), (2, zi a2), (3, zi a3)] [] m Q := by
  refine X.aload_n 1 i161_0 rfl rfl rfl ?_
  refine X.getR 4 i161_1 rfl rfl (by decide) rfl rfl ?_
  refine X.aload_n 5 i161_4 rfl rfl rfl ?_
  refine X.iload_n 6 i161_5 rfl rfl rfl ?_
  refine X.callv 9 [zi a1] [zr g0 26] [(0, zr g0 23), (1, zi a1)] i161_6 rfl (by decide) rfl rfl (by omega) rfl rfl (by decide) rfl t162 (Nat.le_of_ble_eq_true rfl) (Nat.le_of_ble_eq_true rfl) rfl ?_
  refine X.aload_n 1 i162_0 rfl rfl rfl ?_
  refine X.getI 4 3 i162_1 rfl rfl (by decide) rfl rfl rfl ?_
  have h501 := r23_3 hJ g0
  refine X.iconst 5 i162_4 rfl rfl (by decide) ?_
  refine X.isub 6 i162_5 rfl rfl (by omega) ?_
  refine X.iload_n 7 i162_6 rfl rfl rfl ?_
  refine X.isub 8 i162_7 rfl rfl (by omega) ?_
  refine X.bipush 10 i162_8 rfl rfl (by decide) ?_
  refine X.irem 11 i162_10 rfl rfl (by omega) ?_
  refine X.bipush 13 i162_11 rfl rfl (by decide) ?_
  refine X.imul 14 i162_13 rfl rfl (by omega) ?_
  refine X.reti i162_14 rfl t162 ?_
  show X (EE s) d 161 9 [(0, zr g0 23), (1, zi a1), (2, zi a2), (3, zi a3)] [zi (((((m g0 23 3) - 1) - a1) % 6) * 33), zr g0 26] m _
  refine X.iload_n 10 i161_9 rfl rfl rfl ?_
  refine X.iconst 11 i161_10 rfl rfl (by decide) ?_
  refine X.imul 12 i161_11 rfl rfl (by omega) ?_
  refine X.iadd 13 i161_12 rfl rfl (by omega) ?_
  refine X.iload_n 14 i161_13 rfl rfl rfl ?_
  refine X.calls 17 [zr g0 26, zi ((((((m g0 23 3) - 1) - a1) % 6) * 33) + (a2 * 4)), zi a3] [] [(0, zr g0 26), (1, zi ((((((m g0 23 3) - 1) - a1) % 6) * 33) + (a2 * 4))), (2, zi a3)] i161_14 (by decide) rfl rfl (by omega) rfl rfl t72 (Nat.le_of_ble_eq_true rfl) (Nat.le_of_ble_eq_true rfl) rfl ?_
  refine c72_2 (B := B) g0 ((((((m g0 23 3) - 1) - a1) % 6) * 33) + (a2 * 4)) a3 (by omega) (hJ.up (by omega)) (by omega) (by omega) (by omega) (fun v504 hv504 hFv504 => ?_)
  show X (EE s) d 161 17 [(0, zr g0 23), (1, zi a1), (2, zi a2), (3, zi a3)] [zl v504] m _
  refine X.retl i161_17 rfl t161 ?_
  exact hQ v504 (by first | trivial | omega) (Eq.trans (zn_eq hFv504.symm) rfl) 
-- WorkMeter.billed
noncomputable def f159_1 (a1 a2 a3 : Int) (m : zM) : Int :=
  if a1 < 0 then
  ((-1))
  else
  (if (min (m 0 23 3) 6) ≤ a1 then
  ((-1))
  else
  (if a2 < 0 then
  ((-1))
  else
  (if 7 ≤ a2 then
  ((-1))
  else
  (if a3 = (-1) then
  (zn (f161_1 0 a1 a2 a3 m) fun v516 =>
  v516)
  else
  (if a3 < 0 then
  ((-1))
  else
  (if 4 ≤ a3 then
  ((-1))
  else
  (zn (f161_1 0 a1 a2 a3 m) fun v527 =>
  v527)))))))
-- WorkMeter.billed
theorem c159_1 {s : Nat × (Nat → Int32)} {S : zS} {m0 m : zM} {B : Int} {d : Nat} {Q : Option zV → zM → Prop} (a1 a2 a3 : Int) (hd : 15 ≤ d) (hJ : J S m0 B m) (hB : B + 0 ≤ 1000000000) (ha1 : (-2147483648) ≤ a1 ∧ a1 ≤ 2147483647) (ha2 : (-2147483648) ≤ a2 ∧ a2 ≤ 2147483647) (ha3 : (-2147483648) ≤ a3 ∧ a3 ≤ 2147483647) (hQ : ∀ (v : Int), (True) → f159_1 a1 a2 a3 m = v → Q (some (zl v)) m) : X (EE s) d 159 0 [(0, zr 4 40), (1, zi a1), (2, zi a2), (3, zi a3)] [] m Q := by
  refine X.aload_n 1 i159_0 rfl rfl rfl ?_
  refine X.getF 4 i159_1 rfl rfl (by decide) rfl rfl ?_
  refine X.getR 7 i159_4 rfl rfl (by decide) rfl rfl ?_
  refine X.iload_n 8 i159_7 rfl rfl rfl ?_
  refine X.callv 11 [zi a1] [] [(0, zr 0 23), (1, zi a1)] i159_8 rfl (by decide) rfl rfl (by omega) rfl rfl (by decide) rfl t160 (Nat.le_of_ble_eq_true rfl) (Nat.le_of_ble_eq_true rfl) rfl ?_
  refine X.iload_n 1 i160_0 rfl rfl rfl ?_
  refine X.iflt 21 4 i160_1 rfl rfl rfl (fun h501 => ?_) (fun h501 => ?_)
  · refine X.cut [] i160_21 rfl ?_
    refine X.iconst 22 i160_21 rfl rfl (by decide) ?_
    refine X.retz i160_22 rfl t160 (by omega) ?_
    show X (EE s) d 159 11 [(0, zr 4 40), (1, zi a1), (2, zi a2), (3, zi a3)] [zi 0] m _
    refine X.ifeq 28 14 i159_11 rfl rfl rfl (fun h502 => ?_) (fun h502 => (by exfalso; omega))
    refine X.cut [] i159_28 rfl ?_
    refine X.ldc2 31 i159_28 rfl rfl (by decide) ?_
    refine X.retl i159_31 rfl t159 ?_
    exact hQ (-1) (by first | trivial | omega) (Eq.trans (if_pos h501) rfl) 
  · refine X.iload_n 5 i160_4 rfl rfl rfl ?_
    refine X.aload_n 6 i160_5 rfl rfl rfl ?_
    refine X.getI 9 3 i160_6 rfl rfl (by decide) rfl rfl rfl ?_
    have h503 := r23_3 hJ 0
    refine X.bipush 11 i160_9 rfl rfl (by decide) ?_
    refine X.minI 14 i160_11 rfl rfl (by omega) (Nat.le_of_ble_eq_true rfl) ?_
    refine X.icmpge 21 17 i160_14 rfl rfl rfl (fun h504 => ?_) (fun h504 => ?_)
    · refine X.cut [] i160_21 rfl ?_
      refine X.iconst 22 i160_21 rfl rfl (by decide) ?_
      refine X.retz i160_22 rfl t160 (by omega) ?_
      show X (EE s) d 159 11 [(0, zr 4 40), (1, zi a1), (2, zi a2), (3, zi a3)] [zi 0] m _
      refine X.ifeq 28 14 i159_11 rfl rfl rfl (fun h505 => ?_) (fun h505 => (by exfalso; omega))
      refine X.cut [] i159_28 rfl ?_
      refine X.ldc2 31 i159_28 rfl rfl (by decide) ?_
      refine X.retl i159_31 rfl t159 ?_
      exact hQ (-1) (by first | trivial | omega) (Eq.trans (if_neg h501) (Eq.trans (if_pos h504) rfl)) 
    · refine X.iconst 18 i160_17 rfl rfl (by decide) ?_
      refine X.goto 22 i160_18 rfl rfl ?_
      refine X.cut [] i160_22 rfl ?_
      refine X.retz i160_22 rfl t160 (by omega) ?_
      show X (EE s) d 159 11 [(0, zr 4 40), (1, zi a1), (2, zi a2), (3, zi a3)] [zi 1] m _
      refine X.ifeq 28 14 i159_11 rfl rfl rfl (fun h506 => (by exfalso; omega)) (fun h506 => ?_)
      refine X.iload_n 15 i159_14 rfl rfl rfl ?_
      refine X.calls 18 [zi a2] [] [(0, zi a2)] i159_15 (by decide) rfl rfl (by omega) rfl rfl t145 (Nat.le_of_ble_eq_true rfl) (Nat.le_of_ble_eq_true rfl) rfl ?_
      refine X.iload_n 1 i145_0 rfl rfl rfl ?_
      refine X.iflt 14 4 i145_1 rfl rfl rfl (fun h507 => ?_) (fun h507 => ?_)
      · refine X.cut [] i145_14 rfl ?_
        refine X.iconst 15 i145_14 rfl rfl (by decide) ?_
        refine X.retz i145_15 rfl t145 (by omega) ?_
        show X (EE s) d 159 18 [(0, zr 4 40), (1, zi a1), (2, zi a2), (3, zi a3)] [zi 0] m _
        refine X.ifeq 28 21 i159_18 rfl rfl rfl (fun h508 => ?_) (fun h508 => (by exfalso; omega))
        refine X.cut [] i159_28 rfl ?_
        refine X.ldc2 31 i159_28 rfl rfl (by decide) ?_
        refine X.retl i159_31 rfl t159 ?_
        exact hQ (-1) (by first | trivial | omega) (Eq.trans (if_neg h501) (Eq.trans (if_neg h504) (Eq.trans (if_pos h507) rfl))) 
      · refine X.iload_n 5 i145_4 rfl rfl rfl ?_
        refine X.bipush 7 i145_5 rfl rfl (by decide) ?_
        refine X.icmpge 14 10 i145_7 rfl rfl rfl (fun h509 => ?_) (fun h509 => ?_)
        · refine X.cut [] i145_14 rfl ?_
          refine X.iconst 15 i145_14 rfl rfl (by decide) ?_
          refine X.retz i145_15 rfl t145 (by omega) ?_
          show X (EE s) d 159 18 [(0, zr 4 40), (1, zi a1), (2, zi a2), (3, zi a3)] [zi 0] m _
          refine X.ifeq 28 21 i159_18 rfl rfl rfl (fun h510 => ?_) (fun h510 => (by exfalso; omega))
          refine X.cut [] i159_28 rfl ?_
          refine X.ldc2 31 i159_28 rfl rfl (by decide) ?_
          refine X.retl i159_31 rfl t159 ?_
          exact hQ (-1) (by first | trivial | omega) (Eq.trans (if_neg h501) (Eq.trans (if_neg h504) (Eq.trans (if_neg h507) (Eq.trans (if_pos h509) rfl)))) 
        · refine X.iconst 11 i145_10 rfl rfl (by decide) ?_
          refine X.goto 15 i145_11 rfl rfl ?_
          refine X.cut [] i145_15 rfl ?_
          refine X.retz i145_15 rfl t145 (by omega) ?_
          show X (EE s) d 159 18 [(0, zr 4 40), (1, zi a1), (2, zi a2), (3, zi a3)] [zi 1] m _
          refine X.ifeq 28 21 i159_18 rfl rfl rfl (fun h511 => (by exfalso; omega)) (fun h511 => ?_)
          refine X.iload_n 22 i159_21 rfl rfl rfl ?_
          refine X.calls 25 [zi a3] [] [(0, zi a3)] i159_22 (by decide) rfl rfl (by omega) rfl rfl t146 (Nat.le_of_ble_eq_true rfl) (Nat.le_of_ble_eq_true rfl) rfl ?_
          refine X.iload_n 1 i146_0 rfl rfl rfl ?_
          refine X.iconst 2 i146_1 rfl rfl (by decide) ?_
          refine X.icmpeq 12 5 i146_2 rfl rfl rfl (fun h512 => ?_) (fun h512 => ?_)
          · refine X.cut [] i146_12 rfl ?_
            refine X.iconst 13 i146_12 rfl rfl (by decide) ?_
            refine X.goto 17 i146_13 rfl rfl ?_
            refine X.retz i146_17 rfl t146 (by omega) ?_
            show X (EE s) d 159 25 [(0, zr 4 40), (1, zi a1), (2, zi a2), (3, zi a3)] [zi 1] m _
            refine X.ifne 32 28 i159_25 rfl rfl rfl (fun h513 => ?_) (fun h513 => (by exfalso; omega))
            refine X.aload_n 33 i159_32 rfl rfl rfl ?_
            refine X.getF 36 i159_33 rfl rfl (by decide) rfl rfl ?_
            refine X.getR 39 i159_36 rfl rfl (by decide) rfl rfl ?_
            refine X.iload_n 40 i159_39 rfl rfl rfl ?_
            refine X.iload_n 41 i159_40 rfl rfl rfl ?_
            refine X.iload_n 42 i159_41 rfl rfl rfl ?_
            refine X.callv 45 [zi a1, zi a2, zi a3] [] [(0, zr 0 23), (1, zi a1), (2, zi a2), (3, zi a3)] i159_42 rfl (by decide) rfl rfl (by omega) rfl rfl (by decide) rfl t161 (Nat.le_of_ble_eq_true rfl) (Nat.le_of_ble_eq_true rfl) rfl ?_
            refine c161_1 (B := B) 0 a1 a2 a3 (by omega) (hJ.up (by omega)) (by omega) (by omega) (by omega) (by omega) (by omega) (by omega) (fun v516 hv516 hFv516 => ?_)
            show X (EE s) d 159 45 [(0, zr 4 40), (1, zi a1), (2, zi a2), (3, zi a3)] [zl v516] m _
            refine X.retl i159_45 rfl t159 ?_
            exact hQ v516 (by first | trivial | omega) (Eq.trans (if_neg h501) (Eq.trans (if_neg h504) (Eq.trans (if_neg h507) (Eq.trans (if_neg h509) (Eq.trans (if_pos h512) (Eq.trans (zn_eq hFv516.symm) rfl)))))) 
          · refine X.iload_n 6 i146_5 rfl rfl rfl ?_
            refine X.calls 9 [zi a3] [] [(0, zi a3)] i146_6 (by decide) rfl rfl (by omega) rfl rfl t80 (Nat.le_of_ble_eq_true rfl) (Nat.le_of_ble_eq_true rfl) rfl ?_
            refine X.iload_n 1 i80_0 rfl rfl rfl ?_
            refine X.iflt 13 4 i80_1 rfl rfl rfl (fun h517 => ?_) (fun h517 => ?_)
            · refine X.cut [] i80_13 rfl ?_
              refine X.iconst 14 i80_13 rfl rfl (by decide) ?_
              refine X.retz i80_14 rfl t80 (by omega) ?_
              show X (EE s) (d - 1) 146 9 [(0, zi a3)] [zi 0] m _
              refine X.ifeq 16 12 i146_9 rfl rfl rfl (fun h518 => ?_) (fun h518 => (by exfalso; omega))
              refine X.cut [] i146_16 rfl ?_
              refine X.iconst 17 i146_16 rfl rfl (by decide) ?_
              refine X.retz i146_17 rfl t146 (by omega) ?_
              show X (EE s) d 159 25 [(0, zr 4 40), (1, zi a1), (2, zi a2), (3, zi a3)] [zi 0] m _
              refine X.ifne 32 28 i159_25 rfl rfl rfl (fun h519 => (by exfalso; omega)) (fun h519 => ?_)
              refine X.cut [] i159_28 rfl ?_
              refine X.ldc2 31 i159_28 rfl rfl (by decide) ?_
              refine X.retl i159_31 rfl t159 ?_
              exact hQ (-1) (by first | trivial | omega) (Eq.trans (if_neg h501) (Eq.trans (if_neg h504) (Eq.trans (if_neg h507) (Eq.trans (if_neg h509) (Eq.trans (if_neg h512) (Eq.trans (if_pos h517) rfl)))))) 
            · refine X.iload_n 5 i80_4 rfl rfl rfl ?_
              refine X.iconst 6 i80_5 rfl rfl (by decide) ?_
              refine X.icmpge 13 9 i80_6 rfl rfl rfl (fun h520 => ?_) (fun h520 => ?_)
              · refine X.cut [] i80_13 rfl ?_
                refine X.iconst 14 i80_13 rfl rfl (by decide) ?_
                refine X.retz i80_14 rfl t80 (by omega) ?_
                show X (EE s) (d - 1) 146 9 [(0, zi a3)] [zi 0] m _
                refine X.ifeq 16 12 i146_9 rfl rfl rfl (fun h521 => ?_) (fun h521 => (by exfalso; omega))
                refine X.cut [] i146_16 rfl ?_
                refine X.iconst 17 i146_16 rfl rfl (by decide) ?_
                refine X.retz i146_17 rfl t146 (by omega) ?_
                show X (EE s) d 159 25 [(0, zr 4 40), (1, zi a1), (2, zi a2), (3, zi a3)] [zi 0] m _
                refine X.ifne 32 28 i159_25 rfl rfl rfl (fun h522 => (by exfalso; omega)) (fun h522 => ?_)
                refine X.cut [] i159_28 rfl ?_
                refine X.ldc2 31 i159_28 rfl rfl (by decide) ?_
                refine X.retl i159_31 rfl t159 ?_
                exact hQ (-1) (by first | trivial | omega) (Eq.trans (if_neg h501) (Eq.trans (if_neg h504) (Eq.trans (if_neg h507) (Eq.trans (if_neg h509) (Eq.trans (if_neg h512) (Eq.trans (if_neg h517) (Eq.trans (if_pos h520) rfl))))))) 
              · refine X.iconst 10 i80_9 rfl rfl (by decide) ?_
                refine X.goto 14 i80_10 rfl rfl ?_
                refine X.cut [] i80_14 rfl ?_
                refine X.retz i80_14 rfl t80 (by omega) ?_
                show X (EE s) (d - 1) 146 9 [(0, zi a3)] [zi 1] m _
                refine X.ifeq 16 12 i146_9 rfl rfl rfl (fun h523 => (by exfalso; omega)) (fun h523 => ?_)
                refine X.cut [] i146_12 rfl ?_
                refine X.iconst 13 i146_12 rfl rfl (by decide) ?_
                refine X.goto 17 i146_13 rfl rfl ?_
                refine X.retz i146_17 rfl t146 (by omega) ?_
                show X (EE s) d 159 25 [(0, zr 4 40), (1, zi a1), (2, zi a2), (3, zi a3)] [zi 1] m _
                refine X.ifne 32 28 i159_25 rfl rfl rfl (fun h524 => ?_) (fun h524 => (by exfalso; omega))
                refine X.aload_n 33 i159_32 rfl rfl rfl ?_
                refine X.getF 36 i159_33 rfl rfl (by decide) rfl rfl ?_
                refine X.getR 39 i159_36 rfl rfl (by decide) rfl rfl ?_
                refine X.iload_n 40 i159_39 rfl rfl rfl ?_
                refine X.iload_n 41 i159_40 rfl rfl rfl ?_
                refine X.iload_n 42 i159_41 rfl rfl rfl ?_
                refine X.callv 45 [zi a1, zi a2, zi a3] [] [(0, zr 0 23), (1, zi a1), (2, zi a2), (3, zi a3)] i159_42 rfl (by decide) rfl rfl (by omega) rfl rfl (by decide) rfl t161 (Nat.le_of_ble_eq_true rfl) (Nat.le_of_ble_eq_true rfl) rfl ?_
                refine c161_1 (B := B) 0 a1 a2 a3 (by omega) (hJ.up (by omega)) (by omega) (by omega) (by omega) (by omega) (by omega) (by omega) (fun v527 hv527 hFv527 => ?_)
                show X (EE s) d 159 45 [(0, zr 4 40), (1, zi a1), (2, zi a2), (3, zi a3)] [zl v527] m _
                refine X.retl i159_45 rfl t159 ?_
                exact hQ v527 (by first | trivial | omega) (Eq.trans (if_neg h501) (Eq.trans (if_neg h504) (Eq.trans (if_neg h507) (Eq.trans (if_neg h509) (Eq.trans (if_neg h512) (Eq.trans (if_neg h517) (Eq.trans (if_neg h520) (Eq.trans (zn_eq hFv527.symm) rfl)))))))) 
-- WorkMeterModel.billAt
noncomputable def f289_1 (a1 : Int) (m : zM) : Int :=
  zn (if (m 4 45 18) < 6 then
  ((m 4 45 18))
  else
  (6)) fun v504 =>
  if a1 < 0 then
  ((-1))
  else
  (if a1 ≤ (v504 - 1) then
  (if (m 4 45 18) < 7 then
  ((1172 + (45 * (((m 4 45 18) - 1) - a1))))
  else
  ((1172 + (45 * ((7 - 1) - a1)))))
  else
  ((-1)))
-- WorkMeterModel.billAt
theorem c289_1 {s : Nat × (Nat → Int32)} {S : zS} {m0 m : zM} {B : Int} {d : Nat} {Q : Option zV → zM → Prop} (a1 : Int) (hd : 13 ≤ d) (hJ : J S m0 B m) (hB : B + 0 ≤ 1000000000) (ha1 : (-2147483648) ≤ a1 ∧ a1 ≤ 2147483647) (hQ : ∀ (v : Int), ((-1) ≤ v ∧ v ≤ 1442) → f289_1 a1 m = v → (v = -1 ∨ v = 1172 ∨ 1217 ≤ v) → Q (some (zi v)) m) : X (EE s) d 289 0 [(0, zr 4 44), (1, zi a1)] [] m Q := by
  refine X.aload_n 1 i289_0 rfl rfl rfl ?_
  refine X.getF 4 i289_1 rfl rfl (by decide) rfl rfl ?_
  refine X.bipush 6 i289_4 rfl rfl (by decide) ?_
  refine X.lald 7 i289_6 rfl rfl (by decide) rfl (by omega) ?_
  have h501 := r45_18 hJ 4
  refine X.ldc2 10 i289_7 rfl rfl (by decide) ?_
  refine X.lcmp 11 i289_10 rfl rfl (fun z502 hz502 => ?_)
  have hK507 : ∀ (v : Int) , (0 ≤ v ∧ v ≤ 6) → (if (m 4 45 18) < 6 then
      ((m 4 45 18))
      else
      (6)) = v → X (EE s) d 289 27 [(0, zr 4 44), (1, zi a1)] [zl v] m Q := by
    intro v504 hv504 hT508
    refine X.l2i 28 i289_27 rfl rfl (by omega) ?_
    refine X.istore_n 29 [(0, zr 4 44), (1, zi a1), (2, zi v504)] i289_28 rfl rfl rfl ?_
    refine X.iload_n 30 i289_29 rfl rfl rfl ?_
    refine X.i2l 31 i289_30 rfl rfl ?_
    refine X.lconst (y := 0) 32 i289_31 rfl rfl rfl ?_
    refine X.iload_n 33 i289_32 rfl rfl rfl ?_
    refine X.iconst 34 i289_33 rfl rfl (by decide) ?_
    refine X.isub 35 i289_34 rfl rfl (by omega) ?_
    refine X.i2l 36 i289_35 rfl rfl ?_
    refine X.calls 39 [zl a1, zl 0, zl (v504 - 1)] [] [(0, zl a1), (2, zl 0), (4, zl (v504 - 1))] i289_36 (by decide) rfl rfl (by omega) rfl rfl t204 (Nat.le_of_ble_eq_true rfl) (Nat.le_of_ble_eq_true rfl) rfl ?_
    refine X.lload_n 1 i204_0 rfl rfl rfl ?_
    refine X.lload_n 2 i204_1 rfl rfl rfl ?_
    refine X.lcmp 3 i204_2 rfl rfl (fun z509 hz509 => ?_)
    refine X.iflt 17 6 i204_3 rfl rfl rfl (fun h510 => ?_) (fun h510 => ?_)
    · have h510c : a1 < 0 := by omega
      clear h510 hz509
      refine X.cut [] i204_17 rfl ?_
      refine X.iconst 18 i204_17 rfl rfl (by decide) ?_
      refine X.retz i204_18 rfl t204 (by omega) ?_
      show X (EE s) d 289 39 [(0, zr 4 44), (1, zi a1), (2, zi v504)] [zi 0] m _
      refine X.ifeq 60 42 i289_39 rfl rfl rfl (fun h511 => ?_) (fun h511 => (by exfalso; omega))
      refine X.cut [] i289_60 rfl ?_
      refine X.iconst 61 i289_60 rfl rfl (by decide) ?_
      refine X.reti i289_61 rfl t289 ?_
      exact hQ (-1) (by first | trivial | omega) (Eq.trans (zn_eq hT508.symm) (Eq.trans (if_pos h510c) rfl)) (by omega)
    · have h510c : ¬ a1 < 0 := by omega
      clear h510 hz509
      refine X.lload_n 7 i204_6 rfl rfl rfl ?_
      refine X.lload 9 i204_7 rfl rfl rfl ?_
      refine X.lcmp 10 i204_9 rfl rfl (fun z512 hz512 => ?_)
      refine X.ifgt 17 13 i204_10 rfl rfl rfl (fun h513 => ?_) (fun h513 => ?_)
      · have h513c : ¬ a1 ≤ (v504 - 1) := by omega
        clear h513 hz512
        refine X.cut [] i204_17 rfl ?_
        refine X.iconst 18 i204_17 rfl rfl (by decide) ?_
        refine X.retz i204_18 rfl t204 (by omega) ?_
        show X (EE s) d 289 39 [(0, zr 4 44), (1, zi a1), (2, zi v504)] [zi 0] m _
        refine X.ifeq 60 42 i289_39 rfl rfl rfl (fun h514 => ?_) (fun h514 => (by exfalso; omega))
        refine X.cut [] i289_60 rfl ?_
        refine X.iconst 61 i289_60 rfl rfl (by decide) ?_
        refine X.reti i289_61 rfl t289 ?_
        exact hQ (-1) (by first | trivial | omega) (Eq.trans (zn_eq hT508.symm) (Eq.trans (if_neg h510c) (Eq.trans (if_neg h513c) rfl))) (by omega)
      · have h513c : a1 ≤ (v504 - 1) := by omega
        clear h513 hz512
        refine X.iconst 14 i204_13 rfl rfl (by decide) ?_
        refine X.goto 18 i204_14 rfl rfl ?_
        refine X.cut [] i204_18 rfl ?_
        refine X.retz i204_18 rfl t204 (by omega) ?_
        show X (EE s) d 289 39 [(0, zr 4 44), (1, zi a1), (2, zi v504)] [zi 1] m _
        refine X.ifeq 60 42 i289_39 rfl rfl rfl (fun h515 => (by exfalso; omega)) (fun h515 => ?_)
        refine X.sipush 45 i289_42 rfl rfl (by decide) ?_
        refine X.bipush 47 i289_45 rfl rfl (by decide) ?_
        refine X.aload_n 48 i289_47 rfl rfl rfl ?_
        refine X.callv 51 [] [zi 45, zi 1172] [(0, zr 4 44)] i289_48 rfl (by decide) rfl rfl (by omega) rfl rfl (by decide) rfl t287 (Nat.le_of_ble_eq_true rfl) (Nat.le_of_ble_eq_true rfl) rfl ?_
        refine X.aload_n 1 i287_0 rfl rfl rfl ?_
        refine X.getF 4 i287_1 rfl rfl (by decide) rfl rfl ?_
        refine X.bipush 6 i287_4 rfl rfl (by decide) ?_
        refine X.lald 7 i287_6 rfl rfl (by decide) rfl (by omega) ?_
        refine X.ldc2 10 i287_7 rfl rfl (by decide) ?_
        refine X.lcmp 11 i287_10 rfl rfl (fun z516 hz516 => ?_)
        refine X.ifge 24 14 i287_11 rfl rfl rfl (fun h517 => ?_) (fun h517 => ?_)
        · have h517c : ¬ (m 4 45 18) < 7 := by omega
          clear h517 hz516
          refine X.cut [] i287_24 rfl ?_
          refine X.ldc2 27 i287_24 rfl rfl (by decide) ?_
          refine X.l2i 28 i287_27 rfl rfl (by omega) ?_
          refine X.reti i287_28 rfl t287 ?_
          show X (EE s) d 289 51 [(0, zr 4 44), (1, zi a1), (2, zi v504)] [zi 7, zi 45, zi 1172] m _
          refine X.iconst 52 i289_51 rfl rfl (by decide) ?_
          refine X.isub 53 i289_52 rfl rfl (by omega) ?_
          refine X.iload_n 54 i289_53 rfl rfl rfl ?_
          refine X.isub 55 i289_54 rfl rfl (by omega) ?_
          refine X.imul 56 i289_55 rfl rfl (by omega) ?_
          refine X.iadd 57 i289_56 rfl rfl (by omega) ?_
          refine X.goto 61 i289_57 rfl rfl ?_
          refine X.cut [] i289_61 rfl ?_
          refine X.reti i289_61 rfl t289 ?_
          exact hQ (1172 + (45 * ((7 - 1) - a1))) (by first | trivial | omega) (Eq.trans (zn_eq hT508.symm) (Eq.trans (if_neg h510c) (Eq.trans (if_pos h513c) (Eq.trans (if_neg h517c) rfl)))) (by omega)
        · have h517c : (m 4 45 18) < 7 := by omega
          clear h517 hz516
          refine X.aload_n 15 i287_14 rfl rfl rfl ?_
          refine X.getF 18 i287_15 rfl rfl (by decide) rfl rfl ?_
          refine X.bipush 20 i287_18 rfl rfl (by decide) ?_
          refine X.lald 21 i287_20 rfl rfl (by decide) rfl (by omega) ?_
          refine X.goto 27 i287_21 rfl rfl ?_
          refine X.cut [] i287_27 rfl ?_
          refine X.l2i 28 i287_27 rfl rfl (by omega) ?_
          refine X.reti i287_28 rfl t287 ?_
          show X (EE s) d 289 51 [(0, zr 4 44), (1, zi a1), (2, zi v504)] [zi (m 4 45 18), zi 45, zi 1172] m _
          refine X.iconst 52 i289_51 rfl rfl (by decide) ?_
          refine X.isub 53 i289_52 rfl rfl (by omega) ?_
          refine X.iload_n 54 i289_53 rfl rfl rfl ?_
          refine X.isub 55 i289_54 rfl rfl (by omega) ?_
          refine X.imul 56 i289_55 rfl rfl (by omega) ?_
          refine X.iadd 57 i289_56 rfl rfl (by omega) ?_
          refine X.goto 61 i289_57 rfl rfl ?_
          refine X.cut [] i289_61 rfl ?_
          refine X.reti i289_61 rfl t289 ?_
          exact hQ (1172 + (45 * (((m 4 45 18) - 1) - a1))) (by first | trivial | omega) (Eq.trans (zn_eq hT508.symm) (Eq.trans (if_neg h510c) (Eq.trans (if_pos h513c) (Eq.trans (if_pos h517c) rfl)))) (by omega)
  refine X.ifge 24 14 i289_11 rfl rfl rfl (fun h503 => ?_) (fun h503 => ?_)
  · have h503c : ¬ (m 4 45 18) < 6 := by omega
    clear h503 hz502
    refine X.ldc2 27 i289_24 rfl rfl (by decide) ?_
    exact hK507 6 (by first | trivial | omega) (Eq.trans (if_neg h503c) rfl)
  · have h503c : (m 4 45 18) < 6 := by omega
    clear h503 hz502
    refine X.aload_n 15 i289_14 rfl rfl rfl ?_
    refine X.getF 18 i289_15 rfl rfl (by decide) rfl rfl ?_
    refine X.bipush 20 i289_18 rfl rfl (by decide) ?_
    refine X.lald 21 i289_20 rfl rfl (by decide) rfl (by omega) ?_
    refine X.goto 27 i289_21 rfl rfl ?_
    exact hK507 (m 4 45 18) (by first | trivial | omega) (Eq.trans (if_pos h503c) rfl)
-- WorkMeterModel.billed
noncomputable def f288_1 (a1 a2 a3 : Int) (m : zM) : Int :=
  zn (f289_1 a1 m) fun v503 =>
  if v503 = (-1) then
  ((-1))
  else
  (if a2 < 0 then
  ((-1))
  else
  (if a2 ≤ 6 then
  (if a3 = (-1) then
  (zn (f291_1 a2 a3 m) fun v518 =>
  zn (if v503 = 1172 then
  (0)
  else
  ((m 4 45 ((v503 - 45) + (1 + v518))))) fun v520 =>
  zn (w64 ((m 4 45 (v503 + (1 + v518))) - v520)) fun z525 =>
  z525)
  else
  (if a3 < 0 then
  ((-1))
  else
  (if a3 ≤ 3 then
  (zn (f291_1 a2 a3 m) fun v538 =>
  zn (if v503 = 1172 then
  (0)
  else
  ((m 4 45 ((v503 - 45) + (1 + v538))))) fun v540 =>
  zn (w64 ((m 4 45 (v503 + (1 + v538))) - v540)) fun z545 =>
  z545)
  else
  ((-1)))))
  else
  ((-1))))
-- WorkMeterModel.billed
theorem c288_1 {s : Nat × (Nat → Int32)} {S : zS} {m0 m : zM} {B : Int} {d : Nat} {Q : Option zV → zM → Prop} (a1 a2 a3 : Int) (hd : 14 ≤ d) (hJ : J S m0 B m) (hB : B + 0 ≤ 1000000000) (ha1 : (-2147483648) ≤ a1 ∧ a1 ≤ 2147483647) (ha2 : (-2147483648) ≤ a2 ∧ a2 ≤ 2147483647) (ha3 : (-2147483648) ≤ a3 ∧ a3 ≤ 2147483647) (hQ : ∀ (v : Int), (True) → f288_1 a1 a2 a3 m = v → Q (some (zl v)) m) : X (EE s) d 288 0 [(0, zr 4 44), (1, zi a1), (2, zi a2), (3, zi a3)] [] m Q := by
  refine X.aload_n 1 i288_0 rfl rfl rfl ?_
  refine X.iload_n 2 i288_1 rfl rfl rfl ?_
  refine X.callv 5 [zi a1] [] [(0, zr 4 44), (1, zi a1)] i288_2 rfl (by decide) rfl rfl (by omega) rfl rfl (by decide) rfl t289 (Nat.le_of_ble_eq_true rfl) (Nat.le_of_ble_eq_true rfl) rfl ?_
  refine c289_1 (B := B)  a1 (by omega) (hJ.up (by omega)) (by omega) (by omega) (fun v503 hv503 hFv503 hqv503_0 => ?_)
  show X (EE s) d 288 5 [(0, zr 4 44), (1, zi a1), (2, zi a2), (3, zi a3)] [zi v503] m _
  refine X.istore 7 [(0, zr 4 44), (1, zi a1), (2, zi a2), (3, zi a3), (4, zi v503)] i288_5 rfl rfl rfl ?_
  refine X.iload 9 i288_7 rfl rfl rfl ?_
  refine X.iconst 10 i288_9 rfl rfl (by decide) ?_
  refine X.icmpeq 21 13 i288_10 rfl rfl rfl (fun h504 => ?_) (fun h504 => ?_)
  · refine X.cut [] i288_21 rfl ?_
    refine X.ldc2 24 i288_21 rfl rfl (by decide) ?_
    refine X.retl i288_24 rfl t288 ?_
    exact hQ (-1) (by first | trivial | omega) (Eq.trans (zn_eq hFv503.symm) (Eq.trans (if_pos h504) rfl)) 
  · refine X.iload_n 14 i288_13 rfl rfl rfl ?_
    refine X.iload_n 15 i288_14 rfl rfl rfl ?_
    refine X.calls 18 [zi a2, zi a3] [] [(0, zi a2), (1, zi a3)] i288_15 (by decide) rfl rfl (by omega) rfl rfl t290 (Nat.le_of_ble_eq_true rfl) (Nat.le_of_ble_eq_true rfl) rfl ?_
    refine X.iload_n 1 i290_0 rfl rfl rfl ?_
    refine X.i2l 2 i290_1 rfl rfl ?_
    refine X.lconst (y := 0) 3 i290_2 rfl rfl rfl ?_
    refine X.ldc2 6 i290_3 rfl rfl (by decide) ?_
    refine X.calls 9 [zl a2, zl 0, zl 6] [] [(0, zl a2), (2, zl 0), (4, zl 6)] i290_6 (by decide) rfl rfl (by omega) rfl rfl t204 (Nat.le_of_ble_eq_true rfl) (Nat.le_of_ble_eq_true rfl) rfl ?_
    refine X.lload_n 1 i204_0 rfl rfl rfl ?_
    refine X.lload_n 2 i204_1 rfl rfl rfl ?_
    refine X.lcmp 3 i204_2 rfl rfl (fun z505 hz505 => ?_)
    refine X.iflt 17 6 i204_3 rfl rfl rfl (fun h506 => ?_) (fun h506 => ?_)
    · have h506c : a2 < 0 := by omega
      clear h506 hz505
      refine X.cut [] i204_17 rfl ?_
      refine X.iconst 18 i204_17 rfl rfl (by decide) ?_
      refine X.retz i204_18 rfl t204 (by omega) ?_
      show X (EE s) (d - 1) 290 9 [(0, zi a2), (1, zi a3)] [zi 0] m _
      refine X.ifeq 28 12 i290_9 rfl rfl rfl (fun h507 => ?_) (fun h507 => (by exfalso; omega))
      refine X.cut [] i290_28 rfl ?_
      refine X.iconst 29 i290_28 rfl rfl (by decide) ?_
      refine X.retz i290_29 rfl t290 (by omega) ?_
      show X (EE s) d 288 18 [(0, zr 4 44), (1, zi a1), (2, zi a2), (3, zi a3), (4, zi v503)] [zi 0] m _
      refine X.ifne 25 21 i288_18 rfl rfl rfl (fun h508 => (by exfalso; omega)) (fun h508 => ?_)
      refine X.cut [] i288_21 rfl ?_
      refine X.ldc2 24 i288_21 rfl rfl (by decide) ?_
      refine X.retl i288_24 rfl t288 ?_
      exact hQ (-1) (by first | trivial | omega) (Eq.trans (zn_eq hFv503.symm) (Eq.trans (if_neg h504) (Eq.trans (if_pos h506c) rfl))) 
    · have h506c : ¬ a2 < 0 := by omega
      clear h506 hz505
      refine X.lload_n 7 i204_6 rfl rfl rfl ?_
      refine X.lload 9 i204_7 rfl rfl rfl ?_
      refine X.lcmp 10 i204_9 rfl rfl (fun z509 hz509 => ?_)
      refine X.ifgt 17 13 i204_10 rfl rfl rfl (fun h510 => ?_) (fun h510 => ?_)
      · have h510c : ¬ a2 ≤ 6 := by omega
        clear h510 hz509
        refine X.cut [] i204_17 rfl ?_
        refine X.iconst 18 i204_17 rfl rfl (by decide) ?_
        refine X.retz i204_18 rfl t204 (by omega) ?_
        show X (EE s) (d - 1) 290 9 [(0, zi a2), (1, zi a3)] [zi 0] m _
        refine X.ifeq 28 12 i290_9 rfl rfl rfl (fun h511 => ?_) (fun h511 => (by exfalso; omega))
        refine X.cut [] i290_28 rfl ?_
        refine X.iconst 29 i290_28 rfl rfl (by decide) ?_
        refine X.retz i290_29 rfl t290 (by omega) ?_
        show X (EE s) d 288 18 [(0, zr 4 44), (1, zi a1), (2, zi a2), (3, zi a3), (4, zi v503)] [zi 0] m _
        refine X.ifne 25 21 i288_18 rfl rfl rfl (fun h512 => (by exfalso; omega)) (fun h512 => ?_)
        refine X.cut [] i288_21 rfl ?_
        refine X.ldc2 24 i288_21 rfl rfl (by decide) ?_
        refine X.retl i288_24 rfl t288 ?_
        exact hQ (-1) (by first | trivial | omega) (Eq.trans (zn_eq hFv503.symm) (Eq.trans (if_neg h504) (Eq.trans (if_neg h506c) (Eq.trans (if_neg h510c) rfl)))) 
      · have h510c : a2 ≤ 6 := by omega
        clear h510 hz509
        refine X.iconst 14 i204_13 rfl rfl (by decide) ?_
        refine X.goto 18 i204_14 rfl rfl ?_
        refine X.cut [] i204_18 rfl ?_
        refine X.retz i204_18 rfl t204 (by omega) ?_
        show X (EE s) (d - 1) 290 9 [(0, zi a2), (1, zi a3)] [zi 1] m _
        refine X.ifeq 28 12 i290_9 rfl rfl rfl (fun h513 => (by exfalso; omega)) (fun h513 => ?_)
        refine X.iload_n 13 i290_12 rfl rfl rfl ?_
        refine X.iconst 14 i290_13 rfl rfl (by decide) ?_
        refine X.icmpeq 24 17 i290_14 rfl rfl rfl (fun h514 => ?_) (fun h514 => ?_)
        · refine X.cut [] i290_24 rfl ?_
          refine X.iconst 25 i290_24 rfl rfl (by decide) ?_
          refine X.goto 29 i290_25 rfl rfl ?_
          refine X.retz i290_29 rfl t290 (by omega) ?_
          show X (EE s) d 288 18 [(0, zr 4 44), (1, zi a1), (2, zi a2), (3, zi a3), (4, zi v503)] [zi 1] m _
          refine X.ifne 25 21 i288_18 rfl rfl rfl (fun h515 => ?_) (fun h515 => (by exfalso; omega))
          refine X.cut [(0, zr 4 44), (2, zi a2), (3, zi a3), (4, zi v503)] i288_25 rfl ?_
          refine X.iconst 26 i288_25 rfl rfl (by decide) ?_
          refine X.iload_n 27 i288_26 rfl rfl rfl ?_
          refine X.iload_n 28 i288_27 rfl rfl rfl ?_
          refine X.calls 31 [zi a2, zi a3] [zi 1] [(0, zi a2), (1, zi a3)] i288_28 (by decide) rfl rfl (by omega) rfl rfl t291 (Nat.le_of_ble_eq_true rfl) (Nat.le_of_ble_eq_true rfl) rfl ?_
          refine c291_1 (B := B)  a2 a3 (by omega) (hJ.up (by omega)) (by omega) (by omega) (by omega) (fun v518 hv518 hFv518 => ?_)
          show X (EE s) d 288 31 [(0, zr 4 44), (2, zi a2), (3, zi a3), (4, zi v503)] [zi v518, zi 1] m _
          refine X.iadd 32 i288_31 rfl rfl (by omega) ?_
          refine X.istore 34 [(0, zr 4 44), (2, zi a2), (3, zi a3), (4, zi v503), (5, zi (1 + v518))] i288_32 rfl rfl rfl ?_
          refine X.aload_n 35 i288_34 rfl rfl rfl ?_
          refine X.getF 38 i288_35 rfl rfl (by decide) rfl rfl ?_
          refine X.iload 40 i288_38 rfl rfl rfl ?_
          refine X.iload 42 i288_40 rfl rfl rfl ?_
          refine X.iadd 43 i288_42 rfl rfl (by omega) ?_
          refine X.lald 44 i288_43 rfl rfl (by decide) rfl (by omega) ?_
          refine X.iload 46 i288_44 rfl rfl rfl ?_
          refine X.sipush 49 i288_46 rfl rfl (by decide) ?_
          have hK523 : ∀ (v : Int) , (True) → (if v503 = 1172 then
              (0)
              else
              ((m 4 45 ((v503 - 45) + (1 + v518))))) = v → X (EE s) d 288 69 [] [zl v, zl (m 4 45 (v503 + (1 + v518)))] m Q := by
            intro v520 hv520 hT524
            refine X.lsubW 70 i288_69 rfl rfl (fun z525 ez525 hz525 => ?_)
            refine X.retl i288_70 rfl t288 ?_
            exact hQ z525 (by first | trivial | omega) (Eq.trans (zn_eq hFv503.symm) (Eq.trans (if_neg h504) (Eq.trans (if_neg h506c) (Eq.trans (if_pos h510c) (Eq.trans (if_pos h514) (Eq.trans (zn_eq hFv518.symm) (Eq.trans (zn_eq hT524.symm) (Eq.trans (zn_eq ez525) rfl)))))))) 
          refine X.icmpne 56 52 i288_49 rfl rfl rfl (fun h519 => ?_) (fun h519 => ?_)
          · refine X.cut [(0, zr 4 44), (4, zi v503), (5, zi (1 + v518))] i288_56 rfl ?_
            refine X.aload_n 57 i288_56 rfl rfl rfl ?_
            refine X.getF 60 i288_57 rfl rfl (by decide) rfl rfl ?_
            refine X.iload 62 i288_60 rfl rfl rfl ?_
            refine X.bipush 64 i288_62 rfl rfl (by decide) ?_
            refine X.isub 65 i288_64 rfl rfl (by omega) ?_
            refine X.iload 67 i288_65 rfl rfl rfl ?_
            refine X.iadd 68 i288_67 rfl rfl (by omega) ?_
            refine X.lald 69 i288_68 rfl rfl (by decide) rfl (by omega) ?_
            refine X.cut [] i288_69 rfl ?_
            exact hK523 (m 4 45 ((v503 - 45) + (1 + v518))) (by first | trivial | omega) (Eq.trans (if_neg h519) rfl)
          · refine X.lconst (y := 0) 53 i288_52 rfl rfl rfl ?_
            refine X.goto 69 i288_53 rfl rfl ?_
            refine X.cut [] i288_69 rfl ?_
            exact hK523 0 (by first | trivial | omega) (Eq.trans (if_pos h519) rfl)
        · refine X.iload_n 18 i290_17 rfl rfl rfl ?_
          refine X.calls 21 [zi a3] [] [(0, zi a3)] i290_18 (by decide) rfl rfl (by omega) rfl rfl t242 (Nat.le_of_ble_eq_true rfl) (Nat.le_of_ble_eq_true rfl) rfl ?_
          refine X.iload_n 1 i242_0 rfl rfl rfl ?_
          refine X.i2l 2 i242_1 rfl rfl ?_
          refine X.lconst (y := 0) 3 i242_2 rfl rfl rfl ?_
          refine X.ldc2 6 i242_3 rfl rfl (by decide) ?_
          refine X.calls 9 [zl a3, zl 0, zl 3] [] [(0, zl a3), (2, zl 0), (4, zl 3)] i242_6 (by decide) rfl rfl (by omega) rfl rfl t204 (Nat.le_of_ble_eq_true rfl) (Nat.le_of_ble_eq_true rfl) rfl ?_
          refine X.lload_n 1 i204_0 rfl rfl rfl ?_
          refine X.lload_n 2 i204_1 rfl rfl rfl ?_
          refine X.lcmp 3 i204_2 rfl rfl (fun z526 hz526 => ?_)
          refine X.iflt 17 6 i204_3 rfl rfl rfl (fun h527 => ?_) (fun h527 => ?_)
          · have h527c : a3 < 0 := by omega
            clear h527 hz526
            refine X.cut [] i204_17 rfl ?_
            refine X.iconst 18 i204_17 rfl rfl (by decide) ?_
            refine X.retz i204_18 rfl t204 (by omega) ?_
            show X (EE s) ((d - 1) - 1) 242 9 [(0, zi a3)] [zi 0] m _
            refine X.retz i242_9 rfl t242 (by omega) ?_
            show X (EE s) (d - 1) 290 21 [(0, zi a2), (1, zi a3)] [zi 0] m _
            refine X.ifeq 28 24 i290_21 rfl rfl rfl (fun h528 => ?_) (fun h528 => (by exfalso; omega))
            refine X.cut [] i290_28 rfl ?_
            refine X.iconst 29 i290_28 rfl rfl (by decide) ?_
            refine X.retz i290_29 rfl t290 (by omega) ?_
            show X (EE s) d 288 18 [(0, zr 4 44), (1, zi a1), (2, zi a2), (3, zi a3), (4, zi v503)] [zi 0] m _
            refine X.ifne 25 21 i288_18 rfl rfl rfl (fun h529 => (by exfalso; omega)) (fun h529 => ?_)
            refine X.cut [] i288_21 rfl ?_
            refine X.ldc2 24 i288_21 rfl rfl (by decide) ?_
            refine X.retl i288_24 rfl t288 ?_
            exact hQ (-1) (by first | trivial | omega) (Eq.trans (zn_eq hFv503.symm) (Eq.trans (if_neg h504) (Eq.trans (if_neg h506c) (Eq.trans (if_pos h510c) (Eq.trans (if_neg h514) (Eq.trans (if_pos h527c) rfl)))))) 
          · have h527c : ¬ a3 < 0 := by omega
            clear h527 hz526
            refine X.lload_n 7 i204_6 rfl rfl rfl ?_
            refine X.lload 9 i204_7 rfl rfl rfl ?_
            refine X.lcmp 10 i204_9 rfl rfl (fun z530 hz530 => ?_)
            refine X.ifgt 17 13 i204_10 rfl rfl rfl (fun h531 => ?_) (fun h531 => ?_)
            · have h531c : ¬ a3 ≤ 3 := by omega
              clear h531 hz530
              refine X.cut [] i204_17 rfl ?_
              refine X.iconst 18 i204_17 rfl rfl (by decide) ?_
              refine X.retz i204_18 rfl t204 (by omega) ?_
              show X (EE s) ((d - 1) - 1) 242 9 [(0, zi a3)] [zi 0] m _
              refine X.retz i242_9 rfl t242 (by omega) ?_
              show X (EE s) (d - 1) 290 21 [(0, zi a2), (1, zi a3)] [zi 0] m _
              refine X.ifeq 28 24 i290_21 rfl rfl rfl (fun h532 => ?_) (fun h532 => (by exfalso; omega))
              refine X.cut [] i290_28 rfl ?_
              refine X.iconst 29 i290_28 rfl rfl (by decide) ?_
              refine X.retz i290_29 rfl t290 (by omega) ?_
              show X (EE s) d 288 18 [(0, zr 4 44), (1, zi a1), (2, zi a2), (3, zi a3), (4, zi v503)] [zi 0] m _
              refine X.ifne 25 21 i288_18 rfl rfl rfl (fun h533 => (by exfalso; omega)) (fun h533 => ?_)
              refine X.cut [] i288_21 rfl ?_
              refine X.ldc2 24 i288_21 rfl rfl (by decide) ?_
              refine X.retl i288_24 rfl t288 ?_
              exact hQ (-1) (by first | trivial | omega) (Eq.trans (zn_eq hFv503.symm) (Eq.trans (if_neg h504) (Eq.trans (if_neg h506c) (Eq.trans (if_pos h510c) (Eq.trans (if_neg h514) (Eq.trans (if_neg h527c) (Eq.trans (if_neg h531c) rfl))))))) 
            · have h531c : a3 ≤ 3 := by omega
              clear h531 hz530
              refine X.iconst 14 i204_13 rfl rfl (by decide) ?_
              refine X.goto 18 i204_14 rfl rfl ?_
              refine X.cut [] i204_18 rfl ?_
              refine X.retz i204_18 rfl t204 (by omega) ?_
              show X (EE s) ((d - 1) - 1) 242 9 [(0, zi a3)] [zi 1] m _
              refine X.retz i242_9 rfl t242 (by omega) ?_
              show X (EE s) (d - 1) 290 21 [(0, zi a2), (1, zi a3)] [zi 1] m _
              refine X.ifeq 28 24 i290_21 rfl rfl rfl (fun h534 => (by exfalso; omega)) (fun h534 => ?_)
              refine X.cut [] i290_24 rfl ?_
              refine X.iconst 25 i290_24 rfl rfl (by decide) ?_
              refine X.goto 29 i290_25 rfl rfl ?_
              refine X.retz i290_29 rfl t290 (by omega) ?_
              show X (EE s) d 288 18 [(0, zr 4 44), (1, zi a1), (2, zi a2), (3, zi a3), (4, zi v503)] [zi 1] m _
              refine X.ifne 25 21 i288_18 rfl rfl rfl (fun h535 => ?_) (fun h535 => (by exfalso; omega))
              refine X.cut [(0, zr 4 44), (2, zi a2), (3, zi a3), (4, zi v503)] i288_25 rfl ?_
              refine X.iconst 26 i288_25 rfl rfl (by decide) ?_
              refine X.iload_n 27 i288_26 rfl rfl rfl ?_
              refine X.iload_n 28 i288_27 rfl rfl rfl ?_
              refine X.calls 31 [zi a2, zi a3] [zi 1] [(0, zi a2), (1, zi a3)] i288_28 (by decide) rfl rfl (by omega) rfl rfl t291 (Nat.le_of_ble_eq_true rfl) (Nat.le_of_ble_eq_true rfl) rfl ?_
              refine c291_1 (B := B)  a2 a3 (by omega) (hJ.up (by omega)) (by omega) (by omega) (by omega) (fun v538 hv538 hFv538 => ?_)
              show X (EE s) d 288 31 [(0, zr 4 44), (2, zi a2), (3, zi a3), (4, zi v503)] [zi v538, zi 1] m _
              refine X.iadd 32 i288_31 rfl rfl (by omega) ?_
              refine X.istore 34 [(0, zr 4 44), (2, zi a2), (3, zi a3), (4, zi v503), (5, zi (1 + v538))] i288_32 rfl rfl rfl ?_
              refine X.aload_n 35 i288_34 rfl rfl rfl ?_
              refine X.getF 38 i288_35 rfl rfl (by decide) rfl rfl ?_
              refine X.iload 40 i288_38 rfl rfl rfl ?_
              refine X.iload 42 i288_40 rfl rfl rfl ?_
              refine X.iadd 43 i288_42 rfl rfl (by omega) ?_
              refine X.lald 44 i288_43 rfl rfl (by decide) rfl (by omega) ?_
              refine X.iload 46 i288_44 rfl rfl rfl ?_
              refine X.sipush 49 i288_46 rfl rfl (by decide) ?_
              have hK543 : ∀ (v : Int) , (True) → (if v503 = 1172 then
                  (0)
                  else
                  ((m 4 45 ((v503 - 45) + (1 + v538))))) = v → X (EE s) d 288 69 [] [zl v, zl (m 4 45 (v503 + (1 + v538)))] m Q := by
                intro v540 hv540 hT544
                refine X.lsubW 70 i288_69 rfl rfl (fun z545 ez545 hz545 => ?_)
                refine X.retl i288_70 rfl t288 ?_
                exact hQ z545 (by first | trivial | omega) (Eq.trans (zn_eq hFv503.symm) (Eq.trans (if_neg h504) (Eq.trans (if_neg h506c) (Eq.trans (if_pos h510c) (Eq.trans (if_neg h514) (Eq.trans (if_neg h527c) (Eq.trans (if_pos h531c) (Eq.trans (zn_eq hFv538.symm) (Eq.trans (zn_eq hT544.symm) (Eq.trans (zn_eq ez545) rfl)))))))))) 
              refine X.icmpne 56 52 i288_49 rfl rfl rfl (fun h539 => ?_) (fun h539 => ?_)
              · refine X.cut [(0, zr 4 44), (4, zi v503), (5, zi (1 + v538))] i288_56 rfl ?_
                refine X.aload_n 57 i288_56 rfl rfl rfl ?_
                refine X.getF 60 i288_57 rfl rfl (by decide) rfl rfl ?_
                refine X.iload 62 i288_60 rfl rfl rfl ?_
                refine X.bipush 64 i288_62 rfl rfl (by decide) ?_
                refine X.isub 65 i288_64 rfl rfl (by omega) ?_
                refine X.iload 67 i288_65 rfl rfl rfl ?_
                refine X.iadd 68 i288_67 rfl rfl (by omega) ?_
                refine X.lald 69 i288_68 rfl rfl (by decide) rfl (by omega) ?_
                refine X.cut [] i288_69 rfl ?_
                exact hK543 (m 4 45 ((v503 - 45) + (1 + v538))) (by first | trivial | omega) (Eq.trans (if_neg h539) rfl)
              · refine X.lconst (y := 0) 53 i288_52 rfl rfl rfl ?_
                refine X.goto 69 i288_53 rfl rfl ?_
                refine X.cut [] i288_69 rfl ?_
                exact hK543 0 (by first | trivial | omega) (Eq.trans (if_pos h539) rfl)
-- WorkMeter.bills
noncomputable def f163_1 (a1 a2 : Int) (m : zM) : Int :=
  if a1 < 0 then
  ((-1))
  else
  (if (min (m 0 23 3) 6) ≤ a1 then
  ((-1))
  else
  (if a2 < 0 then
  ((-1))
  else
  (if a2 ≤ 4 then
  (zn (if a2 = 0 then
  ((m 0 26 ((((((m 0 23 3) - 1) - a1) % 6) * 33) + 32)))
  else
  ((m 0 26 (((((((m 0 23 3) - 1) - a1) % 6) * 33) + 28) + (a2 - 1))))) fun v510 =>
  v510)
  else
  ((-1)))))
-- WorkMeter.bills
theorem c163_1 {s : Nat × (Nat → Int32)} {S : zS} {m0 m : zM} {B : Int} {d : Nat} {Q : Option zV → zM → Prop} (a1 a2 : Int) (hd : 14 ≤ d) (hJ : J S m0 B m) (hB : B + 0 ≤ 1000000000) (ha1 : (-2147483648) ≤ a1 ∧ a1 ≤ 2147483647) (ha2 : (-2147483648) ≤ a2 ∧ a2 ≤ 2147483647) (hQ : ∀ (v : Int), (True) → f163_1 a1 a2 m = v → Q (some (zl v)) m) : X (EE s) d 163 0 [(0, zr 4 40), (1, zi a1), (2, zi a2)] [] m Q := by
  refine X.aload_n 1 i163_0 rfl rfl rfl ?_
  refine X.getF 4 i163_1 rfl rfl (by decide) rfl rfl ?_
  refine X.getR 7 i163_4 rfl rfl (by decide) rfl rfl ?_
  refine X.iload_n 8 i163_7 rfl rfl rfl ?_
  refine X.callv 11 [zi a1] [] [(0, zr 0 23), (1, zi a1)] i163_8 rfl (by decide) rfl rfl (by omega) rfl rfl (by decide) rfl t160 (Nat.le_of_ble_eq_true rfl) (Nat.le_of_ble_eq_true rfl) rfl ?_
  refine X.iload_n 1 i160_0 rfl rfl rfl ?_
  refine X.iflt 21 4 i160_1 rfl rfl rfl (fun h501 => ?_) (fun h501 => ?_)
  · refine X.cut [] i160_21 rfl ?_
    refine X.iconst 22 i160_21 rfl rfl (by decide) ?_
    refine X.retz i160_22 rfl t160 (by omega) ?_
    show X (EE s) d 163 11 [(0, zr 4 40), (1, zi a1), (2, zi a2)] [zi 0] m _
    refine X.ifeq 23 14 i163_11 rfl rfl rfl (fun h502 => ?_) (fun h502 => (by exfalso; omega))
    refine X.cut [] i163_23 rfl ?_
    refine X.ldc2 26 i163_23 rfl rfl (by decide) ?_
    refine X.retl i163_26 rfl t163 ?_
    exact hQ (-1) (by first | trivial | omega) (Eq.trans (if_pos h501) rfl) 
  · refine X.iload_n 5 i160_4 rfl rfl rfl ?_
    refine X.aload_n 6 i160_5 rfl rfl rfl ?_
    refine X.getI 9 3 i160_6 rfl rfl (by decide) rfl rfl rfl ?_
    have h503 := r23_3 hJ 0
    refine X.bipush 11 i160_9 rfl rfl (by decide) ?_
    refine X.minI 14 i160_11 rfl rfl (by omega) (Nat.le_of_ble_eq_true rfl) ?_
    refine X.icmpge 21 17 i160_14 rfl rfl rfl (fun h504 => ?_) (fun h504 => ?_)
    · refine X.cut [] i160_21 rfl ?_
      refine X.iconst 22 i160_21 rfl rfl (by decide) ?_
      refine X.retz i160_22 rfl t160 (by omega) ?_
      show X (EE s) d 163 11 [(0, zr 4 40), (1, zi a1), (2, zi a2)] [zi 0] m _
      refine X.ifeq 23 14 i163_11 rfl rfl rfl (fun h505 => ?_) (fun h505 => (by exfalso; omega))
      refine X.cut [] i163_23 rfl ?_
      refine X.ldc2 26 i163_23 rfl rfl (by decide) ?_
      refine X.retl i163_26 rfl t163 ?_
      exact hQ (-1) (by first | trivial | omega) (Eq.trans (if_neg h501) (Eq.trans (if_pos h504) rfl)) 
    · refine X.iconst 18 i160_17 rfl rfl (by decide) ?_
      refine X.goto 22 i160_18 rfl rfl ?_
      refine X.cut [] i160_22 rfl ?_
      refine X.retz i160_22 rfl t160 (by omega) ?_
      show X (EE s) d 163 11 [(0, zr 4 40), (1, zi a1), (2, zi a2)] [zi 1] m _
      refine X.ifeq 23 14 i163_11 rfl rfl rfl (fun h506 => (by exfalso; omega)) (fun h506 => ?_)
      refine X.iload_n 15 i163_14 rfl rfl rfl ?_
      refine X.iflt 23 18 i163_15 rfl rfl rfl (fun h507 => ?_) (fun h507 => ?_)
      · refine X.cut [] i163_23 rfl ?_
        refine X.ldc2 26 i163_23 rfl rfl (by decide) ?_
        refine X.retl i163_26 rfl t163 ?_
        exact hQ (-1) (by first | trivial | omega) (Eq.trans (if_neg h501) (Eq.trans (if_neg h504) (Eq.trans (if_pos h507) rfl))) 
      · refine X.iload_n 19 i163_18 rfl rfl rfl ?_
        refine X.iconst 20 i163_19 rfl rfl (by decide) ?_
        refine X.icmple 27 23 i163_20 rfl rfl rfl (fun h508 => ?_) (fun h508 => ?_)
        · refine X.iload_n 28 i163_27 rfl rfl rfl ?_
          have hK513 : ∀ (v : Int) , (True) → (if a2 = 0 then
              ((m 0 26 ((((((m 0 23 3) - 1) - a1) % 6) * 33) + 32)))
              else
              ((m 0 26 (((((((m 0 23 3) - 1) - a1) % 6) * 33) + 28) + (a2 - 1))))) = v → X (EE s) d 163 59 [] [zl v] m Q := by
            intro v510 hv510 hT514
            refine X.retl i163_59 rfl t163 ?_
            exact hQ v510 (by first | trivial | omega) (Eq.trans (if_neg h501) (Eq.trans (if_neg h504) (Eq.trans (if_neg h507) (Eq.trans (if_pos h508) (Eq.trans (zn_eq hT514.symm) rfl))))) 
          refine X.ifne 45 31 i163_28 rfl rfl rfl (fun h509 => ?_) (fun h509 => ?_)
          · refine X.aload_n 46 i163_45 rfl rfl rfl ?_
            refine X.getF 49 i163_46 rfl rfl (by decide) rfl rfl ?_
            refine X.getR 52 i163_49 rfl rfl (by decide) rfl rfl ?_
            refine X.iload_n 53 i163_52 rfl rfl rfl ?_
            refine X.iload_n 54 i163_53 rfl rfl rfl ?_
            refine X.iconst 55 i163_54 rfl rfl (by decide) ?_
            refine X.isub 56 i163_55 rfl rfl (by omega) ?_
            refine X.callv 59 [zi a1, zi (a2 - 1)] [] [(0, zr 0 23), (1, zi a1), (2, zi (a2 - 1))] i163_56 rfl (by decide) rfl rfl (by omega) rfl rfl (by decide) rfl t165 (Nat.le_of_ble_eq_true rfl) (Nat.le_of_ble_eq_true rfl) rfl ?_
            refine X.aload_n 1 i165_0 rfl rfl rfl ?_
            refine X.getR 4 i165_1 rfl rfl (by decide) rfl rfl ?_
            refine X.aload_n 5 i165_4 rfl rfl rfl ?_
            refine X.iload_n 6 i165_5 rfl rfl rfl ?_
            refine X.callv 9 [zi a1] [zr 0 26] [(0, zr 0 23), (1, zi a1)] i165_6 rfl (by decide) rfl rfl (by omega) rfl rfl (by decide) rfl t162 (Nat.le_of_ble_eq_true rfl) (Nat.le_of_ble_eq_true rfl) rfl ?_
            refine X.aload_n 1 i162_0 rfl rfl rfl ?_
            refine X.getI 4 3 i162_1 rfl rfl (by decide) rfl rfl rfl ?_
            refine X.iconst 5 i162_4 rfl rfl (by decide) ?_
            refine X.isub 6 i162_5 rfl rfl (by omega) ?_
            refine X.iload_n 7 i162_6 rfl rfl rfl ?_
            refine X.isub 8 i162_7 rfl rfl (by omega) ?_
            refine X.bipush 10 i162_8 rfl rfl (by decide) ?_
            refine X.irem 11 i162_10 rfl rfl (by omega) ?_
            refine X.bipush 13 i162_11 rfl rfl (by decide) ?_
            refine X.imul 14 i162_13 rfl rfl (by omega) ?_
            refine X.reti i162_14 rfl t162 ?_
            show X (EE s) (d - 1) 165 9 [(0, zr 0 23), (1, zi a1), (2, zi (a2 - 1))] [zi (((((m 0 23 3) - 1) - a1) % 6) * 33), zr 0 26] m _
            refine X.bipush 11 i165_9 rfl rfl (by decide) ?_
            refine X.iadd 12 i165_11 rfl rfl (by omega) ?_
            refine X.iload_n 13 i165_12 rfl rfl rfl ?_
            refine X.iadd 14 i165_13 rfl rfl (by omega) ?_
            refine X.lald 15 i165_14 rfl rfl (by decide) rfl (by omega) ?_
            refine X.retl i165_15 rfl t165 ?_
            show X (EE s) d 163 59 [(0, zr 4 40), (1, zi a1), (2, zi a2)] [zl (m 0 26 (((((((m 0 23 3) - 1) - a1) % 6) * 33) + 28) + (a2 - 1)))] m _
            refine X.cut [] i163_59 rfl ?_
            exact hK513 (m 0 26 (((((((m 0 23 3) - 1) - a1) % 6) * 33) + 28) + (a2 - 1))) (by first | trivial | omega) (Eq.trans (if_neg h509) rfl)
          · refine X.aload_n 32 i163_31 rfl rfl rfl ?_
            refine X.getF 35 i163_32 rfl rfl (by decide) rfl rfl ?_
            refine X.getR 38 i163_35 rfl rfl (by decide) rfl rfl ?_
            refine X.iload_n 39 i163_38 rfl rfl rfl ?_
            refine X.callv 42 [zi a1] [] [(0, zr 0 23), (1, zi a1)] i163_39 rfl (by decide) rfl rfl (by omega) rfl rfl (by decide) rfl t164 (Nat.le_of_ble_eq_true rfl) (Nat.le_of_ble_eq_true rfl) rfl ?_
            refine X.aload_n 1 i164_0 rfl rfl rfl ?_
            refine X.getR 4 i164_1 rfl rfl (by decide) rfl rfl ?_
            refine X.aload_n 5 i164_4 rfl rfl rfl ?_
            refine X.iload_n 6 i164_5 rfl rfl rfl ?_
            refine X.callv 9 [zi a1] [zr 0 26] [(0, zr 0 23), (1, zi a1)] i164_6 rfl (by decide) rfl rfl (by omega) rfl rfl (by decide) rfl t162 (Nat.le_of_ble_eq_true rfl) (Nat.le_of_ble_eq_true rfl) rfl ?_
            refine X.aload_n 1 i162_0 rfl rfl rfl ?_
            refine X.getI 4 3 i162_1 rfl rfl (by decide) rfl rfl rfl ?_
            refine X.iconst 5 i162_4 rfl rfl (by decide) ?_
            refine X.isub 6 i162_5 rfl rfl (by omega) ?_
            refine X.iload_n 7 i162_6 rfl rfl rfl ?_
            refine X.isub 8 i162_7 rfl rfl (by omega) ?_
            refine X.bipush 10 i162_8 rfl rfl (by decide) ?_
            refine X.irem 11 i162_10 rfl rfl (by omega) ?_
            refine X.bipush 13 i162_11 rfl rfl (by decide) ?_
            refine X.imul 14 i162_13 rfl rfl (by omega) ?_
            refine X.reti i162_14 rfl t162 ?_
            show X (EE s) (d - 1) 164 9 [(0, zr 0 23), (1, zi a1)] [zi (((((m 0 23 3) - 1) - a1) % 6) * 33), zr 0 26] m _
            refine X.bipush 11 i164_9 rfl rfl (by decide) ?_
            refine X.iadd 12 i164_11 rfl rfl (by omega) ?_
            refine X.lald 13 i164_12 rfl rfl (by decide) rfl (by omega) ?_
            refine X.retl i164_13 rfl t164 ?_
            show X (EE s) d 163 42 [(0, zr 4 40), (1, zi a1), (2, zi a2)] [zl (m 0 26 ((((((m 0 23 3) - 1) - a1) % 6) * 33) + 32))] m _
            refine X.goto 59 i163_42 rfl rfl ?_
            refine X.cut [] i163_59 rfl ?_
            exact hK513 (m 0 26 ((((((m 0 23 3) - 1) - a1) % 6) * 33) + 32)) (by first | trivial | omega) (Eq.trans (if_pos h509) rfl)
        · refine X.cut [] i163_23 rfl ?_
          refine X.ldc2 26 i163_23 rfl rfl (by decide) ?_
          refine X.retl i163_26 rfl t163 ?_
          exact hQ (-1) (by first | trivial | omega) (Eq.trans (if_neg h501) (Eq.trans (if_neg h504) (Eq.trans (if_neg h507) (Eq.trans (if_neg h508) rfl)))) 
-- WorkMeterModel.bills
noncomputable def f292_1 (a1 a2 : Int) (m : zM) : Int :=
  zn (f289_1 a1 m) fun v503 =>
  if v503 = (-1) then
  ((-1))
  else
  (if a2 < 0 then
  ((-1))
  else
  (if a2 ≤ 4 then
  (zn (if a2 = 0 then
  ((m 4 45 v503))
  else
  ((m 4 45 ((v503 + 35) + a2)))) fun v513 =>
  v513)
  else
  ((-1))))
-- WorkMeterModel.bills
theorem c292_1 {s : Nat × (Nat → Int32)} {S : zS} {m0 m : zM} {B : Int} {d : Nat} {Q : Option zV → zM → Prop} (a1 a2 : Int) (hd : 14 ≤ d) (hJ : J S m0 B m) (hB : B + 0 ≤ 1000000000) (ha1 : (-2147483648) ≤ a1 ∧ a1 ≤ 2147483647) (ha2 : (-2147483648) ≤ a2 ∧ a2 ≤ 2147483647) (hQ : ∀ (v : Int), (True) → f292_1 a1 a2 m = v → Q (some (zl v)) m) : X (EE s) d 292 0 [(0, zr 4 44), (1, zi a1), (2, zi a2)] [] m Q := by
  refine X.aload_n 1 i292_0 rfl rfl rfl ?_
  refine X.iload_n 2 i292_1 rfl rfl rfl ?_
  refine X.callv 5 [zi a1] [] [(0, zr 4 44), (1, zi a1)] i292_2 rfl (by decide) rfl rfl (by omega) rfl rfl (by decide) rfl t289 (Nat.le_of_ble_eq_true rfl) (Nat.le_of_ble_eq_true rfl) rfl ?_
  refine c289_1 (B := B)  a1 (by omega) (hJ.up (by omega)) (by omega) (by omega) (fun v503 hv503 hFv503 hqv503_0 => ?_)
  show X (EE s) d 292 5 [(0, zr 4 44), (1, zi a1), (2, zi a2)] [zi v503] m _
  refine X.istore_n 6 [(0, zr 4 44), (1, zi a1), (2, zi a2), (3, zi v503)] i292_5 rfl rfl rfl ?_
  refine X.iload_n 7 i292_6 rfl rfl rfl ?_
  refine X.iconst 8 i292_7 rfl rfl (by decide) ?_
  refine X.icmpeq 23 11 i292_8 rfl rfl rfl (fun h504 => ?_) (fun h504 => ?_)
  · refine X.cut [] i292_23 rfl ?_
    refine X.ldc2 26 i292_23 rfl rfl (by decide) ?_
    refine X.retl i292_26 rfl t292 ?_
    exact hQ (-1) (by first | trivial | omega) (Eq.trans (zn_eq hFv503.symm) (Eq.trans (if_pos h504) rfl)) 
  · refine X.iload_n 12 i292_11 rfl rfl rfl ?_
    refine X.i2l 13 i292_12 rfl rfl ?_
    refine X.lconst (y := 0) 14 i292_13 rfl rfl rfl ?_
    refine X.ldc2 17 i292_14 rfl rfl (by decide) ?_
    refine X.calls 20 [zl a2, zl 0, zl 4] [] [(0, zl a2), (2, zl 0), (4, zl 4)] i292_17 (by decide) rfl rfl (by omega) rfl rfl t204 (Nat.le_of_ble_eq_true rfl) (Nat.le_of_ble_eq_true rfl) rfl ?_
    refine X.lload_n 1 i204_0 rfl rfl rfl ?_
    refine X.lload_n 2 i204_1 rfl rfl rfl ?_
    refine X.lcmp 3 i204_2 rfl rfl (fun z505 hz505 => ?_)
    refine X.iflt 17 6 i204_3 rfl rfl rfl (fun h506 => ?_) (fun h506 => ?_)
    · have h506c : a2 < 0 := by omega
      clear h506 hz505
      refine X.cut [] i204_17 rfl ?_
      refine X.iconst 18 i204_17 rfl rfl (by decide) ?_
      refine X.retz i204_18 rfl t204 (by omega) ?_
      show X (EE s) d 292 20 [(0, zr 4 44), (1, zi a1), (2, zi a2), (3, zi v503)] [zi 0] m _
      refine X.ifne 27 23 i292_20 rfl rfl rfl (fun h507 => (by exfalso; omega)) (fun h507 => ?_)
      refine X.cut [] i292_23 rfl ?_
      refine X.ldc2 26 i292_23 rfl rfl (by decide) ?_
      refine X.retl i292_26 rfl t292 ?_
      exact hQ (-1) (by first | trivial | omega) (Eq.trans (zn_eq hFv503.symm) (Eq.trans (if_neg h504) (Eq.trans (if_pos h506c) rfl))) 
    · have h506c : ¬ a2 < 0 := by omega
      clear h506 hz505
      refine X.lload_n 7 i204_6 rfl rfl rfl ?_
      refine X.lload 9 i204_7 rfl rfl rfl ?_
      refine X.lcmp 10 i204_9 rfl rfl (fun z508 hz508 => ?_)
      refine X.ifgt 17 13 i204_10 rfl rfl rfl (fun h509 => ?_) (fun h509 => ?_)
      · have h509c : ¬ a2 ≤ 4 := by omega
        clear h509 hz508
        refine X.cut [] i204_17 rfl ?_
        refine X.iconst 18 i204_17 rfl rfl (by decide) ?_
        refine X.retz i204_18 rfl t204 (by omega) ?_
        show X (EE s) d 292 20 [(0, zr 4 44), (1, zi a1), (2, zi a2), (3, zi v503)] [zi 0] m _
        refine X.ifne 27 23 i292_20 rfl rfl rfl (fun h510 => (by exfalso; omega)) (fun h510 => ?_)
        refine X.cut [] i292_23 rfl ?_
        refine X.ldc2 26 i292_23 rfl rfl (by decide) ?_
        refine X.retl i292_26 rfl t292 ?_
        exact hQ (-1) (by first | trivial | omega) (Eq.trans (zn_eq hFv503.symm) (Eq.trans (if_neg h504) (Eq.trans (if_neg h506c) (Eq.trans (if_neg h509c) rfl)))) 
      · have h509c : a2 ≤ 4 := by omega
        clear h509 hz508
        refine X.iconst 14 i204_13 rfl rfl (by decide) ?_
        refine X.goto 18 i204_14 rfl rfl ?_
        refine X.cut [] i204_18 rfl ?_
        refine X.retz i204_18 rfl t204 (by omega) ?_
        show X (EE s) d 292 20 [(0, zr 4 44), (1, zi a1), (2, zi a2), (3, zi v503)] [zi 1] m _
        refine X.ifne 27 23 i292_20 rfl rfl rfl (fun h511 => ?_) (fun h511 => (by exfalso; omega))
        refine X.cut [(0, zr 4 44), (2, zi a2), (3, zi v503)] i292_27 rfl ?_
        refine X.iload_n 28 i292_27 rfl rfl rfl ?_
        have hK516 : ∀ (v : Int) , (True) → (if a2 = 0 then
            ((m 4 45 v503))
            else
            ((m 4 45 ((v503 + 35) + a2)))) = v → X (EE s) d 292 51 [] [zl v] m Q := by
          intro v513 hv513 hT517
          refine X.retl i292_51 rfl t292 ?_
          exact hQ v513 (by first | trivial | omega) (Eq.trans (zn_eq hFv503.symm) (Eq.trans (if_neg h504) (Eq.trans (if_neg h506c) (Eq.trans (if_pos h509c) (Eq.trans (zn_eq hT517.symm) rfl))))) 
        refine X.ifne 40 31 i292_28 rfl rfl rfl (fun h512 => ?_) (fun h512 => ?_)
        · refine X.aload_n 41 i292_40 rfl rfl rfl ?_
          refine X.getF 44 i292_41 rfl rfl (by decide) rfl rfl ?_
          refine X.iload_n 45 i292_44 rfl rfl rfl ?_
          refine X.bipush 47 i292_45 rfl rfl (by decide) ?_
          refine X.iadd 48 i292_47 rfl rfl (by omega) ?_
          refine X.iload_n 49 i292_48 rfl rfl rfl ?_
          refine X.iadd 50 i292_49 rfl rfl (by omega) ?_
          refine X.lald 51 i292_50 rfl rfl (by decide) rfl (by omega) ?_
          refine X.cut [] i292_51 rfl ?_
          exact hK516 (m 4 45 ((v503 + 35) + a2)) (by first | trivial | omega) (Eq.trans (if_neg h512) rfl)
        · refine X.aload_n 32 i292_31 rfl rfl rfl ?_
          refine X.getF 35 i292_32 rfl rfl (by decide) rfl rfl ?_
          refine X.iload_n 36 i292_35 rfl rfl rfl ?_
          refine X.lald 37 i292_36 rfl rfl (by decide) rfl (by omega) ?_
          refine X.goto 51 i292_37 rfl rfl ?_
          refine X.cut [] i292_51 rfl ?_
          exact hK516 (m 4 45 v503) (by first | trivial | omega) (Eq.trans (if_pos h512) rfl)
noncomputable def fl167_8_1_b (self : Int → Int → Int → Int) (k53 : Int → Int → Int) (g0 g2 : Nat) (y1 : Int) (m : zM) (y3 y5 y7 : Int) : Int :=
  if 4 ≤ y7 then
  (k53 y3 y5)
  else
  (zn (f161_1 g0 y1 0 y7 m) fun v519 =>
  zn (w64 (v519 * (m g2 10 (6 + y7)))) fun z521 =>
  zn (w64 (y3 + z521)) fun z522 =>
  self z522 (max y5 (m g0 26 (((((((m g0 23 3) - 1) - y1) % 6) * 33) + 28) + y7))) (y7 + 1))
noncomputable def fl167_8_1 (k53 : Int → Int → Int) (g0 g2 : Nat) (y1 : Int) (m : zM) : Nat → Int → Int → Int → Int
  | 0 => fun y3 y5 y7 => 0
  | n + 1 => fl167_8_1_b (fl167_8_1 k53 g0 g2 y1 m n) k53 g0 g2 y1 m
theorem l167_8_1 {s : Nat × (Nat → Int32)} {S : zS} {m0 : zM} {m : zM} {B : Int} {d : Nat} {Q : Option zV → zM → Prop} {R0 : Int} {k53 : Int → Int → Int} (g0 g2 : Nat) (y1 : Int) (hd : 15 ≤ d) (hJ : J S m0 B m) (hB9 : B ≤ 1000000000) (hy1 : 0 ≤ y1 ∧ y1 ≤ 5)
    (K53 : ∀ (x3 x5 : Int) , (True) → (0 ≤ x5) → (0 ≤ y1) → (y1 < m g0 23 3) → R0 = k53 x3 x5 → X (EE s) d 167 53 [(0, zr g0 23), (1, zi y1), (2, zr g2 9), (3, zl x3), (5, zl x5)] [] m Q) :
    ∀ (n : Nat) (y3 y5 y7 : Int) , (0 ≤ y5) → (0 ≤ y7 ∧ y7 ≤ 4) → (0 ≤ y1) → (y1 < m g0 23 3) → 4 - y7 < (n : Int) → R0 = fl167_8_1 k53 g0 g2 y1 m n y3 y5 y7 → X (EE s) d 167 8 [(0, zr g0 23), (1, zi y1), (2, zr g2 9), (3, zl y3), (5, zl y5), (7, zi y7)] [] m Q := by
  intro n
  induction n with
  | zero =>
    intro y3 y5 y7 hy5 hy7 hr0 hr1 hn hR
    exfalso
    omega
  | succ n ih =>
    intro y3 y5 y7 hy5 hy7 hr0 hr1 hn hR
    replace hR : R0 = fl167_8_1_b (fl167_8_1 k53 g0 g2 y1 m n) k53 g0 g2 y1 m y3 y5 y7 := hR
    refine X.iload 10 i167_8 rfl rfl rfl ?_
    refine X.iconst 11 i167_10 rfl rfl (by decide) ?_
    refine X.icmpge 53 14 i167_11 rfl rfl rfl (fun h516 => ?_) (fun h516 => ?_)
    · refine X.cut [(0, zr g0 23), (1, zi y1), (2, zr g2 9), (3, zl y3), (5, zl y5)] i167_53 rfl ?_
      exact K53 y3 y5 (by first | trivial | omega) (by first | trivial | omega) (by omega) (by omega) (Eq.trans hR (Eq.trans (if_pos h516) rfl))
    · refine X.lload_n 15 i167_14 rfl rfl rfl ?_
      refine X.aload_n 16 i167_15 rfl rfl rfl ?_
      refine X.iload_n 17 i167_16 rfl rfl rfl ?_
      refine X.iconst 18 i167_17 rfl rfl (by decide) ?_
      refine X.iload 20 i167_18 rfl rfl rfl ?_
      refine X.callv 23 [zi y1, zi 0, zi y7] [zl y3] [(0, zr g0 23), (1, zi y1), (2, zi 0), (3, zi y7)] i167_20 rfl (by decide) rfl rfl (by omega) rfl rfl (by decide) rfl t161 (Nat.le_of_ble_eq_true rfl) (Nat.le_of_ble_eq_true rfl) rfl ?_
      refine c161_1 (B := B) g0 y1 0 y7 (by omega) (hJ.up (by omega)) (by omega) (by omega) (by omega) (by omega) (by omega) (by omega) (fun v519 hv519 hFv519 => ?_)
      show X (EE s) d 167 23 [(0, zr g0 23), (1, zi y1), (2, zr g2 9), (3, zl y3), (5, zl y5), (7, zi y7)] [zl v519, zl y3] m _
      refine X.aload_n 24 i167_23 rfl rfl rfl ?_
      refine X.iload 26 i167_24 rfl rfl rfl ?_
      refine X.callv 29 [zi y7] [zl v519, zl y3] [(0, zr g2 9), (1, zi y7)] i167_26 rfl (by decide) rfl rfl (by omega) rfl rfl (by decide) rfl t43 (Nat.le_of_ble_eq_true rfl) (Nat.le_of_ble_eq_true rfl) rfl ?_
      refine X.aload_n 1 i43_0 rfl rfl rfl ?_
      refine X.getR 4 i43_1 rfl rfl (by decide) rfl rfl ?_
      refine X.bipush 6 i43_4 rfl rfl (by decide) ?_
      refine X.iload_n 7 i43_6 rfl rfl rfl ?_
      refine X.iadd 8 i43_7 rfl rfl (by omega) ?_
      refine X.iald 9 i43_8 rfl rfl (by decide) rfl (by omega) ?_
      have h520 := r10_6 hJ g2 (i := (6 + y7)) (by omega)
      refine X.reti i43_9 rfl t43 ?_
      show X (EE s) d 167 29 [(0, zr g0 23), (1, zi y1), (2, zr g2 9), (3, zl y3), (5, zl y5), (7, zi y7)] [zi (m g2 10 (6 + y7)), zl v519, zl y3] m _
      refine X.i2l 30 i167_29 rfl rfl ?_
      refine X.lmulW 31 i167_30 rfl rfl (fun z521 ez521 hz521 => ?_)
      refine X.laddW 32 i167_31 rfl rfl (fun z522 ez522 hz522 => ?_)
      refine X.lstore_n 33 [(0, zr g0 23), (1, zi y1), (2, zr g2 9), (3, zl z522), (5, zl y5), (7, zi y7)] i167_32 rfl rfl rfl ?_
      refine X.lload 35 i167_33 rfl rfl rfl ?_
      refine X.aload_n 36 i167_35 rfl rfl rfl ?_
      refine X.iload_n 37 i167_36 rfl rfl rfl ?_
      refine X.iload 39 i167_37 rfl rfl rfl ?_
      refine X.callv 42 [zi y1, zi y7] [zl y5] [(0, zr g0 23), (1, zi y1), (2, zi y7)] i167_39 rfl (by decide) rfl rfl (by omega) rfl rfl (by decide) rfl t165 (Nat.le_of_ble_eq_true rfl) (Nat.le_of_ble_eq_true rfl) rfl ?_
      refine X.aload_n 1 i165_0 rfl rfl rfl ?_
      refine X.getR 4 i165_1 rfl rfl (by decide) rfl rfl ?_
      refine X.aload_n 5 i165_4 rfl rfl rfl ?_
      refine X.iload_n 6 i165_5 rfl rfl rfl ?_
      refine X.callv 9 [zi y1] [zr g0 26] [(0, zr g0 23), (1, zi y1)] i165_6 rfl (by decide) rfl rfl (by omega) rfl rfl (by decide) rfl t162 (Nat.le_of_ble_eq_true rfl) (Nat.le_of_ble_eq_true rfl) rfl ?_
      refine X.aload_n 1 i162_0 rfl rfl rfl ?_
      refine X.getI 4 3 i162_1 rfl rfl (by decide) rfl rfl rfl ?_
      have h523 := r23_3 hJ g0
      refine X.iconst 5 i162_4 rfl rfl (by decide) ?_
      refine X.isub 6 i162_5 rfl rfl (by omega) ?_
      refine X.iload_n 7 i162_6 rfl rfl rfl ?_
      refine X.isub 8 i162_7 rfl rfl (by omega) ?_
      refine X.bipush 10 i162_8 rfl rfl (by decide) ?_
      refine X.irem 11 i162_10 rfl rfl (by omega) ?_
      refine X.bipush 13 i162_11 rfl rfl (by decide) ?_
      refine X.imul 14 i162_13 rfl rfl (by omega) ?_
      refine X.reti i162_14 rfl t162 ?_
      show X (EE s) (d - 1) 165 9 [(0, zr g0 23), (1, zi y1), (2, zi y7)] [zi (((((m g0 23 3) - 1) - y1) % 6) * 33), zr g0 26] m _
      refine X.bipush 11 i165_9 rfl rfl (by decide) ?_
      refine X.iadd 12 i165_11 rfl rfl (by omega) ?_
      refine X.iload_n 13 i165_12 rfl rfl rfl ?_
      refine X.iadd 14 i165_13 rfl rfl (by omega) ?_
      refine X.lald 15 i165_14 rfl rfl (by decide) rfl (by omega) ?_
      refine X.retl i165_15 rfl t165 ?_
      show X (EE s) d 167 42 [(0, zr g0 23), (1, zi y1), (2, zr g2 9), (3, zl z522), (5, zl y5), (7, zi y7)] [zl (m g0 26 (((((((m g0 23 3) - 1) - y1) % 6) * 33) + 28) + y7)), zl y5] m _
      refine X.maxL 45 i167_42 rfl rfl (by omega) (Nat.le_of_ble_eq_true rfl) ?_
      refine X.lstore 47 [(0, zr g0 23), (1, zi y1), (2, zr g2 9), (3, zl z522), (5, zl (max y5 (m g0 26 (((((((m g0 23 3) - 1) - y1) % 6) * 33) + 28) + y7)))), (7, zi y7)] i167_45 rfl rfl rfl ?_
      refine X.iinc 50 [(0, zr g0 23), (1, zi y1), (2, zr g2 9), (3, zl z522), (5, zl (max y5 (m g0 26 (((((((m g0 23 3) - 1) - y1) % 6) * 33) + 28) + y7)))), (7, zi (y7 + 1))] i167_47 rfl rfl rfl (by omega) rfl ?_
      refine X.goto 8 i167_50 rfl rfl ?_
      exact ih z522 (max y5 (m g0 26 (((((((m g0 23 3) - 1) - y1) % 6) * 33) + 28) + y7))) (y7 + 1) (by omega) (by omega) (by omega) (by omega) (by omega) (Eq.trans hR (Eq.trans (if_neg h516) (Eq.trans (zn_eq hFv519.symm) (Eq.trans (zn_eq ez521) (Eq.trans (zn_eq ez522) rfl)))))
-- WorkMeter$Settings.value
noncomputable def f168_1 (g0 : Nat) (a1 : Int) (m : zM) : Int :=
  zn (f76_1 a1 m) fun v503 =>
  zn (if v503 = (-1) then
  ((-1))
  else
  ((m g0 10 v503))) fun v506 =>
  v506
-- WorkMeter$Settings.value
theorem c168_1 {s : Nat × (Nat → Int32)} {S : zS} {m0 m : zM} {B : Int} {d : Nat} {Q : Option zV → zM → Prop} (g0 : Nat) (a1 : Int) (hd : 14 ≤ d) (hJ : J S m0 B m) (hB : B + 0 ≤ 1000000000) (ha1 : 20 ≤ a1 ∧ a1 ≤ 20) (hQ : ∀ (v : Int), ((-1) ≤ v ∧ v ≤ 1000000) → f168_1 g0 a1 m = v → Q (some (zi v)) m) : X (EE s) d 168 0 [(0, zr g0 9), (1, zi a1)] [] m Q := by
  refine X.iload_n 1 i168_0 rfl rfl rfl ?_
  refine X.calls 4 [zi a1] [] [(0, zi a1)] i168_1 (by decide) rfl rfl (by omega) rfl rfl t76 (Nat.le_of_ble_eq_true rfl) (Nat.le_of_ble_eq_true rfl) rfl ?_
  refine c76_1 (B := B)  a1 (by omega) (hJ.up (by omega)) (by omega) (by omega) (fun v503 hv503 hFv503 hqv503_0 hqv503_1 => ?_)
  show X (EE s) d 168 4 [(0, zr g0 9), (1, zi a1)] [zi v503] m _
  refine X.istore_n 5 [(0, zr g0 9), (1, zi a1), (2, zi v503)] i168_4 rfl rfl rfl ?_
  refine X.iload_n 6 i168_5 rfl rfl rfl ?_
  refine X.iconst 7 i168_6 rfl rfl (by decide) ?_
  have hK509 : ∀ (v : Int) , ((-1) ≤ v ∧ v ≤ 1000000) → (if v503 = (-1) then
      ((-1))
      else
      ((m g0 10 v503))) = v → X (EE s) d 168 20 [] [zi v] m Q := by
    intro v506 hv506 hT510
    refine X.reti i168_20 rfl t168 ?_
    exact hQ v506 (by first | trivial | omega) (Eq.trans (zn_eq hFv503.symm) (Eq.trans (zn_eq hT510.symm) rfl)) 
  refine X.icmpne 14 10 i168_7 rfl rfl rfl (fun h504 => ?_) (fun h504 => ?_)
  · refine X.cut [(0, zr g0 9), (2, zi v503)] i168_14 rfl ?_
    refine X.aload_n 15 i168_14 rfl rfl rfl ?_
    refine X.getR 18 i168_15 rfl rfl (by decide) rfl rfl ?_
    refine X.iload_n 19 i168_18 rfl rfl rfl ?_
    refine X.iald 20 i168_19 rfl rfl (by decide) rfl (by omega) ?_
    have h505 := r10_all hJ g0 (i := v503) (by omega)
    refine X.cut [] i168_20 rfl ?_
    exact hK509 (m g0 10 v503) (by first | trivial | omega) (Eq.trans (if_neg h504) rfl)
  · refine X.iconst 11 i168_10 rfl rfl (by decide) ?_
    refine X.goto 20 i168_11 rfl rfl ?_
    refine X.cut [] i168_20 rfl ?_
    exact hK509 (-1) (by first | trivial | omega) (Eq.trans (if_pos h504) rfl)
-- WorkMeter$Settings.value
theorem c168_2 {s : Nat × (Nat → Int32)} {S : zS} {m0 m : zM} {B : Int} {d : Nat} {Q : Option zV → zM → Prop} (g0 : Nat) (a1 : Int) (hd : 14 ≤ d) (hJ : J S m0 B m) (hB : B + 0 ≤ 1000000000) (ha1 : 21 ≤ a1 ∧ a1 ≤ 21) (hQ : ∀ (v : Int), ((-1) ≤ v ∧ v ≤ 1000000) → f168_1 g0 a1 m = v → Q (some (zi v)) m) : X (EE s) d 168 0 [(0, zr g0 9), (1, zi a1)] [] m Q := by
  refine X.iload_n 1 i168_0 rfl rfl rfl ?_
  refine X.calls 4 [zi a1] [] [(0, zi a1)] i168_1 (by decide) rfl rfl (by omega) rfl rfl t76 (Nat.le_of_ble_eq_true rfl) (Nat.le_of_ble_eq_true rfl) rfl ?_
  refine c76_1 (B := B)  a1 (by omega) (hJ.up (by omega)) (by omega) (by omega) (fun v503 hv503 hFv503 hqv503_0 hqv503_1 => ?_)
  show X (EE s) d 168 4 [(0, zr g0 9), (1, zi a1)] [zi v503] m _
  refine X.istore_n 5 [(0, zr g0 9), (1, zi a1), (2, zi v503)] i168_4 rfl rfl rfl ?_
  refine X.iload_n 6 i168_5 rfl rfl rfl ?_
  refine X.iconst 7 i168_6 rfl rfl (by decide) ?_
  have hK509 : ∀ (v : Int) , ((-1) ≤ v ∧ v ≤ 1000000) → (if v503 = (-1) then
      ((-1))
      else
      ((m g0 10 v503))) = v → X (EE s) d 168 20 [] [zi v] m Q := by
    intro v506 hv506 hT510
    refine X.reti i168_20 rfl t168 ?_
    exact hQ v506 (by first | trivial | omega) (Eq.trans (zn_eq hFv503.symm) (Eq.trans (zn_eq hT510.symm) rfl)) 
  refine X.icmpne 14 10 i168_7 rfl rfl rfl (fun h504 => ?_) (fun h504 => ?_)
  · refine X.cut [(0, zr g0 9), (2, zi v503)] i168_14 rfl ?_
    refine X.aload_n 15 i168_14 rfl rfl rfl ?_
    refine X.getR 18 i168_15 rfl rfl (by decide) rfl rfl ?_
    refine X.iload_n 19 i168_18 rfl rfl rfl ?_
    refine X.iald 20 i168_19 rfl rfl (by decide) rfl (by omega) ?_
    have h505 := r10_all hJ g0 (i := v503) (by omega)
    refine X.cut [] i168_20 rfl ?_
    exact hK509 (m g0 10 v503) (by first | trivial | omega) (Eq.trans (if_neg h504) rfl)
  · refine X.iconst 11 i168_10 rfl rfl (by decide) ?_
    refine X.goto 20 i168_11 rfl rfl ?_
    refine X.cut [] i168_20 rfl ?_
    exact hK509 (-1) (by first | trivial | omega) (Eq.trans (if_pos h504) rfl)
-- WorkMeter$Settings.value
theorem c168_3 {s : Nat × (Nat → Int32)} {S : zS} {m0 m : zM} {B : Int} {d : Nat} {Q : Option zV → zM → Prop} (g0 : Nat) (a1 : Int) (hd : 14 ≤ d) (hJ : J S m0 B m) (hB : B + 0 ≤ 1000000000) (ha1 : 22 ≤ a1 ∧ a1 ≤ 22) (hQ : ∀ (v : Int), ((-1) ≤ v ∧ v ≤ 1000000) → f168_1 g0 a1 m = v → Q (some (zi v)) m) : X (EE s) d 168 0 [(0, zr g0 9), (1, zi a1)] [] m Q := by
  refine X.iload_n 1 i168_0 rfl rfl rfl ?_
  refine X.calls 4 [zi a1] [] [(0, zi a1)] i168_1 (by decide) rfl rfl (by omega) rfl rfl t76 (Nat.le_of_ble_eq_true rfl) (Nat.le_of_ble_eq_true rfl) rfl ?_
  refine c76_1 (B := B)  a1 (by omega) (hJ.up (by omega)) (by omega) (by omega) (fun v503 hv503 hFv503 hqv503_0 hqv503_1 => ?_)
  show X (EE s) d 168 4 [(0, zr g0 9), (1, zi a1)] [zi v503] m _
  refine X.istore_n 5 [(0, zr g0 9), (1, zi a1), (2, zi v503)] i168_4 rfl rfl rfl ?_
  refine X.iload_n 6 i168_5 rfl rfl rfl ?_
  refine X.iconst 7 i168_6 rfl rfl (by decide) ?_
  have hK509 : ∀ (v : Int) , ((-1) ≤ v ∧ v ≤ 1000000) → (if v503 = (-1) then
      ((-1))
      else
      ((m g0 10 v503))) = v → X (EE s) d 168 20 [] [zi v] m Q := by
    intro v506 hv506 hT510
    refine X.reti i168_20 rfl t168 ?_
    exact hQ v506 (by first | trivial | omega) (Eq.trans (zn_eq hFv503.symm) (Eq.trans (zn_eq hT510.symm) rfl)) 
  refine X.icmpne 14 10 i168_7 rfl rfl rfl (fun h504 => ?_) (fun h504 => ?_)
  · refine X.cut [(0, zr g0 9), (2, zi v503)] i168_14 rfl ?_
    refine X.aload_n 15 i168_14 rfl rfl rfl ?_
    refine X.getR 18 i168_15 rfl rfl (by decide) rfl rfl ?_
    refine X.iload_n 19 i168_18 rfl rfl rfl ?_
    refine X.iald 20 i168_19 rfl rfl (by decide) rfl (by omega) ?_
    have h505 := r10_all hJ g0 (i := v503) (by omega)
    refine X.cut [] i168_20 rfl ?_
    exact hK509 (m g0 10 v503) (by first | trivial | omega) (Eq.trans (if_neg h504) rfl)
  · refine X.iconst 11 i168_10 rfl rfl (by decide) ?_
    refine X.goto 20 i168_11 rfl rfl ?_
    refine X.cut [] i168_20 rfl ?_
    exact hK509 (-1) (by first | trivial | omega) (Eq.trans (if_pos h504) rfl)
