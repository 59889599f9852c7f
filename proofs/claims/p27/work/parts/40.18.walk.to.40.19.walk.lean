section
-- WorkMeterModel.block
theorem c299_1 {s : Nat × (Nat → Int32)} {S : zS} {m0 m : zM} {B : Int} {d : Nat} {Q : Option zV → zM → Prop} (a1 : Int) (hd : 13 ≤ d) (hJ : J S m0 B m) (hB : B + 0 ≤ 1000000000) (ha1 : (-2147483648) ≤ a1 ∧ a1 ≤ 2147483647) (hQ : ∀ (v : Int), (True) → f299_1 a1 m = v → Q (some (zl v)) m) : X (EE s) d 299 0 [(0, zr 4 44), (1, zi a1)] [] m Q := by
  refine X.iload_n 1 i299_0 rfl rfl rfl ?_
  by_cases h501 : a1 = 0
  · refine X.tsIn 40 0 i299_1 rfl (by omega) rfl rfl ?_
    refine X.cut [(0, zr 4 44)] i299_40 rfl ?_
    refine X.aload_n 41 i299_40 rfl rfl rfl ?_
    refine X.getF 44 i299_41 rfl rfl (by decide) rfl rfl ?_
    refine X.bipush 46 i299_44 rfl rfl (by decide) ?_
    refine X.lald 47 i299_46 rfl rfl (by decide) rfl (by omega) ?_
    refine X.retl i299_47 rfl t299 ?_
    exact hQ (m 4 45 22) (by first | trivial | omega) (Eq.trans (if_pos h501) rfl) 
  by_cases h502 : a1 = 1
  · refine X.tsIn 48 1 i299_1 rfl (by omega) rfl rfl ?_
    refine X.cut [(0, zr 4 44)] i299_48 rfl ?_
    refine X.aload_n 49 i299_48 rfl rfl rfl ?_
    refine X.getF 52 i299_49 rfl rfl (by decide) rfl rfl ?_
    refine X.bipush 54 i299_52 rfl rfl (by decide) ?_
    refine X.lald 55 i299_54 rfl rfl (by decide) rfl (by omega) ?_
    refine X.retl i299_55 rfl t299 ?_
    exact hQ (m 4 45 23) (by first | trivial | omega) (Eq.trans (if_neg h501) (Eq.trans (if_pos h502) rfl)) 
  by_cases h503 : a1 = 2
  · refine X.tsIn 56 2 i299_1 rfl (by omega) rfl rfl ?_
    refine X.cut [(0, zr 4 44)] i299_56 rfl ?_
    refine X.aload_n 57 i299_56 rfl rfl rfl ?_
    refine X.getF 60 i299_57 rfl rfl (by decide) rfl rfl ?_
    refine X.bipush 62 i299_60 rfl rfl (by decide) ?_
    refine X.lald 63 i299_62 rfl rfl (by decide) rfl (by omega) ?_
    refine X.retl i299_63 rfl t299 ?_
    exact hQ (m 4 45 24) (by first | trivial | omega) (Eq.trans (if_neg h501) (Eq.trans (if_neg h502) (Eq.trans (if_pos h503) rfl))) 
  by_cases h504 : a1 = 3
  · refine X.tsIn 64 3 i299_1 rfl (by omega) rfl rfl ?_
    refine X.cut [(0, zr 4 44)] i299_64 rfl ?_
    refine X.aload_n 65 i299_64 rfl rfl rfl ?_
    refine X.getF 68 i299_65 rfl rfl (by decide) rfl rfl ?_
    refine X.bipush 70 i299_68 rfl rfl (by decide) ?_
    refine X.lald 71 i299_70 rfl rfl (by decide) rfl (by omega) ?_
    refine X.retl i299_71 rfl t299 ?_
    exact hQ (m 4 45 25) (by first | trivial | omega) (Eq.trans (if_neg h501) (Eq.trans (if_neg h502) (Eq.trans (if_neg h503) (Eq.trans (if_pos h504) rfl)))) 
  by_cases h505 : a1 = 4
  · refine X.tsIn 72 4 i299_1 rfl (by omega) rfl rfl ?_
    refine X.cut [(0, zr 4 44)] i299_72 rfl ?_
    refine X.aload_n 73 i299_72 rfl rfl rfl ?_
    refine X.getF 76 i299_73 rfl rfl (by decide) rfl rfl ?_
    refine X.bipush 78 i299_76 rfl rfl (by decide) ?_
    refine X.lald 79 i299_78 rfl rfl (by decide) rfl (by omega) ?_
    refine X.retl i299_79 rfl t299 ?_
    exact hQ (m 4 45 26) (by first | trivial | omega) (Eq.trans (if_neg h501) (Eq.trans (if_neg h502) (Eq.trans (if_neg h503) (Eq.trans (if_neg h504) (Eq.trans (if_pos h505) rfl))))) 
  by_cases h506 : a1 = 5
  · refine X.tsIn 80 5 i299_1 rfl (by omega) rfl rfl ?_
    refine X.cut [(0, zr 4 44)] i299_80 rfl ?_
    refine X.aload_n 81 i299_80 rfl rfl rfl ?_
    refine X.getF 84 i299_81 rfl rfl (by decide) rfl rfl ?_
    refine X.bipush 86 i299_84 rfl rfl (by decide) ?_
    refine X.lald 87 i299_86 rfl rfl (by decide) rfl (by omega) ?_
    refine X.aload_n 88 i299_87 rfl rfl rfl ?_
    refine X.getF 91 i299_88 rfl rfl (by decide) rfl rfl ?_
    refine X.bipush 93 i299_91 rfl rfl (by decide) ?_
    refine X.lald 94 i299_93 rfl rfl (by decide) rfl (by omega) ?_
    refine X.lconst (y := 0) 95 i299_94 rfl rfl rfl ?_
    refine X.lcmp 96 i299_95 rfl rfl (fun z507 hz507 => ?_)
    have hK512 : ∀ (v : Int) , (0 ≤ v ∧ v ≤ 32) → (if (m 4 45 26) ≤ 0 then
        (0)
        else
        (32)) = v → X (EE s) d 299 105 [(0, zr 4 44)] [zi v, zl (m 4 45 27)] m Q := by
      intro v509 hv509 hT513
      refine X.i2l 106 i299_105 rfl rfl ?_
      refine X.llE 107 .lor (fun x y => x ||| y) i299_106 rfl rfl rfl (fun _ _ => rfl) (fun z514 ez514 hz514 => ?_)
      refine X.aload_n 108 i299_107 rfl rfl rfl ?_
      refine X.getF 111 i299_108 rfl rfl (by decide) rfl rfl ?_
      refine X.bipush 113 i299_111 rfl rfl (by decide) ?_
      refine X.lald 114 i299_113 rfl rfl (by decide) rfl (by omega) ?_
      refine X.lconst (y := 1) 115 i299_114 rfl rfl rfl ?_
      refine X.lcmp 116 i299_115 rfl rfl (fun z515 hz515 => ?_)
      have hK520 : ∀ (v : Int) , (0 ≤ v ∧ v ≤ 128) → (if (m 4 45 21) = 1 then
          (128)
          else
          (0)) = v → X (EE s) d 299 126 [] [zi v, zl z514] m Q := by
        intro v517 hv517 hT521
        refine X.i2l 127 i299_126 rfl rfl ?_
        refine X.llE 128 .lor (fun x y => x ||| y) i299_127 rfl rfl rfl (fun _ _ => rfl) (fun z522 ez522 hz522 => ?_)
        refine X.retl i299_128 rfl t299 ?_
        exact hQ z522 (by first | trivial | omega) (Eq.trans (if_neg h501) (Eq.trans (if_neg h502) (Eq.trans (if_neg h503) (Eq.trans (if_neg h504) (Eq.trans (if_neg h505) (Eq.trans (if_pos h506) (Eq.trans (zn_eq hT513.symm) (Eq.trans (zn_eq ez514) (Eq.trans (zn_eq hT521.symm) (Eq.trans (zn_eq ez522) rfl)))))))))) 
      refine X.ifne 125 119 i299_116 rfl rfl rfl (fun h516 => ?_) (fun h516 => ?_)
      · have h516c : ¬ (m 4 45 21) = 1 := by omega
        clear h516 hz515
        refine X.cut [] i299_125 rfl ?_
        refine X.iconst 126 i299_125 rfl rfl (by decide) ?_
        exact hK520 0 (by first | trivial | omega) (Eq.trans (if_neg h516c) rfl)
      · have h516c : (m 4 45 21) = 1 := by omega
        clear h516 hz515
        refine X.sipush 122 i299_119 rfl rfl (by decide) ?_
        refine X.goto 126 i299_122 rfl rfl ?_
        refine X.cut [] i299_126 rfl ?_
        exact hK520 128 (by first | trivial | omega) (Eq.trans (if_pos h516c) rfl)
    refine X.ifle 104 99 i299_96 rfl rfl rfl (fun h508 => ?_) (fun h508 => ?_)
    · have h508c : (m 4 45 26) ≤ 0 := by omega
      clear h508 hz507
      refine X.iconst 105 i299_104 rfl rfl (by decide) ?_
      exact hK512 0 (by first | trivial | omega) (Eq.trans (if_pos h508c) rfl)
    · have h508c : ¬ (m 4 45 26) ≤ 0 := by omega
      clear h508 hz507
      refine X.bipush 101 i299_99 rfl rfl (by decide) ?_
      refine X.goto 105 i299_101 rfl rfl ?_
      exact hK512 32 (by first | trivial | omega) (Eq.trans (if_neg h508c) rfl)
  refine X.tsOut 129 i299_1 rfl (by omega) rfl ?_
  refine X.cut [] i299_129 rfl ?_
  refine X.ldc2 132 i299_129 rfl rfl (by decide) ?_
  refine X.retl i299_132 rfl t299 ?_
  exact hQ (-1) (by first | trivial | omega) (Eq.trans (if_neg h501) (Eq.trans (if_neg h502) (Eq.trans (if_neg h503) (Eq.trans (if_neg h504) (Eq.trans (if_neg h505) (Eq.trans (if_neg h506) rfl)))))) 
-- WorkMeter.demand
noncomputable def f157_1 (a1 : Int) (m : zM) : Int :=
  if a1 = 0 then
  ((m 0 30 2))
  else
  (zn (if a1 = 1 then
  ((m 0 30 3))
  else
  ((-1))) fun v504 =>
  v504)
-- WorkMeter.demand
theorem c157_1 {s : Nat × (Nat → Int32)} {S : zS} {m0 m : zM} {B : Int} {d : Nat} {Q : Option zV → zM → Prop} (a1 : Int) (hd : 13 ≤ d) (hJ : J S m0 B m) (hB : B + 0 ≤ 1000000000) (ha1 : (-2147483648) ≤ a1 ∧ a1 ≤ 2147483647) (hQ : ∀ (v : Int), (True) → f157_1 a1 m = v → Q (some (zl v)) m) : X (EE s) d 157 0 [(0, zr 4 40), (1, zi a1)] [] m Q := by
  refine X.iload_n 1 i157_0 rfl rfl rfl ?_
  refine X.ifne 15 4 i157_1 rfl rfl rfl (fun h501 => ?_) (fun h501 => ?_)
  · refine X.iload_n 16 i157_15 rfl rfl rfl ?_
    refine X.iconst 17 i157_16 rfl rfl (by decide) ?_
    have hK507 : ∀ (v : Int) , ((-2147483648) ≤ v ∧ v ≤ 2147483647) → (if a1 = 1 then
        ((m 0 30 3))
        else
        ((-1))) = v → X (EE s) d 157 37 [] [zl v] m Q := by
      intro v504 hv504 hT508
      refine X.retl i157_37 rfl t157 ?_
      exact hQ v504 (by first | trivial | omega) (Eq.trans (if_neg h501) (Eq.trans (zn_eq hT508.symm) rfl)) 
    refine X.icmpne 34 20 i157_17 rfl rfl rfl (fun h502 => ?_) (fun h502 => ?_)
    · refine X.cut [] i157_34 rfl ?_
      refine X.ldc2 37 i157_34 rfl rfl (by decide) ?_
      exact hK507 (-1) (by first | trivial | omega) (Eq.trans (if_neg h502) rfl)
    · refine X.aload_n 21 i157_20 rfl rfl rfl ?_
      refine X.getF 24 i157_21 rfl rfl (by decide) rfl rfl ?_
      refine X.getR 27 i157_24 rfl rfl (by decide) rfl rfl ?_
      refine X.getIr 30 3 i157_27 rfl rfl (by decide) rfl rfl rfl (fun h503 => ?_)
      refine X.i2l 31 i157_30 rfl rfl ?_
      refine X.goto 37 i157_31 rfl rfl ?_
      refine X.cut [] i157_37 rfl ?_
      exact hK507 (m 0 30 3) (by first | trivial | omega) (Eq.trans (if_pos h502) rfl)
  · refine X.aload_n 5 i157_4 rfl rfl rfl ?_
    refine X.getF 8 i157_5 rfl rfl (by decide) rfl rfl ?_
    refine X.getR 11 i157_8 rfl rfl (by decide) rfl rfl ?_
    refine X.getL 14 2 i157_11 rfl rfl (by decide) rfl rfl rfl ?_
    refine X.retl i157_14 rfl t157 ?_
    exact hQ (m 0 30 2) (by first | trivial | omega) (Eq.trans (if_pos h501) rfl) 
-- WorkMeterModel.demand
noncomputable def f300_1 (a1 : Int) (m : zM) : Int :=
  zn (if a1 = 0 then
  ((m 4 45 19))
  else
  (if a1 = 1 then
  ((m 4 45 20))
  else
  ((-1)))) fun v503 =>
  v503
-- WorkMeterModel.demand
theorem c300_1 {s : Nat × (Nat → Int32)} {S : zS} {m0 m : zM} {B : Int} {d : Nat} {Q : Option zV → zM → Prop} (a1 : Int) (hd : 13 ≤ d) (hJ : J S m0 B m) (hB : B + 0 ≤ 1000000000) (ha1 : (-2147483648) ≤ a1 ∧ a1 ≤ 2147483647) (hQ : ∀ (v : Int), (True) → f300_1 a1 m = v → Q (some (zl v)) m) : X (EE s) d 300 0 [(0, zr 4 44), (1, zi a1)] [] m Q := by
  refine X.iload_n 1 i300_0 rfl rfl rfl ?_
  have hK506 : ∀ (v : Int) , (True) → (if a1 = 0 then
      ((m 4 45 19))
      else
      (if a1 = 1 then
      ((m 4 45 20))
      else
      ((-1)))) = v → X (EE s) d 300 32 [] [zl v] m Q := by
    intro v503 hv503 hT507
    refine X.retl i300_32 rfl t300 ?_
    exact hQ v503 (by first | trivial | omega) (Eq.trans (zn_eq hT507.symm) rfl) 
  refine X.ifne 14 4 i300_1 rfl rfl rfl (fun h501 => ?_) (fun h501 => ?_)
  · refine X.iload_n 15 i300_14 rfl rfl rfl ?_
    refine X.iconst 16 i300_15 rfl rfl (by decide) ?_
    refine X.icmpne 29 19 i300_16 rfl rfl rfl (fun h502 => ?_) (fun h502 => ?_)
    · refine X.cut [] i300_29 rfl ?_
      refine X.ldc2 32 i300_29 rfl rfl (by decide) ?_
      exact hK506 (-1) (by first | trivial | omega) (Eq.trans (if_neg h501) (Eq.trans (if_neg h502) rfl))
    · refine X.aload_n 20 i300_19 rfl rfl rfl ?_
      refine X.getF 23 i300_20 rfl rfl (by decide) rfl rfl ?_
      refine X.bipush 25 i300_23 rfl rfl (by decide) ?_
      refine X.lald 26 i300_25 rfl rfl (by decide) rfl (by omega) ?_
      refine X.goto 32 i300_26 rfl rfl ?_
      refine X.cut [] i300_32 rfl ?_
      exact hK506 (m 4 45 20) (by first | trivial | omega) (Eq.trans (if_neg h501) (Eq.trans (if_pos h502) rfl))
  · refine X.aload_n 5 i300_4 rfl rfl rfl ?_
    refine X.getF 8 i300_5 rfl rfl (by decide) rfl rfl ?_
    refine X.bipush 10 i300_8 rfl rfl (by decide) ?_
    refine X.lald 11 i300_10 rfl rfl (by decide) rfl (by omega) ?_
    refine X.goto 32 i300_11 rfl rfl ?_
    refine X.cut [] i300_32 rfl ?_
    exact hK506 (m 4 45 19) (by first | trivial | omega) (Eq.trans (if_pos h501) rfl)
-- WorkMeter.greatest
noncomputable def f158_1 (a1 a2 : Int) (m : zM) : Int :=
  if a1 < 0 then
  ((-1))
  else
  (if 4 ≤ a1 then
  ((-1))
  else
  (if a2 = 0 then
  ((m 0 31 a1))
  else
  (zn (if a2 = 1 then
  ((m 0 32 a1))
  else
  ((-1))) fun v509 =>
  v509)))
-- WorkMeter.greatest
theorem c158_1 {s : Nat × (Nat → Int32)} {S : zS} {m0 m : zM} {B : Int} {d : Nat} {Q : Option zV → zM → Prop} (a1 a2 : Int) (hd : 13 ≤ d) (hJ : J S m0 B m) (hB : B + 0 ≤ 1000000000) (ha1 : (-2147483648) ≤ a1 ∧ a1 ≤ 2147483647) (ha2 : (-2147483648) ≤ a2 ∧ a2 ≤ 2147483647) (hQ : ∀ (v : Int), (True) → f158_1 a1 a2 m = v → Q (some (zl v)) m) : X (EE s) d 158 0 [(0, zr 4 40), (1, zi a1), (2, zi a2)] [] m Q := by
  refine X.iload_n 1 i158_0 rfl rfl rfl ?_
  refine X.calls 4 [zi a1] [] [(0, zi a1)] i158_1 (by decide) rfl rfl (by omega) rfl rfl t80 (Nat.le_of_ble_eq_true rfl) (Nat.le_of_ble_eq_true rfl) rfl ?_
  refine X.iload_n 1 i80_0 rfl rfl rfl ?_
  refine X.iflt 13 4 i80_1 rfl rfl rfl (fun h501 => ?_) (fun h501 => ?_)
  · refine X.cut [] i80_13 rfl ?_
    refine X.iconst 14 i80_13 rfl rfl (by decide) ?_
    refine X.retz i80_14 rfl t80 (by omega) ?_
    show X (EE s) d 158 4 [(0, zr 4 40), (1, zi a1), (2, zi a2)] [zi 0] m _
    refine X.ifne 11 7 i158_4 rfl rfl rfl (fun h502 => (by exfalso; omega)) (fun h502 => ?_)
    refine X.ldc2 10 i158_7 rfl rfl (by decide) ?_
    refine X.retl i158_10 rfl t158 ?_
    exact hQ (-1) (by first | trivial | omega) (Eq.trans (if_pos h501) rfl) 
  · refine X.iload_n 5 i80_4 rfl rfl rfl ?_
    refine X.iconst 6 i80_5 rfl rfl (by decide) ?_
    refine X.icmpge 13 9 i80_6 rfl rfl rfl (fun h503 => ?_) (fun h503 => ?_)
    · refine X.cut [] i80_13 rfl ?_
      refine X.iconst 14 i80_13 rfl rfl (by decide) ?_
      refine X.retz i80_14 rfl t80 (by omega) ?_
      show X (EE s) d 158 4 [(0, zr 4 40), (1, zi a1), (2, zi a2)] [zi 0] m _
      refine X.ifne 11 7 i158_4 rfl rfl rfl (fun h504 => (by exfalso; omega)) (fun h504 => ?_)
      refine X.ldc2 10 i158_7 rfl rfl (by decide) ?_
      refine X.retl i158_10 rfl t158 ?_
      exact hQ (-1) (by first | trivial | omega) (Eq.trans (if_neg h501) (Eq.trans (if_pos h503) rfl)) 
    · refine X.iconst 10 i80_9 rfl rfl (by decide) ?_
      refine X.goto 14 i80_10 rfl rfl ?_
      refine X.cut [] i80_14 rfl ?_
      refine X.retz i80_14 rfl t80 (by omega) ?_
      show X (EE s) d 158 4 [(0, zr 4 40), (1, zi a1), (2, zi a2)] [zi 1] m _
      refine X.ifne 11 7 i158_4 rfl rfl rfl (fun h505 => ?_) (fun h505 => (by exfalso; omega))
      refine X.iload_n 12 i158_11 rfl rfl rfl ?_
      refine X.ifne 28 15 i158_12 rfl rfl rfl (fun h506 => ?_) (fun h506 => ?_)
      · refine X.iload_n 29 i158_28 rfl rfl rfl ?_
        refine X.iconst 30 i158_29 rfl rfl (by decide) ?_
        have hK512 : ∀ (v : Int) , ((-2147483648) ≤ v ∧ v ≤ 2147483647) → (if a2 = 1 then
            ((m 0 32 a1))
            else
            ((-1))) = v → X (EE s) d 158 52 [] [zl v] m Q := by
          intro v509 hv509 hT513
          refine X.retl i158_52 rfl t158 ?_
          exact hQ v509 (by first | trivial | omega) (Eq.trans (if_neg h501) (Eq.trans (if_neg h503) (Eq.trans (if_neg h506) (Eq.trans (zn_eq hT513.symm) rfl)))) 
        refine X.icmpne 49 33 i158_30 rfl rfl rfl (fun h507 => ?_) (fun h507 => ?_)
        · refine X.cut [] i158_49 rfl ?_
          refine X.ldc2 52 i158_49 rfl rfl (by decide) ?_
          exact hK512 (-1) (by first | trivial | omega) (Eq.trans (if_neg h507) rfl)
        · refine X.aload_n 34 i158_33 rfl rfl rfl ?_
          refine X.getF 37 i158_34 rfl rfl (by decide) rfl rfl ?_
          refine X.getR 40 i158_37 rfl rfl (by decide) rfl rfl ?_
          refine X.getR 43 i158_40 rfl rfl (by decide) rfl rfl ?_
          refine X.iload_n 44 i158_43 rfl rfl rfl ?_
          refine X.ialdr 45 i158_44 rfl rfl (by decide) rfl (by omega) (fun h508 => ?_)
          refine X.i2l 46 i158_45 rfl rfl ?_
          refine X.goto 52 i158_46 rfl rfl ?_
          refine X.cut [] i158_52 rfl ?_
          exact hK512 (m 0 32 a1) (by first | trivial | omega) (Eq.trans (if_pos h507) rfl)
      · refine X.aload_n 16 i158_15 rfl rfl rfl ?_
        refine X.getF 19 i158_16 rfl rfl (by decide) rfl rfl ?_
        refine X.getR 22 i158_19 rfl rfl (by decide) rfl rfl ?_
        refine X.getR 25 i158_22 rfl rfl (by decide) rfl rfl ?_
        refine X.iload_n 26 i158_25 rfl rfl rfl ?_
        refine X.lald 27 i158_26 rfl rfl (by decide) rfl (by omega) ?_
        refine X.retl i158_27 rfl t158 ?_
        exact hQ (m 0 31 a1) (by first | trivial | omega) (Eq.trans (if_neg h501) (Eq.trans (if_neg h503) (Eq.trans (if_pos h506) rfl))) 
-- WorkMeterModel.greatest
noncomputable def f301_1 (a1 a2 : Int) (m : zM) : Int :=
  if a1 < 0 then
  ((-1))
  else
  (if a1 ≤ 3 then
  (zn (if a2 = 0 then
  ((m 4 45 (32 + a1)))
  else
  (if a2 = 1 then
  ((m 4 45 (36 + a1)))
  else
  ((-1)))) fun v510 =>
  v510)
  else
  ((-1)))
-- WorkMeterModel.greatest
theorem c301_1 {s : Nat × (Nat → Int32)} {S : zS} {m0 m : zM} {B : Int} {d : Nat} {Q : Option zV → zM → Prop} (a1 a2 : Int) (hd : 13 ≤ d) (hJ : J S m0 B m) (hB : B + 0 ≤ 1000000000) (ha1 : (-2147483648) ≤ a1 ∧ a1 ≤ 2147483647) (ha2 : (-2147483648) ≤ a2 ∧ a2 ≤ 2147483647) (hQ : ∀ (v : Int), (True) → f301_1 a1 a2 m = v → Q (some (zl v)) m) : X (EE s) d 301 0 [(0, zr 4 44), (1, zi a1), (2, zi a2)] [] m Q := by
  refine X.iload_n 1 i301_0 rfl rfl rfl ?_
  refine X.calls 4 [zi a1] [] [(0, zi a1)] i301_1 (by decide) rfl rfl (by omega) rfl rfl t242 (Nat.le_of_ble_eq_true rfl) (Nat.le_of_ble_eq_true rfl) rfl ?_
  refine X.iload_n 1 i242_0 rfl rfl rfl ?_
  refine X.i2l 2 i242_1 rfl rfl ?_
  refine X.lconst (y := 0) 3 i242_2 rfl rfl rfl ?_
  refine X.ldc2 6 i242_3 rfl rfl (by decide) ?_
  refine X.calls 9 [zl a1, zl 0, zl 3] [] [(0, zl a1), (2, zl 0), (4, zl 3)] i242_6 (by decide) rfl rfl (by omega) rfl rfl t204 (Nat.le_of_ble_eq_true rfl) (Nat.le_of_ble_eq_true rfl) rfl ?_
  refine X.lload_n 1 i204_0 rfl rfl rfl ?_
  refine X.lload_n 2 i204_1 rfl rfl rfl ?_
  refine X.lcmp 3 i204_2 rfl rfl (fun z501 hz501 => ?_)
  refine X.iflt 17 6 i204_3 rfl rfl rfl (fun h502 => ?_) (fun h502 => ?_)
  · have h502c : a1 < 0 := by omega
    clear h502 hz501
    refine X.cut [] i204_17 rfl ?_
    refine X.iconst 18 i204_17 rfl rfl (by decide) ?_
    refine X.retz i204_18 rfl t204 (by omega) ?_
    show X (EE s) (d - 1) 242 9 [(0, zi a1)] [zi 0] m _
    refine X.retz i242_9 rfl t242 (by omega) ?_
    show X (EE s) d 301 4 [(0, zr 4 44), (1, zi a1), (2, zi a2)] [zi 0] m _
    refine X.ifne 11 7 i301_4 rfl rfl rfl (fun h503 => (by exfalso; omega)) (fun h503 => ?_)
    refine X.ldc2 10 i301_7 rfl rfl (by decide) ?_
    refine X.retl i301_10 rfl t301 ?_
    exact hQ (-1) (by first | trivial | omega) (Eq.trans (if_pos h502c) rfl) 
  · have h502c : ¬ a1 < 0 := by omega
    clear h502 hz501
    refine X.lload_n 7 i204_6 rfl rfl rfl ?_
    refine X.lload 9 i204_7 rfl rfl rfl ?_
    refine X.lcmp 10 i204_9 rfl rfl (fun z504 hz504 => ?_)
    refine X.ifgt 17 13 i204_10 rfl rfl rfl (fun h505 => ?_) (fun h505 => ?_)
    · have h505c : ¬ a1 ≤ 3 := by omega
      clear h505 hz504
      refine X.cut [] i204_17 rfl ?_
      refine X.iconst 18 i204_17 rfl rfl (by decide) ?_
      refine X.retz i204_18 rfl t204 (by omega) ?_
      show X (EE s) (d - 1) 242 9 [(0, zi a1)] [zi 0] m _
      refine X.retz i242_9 rfl t242 (by omega) ?_
      show X (EE s) d 301 4 [(0, zr 4 44), (1, zi a1), (2, zi a2)] [zi 0] m _
      refine X.ifne 11 7 i301_4 rfl rfl rfl (fun h506 => (by exfalso; omega)) (fun h506 => ?_)
      refine X.ldc2 10 i301_7 rfl rfl (by decide) ?_
      refine X.retl i301_10 rfl t301 ?_
      exact hQ (-1) (by first | trivial | omega) (Eq.trans (if_neg h502c) (Eq.trans (if_neg h505c) rfl)) 
    · have h505c : a1 ≤ 3 := by omega
      clear h505 hz504
      refine X.iconst 14 i204_13 rfl rfl (by decide) ?_
      refine X.goto 18 i204_14 rfl rfl ?_
      refine X.cut [] i204_18 rfl ?_
      refine X.retz i204_18 rfl t204 (by omega) ?_
      show X (EE s) (d - 1) 242 9 [(0, zi a1)] [zi 1] m _
      refine X.retz i242_9 rfl t242 (by omega) ?_
      show X (EE s) d 301 4 [(0, zr 4 44), (1, zi a1), (2, zi a2)] [zi 1] m _
      refine X.ifne 11 7 i301_4 rfl rfl rfl (fun h507 => ?_) (fun h507 => (by exfalso; omega))
      refine X.iload_n 12 i301_11 rfl rfl rfl ?_
      have hK513 : ∀ (v : Int) , (True) → (if a2 = 0 then
          ((m 4 45 (32 + a1)))
          else
          (if a2 = 1 then
          ((m 4 45 (36 + a1)))
          else
          ((-1)))) = v → X (EE s) d 301 47 [] [zl v] m Q := by
        intro v510 hv510 hT514
        refine X.retl i301_47 rfl t301 ?_
        exact hQ v510 (by first | trivial | omega) (Eq.trans (if_neg h502c) (Eq.trans (if_pos h505c) (Eq.trans (zn_eq hT514.symm) rfl))) 
      refine X.ifne 27 15 i301_12 rfl rfl rfl (fun h508 => ?_) (fun h508 => ?_)
      · refine X.iload_n 28 i301_27 rfl rfl rfl ?_
        refine X.iconst 29 i301_28 rfl rfl (by decide) ?_
        refine X.icmpne 44 32 i301_29 rfl rfl rfl (fun h509 => ?_) (fun h509 => ?_)
        · refine X.cut [] i301_44 rfl ?_
          refine X.ldc2 47 i301_44 rfl rfl (by decide) ?_
          exact hK513 (-1) (by first | trivial | omega) (Eq.trans (if_neg h508) (Eq.trans (if_neg h509) rfl))
        · refine X.aload_n 33 i301_32 rfl rfl rfl ?_
          refine X.getF 36 i301_33 rfl rfl (by decide) rfl rfl ?_
          refine X.bipush 38 i301_36 rfl rfl (by decide) ?_
          refine X.iload_n 39 i301_38 rfl rfl rfl ?_
          refine X.iadd 40 i301_39 rfl rfl (by omega) ?_
          refine X.lald 41 i301_40 rfl rfl (by decide) rfl (by omega) ?_
          refine X.goto 47 i301_41 rfl rfl ?_
          refine X.cut [] i301_47 rfl ?_
          exact hK513 (m 4 45 (36 + a1)) (by first | trivial | omega) (Eq.trans (if_neg h508) (Eq.trans (if_pos h509) rfl))
      · refine X.aload_n 16 i301_15 rfl rfl rfl ?_
        refine X.getF 19 i301_16 rfl rfl (by decide) rfl rfl ?_
        refine X.bipush 21 i301_19 rfl rfl (by decide) ?_
        refine X.iload_n 22 i301_21 rfl rfl rfl ?_
        refine X.iadd 23 i301_22 rfl rfl (by omega) ?_
        refine X.lald 24 i301_23 rfl rfl (by decide) rfl (by omega) ?_
        refine X.goto 47 i301_24 rfl rfl ?_
        refine X.cut [] i301_47 rfl ?_
        exact hK513 (m 4 45 (32 + a1)) (by first | trivial | omega) (Eq.trans (if_pos h508) rfl)
noncomputable def fl72_16_2_b (self : Int → Int → Int) (k37 : Int → Int) (g0 : Nat) (y1 : Int) (m : zM) (y3 y5 : Int) : Int :=
  if 4 ≤ y5 then
  (k37 y3)
  else
  (zn (w64 (y3 + (m g0 26 (y1 + y5)))) fun z506 =>
  self z506 (y5 + 1))
noncomputable def fl72_16_2 (k37 : Int → Int) (g0 : Nat) (y1 : Int) (m : zM) : Nat → Int → Int → Int
  | 0 => fun y3 y5 => 0
  | n + 1 => fl72_16_2_b (fl72_16_2 k37 g0 y1 m n) k37 g0 y1 m
theorem l72_16_2 {s : Nat × (Nat → Int32)} {S : zS} {m0 : zM} {m : zM} {B : Int} {d : Nat} {Q : Option zV → zM → Prop} {R0 : Int} {k37 : Int → Int} (g0 : Nat) (y1 : Int) (hd : 13 ≤ d) (hJ : J S m0 B m) (hB9 : B ≤ 1000000000) (hy1 : 0 ≤ y1 ∧ y1 ≤ 194)
    (K37 : ∀ (x3 : Int) , (True) → R0 = k37 x3 → X (EE s) d 72 37 [(3, zl x3)] [] m Q) :
    ∀ (n : Nat) (y3 y5 : Int) , (0 ≤ y5 ∧ y5 ≤ 4) → 4 - y5 < (n : Int) → R0 = fl72_16_2 k37 g0 y1 m n y3 y5 → X (EE s) d 72 16 [(0, zr g0 26), (1, zi y1), (3, zl y3), (5, zi y5)] [] m Q := by
  intro n
  induction n with
  | zero =>
    intro y3 y5 hy5 hn hR
    exfalso
    omega
  | succ n ih =>
    intro y3 y5 hy5 hn hR
    replace hR : R0 = fl72_16_2_b (fl72_16_2 k37 g0 y1 m n) k37 g0 y1 m y3 y5 := hR
    refine X.iload 18 i72_16 rfl rfl rfl ?_
    refine X.iconst 19 i72_18 rfl rfl (by decide) ?_
    refine X.icmpge 37 22 i72_19 rfl rfl rfl (fun h505 => ?_) (fun h505 => ?_)
    · refine X.cut [(3, zl y3)] i72_37 rfl ?_
      exact K37 y3 (by first | trivial | omega) (Eq.trans hR (Eq.trans (if_pos h505) rfl))
    · refine X.lload_n 23 i72_22 rfl rfl rfl ?_
      refine X.aload_n 24 i72_23 rfl rfl rfl ?_
      refine X.iload_n 25 i72_24 rfl rfl rfl ?_
      refine X.iload 27 i72_25 rfl rfl rfl ?_
      refine X.iadd 28 i72_27 rfl rfl (by omega) ?_
      refine X.lald 29 i72_28 rfl rfl (by decide) rfl (by omega) ?_
      refine X.laddW 30 i72_29 rfl rfl (fun z506 ez506 hz506 => ?_)
      refine X.lstore_n 31 [(0, zr g0 26), (1, zi y1), (3, zl z506), (5, zi y5)] i72_30 rfl rfl rfl ?_
      refine X.iinc 34 [(0, zr g0 26), (1, zi y1), (3, zl z506), (5, zi (y5 + 1))] i72_31 rfl rfl rfl (by omega) rfl ?_
      refine X.goto 16 i72_34 rfl rfl ?_
      exact ih z506 (y5 + 1) (by omega) (by omega) (Eq.trans hR (Eq.trans (if_neg h505) (Eq.trans (zn_eq ez506) rfl)))
-- WorkMeter$Registers.sumIn
noncomputable def f72_2 (g0 : Nat) (a1 a2 : Int) (m : zM) : Int :=
  if a2 = (-1) then
  (fl72_16_2 (fun y502 =>
  y502) g0 a1 m (zfu 5) 0 0)
  else
  ((m g0 26 (a1 + a2)))
-- WorkMeter$Registers.sumIn
theorem c72_2 {s : Nat × (Nat → Int32)} {S : zS} {m0 m : zM} {B : Int} {d : Nat} {Q : Option zV → zM → Prop} (g0 : Nat) (a1 a2 : Int) (hd : 13 ≤ d) (hJ : J S m0 B m) (hB : B + 0 ≤ 1000000000) (ha1 : 0 ≤ a1 ∧ a1 ≤ 194) (ha2 : (-1) ≤ a2 ∧ a2 ≤ 3) (hQ : ∀ (v : Int), (True) → f72_2 g0 a1 a2 m = v → Q (some (zl v)) m) : X (EE s) d 72 0 [(0, zr g0 26), (1, zi a1), (2, zi a2)] [] m Q := by
  refine X.iload_n 1 i72_0 rfl rfl rfl ?_
  refine X.iconst 2 i72_1 rfl rfl (by decide) ?_
  refine X.icmpeq 11 5 i72_2 rfl rfl rfl (fun h501 => ?_) (fun h501 => ?_)
  · refine X.cut [(0, zr g0 26), (1, zi a1)] i72_11 rfl ?_
    refine X.lconst (y := 0) 12 i72_11 rfl rfl rfl ?_
    refine X.lstore_n 13 [(0, zr g0 26), (1, zi a1), (3, zl 0)] i72_12 rfl rfl rfl ?_
    refine X.iconst 14 i72_13 rfl rfl (by decide) ?_
    refine X.istore 16 [(0, zr g0 26), (1, zi a1), (3, zl 0), (5, zi 0)] i72_14 rfl rfl rfl ?_
    have hz5 := zfu_eq 5
    refine l72_16_2 (s := s) (m := m) (B := B) (d := d) (R0 := (f72_2 g0 a1 a2 m)) g0 a1  (by omega) (hJ.up (by omega)) (by omega) (by omega) (fun y502 hby502 hR506 => ?_) (zfu 5) 0 0 (by omega) (by omega) (Eq.trans (if_pos h501) rfl)
    refine X.lload_n 38 i72_37 rfl rfl rfl ?_
    refine X.retl i72_38 rfl t72 ?_
    exact hQ y502 (by first | trivial | omega) (Eq.trans hR506 rfl) 
  · refine X.aload_n 6 i72_5 rfl rfl rfl ?_
    refine X.iload_n 7 i72_6 rfl rfl rfl ?_
    refine X.iload_n 8 i72_7 rfl rfl rfl ?_
    refine X.iadd 9 i72_8 rfl rfl (by omega) ?_
    refine X.lald 10 i72_9 rfl rfl (by decide) rfl (by omega) ?_
    refine X.retl i72_10 rfl t72 ?_
    exact hQ (m g0 26 (a1 + a2)) (by first | trivial | omega) (Eq.trans (if_neg h501) rfl) 
-- WorkMeter$Registers.billedSum
noncomputable def f161_1 (g0 : Nat) (a1 a2 a3 : Int) (m : zM) : Int :=
  zn (f72_2 g0 ((((((m g0 23 3) - 1) - a1) % 6) * 33) + (a2 * 4)) a3 m) fun v504 =>
  v504
-- WorkMeter$Registers.billedSum
theorem c161_1 {s : Nat × (Nat → Int32)} {S : zS} {m0 m : zM} {B : Int} {d : Nat} {Q : Option zV → zM → Prop} (g0 : Nat) (a1 a2 a3 : Int) (hd : 14 ≤ d) (hJ : J S m0 B m) (hB : B + 0 ≤ 1000000000) (ha1 : 0 ≤ a1 ∧ a1 ≤ 5) (ha2 : 0 ≤ a2 ∧ a2 ≤ 6) (ha3 : (-1) ≤ a3 ∧ a3 ≤ 3) (hp0 : 0 ≤ a1) (hp1 : a1 < m g0 23 3) (hQ : ∀ (v : Int), (True) → f161_1 g0 a1 a2 a3 m = v → Q (some (zl v)) m) : X (EE s) d 161 0 [(0, zr g0 23), (1, zi a1), (2, zi a2), (3, zi a3)] [] m Q := by
  refine X.aload_n 1 i161_0 rfl rfl rfl ?_
  refine X.getR 4 i161_1 rfl rfl (by decide) rfl rfl ?_
  refine X.aload_n 5 i161_4 rfl rfl rfl ?_
  refine X.iload_n 6 i161_5 rfl rfl rfl ?_
  refine X.callv 9 [zi a1] [zr g0 26] [(0, zr g0 23), (1, zi a1)] i161_6 rfl (by decide) rfl rfl (by omega) rfl rfl (by decide) rfl t162 (Nat.le_of_ble_eq_true rfl) (Nat.le_of_ble_eq_true rfl) rfl ?_
  refine X.aload_n 1 i162_0 rfl rfl rfl ?_
  refine X.getI 4 3 i162_1 rfl rfl (by decide) rfl rfl rfl ?_
  have h501 := r23_3 hJ g0
  refine X.iconst 5 i162_4 rfl rfl (by decide) ?_
  refine X.isub 6 i162_5 rfl rfl (by omega) ?_
  refine X.iload_n 7 i162_6 rfl rfl rfl ?_
  refine X.isub 8 i162_7 rfl rfl (by omega) ?_
  refine X.bipush 10 i162_8 rfl rfl (by decide) ?_
  refine X.irem 11 i162_10 rfl rfl (by omega) ?_
  refine X.bipush 13 i162_11 rfl rfl (by decide) ?_
  refine X.imul 14 i162_13 rfl rfl (by omega) ?_
  refine X.reti i162_14 rfl t162 ?_
  show X (EE s) d 161 9 [(0, zr g0 23), (1, zi a1), (2, zi a2), (3, zi a3)] [zi (((((m g0 23 3) - 1) - a1) % 6) * 33), zr g0 26] m _
  refine X.iload_n 10 i161_9 rfl rfl rfl ?_
  refine X.iconst 11 i161_10 rfl rfl (by decide) ?_
  refine X.imul 12 i161_11 rfl rfl (by omega) ?_
  refine X.iadd 13 i161_12 rfl rfl (by omega) ?_
  refine X.iload_n 14 i161_13 rfl rfl rfl ?_
  refine X.calls 17 [zr g0 26, zi ((((((m g0 23 3) - 1) - a1) % 6) * 33) + (a2 * 4)), zi a3] [] [(0, zr g0 26), (1, zi ((((((m g0 23 3) - 1) - a1) % 6) * 33) + (a2 * 4))), (2, zi a3)] i161_14 (by decide) rfl rfl (by omega) rfl rfl t72 (Nat.le_of_ble_eq_true rfl) (Nat.le_of_ble_eq_true rfl) rfl ?_
  refine c72_2 (B := B) g0 ((((((m g0 23 3) - 1) - a1) % 6) * 33) + (a2 * 4)) a3 (by omega) (hJ.up (by omega)) (by omega) (by omega) (by omega) (fun v504 hv504 hFv504 => ?_)
  show X (EE s) d 161 17 [(0, zr g0 23), (1, zi a1), (2, zi a2), (3, zi a3)] [zl v504] m _
  refine X.retl i161_17 rfl t161 ?_
  exact hQ v504 (by first | trivial | omega) (Eq.trans (zn_eq hFv504.symm) rfl) 
-- WorkMeter.billed
noncomputable def f159_1 (a1 a2 a3 : Int) (m : zM) : Int :=
  if a1 < 0 then
  ((-1))
  else
  (if (min (m 0 23 3) 6) ≤ a1 then
  ((-1))
  else
  (if a2 < 0 then
  ((-1))
  else
  (if 7 ≤ a2 then
  ((-1))
  else
  (if a3 = (-1) then
  (zn (f161_1 0 a1 a2 a3 m) fun v516 =>
  v516)
  else
  (if a3 < 0 then
  ((-1))
  else
  (if 4 ≤ a3 then
  ((-1))
  else
  (zn (f161_1 0 a1 a2 a3 m) fun v527 =>
  v527)))))))
-- WorkMeter.billed
theorem c159_1 {s : Nat × (Nat → Int32)} {S : zS} {m0 m : zM} {B : Int} {d : Nat} {Q : Option zV → zM → Prop} (a1 a2 a3 : Int) (hd : 15 ≤ d) (hJ : J S m0 B m) (hB : B + 0 ≤ 1000000000) (ha1 : (-2147483648) ≤ a1 ∧ a1 ≤ 2147483647) (ha2 : (-2147483648) ≤ a2 ∧ a2 ≤ 2147483647) (ha3 : (-2147483648) ≤ a3 ∧ a3 ≤ 2147483647) (hQ : ∀ (v : Int), (True) → f159_1 a1 a2 a3 m = v → Q (some (zl v)) m) : X (EE s) d 159 0 [(0, zr 4 40), (1, zi a1), (2, zi a2), (3, zi a3)] [] m Q := by
  refine X.aload_n 1 i159_0 rfl rfl rfl ?_
  refine X.getF 4 i159_1 rfl rfl (by decide) rfl rfl ?_
  refine X.getR 7 i159_4 rfl rfl (by decide) rfl rfl ?_
  refine X.iload_n 8 i159_7 rfl rfl rfl ?_
  refine X.callv 11 [zi a1] [] [(0, zr 0 23), (1, zi a1)] i159_8 rfl (by decide) rfl rfl (by omega) rfl rfl (by decide) rfl t160 (Nat.le_of_ble_eq_true rfl) (Nat.le_of_ble_eq_true rfl) rfl ?_
  refine X.iload_n 1 i160_0 rfl rfl rfl ?_
  refine X.iflt 21 4 i160_1 rfl rfl rfl (fun h501 => ?_) (fun h501 => ?_)
  · refine X.cut [] i160_21 rfl ?_
    refine X.iconst 22 i160_21 rfl rfl (by decide) ?_
    refine X.retz i160_22 rfl t160 (by omega) ?_
    show X (EE s) d 159 11 [(0, zr 4 40), (1, zi a1), (2, zi a2), (3, zi a3)] [zi 0] m _
    refine X.ifeq 28 14 i159_11 rfl rfl rfl (fun h502 => ?_) (fun h502 => (by exfalso; omega))
    refine X.cut [] i159_28 rfl ?_
    refine X.ldc2 31 i159_28 rfl rfl (by decide) ?_
    refine X.retl i159_31 rfl t159 ?_
    exact hQ (-1) (by first | trivial | omega) (Eq.trans (if_pos h501) rfl) 
  · refine X.iload_n 5 i160_4 rfl rfl rfl ?_
    refine X.aload_n 6 i160_5 rfl rfl rfl ?_
    refine X.getI 9 3 i160_6 rfl rfl (by decide) rfl rfl rfl ?_
    have h503 := r23_3 hJ 0
    refine X.bipush 11 i160_9 rfl rfl (by decide) ?_
    refine X.minI 14 i160_11 rfl rfl (by omega) (Nat.le_of_ble_eq_true rfl) ?_
    refine X.icmpge 21 17 i160_14 rfl rfl rfl (fun h504 => ?_) (fun h504 => ?_)
    · refine X.cut [] i160_21 rfl ?_
      refine X.iconst 22 i160_21 rfl rfl (by decide) ?_
      refine X.retz i160_22 rfl t160 (by omega) ?_
      show X (EE s) d 159 11 [(0, zr 4 40), (1, zi a1), (2, zi a2), (3, zi a3)] [zi 0] m _
      refine X.ifeq 28 14 i159_11 rfl rfl rfl (fun h505 => ?_) (fun h505 => (by exfalso; omega))
      refine X.cut [] i159_28 rfl ?_
      refine X.ldc2 31 i159_28 rfl rfl (by decide) ?_
      refine X.retl i159_31 rfl t159 ?_
      exact hQ (-1) (by first | trivial | omega) (Eq.trans (if_neg h501) (Eq.trans (if_pos h504) rfl)) 
    · refine X.iconst 18 i160_17 rfl rfl (by decide) ?_
      refine X.goto 22 i160_18 rfl rfl ?_
      refine X.cut [] i160_22 rfl ?_
      refine X.retz i160_22 rfl t160 (by omega) ?_
      show X (EE s) d 159 11 [(0, zr 4 40), (1, zi a1), (2, zi a2), (3, zi a3)] [zi 1] m _
      refine X.ifeq 28 14 i159_11 rfl rfl rfl (fun h506 => (by exfalso; omega)) (fun h506 => ?_)
      refine X.iload_n 15 i159_14 rfl rfl rfl ?_
      refine X.calls 18 [zi a2] [] [(0, zi a2)] i159_15 (by decide) rfl rfl (by omega) rfl rfl t145 (Nat.le_of_ble_eq_true rfl) (Nat.le_of_ble_eq_true rfl) rfl ?_
      refine X.iload_n 1 i145_0 rfl rfl rfl ?_
      refine X.iflt 14 4 i145_1 rfl rfl rfl (fun h507 => ?_) (fun h507 => ?_)
      · refine X.cut [] i145_14 rfl ?_
        refine X.iconst 15 i145_14 rfl rfl (by decide) ?_
        refine X.retz i145_15 rfl t145 (by omega) ?_
        show X (EE s) d 159 18 [(0, zr 4 40), (1, zi a1), (2, zi a2), (3, zi a3)] [zi 0] m _
        refine X.ifeq 28 21 i159_18 rfl rfl rfl (fun h508 => ?_) (fun h508 => (by exfalso; omega))
        refine X.cut [] i159_28 rfl ?_
        refine X.ldc2 31 i159_28 rfl rfl (by decide) ?_
        refine X.retl i159_31 rfl t159 ?_
        exact hQ (-1) (by first | trivial | omega) (Eq.trans (if_neg h501) (Eq.trans (if_neg h504) (Eq.trans (if_pos h507) rfl))) 
      · refine X.iload_n 5 i145_4 rfl rfl rfl ?_
        refine X.bipush 7 i145_5 rfl rfl (by decide) ?_
        refine X.icmpge 14 10 i145_7 rfl rfl rfl (fun h509 => ?_) (fun h509 => ?_)
        · refine X.cut [] i145_14 rfl ?_
          refine X.iconst 15 i145_14 rfl rfl (by decide) ?_
          refine X.retz i145_15 rfl t145 (by omega) ?_
          show X (EE s) d 159 18 [(0, zr 4 40), (1, zi a1), (2, zi a2), (3, zi a3)] [zi 0] m _
          refine X.ifeq 28 21 i159_18 rfl rfl rfl (fun h510 => ?_) (fun h510 => (by exfalso; omega))
          refine X.cut [] i159_28 rfl ?_
          refine X.ldc2 31 i159_28 rfl rfl (by decide) ?_
          refine X.retl i159_31 rfl t159 ?_
          exact hQ (-1) (by first | trivial | omega) (Eq.trans (if_neg h501) (Eq.trans (if_neg h504) (Eq.trans (if_neg h507) (Eq.trans (if_pos h509) rfl)))) 
        · refine X.iconst 11 i145_10 rfl rfl (by decide) ?_
          refine X.goto 15 i145_11 rfl rfl ?_
          refine X.cut [] i145_15 rfl ?_
          refine X.retz i145_15 rfl t145 (by omega) ?_
          show X (EE s) d 159 18 [(0, zr 4 40), (1, zi a1), (2, zi a2), (3, zi a3)] [zi 1] m _
          refine X.ifeq 28 21 i159_18 rfl rfl rfl (fun h511 => (by exfalso; omega)) (fun h511 => ?_)
          refine X.iload_n 22 i159_21 rfl rfl rfl ?_
          refine X.calls 25 [zi a3] [] [(0, zi a3)] i159_22 (by decide) rfl rfl (by omega) rfl rfl t146 (Nat.le_of_ble_eq_true rfl) (Nat.le_of_ble_eq_true rfl) rfl ?_
          refine X.iload_n 1 i146_0 rfl rfl rfl ?_
          refine X.iconst 2 i146_1 rfl rfl (by decide) ?_
          refine X.icmpeq 12 5 i146_2 rfl rfl rfl (fun h512 => ?_) (fun h512 => ?_)
          · refine X.cut [] i146_12 rfl ?_
            refine X.iconst 13 i146_12 rfl rfl (by decide) ?_
            refine X.goto 17 i146_13 rfl rfl ?_
            refine X.retz i146_17 rfl t146 (by omega) ?_
            show X (EE s) d 159 25 [(0, zr 4 40), (1, zi a1), (2, zi a2), (3, zi a3)] [zi 1] m _
            refine X.ifne 32 28 i159_25 rfl rfl rfl (fun h513 => ?_) (fun h513 => (by exfalso; omega))
            refine X.aload_n 33 i159_32 rfl rfl rfl ?_
            refine X.getF 36 i159_33 rfl rfl (by decide) rfl rfl ?_
            refine X.getR 39 i159_36 rfl rfl (by decide) rfl rfl ?_
            refine X.iload_n 40 i159_39 rfl rfl rfl ?_
            refine X.iload_n 41 i159_40 rfl rfl rfl ?_
            refine X.iload_n 42 i159_41 rfl rfl rfl ?_
            refine X.callv 45 [zi a1, zi a2, zi a3] [] [(0, zr 0 23), (1, zi a1), (2, zi a2), (3, zi a3)] i159_42 rfl (by decide) rfl rfl (by omega) rfl rfl (by decide) rfl t161 (Nat.le_of_ble_eq_true rfl) (Nat.le_of_ble_eq_true rfl) rfl ?_
            refine c161_1 (B := B) 0 a1 a2 a3 (by omega) (hJ.up (by omega)) (by omega) (by omega) (by omega) (by omega) (by omega) (by omega) (fun v516 hv516 hFv516 => ?_)
            show X (EE s) d 159 45 [(0, zr 4 40), (1, zi a1), (2, zi a2), (3, zi a3)] [zl v516] m _
            refine X.retl i159_45 rfl t159 ?_
            exact hQ v516 (by first | trivial | omega) (Eq.trans (if_neg h501) (Eq.trans (if_neg h504) (Eq.trans (if_neg h507) (Eq.trans (if_neg h509) (Eq.trans (if_pos h512) (Eq.trans (zn_eq hFv516.symm) rfl)))))) 
          · refine X.iload_n 6 i146_5 rfl rfl rfl ?_
            refine X.calls 9 [zi a3] [] [(0, zi a3)] i146_6 (by decide) rfl rfl (by omega) rfl rfl t80 (Nat.le_of_ble_eq_true rfl) (Nat.le_of_ble_eq_true rfl) rfl ?_
            refine X.iload_n 1 i80_0 rfl rfl rfl ?_
            refine X.iflt 13 4 i80_1 rfl rfl rfl (fun h517 => ?_) (fun h517 => ?_)
            · refine X.cut [] i80_13 rfl ?_
              refine X.iconst 14 i80_13 rfl rfl (by decide) ?_
              refine X.retz i80_14 rfl t80 (by omega) ?_
              show X (EE s) (d - 1) 146 9 [(0, zi a3)] [zi 0] m _
              refine X.ifeq 16 12 i146_9 rfl rfl rfl (fun h518 => ?_) (fun h518 => (by exfalso; omega))
              refine X.cut [] i146_16 rfl ?_
              refine X.iconst 17 i146_16 rfl rfl (by decide) ?_
              refine X.retz i146_17 rfl t146 (by omega) ?_
              show X (EE s) d 159 25 [(0, zr 4 40), (1, zi a1), (2, zi a2), (3, zi a3)] [zi 0] m _
              refine X.ifne 32 28 i159_25 rfl rfl rfl (fun h519 => (by exfalso; omega)) (fun h519 => ?_)
              refine X.cut [] i159_28 rfl ?_
              refine X.ldc2 31 i159_28 rfl rfl (by decide) ?_
              refine X.retl i159_31 rfl t159 ?_
              exact hQ (-1) (by first | trivial | omega) (Eq.trans (if_neg h501) (Eq.trans (if_neg h504) (Eq.trans (if_neg h507) (Eq.trans (if_neg h509) (Eq.trans (if_neg h512) (Eq.trans (if_pos h517) rfl)))))) 
            · refine X.iload_n 5 i80_4 rfl rfl rfl ?_
              refine X.iconst 6 i80_5 rfl rfl (by decide) ?_
              refine X.icmpge 13 9 i80_6 rfl rfl rfl (fun h520 => ?_) (fun h520 => ?_)
              · refine X.cut [] i80_13 rfl ?_
                refine X.iconst 14 i80_13 rfl rfl (by decide) ?_
                refine X.retz i80_14 rfl t80 (by omega) ?_
                show X (EE s) (d - 1) 146 9 [(0, zi a3)] [zi 0] m _
                refine X.ifeq 16 12 i146_9 rfl rfl rfl (fun h521 => ?_) (fun h521 => (by exfalso; omega))
                refine X.cut [] i146_16 rfl ?_
                refine X.iconst 17 i146_16 rfl rfl (by decide) ?_
                refine X.retz i146_17 rfl t146 (by omega) ?_
                show X (EE s) d 159 25 [(0, zr 4 40), (1, zi a1), (2, zi a2), (3, zi a3)] [zi 0] m _
                refine X.ifne 32 28 i159_25 rfl rfl rfl (fun h522 => (by exfalso; omega)) (fun h522 => ?_)
                refine X.cut [] i159_28 rfl ?_
                refine X.ldc2 31 i159_28 rfl rfl (by decide) ?_
                refine X.retl i159_31 rfl t159 ?_
                exact hQ (-1) (by first | trivial | omega) (Eq.trans (if_neg h501) (Eq.trans (if_neg h504) (Eq.trans (if_neg h507) (Eq.trans (if_neg h509) (Eq.trans (if_neg h512) (Eq.trans (if_neg h517) (Eq.trans (if_pos h520) rfl))))))) 
              · refine X.iconst 10 i80_9 rfl rfl (by decide) ?_
                refine X.goto 14 i80_10 rfl rfl ?_
                refine X.cut [] i80_14 rfl ?_
                refine X.retz i80_14 rfl t80 (by omega) ?_
                show X (EE s) (d - 1) 146 9 [(0, zi a3)] [zi 1] m _
                refine X.ifeq 16 12 i146_9 rfl rfl rfl (fun h523 => (by exfalso; omega)) (fun h523 => ?_)
                refine X.cut [] i146_12 rfl ?_
                refine X.iconst 13 i146_12 rfl rfl (by decide) ?_
                refine X.goto 17 i146_13 rfl rfl ?_
                refine X.retz i146_17 rfl t146 (by omega) ?_
                show X (EE s) d 159 25 [(0, zr 4 40), (1, zi a1), (2, zi a2), (3, zi a3)] [zi 1] m _
                refine X.ifne 32 28 i159_25 rfl rfl rfl (fun h524 => ?_) (fun h524 => (by exfalso; omega))
                refine X.aload_n 33 i159_32 rfl rfl rfl ?_
                refine X.getF 36 i159_33 rfl rfl (by decide) rfl rfl ?_
                refine X.getR 39 i159_36 rfl rfl (by decide) rfl rfl ?_
                refine X.iload_n 40 i159_39 rfl rfl rfl ?_
                refine X.iload_n 41 i159_40 rfl rfl rfl ?_
                refine X.iload_n 42 i159_41 rfl rfl rfl ?_
                refine X.callv 45 [zi a1, zi a2, zi a3] [] [(0, zr 0 23), (1, zi a1), (2, zi a2), (3, zi a3)] i159_42 rfl (by decide) rfl rfl (by omega) rfl rfl (by decide) rfl t161 (Nat.le_of_ble_eq_true rfl) (Nat.le_of_ble_eq_true rfl) rfl ?_
                refine c161_1 (B := B) 0 a1 a2 a3 (by omega) (hJ.up (by omega)) (by omega) (by omega) (by omega) (by omega) (by omega) (by omega) (fun v527 hv527 hFv527 => ?_)
                show X (EE s) d 159 45 [(0, zr 4 40), (1, zi a1), (2, zi a2), (3, zi a3)] [zl v527] m _
                refine X.retl i159_45 rfl t159 ?_
                exact hQ v527 (by first | trivial | omega) (Eq.trans (if_neg h501) (Eq.trans (if_neg h504) (Eq.trans (if_neg h507) (Eq.trans (if_neg h509) (Eq.trans (if_neg h512) (Eq.trans (if_neg h517) (Eq.trans (if_neg h520) (Eq.trans (zn_eq hFv527.symm) rfl)))))))) 
-- WorkMeterModel.billAt
noncomputable def f289_1 (a1 : Int) (m : zM) : Int :=
  zn (if (m 4 45 18) < 6 then
  ((m 4 45 18))
  else
  (6)) fun v504 =>
  if a1 < 0 then
  ((-1))
  else
  (if a1 ≤ (v504 - 1) then
  (if (m 4 45 18) < 7 then
  ((1172 + (45 * (((m 4 45 18) - 1) - a1))))
  else
  ((1172 + (45 * ((7 - 1) - a1)))))
  else
  ((-1)))
-- WorkMeterModel.billAt
theorem c289_1 {s : Nat × (Nat → Int32)} {S : zS} {m0 m : zM} {B : Int} {d : Nat} {Q : Option zV → zM → Prop} (a1 : Int) (hd : 13 ≤ d) (hJ : J S m0 B m) (hB : B + 0 ≤ 1000000000) (ha1 : (-2147483648) ≤ a1 ∧ a1 ≤ 2147483647) (hQ : ∀ (v : Int), ((-1) ≤ v ∧ v ≤ 1442) → f289_1 a1 m = v → (v = -1 ∨ v = 1172 ∨ 1217 ≤ v) → Q (some (zi v)) m) : X (EE s) d 289 0 [(0, zr 4 44), (1, zi a1)] [] m Q := by
  refine X.aload_n 1 i289_0 rfl rfl rfl ?_
  refine X.getF 4 i289_1 rfl rfl (by decide) rfl rfl ?_
  refine X.bipush 6 i289_4 rfl rfl (by decide) ?_
  refine X.lald 7 i289_6 rfl rfl (by decide) rfl (by omega) ?_
  have h501 := r45_18 hJ 4
  refine X.ldc2 10 i289_7 rfl rfl (by decide) ?_
  refine X.lcmp 11 i289_10 rfl rfl (fun z502 hz502 => ?_)
  have hK507 : ∀ (v : Int) , (0 ≤ v ∧ v ≤ 6) → (if (m 4 45 18) < 6 then
      ((m 4 45 18))
      else
      (6)) = v → X (EE s) d 289 27 [(0, zr 4 44), (1, zi a1)] [zl v] m Q := by
    intro v504 hv504 hT508
    refine X.l2i 28 i289_27 rfl rfl (by omega) ?_
    refine X.istore_n 29 [(0, zr 4 44), (1, zi a1), (2, zi v504)] i289_28 rfl rfl rfl ?_
    refine X.iload_n 30 i289_29 rfl rfl rfl ?_
    refine X.i2l 31 i289_30 rfl rfl ?_
    refine X.lconst (y := 0) 32 i289_31 rfl rfl rfl ?_
    refine X.iload_n 33 i289_32 rfl rfl rfl ?_
    refine X.iconst 34 i289_33 rfl rfl (by decide) ?_
    refine X.isub 35 i289_34 rfl rfl (by omega) ?_
    refine X.i2l 36 i289_35 rfl rfl ?_
    refine X.calls 39 [zl a1, zl 0, zl (v504 - 1)] [] [(0, zl a1), (2, zl 0), (4, zl (v504 - 1))] i289_36 (by decide) rfl rfl (by omega) rfl rfl t204 (Nat.le_of_ble_eq_true rfl) (Nat.le_of_ble_eq_true rfl) rfl ?_
    refine X.lload_n 1 i204_0 rfl rfl rfl ?_
    refine X.lload_n 2 i204_1 rfl rfl rfl ?_
    refine X.lcmp 3 i204_2 rfl rfl (fun z509 hz509 => ?_)
    refine X.iflt 17 6 i204_3 rfl rfl rfl (fun h510 => ?_) (fun h510 => ?_)
    · have h510c : a1 < 0 := by omega
      clear h510 hz509
      refine X.cut [] i204_17 rfl ?_
      refine X.iconst 18 i204_17 rfl rfl (by decide) ?_
      refine X.retz i204_18 rfl t204 (by omega) ?_
      show X (EE s) d 289 39 [(0, zr 4 44), (1, zi a1), (2, zi v504)] [zi 0] m _
      refine X.ifeq 60 42 i289_39 rfl rfl rfl (fun h511 => ?_) (fun h511 => (by exfalso; omega))
      refine X.cut [] i289_60 rfl ?_
      refine X.iconst 61 i289_60 rfl rfl (by decide) ?_
      refine X.reti i289_61 rfl t289 ?_
      exact hQ (-1) (by first | trivial | omega) (Eq.trans (zn_eq hT508.symm) (Eq.trans (if_pos h510c) rfl)) (by omega)
    · have h510c : ¬ a1 < 0 := by omega
      clear h510 hz509
      refine X.lload_n 7 i204_6 rfl rfl rfl ?_
      refine X.lload 9 i204_7 rfl rfl rfl ?_
      refine X.lcmp 10 i204_9 rfl rfl (fun z512 hz512 => ?_)
      refine X.ifgt 17 13 i204_10 rfl rfl rfl (fun h513 => ?_) (fun h513 => ?_)
      · have h513c : ¬ a1 ≤ (v504 - 1) := by omega
        clear h513 hz512
        refine X.cut [] i204_17 rfl ?_
        refine X.iconst 18 i204_17 rfl rfl (by decide) ?_
        refine X.retz i204_18 rfl t204 (by omega) ?_
        show X (EE s) d 289 39 [(0, zr 4 44), (1, zi a1), (2, zi v504)] [zi 0] m _
        refine X.ifeq 60 42 i289_39 rfl rfl rfl (fun h514 => ?_) (fun h514 => (by exfalso; omega))
        refine X.cut [] i289_60 rfl ?_
        refine X.iconst 61 i289_60 rfl rfl (by decide) ?_
        refine X.reti i289_61 rfl t289 ?_
        exact hQ (-1) (by first | trivial | omega) (Eq.trans (zn_eq hT508.symm) (Eq.trans (if_neg h510c) (Eq.trans (if_neg h513c) rfl))) (by omega)
      · have h513c : a1 ≤ (v504 - 1) := by omega
        clear h513 hz512
        refine X.iconst 14 i204_13 rfl rfl (by decide) ?_
        refine X.goto 18 i204_14 rfl rfl ?_
        refine X.cut [] i204_18 rfl ?_
        refine X.retz i204_18 rfl t204 (by omega) ?_
        show X (EE s) d 289 39 [(0, zr 4 44), (1, zi a1), (2, zi v504)] [zi 1] m _
        refine X.ifeq 60 42 i289_39 rfl rfl rfl (fun h515 => (by exfalso; omega)) (fun h515 => ?_)
        refine X.sipush 45 i289_42 rfl rfl (by decide) ?_
        refine X.bipush 47 i289_45 rfl rfl (by decide) ?_
        refine X.aload_n 48 i289_47 rfl rfl rfl ?_
        refine X.callv 51 [] [zi 45, zi 1172] [(0, zr 4 44)] i289_48 rfl (by decide) rfl rfl (by omega) rfl rfl (by decide) rfl t287 (Nat.le_of_ble_eq_true rfl) (Nat.le_of_ble_eq_true rfl) rfl ?_
        refine X.aload_n 1 i287_0 rfl rfl rfl ?_
        refine X.getF 4 i287_1 rfl rfl (by decide) rfl rfl ?_
        refine X.bipush 6 i287_4 rfl rfl (by decide) ?_
        refine X.lald 7 i287_6 rfl rfl (by decide) rfl (by omega) ?_
        refine X.ldc2 10 i287_7 rfl rfl (by decide) ?_
        refine X.lcmp 11 i287_10 rfl rfl (fun z516 hz516 => ?_)
        refine X.ifge 24 14 i287_11 rfl rfl rfl (fun h517 => ?_) (fun h517 => ?_)
        · have h517c : ¬ (m 4 45 18) < 7 := by omega
          clear h517 hz516
          refine X.cut [] i287_24 rfl ?_
          refine X.ldc2 27 i287_24 rfl rfl (by decide) ?_
          refine X.l2i 28 i287_27 rfl rfl (by omega) ?_
          refine X.reti i287_28 rfl t287 ?_
          show X (EE s) d 289 51 [(0, zr 4 44), (1, zi a1), (2, zi v504)] [zi 7, zi 45, zi 1172] m _
          refine X.iconst 52 i289_51 rfl rfl (by decide) ?_
          refine X.isub 53 i289_52 rfl rfl (by omega) ?_
          refine X.iload_n 54 i289_53 rfl rfl rfl ?_
          refine X.isub 55 i289_54 rfl rfl (by omega) ?_
          refine X.imul 56 i289_55 rfl rfl (by omega) ?_
          refine X.iadd 57 i289_56 rfl rfl (by omega) ?_
          refine X.goto 61 i289_57 rfl rfl ?_
          refine X.cut [] i289_61 rfl ?_
          refine X.reti i289_61 rfl t289 ?_
          exact hQ (1172 + (45 * ((7 - 1) - a1))) (by first | trivial | omega) (Eq.trans (zn_eq hT508.symm) (Eq.trans (if_neg h510c) (Eq.trans (if_pos h513c) (Eq.trans (if_neg h517c) rfl)))) (by omega)
        · have h517c : (m 4 45 18) < 7 := by omega
          clear h517 hz516
          refine X.aload_n 15 i287_14 rfl rfl rfl ?_
          refine X.getF 18 i287_15 rfl rfl (by decide) rfl rfl ?_
          refine X.bipush 20 i287_18 rfl rfl (by decide) ?_
          refine X.lald 21 i287_20 rfl rfl (by decide) rfl (by omega) ?_
          refine X.goto 27 i287_21 rfl rfl ?_
          refine X.cut [] i287_27 rfl ?_
          refine X.l2i 28 i287_27 rfl rfl (by omega) ?_
          refine X.reti i287_28 rfl t287 ?_
          show X (EE s) d 289 51 [(0, zr 4 44), (1, zi a1), (2, zi v504)] [zi (m 4 45 18), zi 45, zi 1172] m _
          refine X.iconst 52 i289_51 rfl rfl (by decide) ?_
          refine X.isub 53 i289_52 rfl rfl (by omega) ?_
          refine X.iload_n 54 i289_53 rfl rfl rfl ?_
          refine X.isub 55 i289_54 rfl rfl (by omega) ?_
          refine X.imul 56 i289_55 rfl rfl (by omega) ?_
          refine X.iadd 57 i289_56 rfl rfl (by omega) ?_
          refine X.goto 61 i289_57 rfl rfl ?_
          refine X.cut [] i289_61 rfl ?_
          refine X.reti i289_61 rfl t289 ?_
          exact hQ (1172 + (45 * (((m 4 45 18) - 1) - a1))) (by first | trivial | omega) (Eq.trans (zn_eq hT508.symm) (Eq.trans (if_neg h510c) (Eq.trans (if_pos h513c) (Eq.trans (if_pos h517c) rfl)))) (by omega)
  refine X.ifge 24 14 i289_11 rfl rfl rfl (fun h503 => ?_) (fun h503 => ?_)
  · have h503c : ¬ (m 4 45 18) < 6 := by omega
    clear h503 hz502
    refine X.ldc2 27 i289_24 rfl rfl (by decide) ?_
    exact hK507 6 (by first | trivial | omega) (Eq.trans (if_neg h503c) rfl)
  · have h503c : (m 4 45 18) < 6 := by omega
    clear h503 hz502
    refine X.aload_n 15 i289_14 rfl rfl rfl ?_
    refine X.getF 18 i289_15 rfl rfl (by decide) rfl rfl ?_
    refine X.bipush 20 i289_18 rfl rfl (by decide) ?_
    refine X.lald 21 i289_20 rfl rfl (by decide) rfl (by omega) ?_
    refine X.goto 27 i289_21 rfl rfl ?_
    exact hK507 (m 4 45 18) (by first | trivial | omega) (Eq.trans (if_pos h503c) rfl)
-- WorkMeterModel.billed
noncomputable def f288_1 (a1 a2 a3 : Int) (m : zM) : Int :=
  zn (f289_1 a1 m) fun v503 =>
  if v503 = (-1) then
  ((-1))
  else
  (if a2 < 0 then
  ((-1))
  else
  (if a2 ≤ 6 then
  (if a3 = (-1) then
  (zn (f291_1 a2 a3 m) fun v518 =>
  zn (if v503 = 1172 then
  (0)
  else
  ((m 4 45 ((v503 - 45) + (1 + v518))))) fun v520 =>
  zn (w64 ((m 4 45 (v503 + (1 + v518))) - v520)) fun z525 =>
  z525)
  else
  (if a3 < 0 then
  ((-1))
  else
  (if a3 ≤ 3 then
  (zn (f291_1 a2 a3 m) fun v538 =>
  zn (if v503 = 1172 then
  (0)
  else
  ((m 4 45 ((v503 - 45) + (1 + v538))))) fun v540 =>
  zn (w64 ((m 4 45 (v503 + (1 + v538))) - v540)) fun z545 =>
  z545)
  else
  ((-1)))))
  else
  ((-1))))
-- WorkMeterModel.billed
theorem c288_1 {s : Nat × (Nat → Int32)} {S : zS} {m0 m : zM} {B : Int} {d : Nat} {Q : Option zV → zM → Prop} (a1 a2 a3 : Int) (hd : 14 ≤ d) (hJ : J S m0 B m) (hB : B + 0 ≤ 1000000000) (ha1 : (-2147483648) ≤ a1 ∧ a1 ≤ 2147483647) (ha2 : (-2147483648) ≤ a2 ∧ a2 ≤ 2147483647) (ha3 : (-2147483648) ≤ a3 ∧ a3 ≤ 2147483647) (hQ : ∀ (v : Int), (True) → f288_1 a1 a2 a3 m = v → Q (some (zl v)) m) : X (EE s) d 288 0 [(0, zr 4 44), (1, zi a1), (2, zi a2), (3, zi a3)] [] m Q := by
  refine X.aload_n 1 i288_0 rfl rfl rfl ?_
  refine X.iload_n 2 i288_1 rfl rfl rfl ?_
  refine X.callv 5 [zi a1] [] [(0, zr 4 44), (1, zi a1)] i288_2 rfl (by decide) rfl rfl (by omega) rfl rfl (by decide) rfl t289 (Nat.le_of_ble_eq_true rfl) (Nat.le_of_ble_eq_true rfl) rfl ?_
  refine c289_1 (B := B)  a1 (by omega) (hJ.up (by omega)) (by omega) (by omega) (fun v503 hv503 hFv503 hqv503_0 => ?_)
  show X (EE s) d 288 5 [(0, zr 4 44), (1, zi a1), (2, zi a2), (3, zi a3)] [zi v503] m _
  refine X.istore 7 [(0, zr 4 44), (1, zi a1), (2, zi a2), (3, zi a3), (4, zi v503)] i288_5 rfl rfl rfl ?_
  refine X.iload 9 i288_7 rfl rfl rfl ?_
  refine X.iconst 10 i288_9 rfl rfl (by decide) ?_
  refine X.icmpeq 21 13 i288_10 rfl rfl rfl (fun h504 => ?_) (fun h504 => ?_)
  · refine X.cut [] i288_21 rfl ?_
    refine X.ldc2 24 i288_21 rfl rfl (by decide) ?_
    refine X.retl i288_24 rfl t288 ?_
    exact hQ (-1) (by first | trivial | omega) (Eq.trans (zn_eq hFv503.symm) (Eq.trans (if_pos h504) rfl)) 
  · refine X.iload_n 14 i288_13 rfl rfl rfl ?_
    refine X.iload_n 15 i288_14 rfl rfl rfl ?_
    refine X.calls 18 [zi a2, zi a3] [] [(0, zi a2), (1, zi a3)] i288_15 (by decide) rfl rfl (by omega) rfl rfl t290 (Nat.le_of_ble_eq_true rfl) (Nat.le_of_ble_eq_true rfl) rfl ?_
    refine X.iload_n 1 i290_0 rfl rfl rfl ?_
    refine X.i2l 2 i290_1 rfl rfl ?_
    refine X.lconst (y := 0) 3 i290_2 rfl rfl rfl ?_
    refine X.ldc2 6 i290_3 rfl rfl (by decide) ?_
    refine X.calls 9 [zl a2, zl 0, zl 6] [] [(0, zl a2), (2, zl 0), (4, zl 6)] i290_6 (by decide) rfl rfl (by omega) rfl rfl t204 (Nat.le_of_ble_eq_true rfl) (Nat.le_of_ble_eq_true rfl) rfl ?_
    refine X.lload_n 1 i204_0 rfl rfl rfl ?_
    refine X.lload_n 2 i204_1 rfl rfl rfl ?_
    refine X.lcmp 3 i204_2 rfl rfl (fun z505 hz505 => ?_)
    refine X.iflt 17 6 i204_3 rfl rfl rfl (fun h506 => ?_) (fun h506 => ?_)
    · have h506c : a2 < 0 := by omega
      clear h506 hz505
      refine X.cut [] i204_17 rfl ?_
      refine X.iconst 18 i204_17 rfl rfl (by decide) ?_
      refine X.retz i204_18 rfl t204 (by omega) ?_
      show X (EE s) (d - 1) 290 9 [(0, zi a2), (1, zi a3)] [zi 0] m _
      refine X.ifeq 28 12 i290_9 rfl rfl rfl (fun h507 => ?_) (fun h507 => (by exfalso; omega))
      refine X.cut [] i290_28 rfl ?_
      refine X.iconst 29 i290_28 rfl rfl (by decide) ?_
      refine X.retz i290_29 rfl t290 (by omega) ?_
      show X (EE s) d 288 18 [(0, zr 4 44), (1, zi a1), (2, zi a2), (3, zi a3), (4, zi v503)] [zi 0] m _
      refine X.ifne 25 21 i288_18 rfl rfl rfl (fun h508 => (by exfalso; omega)) (fun h508 => ?_)
      refine X.cut [] i288_21 rfl ?_
      refine X.ldc2 24 i288_21 rfl rfl (by decide) ?_
      refine X.retl i288_24 rfl t288 ?_
      exact hQ (-1) (by first | trivial | omega) (Eq.trans (zn_eq hFv503.symm) (Eq.trans (if_neg h504) (Eq.trans (if_pos h506c) rfl))) 
    · have h506c : ¬ a2 < 0 := by omega
      clear h506 hz505
      refine X.lload_n 7 i204_6 rfl rfl rfl ?_
      refine X.lload 9 i204_7 rfl rfl rfl ?_
      refine X.lcmp 10 i204_9 rfl rfl (fun z509 hz509 => ?_)
      refine X.ifgt 17 13 i204_10 rfl rfl rfl (fun h510 => ?_) (fun h510 => ?_)
      · have h510c : ¬ a2 ≤ 6 := by omega
        clear h510 hz509
        refine X.cut [] i204_17 rfl ?_
        refine X.iconst 18 i204_17 rfl rfl (by decide) ?_
        refine X.retz i204_18 rfl t204 (by omega) ?_
        show X (EE s) (d - 1) 290 9 [(0, zi a2), (1, zi a3)] [zi 0] m _
        refine X.ifeq 28 12 i290_9 rfl rfl rfl (fun h511 => ?_) (fun h511 => (by exfalso; omega))
        refine X.cut [] i290_28 rfl ?_
        refine X.iconst 29 i290_28 rfl rfl (by decide) ?_
        refine X.retz i290_29 rfl t290 (by omega) ?_
        show X (EE s) d 288 18 [(0, zr 4 44), (1, zi a1), (2, zi a2), (3, zi a3), (4, zi v503)] [zi 0] m _
        refine X.ifne 25 21 i288_18 rfl rfl rfl (fun h512 => (by exfalso; omega)) (fun h512 => ?_)
        refine X.cut [] i288_21 rfl ?_
        refine X.ldc2 24 i288_21 rfl rfl (by decide) ?_
        refine X.retl i288_24 rfl t288 ?_
        exact hQ (-1) (by first | trivial | omega) (Eq.trans (zn_eq hFv503.symm) (Eq.trans (if_neg h504) (Eq.trans (if_neg h506c) (Eq.trans (if_neg h510c) rfl)))) 
      · have h510c : a2 ≤ 6 := by omega
        clear h510 hz509
        refine X.iconst 14 i204_13 rfl rfl (by decide) ?_
        refine X.goto 18 i204_14 rfl rfl ?_
        refine X.cut [] i204_18 rfl ?_
        refine X.retz i204_18 rfl t204 (by omega) ?_
        show X (EE s) (d - 1) 290 9 [(0, zi a2), (1, zi a3)] [zi 1] m _
        refine X.ifeq 28 12 i290_9 rfl rfl rfl (fun h513 => (by exfalso; omega)) (fun h513 => ?_)
        refine X.iload_n 13 i290_12 rfl rfl rfl ?_
        refine X.iconst 14 i290_13 rfl rfl (by decide) ?_
        refine X.icmpeq 24 17 i290_14 rfl rfl rfl (fun h514 => ?_) (fun h514 => ?_)
        · refine X.cut [] i290_24 rfl ?_
          refine X.iconst 25 i290_24 rfl rfl (by decide) ?_
          refine X.goto 29 i290_25 rfl rfl ?_
          refine X.retz i290_29 rfl t290 (by omega) ?_
          show X (EE s) d 288 18 [(0, zr 4 44), (1, zi a1), (2, zi a2), (3, zi a3), (4, zi v503)] [zi 1] m _
          refine X.ifne 25 21 i288_18 rfl rfl rfl (fun h515 => ?_) (fun h515 => (by exfalso; omega))
          refine X.cut [(0, zr 4 44), (2, zi a2), (3, zi a3), (4, zi v503)] i288_25 rfl ?_
          refine X.iconst 26 i288_25 rfl rfl (by decide) ?_
          refine X.iload_n 27 i288_26 rfl rfl rfl ?_
          refine X.iload_n 28 i288_27 rfl rfl rfl ?_
          refine X.calls 31 [zi a2, zi a3] [zi 1] [(0, zi a2), (1, zi a3)] i288_28 (by decide) rfl rfl (by omega) rfl rfl t291 (Nat.le_of_ble_eq_true rfl) (Nat.le_of_ble_eq_true rfl) rfl ?_
          refine c291_1 (B := B)  a2 a3 (by omega) (hJ.up (by omega)) (by omega) (by omega) (by omega) (fun v518 hv518 hFv518 => ?_)
          show X (EE s) d 288 31 [(0, zr 4 44), (2, zi a2), (3, zi a3), (4, zi v503)] [zi v518, zi 1] m _
          refine X.iadd 32 i288_31 rfl rfl (by omega) ?_
          refine X.istore 34 [(0, zr 4 44), (2, zi a2), (3, zi a3), (4, zi v503), (5, zi (1 + v518))] i288_32 rfl rfl rfl ?_
          refine X.aload_n 35 i288_34 rfl rfl rfl ?_
          refine X.getF 38 i288_35 rfl rfl (by decide) rfl rfl ?_
          refine X.iload 40 i288_38 rfl rfl rfl ?_
          refine X.iload 42 i288_40 rfl rfl rfl ?_
          refine X.iadd 43 i288_42 rfl rfl (by omega) ?_
          refine X.lald 44 i288_43 rfl rfl (by decide) rfl (by omega) ?_
          refine X.iload 46 i288_44 rfl rfl rfl ?_
          refine X.sipush 49 i288_46 rfl rfl (by decide) ?_
          have hK523 : ∀ (v : Int) , (True) → (if v503 = 1172 then
              (0)
              else
              ((m 4 45 ((v503 - 45) + (1 + v518))))) = v → X (EE s) d 288 69 [] [zl v, zl (m 4 45 (v503 + (1 + v518)))] m Q := by
            intro v520 hv520 hT524
            refine X.lsubW 70 i288_69 rfl rfl (fun z525 ez525 hz525 => ?_)
            refine X.retl i288_70 rfl t288 ?_
            exact hQ z525 (by first | trivial | omega) (Eq.trans (zn_eq hFv503.symm) (Eq.trans (if_neg h504) (Eq.trans (if_neg h506c) (Eq.trans (if_pos h510c) (Eq.trans (if_pos h514) (Eq.trans (zn_eq hFv518.symm) (Eq.trans (zn_eq hT524.symm) (Eq.trans (zn_eq ez525) rfl)))))))) 
          refine X.icmpne 56 52 i288_49 rfl rfl rfl (fun h519 => ?_) (fun h519 => ?_)
          · refine X.cut [(0, zr 4 44), (4, zi v503), (5, zi (1 + v518))] i288_56 rfl ?_
            refine X.aload_n 57 i288_56 rfl rfl rfl ?_
            refine X.getF 60 i288_57 rfl rfl (by decide) rfl rfl ?_
            refine X.iload 62 i288_60 rfl rfl rfl ?_
            refine X.bipush 64 i288_62 rfl rfl (by decide) ?_
            refine X.isub 65 i288_64 rfl rfl (by omega) ?_
            refine X.iload 67 i288_65 rfl rfl rfl ?_
            refine X.iadd 68 i288_67 rfl rfl (by omega) ?_
            refine X.lald 69 i288_68 rfl rfl (by decide) rfl (by omega) ?_
            refine X.cut [] i288_69 rfl ?_
            exact hK523 (m 4 45 ((v503 - 45) + (1 + v518))) (by first | trivial | omega) (Eq.trans (if_neg h519) rfl)
          · refine X.lconst (y := 0) 53 i288_52 rfl rfl rfl ?_
            refine X.goto 69 i288_53 rfl rfl ?_
            refine X.cut [] i288_69 rfl ?_
            exact hK523 0 (by first | trivial | omega) (Eq.trans (if_pos h519) rfl)
        · refine X.iload_n 18 i290_17 rfl rfl rfl ?_
          refine X.calls 21 [zi a3] [] [(0, zi a3)] i290_18 (by decide) rfl rfl (by omega) rfl rfl t242 (Nat.le_of_ble_eq_true rfl) (Nat.le_of_ble_eq_true rfl) rfl ?_
          refine X.iload_n 1 i242_0 rfl rfl rfl ?_
          refine X.i2l 2 i242_1 rfl rfl ?_
          refine X.lconst (y := 0) 3 i242_2 rfl rfl rfl ?_
          refine X.ldc2 6 i242_3 rfl rfl (by decide) ?_
          refine X.calls 9 [zl a3, zl 0, zl 3] [] [(0, zl a3), (2, zl 0), (4, zl 3)] i242_6 (by decide) rfl rfl (by omega) rfl rfl t204 (Nat.le_of_ble_eq_true rfl) (Nat.le_of_ble_eq_true rfl) rfl ?_
          refine X.lload_n 1 i204_0 rfl rfl rfl ?_
          refine X.lload_n 2 i204_1 rfl rfl rfl ?_
          refine X.lcmp 3 i204_2 rfl rfl (fun z526 hz526 => ?_)
          refine X.iflt 17 6 i204_3 rfl rfl rfl (fun h527 => ?_) (fun h527 => ?_)
          · have h527c : a3 < 0 := by omega
            clear h527 hz526
            refine X.cut [] i204_17 rfl ?_
            refine X.iconst 18 i204_17 rfl rfl (by decide) ?_
            refine X.retz i204_18 rfl t204 (by omega) ?_
            show X (EE s) ((d - 1) - 1) 242 9 [(0, zi a3)] [zi 0] m _
            refine X.retz i242_9 rfl t242 (by omega) ?_
            show X (EE s) (d - 1) 290 21 [(0, zi a2), (1, zi a3)] [zi 0] m _
            refine X.ifeq 28 24 i290_21 rfl rfl rfl (fun h528 => ?_) (fun h528 => (by exfalso; omega))
            refine X.cut [] i290_28 rfl ?_
            refine X.iconst 29 i290_28 rfl rfl (by decide) ?_
            refine X.retz i290_29 rfl t290 (by omega) ?_
            show X (EE s) d 288 18 [(0, zr 4 44), (1, zi a1), (2, zi a2), (3, zi a3), (4, zi v503)] [zi 0] m _
            refine X.ifne 25 21 i288_18 rfl rfl rfl (fun h529 => (by exfalso; omega)) (fun h529 => ?_)
            refine X.cut [] i288_21 rfl ?_
            refine X.ldc2 24 i288_21 rfl rfl (by decide) ?_
            refine X.retl i288_24 rfl t288 ?_
            exact hQ (-1) (by first | trivial | omega) (Eq.trans (zn_eq hFv503.symm) (Eq.trans (if_neg h504) (Eq.trans (if_neg h506c) (Eq.trans (if_pos h510c) (Eq.trans (if_neg h514) (Eq.trans (if_pos h527c) rfl)))))) 
          · have h527c : ¬ a3 < 0 := by omega
            clear h527 hz526
            refine X.lload_n 7 i204_6 rfl rfl rfl ?_
            refine X.lload 9 i204_7 rfl rfl rfl ?_
            refine X.lcmp 10 i204_9 rfl rfl (fun z530 hz530 => ?_)
            refine X.ifgt 17 13 i204_10 rfl rfl rfl (fun h531 => ?_) (fun h531 => ?_)
            · have h531c : ¬ a3 ≤ 3 := by omega
              clear h531 hz530
              refine X.cut [] i204_17 rfl ?_
              refine X.iconst 18 i204_17 rfl rfl (by decide) ?_
              refine X.retz i204_18 rfl t204 (by omega) ?_
              show X (EE s) ((d - 1) - 1) 242 9 [(0, zi a3)] [zi 0] m _
              refine X.retz i242_9 rfl t242 (by omega) ?_
              show X (EE s) (d - 1) 290 21 [(0, zi a2), (1, zi a3)] [zi 0] m _
              refine X.ifeq 28 24 i290_21 rfl rfl rfl (fun h532 => ?_) (fun h532 => (by exfalso; omega))
              refine X.cut [] i290_28 rfl ?_
              refine X.iconst 29 i290_28 rfl rfl (by decide) ?_
              refine X.retz i290_29 rfl t290 (by omega) ?_
              show X (EE s) d 288 18 [(0, zr 4 44), (1, zi a1), (2, zi a2), (3, zi a3), (4, zi v503)] [zi 0] m _
              refine X.ifne 25 21 i288_18 rfl rfl rfl (fun h533 => (by exfalso; omega)) (fun h533 => ?_)
              refine X.cut [] i288_21 rfl ?_
              refine X.ldc2 24 i288_21 rfl rfl (by decide) ?_
              refine X.retl i288_24 rfl t288 ?_
              exact hQ (-1) (by first | trivial | omega) (Eq.trans (zn_eq hFv503.symm) (Eq.trans (if_neg h504) (Eq.trans (if_neg h506c) (Eq.trans (if_pos h510c) (Eq.trans (if_neg h514) (Eq.trans (if_neg h527c) (Eq.trans (if_neg h531c) rfl))))))) 
            · have h531c : a3 ≤ 3 := by omega
              clear h531 hz530
              refine X.iconst 14 i204_13 rfl rfl (by decide) ?_
              refine X.goto 18 i204_14 rfl rfl ?_
              refine X.cut [] i204_18 rfl ?_
              refine X.retz i204_18 rfl t204 (by omega) ?_
              show X (EE s) ((d - 1) - 1) 242 9 [(0, zi a3)] [zi 1] m _
              refine X.retz i242_9 rfl t242 (by omega) ?_
              show X (EE s) (d - 1) 290 21 [(0, zi a2), (1, zi a3)] [zi 1] m _
              refine X.ifeq 28 24 i290_21 rfl rfl rfl (fun h534 => (by exfalso; omega)) (fun h534 => ?_)
              refine X.cut [] i290_24 rfl ?_
              refine X.iconst 25 i290_24 rfl rfl (by decide) ?_
              refine X.goto 29 i290_25 rfl rfl ?_
              refine X.retz i290_29 rfl t290 (by omega) ?_
              show X (EE s) d 288 18 [(0, zr 4 44), (1, zi a1), (2, zi a2), (3, zi a3), (4, zi v503)] [zi 1] m _
              refine X.ifne 25 21 i288_18 rfl rfl rfl (fun h535 => ?_) (fun h535 => (by exfalso; omega))
              refine X.cut [(0, zr 4 44), (2, zi a2), (3, zi a3), (4, zi v503)] i288_25 rfl ?_
              refine X.iconst 26 i288_25 rfl rfl (by decide) ?_
              refine X.iload_n 27 i288_26 rfl rfl rfl ?_
              refine X.iload_n 28 i288_27 rfl rfl rfl ?_
              refine X.calls 31 [zi a2, zi a3] [zi 1] [(0, zi a2), (1, zi a3)] i288_28 (by decide) rfl rfl (by omega) rfl rfl t291 (Nat.le_of_ble_eq_true rfl) (Nat.le_of_ble_eq_true rfl) rfl ?_
              refine c291_1 (B := B)  a2 a3 (by omega) (hJ.up (by omega)) (by omega) (by omega) (by omega) (fun v538 hv538 hFv538 => ?_)
              show X (EE s) d 288 31 [(0, zr 4 44), (2, zi a2), (3, zi a3), (4, zi v503)] [zi v538, zi 1] m _
              refine X.iadd 32 i288_31 rfl rfl (by omega) ?_
              refine X.istore 34 [(0, zr 4 44), (2, zi a2), (3, zi a3), (4, zi v503), (5, zi (1 + v538))] i288_32 rfl rfl rfl ?_
              refine X.aload_n 35 i288_34 rfl rfl rfl ?_
              refine X.getF 38 i288_35 rfl rfl (by decide) rfl rfl ?_
              refine X.iload 40 i288_38 rfl rfl rfl ?_
              refine X.iload 42 i288_40 rfl rfl rfl ?_
              refine X.iadd 43 i288_42 rfl rfl (by omega) ?_
              refine X.lald 44 i288_43 rfl rfl (by decide) rfl (by omega) ?_
              refine X.iload 46 i288_44 rfl rfl rfl ?_
              refine X.sipush 49 i288_46 rfl rfl (by decide) ?_
              have hK543 : ∀ (v : Int) , (True) → (if v503 = 1172 then
                  (0)
                  else
                  ((m 4 45 ((v503 - 45) + (1 + v538))))) = v → X (EE s) d 288 69 [] [zl v, zl (m 4 45 (v503 + (1 + v538)))] m Q := by
                intro v540 hv540 hT544
                refine X.lsubW 70 i288_69 rfl rfl (fun z545 ez545 hz545 => ?_)
                refine X.retl i288_70 rfl t288 ?_
                exact hQ z545 (by first | trivial | omega) (Eq.trans (zn_eq hFv503.symm) (Eq.trans (if_neg h504) (Eq.trans (if_neg h506c) (Eq.trans (if_pos h510c) (Eq.trans (if_neg h514) (Eq.trans (if_neg h527c) (Eq.trans (if_pos h531c) (Eq.trans (zn_eq hFv538.symm) (Eq.trans (zn_eq hT544.symm) (Eq.trans (zn_eq ez545) rfl)))))))))) 
              refine X.icmpne 56 52 i288_49 rfl rfl rfl (fun h539 => ?_) (fun h539 => ?_)
              · refine X.cut [(0, zr 4 44), (4, zi v503), (5, zi (1 + v538))] i288_56 rfl ?_
                refine X.aload_n 57 i288_56 rfl rfl rfl ?_
                refine X.getF 60 i288_57 rfl rfl (by decide) rfl rfl ?_
                refine X.iload 62 i288_60 rfl rfl rfl ?_
                refine X.bipush 64 i288_62 rfl rfl (by decide) ?_
                refine X.isub 65 i288_64 rfl rfl (by omega) ?_
                refine X.iload 67 i288_65 rfl rfl rfl ?_
                refine X.iadd 68 i288_67 rfl rfl (by omega) ?_
                refine X.lald 69 i288_68 rfl rfl (by decide) rfl (by omega) ?_
                refine X.cut [] i288_69 rfl ?_
                exact hK543 (m 4 45 ((v503 - 45) + (1 + v538))) (by first | trivial | omega) (Eq.trans (if_neg h539) rfl)
              · refine X.lconst (y := 0) 53 i288_52 rfl rfl rfl ?_
                refine X.goto 69 i288_53 rfl rfl ?_
                refine X.cut [] i288_69 rfl ?_
                exact hK543 0 (by first | trivial | omega) (Eq.trans (if_pos h539) rfl)
-- WorkMeter.bills
noncomputable def f163_1 (a1 a2 : Int) (m : zM) : Int :=
  if a1 < 0 then
  ((-1))
  else
  (if (min (m 0 23 3) 6) ≤ a1 then
  ((-1))
  else
  (if a2 < 0 then
  ((-1))
  else
  (if a2 ≤ 4 then
  (zn (if a2 = 0 then
  ((m 0 26 ((((((m 0 23 3) - 1) - a1) % 6) * 33) + 32)))
  else
  ((m 0 26 (((((((m 0 23 3) - 1) - a1) % 6) * 33) + 28) + (a2 - 1))))) fun v510 =>
  v510)
  else
  ((-1)))))
-- WorkMeter.bills
theorem c163_1 {s : Nat × (Nat → Int32)} {S : zS} {m0 m : zM} {B : Int} {d : Nat} {Q : Option zV → zM → Prop} (a1 a2 : Int) (hd : 14 ≤ d) (hJ : J S m0 B m) (hB : B + 0 ≤ 1000000000) (ha1 : (-2147483648) ≤ a1 ∧ a1 ≤ 2147483647) (ha2 : (-2147483648) ≤ a2 ∧ a2 ≤ 2147483647) (hQ : ∀ (v : Int), (True) → f163_1 a1 a2 m = v → Q (some (zl v)) m) : X (EE s) d 163 0 [(0, zr 4 40), (1, zi a1), (2, zi a2)] [] m Q := by
  refine X.aload_n 1 i163_0 rfl rfl rfl ?_
  refine X.getF 4 i163_1 rfl rfl (by decide) rfl rfl ?_
  refine X.getR 7 i163_4 rfl rfl (by decide) rfl rfl ?_
  refine X.iload_n 8 i163_7 rfl rfl rfl ?_
  refine X.callv 11 [zi a1] [] [(0, zr 0 23), (1, zi a1)] i163_8 rfl (by decide) rfl rfl (by omega) rfl rfl (by decide) rfl t160 (Nat.le_of_ble_eq_true rfl) (Nat.le_of_ble_eq_true rfl) rfl ?_
  refine X.iload_n 1 i160_0 rfl rfl rfl ?_
  refine X.iflt 21 4 i160_1 rfl rfl rfl (fun h501 => ?_) (fun h501 => ?_)
  · refine X.cut [] i160_21 rfl ?_
    refine X.iconst 22 i160_21 rfl rfl (by decide) ?_
    refine X.retz i160_22 rfl t160 (by omega) ?_
    show X (EE s) d 163 11 [(0, zr 4 40), (1, zi a1), (2, zi a2)] [zi 0] m _
    refine X.ifeq 23 14 i163_11 rfl rfl rfl (fun h502 => ?_) (fun h502 => (by exfalso; omega))
    refine X.cut [] i163_23 rfl ?_
    refine X.ldc2 26 i163_23 rfl rfl (by decide) ?_
    refine X.retl i163_26 rfl t163 ?_
    exact hQ (-1) (by first | trivial | omega) (Eq.trans (if_pos h501) rfl) 
  · refine X.iload_n 5 i160_4 rfl rfl rfl ?_
    refine X.aload_n 6 i160_5 rfl rfl rfl ?_
    refine X.getI 9 3 i160_6 rfl rfl (by decide) rfl rfl rfl ?_
    have h503 := r23_3 hJ 0
    refine X.bipush 11 i160_9 rfl rfl (by decide) ?_
    refine X.minI 14 i160_11 rfl rfl (by omega) (Nat.le_of_ble_eq_true rfl) ?_
    refine X.icmpge 21 17 i160_14 rfl rfl rfl (fun h504 => ?_) (fun h504 => ?_)
    · refine X.cut [] i160_21 rfl ?_
      refine X.iconst 22 i160_21 rfl rfl (by decide) ?_
      refine X.retz i160_22 rfl t160 (by omega) ?_
      show X (EE s) d 163 11 [(0, zr 4 40), (1, zi a1), (2, zi a2)] [zi 0] m _
      refine X.ifeq 23 14 i163_11 rfl rfl rfl (fun h505 => ?_) (fun h505 => (by exfalso; omega))
      refine X.cut [] i163_23 rfl ?_
      refine X.ldc2 26 i163_23 rfl rfl (by decide) ?_
      refine X.retl i163_26 rfl t163 ?_
      exact hQ (-1) (by first | trivial | omega) (Eq.trans (if_neg h501) (Eq.trans (if_pos h504) rfl)) 
    · refine X.iconst 18 i160_17 rfl rfl (by decide) ?_
      refine X.goto 22 i160_18 rfl rfl ?_
      refine X.cut [] i160_22 rfl ?_
      refine X.retz i160_22 rfl t160 (by omega) ?_
      show X (EE s) d 163 11 [(0, zr 4 40), (1, zi a1), (2, zi a2)] [zi 1] m _
      refine X.ifeq 23 14 i163_11 rfl rfl rfl (fun h506 => (by exfalso; omega)) (fun h506 => ?_)
      refine X.iload_n 15 i163_14 rfl rfl rfl ?_
      refine X.iflt 23 18 i163_15 rfl rfl rfl (fun h507 => ?_) (fun h507 => ?_)
      · refine X.cut [] i163_23 rfl ?_
        refine X.ldc2 26 i163_23 rfl rfl (by decide) ?_
        refine X.retl i163_26 rfl t163 ?_
        exact hQ (-1) (by first | trivial | omega) (Eq.trans (if_neg h501) (Eq.trans (if_neg h504) (Eq.trans (if_pos h507) rfl))) 
      · refine X.iload_n 19 i163_18 rfl rfl rfl ?_
        refine X.iconst 20 i163_19 rfl rfl (by decide) ?_
        refine X.icmple 27 23 i163_20 rfl rfl rfl (fun h508 => ?_) (fun h508 => ?_)
        · refine X.iload_n 28 i163_27 rfl rfl rfl ?_
          have hK513 : ∀ (v : Int) , (True) → (if a2 = 0 then
              ((m 0 26 ((((((m 0 23 3) - 1) - a1) % 6) * 33) + 32)))
              else
              ((m 0 26 (((((((m 0 23 3) - 1) - a1) % 6) * 33) + 28) + (a2 - 1))))) = v → X (EE s) d 163 59 [] [zl v] m Q := by
            intro v510 hv510 hT514
            refine X.retl i163_59 rfl t163 ?_
            exact hQ v510 (by first | trivial | omega) (Eq.trans (if_neg h501) (Eq.trans (if_neg h504) (Eq.trans (if_neg h507) (Eq.trans (if_pos h508) (Eq.trans (zn_eq hT514.symm) rfl))))) 
          refine X.ifne 45 31 i163_28 rfl rfl rfl (fun h509 => ?_) (fun h509 => ?_)
          · refine X.aload_n 46 i163_45 rfl rfl rfl ?_
            refine X.getF 49 i163_46 rfl rfl (by decide) rfl rfl ?_
            refine X.getR 52 i163_49 rfl rfl (by decide) rfl rfl ?_
            refine X.iload_n 53 i163_52 rfl rfl rfl ?_
            refine X.iload_n 54 i163_53 rfl rfl rfl ?_
            refine X.iconst 55 i163_54 rfl rfl (by decide) ?_
            refine X.isub 56 i163_55 rfl rfl (by omega) ?_
            refine X.callv 59 [zi a1, zi (a2 - 1)] [] [(0, zr 0 23), (1, zi a1), (2, zi (a2 - 1))] i163_56 rfl (by decide) rfl rfl (by omega) rfl rfl (by decide) rfl t165 (Nat.le_of_ble_eq_true rfl) (Nat.le_of_ble_eq_true rfl) rfl ?_
            refine X.aload_n 1 i165_0 rfl rfl rfl ?_
            refine X.getR 4 i165_1 rfl rfl (by decide) rfl rfl ?_
            refine X.aload_n 5 i165_4 rfl rfl rfl ?_
            refine X.iload_n 6 i165_5 rfl rfl rfl ?_
            refine X.callv 9 [zi a1] [zr 0 26] [(0, zr 0 23), (1, zi a1)] i165_6 rfl (by decide) rfl rfl (by omega) rfl rfl (by decide) rfl t162 (Nat.le_of_ble_eq_true rfl) (Nat.le_of_ble_eq_true rfl) rfl ?_
            refine X.aload_n 1 i162_0 rfl rfl rfl ?_
            refine X.getI 4 3 i162_1 rfl rfl (by decide) rfl rfl rfl ?_
            refine X.iconst 5 i162_4 rfl rfl (by decide) ?_
            refine X.isub 6 i162_5 rfl rfl (by omega) ?_
            refine X.iload_n 7 i162_6 rfl rfl rfl ?_
            refine X.isub 8 i162_7 rfl rfl (by omega) ?_
            refine X.bipush 10 i162_8 rfl rfl (by decide) ?_
            refine X.irem 11 i162_10 rfl rfl (by omega) ?_
            refine X.bipush 13 i162_11 rfl rfl (by decide) ?_
            refine X.imul 14 i162_13 rfl rfl (by omega) ?_
            refine X.reti i162_14 rfl t162 ?_
            show X (EE s) (d - 1) 165 9 [(0, zr 0 23), (1, zi a1), (2, zi (a2 - 1))] [zi (((((m 0 23 3) - 1) - a1) % 6) * 33), zr 0 26] m _
            refine X.bipush 11 i165_9 rfl rfl (by decide) ?_
            refine X.iadd 12 i165_11 rfl rfl (by omega) ?_
            refine X.iload_n 13 i165_12 rfl rfl rfl ?_
            refine X.iadd 14 i165_13 rfl rfl (by omega) ?_
            refine X.lald 15 i165_14 rfl rfl (by decide) rfl (by omega) ?_
            refine X.retl i165_15 rfl t165 ?_
            show X (EE s) d 163 59 [(0, zr 4 40), (1, zi a1), (2, zi a2)] [zl (m 0 26 (((((((m 0 23 3) - 1) - a1) % 6) * 33) + 28) + (a2 - 1)))] m _
            refine X.cut [] i163_59 rfl ?_
            exact hK513 (m 0 26 (((((((m 0 23 3) - 1) - a1) % 6) * 33) + 28) + (a2 - 1))) (by first | trivial | omega) (Eq.trans (if_neg h509) rfl)
          · refine X.aload_n 32 i163_31 rfl rfl rfl ?_
            refine X.getF 35 i163_32 rfl rfl (by decide) rfl rfl ?_
            refine X.getR 38 i163_35 rfl rfl (by decide) rfl rfl ?_
            refine X.iload_n 39 i163_38 rfl rfl rfl ?_
            refine X.callv 42 [zi a1] [] [(0, zr 0 23), (1, zi a1)] i163_39 rfl (by decide) rfl rfl (by omega) rfl rfl (by decide) rfl t164 (Nat.le_of_ble_eq_true rfl) (Nat.le_of_ble_eq_true rfl) rfl ?_
            refine X.aload_n 1 i164_0 rfl rfl rfl ?_
            refine X.getR 4 i164_1 rfl rfl (by decide) rfl rfl ?_
            refine X.aload_n 5 i164_4 rfl rfl rfl ?_
            refine X.iload_n 6 i164_5 rfl rfl rfl ?_
            refine X.callv 9 [zi a1] [zr 0 26] [(0, zr 0 23), (1, zi a1)] i164_6 rfl (by decide) rfl rfl (by omega) rfl rfl (by decide) rfl t162 (Nat.le_of_ble_eq_true rfl) (Nat.le_of_ble_eq_true rfl) rfl ?_
            refine X.aload_n 1 i162_0 rfl rfl rfl ?_
            refine X.getI 4 3 i162_1 rfl rfl (by decide) rfl rfl rfl ?_
            refine X.iconst 5 i162_4 rfl rfl (by decide) ?_
            refine X.isub 6 i162_5 rfl rfl (by omega) ?_
            refine X.iload_n 7 i162_6 rfl rfl rfl ?_
            refine X.isub 8 i162_7 rfl rfl (by omega) ?_
            refine X.bipush 10 i162_8 rfl rfl (by decide) ?_
            refine X.irem 11 i162_10 rfl rfl (by omega) ?_
            refine X.bipush 13 i162_11 rfl rfl (by decide) ?_
            refine X.imul 14 i162_13 rfl rfl (by omega) ?_
            refine X.reti i162_14 rfl t162 ?_
            show X (EE s) (d - 1) 164 9 [(0, zr 0 23), (1, zi a1)] [zi (((((m 0 23 3) - 1) - a1) % 6) * 33), zr 0 26] m _
            refine X.bipush 11 i164_9 rfl rfl (by decide) ?_
            refine X.iadd 12 i164_11 rfl rfl (by omega) ?_
            refine X.lald 13 i164_12 rfl rfl (by decide) rfl (by omega) ?_
            refine X.retl i164_13 rfl t164 ?_
            show X (EE s) d 163 42 [(0, zr 4 40), (1, zi a1), (2, zi a2)] [zl (m 0 26 ((((((m 0 23 3) - 1) - a1) % 6) * 33) + 32))] m _
            refine X.goto 59 i163_42 rfl rfl ?_
            refine X.cut [] i163_59 rfl ?_
            exact hK513 (m 0 26 ((((((m 0 23 3) - 1) - a1) % 6) * 33) + 32)) (by first | trivial | omega) (Eq.trans (if_pos h509) rfl)
        · refine X.cut [] i163_23 rfl ?_
          refine X.ldc2 26 i163_23 rfl rfl (by decide) ?_
          refine X.retl i163_26 rfl t163 ?_
          exact hQ (-1) (by first | trivial | omega) (Eq.trans (if_neg h501) (Eq.trans (if_neg h504) (Eq.trans (if_neg h507) (Eq.trans (if_neg h508) rfl)))) 
-- WorkMeterModel.bills
noncomputable def f292_1 (a1 a2 : Int) (m : zM) : Int :=
  zn (f289_1 a1 m) fun v503 =>
  if v503 = (-1) then
  ((-1))
  else
  (if a2 < 0 then
  ((-1))
  else
  (if a2 ≤ 4 then
  (zn (if a2 = 0 then
  ((m 4 45 v503))
  else
  ((m 4 45 ((v503 + 35) + a2)))) fun v513 =>
  v513)
  else
  ((-1))))
-- WorkMeterModel.bills
theorem c292_1 {s : Nat × (Nat → Int32)} {S : zS} {m0 m : zM} {B : Int} {d : Nat} {Q : Option zV → zM → Prop} (a1 a2 : Int) (hd : 14 ≤ d) (hJ : J S m0 B m) (hB : B + 0 ≤ 1000000000) (ha1 : (-2147483648) ≤ a1 ∧ a1 ≤ 2147483647) (ha2 : (-2147483648) ≤ a2 ∧ a2 ≤ 2147483647) (hQ : ∀ (v : Int), (True) → f292_1 a1 a2 m = v → Q (some (zl v)) m) : X (EE s) d 292 0 [(0, zr 4 44), (1, zi a1), (2, zi a2)] [] m Q := by
  refine X.aload_n 1 i292_0 rfl rfl rfl ?_
  refine X.iload_n 2 i292_1 rfl rfl rfl ?_
  refine X.callv 5 [zi a1] [] [(0, zr 4 44), (1, zi a1)] i292_2 rfl (by decide) rfl rfl (by omega) rfl rfl (by decide) rfl t289 (Nat.le_of_ble_eq_true rfl) (Nat.le_of_ble_eq_true rfl) rfl ?_
  refine c289_1 (B := B)  a1 (by omega) (hJ.up (by omega)) (by omega) (by omega) (fun v503 hv503 hFv503 hqv503_0 => ?_)
  show X (EE s) d 292 5 [(0, zr 4 44), (1, zi a1), (2, zi a2)] [zi v503] m _
  refine X.istore_n 6 [(0, zr 4 44), (1, zi a1), (2, zi a2), (3, zi v503)] i292_5 rfl rfl rfl ?_
  refine X.iload_n 7 i292_6 rfl rfl rfl ?_
  refine X.iconst 8 i292_7 rfl rfl (by decide) ?_
  refine X.icmpeq 23 11 i292_8 rfl rfl rfl (fun h504 => ?_) (fun h504 => ?_)
  · refine X.cut [] i292_23 rfl ?_
    refine X.ldc2 26 i292_23 rfl rfl (by decide) ?_
    refine X.retl i292_26 rfl t292 ?_
    exact hQ (-1) (by first | trivial | omega) (Eq.trans (zn_eq hFv503.symm) (Eq.trans (if_pos h504) rfl)) 
  · refine X.iload_n 12 i292_11 rfl rfl rfl ?_
    refine X.i2l 13 i292_12 rfl rfl ?_
    refine X.lconst (y := 0) 14 i292_13 rfl rfl rfl ?_
    refine X.ldc2 17 i292_14 rfl rfl (by decide) ?_
    refine X.calls 20 [zl a2, zl 0, zl 4] [] [(0, zl a2), (2, zl 0), (4, zl 4)] i292_17 (by decide) rfl rfl (by omega) rfl rfl t204 (Nat.le_of_ble_eq_true rfl) (Nat.le_of_ble_eq_true rfl) rfl ?_
    refine X.lload_n 1 i204_0 rfl rfl rfl ?_
    refine X.lload_n 2 i204_1 rfl rfl rfl ?_
    refine X.lcmp 3 i204_2 rfl rfl (fun z505 hz505 => ?_)
    refine X.iflt 17 6 i204_3 rfl rfl rfl (fun h506 => ?_) (fun h506 => ?_)
    · have h506c : a2 < 0 := by omega
      clear h506 hz505
      refine X.cut [] i204_17 rfl ?_
      refine X.iconst 18 i204_17 rfl rfl (by decide) ?_
      refine X.retz i204_18 rfl t204 (by omega) ?_
      show X (EE s) d 292 20 [(0, zr 4 44), (1, zi a1), (2, zi a2), (3, zi v503)] [zi 0] m _
      refine X.ifne 27 23 i292_20 rfl rfl rfl (fun h507 => (by exfalso; omega)) (fun h507 => ?_)
      refine X.cut [] i292_23 rfl ?_
      refine X.ldc2 26 i292_23 rfl rfl (by decide) ?_
      refine X.retl i292_26 rfl t292 ?_
      exact hQ (-1) (by first | trivial | omega) (Eq.trans (zn_eq hFv503.symm) (Eq.trans (if_neg h504) (Eq.trans (if_pos h506c) rfl))) 
    · have h506c : ¬ a2 < 0 := by omega
      clear h506 hz505
      refine X.lload_n 7 i204_6 rfl rfl rfl ?_
      refine X.lload 9 i204_7 rfl rfl rfl ?_
      refine X.lcmp 10 i204_9 rfl rfl (fun z508 hz508 => ?_)
      refine X.ifgt 17 13 i204_10 rfl rfl rfl (fun h509 => ?_) (fun h509 => ?_)
      · have h509c : ¬ a2 ≤ 4 := by omega
        clear h509 hz508
        refine X.cut [] i204_17 rfl ?_
        refine X.iconst 18 i204_17 rfl rfl (by decide) ?_
        refine X.retz i204_18 rfl t204 (by omega) ?_
        show X (EE s) d 292 20 [(0, zr 4 44), (1, zi a1), (2, zi a2), (3, zi v503)] [zi 0] m _
        refine X.ifne 27 23 i292_20 rfl rfl rfl (fun h510 => (by exfalso; omega)) (fun h510 => ?_)
        refine X.cut [] i292_23 rfl ?_
        refine X.ldc2 26 i292_23 rfl rfl (by decide) ?_
        refine X.retl i292_26 rfl t292 ?_
        exact hQ (-1) (by first | trivial | omega) (Eq.trans (zn_eq hFv503.symm) (Eq.trans (if_neg h504) (Eq.trans (if_neg h506c) (Eq.trans (if_neg h509c) rfl)))) 
      · have h509c : a2 ≤ 4 := by omega
        clear h509 hz508
        refine X.iconst 14 i204_13 rfl rfl (by decide) ?_
        refine X.goto 18 i204_14 rfl rfl ?_
        refine X.cut [] i204_18 rfl ?_
        refine X.retz i204_18 rfl t204 (by omega) ?_
        show X (EE s) d 292 20 [(0, zr 4 44), (1, zi a1), (2, zi a2), (3, zi v503)] [zi 1] m _
        refine X.ifne 27 23 i292_20 rfl rfl rfl (fun h511 => ?_) (fun h511 => (by exfalso; omega))
        refine X.cut [(0, zr 4 44), (2, zi a2), (3, zi v503)] i292_27 rfl ?_
        refine X.iload_n 28 i292_27 rfl rfl rfl ?_
        have hK516 : ∀ (v : Int) , (True) → (if a2 = 0 then
            ((m 4 45 v503))
            else
            ((m 4 45 ((v503 + 35) + a2)))) = v → X (EE s) d 292 51 [] [zl v] m Q := by
          intro v513 hv513 hT517
          refine X.retl i292_51 rfl t292 ?_
          exact hQ v513 (by first | trivial | omega) (Eq.trans (zn_eq hFv503.symm) (Eq.trans (if_neg h504) (Eq.trans (if_neg h506c) (Eq.trans (if_pos h509c) (Eq.trans (zn_eq hT517.symm) rfl))))) 
        refine X.ifne 40 31 i292_28 rfl rfl rfl (fun h512 => ?_) (fun h512 => ?_)
        · refine X.aload_n 41 i292_40 rfl rfl rfl ?_
          refine X.getF 44 i292_41 rfl rfl (by decide) rfl rfl ?_
          refine X.iload_n 45 i292_44 rfl rfl rfl ?_
          refine X.bipush 47 i292_45 rfl rfl (by decide) ?_
          refine X.iadd 48 i292_47 rfl rfl (by omega) ?_
          refine X.iload_n 49 i292_48 rfl rfl rfl ?_
          refine X.iadd 50 i292_49 rfl rfl (by omega) ?_
          refine X.lald 51 i292_50 rfl rfl (by decide) rfl (by omega) ?_
          refine X.cut [] i292_51 rfl ?_
          exact hK516 (m 4 45 ((v503 + 35) + a2)) (by first | trivial | omega) (Eq.trans (if_neg h512) rfl)
        · refine X.aload_n 32 i292_31 rfl rfl rfl ?_
          refine X.getF 35 i292_32 rfl rfl (by decide) rfl rfl ?_
          refine X.iload_n 36 i292_35 rfl rfl rfl ?_
          refine X.lald 37 i292_36 rfl rfl (by decide) rfl (by omega) ?_
          refine X.goto 51 i292_37 rfl rfl ?_
          refine X.cut [] i292_51 rfl ?_
          exact hK516 (m 4 45 v503) (by first | trivial | omega) (Eq.trans (if_pos h512) rfl)
noncomputable def fl167_8_1_b (self : Int → Int → Int → Int) (k53 : Int → Int → Int) (g0 g2 : Nat) (y1 : Int) (m : zM) (y3 y5 y7 : Int) : Int :=
  if 4 ≤ y7 then
  (k53 y3 y5)
  else
  (zn (f161_1 g0 y1 0 y7 m) fun v519 =>
  zn (w64 (v519 * (m g2 10 (6 + y7)))) fun z521 =>
  zn (w64 (y3 + z521)) fun z522 =>
  self z522 (max y5 (m g0 26 (((((((m g0 23 3) - 1) - y1) % 6) * 33) + 28) + y7))) (y7 + 1))
noncomputable def fl167_8_1 (k53 : Int → Int → Int) (g0 g2 : Nat) (y1 : Int) (m : zM) : Nat → Int → Int → Int → Int
  | 0 => fun y3 y5 y7 => 0
  | n + 1 => fl167_8_1_b (fl167_8_1 k53 g0 g2 y1 m n) k53 g0 g2 y1 m
theorem l167_8_1 {s : Nat × (Nat → Int32)} {S : zS} {m0 : zM} {m : zM} {B : Int} {d : Nat} {Q : Option zV → zM → Prop} {R0 : Int} {k53 : Int → Int → Int} (g0 g2 : Nat) (y1 : Int) (hd : 15 ≤ d) (hJ : J S m0 B m) (hB9 : B ≤ 1000000000) (hy1 : 0 ≤ y1 ∧ y1 ≤ 5)
    (K53 : ∀ (x3 x5 : Int) , (True) → (0 ≤ x5) → (0 ≤ y1) → (y1 < m g0 23 3) → R0 = k53 x3 x5 → X (EE s) d 167 53 [(0, zr g0 23), (1, zi y1), (2, zr g2 9), (3, zl x3), (5, zl x5)] [] m Q) :
    ∀ (n : Nat) (y3 y5 y7 : Int) , (0 ≤ y5) → (0 ≤ y7 ∧ y7 ≤ 4) → (0 ≤ y1) → (y1 < m g0 23 3) → 4 - y7 < (n : Int) → R0 = fl167_8_1 k53 g0 g2 y1 m n y3 y5 y7 → X (EE s) d 167 8 [(0, zr g0 23), (1, zi y1), (2, zr g2 9), (3, zl y3), (5, zl y5), (7, zi y7)] [] m Q := by
  intro n
  induction n with
  | zero =>
    intro y3 y5 y7 hy5 hy7 hr0 hr1 hn hR
    exfalso
    omega
  | succ n ih =>
    intro y3 y5 y7 hy5 hy7 hr0 hr1 hn hR
    replace hR : R0 = fl167_8_1_b (fl167_8_1 k53 g0 g2 y1 m n) k53 g0 g2 y1 m y3 y5 y7 := hR
    refine X.iload 10 i167_8 rfl rfl rfl ?_
    refine X.iconst 11 i167_10 rfl rfl (by decide) ?_
    refine X.icmpge 53 14 i167_11 rfl rfl rfl (fun h516 => ?_) (fun h516 => ?_)
    · refine X.cut [(0, zr g0 23), (1, zi y1), (2, zr g2 9), (3, zl y3), (5, zl y5)] i167_53 rfl ?_
      exact K53 y3 y5 (by first | trivial | omega) (by first | trivial | omega) (by omega) (by omega) (Eq.trans hR (Eq.trans (if_pos h516) rfl))
    · refine X.lload_n 15 i167_14 rfl rfl rfl ?_
      refine X.aload_n 16 i167_15 rfl rfl rfl ?_
      refine X.iload_n 17 i167_16 rfl rfl rfl ?_
      refine X.iconst 18 i167_17 rfl rfl (by decide) ?_
      refine X.iload 20 i167_18 rfl rfl rfl ?_
      refine X.callv 23 [zi y1, zi 0, zi y7] [zl y3] [(0, zr g0 23), (1, zi y1), (2, zi 0), (3, zi y7)] i167_20 rfl (by decide) rfl rfl (by omega) rfl rfl (by decide) rfl t161 (Nat.le_of_ble_eq_true rfl) (Nat.le_of_ble_eq_true rfl) rfl ?_
      refine c161_1 (B := B) g0 y1 0 y7 (by omega) (hJ.up (by omega)) (by omega) (by omega) (by omega) (by omega) (by omega) (by omega) (fun v519 hv519 hFv519 => ?_)
      show X (EE s) d 167 23 [(0, zr g0 23), (1, zi y1), (2, zr g2 9), (3, zl y3), (5, zl y5), (7, zi y7)] [zl v519, zl y3] m _
      refine X.aload_n 24 i167_23 rfl rfl rfl ?_
      refine X.iload 26 i167_24 rfl rfl rfl ?_
      refine X.callv 29 [zi y7] [zl v519, zl y3] [(0, zr g2 9), (1, zi y7)] i167_26 rfl (by decide) rfl rfl (by omega) rfl rfl (by decide) rfl t43 (Nat.le_of_ble_eq_true rfl) (Nat.le_of_ble_eq_true rfl) rfl ?_
      refine X.aload_n 1 i43_0 rfl rfl rfl ?_
      refine X.getR 4 i43_1 rfl rfl (by decide) rfl rfl ?_
      refine X.bipush 6 i43_4 rfl rfl (by decide) ?_
      refine X.iload_n 7 i43_6 rfl rfl rfl ?_
      refine X.iadd 8 i43_7 rfl rfl (by omega) ?_
      refine X.iald 9 i43_8 rfl rfl (by decide) rfl (by omega) ?_
      have h520 := r10_6 hJ g2 (i := (6 + y7)) (by omega)
      refine X.reti i43_9 rfl t43 ?_
      show X (EE s) d 167 29 [(0, zr g0 23), (1, zi y1), (2, zr g2 9), (3, zl y3), (5, zl y5), (7, zi y7)] [zi (m g2 10 (6 + y7)), zl v519, zl y3] m _
      refine X.i2l 30 i167_29 rfl rfl ?_
      refine X.lmulW 31 i167_30 rfl rfl (fun z521 ez521 hz521 => ?_)
      refine X.laddW 32 i167_31 rfl rfl (fun z522 ez522 hz522 => ?_)
      refine X.lstore_n 33 [(0, zr g0 23), (1, zi y1), (2, zr g2 9), (3, zl z522), (5, zl y5), (7, zi y7)] i167_32 rfl rfl rfl ?_
      refine X.lload 35 i167_33 rfl rfl rfl ?_
      refine X.aload_n 36 i167_35 rfl rfl rfl ?_
      refine X.iload_n 37 i167_36 rfl rfl rfl ?_
      refine X.iload 39 i167_37 rfl rfl rfl ?_
      refine X.callv 42 [zi y1, zi y7] [zl y5] [(0, zr g0 23), (1, zi y1), (2, zi y7)] i167_39 rfl (by decide) rfl rfl (by omega) rfl rfl (by decide) rfl t165 (Nat.le_of_ble_eq_true rfl) (Nat.le_of_ble_eq_true rfl) rfl ?_
      refine X.aload_n 1 i165_0 rfl rfl rfl ?_
      refine X.getR 4 i165_1 rfl rfl (by decide) rfl rfl ?_
      refine X.aload_n 5 i165_4 rfl rfl rfl ?_
      refine X.iload_n 6 i165_5 rfl rfl rfl ?_
      refine X.callv 9 [zi y1] [zr g0 26] [(0, zr g0 23), (1, zi y1)] i165_6 rfl (by decide) rfl rfl (by omega) rfl rfl (by decide) rfl t162 (Nat.le_of_ble_eq_true rfl) (Nat.le_of_ble_eq_true rfl) rfl ?_
      refine X.aload_n 1 i162_0 rfl rfl rfl ?_
      refine X.getI 4 3 i162_1 rfl rfl (by decide) rfl rfl rfl ?_
      have h523 := r23_3 hJ g0
      refine X.iconst 5 i162_4 rfl rfl (by decide) ?_
      refine X.isub 6 i162_5 rfl rfl (by omega) ?_
      refine X.iload_n 7 i162_6 rfl rfl rfl ?_
      refine X.isub 8 i162_7 rfl rfl (by omega) ?_
      refine X.bipush 10 i162_8 rfl rfl (by decide) ?_
      refine X.irem 11 i162_10 rfl rfl (by omega) ?_
      refine X.bipush 13 i162_11 rfl rfl (by decide) ?_
      refine X.imul 14 i162_13 rfl rfl (by omega) ?_
      refine X.reti i162_14 rfl t162 ?_
      show X (EE s) (d - 1) 165 9 [(0, zr g0 23), (1, zi y1), (2, zi y7)] [zi (((((m g0 23 3) - 1) - y1) % 6) * 33), zr g0 26] m _
      refine X.bipush 11 i165_9 rfl rfl (by decide) ?_
      refine X.iadd 12 i165_11 rfl rfl (by omega) ?_
      refine X.iload_n 13 i165_12 rfl rfl rfl ?_
      refine X.iadd 14 i165_13 rfl rfl (by omega) ?_
      refine X.lald 15 i165_14 rfl rfl (by decide) rfl (by omega) ?_
      refine X.retl i165_15 rfl t165 ?_
      show X (EE s) d 167 42 [(0, zr g0 23), (1, zi y1), (2, zr g2 9), (3, zl z522), (5, zl y5), (7, zi y7)] [zl (m g0 26 (((((((m g0 23 3) - 1) - y1) % 6) * 33) + 28) + y7)), zl y5] m _
      refine X.maxL 45 i167_42 rfl rfl (by omega) (Nat.le_of_ble_eq_true rfl) ?_
      refine X.lstore 47 [(0, zr g0 23), (1, zi y1), (2, zr g2 9), (3, zl z522), (5, zl (max y5 (m g0 26 (((((((m g0 23 3) - 1) - y1) % 6) * 33) + 28) + y7)))), (7, zi y7)] i167_45 rfl rfl rfl ?_
      refine X.iinc 50 [(0, zr g0 23), (1, zi y1), (2, zr g2 9), (3, zl z522), (5, zl (max y5 (m g0 26 (((((((m g0 23 3) - 1) - y1) % 6) * 33) + 28) + y7)))), (7, zi (y7 + 1))] i167_47 rfl rfl rfl (by omega) rfl ?_
      refine X.goto 8 i167_50 rfl rfl ?_
      exact ih z522 (max y5 (m g0 26 (((((((m g0 23 3) - 1) - y1) % 6) * 33) + 28) + y7))) (y7 + 1) (by omega) (by omega) (by omega) (by omega) (by omega) (Eq.trans hR (Eq.trans (if_neg h516) (Eq.trans (zn_eq hFv519.symm) (Eq.trans (zn_eq ez521) (Eq.trans (zn_eq ez522) rfl)))))
-- WorkMeter$Settings.value
noncomputable def f168_1 (g0 : Nat) (a1 : Int) (m : zM) : Int :=
  zn (f76_1 a1 m) fun v503 =>
  zn (if v503 = (-1) then
  ((-1))
  else
  ((m g0 10 v503))) fun v506 =>
  v506
-- WorkMeter$Settings.value
theorem c168_1 {s : Nat × (Nat → Int32)} {S : zS} {m0 m : zM} {B : Int} {d : Nat} {Q : Option zV → zM → Prop} (g0 : Nat) (a1 : Int) (hd : 14 ≤ d) (hJ : J S m0 B m) (hB : B + 0 ≤ 1000000000) (ha1 : 20 ≤ a1 ∧ a1 ≤ 20) (hQ : ∀ (v : Int), ((-1) ≤ v ∧ v ≤ 1000000) → f168_1 g0 a1 m = v → Q (some (zi v)) m) : X (EE s) d 168 0 [(0, zr g0 9), (1, zi a1)] [] m Q := by
  refine X.iload_n 1 i168_0 rfl rfl rfl ?_
  refine X.calls 4 [zi a1] [] [(0, zi a1)] i168_1 (by decide) rfl rfl (by omega) rfl rfl t76 (Nat.le_of_ble_eq_true rfl) (Nat.le_of_ble_eq_true rfl) rfl ?_
  refine c76_1 (B := B)  a1 (by omega) (hJ.up (by omega)) (by omega) (by omega) (fun v503 hv503 hFv503 hqv503_0 hqv503_1 => ?_)
  show X (EE s) d 168 4 [(0, zr g0 9), (1, zi a1)] [zi v503] m _
  refine X.istore_n 5 [(0, zr g0 9), (1, zi a1), (2, zi v503)] i168_4 rfl rfl rfl ?_
  refine X.iload_n 6 i168_5 rfl rfl rfl ?_
  refine X.iconst 7 i168_6 rfl rfl (by decide) ?_
  have hK509 : ∀ (v : Int) , ((-1) ≤ v ∧ v ≤ 1000000) → (if v503 = (-1) then
      ((-1))
      else
      ((m g0 10 v503))) = v → X (EE s) d 168 20 [] [zi v] m Q := by
    intro v506 hv506 hT510
    refine X.reti i168_20 rfl t168 ?_
    exact hQ v506 (by first | trivial | omega) (Eq.trans (zn_eq hFv503.symm) (Eq.trans (zn_eq hT510.symm) rfl)) 
  refine X.icmpne 14 10 i168_7 rfl rfl rfl (fun h504 => ?_) (fun h504 => ?_)
  · refine X.cut [(0, zr g0 9), (2, zi v503)] i168_14 rfl ?_
    refine X.aload_n 15 i168_14 rfl rfl rfl ?_
    refine X.getR 18 i168_15 rfl rfl (by decide) rfl rfl ?_
    refine X.iload_n 19 i168_18 rfl rfl rfl ?_
    refine X.iald 20 i168_19 rfl rfl (by decide) rfl (by omega) ?_
    have h505 := r10_all hJ g0 (i := v503) (by omega)
    refine X.cut [] i168_20 rfl ?_
    exact hK509 (m g0 10 v503) (by first | trivial | omega) (Eq.trans (if_neg h504) rfl)
  · refine X.iconst 11 i168_10 rfl rfl (by decide) ?_
    refine X.goto 20 i168_11 rfl rfl ?_
    refine X.cut [] i168_20 rfl ?_
    exact hK509 (-1) (by first | trivial | omega) (Eq.trans (if_pos h504) rfl)
-- WorkMeter$Settings.value
theorem c168_2 {s : Nat × (Nat → Int32)} {S : zS} {m0 m : zM} {B : Int} {d : Nat} {Q : Option zV → zM → Prop} (g0 : Nat) (a1 : Int) (hd : 14 ≤ d) (hJ : J S m0 B m) (hB : B + 0 ≤ 1000000000) (ha1 : 21 ≤ a1 ∧ a1 ≤ 21) (hQ : ∀ (v : Int), ((-1) ≤ v ∧ v ≤ 1000000) → f168_1 g0 a1 m = v → Q (some (zi v)) m) : X (EE s) d 168 0 [(0, zr g0 9), (1, zi a1)] [] m Q := by
  refine X.iload_n 1 i168_0 rfl rfl rfl ?_
  refine X.calls 4 [zi a1] [] [(0, zi a1)] i168_1 (by decide) rfl rfl (by omega) rfl rfl t76 (Nat.le_of_ble_eq_true rfl) (Nat.le_of_ble_eq_true rfl) rfl ?_
  refine c76_1 (B := B)  a1 (by omega) (hJ.up (by omega)) (by omega) (by omega) (fun v503 hv503 hFv503 hqv503_0 hqv503_1 => ?_)
  show X (EE s) d 168 4 [(0, zr g0 9), (1, zi a1)] [zi v503] m _
  refine X.istore_n 5 [(0, zr g0 9), (1, zi a1), (2, zi v503)] i168_4 rfl rfl rfl ?_
  refine X.iload_n 6 i168_5 rfl rfl rfl ?_
  refine X.iconst 7 i168_6 rfl rfl (by decide) ?_
  have hK509 : ∀ (v : Int) , ((-1) ≤ v ∧ v ≤ 1000000) → (if v503 = (-1) then
      ((-1))
      else
      ((m g0 10 v503))) = v → X (EE s) d 168 20 [] [zi v] m Q := by
    intro v506 hv506 hT510
    refine X.reti i168_20 rfl t168 ?_
    exact hQ v506 (by first | trivial | omega) (Eq.trans (zn_eq hFv503.symm) (Eq.trans (zn_eq hT510.symm) rfl)) 
  refine X.icmpne 14 10 i168_7 rfl rfl rfl (fun h504 => ?_) (fun h504 => ?_)
  · refine X.cut [(0, zr g0 9), (2, zi v503)] i168_14 rfl ?_
    refine X.aload_n 15 i168_14 rfl rfl rfl ?_
    refine X.getR 18 i168_15 rfl rfl (by decide) rfl rfl ?_
    refine X.iload_n 19 i168_18 rfl rfl rfl ?_
    refine X.iald 20 i168_19 rfl rfl (by decide) rfl (by omega) ?_
    have h505 := r10_all hJ g0 (i := v503) (by omega)
    refine X.cut [] i168_20 rfl ?_
    exact hK509 (m g0 10 v503) (by first | trivial | omega) (Eq.trans (if_neg h504) rfl)
  · refine X.iconst 11 i168_10 rfl rfl (by decide) ?_
    refine X.goto 20 i168_11 rfl rfl ?_
    refine X.cut [] i168_20 rfl ?_
    exact hK509 (-1) (by first | trivial | omega) (Eq.trans (if_pos h504) rfl)
-- WorkMeter$Settings.value
theorem c168_3 {s : Nat × (Nat → Int32)} {S : zS} {m0 m : zM} {B : Int} {d : Nat} {Q : Option zV → zM → Prop} (g0 : Nat) (a1 : Int) (hd : 14 ≤ d) (hJ : J S m0 B m) (hB : B + 0 ≤ 1000000000) (ha1 : 22 ≤ a1 ∧ a1 ≤ 22) (hQ : ∀ (v : Int), ((-1) ≤ v ∧ v ≤ 1000000) → f168_1 g0 a1 m = v → Q (some (zi v)) m) : X (EE s) d 168 0 [(0, zr g0 9), (1, zi a1)] [] m Q := by
  refine X.iload_n 1 i168_0 rfl rfl rfl ?_
  refine X.calls 4 [zi a1] [] [(0, zi a1)] i168_1 (by decide) rfl rfl (by omega) rfl rfl t76 (Nat.le_of_ble_eq_true rfl) (Nat.le_of_ble_eq_true rfl) rfl ?_
  refine c76_1 (B := B)  a1 (by omega) (hJ.up (by omega)) (by omega) (by omega) (fun v503 hv503 hFv503 hqv503_0 hqv503_1 => ?_)
  show X (EE s) d 168 4 [(0, zr g0 9), (1, zi a1)] [zi v503] m _
  refine X.istore_n 5 [(0, zr g0 9), (1, zi a1), (2, zi v503)] i168_4 rfl rfl rfl ?_
  refine X.iload_n 6 i168_5 rfl rfl rfl ?_
  refine X.iconst 7 i168_6 rfl rfl (by decide) ?_
  have hK509 : ∀ (v : Int) , ((-1) ≤ v ∧ v ≤ 1000000) → (if v503 = (-1) then
      ((-1))
      else
      ((m g0 10 v503))) = v → X (EE s) d 168 20 [] [zi v] m Q := by
    intro v506 hv506 hT510
    refine X.reti i168_20 rfl t168 ?_
    exact hQ v506 (by first | trivial | omega) (Eq.trans (zn_eq hFv503.symm) (Eq.trans (zn_eq hT510.symm) rfl)) 
  refine X.icmpne 14 10 i168_7 rfl rfl rfl (fun h504 => ?_) (fun h504 => ?_)
  · refine X.cut [(0, zr g0 9), (2, zi v503)] i168_14 rfl ?_
    refine X.aload_n 15 i168_14 rfl rfl rfl ?_
    refine X.getR 18 i168_15 rfl rfl (by decide) rfl rfl ?_
    refine X.iload_n 19 i168_18 rfl rfl rfl ?_
    refine X.iald 20 i168_19 rfl rfl (by decide) rfl (by omega) ?_
    have h505 := r10_all hJ g0 (i := v503) (by omega)
    refine X.cut [] i168_20 rfl ?_
    exact hK509 (m g0 10 v503) (by first | trivial | omega) (Eq.trans (if_neg h504) rfl)
  · refine X.iconst 11 i168_10 rfl rfl (by decide) ?_
    refine X.goto 20 i168_11 rfl rfl ?_
    refine X.cut [] i168_20 rfl ?_
    exact hK509 (-1) (by first | trivial | omega) (Eq.trans (if_pos h504) rfl)
end
section
-- WorkMeter$Registers.moneyHundredths
noncomputable def f167_1 (g0 g2 : Nat) (a1 : Int) (m : zM) : Int :=
  fl167_8_1 (fun y501 y502 =>
  zn (f168_1 g2 20 m) fun v509 =>
  zn (w64 (y502 * v509)) fun z510 =>
  zn (w64 (y501 + z510)) fun z511 =>
  zn (f161_1 g0 a1 2 (-1) m) fun v514 =>
  zn (f161_1 g0 a1 5 (-1) m) fun v517 =>
  zn (w64 (v514 + v517)) fun z518 =>
  zn (w64 (z518 * 100)) fun z519 =>
  zn (f161_1 g0 a1 0 (-1) m) fun v522 =>
  zn (f168_1 g2 21 m) fun v525 =>
  zn (w64 (v522 * v525)) fun z526 =>
  zn (w64 (z519 - z526)) fun z527 =>
  zn (w64 (z511 * 100)) fun z528 =>
  zn (f168_1 g2 22 m) fun v531 =>
  zn (w64 ((max 0 z527) * v531)) fun z532 =>
  zn (w64 (z528 + z532)) fun z533 =>
  z533) g0 g2 a1 m (zfu 5) 0 0 0
-- WorkMeter$Registers.moneyHundredths
theorem c167_1 {s : Nat × (Nat → Int32)} {S : zS} {m0 m : zM} {B : Int} {d : Nat} {Q : Option zV → zM → Prop} (g0 g2 : Nat) (a1 : Int) (hd : 15 ≤ d) (hJ : J S m0 B m) (hB : B + 0 ≤ 1000000000) (ha1 : 0 ≤ a1 ∧ a1 ≤ 5) (hp0 : 0 ≤ a1) (hp1 : a1 < m g0 23 3) (hQ : ∀ (v : Int), (True) → f167_1 g0 g2 a1 m = v → Q (some (zl v)) m) : X (EE s) d 167 0 [(0, zr g0 23), (1, zi a1), (2, zr g2 9)] [] m Q := by
  refine X.lconst (y := 0) 1 i167_0 rfl rfl rfl ?_
  refine X.lstore_n 2 [(0, zr g0 23), (1, zi a1), (2, zr g2 9), (3, zl 0)] i167_1 rfl rfl rfl ?_
  refine X.lconst (y := 0) 3 i167_2 rfl rfl rfl ?_
  refine X.lstore 5 [(0, zr g0 23), (1, zi a1), (2, zr g2 9), (3, zl 0), (5, zl 0)] i167_3 rfl rfl rfl ?_
  refine X.iconst 6 i167_5 rfl rfl (by decide) ?_
  refine X.istore 8 [(0, zr g0 23), (1, zi a1), (2, zr g2 9), (3, zl 0), (5, zl 0), (7, zi 0)] i167_6 rfl rfl rfl ?_
  have hz5 := zfu_eq 5
  refine l167_8_1 (s := s) (m := m) (B := B) (d := d) (R0 := (f167_1 g0 g2 a1 m)) g0 g2 a1  (by omega) (hJ.up (by omega)) (by omega) (by omega) (fun y501 y502 hby501 hby502 hrlm503_0 hrlm503_1 hR506 => ?_) (zfu 5) 0 0 0 (by omega) (by omega) (by omega) (by omega) (by omega) rfl
  refine X.lload_n 54 i167_53 rfl rfl rfl ?_
  refine X.lload 56 i167_54 rfl rfl rfl ?_
  refine X.aload_n 57 i167_56 rfl rfl rfl ?_
  refine X.bipush 59 i167_57 rfl rfl (by decide) ?_
  refine X.callv 62 [zi 20] [zl y502, zl y501] [(0, zr g2 9), (1, zi 20)] i167_59 rfl (by decide) rfl rfl (by omega) rfl rfl (by decide) rfl t168 (Nat.le_of_ble_eq_true rfl) (Nat.le_of_ble_eq_true rfl) rfl ?_
  refine c168_1 (B := B) g2 20 (by omega) (hJ.up (by omega)) (by omega) (by omega) (fun v509 hv509 hFv509 => ?_)
  show X (EE s) d 167 62 [(0, zr g0 23), (1, zi a1), (2, zr g2 9), (3, zl y501), (5, zl y502)] [zi v509, zl y502, zl y501] m _
  refine X.i2l 63 i167_62 rfl rfl ?_
  refine X.lmulW 64 i167_63 rfl rfl (fun z510 ez510 hz510 => ?_)
  refine X.laddW 65 i167_64 rfl rfl (fun z511 ez511 hz511 => ?_)
  refine X.lstore_n 66 [(0, zr g0 23), (1, zi a1), (2, zr g2 9), (3, zl z511), (5, zl y502)] i167_65 rfl rfl rfl ?_
  refine X.aload_n 67 i167_66 rfl rfl rfl ?_
  refine X.iload_n 68 i167_67 rfl rfl rfl ?_
  refine X.iconst 69 i167_68 rfl rfl (by decide) ?_
  refine X.iconst 70 i167_69 rfl rfl (by decide) ?_
  refine X.callv 73 [zi a1, zi 2, zi (-1)] [] [(0, zr g0 23), (1, zi a1), (2, zi 2), (3, zi (-1))] i167_70 rfl (by decide) rfl rfl (by omega) rfl rfl (by decide) rfl t161 (Nat.le_of_ble_eq_true rfl) (Nat.le_of_ble_eq_true rfl) rfl ?_
  refine c161_1 (B := B) g0 a1 2 (-1) (by omega) (hJ.up (by omega)) (by omega) (by omega) (by omega) (by omega) (by omega) (by omega) (fun v514 hv514 hFv514 => ?_)
  show X (EE s) d 167 73 [(0, zr g0 23), (1, zi a1), (2, zr g2 9), (3, zl z511), (5, zl y502)] [zl v514] m _
  refine X.aload_n 74 i167_73 rfl rfl rfl ?_
  refine X.iload_n 75 i167_74 rfl rfl rfl ?_
  refine X.iconst 76 i167_75 rfl rfl (by decide) ?_
  refine X.iconst 77 i167_76 rfl rfl (by decide) ?_
  refine X.callv 80 [zi a1, zi 5, zi (-1)] [zl v514] [(0, zr g0 23), (1, zi a1), (2, zi 5), (3, zi (-1))] i167_77 rfl (by decide) rfl rfl (by omega) rfl rfl (by decide) rfl t161 (Nat.le_of_ble_eq_true rfl) (Nat.le_of_ble_eq_true rfl) rfl ?_
  refine c161_1 (B := B) g0 a1 5 (-1) (by omega) (hJ.up (by omega)) (by omega) (by omega) (by omega) (by omega) (by omega) (by omega) (fun v517 hv517 hFv517 => ?_)
  show X (EE s) d 167 80 [(0, zr g0 23), (1, zi a1), (2, zr g2 9), (3, zl z511), (5, zl y502)] [zl v517, zl v514] m _
  refine X.laddW 81 i167_80 rfl rfl (fun z518 ez518 hz518 => ?_)
  refine X.lstore 83 [(0, zr g0 23), (1, zi a1), (2, zr g2 9), (3, zl z511), (5, zl y502), (7, zl z518)] i167_81 rfl rfl rfl ?_
  refine X.lload 85 i167_83 rfl rfl rfl ?_
  refine X.ldc2 88 i167_85 rfl rfl (by decide) ?_
  refine X.lmulW 89 i167_88 rfl rfl (fun z519 ez519 hz519 => ?_)
  refine X.aload_n 90 i167_89 rfl rfl rfl ?_
  refine X.iload_n 91 i167_90 rfl rfl rfl ?_
  refine X.iconst 92 i167_91 rfl rfl (by decide) ?_
  refine X.iconst 93 i167_92 rfl rfl (by decide) ?_
  refine X.callv 96 [zi a1, zi 0, zi (-1)] [zl z519] [(0, zr g0 23), (1, zi a1), (2, zi 0), (3, zi (-1))] i167_93 rfl (by decide) rfl rfl (by omega) rfl rfl (by decide) rfl t161 (Nat.le_of_ble_eq_true rfl) (Nat.le_of_ble_eq_true rfl) rfl ?_
  refine c161_1 (B := B) g0 a1 0 (-1) (by omega) (hJ.up (by omega)) (by omega) (by omega) (by omega) (by omega) (by omega) (by omega) (fun v522 hv522 hFv522 => ?_)
  show X (EE s) d 167 96 [(0, zr g0 23), (1, zi a1), (2, zr g2 9), (3, zl z511), (5, zl y502), (7, zl z518)] [zl v522, zl z519] m _
  refine X.aload_n 97 i167_96 rfl rfl rfl ?_
  refine X.bipush 99 i167_97 rfl rfl (by decide) ?_
  refine X.callv 102 [zi 21] [zl v522, zl z519] [(0, zr g2 9), (1, zi 21)] i167_99 rfl (by decide) rfl rfl (by omega) rfl rfl (by decide) rfl t168 (Nat.le_of_ble_eq_true rfl) (Nat.le_of_ble_eq_true rfl) rfl ?_
  refine c168_2 (B := B) g2 21 (by omega) (hJ.up (by omega)) (by omega) (by omega) (fun v525 hv525 hFv525 => ?_)
  show X (EE s) d 167 102 [(0, zr g0 23), (1, zi a1), (2, zr g2 9), (3, zl z511), (5, zl y502), (7, zl z518)] [zi v525, zl v522, zl z519] m _
  refine X.i2l 103 i167_102 rfl rfl ?_
  refine X.lmulW 104 i167_103 rfl rfl (fun z526 ez526 hz526 => ?_)
  refine X.lsubW 105 i167_104 rfl rfl (fun z527 ez527 hz527 => ?_)
  refine X.lstore 107 [(0, zr g0 23), (1, zi a1), (2, zr g2 9), (3, zl z511), (5, zl y502), (7, zl z518), (9, zl z527)] i167_105 rfl rfl rfl ?_
  refine X.lload_n 108 i167_107 rfl rfl rfl ?_
  refine X.ldc2 111 i167_108 rfl rfl (by decide) ?_
  refine X.lmulW 112 i167_111 rfl rfl (fun z528 ez528 hz528 => ?_)
  refine X.lconst (y := 0) 113 i167_112 rfl rfl rfl ?_
  refine X.lload 115 i167_113 rfl rfl rfl ?_
  refine X.maxL 118 i167_115 rfl rfl (by omega) (Nat.le_of_ble_eq_true rfl) ?_
  refine X.aload_n 119 i167_118 rfl rfl rfl ?_
  refine X.bipush 121 i167_119 rfl rfl (by decide) ?_
  refine X.callv 124 [zi 22] [zl (max 0 z527), zl z528] [(0, zr g2 9), (1, zi 22)] i167_121 rfl (by decide) rfl rfl (by omega) rfl rfl (by decide) rfl t168 (Nat.le_of_ble_eq_true rfl) (Nat.le_of_ble_eq_true rfl) rfl ?_
  refine c168_3 (B := B) g2 22 (by omega) (hJ.up (by omega)) (by omega) (by omega) (fun v531 hv531 hFv531 => ?_)
  show X (EE s) d 167 124 [(0, zr g0 23), (1, zi a1), (2, zr g2 9), (3, zl z511), (5, zl y502), (7, zl z518), (9, zl z527)] [zi v531, zl (max 0 z527), zl z528] m _
  refine X.i2l 125 i167_124 rfl rfl ?_
  refine X.lmulW 126 i167_125 rfl rfl (fun z532 ez532 hz532 => ?_)
  refine X.laddW 127 i167_126 rfl rfl (fun z533 ez533 hz533 => ?_)
  refine X.retl i167_127 rfl t167 ?_
  exact hQ z533 (by first | trivial | omega) (Eq.trans hR506 (Eq.trans (zn_eq hFv509.symm) (Eq.trans (zn_eq ez510) (Eq.trans (zn_eq ez511) (Eq.trans (zn_eq hFv514.symm) (Eq.trans (zn_eq hFv517.symm) (Eq.trans (zn_eq ez518) (Eq.trans (zn_eq ez519) (Eq.trans (zn_eq hFv522.symm) (Eq.trans (zn_eq hFv525.symm) (Eq.trans (zn_eq ez526) (Eq.trans (zn_eq ez527) (Eq.trans (zn_eq ez528) (Eq.trans (zn_eq hFv531.symm) (Eq.trans (zn_eq ez532) (Eq.trans (zn_eq ez533) rfl)))))))))))))))) 
noncomputable def fl169_9_1_b (self : Int → Int → Int → Int) (k45 : Int → Int) (m : zM) (y4 y6 y8 : Int) : Int :=
  if 200 ≤ y8 then
  (k45 y4)
  else
  (if y6 = 0 then
  (k45 y4)
  else
  (zn ((y4).tmod y6) fun z512 =>
  self y6 z512 (y8 + 1)))
noncomputable def fl169_9_1 (k45 : Int → Int) (m : zM) : Nat → Int → Int → Int → Int
  | 0 => fun y4 y6 y8 => 0
  | n + 1 => fl169_9_1_b (fl169_9_1 k45 m n) k45 m
theorem l169_9_1 {s : Nat × (Nat → Int32)} {S : zS} {m0 : zM} {m : zM} {B : Int} {d : Nat} {Q : Option zV → zM → Prop} {R0 : Int} {k45 : Int → Int} (hd : 13 ≤ d) (hJ : J S m0 B m) (hB9 : B ≤ 1000000000)
    (K45 : ∀ (x4 : Int) , (True) → R0 = k45 x4 → X (EE s) d 169 45 [(4, zl x4)] [] m Q) :
    ∀ (n : Nat) (y4 y6 y8 : Int) , (0 ≤ y8 ∧ y8 ≤ 200) → 200 - y8 < (n : Int) → R0 = fl169_9_1 k45 m n y4 y6 y8 → X (EE s) d 169 9 [(4, zl y4), (6, zl y6), (8, zi y8)] [] m Q := by
  intro n
  induction n with
  | zero =>
    intro y4 y6 y8 hy8 hn hR
    exfalso
    omega
  | succ n ih =>
    intro y4 y6 y8 hy8 hn hR
    replace hR : R0 = fl169_9_1_b (fl169_9_1 k45 m n) k45 m y4 y6 y8 := hR
    refine X.iload 11 i169_9 rfl rfl rfl ?_
    refine X.sipush 14 i169_11 rfl rfl (by decide) ?_
    refine X.icmpge 45 17 i169_14 rfl rfl rfl (fun h509 => ?_) (fun h509 => ?_)
    · refine X.cut [(4, zl y4)] i169_45 rfl ?_
      exact K45 y4 (by first | trivial | omega) (Eq.trans hR (Eq.trans (if_pos h509) rfl))
    · refine X.lload 19 i169_17 rfl rfl rfl ?_
      refine X.lconst (y := 0) 20 i169_19 rfl rfl rfl ?_
      refine X.lcmp 21 i169_20 rfl rfl (fun z510 hz510 => ?_)
      refine X.ifeq 45 24 i169_21 rfl rfl rfl (fun h511 => ?_) (fun h511 => ?_)
      · have h511c : y6 = 0 := by omega
        clear h511 hz510
        refine X.cut [(4, zl y4)] i169_45 rfl ?_
        exact K45 y4 (by first | trivial | omega) (Eq.trans hR (Eq.trans (if_neg h509) (Eq.trans (if_pos h511c) rfl)))
      · have h511c : ¬ y6 = 0 := by omega
        clear h511 hz510
        refine X.lload 26 i169_24 rfl rfl rfl ?_
        refine X.lload 28 i169_26 rfl rfl rfl ?_
        refine X.lremW 29 i169_28 rfl rfl (by omega) (fun z512 ez512 hz512 => ?_)
        refine X.lstore 31 [(4, zl y4), (6, zl y6), (8, zi y8), (9, zl z512)] i169_29 rfl rfl rfl ?_
        refine X.lload 33 i169_31 rfl rfl rfl ?_
        refine X.lstore 35 [(4, zl y6), (6, zl y6), (8, zi y8), (9, zl z512)] i169_33 rfl rfl rfl ?_
        refine X.lload 37 i169_35 rfl rfl rfl ?_
        refine X.lstore 39 [(4, zl y6), (6, zl z512), (8, zi y8), (9, zl z512)] i169_37 rfl rfl rfl ?_
        refine X.iinc 42 [(4, zl y6), (6, zl z512), (8, zi (y8 + 1)), (9, zl z512)] i169_39 rfl rfl rfl (by omega) rfl ?_
        refine X.goto 9 i169_42 rfl rfl ?_
        refine X.cut [(4, zl y6), (6, zl z512), (8, zi (y8 + 1))] i169_9 rfl ?_
        exact ih y6 z512 (y8 + 1) (by omega) (by omega) (Eq.trans hR (Eq.trans (if_neg h509) (Eq.trans (if_neg h511c) (Eq.trans (zn_eq ez512) rfl))))
-- WorkMeter.commonDivisor
noncomputable def f169_1 (a0 a1 : Int) (m : zM) : Int :=
  fl169_9_1 (fun y501 =>
  zn (if y501 ≤ 0 then
  (1)
  else
  (y501)) fun v508 =>
  v508) m (zfu 201) a0 a1 0
-- WorkMeter.commonDivisor
theorem c169_1 {s : Nat × (Nat → Int32)} {S : zS} {m0 m : zM} {B : Int} {d : Nat} {Q : Option zV → zM → Prop} (a0 a1 : Int) (hd : 13 ≤ d) (hJ : J S m0 B m) (hB : B + 0 ≤ 1000000000) (ha1 : 100 ≤ a1 ∧ a1 ≤ 100000000) (hQ : ∀ (v : Int), (1 ≤ v) → f169_1 a0 a1 m = v → Q (some (zl v)) m) : X (EE s) d 169 0 [(0, zl a0), (2, zl a1)] [] m Q := by
  refine X.lload_n 1 i169_0 rfl rfl rfl ?_
  refine X.lstore 3 [(0, zl a0), (2, zl a1), (4, zl a0)] i169_1 rfl rfl rfl ?_
  refine X.lload_n 4 i169_3 rfl rfl rfl ?_
  refine X.lstore 6 [(0, zl a0), (2, zl a1), (4, zl a0), (6, zl a1)] i169_4 rfl rfl rfl ?_
  refine X.iconst 7 i169_6 rfl rfl (by decide) ?_
  refine X.istore 9 [(0, zl a0), (2, zl a1), (4, zl a0), (6, zl a1), (8, zi 0)] i169_7 rfl rfl rfl ?_
  refine X.cut [(4, zl a0), (6, zl a1), (8, zi 0)] i169_9 rfl ?_
  have hz201 := zfu_eq 201
  refine l169_9_1 (s := s) (m := m) (B := B) (d := d) (R0 := (f169_1 a0 a1 m))    (by omega) (hJ.up (by omega)) (by omega) (fun y501 hby501 hR505 => ?_) (zfu 201) a0 a1 0 (by omega) (by omega) rfl
  refine X.lload 47 i169_45 rfl rfl rfl ?_
  refine X.lconst (y := 0) 48 i169_47 rfl rfl rfl ?_
  refine X.lcmp 49 i169_48 rfl rfl (fun z506 hz506 => ?_)
  have hK511 : ∀ (v : Int) , (1 ≤ v) → (if y501 ≤ 0 then
      (1)
      else
      (y501)) = v → X (EE s) d 169 58 [] [zl v] m Q := by
    intro v508 hv508 hT512
    refine X.retl i169_58 rfl t169 ?_
    exact hQ v508 (by first | trivial | omega) (Eq.trans hR505 (Eq.trans (zn_eq hT512.symm) rfl)) 
  refine X.ifle 57 52 i169_49 rfl rfl rfl (fun h507 => ?_) (fun h507 => ?_)
  · have h507c : y501 ≤ 0 := by omega
    clear h507 hz506
    refine X.cut [] i169_57 rfl ?_
    refine X.lconst (y := 1) 58 i169_57 rfl rfl rfl ?_
    exact hK511 1 (by first | trivial | omega) (Eq.trans (if_pos h507c) rfl)
  · have h507c : ¬ y501 ≤ 0 := by omega
    clear h507 hz506
    refine X.lload 54 i169_52 rfl rfl rfl ?_
    refine X.goto 58 i169_54 rfl rfl ?_
    refine X.cut [] i169_58 rfl ?_
    exact hK511 y501 (by first | trivial | omega) (Eq.trans (if_neg h507c) rfl)
-- WorkMeter.money
noncomputable def f166_1 (a1 a2 : Int) (m : zM) : Int :=
  if a1 < 0 then
  ((-1))
  else
  (if (min (m 0 23 3) 6) ≤ a1 then
  ((-1))
  else
  (if a2 < 0 then
  ((-1))
  else
  (if a2 ≤ 1 then
  (zn (f167_1 0 0 a1 m) fun v511 =>
  zn (f169_1 v511 (100 * (max 1 (m 0 10 1))) m) fun v515 =>
  zn (if a2 = 0 then
  (v511)
  else
  ((100 * (max 1 (m 0 10 1))))) fun v517 =>
  zn (w64 ((v517).tdiv v515)) fun z522 =>
  z522)
  else
  ((-1)))))
-- WorkMeter.money
theorem c166_1 {s : Nat × (Nat → Int32)} {S : zS} {m0 m : zM} {B : Int} {d : Nat} {Q : Option zV → zM → Prop} (a1 a2 : Int) (hd : 16 ≤ d) (hJ : J S m0 B m) (hB : B + 0 ≤ 1000000000) (ha1 : (-2147483648) ≤ a1 ∧ a1 ≤ 2147483647) (ha2 : (-2147483648) ≤ a2 ∧ a2 ≤ 2147483647) (hQ : ∀ (v : Int), (True) → f166_1 a1 a2 m = v → Q (some (zl v)) m) : X (EE s) d 166 0 [(0, zr 4 40), (1, zi a1), (2, zi a2)] [] m Q := by
  refine X.aload_n 1 i166_0 rfl rfl rfl ?_
  refine X.getF 4 i166_1 rfl rfl (by decide) rfl rfl ?_
  refine X.getR 7 i166_4 rfl rfl (by decide) rfl rfl ?_
  refine X.iload_n 8 i166_7 rfl rfl rfl ?_
  refine X.callv 11 [zi a1] [] [(0, zr 0 23), (1, zi a1)] i166_8 rfl (by decide) rfl rfl (by omega) rfl rfl (by decide) rfl t160 (Nat.le_of_ble_eq_true rfl) (Nat.le_of_ble_eq_true rfl) rfl ?_
  refine X.iload_n 1 i160_0 rfl rfl rfl ?_
  refine X.iflt 21 4 i160_1 rfl rfl rfl (fun h501 => ?_) (fun h501 => ?_)
  · refine X.cut [] i160_21 rfl ?_
    refine X.iconst 22 i160_21 rfl rfl (by decide) ?_
    refine X.retz i160_22 rfl t160 (by omega) ?_
    show X (EE s) d 166 11 [(0, zr 4 40), (1, zi a1), (2, zi a2)] [zi 0] m _
    refine X.ifeq 23 14 i166_11 rfl rfl rfl (fun h502 => ?_) (fun h502 => (by exfalso; omega))
    refine X.cut [] i166_23 rfl ?_
    refine X.ldc2 26 i166_23 rfl rfl (by decide) ?_
    refine X.retl i166_26 rfl t166 ?_
    exact hQ (-1) (by first | trivial | omega) (Eq.trans (if_pos h501) rfl) 
  · refine X.iload_n 5 i160_4 rfl rfl rfl ?_
    refine X.aload_n 6 i160_5 rfl rfl rfl ?_
    refine X.getI 9 3 i160_6 rfl rfl (by decide) rfl rfl rfl ?_
    have h503 := r23_3 hJ 0
    refine X.bipush 11 i160_9 rfl rfl (by decide) ?_
    refine X.minI 14 i160_11 rfl rfl (by omega) (Nat.le_of_ble_eq_true rfl) ?_
    refine X.icmpge 21 17 i160_14 rfl rfl rfl (fun h504 => ?_) (fun h504 => ?_)
    · refine X.cut [] i160_21 rfl ?_
      refine X.iconst 22 i160_21 rfl rfl (by decide) ?_
      refine X.retz i160_22 rfl t160 (by omega) ?_
      show X (EE s) d 166 11 [(0, zr 4 40), (1, zi a1), (2, zi a2)] [zi 0] m _
      refine X.ifeq 23 14 i166_11 rfl rfl rfl (fun h505 => ?_) (fun h505 => (by exfalso; omega))
      refine X.cut [] i166_23 rfl ?_
      refine X.ldc2 26 i166_23 rfl rfl (by decide) ?_
      refine X.retl i166_26 rfl t166 ?_
      exact hQ (-1) (by first | trivial | omega) (Eq.trans (if_neg h501) (Eq.trans (if_pos h504) rfl)) 
    · refine X.iconst 18 i160_17 rfl rfl (by decide) ?_
      refine X.goto 22 i160_18 rfl rfl ?_
      refine X.cut [] i160_22 rfl ?_
      refine X.retz i160_22 rfl t160 (by omega) ?_
      show X (EE s) d 166 11 [(0, zr 4 40), (1, zi a1), (2, zi a2)] [zi 1] m _
      refine X.ifeq 23 14 i166_11 rfl rfl rfl (fun h506 => (by exfalso; omega)) (fun h506 => ?_)
      refine X.iload_n 15 i166_14 rfl rfl rfl ?_
      refine X.iflt 23 18 i166_15 rfl rfl rfl (fun h507 => ?_) (fun h507 => ?_)
      · refine X.cut [] i166_23 rfl ?_
        refine X.ldc2 26 i166_23 rfl rfl (by decide) ?_
        refine X.retl i166_26 rfl t166 ?_
        exact hQ (-1) (by first | trivial | omega) (Eq.trans (if_neg h501) (Eq.trans (if_neg h504) (Eq.trans (if_pos h507) rfl))) 
      · refine X.iload_n 19 i166_18 rfl rfl rfl ?_
        refine X.iconst 20 i166_19 rfl rfl (by decide) ?_
        refine X.icmple 27 23 i166_20 rfl rfl rfl (fun h508 => ?_) (fun h508 => ?_)
        · refine X.aload_n 28 i166_27 rfl rfl rfl ?_
          refine X.getF 31 i166_28 rfl rfl (by decide) rfl rfl ?_
          refine X.getR 34 i166_31 rfl rfl (by decide) rfl rfl ?_
          refine X.iload_n 35 i166_34 rfl rfl rfl ?_
          refine X.aload_n 36 i166_35 rfl rfl rfl ?_
          refine X.getF 39 i166_36 rfl rfl (by decide) rfl rfl ?_
          refine X.getR 42 i166_39 rfl rfl (by decide) rfl rfl ?_
          refine X.callv 45 [zi a1, zr 0 9] [] [(0, zr 0 23), (1, zi a1), (2, zr 0 9)] i166_42 rfl (by decide) rfl rfl (by omega) rfl rfl (by decide) rfl t167 (Nat.le_of_ble_eq_true rfl) (Nat.le_of_ble_eq_true rfl) rfl ?_
          refine c167_1 (B := B) 0 0 a1 (by omega) (hJ.up (by omega)) (by omega) (by omega) (by omega) (by omega) (fun v511 hv511 hFv511 => ?_)
          show X (EE s) d 166 45 [(0, zr 4 40), (1, zi a1), (2, zi a2)] [zl v511] m _
          refine X.lstore_n 46 [(0, zr 4 40), (1, zi a1), (2, zi a2), (3, zl v511)] i166_45 rfl rfl rfl ?_
          refine X.ldc2 49 i166_46 rfl rfl (by decide) ?_
          refine X.aload_n 50 i166_49 rfl rfl rfl ?_
          refine X.getF 53 i166_50 rfl rfl (by decide) rfl rfl ?_
          refine X.getR 56 i166_53 rfl rfl (by decide) rfl rfl ?_
          refine X.callv 59 [] [zl 100] [(0, zr 0 9)] i166_56 rfl (by decide) rfl rfl (by omega) rfl rfl (by decide) rfl t48 (Nat.le_of_ble_eq_true rfl) (Nat.le_of_ble_eq_true rfl) rfl ?_
          refine X.iconst 1 i48_0 rfl rfl (by decide) ?_
          refine X.aload_n 2 i48_1 rfl rfl rfl ?_
          refine X.getR 5 i48_2 rfl rfl (by decide) rfl rfl ?_
          refine X.iconst 6 i48_5 rfl rfl (by decide) ?_
          refine X.iald 7 i48_6 rfl rfl (by decide) rfl (by omega) ?_
          have h512 := r10_0 hJ 0 (i := 1) (by omega)
          refine X.maxI 10 i48_7 rfl rfl (by omega) (Nat.le_of_ble_eq_true rfl) ?_
          refine X.reti i48_10 rfl t48 ?_
          show X (EE s) d 166 59 [(0, zr 4 40), (1, zi a1), (2, zi a2), (3, zl v511)] [zi (max 1 (m 0 10 1)), zl 100] m _
          refine X.i2l 60 i166_59 rfl rfl ?_
          refine X.lmul 61 i166_60 rfl rfl (by omega) ?_
          refine X.lstore 63 [(0, zr 4 40), (1, zi a1), (2, zi a2), (3, zl v511), (5, zl (100 * (max 1 (m 0 10 1))))] i166_61 rfl rfl rfl ?_
          refine X.lload_n 64 i166_63 rfl rfl rfl ?_
          refine X.lload 66 i166_64 rfl rfl rfl ?_
          refine X.calls 69 [zl v511, zl (100 * (max 1 (m 0 10 1)))] [] [(0, zl v511), (2, zl (100 * (max 1 (m 0 10 1))))] i166_66 (by decide) rfl rfl (by omega) rfl rfl t169 (Nat.le_of_ble_eq_true rfl) (Nat.le_of_ble_eq_true rfl) rfl ?_
          refine c169_1 (B := B)  v511 (100 * (max 1 (m 0 10 1))) (by omega) (hJ.up (by omega)) (by omega) (by omega) (fun v515 hv515 hFv515 => ?_)
          show X (EE s) d 166 69 [(0, zr 4 40), (1, zi a1), (2, zi a2), (3, zl v511), (5, zl (100 * (max 1 (m 0 10 1))))] [zl v515] m _
          refine X.lstore 71 [(0, zr 4 40), (1, zi a1), (2, zi a2), (3, zl v511), (5, zl (100 * (max 1 (m 0 10 1)))), (7, zl v515)] i166_69 rfl rfl rfl ?_
          refine X.iload_n 72 i166_71 rfl rfl rfl ?_
          have hK520 : ∀ (v : Int) , (True) → (if a2 = 0 then
              (v511)
              else
              ((100 * (max 1 (m 0 10 1))))) = v → X (EE s) d 166 81 [(7, zl v515)] [zl v] m Q := by
            intro v517 hv517 hT521
            refine X.lload 83 i166_81 rfl rfl rfl ?_
            refine X.ldivW 84 i166_83 rfl rfl (by omega) (fun z522 ez522 hz522 => ?_)
            refine X.retl i166_84 rfl t166 ?_
            exact hQ z522 (by first | trivial | omega) (Eq.trans (if_neg h501) (Eq.trans (if_neg h504) (Eq.trans (if_neg h507) (Eq.trans (if_pos h508) (Eq.trans (zn_eq hFv511.symm) (Eq.trans (zn_eq hFv515.symm) (Eq.trans (zn_eq hT521.symm) (Eq.trans (zn_eq ez522) rfl)))))))) 
          refine X.ifne 79 75 i166_72 rfl rfl rfl (fun h516 => ?_) (fun h516 => ?_)
          · refine X.cut [(5, zl (100 * (max 1 (m 0 10 1)))), (7, zl v515)] i166_79 rfl ?_
            refine X.lload 81 i166_79 rfl rfl rfl ?_
            refine X.cut [(7, zl v515)] i166_81 rfl ?_
            exact hK520 (100 * (max 1 (m 0 10 1))) (by first | trivial | omega) (Eq.trans (if_neg h516) rfl)
          · refine X.lload_n 76 i166_75 rfl rfl rfl ?_
            refine X.goto 81 i166_76 rfl rfl ?_
            refine X.cut [(7, zl v515)] i166_81 rfl ?_
            exact hK520 v511 (by first | trivial | omega) (Eq.trans (if_pos h516) rfl)
        · refine X.cut [] i166_23 rfl ?_
          refine X.ldc2 26 i166_23 rfl rfl (by decide) ?_
          refine X.retl i166_26 rfl t166 ?_
          exact hQ (-1) (by first | trivial | omega) (Eq.trans (if_neg h501) (Eq.trans (if_neg h504) (Eq.trans (if_neg h507) (Eq.trans (if_neg h508) rfl)))) 
noncomputable def fl293_34_1_b (self : Int → Int → Int → Int) (k107 : Int → Int → Int) (y1 y2 y3 : Int) (m : zM) (y4 y6 y8 : Int) : Int :=
  if 4 ≤ y8 then
  (k107 y4 y6)
  else
  (zn (f288_1 y1 0 y8 m) fun v531 =>
  zn (w64 (v531 * (m 4 45 (28 + y8)))) fun z533 =>
  zn (w64 (y4 + z533)) fun z534 =>
  zn (if (m 4 45 ((y3 + 36) + y8)) ≤ y6 then
  (y6)
  else
  ((m 4 45 ((y3 + 36) + y8)))) fun v537 =>
  self z534 v537 (y8 + 1))
noncomputable def fl293_34_1 (k107 : Int → Int → Int) (y1 y2 y3 : Int) (m : zM) : Nat → Int → Int → Int → Int
  | 0 => fun y4 y6 y8 => 0
  | n + 1 => fl293_34_1_b (fl293_34_1 k107 y1 y2 y3 m n) k107 y1 y2 y3 m
theorem l293_34_1 {s : Nat × (Nat → Int32)} {S : zS} {m0 : zM} {m : zM} {B : Int} {d : Nat} {Q : Option zV → zM → Prop} {R0 : Int} {k107 : Int → Int → Int} (y1 y2 y3 : Int) (hd : 15 ≤ d) (hJ : J S m0 B m) (hB9 : B ≤ 1000000000) (hy1 : (-2147483648) ≤ y1 ∧ y1 ≤ 2147483647) (hy2 : 0 ≤ y2 ∧ y2 ≤ 1) (hy3 : 0 ≤ y3 ∧ y3 ≤ 1442)
    (K107 : ∀ (x4 x6 : Int) , (True) → (0 ≤ x6) → R0 = k107 x4 x6 → X (EE s) d 293 107 [(0, zr 4 44), (1, zi y1), (2, zi y2), (4, zl x4), (6, zl x6)] [] m Q) :
    ∀ (n : Nat) (y4 y6 y8 : Int) , (0 ≤ y6) → (0 ≤ y8 ∧ y8 ≤ 4) → 4 - y8 < (n : Int) → R0 = fl293_34_1 k107 y1 y2 y3 m n y4 y6 y8 → X (EE s) d 293 34 [(0, zr 4 44), (1, zi y1), (2, zi y2), (3, zi y3), (4, zl y4), (6, zl y6), (8, zi y8)] [] m Q := by
  intro n
  induction n with
  | zero =>
    intro y4 y6 y8 hy6 hy8 hn hR
    exfalso
    omega
  | succ n ih =>
    intro y4 y6 y8 hy6 hy8 hn hR
    replace hR : R0 = fl293_34_1_b (fl293_34_1 k107 y1 y2 y3 m n) k107 y1 y2 y3 m y4 y6 y8 := hR
    refine X.iload 36 i293_34 rfl rfl rfl ?_
    refine X.iconst 37 i293_36 rfl rfl (by decide) ?_
    refine X.icmpge 107 40 i293_37 rfl rfl rfl (fun h528 => ?_) (fun h528 => ?_)
    · refine X.cut [(0, zr 4 44), (1, zi y1), (2, zi y2), (4, zl y4), (6, zl y6)] i293_107 rfl ?_
      exact K107 y4 y6 (by first | trivial | omega) (by first | trivial | omega) (Eq.trans hR (Eq.trans (if_pos h528) rfl))
    · refine X.lload 42 i293_40 rfl rfl rfl ?_
      refine X.aload_n 43 i293_42 rfl rfl rfl ?_
      refine X.iload_n 44 i293_43 rfl rfl rfl ?_
      refine X.iconst 45 i293_44 rfl rfl (by decide) ?_
      refine X.iload 47 i293_45 rfl rfl rfl ?_
      refine X.callv 50 [zi y1, zi 0, zi y8] [zl y4] [(0, zr 4 44), (1, zi y1), (2, zi 0), (3, zi y8)] i293_47 rfl (by decide) rfl rfl (by omega) rfl rfl (by decide) rfl t288 (Nat.le_of_ble_eq_true rfl) (Nat.le_of_ble_eq_true rfl) rfl ?_
      refine c288_1 (B := B)  y1 0 y8 (by omega) (hJ.up (by omega)) (by omega) (by omega) (by omega) (by omega) (fun v531 hv531 hFv531 => ?_)
      show X (EE s) d 293 50 [(0, zr 4 44), (1, zi y1), (2, zi y2), (3, zi y3), (4, zl y4), (6, zl y6), (8, zi y8)] [zl v531, zl y4] m _
      refine X.aload_n 51 i293_50 rfl rfl rfl ?_
      refine X.getF 54 i293_51 rfl rfl (by decide) rfl rfl ?_
      refine X.bipush 56 i293_54 rfl rfl (by decide) ?_
      refine X.iload 58 i293_56 rfl rfl rfl ?_
      refine X.iadd 59 i293_58 rfl rfl (by omega) ?_
      refine X.lald 60 i293_59 rfl rfl (by decide) rfl (by omega) ?_
      have h532 := r45_28 hJ 4 (i := (28 + y8)) (by omega)
      refine X.lmulW 61 i293_60 rfl rfl (fun z533 ez533 hz533 => ?_)
      refine X.laddW 62 i293_61 rfl rfl (fun z534 ez534 hz534 => ?_)
      refine X.lstore 64 [(0, zr 4 44), (1, zi y1), (2, zi y2), (3, zi y3), (4, zl z534), (6, zl y6), (8, zi y8)] i293_62 rfl rfl rfl ?_
      refine X.aload_n 65 i293_64 rfl rfl rfl ?_
      refine X.getF 68 i293_65 rfl rfl (by decide) rfl rfl ?_
      refine X.iload_n 69 i293_68 rfl rfl rfl ?_
      refine X.bipush 71 i293_69 rfl rfl (by decide) ?_
      refine X.iadd 72 i293_71 rfl rfl (by omega) ?_
      refine X.iload 74 i293_72 rfl rfl rfl ?_
      refine X.iadd 75 i293_74 rfl rfl (by omega) ?_
      refine X.lald 76 i293_75 rfl rfl (by decide) rfl (by omega) ?_
      refine X.lload 78 i293_76 rfl rfl rfl ?_
      refine X.lcmp 79 i293_78 rfl rfl (fun z535 hz535 => ?_)
      have hK540 : ∀ (v : Int) , (0 ≤ v) → (if (m 4 45 ((y3 + 36) + y8)) ≤ y6 then
          (y6)
          else
          ((m 4 45 ((y3 + 36) + y8)))) = v → X (EE s) d 293 99 [(0, zr 4 44), (1, zi y1), (2, zi y2), (3, zi y3), (4, zl z534), (8, zi y8)] [zl v] m Q := by
        intro v537 hv537 hT541
        refine X.lstore 101 [(0, zr 4 44), (1, zi y1), (2, zi y2), (3, zi y3), (4, zl z534), (6, zl v537), (8, zi y8)] i293_99 rfl rfl rfl ?_
        refine X.iinc 104 [(0, zr 4 44), (1, zi y1), (2, zi y2), (3, zi y3), (4, zl z534), (6, zl v537), (8, zi (y8 + 1))] i293_101 rfl rfl rfl (by omega) rfl ?_
        refine X.goto 34 i293_104 rfl rfl ?_
        exact ih z534 v537 (y8 + 1) (by omega) (by omega) (by omega) (Eq.trans hR (Eq.trans (if_neg h528) (Eq.trans (zn_eq hFv531.symm) (Eq.trans (zn_eq ez533) (Eq.trans (zn_eq ez534) (Eq.trans (zn_eq hT541.symm) rfl))))))
      refine X.ifle 97 82 i293_79 rfl rfl rfl (fun h536 => ?_) (fun h536 => ?_)
      · have h536c : (m 4 45 ((y3 + 36) + y8)) ≤ y6 := by omega
        clear h536 hz535
        refine X.lload 99 i293_97 rfl rfl rfl ?_
        refine X.cut [(0, zr 4 44), (1, zi y1), (2, zi y2), (3, zi y3), (4, zl z534), (8, zi y8)] i293_99 rfl ?_
        exact hK540 y6 (by first | trivial | omega) (Eq.trans (if_pos h536c) rfl)
      · have h536c : ¬ (m 4 45 ((y3 + 36) + y8)) ≤ y6 := by omega
        clear h536 hz535
        refine X.aload_n 83 i293_82 rfl rfl rfl ?_
        refine X.getF 86 i293_83 rfl rfl (by decide) rfl rfl ?_
        refine X.iload_n 87 i293_86 rfl rfl rfl ?_
        refine X.bipush 89 i293_87 rfl rfl (by decide) ?_
        refine X.iadd 90 i293_89 rfl rfl (by omega) ?_
        refine X.iload 92 i293_90 rfl rfl rfl ?_
        refine X.iadd 93 i293_92 rfl rfl (by omega) ?_
        refine X.lald 94 i293_93 rfl rfl (by decide) rfl (by omega) ?_
        refine X.goto 99 i293_94 rfl rfl ?_
        refine X.cut [(0, zr 4 44), (1, zi y1), (2, zi y2), (3, zi y3), (4, zl z534), (8, zi y8)] i293_99 rfl ?_
        exact hK540 (m 4 45 ((y3 + 36) + y8)) (by first | trivial | omega) (Eq.trans (if_neg h536c) rfl)
-- WorkMeterModel.money
noncomputable def f293_1 (a1 a2 : Int) (m : zM) : Int :=
  zn (f289_1 a1 m) fun v503 =>
  if v503 = (-1) then
  ((-1))
  else
  (if a2 < 0 then
  ((-1))
  else
  (if a2 ≤ 1 then
  (fl293_34_1 (fun y512 y513 =>
  zn (f288_1 a1 2 (-1) m) fun v520 =>
  zn (f288_1 a1 5 (-1) m) fun v523 =>
  zn (w64 (v520 + v523)) fun z524 =>
  zn (w64 (100 * z524)) fun z525 =>
  zn (f288_1 a1 0 (-1) m) fun v528 =>
  zn (w64 (v528 * (m 4 45 1612))) fun z530 =>
  zn (w64 (z525 - z530)) fun z531 =>
  zn (w64 (y513 * (m 4 45 1611))) fun z533 =>
  zn (w64 (y512 + z533)) fun z534 =>
  zn (w64 (100 * z534)) fun z535 =>
  zn (if z531 ≤ 0 then
  (0)
  else
  (z531)) fun v538 =>
  zn (w64 (v538 * (m 4 45 1613))) fun z544 =>
  zn (w64 (z535 + z544)) fun z545 =>
  zn (fdiv (100 * (m 4 45 5)) z545 m) fun v549 =>
  zn (if a2 = 0 then
  (z545)
  else
  ((100 * (m 4 45 5)))) fun v551 =>
  zn (w64 ((v551).tdiv v549)) fun z556 =>
  z556) a1 a2 v503 m (zfu 5) 0 0 0)
  else
  ((-1))))
-- WorkMeterModel.money
theorem c293_1 {s : Nat × (Nat → Int32)} {S : zS} {m0 m : zM} {B : Int} {d : Nat} {Q : Option zV → zM → Prop} (a1 a2 : Int) (hd : 132 ≤ d) (hJ : J S m0 B m) (hB : B + 0 ≤ 1000000000) (ha1 : (-2147483648) ≤ a1 ∧ a1 ≤ 2147483647) (ha2 : (-2147483648) ≤ a2 ∧ a2 ≤ 2147483647) (hQ : ∀ (v : Int), (True) → f293_1 a1 a2 m = v → Q (some (zl v)) m) : X (EE s) d 293 0 [(0, zr 4 44), (1, zi a1), (2, zi a2)] [] m Q := by
  refine X.aload_n 1 i293_0 rfl rfl rfl ?_
  refine X.iload_n 2 i293_1 rfl rfl rfl ?_
  refine X.callv 5 [zi a1] [] [(0, zr 4 44), (1, zi a1)] i293_2 rfl (by decide) rfl rfl (by omega) rfl rfl (by decide) rfl t289 (Nat.le_of_ble_eq_true rfl) (Nat.le_of_ble_eq_true rfl) rfl ?_
  refine c289_1 (B := B)  a1 (by omega) (hJ.up (by omega)) (by omega) (by omega) (fun v503 hv503 hFv503 hqv503_0 => ?_)
  show X (EE s) d 293 5 [(0, zr 4 44), (1, zi a1), (2, zi a2)] [zi v503] m _
  refine X.istore_n 6 [(0, zr 4 44), (1, zi a1), (2, zi a2), (3, zi v503)] i293_5 rfl rfl rfl ?_
  refine X.iload_n 7 i293_6 rfl rfl rfl ?_
  refine X.iconst 8 i293_7 rfl rfl (by decide) ?_
  refine X.icmpeq 21 11 i293_8 rfl rfl rfl (fun h504 => ?_) (fun h504 => ?_)
  · refine X.cut [] i293_21 rfl ?_
    refine X.ldc2 24 i293_21 rfl rfl (by decide) ?_
    refine X.retl i293_24 rfl t293 ?_
    exact hQ (-1) (by first | trivial | omega) (Eq.trans (zn_eq hFv503.symm) (Eq.trans (if_pos h504) rfl)) 
  · refine X.iload_n 12 i293_11 rfl rfl rfl ?_
    refine X.i2l 13 i293_12 rfl rfl ?_
    refine X.lconst (y := 0) 14 i293_13 rfl rfl rfl ?_
    refine X.lconst (y := 1) 15 i293_14 rfl rfl rfl ?_
    refine X.calls 18 [zl a2, zl 0, zl 1] [] [(0, zl a2), (2, zl 0), (4, zl 1)] i293_15 (by decide) rfl rfl (by omega) rfl rfl t204 (Nat.le_of_ble_eq_true rfl) (Nat.le_of_ble_eq_true rfl) rfl ?_
    refine X.lload_n 1 i204_0 rfl rfl rfl ?_
    refine X.lload_n 2 i204_1 rfl rfl rfl ?_
    refine X.lcmp 3 i204_2 rfl rfl (fun z505 hz505 => ?_)
    refine X.iflt 17 6 i204_3 rfl rfl rfl (fun h506 => ?_) (fun h506 => ?_)
    · have h506c : a2 < 0 := by omega
      clear h506 hz505
      refine X.cut [] i204_17 rfl ?_
      refine X.iconst 18 i204_17 rfl rfl (by decide) ?_
      refine X.retz i204_18 rfl t204 (by omega) ?_
      show X (EE s) d 293 18 [(0, zr 4 44), (1, zi a1), (2, zi a2), (3, zi v503)] [zi 0] m _
      refine X.ifne 25 21 i293_18 rfl rfl rfl (fun h507 => (by exfalso; omega)) (fun h507 => ?_)
      refine X.cut [] i293_21 rfl ?_
      refine X.ldc2 24 i293_21 rfl rfl (by decide) ?_
      refine X.retl i293_24 rfl t293 ?_
      exact hQ (-1) (by first | trivial | omega) (Eq.trans (zn_eq hFv503.symm) (Eq.trans (if_neg h504) (Eq.trans (if_pos h506c) rfl))) 
    · have h506c : ¬ a2 < 0 := by omega
      clear h506 hz505
      refine X.lload_n 7 i204_6 rfl rfl rfl ?_
      refine X.lload 9 i204_7 rfl rfl rfl ?_
      refine X.lcmp 10 i204_9 rfl rfl (fun z508 hz508 => ?_)
      refine X.ifgt 17 13 i204_10 rfl rfl rfl (fun h509 => ?_) (fun h509 => ?_)
      · have h509c : ¬ a2 ≤ 1 := by omega
        clear h509 hz508
        refine X.cut [] i204_17 rfl ?_
        refine X.iconst 18 i204_17 rfl rfl (by decide) ?_
        refine X.retz i204_18 rfl t204 (by omega) ?_
        show X (EE s) d 293 18 [(0, zr 4 44), (1, zi a1), (2, zi a2), (3, zi v503)] [zi 0] m _
        refine X.ifne 25 21 i293_18 rfl rfl rfl (fun h510 => (by exfalso; omega)) (fun h510 => ?_)
        refine X.cut [] i293_21 rfl ?_
        refine X.ldc2 24 i293_21 rfl rfl (by decide) ?_
        refine X.retl i293_24 rfl t293 ?_
        exact hQ (-1) (by first | trivial | omega) (Eq.trans (zn_eq hFv503.symm) (Eq.trans (if_neg h504) (Eq.trans (if_neg h506c) (Eq.trans (if_neg h509c) rfl)))) 
      · have h509c : a2 ≤ 1 := by omega
        clear h509 hz508
        refine X.iconst 14 i204_13 rfl rfl (by decide) ?_
        refine X.goto 18 i204_14 rfl rfl ?_
        refine X.cut [] i204_18 rfl ?_
        refine X.retz i204_18 rfl t204 (by omega) ?_
        show X (EE s) d 293 18 [(0, zr 4 44), (1, zi a1), (2, zi a2), (3, zi v503)] [zi 1] m _
        refine X.ifne 25 21 i293_18 rfl rfl rfl (fun h511 => ?_) (fun h511 => (by exfalso; omega))
        refine X.lconst (y := 0) 26 i293_25 rfl rfl rfl ?_
        refine X.lstore 28 [(0, zr 4 44), (1, zi a1), (2, zi a2), (3, zi v503), (4, zl 0)] i293_26 rfl rfl rfl ?_
        refine X.lconst (y := 0) 29 i293_28 rfl rfl rfl ?_
        refine X.lstore 31 [(0, zr 4 44), (1, zi a1), (2, zi a2), (3, zi v503), (4, zl 0), (6, zl 0)] i293_29 rfl rfl rfl ?_
        refine X.iconst 32 i293_31 rfl rfl (by decide) ?_
        refine X.istore 34 [(0, zr 4 44), (1, zi a1), (2, zi a2), (3, zi v503), (4, zl 0), (6, zl 0), (8, zi 0)] i293_32 rfl rfl rfl ?_
        have hz5 := zfu_eq 5
        refine l293_34_1 (s := s) (m := m) (B := B) (d := d) (R0 := (f293_1 a1 a2 m))  a1 a2 v503  (by omega) (hJ.up (by omega)) (by omega) (by omega) (by omega) (by omega) (fun y512 y513 hby512 hby513 hR517 => ?_) (zfu 5) 0 0 0 (by omega) (by omega) (by omega) (Eq.trans (zn_eq hFv503.symm) (Eq.trans (if_neg h504) (Eq.trans (if_neg h506c) (Eq.trans (if_pos h509c) rfl))))
        refine X.ldc2 110 i293_107 rfl rfl (by decide) ?_
        refine X.aload_n 111 i293_110 rfl rfl rfl ?_
        refine X.iload_n 112 i293_111 rfl rfl rfl ?_
        refine X.iconst 113 i293_112 rfl rfl (by decide) ?_
        refine X.iconst 114 i293_113 rfl rfl (by decide) ?_
        refine X.callv 117 [zi a1, zi 2, zi (-1)] [zl 100] [(0, zr 4 44), (1, zi a1), (2, zi 2), (3, zi (-1))] i293_114 rfl (by decide) rfl rfl (by omega) rfl rfl (by decide) rfl t288 (Nat.le_of_ble_eq_true rfl) (Nat.le_of_ble_eq_true rfl) rfl ?_
        refine c288_1 (B := B)  a1 2 (-1) (by omega) (hJ.up (by omega)) (by omega) (by omega) (by omega) (by omega) (fun v520 hv520 hFv520 => ?_)
        show X (EE s) d 293 117 [(0, zr 4 44), (1, zi a1), (2, zi a2), (4, zl y512), (6, zl y513)] [zl v520, zl 100] m _
        refine X.aload_n 118 i293_117 rfl rfl rfl ?_
        refine X.iload_n 119 i293_118 rfl rfl rfl ?_
        refine X.iconst 120 i293_119 rfl rfl (by decide) ?_
        refine X.iconst 121 i293_120 rfl rfl (by decide) ?_
        refine X.callv 124 [zi a1, zi 5, zi (-1)] [zl v520, zl 100] [(0, zr 4 44), (1, zi a1), (2, zi 5), (3, zi (-1))] i293_121 rfl (by decide) rfl rfl (by omega) rfl rfl (by decide) rfl t288 (Nat.le_of_ble_eq_true rfl) (Nat.le_of_ble_eq_true rfl) rfl ?_
        refine c288_1 (B := B)  a1 5 (-1) (by omega) (hJ.up (by omega)) (by omega) (by omega) (by omega) (by omega) (fun v523 hv523 hFv523 => ?_)
        show X (EE s) d 293 124 [(0, zr 4 44), (1, zi a1), (2, zi a2), (4, zl y512), (6, zl y513)] [zl v523, zl v520, zl 100] m _
        refine X.laddW 125 i293_124 rfl rfl (fun z524 ez524 hz524 => ?_)
        refine X.lmulW 126 i293_125 rfl rfl (fun z525 ez525 hz525 => ?_)
        refine X.aload_n 127 i293_126 rfl rfl rfl ?_
        refine X.iload_n 128 i293_127 rfl rfl rfl ?_
        refine X.iconst 129 i293_128 rfl rfl (by decide) ?_
        refine X.iconst 130 i293_129 rfl rfl (by decide) ?_
        refine X.callv 133 [zi a1, zi 0, zi (-1)] [zl z525] [(0, zr 4 44), (1, zi a1), (2, zi 0), (3, zi (-1))] i293_130 rfl (by decide) rfl rfl (by omega) rfl rfl (by decide) rfl t288 (Nat.le_of_ble_eq_true rfl) (Nat.le_of_ble_eq_true rfl) rfl ?_
        refine c288_1 (B := B)  a1 0 (-1) (by omega) (hJ.up (by omega)) (by omega) (by omega) (by omega) (by omega) (fun v528 hv528 hFv528 => ?_)
        show X (EE s) d 293 133 [(0, zr 4 44), (1, zi a1), (2, zi a2), (4, zl y512), (6, zl y513)] [zl v528, zl z525] m _
        refine X.aload_n 134 i293_133 rfl rfl rfl ?_
        refine X.getF 137 i293_134 rfl rfl (by decide) rfl rfl ?_
        refine X.sipush 140 i293_137 rfl rfl (by decide) ?_
        refine X.lald 141 i293_140 rfl rfl (by decide) rfl (by omega) ?_
        have h529 := r45_1612 hJ 4
        refine X.lmulW 142 i293_141 rfl rfl (fun z530 ez530 hz530 => ?_)
        refine X.lsubW 143 i293_142 rfl rfl (fun z531 ez531 hz531 => ?_)
        refine X.lstore 145 [(0, zr 4 44), (1, zi a1), (2, zi a2), (4, zl y512), (6, zl y513), (8, zl z531)] i293_143 rfl rfl rfl ?_
        refine X.ldc2 148 i293_145 rfl rfl (by decide) ?_
        refine X.lload 150 i293_148 rfl rfl rfl ?_
        refine X.lload 152 i293_150 rfl rfl rfl ?_
        refine X.aload_n 153 i293_152 rfl rfl rfl ?_
        refine X.getF 156 i293_153 rfl rfl (by decide) rfl rfl ?_
        refine X.sipush 159 i293_156 rfl rfl (by decide) ?_
        refine X.lald 160 i293_159 rfl rfl (by decide) rfl (by omega) ?_
        have h532 := r45_1611 hJ 4
        refine X.lmulW 161 i293_160 rfl rfl (fun z533 ez533 hz533 => ?_)
        refine X.laddW 162 i293_161 rfl rfl (fun z534 ez534 hz534 => ?_)
        refine X.lmulW 163 i293_162 rfl rfl (fun z535 ez535 hz535 => ?_)
        refine X.lload 165 i293_163 rfl rfl rfl ?_
        refine X.lconst (y := 0) 166 i293_165 rfl rfl rfl ?_
        refine X.lcmp 167 i293_166 rfl rfl (fun z536 hz536 => ?_)
        have hK541 : ∀ (v : Int) , (0 ≤ v) → (if z531 ≤ 0 then
            (0)
            else
            (z531)) = v → X (EE s) d 293 176 [(0, zr 4 44), (2, zi a2)] [zl v, zl z535] m Q := by
          intro v538 hv538 hT542
          refine X.aload_n 177 i293_176 rfl rfl rfl ?_
          refine X.getF 180 i293_177 rfl rfl (by decide) rfl rfl ?_
          refine X.sipush 183 i293_180 rfl rfl (by decide) ?_
          refine X.lald 184 i293_183 rfl rfl (by decide) rfl (by omega) ?_
          have h543 := r45_1613 hJ 4
          refine X.lmulW 185 i293_184 rfl rfl (fun z544 ez544 hz544 => ?_)
          refine X.laddW 186 i293_185 rfl rfl (fun z545 ez545 hz545 => ?_)
          refine X.lstore 188 [(0, zr 4 44), (2, zi a2), (10, zl z545)] i293_186 rfl rfl rfl ?_
          refine X.ldc2 191 i293_188 rfl rfl (by decide) ?_
          refine X.aload_n 192 i293_191 rfl rfl rfl ?_
          refine X.getF 195 i293_192 rfl rfl (by decide) rfl rfl ?_
          refine X.iconst 196 i293_195 rfl rfl (by decide) ?_
          refine X.lald 197 i293_196 rfl rfl (by decide) rfl (by omega) ?_
          have h546 := r45_5 hJ 4
          refine X.lmul 198 i293_197 rfl rfl (by omega) ?_
          refine X.lstore 200 [(0, zr 4 44), (2, zi a2), (10, zl z545), (12, zl (100 * (m 4 45 5)))] i293_198 rfl rfl rfl ?_
          refine X.lload 202 i293_200 rfl rfl rfl ?_
          refine X.lload 204 i293_202 rfl rfl rfl ?_
          refine X.calls 207 [zl (100 * (m 4 45 5)), zl z545] [] [(0, zl (100 * (m 4 45 5))), (2, zl z545)] i293_204 (by decide) rfl rfl (by omega) rfl rfl t294 (Nat.le_of_ble_eq_true rfl) (Nat.le_of_ble_eq_true rfl) rfl ?_
          refine c_dv (B := B)  (100 * (m 4 45 5)) z545 (by omega) (hJ.up (by omega)) (by omega) (by omega) (by omega) (fun v549 hv549 hFv549 hqv549_0 => ?_)
          show X (EE s) d 293 207 [(0, zr 4 44), (2, zi a2), (10, zl z545), (12, zl (100 * (m 4 45 5)))] [zl v549] m _
          refine X.lstore 209 [(0, zr 4 44), (2, zi a2), (10, zl z545), (12, zl (100 * (m 4 45 5))), (14, zl v549)] i293_207 rfl rfl rfl ?_
          refine X.iload_n 210 i293_209 rfl rfl rfl ?_
          have hK554 : ∀ (v : Int) , (True) → (if a2 = 0 then
              (z545)
              else
              ((100 * (m 4 45 5)))) = v → X (EE s) d 293 220 [(14, zl v549)] [zl v] m Q := by
            intro v551 hv551 hT555
            refine X.lload 222 i293_220 rfl rfl rfl ?_
            refine X.ldivW 223 i293_222 rfl rfl (by omega) (fun z556 ez556 hz556 => ?_)
            refine X.retl i293_223 rfl t293 ?_
            exact hQ z556 (by first | trivial | omega) (Eq.trans hR517 (Eq.trans (zn_eq hFv520.symm) (Eq.trans (zn_eq hFv523.symm) (Eq.trans (zn_eq ez524) (Eq.trans (zn_eq ez525) (Eq.trans (zn_eq hFv528.symm) (Eq.trans (zn_eq ez530) (Eq.trans (zn_eq ez531) (Eq.trans (zn_eq ez533) (Eq.trans (zn_eq ez534) (Eq.trans (zn_eq ez535) (Eq.trans (zn_eq hT542.symm) (Eq.trans (zn_eq ez544) (Eq.trans (zn_eq ez545) (Eq.trans (zn_eq hFv549.symm) (Eq.trans (zn_eq hT555.symm) (Eq.trans (zn_eq ez556) rfl))))))))))))))))) 
          refine X.ifne 218 213 i293_210 rfl rfl rfl (fun h550 => ?_) (fun h550 => ?_)
          · refine X.cut [(12, zl (100 * (m 4 45 5))), (14, zl v549)] i293_218 rfl ?_
            refine X.lload 220 i293_218 rfl rfl rfl ?_
            refine X.cut [(14, zl v549)] i293_220 rfl ?_
            exact hK554 (100 * (m 4 45 5)) (by first | trivial | omega) (Eq.trans (if_neg h550) rfl)
          · refine X.lload 215 i293_213 rfl rfl rfl ?_
            refine X.goto 220 i293_215 rfl rfl ?_
            refine X.cut [(14, zl v549)] i293_220 rfl ?_
            exact hK554 z545 (by first | trivial | omega) (Eq.trans (if_pos h550) rfl)
        refine X.ifle 175 170 i293_167 rfl rfl rfl (fun h537 => ?_) (fun h537 => ?_)
        · have h537c : z531 ≤ 0 := by omega
          clear h537 hz536
          refine X.cut [(0, zr 4 44), (2, zi a2)] i293_175 rfl ?_
          refine X.lconst (y := 0) 176 i293_175 rfl rfl rfl ?_
          exact hK541 0 (by first | trivial | omega) (Eq.trans (if_pos h537c) rfl)
        · have h537c : ¬ z531 ≤ 0 := by omega
          clear h537 hz536
          refine X.lload 172 i293_170 rfl rfl rfl ?_
          refine X.goto 176 i293_172 rfl rfl ?_
          refine X.cut [(0, zr 4 44), (2, zi a2)] i293_176 rfl ?_
          exact hK541 z531 (by first | trivial | omega) (Eq.trans (if_neg h537c) rfl)
-- WorkMeter$Wave.copyFrom
noncomputable def f173_1 (g0 g1 : Nat) (m : zM) : zM :=
  zs (z_cpy m g0 20 g1 20 0 0 48) fun m501 =>
  zs (z_cpy m501 g0 21 g1 21 0 0 48) fun m503 =>
  zs (z_cpy m503 g0 22 g1 22 0 0 16) fun m505 =>
  zs (z_upd m505 g0 19 3 (m505 g1 19 3)) fun m508 =>
  zs (z_upd m508 g0 19 4 (m508 g1 19 4)) fun m511 =>
  zs (z_upd m511 g0 19 5 (m511 g1 19 5)) fun m514 =>
  zs (z_upd m514 g0 19 6 (m514 g1 19 6)) fun m516 =>
  m516
-- WorkMeter$Wave.copyFrom
theorem c173_1 {s : Nat × (Nat → Int32)} {S : zS} {m0 m : zM} {B : Int} {d : Nat} {Q : Option zV → zM → Prop} (g0 g1 : Nat) (hd : 13 ≤ d) (hJ : J S m0 B m) (hB : B + 0 ≤ 1000000000) (hf2 : ¬ S.1 2) (hgg0 : ¬ S.2.1 g0) (hQ : ∀ m', f173_1 g0 g1 m = m' → J S m0 (B) m' → Q none m') : X (EE s) d 173 0 [(0, zr g0 19), (1, zr g1 19)] [] m Q := by
  refine X.aload_n 1 i173_0 rfl rfl rfl ?_
  refine X.getR 4 i173_1 rfl rfl (by decide) rfl rfl ?_
  refine X.iconst 5 i173_4 rfl rfl (by decide) ?_
  refine X.aload_n 6 i173_5 rfl rfl rfl ?_
  refine X.getR 9 i173_6 rfl rfl (by decide) rfl rfl ?_
  refine X.iconst 10 i173_9 rfl rfl (by decide) ?_
  refine X.aload_n 11 i173_10 rfl rfl rfl ?_
  refine X.getR 14 i173_11 rfl rfl (by decide) rfl rfl ?_
  refine X.alen 15 i173_14 rfl rfl (by decide) rfl ?_
  show X (EE s) d 173 15 [(0, zr g0 19), (1, zr g1 19)] [zi 48, zi 0, zr g0 20, zi 0, zr g1 20] m _
  refine X.cpI' 18 i173_15 rfl rfl (by omega) (Nat.le_of_ble_eq_true rfl) (by decide) (by decide) rfl rfl (by omega) (fun m501 hm501 => ?_)
  have hJ502 := J.cpyS hJ hm501 rfl hf2 hgg0
  refine X.aload_n 19 i173_18 rfl rfl rfl ?_
  refine X.getR 22 i173_19 rfl rfl (by decide) rfl rfl ?_
  refine X.iconst 23 i173_22 rfl rfl (by decide) ?_
  refine X.aload_n 24 i173_23 rfl rfl rfl ?_
  refine X.getR 27 i173_24 rfl rfl (by decide) rfl rfl ?_
  refine X.iconst 28 i173_27 rfl rfl (by decide) ?_
  refine X.aload_n 29 i173_28 rfl rfl rfl ?_
  refine X.getR 32 i173_29 rfl rfl (by decide) rfl rfl ?_
  refine X.alen 33 i173_32 rfl rfl (by decide) rfl ?_
  show X (EE s) d 173 33 [(0, zr g0 19), (1, zr g1 19)] [zi 48, zi 0, zr g0 21, zi 0, zr g1 21] m501 _
  refine X.cpI' 36 i173_33 rfl rfl (by omega) (Nat.le_of_ble_eq_true rfl) (by decide) (by decide) rfl rfl (by omega) (fun m503 hm503 => ?_)
  have hJ504 := J.cpyS hJ502 hm503 rfl hf2 hgg0
  refine X.aload_n 37 i173_36 rfl rfl rfl ?_
  refine X.getR 40 i173_37 rfl rfl (by decide) rfl rfl ?_
  refine X.iconst 41 i173_40 rfl rfl (by decide) ?_
  refine X.aload_n 42 i173_41 rfl rfl rfl ?_
  refine X.getR 45 i173_42 rfl rfl (by decide) rfl rfl ?_
  refine X.iconst 46 i173_45 rfl rfl (by decide) ?_
  refine X.aload_n 47 i173_46 rfl rfl rfl ?_
  refine X.getR 50 i173_47 rfl rfl (by decide) rfl rfl ?_
  refine X.alen 51 i173_50 rfl rfl (by decide) rfl ?_
  show X (EE s) d 173 51 [(0, zr g0 19), (1, zr g1 19)] [zi 16, zi 0, zr g0 22, zi 0, zr g1 22] m503 _
  refine X.cpL' 54 i173_51 rfl rfl (by omega) (Nat.le_of_ble_eq_true rfl) (by decide) (by decide) rfl rfl (by omega) (fun m505 hm505 => ?_)
  have hJ506 := J.cpyS hJ504 hm505 rfl hf2 hgg0
  refine X.aload_n 55 i173_54 rfl rfl rfl ?_
  refine X.aload_n 56 i173_55 rfl rfl rfl ?_
  refine X.getI 59 3 i173_56 rfl rfl (by decide) rfl rfl rfl ?_
  have h507 := r19_3 hJ506 g1
  refine X.putI' 62 3 i173_59 rfl rfl (by decide) rfl rfl rfl (fun hrm508 m508 hm508 => ?_)
  have hJ509 := w19_3 hJ506 hm508 (by omega) hf2 hgg0
  refine X.aload_n 63 i173_62 rfl rfl rfl ?_
  refine X.aload_n 64 i173_63 rfl rfl rfl ?_
  refine X.getI 67 4 i173_64 rfl rfl (by decide) rfl rfl rfl ?_
  have h510 := r19_4 hJ509 g1
  refine X.putI' 70 4 i173_67 rfl rfl (by decide) rfl rfl rfl (fun hrm511 m511 hm511 => ?_)
  have hJ512 := w19_4 hJ509 hm511 (by omega) hf2 hgg0
  refine X.aload_n 71 i173_70 rfl rfl rfl ?_
  refine X.aload_n 72 i173_71 rfl rfl rfl ?_
  refine X.getI 75 5 i173_72 rfl rfl (by decide) rfl rfl rfl ?_
  have h513 := r19_5 hJ512 g1
  refine X.putI' 78 5 i173_75 rfl rfl (by decide) rfl rfl rfl (fun hrm514 m514 hm514 => ?_)
  have hJ515 := w19_5 hJ512 hm514 (by omega) hf2 hgg0
  have em514 : m514 g0 19 5 = (m511 g1 19 5) := by rw [hm514]; exact z_upd_same _ _ _ _ _
  refine X.aload_n 79 i173_78 rfl rfl rfl ?_
  refine X.aload_n 80 i173_79 rfl rfl rfl ?_
  refine X.getL 83 6 i173_80 rfl rfl (by decide) rfl rfl rfl ?_
  refine X.putL' 86 6 i173_83 rfl rfl (by decide) rfl rfl rfl (fun hrm516 m516 hm516 => ?_)
  have hJ517 := w19_6 hJ515 hm516 hrm516 hf2 hgg0
  refine X.retv i173_86 rfl t173 ?_
  exact hQ  m516  (Eq.trans (zs_eq hm501) (Eq.trans (zs_eq hm503) (Eq.trans (zs_eq hm505) (Eq.trans (zs_eq hm508) (Eq.trans (zs_eq hm511) (Eq.trans (zs_eq hm514) (Eq.trans (zs_eq hm516) rfl))))))) (hJ517.up (by omega)) 
-- WorkMeter$Load.copyFrom
noncomputable def f175_1 (g0 g1 : Nat) (m : zM) : zM :=
  zs (z_cpy m g0 28 g1 28 0 0 384) fun m501 =>
  zs (z_cpy m501 g0 29 g1 29 0 0 4) fun m503 =>
  zs (z_upd m503 g0 27 2 (m503 g1 27 2)) fun m506 =>
  zs (z_upd m506 g0 27 3 (m506 g1 27 3)) fun m508 =>
  zs (z_upd m508 g0 27 4 (m508 g1 27 4)) fun m510 =>
  zs (z_upd m510 g0 27 5 (m510 g1 27 5)) fun m512 =>
  zs (z_upd m512 g0 27 6 (m512 g1 27 6)) fun m515 =>
  zs (z_upd m515 g0 27 7 (m515 g1 27 7)) fun m518 =>
  zs (z_upd m518 g0 27 8 (m518 g1 27 8)) fun m521 =>
  zs (z_upd m521 g0 27 9 (m521 g1 27 9)) fun m524 =>
  m524
-- WorkMeter$Load.copyFrom
theorem c175_1 {s : Nat × (Nat → Int32)} {S : zS} {m0 m : zM} {B : Int} {d : Nat} {Q : Option zV → zM → Prop} (g0 g1 : Nat) (hd : 13 ≤ d) (hJ : J S m0 B m) (hB : B + 1 ≤ 1000000000) (hf7 : ¬ S.1 7) (hgg0 : ¬ S.2.1 g0) (hQ : ∀ m', f175_1 g0 g1 m = m' → J S m0 (B + 1) m' → Q none m') : X (EE s) d 175 0 [(0, zr g0 27), (1, zr g1 27)] [] m Q := by
  refine X.aload_n 1 i175_0 rfl rfl rfl ?_
  refine X.getR 4 i175_1 rfl rfl (by decide) rfl rfl ?_
  refine X.iconst 5 i175_4 rfl rfl (by decide) ?_
  refine X.aload_n 6 i175_5 rfl rfl rfl ?_
  refine X.getR 9 i175_6 rfl rfl (by decide) rfl rfl ?_
  refine X.iconst 10 i175_9 rfl rfl (by decide) ?_
  refine X.aload_n 11 i175_10 rfl rfl rfl ?_
  refine X.getR 14 i175_11 rfl rfl (by decide) rfl rfl ?_
  refine X.alen 15 i175_14 rfl rfl (by decide) rfl ?_
  show X (EE s) d 175 15 [(0, zr g0 27), (1, zr g1 27)] [zi 384, zi 0, zr g0 28, zi 0, zr g1 28] m _
  refine X.cpL' 18 i175_15 rfl rfl (by omega) (Nat.le_of_ble_eq_true rfl) (by decide) (by decide) rfl rfl (by omega) (fun m501 hm501 => ?_)
  have hJ502 := J.cpyS hJ hm501 rfl hf7 hgg0
  refine X.aload_n 19 i175_18 rfl rfl rfl ?_
  refine X.getR 22 i175_19 rfl rfl (by decide) rfl rfl ?_
  refine X.iconst 23 i175_22 rfl rfl (by decide) ?_
  refine X.aload_n 24 i175_23 rfl rfl rfl ?_
  refine X.getR 27 i175_24 rfl rfl (by decide) rfl rfl ?_
  refine X.iconst 28 i175_27 rfl rfl (by decide) ?_
  refine X.iconst 29 i175_28 rfl rfl (by decide) ?_
  refine X.cpL' 32 i175_29 rfl rfl (by omega) (Nat.le_of_ble_eq_true rfl) (by decide) (by decide) rfl rfl (by omega) (fun m503 hm503 => ?_)
  have hJ504 := J.cpyS hJ502 hm503 rfl hf7 hgg0
  refine X.aload_n 33 i175_32 rfl rfl rfl ?_
  refine X.aload_n 34 i175_33 rfl rfl rfl ?_
  refine X.getI 37 2 i175_34 rfl rfl (by decide) rfl rfl rfl ?_
  have h505 := r27_2 hJ504 g1
  refine X.putI' 40 2 i175_37 rfl rfl (by decide) rfl rfl rfl (fun hrm506 m506 hm506 => ?_)
  have hJ507 := w27_2 (hJ504.up (B' := B + 1) (by omega)) hm506 (by omega) hf7 hgg0
  refine X.aload_n 41 i175_40 rfl rfl rfl ?_
  refine X.aload_n 42 i175_41 rfl rfl rfl ?_
  refine X.getL 45 3 i175_42 rfl rfl (by decide) rfl rfl rfl ?_
  refine X.putL' 48 3 i175_45 rfl rfl (by decide) rfl rfl rfl (fun hrm508 m508 hm508 => ?_)
  have hJ509 := w27_3 hJ507 hm508 (by omega) hrm508 hf7 hgg0
  refine X.aload_n 49 i175_48 rfl rfl rfl ?_
  refine X.aload_n 50 i175_49 rfl rfl rfl ?_
  refine X.getL 53 4 i175_50 rfl rfl (by decide) rfl rfl rfl ?_
  refine X.putL' 56 4 i175_53 rfl rfl (by decide) rfl rfl rfl (fun hrm510 m510 hm510 => ?_)
  have hJ511 := w27_3 hJ509 hm510 (by omega) hrm510 hf7 hgg0
  refine X.aload_n 57 i175_56 rfl rfl rfl ?_
  refine X.aload_n 58 i175_57 rfl rfl rfl ?_
  refine X.getL 61 5 i175_58 rfl rfl (by decide) rfl rfl rfl ?_
  refine X.putL' 64 5 i175_61 rfl rfl (by decide) rfl rfl rfl (fun hrm512 m512 hm512 => ?_)
  have hJ513 := w27_3 hJ511 hm512 (by omega) hrm512 hf7 hgg0
  refine X.aload_n 65 i175_64 rfl rfl rfl ?_
  refine X.aload_n 66 i175_65 rfl rfl rfl ?_
  refine X.getIr 69 6 i175_66 rfl rfl (by decide) rfl rfl rfl (fun h514 => ?_)
  refine X.putI' 72 6 i175_69 rfl rfl (by decide) rfl rfl rfl (fun hrm515 m515 hm515 => ?_)
  have hJ516 := w27_3 hJ513 hm515 (by omega) hrm515 hf7 hgg0
  refine X.aload_n 73 i175_72 rfl rfl rfl ?_
  refine X.aload_n 74 i175_73 rfl rfl rfl ?_
  refine X.getIr 77 7 i175_74 rfl rfl (by decide) rfl rfl rfl (fun h517 => ?_)
  refine X.putI' 80 7 i175_77 rfl rfl (by decide) rfl rfl rfl (fun hrm518 m518 hm518 => ?_)
  have hJ519 := w27_3 hJ516 hm518 (by omega) hrm518 hf7 hgg0
  refine X.aload_n 81 i175_80 rfl rfl rfl ?_
  refine X.aload_n 82 i175_81 rfl rfl rfl ?_
  refine X.getIr 85 8 i175_82 rfl rfl (by decide) rfl rfl rfl (fun h520 => ?_)
  refine X.putI' 88 8 i175_85 rfl rfl (by decide) rfl rfl rfl (fun hrm521 m521 hm521 => ?_)
  have hJ522 := w27_3 hJ519 hm521 (by omega) hrm521 hf7 hgg0
  refine X.aload_n 89 i175_88 rfl rfl rfl ?_
  refine X.aload_n 90 i175_89 rfl rfl rfl ?_
  refine X.getI 93 9 i175_90 rfl rfl (by decide) rfl rfl rfl ?_
  have h523 := r27_9 hJ522 g1
  refine X.putI' 96 9 i175_93 rfl rfl (by decide) rfl rfl rfl (fun hrm524 m524 hm524 => ?_)
  have hJ525 := w27_9 hJ522 hm524 (by omega) hf7 hgg0
  refine X.retv i175_96 rfl t175 ?_
  exact hQ  m524  (Eq.trans (zs_eq hm501) (Eq.trans (zs_eq hm503) (Eq.trans (zs_eq hm506) (Eq.trans (zs_eq hm508) (Eq.trans (zs_eq hm510) (Eq.trans (zs_eq hm512) (Eq.trans (zs_eq hm515) (Eq.trans (zs_eq hm518) (Eq.trans (zs_eq hm521) (Eq.trans (zs_eq hm524) rfl)))))))))) (hJ525.up (by omega)) 
-- WorkMeter$Meter.copyFrom
noncomputable def f171_1 (g0 g1 : Nat) (m : zM) : zM :=
  zs (z_cpy m g0 10 g1 10 0 0 13) fun m501 =>
  zs (f111_1 g0 g1 m501) fun m503 =>
  zs (f173_1 g0 g1 m503) fun m506 =>
  zs (z_cpy m506 g0 24 g1 24 0 0 28) fun m509 =>
  zs (z_cpy m509 g0 25 g1 25 0 0 28) fun m511 =>
  zs (z_cpy m511 g0 26 g1 26 0 0 198) fun m513 =>
  zs (z_upd m513 g0 23 3 (m513 g1 23 3)) fun m516 =>
  zs (f175_1 g0 g1 m516) fun m518 =>
  zs (z_cpy m518 g0 31 g1 31 0 0 4) fun m521 =>
  zs (z_cpy m521 g0 32 g1 32 0 0 4) fun m523 =>
  zs (z_upd m523 g0 30 2 (m523 g1 30 2)) fun m525 =>
  zs (z_upd m525 g0 30 3 (m525 g1 30 3)) fun m528 =>
  zs (z_cpy m528 g0 34 g1 34 0 0 5) fun m530 =>
  zs (z_cpy m530 g0 35 g1 35 0 0 5) fun m532 =>
  zs (z_cpy m532 g0 36 g1 36 0 0 5) fun m534 =>
  zs (z_upd m534 g0 33 3 (m534 g1 33 3)) fun m537 =>
  zs (z_cpy m537 g0 38 g1 38 0 0 120) fun m539 =>
  zs (z_upd m539 g0 37 1 (m539 g1 37 1)) fun m542 =>
  zs (z_upd m542 g0 39 0 (m542 g1 39 0)) fun m545 =>
  zs (z_upd m545 g0 39 1 (m545 g1 39 1)) fun m548 =>
  zs (z_upd m548 g0 39 2 (m548 g1 39 2)) fun m551 =>
  zs (z_upd m551 g0 39 3 (m551 g1 39 3)) fun m554 =>
  zs (z_upd m554 g0 39 4 (m554 g1 39 4)) fun m557 =>
  zs (z_upd m557 g0 8 9 (m557 g1 8 9)) fun m560 =>
  zs (z_upd m560 g0 8 10 (m560 g1 8 10)) fun m562 =>
  zs (z_upd m562 g0 8 11 (m562 g1 8 11)) fun m565 =>
  zs (z_upd m565 g0 8 12 (m565 g1 8 12)) fun m568 =>
  zs (z_upd m568 g0 8 13 (m568 g1 8 13)) fun m571 =>
  zs (z_upd m571 g0 8 14 (m571 g1 8 14)) fun m574 =>
  zs (z_upd m574 g0 8 15 (m574 g1 8 15)) fun m577 =>
  m577
-- WorkMeter$Meter.copyFrom
theorem c171_1 {s : Nat × (Nat → Int32)} {S : zS} {m0 m : zM} {B : Int} {d : Nat} {Q : Option zV → zM → Prop} (g0 g1 : Nat) (hd : 14 ≤ d) (hJ : J S m0 B m) (hB : B + 4 ≤ 1000000000) (hf1 : ¬ S.1 1) (hf2 : ¬ S.1 2) (hf3 : ¬ S.1 3) (hf4 : ¬ S.1 4) (hf5 : ¬ S.1 5) (hf6 : ¬ S.1 6) (hf7 : ¬ S.1 7) (hf8 : ¬ S.1 8) (hf9 : ¬ S.1 9) (hf10 : ¬ S.1 10) (hf11 : ¬ S.1 11) (hf12 : ¬ S.1 12) (hf13 : ¬ S.1 13) (hgg0 : ¬ S.2.1 g0) (hQ : ∀ m', f171_1 g0 g1 m = m' → J S m0 (B + 4) m' → Q none m') : X (EE s) d 171 0 [(0, zr g0 8), (1, zr g1 8)] [] m Q := by
  refine X.aload_n 1 i171_0 rfl rfl rfl ?_
  refine X.getR 4 i171_1 rfl rfl (by decide) rfl rfl ?_
  refine X.aload_n 5 i171_4 rfl rfl rfl ?_
  refine X.getR 8 i171_5 rfl rfl (by decide) rfl rfl ?_
  refine X.callv 11 [zr g1 9] [] [(0, zr g0 9), (1, zr g1 9)] i171_8 rfl (by decide) rfl rfl (by omega) rfl rfl (by decide) rfl t172 (Nat.le_of_ble_eq_true rfl) (Nat.le_of_ble_eq_true rfl) rfl ?_
  refine X.aload_n 1 i172_0 rfl rfl rfl ?_
  refine X.getR 4 i172_1 rfl rfl (by decide) rfl rfl ?_
  refine X.iconst 5 i172_4 rfl rfl (by decide) ?_
  refine X.aload_n 6 i172_5 rfl rfl rfl ?_
  refine X.getR 9 i172_6 rfl rfl (by decide) rfl rfl ?_
  refine X.iconst 10 i172_9 rfl rfl (by decide) ?_
  refine X.bipush 12 i172_10 rfl rfl (by decide) ?_
  refine X.cpI' 15 i172_12 rfl rfl (by omega) (Nat.le_of_ble_eq_true rfl) (by decide) (by decide) rfl rfl (by omega) (fun m501 hm501 => ?_)
  have hJ502 := J.cpyS hJ hm501 rfl hf3 hgg0
  refine X.retv i172_15 rfl t172 ?_
  show X (EE s) d 171 11 [(0, zr g0 8), (1, zr g1 8)] [] m501 _
  refine X.aload_n 12 i171_11 rfl rfl rfl ?_
  refine X.getR 15 i171_12 rfl rfl (by decide) rfl rfl ?_
  refine X.aload_n 16 i171_15 rfl rfl rfl ?_
  refine X.getR 19 i171_16 rfl rfl (by decide) rfl rfl ?_
  refine X.callv 22 [zr g1 11] [] [(0, zr g0 11), (1, zr g1 11)] i171_19 rfl (by decide) rfl rfl (by omega) rfl rfl (by decide) rfl t111 (Nat.le_of_ble_eq_true rfl) (Nat.le_of_ble_eq_true rfl) rfl ?_
  refine c111_1 (B := B) g0 g1  (by omega) (hJ502.up (by omega)) (by omega)  hf1 hgg0 (fun m503 hFv505 hJ504 => ?_)
  show X (EE s) d 171 22 [(0, zr g0 8), (1, zr g1 8)] [] m503 _
  refine X.aload_n 23 i171_22 rfl rfl rfl ?_
  refine X.getR 26 i171_23 rfl rfl (by decide) rfl rfl ?_
  refine X.aload_n 27 i171_26 rfl rfl rfl ?_
  refine X.getR 30 i171_27 rfl rfl (by decide) rfl rfl ?_
  refine X.callv 33 [zr g1 19] [] [(0, zr g0 19), (1, zr g1 19)] i171_30 rfl (by decide) rfl rfl (by omega) rfl rfl (by decide) rfl t173 (Nat.le_of_ble_eq_true rfl) (Nat.le_of_ble_eq_true rfl) rfl ?_
  refine c173_1 (B := B) g0 g1  (by omega) (hJ504.up (by omega)) (by omega)  hf2 hgg0 (fun m506 hFv508 hJ507 => ?_)
  show X (EE s) d 171 33 [(0, zr g0 8), (1, zr g1 8)] [] m506 _
  refine X.aload_n 34 i171_33 rfl rfl rfl ?_
  refine X.getR 37 i171_34 rfl rfl (by decide) rfl rfl ?_
  refine X.aload_n 38 i171_37 rfl rfl rfl ?_
  refine X.getR 41 i171_38 rfl rfl (by decide) rfl rfl ?_
  refine X.callv 44 [zr g1 23] [] [(0, zr g0 23), (1, zr g1 23)] i171_41 rfl (by decide) rfl rfl (by omega) rfl rfl (by decide) rfl t174 (Nat.le_of_ble_eq_true rfl) (Nat.le_of_ble_eq_true rfl) rfl ?_
  refine X.aload_n 1 i174_0 rfl rfl rfl ?_
  refine X.getR 4 i174_1 rfl rfl (by decide) rfl rfl ?_
  refine X.iconst 5 i174_4 rfl rfl (by decide) ?_
  refine X.aload_n 6 i174_5 rfl rfl rfl ?_
  refine X.getR 9 i174_6 rfl rfl (by decide) rfl rfl ?_
  refine X.iconst 10 i174_9 rfl rfl (by decide) ?_
  refine X.bipush 12 i174_10 rfl rfl (by decide) ?_
  refine X.cpL' 15 i174_12 rfl rfl (by omega) (Nat.le_of_ble_eq_true rfl) (by decide) (by decide) rfl rfl (by omega) (fun m509 hm509 => ?_)
  have hJ510 := J.cpyS hJ507 hm509 rfl hf10 hgg0
  refine X.aload_n 16 i174_15 rfl rfl rfl ?_
  refine X.getR 19 i174_16 rfl rfl (by decide) rfl rfl ?_
  refine X.iconst 20 i174_19 rfl rfl (by decide) ?_
  refine X.aload_n 21 i174_20 rfl rfl rfl ?_
  refine X.getR 24 i174_21 rfl rfl (by decide) rfl rfl ?_
  refine X.iconst 25 i174_24 rfl rfl (by decide) ?_
  refine X.bipush 27 i174_25 rfl rfl (by decide) ?_
  refine X.cpL' 30 i174_27 rfl rfl (by omega) (Nat.le_of_ble_eq_true rfl) (by decide) (by decide) rfl rfl (by omega) (fun m511 hm511 => ?_)
  have hJ512 := J.cpyS hJ510 hm511 rfl hf5 hgg0
  refine X.aload_n 31 i174_30 rfl rfl rfl ?_
  refine X.getR 34 i174_31 rfl rfl (by decide) rfl rfl ?_
  refine X.iconst 35 i174_34 rfl rfl (by decide) ?_
  refine X.aload_n 36 i174_35 rfl rfl rfl ?_
  refine X.getR 39 i174_36 rfl rfl (by decide) rfl rfl ?_
  refine X.iconst 40 i174_39 rfl rfl (by decide) ?_
  refine X.aload_n 41 i174_40 rfl rfl rfl ?_
  refine X.getR 44 i174_41 rfl rfl (by decide) rfl rfl ?_
  refine X.alen 45 i174_44 rfl rfl (by decide) rfl ?_
  show X (EE s) (d - 1) 174 45 [(0, zr g0 23), (1, zr g1 23)] [zi 198, zi 0, zr g0 26, zi 0, zr g1 26] m511 _
  refine X.cpL' 48 i174_45 rfl rfl (by omega) (Nat.le_of_ble_eq_true rfl) (by decide) (by decide) rfl rfl (by omega) (fun m513 hm513 => ?_)
  have hJ514 := J.cpyS hJ512 hm513 rfl hf5 hgg0
  refine X.aload_n 49 i174_48 rfl rfl rfl ?_
  refine X.aload_n 50 i174_49 rfl rfl rfl ?_
  refine X.getI 53 3 i174_50 rfl rfl (by decide) rfl rfl rfl ?_
  have h515 := r23_3 hJ514 g1
  refine X.putI' 56 3 i174_53 rfl rfl (by decide) rfl rfl rfl (fun hrm516 m516 hm516 => ?_)
  have hJ517 := w23_3 (hJ514.up (B' := B + 1) (by omega)) hm516 (by omega) hf5 hgg0
  refine X.retv i174_56 rfl t174 ?_
  show X (EE s) d 171 44 [(0, zr g0 8), (1, zr g1 8)] [] m516 _
  refine X.aload_n 45 i171_44 rfl rfl rfl ?_
  refine X.getR 48 i171_45 rfl rfl (by decide) rfl rfl ?_
  refine X.aload_n 49 i171_48 rfl rfl rfl ?_
  refine X.getR 52 i171_49 rfl rfl (by decide) rfl rfl ?_
  refine X.callv 55 [zr g1 27] [] [(0, zr g0 27), (1, zr g1 27)] i171_52 rfl (by decide) rfl rfl (by omega) rfl rfl (by decide) rfl t175 (Nat.le_of_ble_eq_true rfl) (Nat.le_of_ble_eq_true rfl) rfl ?_
  refine c175_1 (B := B + 1) g0 g1  (by omega) (hJ517.up (by omega)) (by omega)  hf7 hgg0 (fun m518 hFv520 hJ519 => ?_)
  show X (EE s) d 171 55 [(0, zr g0 8), (1, zr g1 8)] [] m518 _
  refine X.aload_n 56 i171_55 rfl rfl rfl ?_
  refine X.getR 59 i171_56 rfl rfl (by decide) rfl rfl ?_
  refine X.aload_n 60 i171_59 rfl rfl rfl ?_
  refine X.getR 63 i171_60 rfl rfl (by decide) rfl rfl ?_
  refine X.callv 66 [zr g1 30] [] [(0, zr g0 30), (1, zr g1 30)] i171_63 rfl (by decide) rfl rfl (by omega) rfl rfl (by decide) rfl t176 (Nat.le_of_ble_eq_true rfl) (Nat.le_of_ble_eq_true rfl) rfl ?_
  refine X.aload_n 1 i176_0 rfl rfl rfl ?_
  refine X.getR 4 i176_1 rfl rfl (by decide) rfl rfl ?_
  refine X.iconst 5 i176_4 rfl rfl (by decide) ?_
  refine X.aload_n 6 i176_5 rfl rfl rfl ?_
  refine X.getR 9 i176_6 rfl rfl (by decide) rfl rfl ?_
  refine X.iconst 10 i176_9 rfl rfl (by decide) ?_
  refine X.iconst 11 i176_10 rfl rfl (by decide) ?_
  refine X.cpL' 14 i176_11 rfl rfl (by omega) (Nat.le_of_ble_eq_true rfl) (by decide) (by decide) rfl rfl (by omega) (fun m521 hm521 => ?_)
  have hJ522 := J.cpyS hJ519 hm521 rfl hf8 hgg0
  refine X.aload_n 15 i176_14 rfl rfl rfl ?_
  refine X.getR 18 i176_15 rfl rfl (by decide) rfl rfl ?_
  refine X.iconst 19 i176_18 rfl rfl (by decide) ?_
  refine X.aload_n 20 i176_19 rfl rfl rfl ?_
  refine X.getR 23 i176_20 rfl rfl (by decide) rfl rfl ?_
  refine X.iconst 24 i176_23 rfl rfl (by decide) ?_
  refine X.iconst 25 i176_24 rfl rfl (by decide) ?_
  refine X.cpI' 28 i176_25 rfl rfl (by omega) (Nat.le_of_ble_eq_true rfl) (by decide) (by decide) rfl rfl (by omega) (fun m523 hm523 => ?_)
  have hJ524 := J.cpyS hJ522 hm523 rfl hf8 hgg0
  refine X.aload_n 29 i176_28 rfl rfl rfl ?_
  refine X.aload_n 30 i176_29 rfl rfl rfl ?_
  refine X.getL 33 2 i176_30 rfl rfl (by decide) rfl rfl rfl ?_
  refine X.putL' 36 2 i176_33 rfl rfl (by decide) rfl rfl rfl (fun hrm525 m525 hm525 => ?_)
  have hJ526 := w30_0 hJ524 hm525 (by omega) hrm525 hf8 hgg0
  refine X.aload_n 37 i176_36 rfl rfl rfl ?_
  refine X.aload_n 38 i176_37 rfl rfl rfl ?_
  refine X.getIr 41 3 i176_38 rfl rfl (by decide) rfl rfl rfl (fun h527 => ?_)
  refine X.putI' 44 3 i176_41 rfl rfl (by decide) rfl rfl rfl (fun hrm528 m528 hm528 => ?_)
  have hJ529 := w30_0 hJ526 hm528 (by omega) hrm528 hf8 hgg0
  refine X.retv i176_44 rfl t176 ?_
  show X (EE s) d 171 66 [(0, zr g0 8), (1, zr g1 8)] [] m528 _
  refine X.aload_n 67 i171_66 rfl rfl rfl ?_
  refine X.getR 70 i171_67 rfl rfl (by decide) rfl rfl ?_
  refine X.aload_n 71 i171_70 rfl rfl rfl ?_
  refine X.getR 74 i171_71 rfl rfl (by decide) rfl rfl ?_
  refine X.callv 77 [zr g1 33] [] [(0, zr g0 33), (1, zr g1 33)] i171_74 rfl (by decide) rfl rfl (by omega) rfl rfl (by decide) rfl t177 (Nat.le_of_ble_eq_true rfl) (Nat.le_of_ble_eq_true rfl) rfl ?_
  refine X.aload_n 1 i177_0 rfl rfl rfl ?_
  refine X.getR 4 i177_1 rfl rfl (by decide) rfl rfl ?_
  refine X.iconst 5 i177_4 rfl rfl (by decide) ?_
  refine X.aload_n 6 i177_5 rfl rfl rfl ?_
  refine X.getR 9 i177_6 rfl rfl (by decide) rfl rfl ?_
  refine X.iconst 10 i177_9 rfl rfl (by decide) ?_
  refine X.iconst 11 i177_10 rfl rfl (by decide) ?_
  refine X.cpI' 14 i177_11 rfl rfl (by omega) (Nat.le_of_ble_eq_true rfl) (by decide) (by decide) rfl rfl (by omega) (fun m530 hm530 => ?_)
  have hJ531 := J.cpyS hJ529 hm530 rfl hf9 hgg0
  refine X.aload_n 15 i177_14 rfl rfl rfl ?_
  refine X.getR 18 i177_15 rfl rfl (by decide) rfl rfl ?_
  refine X.iconst 19 i177_18 rfl rfl (by decide) ?_
  refine X.aload_n 20 i177_19 rfl rfl rfl ?_
  refine X.getR 23 i177_20 rfl rfl (by decide) rfl rfl ?_
  refine X.iconst 24 i177_23 rfl rfl (by decide) ?_
  refine X.iconst 25 i177_24 rfl rfl (by decide) ?_
  refine X.cpI' 28 i177_25 rfl rfl (by omega) (Nat.le_of_ble_eq_true rfl) (by decide) (by decide) rfl rfl (by omega) (fun m532 hm532 => ?_)
  have hJ533 := J.cpyS hJ531 hm532 rfl hf9 hgg0
  refine X.aload_n 29 i177_28 rfl rfl rfl ?_
  refine X.getR 32 i177_29 rfl rfl (by decide) rfl rfl ?_
  refine X.iconst 33 i177_32 rfl rfl (by decide) ?_
  refine X.aload_n 34 i177_33 rfl rfl rfl ?_
  refine X.getR 37 i177_34 rfl rfl (by decide) rfl rfl ?_
  refine X.iconst 38 i177_37 rfl rfl (by decide) ?_
  refine X.iconst 39 i177_38 rfl rfl (by decide) ?_
  refine X.cpI' 42 i177_39 rfl rfl (by omega) (Nat.le_of_ble_eq_true rfl) (by decide) (by decide) rfl rfl (by omega) (fun m534 hm534 => ?_)
  have hJ535 := J.cpyS hJ533 hm534 rfl hf9 hgg0
  refine X.aload_n 43 i177_42 rfl rfl rfl ?_
  refine X.aload_n 44 i177_43 rfl rfl rfl ?_
  refine X.getIr 47 3 i177_44 rfl rfl (by decide) rfl rfl rfl (fun h536 => ?_)
  refine X.putI' 50 3 i177_47 rfl rfl (by decide) rfl rfl rfl (fun hrm537 m537 hm537 => ?_)
  have hJ538 := w33_0 hJ535 hm537 (by omega) hrm537 hf9 hgg0
  refine X.retv i177_50 rfl t177 ?_
  show X (EE s) d 171 77 [(0, zr g0 8), (1, zr g1 8)] [] m537 _
  refine X.aload_n 78 i171_77 rfl rfl rfl ?_
  refine X.getR 81 i171_78 rfl rfl (by decide) rfl rfl ?_
  refine X.aload_n 82 i171_81 rfl rfl rfl ?_
  refine X.getR 85 i171_82 rfl rfl (by decide) rfl rfl ?_
  refine X.callv 88 [zr g1 37] [] [(0, zr g0 37), (1, zr g1 37)] i171_85 rfl (by decide) rfl rfl (by omega) rfl rfl (by decide) rfl t178 (Nat.le_of_ble_eq_true rfl) (Nat.le_of_ble_eq_true rfl) rfl ?_
  refine X.aload_n 1 i178_0 rfl rfl rfl ?_
  refine X.getR 4 i178_1 rfl rfl (by decide) rfl rfl ?_
  refine X.iconst 5 i178_4 rfl rfl (by decide) ?_
  refine X.aload_n 6 i178_5 rfl rfl rfl ?_
  refine X.getR 9 i178_6 rfl rfl (by decide) rfl rfl ?_
  refine X.iconst 10 i178_9 rfl rfl (by decide) ?_
  refine X.aload_n 11 i178_10 rfl rfl rfl ?_
  refine X.getR 14 i178_11 rfl rfl (by decide) rfl rfl ?_
  refine X.alen 15 i178_14 rfl rfl (by decide) rfl ?_
  show X (EE s) (d - 1) 178 15 [(0, zr g0 37), (1, zr g1 37)] [zi 120, zi 0, zr g0 38, zi 0, zr g1 38] m537 _
  refine X.cpI' 18 i178_15 rfl rfl (by omega) (Nat.le_of_ble_eq_true rfl) (by decide) (by decide) rfl rfl (by omega) (fun m539 hm539 => ?_)
  have hJ540 := J.cpyS hJ538 hm539 rfl hf6 hgg0
  refine X.aload_n 19 i178_18 rfl rfl rfl ?_
  refine X.aload_n 20 i178_19 rfl rfl rfl ?_
  refine X.getI 23 1 i178_20 rfl rfl (by decide) rfl rfl rfl ?_
  have h541 := r37_1 hJ540 g1
  refine X.putI' 26 1 i178_23 rfl rfl (by decide) rfl rfl rfl (fun hrm542 m542 hm542 => ?_)
  have hJ543 := w37_1 (hJ540.up (B' := B + 3) (by omega)) hm542 (by omega) hf6 hgg0
  refine X.retv i178_26 rfl t178 ?_
  show X (EE s) d 171 88 [(0, zr g0 8), (1, zr g1 8)] [] m542 _
  refine X.aload_n 89 i171_88 rfl rfl rfl ?_
  refine X.getR 92 i171_89 rfl rfl (by decide) rfl rfl ?_
  refine X.aload_n 93 i171_92 rfl rfl rfl ?_
  refine X.getR 96 i171_93 rfl rfl (by decide) rfl rfl ?_
  refine X.callv 99 [zr g1 39] [] [(0, zr g0 39), (1, zr g1 39)] i171_96 rfl (by decide) rfl rfl (by omega) rfl rfl (by decide) rfl t179 (Nat.le_of_ble_eq_true rfl) (Nat.le_of_ble_eq_true rfl) rfl ?_
  refine X.aload_n 1 i179_0 rfl rfl rfl ?_
  refine X.aload_n 2 i179_1 rfl rfl rfl ?_
  refine X.getZ 5 0 i179_2 rfl rfl (by decide) rfl rfl rfl (fun h544 => ?_)
  refine X.putZ' 8 0 i179_5 rfl rfl (by decide) rfl rfl rfl (by omega) (fun hrm545 m545 hm545 => ?_)
  have hJ546 := w39_0 hJ543 hm545 (by omega) hf4 hgg0
  refine X.aload_n 9 i179_8 rfl rfl rfl ?_
  refine X.aload_n 10 i179_9 rfl rfl rfl ?_
  refine X.getIr 13 1 i179_10 rfl rfl (by decide) rfl rfl rfl (fun h547 => ?_)
  refine X.putI' 16 1 i179_13 rfl rfl (by decide) rfl rfl rfl (fun hrm548 m548 hm548 => ?_)
  have hJ549 := w39_1 hJ546 hm548 hrm548 hf4 hgg0
  refine X.aload_n 17 i179_16 rfl rfl rfl ?_
  refine X.aload_n 18 i179_17 rfl rfl rfl ?_
  refine X.getI 21 2 i179_18 rfl rfl (by decide) rfl rfl rfl ?_
  have h550 := r39_2 hJ549 g1
  refine X.putI' 24 2 i179_21 rfl rfl (by decide) rfl rfl rfl (fun hrm551 m551 hm551 => ?_)
  have hJ552 := w39_2 (hJ549.up (B' := B + 4) (by omega)) hm551 (by omega) hf4 hgg0
  refine X.aload_n 25 i179_24 rfl rfl rfl ?_
  refine X.aload_n 26 i179_25 rfl rfl rfl ?_
  refine X.getIr 29 3 i179_26 rfl rfl (by decide) rfl rfl rfl (fun h553 => ?_)
  refine X.putI' 32 3 i179_29 rfl rfl (by decide) rfl rfl rfl (fun hrm554 m554 hm554 => ?_)
  have hJ555 := w39_3 hJ552 hm554 hrm554 hf4 hgg0
  refine X.aload_n 33 i179_32 rfl rfl rfl ?_
  refine X.aload_n 34 i179_33 rfl rfl rfl ?_
  refine X.getI 37 4 i179_34 rfl rfl (by decide) rfl rfl rfl ?_
  have h556 := r39_4 hJ555 g1
  refine X.putI' 40 4 i179_37 rfl rfl (by decide) rfl rfl rfl (fun hrm557 m557 hm557 => ?_)
  have hJ558 := w39_4 hJ555 hm557 (by omega) hf4 hgg0
  refine X.retv i179_40 rfl t179 ?_
  show X (EE s) d 171 99 [(0, zr g0 8), (1, zr g1 8)] [] m557 _
  refine X.aload_n 100 i171_99 rfl rfl rfl ?_
  refine X.aload_n 101 i171_100 rfl rfl rfl ?_
  refine X.getI 104 9 i171_101 rfl rfl (by decide) rfl rfl rfl ?_
  have h559 := r8_9 hJ558 g1
  refine X.putI' 107 9 i171_104 rfl rfl (by decide) rfl rfl rfl (fun hrm560 m560 hm560 => ?_)
  have hJ561 := w8_9 hJ558 hm560 (by omega) hf11 hgg0
  have em560 : m560 g0 8 9 = (m557 g1 8 9) := by rw [hm560]; exact z_upd_same _ _ _ _ _
  refine X.aload_n 108 i171_107 rfl rfl rfl ?_
  refine X.aload_n 109 i171_108 rfl rfl rfl ?_
  refine X.getL 112 10 i171_109 rfl rfl (by decide) rfl rfl rfl ?_
  refine X.putL' 115 10 i171_112 rfl rfl (by decide) rfl rfl rfl (fun hrm562 m562 hm562 => ?_)
  have hJ563 := w8_10 hJ561 hm562 hrm562 hf12 hgg0
  refine X.aload_n 116 i171_115 rfl rfl rfl ?_
  refine X.aload_n 117 i171_116 rfl rfl rfl ?_
  refine X.getZ 120 11 i171_117 rfl rfl (by decide) rfl rfl rfl (fun h564 => ?_)
  refine X.putZ' 123 11 i171_120 rfl rfl (by decide) rfl rfl rfl (by omega) (fun hrm565 m565 hm565 => ?_)
  have hJ566 := w8_11 hJ563 hm565 (by omega) hf12 hgg0
  refine X.aload_n 124 i171_123 rfl rfl rfl ?_
  refine X.aload_n 125 i171_124 rfl rfl rfl ?_
  refine X.getZ 128 12 i171_125 rfl rfl (by decide) rfl rfl rfl (fun h567 => ?_)
  refine X.putZ' 131 12 i171_128 rfl rfl (by decide) rfl rfl rfl (by omega) (fun hrm568 m568 hm568 => ?_)
  have hJ569 := w8_12 hJ566 hm568 (by omega) hf12 hgg0
  refine X.aload_n 132 i171_131 rfl rfl rfl ?_
  refine X.aload_n 133 i171_132 rfl rfl rfl ?_
  refine X.getIr 136 13 i171_133 rfl rfl (by decide) rfl rfl rfl (fun h570 => ?_)
  refine X.putI' 139 13 i171_136 rfl rfl (by decide) rfl rfl rfl (fun hrm571 m571 hm571 => ?_)
  have hJ572 := w8_13 hJ569 hm571 (by omega) hrm571 hf13 hgg0
  refine X.aload_n 140 i171_139 rfl rfl rfl ?_
  refine X.aload_n 141 i171_140 rfl rfl rfl ?_
  refine X.getIr 144 14 i171_141 rfl rfl (by decide) rfl rfl rfl (fun h573 => ?_)
  refine X.putI' 147 14 i171_144 rfl rfl (by decide) rfl rfl rfl (fun hrm574 m574 hm574 => ?_)
  have hJ575 := w8_13 hJ572 hm574 (by omega) hrm574 hf13 hgg0
  refine X.aload_n 148 i171_147 rfl rfl rfl ?_
  refine X.aload_n 149 i171_148 rfl rfl rfl ?_
  refine X.getIr 152 15 i171_149 rfl rfl (by decide) rfl rfl rfl (fun h576 => ?_)
  refine X.putI' 155 15 i171_152 rfl rfl (by decide) rfl rfl rfl (fun hrm577 m577 hm577 => ?_)
  have hJ578 := w8_13 hJ575 hm577 (by omega) hrm577 hf13 hgg0
  refine X.retv i171_155 rfl t171 ?_
  exact hQ  m577  (Eq.trans (zs_eq hm501) (Eq.trans (zs_eq hFv505.symm) (Eq.trans (zs_eq hFv508.symm) (Eq.trans (zs_eq hm509) (Eq.trans (zs_eq hm511) (Eq.trans (zs_eq hm513) (Eq.trans (zs_eq hm516) (Eq.trans (zs_eq hFv520.symm) (Eq.trans (zs_eq hm521) (Eq.trans (zs_eq hm523) (Eq.trans (zs_eq hm525) (Eq.trans (zs_eq hm528) (Eq.trans (zs_eq hm530) (Eq.trans (zs_eq hm532) (Eq.trans (zs_eq hm534) (Eq.trans (zs_eq hm537) (Eq.trans (zs_eq hm539) (Eq.trans (zs_eq hm542) (Eq.trans (zs_eq hm545) (Eq.trans (zs_eq hm548) (Eq.trans (zs_eq hm551) (Eq.trans (zs_eq hm554) (Eq.trans (zs_eq hm557) (Eq.trans (zs_eq hm560) (Eq.trans (zs_eq hm562) (Eq.trans (zs_eq hm565) (Eq.trans (zs_eq hm568) (Eq.trans (zs_eq hm571) (Eq.trans (zs_eq hm574) (Eq.trans (zs_eq hm577) rfl)))))))))))))))))))))))))))))) (hJ578.up (by omega)) 
-- WorkMeter$Meter.totalReading
theorem c70_2 {s : Nat × (Nat → Int32)} {S : zS} {m0 m : zM} {B : Int} {d : Nat} {Q : Option zV → zM → Prop} (g0 : Nat) (a1 : Int) (hd : 15 ≤ d) (hJ : J S m0 B m) (hB : B + 0 ≤ 1000000000) (ha1 : 1 ≤ a1 ∧ a1 ≤ 1) (hQ : ∀ (v : Int), (True) → f70_1 g0 a1 m = v → Q (some (zl v)) m) : X (EE s) d 70 0 [(0, zr g0 8), (1, zi a1)] [] m Q := by
  refine X.aload_n 1 i70_0 rfl rfl rfl ?_
  refine X.getR 4 i70_1 rfl rfl (by decide) rfl rfl ?_
  refine X.iload_n 5 i70_4 rfl rfl rfl ?_
  refine X.iconst 6 i70_5 rfl rfl (by decide) ?_
  refine X.callv 9 [zi a1, zi (-1)] [] [(0, zr g0 23), (1, zi a1), (2, zi (-1))] i70_6 rfl (by decide) rfl rfl (by omega) rfl rfl (by decide) rfl t71 (Nat.le_of_ble_eq_true rfl) (Nat.le_of_ble_eq_true rfl) rfl ?_
  refine c71_2 (B := B) g0 a1 (-1) (by omega) (hJ.up (by omega)) (by omega) (by omega) (by omega) (fun v503 hv503 hFv503 => ?_)
  show X (EE s) d 70 9 [(0, zr g0 8), (1, zi a1)] [zl v503] m _
  refine X.aload_n 10 i70_9 rfl rfl rfl ?_
  refine X.getR 13 i70_10 rfl rfl (by decide) rfl rfl ?_
  refine X.callv 16 [] [zl v503] [(0, zr g0 9)] i70_13 rfl (by decide) rfl rfl (by omega) rfl rfl (by decide) rfl t48 (Nat.le_of_ble_eq_true rfl) (Nat.le_of_ble_eq_true rfl) rfl ?_
  refine X.iconst 1 i48_0 rfl rfl (by decide) ?_
  refine X.aload_n 2 i48_1 rfl rfl rfl ?_
  refine X.getR 5 i48_2 rfl rfl (by decide) rfl rfl ?_
  refine X.iconst 6 i48_5 rfl rfl (by decide) ?_
  refine X.iald 7 i48_6 rfl rfl (by decide) rfl (by omega) ?_
  have h504 := r10_0 hJ g0 (i := 1) (by omega)
  refine X.maxI 10 i48_7 rfl rfl (by omega) (Nat.le_of_ble_eq_true rfl) ?_
  refine X.reti i48_10 rfl t48 ?_
  show X (EE s) d 70 16 [(0, zr g0 8), (1, zi a1)] [zi (max 1 (m g0 10 1)), zl v503] m _
  refine X.i2l 17 i70_16 rfl rfl ?_
  refine X.ldivW 18 i70_17 rfl rfl (by omega) (fun z505 ez505 hz505 => ?_)
  refine X.retl i70_18 rfl t70 ?_
  exact hQ z505 (by first | trivial | omega) (Eq.trans (zn_eq hFv503.symm) (Eq.trans (zn_eq ez505) rfl)) 
noncomputable def fl180_6_1_b (self : Int → Int → Int) (k28 : Int → Int) (g0 : Nat) (m : zM) (y1 y3 : Int) : Int :=
  if 4 ≤ y3 then
  (k28 y1)
  else
  (self (max y1 (m g0 31 y3)) (y3 + 1))
noncomputable def fl180_6_1 (k28 : Int → Int) (g0 : Nat) (m : zM) : Nat → Int → Int → Int
  | 0 => fun y1 y3 => 0
  | n + 1 => fl180_6_1_b (fl180_6_1 k28 g0 m n) k28 g0 m
theorem l180_6_1 {s : Nat × (Nat → Int32)} {S : zS} {m0 : zM} {m : zM} {B : Int} {d : Nat} {Q : Option zV → zM → Prop} {R0 : Int} {k28 : Int → Int} (g0 : Nat) (hd : 13 ≤ d) (hJ : J S m0 B m) (hB9 : B ≤ 1000000000)
    (K28 : ∀ (x1 : Int) , ((-1) ≤ x1) → R0 = k28 x1 → X (EE s) d 180 28 [(1, zl x1)] [] m Q) :
    ∀ (n : Nat) (y1 y3 : Int) , ((-1) ≤ y1) → (0 ≤ y3 ∧ y3 ≤ 4) → 4 - y3 < (n : Int) → R0 = fl180_6_1 k28 g0 m n y1 y3 → X (EE s) d 180 6 [(0, zr g0 30), (1, zl y1), (3, zi y3)] [] m Q := by
  intro n
  induction n with
  | zero =>
    intro y1 y3 hy1 hy3 hn hR
    exfalso
    omega
  | succ n ih =>
    intro y1 y3 hy1 hy3 hn hR
    replace hR : R0 = fl180_6_1_b (fl180_6_1 k28 g0 m n) k28 g0 m y1 y3 := hR
    refine X.iload_n 7 i180_6 rfl rfl rfl ?_
    refine X.iconst 8 i180_7 rfl rfl (by decide) ?_
    refine X.icmpge 28 11 i180_8 rfl rfl rfl (fun h503 => ?_) (fun h503 => ?_)
    · refine X.cut [(1, zl y1)] i180_28 rfl ?_
      exact K28 y1 (by first | trivial | omega) (Eq.trans hR (Eq.trans (if_pos h503) rfl))
    · refine X.lload_n 12 i180_11 rfl rfl rfl ?_
      refine X.aload_n 13 i180_12 rfl rfl rfl ?_
      refine X.getR 16 i180_13 rfl rfl (by decide) rfl rfl ?_
      refine X.iload_n 17 i180_16 rfl rfl rfl ?_
      refine X.lald 18 i180_17 rfl rfl (by decide) rfl (by omega) ?_
      refine X.maxL 21 i180_18 rfl rfl (by omega) (Nat.le_of_ble_eq_true rfl) ?_
      refine X.lstore_n 22 [(0, zr g0 30), (1, zl (max y1 (m g0 31 y3))), (3, zi y3)] i180_21 rfl rfl rfl ?_
      refine X.iinc 25 [(0, zr g0 30), (1, zl (max y1 (m g0 31 y3))), (3, zi (y3 + 1))] i180_22 rfl rfl rfl (by omega) rfl ?_
      refine X.goto 6 i180_25 rfl rfl ?_
      exact ih (max y1 (m g0 31 y3)) (y3 + 1) (by omega) (by omega) (by omega) (Eq.trans hR (Eq.trans (if_neg h503) rfl))
-- WorkMeter$Demand.mostOfAll
noncomputable def f180_1 (g0 : Nat) (m : zM) : Int :=
  fl180_6_1 (fun y501 =>
  y501) g0 m (zfu 5) (-1) 0
-- WorkMeter$Demand.mostOfAll
theorem c180_1 {s : Nat × (Nat → Int32)} {S : zS} {m0 m : zM} {B : Int} {d : Nat} {Q : Option zV → zM → Prop} (g0 : Nat) (hd : 13 ≤ d) (hJ : J S m0 B m) (hB : B + 0 ≤ 1000000000) (hQ : ∀ (v : Int), ((-1) ≤ v) → f180_1 g0 m = v → Q (some (zl v)) m) : X (EE s) d 180 0 [(0, zr g0 30)] [] m Q := by
  refine X.ldc2 3 i180_0 rfl rfl (by decide) ?_
  refine X.lstore_n 4 [(0, zr g0 30), (1, zl (-1))] i180_3 rfl rfl rfl ?_
  refine X.iconst 5 i180_4 rfl rfl (by decide) ?_
  refine X.istore_n 6 [(0, zr g0 30), (1, zl (-1)), (3, zi 0)] i180_5 rfl rfl rfl ?_
  have hz5 := zfu_eq 5
  refine l180_6_1 (s := s) (m := m) (B := B) (d := d) (R0 := (f180_1 g0 m)) g0   (by omega) (hJ.up (by omega)) (by omega) (fun y501 hby501 hR505 => ?_) (zfu 5) (-1) 0 (by omega) (by omega) (by omega) rfl
  refine X.lload_n 29 i180_28 rfl rfl rfl ?_
  refine X.retl i180_29 rfl t180 ?_
  exact hQ y501 (by first | trivial | omega) (Eq.trans hR505 rfl) 
-- WorkMeter.would
noncomputable def f170_1 (a1 a2 : Int) (m : zM) : Int × zM :=
  if a1 < 1 then
  (((-10000000000), m))
  else
  (if 900 < a1 then
  (((-10000000000), m))
  else
  (if a2 < 0 then
  (((-10000000000), m))
  else
  (if a2 ≤ 6 then
  (zs (f171_1 2 0 m) fun m505 =>
  zs (f25_1 2 a1 m505) fun m508 =>
  if a2 = 0 then
  (zn (f70_1 2 0 m508) fun v514 =>
  (v514, m508))
  else
  (if a2 = 1 then
  (zn (f70_1 2 1 m508) fun v518 =>
  (v518, m508))
  else
  (if a2 = 2 then
  (((m508 2 8 10), m508))
  else
  (if a2 = 3 then
  (zn (f180_1 2 m508) fun v523 =>
  (v523, m508))
  else
  (if a2 = 4 then
  (((m508 2 33 3), m508))
  else
  (if a2 = 5 then
  (zn (if (m508 2 8 12) = 0 then
  (0)
  else
  (1)) fun v529 =>
  (v529, m508))
  else
  (((m508 2 8 9), m508))))))))
  else
  (((-10000000000), m)))))
-- WorkMeter.would
theorem c170_1 {s : Nat × (Nat → Int32)} {S : zS} {m0 m : zM} {B : Int} {d : Nat} {Q : Option zV → zM → Prop} (a1 a2 : Int) (hd : 19 ≤ d) (hJ : J S m0 B m) (hB : B + 7212 ≤ 1000000000) (ha1 : (-2147483648) ≤ a1 ∧ a1 ≤ 2147483647) (ha2 : (-2147483648) ≤ a2 ∧ a2 ≤ 2147483647) (hf1 : ¬ S.1 1) (hf2 : ¬ S.1 2) (hf3 : ¬ S.1 3) (hf4 : ¬ S.1 4) (hf5 : ¬ S.1 5) (hf6 : ¬ S.1 6) (hf7 : ¬ S.1 7) (hf8 : ¬ S.1 8) (hf9 : ¬ S.1 9) (hf10 : ¬ S.1 10) (hf11 : ¬ S.1 11) (hf12 : ¬ S.1 12) (hf13 : ¬ S.1 13) (hg2 : ¬ S.2.1 2) (hQ : ∀ (v : Int) m', (True) → f170_1 a1 a2 m = (v, m') → J S m0 (B + 7212) m' → Q (some (zl v)) m') : X (EE s) d 170 0 [(0, zr 4 40), (1, zi a1), (2, zi a2)] [] m Q := by
  refine X.iload_n 1 i170_0 rfl rfl rfl ?_
  refine X.iconst 2 i170_1 rfl rfl (by decide) ?_
  refine X.icmplt 22 5 i170_2 rfl rfl rfl (fun h501 => ?_) (fun h501 => ?_)
  · refine X.cut [] i170_22 rfl ?_
    refine X.ldc2 25 i170_22 rfl rfl (by decide) ?_
    refine X.retl i170_25 rfl t170 ?_
    exact hQ (-10000000000) m (by first | trivial | omega) (Eq.trans (if_pos h501) rfl) (hJ.up (by omega)) 
  · refine X.iload_n 6 i170_5 rfl rfl rfl ?_
    refine X.sipush 9 i170_6 rfl rfl (by decide) ?_
    refine X.icmpgt 22 12 i170_9 rfl rfl rfl (fun h502 => ?_) (fun h502 => ?_)
    · refine X.cut [] i170_22 rfl ?_
      refine X.ldc2 25 i170_22 rfl rfl (by decide) ?_
      refine X.retl i170_25 rfl t170 ?_
      exact hQ (-10000000000) m (by first | trivial | omega) (Eq.trans (if_neg h501) (Eq.trans (if_pos h502) rfl)) (hJ.up (by omega)) 
    · refine X.iload_n 13 i170_12 rfl rfl rfl ?_
      refine X.iflt 22 16 i170_13 rfl rfl rfl (fun h503 => ?_) (fun h503 => ?_)
      · refine X.cut [] i170_22 rfl ?_
        refine X.ldc2 25 i170_22 rfl rfl (by decide) ?_
        refine X.retl i170_25 rfl t170 ?_
        exact hQ (-10000000000) m (by first | trivial | omega) (Eq.trans (if_neg h501) (Eq.trans (if_neg h502) (Eq.trans (if_pos h503) rfl))) (hJ.up (by omega)) 
      · refine X.iload_n 17 i170_16 rfl rfl rfl ?_
        refine X.bipush 19 i170_17 rfl rfl (by decide) ?_
        refine X.icmple 26 22 i170_19 rfl rfl rfl (fun h504 => ?_) (fun h504 => ?_)
        · refine X.aload_n 27 i170_26 rfl rfl rfl ?_
          refine X.getF 30 i170_27 rfl rfl (by decide) rfl rfl ?_
          refine X.aload_n 31 i170_30 rfl rfl rfl ?_
          refine X.getF 34 i170_31 rfl rfl (by decide) rfl rfl ?_
          refine X.callv 37 [zr 0 8] [] [(0, zr 2 8), (1, zr 0 8)] i170_34 rfl (by decide) rfl rfl (by omega) rfl rfl (by decide) rfl t171 (Nat.le_of_ble_eq_true rfl) (Nat.le_of_ble_eq_true rfl) rfl ?_
          refine c171_1 (B := B) 2 0  (by omega) (hJ.up (by omega)) (by omega)  hf1 hf2 hf3 hf4 hf5 hf6 hf7 hf8 hf9 hf10 hf11 hf12 hf13 hg2 (fun m505 hFv507 hJ506 => ?_)
          show X (EE s) d 170 37 [(0, zr 4 40), (1, zi a1), (2, zi a2)] [] m505 _
          refine X.aload_n 38 i170_37 rfl rfl rfl ?_
          refine X.getF 41 i170_38 rfl rfl (by decide) rfl rfl ?_
          refine X.iload_n 42 i170_41 rfl rfl rfl ?_
          refine X.callv 45 [zi a1] [] [(0, zr 2 8), (1, zi a1)] i170_42 rfl (by decide) rfl rfl (by omega) rfl rfl (by decide) rfl t25 (Nat.le_of_ble_eq_true rfl) (Nat.le_of_ble_eq_true rfl) rfl ?_
          refine c25_1 (B := B + 4) 2 a1 (by omega) (hJ506.up (by omega)) (by omega) (by omega) hf6 hf7 hf8 hf9 hf10 hf11 hf12 hf13 hg2 (fun m508 hFv510 hJ509 => ?_)
          show X (EE s) d 170 45 [(0, zr 4 40), (1, zi a1), (2, zi a2)] [] m508 _
          refine X.iload_n 46 i170_45 rfl rfl rfl ?_
          by_cases h511 : a2 = 0
          · refine X.tsIn 84 0 i170_46 rfl (by omega) rfl rfl ?_
            refine X.cut [(0, zr 4 40)] i170_84 rfl ?_
            refine X.aload_n 85 i170_84 rfl rfl rfl ?_
            refine X.getF 88 i170_85 rfl rfl (by decide) rfl rfl ?_
            refine X.iconst 89 i170_88 rfl rfl (by decide) ?_
            refine X.callv 92 [zi 0] [] [(0, zr 2 8), (1, zi 0)] i170_89 rfl (by decide) rfl rfl (by omega) rfl rfl (by decide) rfl t70 (Nat.le_of_ble_eq_true rfl) (Nat.le_of_ble_eq_true rfl) rfl ?_
            refine c70_1 (B := B + 7212) 2 0 (by omega) (hJ509.up (by omega)) (by omega) (by omega) (fun v514 hv514 hFv514 => ?_)
            show X (EE s) d 170 92 [(0, zr 4 40)] [zl v514] m508 _
            refine X.retl i170_92 rfl t170 ?_
            exact hQ v514 m508 (by first | trivial | omega) (Eq.trans (if_neg h501) (Eq.trans (if_neg h502) (Eq.trans (if_neg h503) (Eq.trans (if_pos h504) (Eq.trans (zs_eq hFv507.symm) (Eq.trans (zs_eq hFv510.symm) (Eq.trans (if_pos h511) (Eq.trans (zn_eq hFv514.symm) rfl)))))))) (hJ509.up (by omega)) 
          by_cases h515 : a2 = 1
          · refine X.tsIn 93 1 i170_46 rfl (by omega) rfl rfl ?_
            refine X.cut [(0, zr 4 40)] i170_93 rfl ?_
            refine X.aload_n 94 i170_93 rfl rfl rfl ?_
            refine X.getF 97 i170_94 rfl rfl (by decide) rfl rfl ?_
            refine X.iconst 98 i170_97 rfl rfl (by decide) ?_
            refine X.callv 101 [zi 1] [] [(0, zr 2 8), (1, zi 1)] i170_98 rfl (by decide) rfl rfl (by omega) rfl rfl (by decide) rfl t70 (Nat.le_of_ble_eq_true rfl) (Nat.le_of_ble_eq_true rfl) rfl ?_
            refine c70_2 (B := B + 7212) 2 1 (by omega) (hJ509.up (by omega)) (by omega) (by omega) (fun v518 hv518 hFv518 => ?_)
            show X (EE s) d 170 101 [(0, zr 4 40)] [zl v518] m508 _
            refine X.retl i170_101 rfl t170 ?_
            exact hQ v518 m508 (by first | trivial | omega) (Eq.trans (if_neg h501) (Eq.trans (if_neg h502) (Eq.trans (if_neg h503) (Eq.trans (if_pos h504) (Eq.trans (zs_eq hFv507.symm) (Eq.trans (zs_eq hFv510.symm) (Eq.trans (if_neg h511) (Eq.trans (if_pos h515) (Eq.trans (zn_eq hFv518.symm) rfl))))))))) (hJ509.up (by omega)) 
          by_cases h519 : a2 = 2
          · refine X.tsIn 102 2 i170_46 rfl (by omega) rfl rfl ?_
            refine X.cut [(0, zr 4 40)] i170_102 rfl ?_
            refine X.aload_n 103 i170_102 rfl rfl rfl ?_
            refine X.getF 106 i170_103 rfl rfl (by decide) rfl rfl ?_
            refine X.getL 109 10 i170_106 rfl rfl (by decide) rfl rfl rfl ?_
            refine X.retl i170_109 rfl t170 ?_
            exact hQ (m508 2 8 10) m508 (by first | trivial | omega) (Eq.trans (if_neg h501) (Eq.trans (if_neg h502) (Eq.trans (if_neg h503) (Eq.trans (if_pos h504) (Eq.trans (zs_eq hFv507.symm) (Eq.trans (zs_eq hFv510.symm) (Eq.trans (if_neg h511) (Eq.trans (if_neg h515) (Eq.trans (if_pos h519) rfl))))))))) (hJ509.up (by omega)) 
          by_cases h520 : a2 = 3
          · refine X.tsIn 110 3 i170_46 rfl (by omega) rfl rfl ?_
            refine X.cut [(0, zr 4 40)] i170_110 rfl ?_
            refine X.aload_n 111 i170_110 rfl rfl rfl ?_
            refine X.getF 114 i170_111 rfl rfl (by decide) rfl rfl ?_
            refine X.getR 117 i170_114 rfl rfl (by decide) rfl rfl ?_
            refine X.callv 120 [] [] [(0, zr 2 30)] i170_117 rfl (by decide) rfl rfl (by omega) rfl rfl (by decide) rfl t180 (Nat.le_of_ble_eq_true rfl) (Nat.le_of_ble_eq_true rfl) rfl ?_
            refine c180_1 (B := B + 7212) 2  (by omega) (hJ509.up (by omega)) (by omega)  (fun v523 hv523 hFv523 => ?_)
            show X (EE s) d 170 120 [(0, zr 4 40)] [zl v523] m508 _
            refine X.retl i170_120 rfl t170 ?_
            exact hQ v523 m508 (by first | trivial | omega) (Eq.trans (if_neg h501) (Eq.trans (if_neg h502) (Eq.trans (if_neg h503) (Eq.trans (if_pos h504) (Eq.trans (zs_eq hFv507.symm) (Eq.trans (zs_eq hFv510.symm) (Eq.trans (if_neg h511) (Eq.trans (if_neg h515) (Eq.trans (if_neg h519) (Eq.trans (if_pos h520) (Eq.trans (zn_eq hFv523.symm) rfl))))))))))) (hJ509.up (by omega)) 
          by_cases h524 : a2 = 4
          · refine X.tsIn 121 4 i170_46 rfl (by omega) rfl rfl ?_
            refine X.cut [(0, zr 4 40)] i170_121 rfl ?_
            refine X.aload_n 122 i170_121 rfl rfl rfl ?_
            refine X.getF 125 i170_122 rfl rfl (by decide) rfl rfl ?_
            refine X.getR 128 i170_125 rfl rfl (by decide) rfl rfl ?_
            refine X.getIr 131 3 i170_128 rfl rfl (by decide) rfl rfl rfl (fun h525 => ?_)
            refine X.i2l 132 i170_131 rfl rfl ?_
            refine X.retl i170_132 rfl t170 ?_
            exact hQ (m508 2 33 3) m508 (by first | trivial | omega) (Eq.trans (if_neg h501) (Eq.trans (if_neg h502) (Eq.trans (if_neg h503) (Eq.trans (if_pos h504) (Eq.trans (zs_eq hFv507.symm) (Eq.trans (zs_eq hFv510.symm) (Eq.trans (if_neg h511) (Eq.trans (if_neg h515) (Eq.trans (if_neg h519) (Eq.trans (if_neg h520) (Eq.trans (if_pos h524) rfl))))))))))) (hJ509.up (by omega)) 
          by_cases h526 : a2 = 5
          · refine X.tsIn 133 5 i170_46 rfl (by omega) rfl rfl ?_
            refine X.cut [(0, zr 4 40)] i170_133 rfl ?_
            refine X.aload_n 134 i170_133 rfl rfl rfl ?_
            refine X.getF 137 i170_134 rfl rfl (by decide) rfl rfl ?_
            refine X.getZ 140 12 i170_137 rfl rfl (by decide) rfl rfl rfl (fun h527 => ?_)
            have hK532 : ∀ (v : Int) , (0 ≤ v ∧ v ≤ 1) → (if (m508 2 8 12) = 0 then
                (0)
                else
                (1)) = v → X (EE s) d 170 148 [] [zl v] m508 Q := by
              intro v529 hv529 hT533
              refine X.retl i170_148 rfl t170 ?_
              exact hQ v529 m508 (by first | trivial | omega) (Eq.trans (if_neg h501) (Eq.trans (if_neg h502) (Eq.trans (if_neg h503) (Eq.trans (if_pos h504) (Eq.trans (zs_eq hFv507.symm) (Eq.trans (zs_eq hFv510.symm) (Eq.trans (if_neg h511) (Eq.trans (if_neg h515) (Eq.trans (if_neg h519) (Eq.trans (if_neg h520) (Eq.trans (if_neg h524) (Eq.trans (if_pos h526) (Eq.trans (zn_eq hT533.symm) rfl))))))))))))) (hJ509.up (by omega)) 
            refine X.ifeq 147 143 i170_140 rfl rfl rfl (fun h528 => ?_) (fun h528 => ?_)
            · refine X.cut [] i170_147 rfl ?_
              refine X.lconst (y := 0) 148 i170_147 rfl rfl rfl ?_
              exact hK532 0 (by first | trivial | omega) (Eq.trans (if_pos h528) rfl)
            · refine X.lconst (y := 1) 144 i170_143 rfl rfl rfl ?_
              refine X.goto 148 i170_144 rfl rfl ?_
              refine X.cut [] i170_148 rfl ?_
              exact hK532 1 (by first | trivial | omega) (Eq.trans (if_neg h528) rfl)
          refine X.tsOut 149 i170_46 rfl (by omega) rfl ?_
          refine X.cut [(0, zr 4 40)] i170_149 rfl ?_
          refine X.aload_n 150 i170_149 rfl rfl rfl ?_
          refine X.getF 153 i170_150 rfl rfl (by decide) rfl rfl ?_
          refine X.getI 156 9 i170_153 rfl rfl (by decide) rfl rfl rfl ?_
          have h534 := r8_9 hJ509 2
          refine X.i2l 157 i170_156 rfl rfl ?_
          refine X.retl i170_157 rfl t170 ?_
          exact hQ (m508 2 8 9) m508 (by first | trivial | omega) (Eq.trans (if_neg h501) (Eq.trans (if_neg h502) (Eq.trans (if_neg h503) (Eq.trans (if_pos h504) (Eq.trans (zs_eq hFv507.symm) (Eq.trans (zs_eq hFv510.symm) (Eq.trans (if_neg h511) (Eq.trans (if_neg h515) (Eq.trans (if_neg h519) (Eq.trans (if_neg h520) (Eq.trans (if_neg h524) (Eq.trans (if_neg h526) rfl)))))))))))) (hJ509.up (by omega)) 
        · refine X.cut [] i170_22 rfl ?_
          refine X.ldc2 25 i170_22 rfl rfl (by decide) ?_
          refine X.retl i170_25 rfl t170 ?_
          exact hQ (-10000000000) m (by first | trivial | omega) (Eq.trans (if_neg h501) (Eq.trans (if_neg h502) (Eq.trans (if_neg h503) (Eq.trans (if_neg h504) rfl)))) (hJ.up (by omega)) 
noncomputable def fl302_41_1_b (self : Int → zM → Int × zM) (k56 : zM → Int × zM) (y1 y2 : Int) (y3 : Int) (m : zM) : Int × zM :=
  if y1 ≤ y3 then
  (k56 m)
  else
  (zs (f208_1 m) fun m506 =>
  self (y3 + 1) m506)
noncomputable def fl302_41_1 (k56 : zM → Int × zM) (y1 y2 : Int) : Nat → Int → zM → Int × zM
  | 0 => fun y3 m => (0, m)
  | n + 1 => fl302_41_1_b (fl302_41_1 k56 y1 y2 n) k56 y1 y2
theorem l302_41_1 {s : Nat × (Nat → Int32)} {S : zS} {m0 : zM} {d : Nat} {Q : Option zV → zM → Prop} {R0 : Int × zM} {k56 : zM → Int × zM} (y1 y2 : Int) (BE : Int) (hE : BE ≤ 1000000000) (hd : 20 ≤ d) (hy1 : 1 ≤ y1 ∧ y1 ≤ 900) (hy2 : 0 ≤ y2 ∧ y2 ≤ 6) (hf26 : ¬ S.1 26) (hf27 : ¬ S.1 27) (hf28 : ¬ S.1 28) (hf29 : ¬ S.1 29) (hf30 : ¬ S.1 30) (hf31 : ¬ S.1 31) (hf32 : ¬ S.1 32) (hf33 : ¬ S.1 33) (hg4 : ¬ S.2.1 4)
    (K56 : ∀ (m' : zM) (B' : Int), J S m0 B' m' → B' ≤ BE → R0 = k56 m' → X (EE s) d 302 56 [(0, zr 4 44), (2, zi y2)] [] m' Q) :
    ∀ (n : Nat) (y3 : Int) (m : zM) (B : Int), J S m0 B m → B + 11 * (n : Int) ≤ BE → (0 ≤ y3 ∧ y3 ≤ 900) → 900 - y3 < (n : Int) → R0 = fl302_41_1 k56 y1 y2 n y3 m → X (EE s) d 302 41 [(0, zr 4 44), (1, zi y1), (2, zi y2), (3, zi y3)] [] m Q := by
  intro n
  induction n with
  | zero =>
    intro y3 m B hJ hB hy3 hn hR
    exfalso
    omega
  | succ n ih =>
    intro y3 m B hJ hB hy3 hn hR
    replace hR : R0 = fl302_41_1_b (fl302_41_1 k56 y1 y2 n) k56 y1 y2 y3 m := hR
    refine X.iload_n 42 i302_41 rfl rfl rfl ?_
    refine X.iload_n 43 i302_42 rfl rfl rfl ?_
    refine X.icmpge 56 46 i302_43 rfl rfl rfl (fun h505 => ?_) (fun h505 => ?_)
    · refine X.cut [(0, zr 4 44), (2, zi y2)] i302_56 rfl ?_
      exact K56  m (B) (hJ.up (by omega)) (by omega)  (Eq.trans hR (Eq.trans (if_pos h505) rfl))
    · refine X.aload_n 47 i302_46 rfl rfl rfl ?_
      refine X.callv 50 [] [] [(0, zr 4 44)] i302_47 rfl (by decide) rfl rfl (by omega) rfl rfl (by decide) rfl t208 (Nat.le_of_ble_eq_true rfl) (Nat.le_of_ble_eq_true rfl) rfl ?_
      refine c208_1 (B := B)   (by omega) (hJ.up (by omega)) (by omega)  hf26 hf27 hf28 hf29 hf30 hf31 hf32 hf33 hg4 (fun m506 hFv508 hJ507 => ?_)
      show X (EE s) d 302 50 [(0, zr 4 44), (1, zi y1), (2, zi y2), (3, zi y3)] [] m506 _
      refine X.iinc 53 [(0, zr 4 44), (1, zi y1), (2, zi y2), (3, zi (y3 + 1))] i302_50 rfl rfl rfl (by omega) rfl ?_
      refine X.goto 41 i302_53 rfl rfl ?_
      exact ih (y3 + 1) m506 (B + 11) (hJ507.up (by omega)) (by omega) (by omega) (by omega) (Eq.trans hR (Eq.trans (if_neg h505) (Eq.trans (zs_eq hFv508.symm) rfl)))
noncomputable def fl304_6_1_b (self : Int → Int → Int) (k45 : Int → Int) (m : zM) (y1 y3 : Int) : Int :=
  if 4 ≤ y3 then
  (k45 y1)
  else
  (zn (if (m 4 45 (32 + y3)) ≤ y1 then
  (y1)
  else
  ((m 4 45 (32 + y3)))) fun v520 =>
  self v520 (y3 + 1))
noncomputable def fl304_6_1 (k45 : Int → Int) (m : zM) : Nat → Int → Int → Int
  | 0 => fun y1 y3 => 0
  | n + 1 => fl304_6_1_b (fl304_6_1 k45 m n) k45 m
theorem l304_6_1 {s : Nat × (Nat → Int32)} {S : zS} {m0 : zM} {m : zM} {B : Int} {d : Nat} {Q : Option zV → zM → Prop} {R0 : Int} {k45 : Int → Int} (hd : 13 ≤ d) (hJ : J S m0 B m) (hB9 : B ≤ 1000000000)
    (K45 : ∀ (x1 : Int) , ((-1) ≤ x1) → R0 = k45 x1 → X (EE s) d 304 45 [(1, zl x1)] [] m Q) :
    ∀ (n : Nat) (y1 y3 : Int) , ((-1) ≤ y1) → (0 ≤ y3 ∧ y3 ≤ 4) → 4 - y3 < (n : Int) → R0 = fl304_6_1 k45 m n y1 y3 → X (EE s) d 304 6 [(0, zr 4 44), (1, zl y1), (3, zi y3)] [] m Q := by
  intro n
  induction n with
  | zero =>
    intro y1 y3 hy1 hy3 hn hR
    exfalso
    omega
  | succ n ih =>
    intro y1 y3 hy1 hy3 hn hR
    replace hR : R0 = fl304_6_1_b (fl304_6_1 k45 m n) k45 m y1 y3 := hR
    refine X.iload_n 7 i304_6 rfl rfl rfl ?_
    refine X.iconst 8 i304_7 rfl rfl (by decide) ?_
    refine X.icmpge 45 11 i304_8 rfl rfl rfl (fun h517 => ?_) (fun h517 => ?_)
    · refine X.cut [(1, zl y1)] i304_45 rfl ?_
      exact K45 y1 (by first | trivial | omega) (Eq.trans hR (Eq.trans (if_pos h517) rfl))
    · refine X.aload_n 12 i304_11 rfl rfl rfl ?_
      refine X.getF 15 i304_12 rfl rfl (by decide) rfl rfl ?_
      refine X.bipush 17 i304_15 rfl rfl (by decide) ?_
      refine X.iload_n 18 i304_17 rfl rfl rfl ?_
      refine X.iadd 19 i304_18 rfl rfl (by omega) ?_
      refine X.lald 20 i304_19 rfl rfl (by decide) rfl (by omega) ?_
      refine X.lload_n 21 i304_20 rfl rfl rfl ?_
      refine X.lcmp 22 i304_21 rfl rfl (fun z518 hz518 => ?_)
      have hK523 : ∀ (v : Int) , ((-1) ≤ v) → (if (m 4 45 (32 + y3)) ≤ y1 then
          (y1)
          else
          ((m 4 45 (32 + y3)))) = v → X (EE s) d 304 38 [(0, zr 4 44), (3, zi y3)] [zl v] m Q := by
        intro v520 hv520 hT524
        refine X.lstore_n 39 [(0, zr 4 44), (1, zl v520), (3, zi y3)] i304_38 rfl rfl rfl ?_
        refine X.iinc 42 [(0, zr 4 44), (1, zl v520), (3, zi (y3 + 1))] i304_39 rfl rfl rfl (by omega) rfl ?_
        refine X.goto 6 i304_42 rfl rfl ?_
        exact ih v520 (y3 + 1) (by omega) (by omega) (by omega) (Eq.trans hR (Eq.trans (if_neg h517) (Eq.trans (zn_eq hT524.symm) rfl)))
      refine X.ifle 37 25 i304_22 rfl rfl rfl (fun h519 => ?_) (fun h519 => ?_)
      · have h519c : (m 4 45 (32 + y3)) ≤ y1 := by omega
        clear h519 hz518
        refine X.lload_n 38 i304_37 rfl rfl rfl ?_
        refine X.cut [(0, zr 4 44), (3, zi y3)] i304_38 rfl ?_
        exact hK523 y1 (by first | trivial | omega) (Eq.trans (if_pos h519c) rfl)
      · have h519c : ¬ (m 4 45 (32 + y3)) ≤ y1 := by omega
        clear h519 hz518
        refine X.aload_n 26 i304_25 rfl rfl rfl ?_
        refine X.getF 29 i304_26 rfl rfl (by decide) rfl rfl ?_
        refine X.bipush 31 i304_29 rfl rfl (by decide) ?_
        refine X.iload_n 32 i304_31 rfl rfl rfl ?_
        refine X.iadd 33 i304_32 rfl rfl (by omega) ?_
        refine X.lald 34 i304_33 rfl rfl (by decide) rfl (by omega) ?_
        refine X.goto 38 i304_34 rfl rfl ?_
        refine X.cut [(0, zr 4 44), (3, zi y3)] i304_38 rfl ?_
        exact hK523 (m 4 45 (32 + y3)) (by first | trivial | omega) (Eq.trans (if_neg h519c) rfl)
-- WorkMeterModel.greatestOfAll
noncomputable def f304_1 (m : zM) : Int :=
  fl304_6_1 (fun y501 =>
  y501) m (zfu 5) (-1) 0
-- WorkMeterModel.greatestOfAll
theorem c304_1 {s : Nat × (Nat → Int32)} {S : zS} {m0 m : zM} {B : Int} {d : Nat} {Q : Option zV → zM → Prop} (hd : 13 ≤ d) (hJ : J S m0 B m) (hB : B + 0 ≤ 1000000000) (hQ : ∀ (v : Int), ((-1) ≤ v) → f304_1 m = v → Q (some (zl v)) m) : X (EE s) d 304 0 [(0, zr 4 44)] [] m Q := by
  refine X.ldc2 3 i304_0 rfl rfl (by decide) ?_
  refine X.lstore_n 4 [(0, zr 4 44), (1, zl (-1))] i304_3 rfl rfl rfl ?_
  refine X.iconst 5 i304_4 rfl rfl (by decide) ?_
  refine X.istore_n 6 [(0, zr 4 44), (1, zl (-1)), (3, zi 0)] i304_5 rfl rfl rfl ?_
  have hz5 := zfu_eq 5
  refine l304_6_1 (s := s) (m := m) (B := B) (d := d) (R0 := (f304_1 m))    (by omega) (hJ.up (by omega)) (by omega) (fun y501 hby501 hR505 => ?_) (zfu 5) (-1) 0 (by omega) (by omega) (by omega) rfl
  refine X.lload_n 46 i304_45 rfl rfl rfl ?_
  refine X.retl i304_46 rfl t304 ?_
  exact hQ y501 (by first | trivial | omega) (Eq.trans hR505 rfl) 
-- WorkMeterModel.seen
noncomputable def f303_1 (a1 : Int) (m : zM) : Int :=
  if a1 = 0 then
  (zn (w64 (((m 4 45 64)).tdiv (m 4 45 5))) fun z503 =>
  z503)
  else
  (if a1 = 1 then
  (zn (w64 (((m 4 45 69)).tdiv (m 4 45 5))) fun z506 =>
  z506)
  else
  (if a1 = 2 then
  ((m 4 45 10))
  else
  (if a1 = 3 then
  (zn (f304_1 m) fun v511 =>
  v511)
  else
  (if a1 = 4 then
  (zn (f231_1 m) fun v515 =>
  v515)
  else
  (if a1 = 5 then
  ((m 4 45 12))
  else
  ((m 4 45 0)))))))
end
