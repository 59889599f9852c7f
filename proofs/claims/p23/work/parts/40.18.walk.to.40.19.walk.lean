section
-- WorkMeterModel.block
theorem c299_1 {s : Nat × (Nat → Int32)} {S : zS} {m0 m : zM} {B : Int} {d : Nat} {Q : Option zV → zM → Prop} (a1 : Int) (hd : 13 ≤ d) (hJ : J S m0 B m) (hB : B + 0 ≤ 1000000000) (ha1 : (-2147483648) ≤ a1 ∧ a1 ≤ 2147483647) (hQ : ∀ (v : Int), (True) → f299_1 a1 m = v → Q (some (zl v)) m) : X (EE s) d 299 0 [(0, zr 4 44), (1, zi a1)] [] m Q := by
  refine X.iload_n 1 (zi299 0) rfl rfl rfl ?_
  by_cases h501 : a1 = 0
  · refine X.tsIn 40 0 (zi299 1) rfl (by omega) rfl rfl ?_
    refine X.cut [(0, zr 4 44)] (zi299 40) rfl ?_
    refine X.aload_n 41 (zi299 40) rfl rfl rfl ?_
    refine X.getF 44 (zi299 41) rfl rfl (by decide) rfl rfl ?_
    refine X.bipush 46 (zi299 44) rfl rfl (by decide) ?_
    refine X.lald 47 (zi299 46) rfl rfl (by decide) rfl (by omega) ?_
    refine X.retl (zi299 47) rfl t299 ?_
    exact hQ (m 4 45 22) (by first | trivial | omega) (Eq.trans (if_pos h501) rfl) 
  by_cases h502 : a1 = 1
  · refine X.tsIn 48 1 (zi299 1) rfl (by omega) rfl rfl ?_
    refine X.cut [(0, zr 4 44)] (zi299 48) rfl ?_
    refine X.aload_n 49 (zi299 48) rfl rfl rfl ?_
    refine X.getF 52 (zi299 49) rfl rfl (by decide) rfl rfl ?_
    refine X.bipush 54 (zi299 52) rfl rfl (by decide) ?_
    refine X.lald 55 (zi299 54) rfl rfl (by decide) rfl (by omega) ?_
    refine X.retl (zi299 55) rfl t299 ?_
    exact hQ (m 4 45 23) (by first | trivial | omega) (Eq.trans (if_neg h501) (Eq.trans (if_pos h502) rfl)) 
  by_cases h503 : a1 = 2
  · refine X.tsIn 56 2 (zi299 1) rfl (by omega) rfl rfl ?_
    refine X.cut [(0, zr 4 44)] (zi299 56) rfl ?_
    refine X.aload_n 57 (zi299 56) rfl rfl rfl ?_
    refine X.getF 60 (zi299 57) rfl rfl (by decide) rfl rfl ?_
    refine X.bipush 62 (zi299 60) rfl rfl (by decide) ?_
    refine X.lald 63 (zi299 62) rfl rfl (by decide) rfl (by omega) ?_
    refine X.retl (zi299 63) rfl t299 ?_
    exact hQ (m 4 45 24) (by first | trivial | omega) (Eq.trans (if_neg h501) (Eq.trans (if_neg h502) (Eq.trans (if_pos h503) rfl))) 
  by_cases h504 : a1 = 3
  · refine X.tsIn 64 3 (zi299 1) rfl (by omega) rfl rfl ?_
    refine X.cut [(0, zr 4 44)] (zi299 64) rfl ?_
    refine X.aload_n 65 (zi299 64) rfl rfl rfl ?_
    refine X.getF 68 (zi299 65) rfl rfl (by decide) rfl rfl ?_
    refine X.bipush 70 (zi299 68) rfl rfl (by decide) ?_
    refine X.lald 71 (zi299 70) rfl rfl (by decide) rfl (by omega) ?_
    refine X.retl (zi299 71) rfl t299 ?_
    exact hQ (m 4 45 25) (by first | trivial | omega) (Eq.trans (if_neg h501) (Eq.trans (if_neg h502) (Eq.trans (if_neg h503) (Eq.trans (if_pos h504) rfl)))) 
  by_cases h505 : a1 = 4
  · refine X.tsIn 72 4 (zi299 1) rfl (by omega) rfl rfl ?_
    refine X.cut [(0, zr 4 44)] (zi299 72) rfl ?_
    refine X.aload_n 73 (zi299 72) rfl rfl rfl ?_
    refine X.getF 76 (zi299 73) rfl rfl (by decide) rfl rfl ?_
    refine X.bipush 78 (zi299 76) rfl rfl (by decide) ?_
    refine X.lald 79 (zi299 78) rfl rfl (by decide) rfl (by omega) ?_
    refine X.retl (zi299 79) rfl t299 ?_
    exact hQ (m 4 45 26) (by first | trivial | omega) (Eq.trans (if_neg h501) (Eq.trans (if_neg h502) (Eq.trans (if_neg h503) (Eq.trans (if_neg h504) (Eq.trans (if_pos h505) rfl))))) 
  by_cases h506 : a1 = 5
  · refine X.tsIn 80 5 (zi299 1) rfl (by omega) rfl rfl ?_
    refine X.cut [(0, zr 4 44)] (zi299 80) rfl ?_
    refine X.aload_n 81 (zi299 80) rfl rfl rfl ?_
    refine X.getF 84 (zi299 81) rfl rfl (by decide) rfl rfl ?_
    refine X.bipush 86 (zi299 84) rfl rfl (by decide) ?_
    refine X.lald 87 (zi299 86) rfl rfl (by decide) rfl (by omega) ?_
    refine X.aload_n 88 (zi299 87) rfl rfl rfl ?_
    refine X.getF 91 (zi299 88) rfl rfl (by decide) rfl rfl ?_
    refine X.bipush 93 (zi299 91) rfl rfl (by decide) ?_
    refine X.lald 94 (zi299 93) rfl rfl (by decide) rfl (by omega) ?_
    refine X.lconst (y := 0) 95 (zi299 94) rfl rfl rfl ?_
    refine X.lcmp 96 (zi299 95) rfl rfl (fun z507 hz507 => ?_)
    have hK512 : ∀ (v : Int) , (0 ≤ v ∧ v ≤ 32) → (if (m 4 45 26) ≤ 0 then
        (0)
        else
        (32)) = v → X (EE s) d 299 105 [(0, zr 4 44)] [zi v, zl (m 4 45 27)] m Q := by
      intro v509 hv509 hT513
      refine X.i2l 106 (zi299 105) rfl rfl ?_
      refine X.llE 107 .lor (fun x y => x ||| y) (zi299 106) rfl rfl rfl (fun _ _ => rfl) (fun z514 ez514 hz514 => ?_)
      refine X.aload_n 108 (zi299 107) rfl rfl rfl ?_
      refine X.getF 111 (zi299 108) rfl rfl (by decide) rfl rfl ?_
      refine X.bipush 113 (zi299 111) rfl rfl (by decide) ?_
      refine X.lald 114 (zi299 113) rfl rfl (by decide) rfl (by omega) ?_
      refine X.lconst (y := 1) 115 (zi299 114) rfl rfl rfl ?_
      refine X.lcmp 116 (zi299 115) rfl rfl (fun z515 hz515 => ?_)
      have hK520 : ∀ (v : Int) , (0 ≤ v ∧ v ≤ 128) → (if (m 4 45 21) = 1 then
          (128)
          else
          (0)) = v → X (EE s) d 299 126 [] [zi v, zl z514] m Q := by
        intro v517 hv517 hT521
        refine X.i2l 127 (zi299 126) rfl rfl ?_
        refine X.llE 128 .lor (fun x y => x ||| y) (zi299 127) rfl rfl rfl (fun _ _ => rfl) (fun z522 ez522 hz522 => ?_)
        refine X.retl (zi299 128) rfl t299 ?_
        exact hQ z522 (by first | trivial | omega) (Eq.trans (if_neg h501) (Eq.trans (if_neg h502) (Eq.trans (if_neg h503) (Eq.trans (if_neg h504) (Eq.trans (if_neg h505) (Eq.trans (if_pos h506) (Eq.trans (zn_eq hT513.symm) (Eq.trans (zn_eq ez514) (Eq.trans (zn_eq hT521.symm) (Eq.trans (zn_eq ez522) rfl)))))))))) 
      refine X.ifne 125 119 (zi299 116) rfl rfl rfl (fun h516 => ?_) (fun h516 => ?_)
      · have h516c : ¬ (m 4 45 21) = 1 := by omega
        clear h516 hz515
        refine X.cut [] (zi299 125) rfl ?_
        refine X.iconst 126 (zi299 125) rfl rfl (by decide) ?_
        exact hK520 0 (by first | trivial | omega) (Eq.trans (if_neg h516c) rfl)
      · have h516c : (m 4 45 21) = 1 := by omega
        clear h516 hz515
        refine X.sipush 122 (zi299 119) rfl rfl (by decide) ?_
        refine X.goto 126 (zi299 122) rfl rfl ?_
        refine X.cut [] (zi299 126) rfl ?_
        exact hK520 128 (by first | trivial | omega) (Eq.trans (if_pos h516c) rfl)
    refine X.ifle 104 99 (zi299 96) rfl rfl rfl (fun h508 => ?_) (fun h508 => ?_)
    · have h508c : (m 4 45 26) ≤ 0 := by omega
      clear h508 hz507
      refine X.iconst 105 (zi299 104) rfl rfl (by decide) ?_
      exact hK512 0 (by first | trivial | omega) (Eq.trans (if_pos h508c) rfl)
    · have h508c : ¬ (m 4 45 26) ≤ 0 := by omega
      clear h508 hz507
      refine X.bipush 101 (zi299 99) rfl rfl (by decide) ?_
      refine X.goto 105 (zi299 101) rfl rfl ?_
      exact hK512 32 (by first | trivial | omega) (Eq.trans (if_neg h508c) rfl)
  refine X.tsOut 129 (zi299 1) rfl (by omega) rfl ?_
  refine X.cut [] (zi299 129) rfl ?_
  refine X.ldc2 132 (zi299 129) rfl rfl (by decide) ?_
  refine X.retl (zi299 132) rfl t299 ?_
  exact hQ (-1) (by first | trivial | omega) (Eq.trans (if_neg h501) (Eq.trans (if_neg h502) (Eq.trans (if_neg h503) (Eq.trans (if_neg h504) (Eq.trans (if_neg h505) (Eq.trans (if_neg h506) rfl)))))) 
-- WorkMeter.demand
noncomputable def f157_1 (a1 : Int) (m : zM) : Int :=
  if a1 = 0 then
  ((m 0 30 2))
  else
  (zn (if a1 = 1 then
  ((m 0 30 3))
  else
  ((-1))) fun v504 =>
  v504)
-- WorkMeter.demand
theorem c157_1 {s : Nat × (Nat → Int32)} {S : zS} {m0 m : zM} {B : Int} {d : Nat} {Q : Option zV → zM → Prop} (a1 : Int) (hd : 13 ≤ d) (hJ : J S m0 B m) (hB : B + 0 ≤ 1000000000) (ha1 : (-2147483648) ≤ a1 ∧ a1 ≤ 2147483647) (hQ : ∀ (v : Int), (True) → f157_1 a1 m = v → Q (some (zl v)) m) : X (EE s) d 157 0 [(0, zr 4 40), (1, zi a1)] [] m Q := by
  refine X.iload_n 1 (zi157 0) rfl rfl rfl ?_
  refine X.ifne 15 4 (zi157 1) rfl rfl rfl (fun h501 => ?_) (fun h501 => ?_)
  · refine X.iload_n 16 (zi157 15) rfl rfl rfl ?_
    refine X.iconst 17 (zi157 16) rfl rfl (by decide) ?_
    have hK507 : ∀ (v : Int) , ((-2147483648) ≤ v ∧ v ≤ 2147483647) → (if a1 = 1 then
        ((m 0 30 3))
        else
        ((-1))) = v → X (EE s) d 157 37 [] [zl v] m Q := by
      intro v504 hv504 hT508
      refine X.retl (zi157 37) rfl t157 ?_
      exact hQ v504 (by first | trivial | omega) (Eq.trans (if_neg h501) (Eq.trans (zn_eq hT508.symm) rfl)) 
    refine X.icmpne 34 20 (zi157 17) rfl rfl rfl (fun h502 => ?_) (fun h502 => ?_)
    · refine X.cut [] (zi157 34) rfl ?_
      refine X.ldc2 37 (zi157 34) rfl rfl (by decide) ?_
      exact hK507 (-1) (by first | trivial | omega) (Eq.trans (if_neg h502) rfl)
    · refine X.aload_n 21 (zi157 20) rfl rfl rfl ?_
      refine X.getF 24 (zi157 21) rfl rfl (by decide) rfl rfl ?_
      refine X.getR 27 (zi157 24) rfl rfl (by decide) rfl rfl ?_
      refine X.getIr 30 3 (zi157 27) rfl rfl (by decide) rfl rfl rfl (fun h503 => ?_)
      refine X.i2l 31 (zi157 30) rfl rfl ?_
      refine X.goto 37 (zi157 31) rfl rfl ?_
      refine X.cut [] (zi157 37) rfl ?_
      exact hK507 (m 0 30 3) (by first | trivial | omega) (Eq.trans (if_pos h502) rfl)
  · refine X.aload_n 5 (zi157 4) rfl rfl rfl ?_
    refine X.getF 8 (zi157 5) rfl rfl (by decide) rfl rfl ?_
    refine X.getR 11 (zi157 8) rfl rfl (by decide) rfl rfl ?_
    refine X.getL 14 2 (zi157 11) rfl rfl (by decide) rfl rfl rfl ?_
    refine X.retl (zi157 14) rfl t157 ?_
    exact hQ (m 0 30 2) (by first | trivial | omega) (Eq.trans (if_pos h501) rfl) 
-- WorkMeterModel.demand
noncomputable def f300_1 (a1 : Int) (m : zM) : Int :=
  zn (if a1 = 0 then
  ((m 4 45 19))
  else
  (if a1 = 1 then
  ((m 4 45 20))
  else
  ((-1)))) fun v503 =>
  v503
-- WorkMeterModel.demand
theorem c300_1 {s : Nat × (Nat → Int32)} {S : zS} {m0 m : zM} {B : Int} {d : Nat} {Q : Option zV → zM → Prop} (a1 : Int) (hd : 13 ≤ d) (hJ : J S m0 B m) (hB : B + 0 ≤ 1000000000) (ha1 : (-2147483648) ≤ a1 ∧ a1 ≤ 2147483647) (hQ : ∀ (v : Int), (True) → f300_1 a1 m = v → Q (some (zl v)) m) : X (EE s) d 300 0 [(0, zr 4 44), (1, zi a1)] [] m Q := by
  refine X.iload_n 1 (zi300 0) rfl rfl rfl ?_
  have hK506 : ∀ (v : Int) , (True) → (if a1 = 0 then
      ((m 4 45 19))
      else
      (if a1 = 1 then
      ((m 4 45 20))
      else
      ((-1)))) = v → X (EE s) d 300 32 [] [zl v] m Q := by
    intro v503 hv503 hT507
    refine X.retl (zi300 32) rfl t300 ?_
    exact hQ v503 (by first | trivial | omega) (Eq.trans (zn_eq hT507.symm) rfl) 
  refine X.ifne 14 4 (zi300 1) rfl rfl rfl (fun h501 => ?_) (fun h501 => ?_)
  · refine X.iload_n 15 (zi300 14) rfl rfl rfl ?_
    refine X.iconst 16 (zi300 15) rfl rfl (by decide) ?_
    refine X.icmpne 29 19 (zi300 16) rfl rfl rfl (fun h502 => ?_) (fun h502 => ?_)
    · refine X.cut [] (zi300 29) rfl ?_
      refine X.ldc2 32 (zi300 29) rfl rfl (by decide) ?_
      exact hK506 (-1) (by first | trivial | omega) (Eq.trans (if_neg h501) (Eq.trans (if_neg h502) rfl))
    · refine X.aload_n 20 (zi300 19) rfl rfl rfl ?_
      refine X.getF 23 (zi300 20) rfl rfl (by decide) rfl rfl ?_
      refine X.bipush 25 (zi300 23) rfl rfl (by decide) ?_
      refine X.lald 26 (zi300 25) rfl rfl (by decide) rfl (by omega) ?_
      refine X.goto 32 (zi300 26) rfl rfl ?_
      refine X.cut [] (zi300 32) rfl ?_
      exact hK506 (m 4 45 20) (by first | trivial | omega) (Eq.trans (if_neg h501) (Eq.trans (if_pos h502) rfl))
  · refine X.aload_n 5 (zi300 4) rfl rfl rfl ?_
    refine X.getF 8 (zi300 5) rfl rfl (by decide) rfl rfl ?_
    refine X.bipush 10 (zi300 8) rfl rfl (by decide) ?_
    refine X.lald 11 (zi300 10) rfl rfl (by decide) rfl (by omega) ?_
    refine X.goto 32 (zi300 11) rfl rfl ?_
    refine X.cut [] (zi300 32) rfl ?_
    exact hK506 (m 4 45 19) (by first | trivial | omega) (Eq.trans (if_pos h501) rfl)
-- WorkMeter.greatest
noncomputable def f158_1 (a1 a2 : Int) (m : zM) : Int :=
  if a1 < 0 then
  ((-1))
  else
  (if 4 ≤ a1 then
  ((-1))
  else
  (if a2 = 0 then
  ((m 0 31 a1))
  else
  (zn (if a2 = 1 then
  ((m 0 32 a1))
  else
  ((-1))) fun v509 =>
  v509)))
-- WorkMeter.greatest
theorem c158_1 {s : Nat × (Nat → Int32)} {S : zS} {m0 m : zM} {B : Int} {d : Nat} {Q : Option zV → zM → Prop} (a1 a2 : Int) (hd : 13 ≤ d) (hJ : J S m0 B m) (hB : B + 0 ≤ 1000000000) (ha1 : (-2147483648) ≤ a1 ∧ a1 ≤ 2147483647) (ha2 : (-2147483648) ≤ a2 ∧ a2 ≤ 2147483647) (hQ : ∀ (v : Int), (True) → f158_1 a1 a2 m = v → Q (some (zl v)) m) : X (EE s) d 158 0 [(0, zr 4 40), (1, zi a1), (2, zi a2)] [] m Q := by
  refine X.iload_n 1 (zi158 0) rfl rfl rfl ?_
  refine X.calls 4 [zi a1] [] [(0, zi a1)] (zi158 1) (by decide) rfl rfl (by omega) rfl rfl t80 (Nat.le_of_ble_eq_true rfl) (Nat.le_of_ble_eq_true rfl) rfl ?_
  refine X.iload_n 1 (zi80 0) rfl rfl rfl ?_
  refine X.iflt 13 4 (zi80 1) rfl rfl rfl (fun h501 => ?_) (fun h501 => ?_)
  · refine X.cut [] (zi80 13) rfl ?_
    refine X.iconst 14 (zi80 13) rfl rfl (by decide) ?_
    refine X.retz (zi80 14) rfl t80 (by omega) ?_
    show X (EE s) d 158 4 [(0, zr 4 40), (1, zi a1), (2, zi a2)] [zi 0] m _
    refine X.ifne 11 7 (zi158 4) rfl rfl rfl (fun h502 => (by exfalso; omega)) (fun h502 => ?_)
    refine X.ldc2 10 (zi158 7) rfl rfl (by decide) ?_
    refine X.retl (zi158 10) rfl t158 ?_
    exact hQ (-1) (by first | trivial | omega) (Eq.trans (if_pos h501) rfl) 
  · refine X.iload_n 5 (zi80 4) rfl rfl rfl ?_
    refine X.iconst 6 (zi80 5) rfl rfl (by decide) ?_
    refine X.icmpge 13 9 (zi80 6) rfl rfl rfl (fun h503 => ?_) (fun h503 => ?_)
    · refine X.cut [] (zi80 13) rfl ?_
      refine X.iconst 14 (zi80 13) rfl rfl (by decide) ?_
      refine X.retz (zi80 14) rfl t80 (by omega) ?_
      show X (EE s) d 158 4 [(0, zr 4 40), (1, zi a1), (2, zi a2)] [zi 0] m _
      refine X.ifne 11 7 (zi158 4) rfl rfl rfl (fun h504 => (by exfalso; omega)) (fun h504 => ?_)
      refine X.ldc2 10 (zi158 7) rfl rfl (by decide) ?_
      refine X.retl (zi158 10) rfl t158 ?_
      exact hQ (-1) (by first | trivial | omega) (Eq.trans (if_neg h501) (Eq.trans (if_pos h503) rfl)) 
    · refine X.iconst 10 (zi80 9) rfl rfl (by decide) ?_
      refine X.goto 14 (zi80 10) rfl rfl ?_
      refine X.cut [] (zi80 14) rfl ?_
      refine X.retz (zi80 14) rfl t80 (by omega) ?_
      show X (EE s) d 158 4 [(0, zr 4 40), (1, zi a1), (2, zi a2)] [zi 1] m _
      refine X.ifne 11 7 (zi158 4) rfl rfl rfl (fun h505 => ?_) (fun h505 => (by exfalso; omega))
      refine X.iload_n 12 (zi158 11) rfl rfl rfl ?_
      refine X.ifne 28 15 (zi158 12) rfl rfl rfl (fun h506 => ?_) (fun h506 => ?_)
      · refine X.iload_n 29 (zi158 28) rfl rfl rfl ?_
        refine X.iconst 30 (zi158 29) rfl rfl (by decide) ?_
        have hK512 : ∀ (v : Int) , ((-2147483648) ≤ v ∧ v ≤ 2147483647) → (if a2 = 1 then
            ((m 0 32 a1))
            else
            ((-1))) = v → X (EE s) d 158 52 [] [zl v] m Q := by
          intro v509 hv509 hT513
          refine X.retl (zi158 52) rfl t158 ?_
          exact hQ v509 (by first | trivial | omega) (Eq.trans (if_neg h501) (Eq.trans (if_neg h503) (Eq.trans (if_neg h506) (Eq.trans (zn_eq hT513.symm) rfl)))) 
        refine X.icmpne 49 33 (zi158 30) rfl rfl rfl (fun h507 => ?_) (fun h507 => ?_)
        · refine X.cut [] (zi158 49) rfl ?_
          refine X.ldc2 52 (zi158 49) rfl rfl (by decide) ?_
          exact hK512 (-1) (by first | trivial | omega) (Eq.trans (if_neg h507) rfl)
        · refine X.aload_n 34 (zi158 33) rfl rfl rfl ?_
          refine X.getF 37 (zi158 34) rfl rfl (by decide) rfl rfl ?_
          refine X.getR 40 (zi158 37) rfl rfl (by decide) rfl rfl ?_
          refine X.getR 43 (zi158 40) rfl rfl (by decide) rfl rfl ?_
          refine X.iload_n 44 (zi158 43) rfl rfl rfl ?_
          refine X.ialdr 45 (zi158 44) rfl rfl (by decide) rfl (by omega) (fun h508 => ?_)
          refine X.i2l 46 (zi158 45) rfl rfl ?_
          refine X.goto 52 (zi158 46) rfl rfl ?_
          refine X.cut [] (zi158 52) rfl ?_
          exact hK512 (m 0 32 a1) (by first | trivial | omega) (Eq.trans (if_pos h507) rfl)
      · refine X.aload_n 16 (zi158 15) rfl rfl rfl ?_
        refine X.getF 19 (zi158 16) rfl rfl (by decide) rfl rfl ?_
        refine X.getR 22 (zi158 19) rfl rfl (by decide) rfl rfl ?_
        refine X.getR 25 (zi158 22) rfl rfl (by decide) rfl rfl ?_
        refine X.iload_n 26 (zi158 25) rfl rfl rfl ?_
        refine X.lald 27 (zi158 26) rfl rfl (by decide) rfl (by omega) ?_
        refine X.retl (zi158 27) rfl t158 ?_
        exact hQ (m 0 31 a1) (by first | trivial | omega) (Eq.trans (if_neg h501) (Eq.trans (if_neg h503) (Eq.trans (if_pos h506) rfl))) 
-- WorkMeterModel.greatest
noncomputable def f301_1 (a1 a2 : Int) (m : zM) : Int :=
  if a1 < 0 then
  ((-1))
  else
  (if a1 ≤ 3 then
  (zn (if a2 = 0 then
  ((m 4 45 (32 + a1)))
  else
  (if a2 = 1 then
  ((m 4 45 (36 + a1)))
  else
  ((-1)))) fun v510 =>
  v510)
  else
  ((-1)))
-- WorkMeterModel.greatest
theorem c301_1 {s : Nat × (Nat → Int32)} {S : zS} {m0 m : zM} {B : Int} {d : Nat} {Q : Option zV → zM → Prop} (a1 a2 : Int) (hd : 13 ≤ d) (hJ : J S m0 B m) (hB : B + 0 ≤ 1000000000) (ha1 : (-2147483648) ≤ a1 ∧ a1 ≤ 2147483647) (ha2 : (-2147483648) ≤ a2 ∧ a2 ≤ 2147483647) (hQ : ∀ (v : Int), (True) → f301_1 a1 a2 m = v → Q (some (zl v)) m) : X (EE s) d 301 0 [(0, zr 4 44), (1, zi a1), (2, zi a2)] [] m Q := by
  refine X.iload_n 1 (zi301 0) rfl rfl rfl ?_
  refine X.calls 4 [zi a1] [] [(0, zi a1)] (zi301 1) (by decide) rfl rfl (by omega) rfl rfl t242 (Nat.le_of_ble_eq_true rfl) (Nat.le_of_ble_eq_true rfl) rfl ?_
  refine X.iload_n 1 (zi242 0) rfl rfl rfl ?_
  refine X.i2l 2 (zi242 1) rfl rfl ?_
  refine X.lconst (y := 0) 3 (zi242 2) rfl rfl rfl ?_
  refine X.ldc2 6 (zi242 3) rfl rfl (by decide) ?_
  refine X.calls 9 [zl a1, zl 0, zl 3] [] [(0, zl a1), (2, zl 0), (4, zl 3)] (zi242 6) (by decide) rfl rfl (by omega) rfl rfl t204 (Nat.le_of_ble_eq_true rfl) (Nat.le_of_ble_eq_true rfl) rfl ?_
  refine X.lload_n 1 (zi204 0) rfl rfl rfl ?_
  refine X.lload_n 2 (zi204 1) rfl rfl rfl ?_
  refine X.lcmp 3 (zi204 2) rfl rfl (fun z501 hz501 => ?_)
  refine X.iflt 17 6 (zi204 3) rfl rfl rfl (fun h502 => ?_) (fun h502 => ?_)
  · have h502c : a1 < 0 := by omega
    clear h502 hz501
    refine X.cut [] (zi204 17) rfl ?_
    refine X.iconst 18 (zi204 17) rfl rfl (by decide) ?_
    refine X.retz (zi204 18) rfl t204 (by omega) ?_
    show X (EE s) (d - 1) 242 9 [(0, zi a1)] [zi 0] m _
    refine X.retz (zi242 9) rfl t242 (by omega) ?_
    show X (EE s) d 301 4 [(0, zr 4 44), (1, zi a1), (2, zi a2)] [zi 0] m _
    refine X.ifne 11 7 (zi301 4) rfl rfl rfl (fun h503 => (by exfalso; omega)) (fun h503 => ?_)
    refine X.ldc2 10 (zi301 7) rfl rfl (by decide) ?_
    refine X.retl (zi301 10) rfl t301 ?_
    exact hQ (-1) (by first | trivial | omega) (Eq.trans (if_pos h502c) rfl) 
  · have h502c : ¬ a1 < 0 := by omega
    clear h502 hz501
    refine X.lload_n 7 (zi204 6) rfl rfl rfl ?_
    refine X.lload 9 (zi204 7) rfl rfl rfl ?_
    refine X.lcmp 10 (zi204 9) rfl rfl (fun z504 hz504 => ?_)
    refine X.ifgt 17 13 (zi204 10) rfl rfl rfl (fun h505 => ?_) (fun h505 => ?_)
    · have h505c : ¬ a1 ≤ 3 := by omega
      clear h505 hz504
      refine X.cut [] (zi204 17) rfl ?_
      refine X.iconst 18 (zi204 17) rfl rfl (by decide) ?_
      refine X.retz (zi204 18) rfl t204 (by omega) ?_
      show X (EE s) (d - 1) 242 9 [(0, zi a1)] [zi 0] m _
      refine X.retz (zi242 9) rfl t242 (by omega) ?_
      show X (EE s) d 301 4 [(0, zr 4 44), (1, zi a1), (2, zi a2)] [zi 0] m _
      refine X.ifne 11 7 (zi301 4) rfl rfl rfl (fun h506 => (by exfalso; omega)) (fun h506 => ?_)
      refine X.ldc2 10 (zi301 7) rfl rfl (by decide) ?_
      refine X.retl (zi301 10) rfl t301 ?_
      exact hQ (-1) (by first | trivial | omega) (Eq.trans (if_neg h502c) (Eq.trans (if_neg h505c) rfl)) 
    · have h505c : a1 ≤ 3 := by omega
      clear h505 hz504
      refine X.iconst 14 (zi204 13) rfl rfl (by decide) ?_
      refine X.goto 18 (zi204 14) rfl rfl ?_
      refine X.cut [] (zi204 18) rfl ?_
      refine X.retz (zi204 18) rfl t204 (by omega) ?_
      show X (EE s) (d - 1) 242 9 [(0, zi a1)] [zi 1] m _
      refine X.retz (zi242 9) rfl t242 (by omega) ?_
      show X (EE s) d 301 4 [(0, zr 4 44), (1, zi a1), (2, zi a2)] [zi 1] m _
      refine X.ifne 11 7 (zi301 4) rfl rfl rfl (fun h507 => ?_) (fun h507 => (by exfalso; omega))
      refine X.iload_n 12 (zi301 11) rfl rfl rfl ?_
      have hK513 : ∀ (v : Int) , (True) → (if a2 = 0 then
          ((m 4 45 (32 + a1)))
          else
          (if a2 = 1 then
          ((m 4 45 (36 + a1)))
          else
          ((-1)))) = v → X (EE s) d 301 47 [] [zl v] m Q := by
        intro v510 hv510 hT514
        refine X.retl (zi301 47) rfl t301 ?_
        exact hQ v510 (by first | trivial | omega) (Eq.trans (if_neg h502c) (Eq.trans (if_pos h505c) (Eq.trans (zn_eq hT514.symm) rfl))) 
      refine X.ifne 27 15 (zi301 12) rfl rfl rfl (fun h508 => ?_) (fun h508 => ?_)
      · refine X.iload_n 28 (zi301 27) rfl rfl rfl ?_
        refine X.iconst 29 (zi301 28) rfl rfl (by decide) ?_
        refine X.icmpne 44 32 (zi301 29) rfl rfl rfl (fun h509 => ?_) (fun h509 => ?_)
        · refine X.cut [] (zi301 44) rfl ?_
          refine X.ldc2 47 (zi301 44) rfl rfl (by decide) ?_
          exact hK513 (-1) (by first | trivial | omega) (Eq.trans (if_neg h508) (Eq.trans (if_neg h509) rfl))
        · refine X.aload_n 33 (zi301 32) rfl rfl rfl ?_
          refine X.getF 36 (zi301 33) rfl rfl (by decide) rfl rfl ?_
          refine X.bipush 38 (zi301 36) rfl rfl (by decide) ?_
          refine X.iload_n 39 (zi301 38) rfl rfl rfl ?_
          refine X.iadd 40 (zi301 39) rfl rfl (by omega) ?_
          refine X.lald 41 (zi301 40) rfl rfl (by decide) rfl (by omega) ?_
          refine X.goto 47 (zi301 41) rfl rfl ?_
          refine X.cut [] (zi301 47) rfl ?_
          exact hK513 (m 4 45 (36 + a1)) (by first | trivial | omega) (Eq.trans (if_neg h508) (Eq.trans (if_pos h509) rfl))
      · refine X.aload_n 16 (zi301 15) rfl rfl rfl ?_
        refine X.getF 19 (zi301 16) rfl rfl (by decide) rfl rfl ?_
        refine X.bipush 21 (zi301 19) rfl rfl (by decide) ?_
        refine X.iload_n 22 (zi301 21) rfl rfl rfl ?_
        refine X.iadd 23 (zi301 22) rfl rfl (by omega) ?_
        refine X.lald 24 (zi301 23) rfl rfl (by decide) rfl (by omega) ?_
        refine X.goto 47 (zi301 24) rfl rfl ?_
        refine X.cut [] (zi301 47) rfl ?_
        exact hK513 (m 4 45 (32 + a1)) (by first | trivial | omega) (Eq.trans (if_pos h508) rfl)
noncomputable def fl72_16_2_b (self : Int → Int → Int) (k37 : Int → Int) (g0 : Nat) (y1 : Int) (m : zM) (y3 y5 : Int) : Int :=
  if 4 ≤ y5 then
  (k37 y3)
  else
  (zn (w64 (y3 + (m g0 26 (y1 + y5)))) fun z506 =>
  self z506 (y5 + 1))
noncomputable def fl72_16_2 (k37 : Int → Int) (g0 : Nat) (y1 : Int) (m : zM) : Nat → Int → Int → Int
  | 0 => fun y3 y5 => 0
  | n + 1 => fl72_16_2_b (fl72_16_2 k37 g0 y1 m n) k37 g0 y1 m
theorem l72_16_2 {s : Nat × (Nat → Int32)} {S : zS} {m0 : zM} {m : zM} {B : Int} {d : Nat} {Q : Option zV → zM → Prop} {R0 : Int} {k37 : Int → Int} (g0 : Nat) (y1 : Int) (hd : 13 ≤ d) (hJ : J S m0 B m) (hB9 : B ≤ 1000000000) (hy1 : 0 ≤ y1 ∧ y1 ≤ 194)
    (K37 : ∀ (x3 : Int) , (True) → R0 = k37 x3 → X (EE s) d 72 37 [(3, zl x3)] [] m Q) :
    ∀ (n : Nat) (y3 y5 : Int) , (0 ≤ y5 ∧ y5 ≤ 4) → 4 - y5 < (n : Int) → R0 = fl72_16_2 k37 g0 y1 m n y3 y5 → X (EE s) d 72 16 [(0, zr g0 26), (1, zi y1), (3, zl y3), (5, zi y5)] [] m Q := by
  intro n
  induction n with
  | zero =>
    intro y3 y5 hy5 hn hR
    exfalso
    omega
  | succ n ih =>
    intro y3 y5 hy5 hn hR
    replace hR : R0 = fl72_16_2_b (fl72_16_2 k37 g0 y1 m n) k37 g0 y1 m y3 y5 := hR
    refine X.iload 18 (zi72 16) rfl rfl rfl ?_
    refine X.iconst 19 (zi72 18) rfl rfl (by decide) ?_
    refine X.icmpge 37 22 (zi72 19) rfl rfl rfl (fun h505 => ?_) (fun h505 => ?_)
    · refine X.cut [(3, zl y3)] (zi72 37) rfl ?_
      exact K37 y3 (by first | trivial | omega) (Eq.trans hR (Eq.trans (if_pos h505) rfl))
    · refine X.lload_n 23 (zi72 22) rfl rfl rfl ?_
      refine X.aload_n 24 (zi72 23) rfl rfl rfl ?_
      refine X.iload_n 25 (zi72 24) rfl rfl rfl ?_
      refine X.iload 27 (zi72 25) rfl rfl rfl ?_
      refine X.iadd 28 (zi72 27) rfl rfl (by omega) ?_
      refine X.lald 29 (zi72 28) rfl rfl (by decide) rfl (by omega) ?_
      refine X.laddW 30 (zi72 29) rfl rfl (fun z506 ez506 hz506 => ?_)
      refine X.lstore_n 31 [(0, zr g0 26), (1, zi y1), (3, zl z506), (5, zi y5)] (zi72 30) rfl rfl rfl ?_
      refine X.iinc 34 [(0, zr g0 26), (1, zi y1), (3, zl z506), (5, zi (y5 + 1))] (zi72 31) rfl rfl rfl (by omega) rfl ?_
      refine X.goto 16 (zi72 34) rfl rfl ?_
      exact ih z506 (y5 + 1) (by omega) (by omega) (Eq.trans hR (Eq.trans (if_neg h505) (Eq.trans (zn_eq ez506) rfl)))
-- WorkMeter$Registers.sumIn
noncomputable def f72_2 (g0 : Nat) (a1 a2 : Int) (m : zM) : Int :=
  if a2 = (-1) then
  (fl72_16_2 (fun y502 =>
  y502) g0 a1 m (zfu 5) 0 0)
  else
  ((m g0 26 (a1 + a2)))
-- WorkMeter$Registers.sumIn
theorem c72_2 {s : Nat × (Nat → Int32)} {S : zS} {m0 m : zM} {B : Int} {d : Nat} {Q : Option zV → zM → Prop} (g0 : Nat) (a1 a2 : Int) (hd : 13 ≤ d) (hJ : J S m0 B m) (hB : B + 0 ≤ 1000000000) (ha1 : 0 ≤ a1 ∧ a1 ≤ 194) (ha2 : (-1) ≤ a2 ∧ a2 ≤ 3) (hQ : ∀ (v : Int), (True) → f72_2 g0 a1 a2 m = v → Q (some (zl v)) m) : X (EE s) d 72 0 [(0, zr g0 26), (1, zi a1), (2, zi a2)] [] m Q := by
  refine X.iload_n 1 (zi72 0) rfl rfl rfl ?_
  refine X.iconst 2 (zi72 1) rfl rfl (by decide) ?_
  refine X.icmpeq 11 5 (zi72 2) rfl rfl rfl (fun h501 => ?_) (fun h501 => ?_)
  · refine X.cut [(0, zr g0 26), (1, zi a1)] (zi72 11) rfl ?_
    refine X.lconst (y := 0) 12 (zi72 11) rfl rfl rfl ?_
    refine X.lstore_n 13 [(0, zr g0 26), (1, zi a1), (3, zl 0)] (zi72 12) rfl rfl rfl ?_
    refine X.iconst 14 (zi72 13) rfl rfl (by decide) ?_
    refine X.istore 16 [(0, zr g0 26), (1, zi a1), (3, zl 0), (5, zi 0)] (zi72 14) rfl rfl rfl ?_
    have hz5 := zfu_eq 5
    refine l72_16_2 (s := s) (m := m) (B := B) (d := d) (R0 := (f72_2 g0 a1 a2 m)) g0 a1  (by omega) (hJ.up (by omega)) (by omega) (by omega) (fun y502 hby502 hR506 => ?_) (zfu 5) 0 0 (by omega) (by omega) (Eq.trans (if_pos h501) rfl)
    refine X.lload_n 38 (zi72 37) rfl rfl rfl ?_
    refine X.retl (zi72 38) rfl t72 ?_
    exact hQ y502 (by first | trivial | omega) (Eq.trans hR506 rfl) 
  · refine X.aload_n 6 (zi72 5) rfl rfl rfl ?_
    refine X.iload_n 7 (zi72 6) rfl rfl rfl ?_
    refine X.iload_n 8 (zi72 7) rfl rfl rfl ?_
    refine X.iadd 9 (zi72 8) rfl rfl (by omega) ?_
    refine X.lald 10 (zi72 9) rfl rfl (by decide) rfl (by omega) ?_
    refine X.retl (zi72 10) rfl t72 ?_
    exact hQ (m g0 26 (a1 + a2)) (by first | trivial | omega) (Eq.trans (if_neg h501) rfl) 
-- WorkMeter$Registers.billedSum
noncomputable def f161_1 (g0 : Nat) (a1 a2 a3 : Int) (m : zM) : Int :=
  zn (f72_2 g0 ((((((m g0 23 3) - 1) - a1) % 6) * 33) + (a2 * 4)) a3 m) fun v504 =>
  v504
-- WorkMeter$Registers.billedSum
theorem c161_1 {s : Nat × (Nat → Int32)} {S : zS} {m0 m : zM} {B : Int} {d : Nat} {Q : Option zV → zM → Prop} (g0 : Nat) (a1 a2 a3 : Int) (hd : 14 ≤ d) (hJ : J S m0 B m) (hB : B + 0 ≤ 1000000000) (ha1 : 0 ≤ a1 ∧ a1 ≤ 5) (ha2 : 0 ≤ a2 ∧ a2 ≤ 6) (ha3 : (-1) ≤ a3 ∧ a3 ≤ 3) (hp0 : 0 ≤ a1) (hp1 : a1 < m g0 23 3) (hQ : ∀ (v : Int), (True) → f161_1 g0 a1 a2 a3 m = v → Q (some (zl v)) m) : X (EE s) d 161 0 [(0, zr g0 23), (1, zi a1), (2, zi a2), (3, zi a3)] [] m Q := by
  refine X.aload_n 1 (zi161 0) rfl rfl rfl ?_
  refine X.getR 4 (zi161 1) rfl rfl (by decide) rfl rfl ?_
  refine X.aload_n 5 (zi161 4) rfl rfl rfl ?_
  refine X.iload_n 6 (zi161 5) rfl rfl rfl ?_
  refine X.callv 9 [zi a1] [zr g0 26] [(0, zr g0 23), (1, zi a1)] (zi161 6) rfl (by decide) rfl rfl (by omega) rfl rfl (by decide) rfl t162 (Nat.le_of_ble_eq_true rfl) (Nat.le_of_ble_eq_true rfl) rfl ?_
  refine X.aload_n 1 (zi162 0) rfl rfl rfl ?_
  refine X.getI 4 3 (zi162 1) rfl rfl (by decide) rfl rfl rfl ?_
  have h501 := r23_3 hJ g0
  refine X.iconst 5 (zi162 4) rfl rfl (by decide) ?_
  refine X.isub 6 (zi162 5) rfl rfl (by omega) ?_
  refine X.iload_n 7 (zi162 6) rfl rfl rfl ?_
  refine X.isub 8 (zi162 7) rfl rfl (by omega) ?_
  refine X.bipush 10 (zi162 8) rfl rfl (by decide) ?_
  refine X.irem 11 (zi162 10) rfl rfl (by omega) ?_
  refine X.bipush 13 (zi162 11) rfl rfl (by decide) ?_
  refine X.imul 14 (zi162 13) rfl rfl (by omega) ?_
  refine X.reti (zi162 14) rfl t162 ?_
  show X (EE s) d 161 9 [(0, zr g0 23), (1, zi a1), (2, zi a2), (3, zi a3)] [zi (((((m g0 23 3) - 1) - a1) % 6) * 33), zr g0 26] m _
  refine X.iload_n 10 (zi161 9) rfl rfl rfl ?_
  refine X.iconst 11 (zi161 10) rfl rfl (by decide) ?_
  refine X.imul 12 (zi161 11) rfl rfl (by omega) ?_
  refine X.iadd 13 (zi161 12) rfl rfl (by omega) ?_
  refine X.iload_n 14 (zi161 13) rfl rfl rfl ?_
  refine X.calls 17 [zr g0 26, zi ((((((m g0 23 3) - 1) - a1) % 6) * 33) + (a2 * 4)), zi a3] [] [(0, zr g0 26), (1, zi ((((((m g0 23 3) - 1) - a1) % 6) * 33) + (a2 * 4))), (2, zi a3)] (zi161 14) (by decide) rfl rfl (by omega) rfl rfl t72 (Nat.le_of_ble_eq_true rfl) (Nat.le_of_ble_eq_true rfl) rfl ?_
  refine c72_2 (B := B) g0 ((((((m g0 23 3) - 1) - a1) % 6) * 33) + (a2 * 4)) a3 (by omega) (hJ.up (by omega)) (by omega) (by omega) (by omega) (fun v504 hv504 hFv504 => ?_)
  show X (EE s) d 161 17 [(0, zr g0 23), (1, zi a1), (2, zi a2), (3, zi a3)] [zl v504] m _
  refine X.retl (zi161 17) rfl t161 ?_
  exact hQ v504 (by first | trivial | omega) (Eq.trans (zn_eq hFv504.symm) rfl) 
-- WorkMeter.billed
noncomputable def f159_1 (a1 a2 a3 : Int) (m : zM) : Int :=
  if a1 < 0 then
  ((-1))
  else
  (if (min (m 0 23 3) 6) ≤ a1 then
  ((-1))
  else
  (if a2 < 0 then
  ((-1))
  else
  (if 7 ≤ a2 then
  ((-1))
  else
  (if a3 = (-1) then
  (zn (f161_1 0 a1 a2 a3 m) fun v516 =>
  v516)
  else
  (if a3 < 0 then
  ((-1))
  else
  (if 4 ≤ a3 then
  ((-1))
  else
  (zn (f161_1 0 a1 a2 a3 m) fun v527 =>
  v527)))))))
-- WorkMeter.billed
theorem c159_1 {s : Nat × (Nat → Int32)} {S : zS} {m0 m : zM} {B : Int} {d : Nat} {Q : Option zV → zM → Prop} (a1 a2 a3 : Int) (hd : 15 ≤ d) (hJ : J S m0 B m) (hB : B + 0 ≤ 1000000000) (ha1 : (-2147483648) ≤ a1 ∧ a1 ≤ 2147483647) (ha2 : (-2147483648) ≤ a2 ∧ a2 ≤ 2147483647) (ha3 : (-2147483648) ≤ a3 ∧ a3 ≤ 2147483647) (hQ : ∀ (v : Int), (True) → f159_1 a1 a2 a3 m = v → Q (some (zl v)) m) : X (EE s) d 159 0 [(0, zr 4 40), (1, zi a1), (2, zi a2), (3, zi a3)] [] m Q := by
  refine X.aload_n 1 (zi159 0) rfl rfl rfl ?_
  refine X.getF 4 (zi159 1) rfl rfl (by decide) rfl rfl ?_
  refine X.getR 7 (zi159 4) rfl rfl (by decide) rfl rfl ?_
  refine X.iload_n 8 (zi159 7) rfl rfl rfl ?_
  refine X.callv 11 [zi a1] [] [(0, zr 0 23), (1, zi a1)] (zi159 8) rfl (by decide) rfl rfl (by omega) rfl rfl (by decide) rfl t160 (Nat.le_of_ble_eq_true rfl) (Nat.le_of_ble_eq_true rfl) rfl ?_
  refine X.iload_n 1 (zi160 0) rfl rfl rfl ?_
  refine X.iflt 21 4 (zi160 1) rfl rfl rfl (fun h501 => ?_) (fun h501 => ?_)
  · refine X.cut [] (zi160 21) rfl ?_
    refine X.iconst 22 (zi160 21) rfl rfl (by decide) ?_
    refine X.retz (zi160 22) rfl t160 (by omega) ?_
    show X (EE s) d 159 11 [(0, zr 4 40), (1, zi a1), (2, zi a2), (3, zi a3)] [zi 0] m _
    refine X.ifeq 28 14 (zi159 11) rfl rfl rfl (fun h502 => ?_) (fun h502 => (by exfalso; omega))
    refine X.cut [] (zi159 28) rfl ?_
    refine X.ldc2 31 (zi159 28) rfl rfl (by decide) ?_
    refine X.retl (zi159 31) rfl t159 ?_
    exact hQ (-1) (by first | trivial | omega) (Eq.trans (if_pos h501) rfl) 
  · refine X.iload_n 5 (zi160 4) rfl rfl rfl ?_
    refine X.aload_n 6 (zi160 5) rfl rfl rfl ?_
    refine X.getI 9 3 (zi160 6) rfl rfl (by decide) rfl rfl rfl ?_
    have h503 := r23_3 hJ 0
    refine X.bipush 11 (zi160 9) rfl rfl (by decide) ?_
    refine X.minI 14 (zi160 11) rfl rfl (by omega) (Nat.le_of_ble_eq_true rfl) ?_
    refine X.icmpge 21 17 (zi160 14) rfl rfl rfl (fun h504 => ?_) (fun h504 => ?_)
    · refine X.cut [] (zi160 21) rfl ?_
      refine X.iconst 22 (zi160 21) rfl rfl (by decide) ?_
      refine X.retz (zi160 22) rfl t160 (by omega) ?_
      show X (EE s) d 159 11 [(0, zr 4 40), (1, zi a1), (2, zi a2), (3, zi a3)] [zi 0] m _
      refine X.ifeq 28 14 (zi159 11) rfl rfl rfl (fun h505 => ?_) (fun h505 => (by exfalso; omega))
      refine X.cut [] (zi159 28) rfl ?_
      refine X.ldc2 31 (zi159 28) rfl rfl (by decide) ?_
      refine X.retl (zi159 31) rfl t159 ?_
      exact hQ (-1) (by first | trivial | omega) (Eq.trans (if_neg h501) (Eq.trans (if_pos h504) rfl)) 
    · refine X.iconst 18 (zi160 17) rfl rfl (by decide) ?_
      refine X.goto 22 (zi160 18) rfl rfl ?_
      refine X.cut [] (zi160 22) rfl ?_
      refine X.retz (zi160 22) rfl t160 (by omega) ?_
      show X (EE s) d 159 11 [(0, zr 4 40), (1, zi a1), (2, zi a2), (3, zi a3)] [zi 1] m _
      refine X.ifeq 28 14 (zi159 11) rfl rfl rfl (fun h506 => (by exfalso; omega)) (fun h506 => ?_)
      refine X.iload_n 15 (zi159 14) rfl rfl rfl ?_
      refine X.calls 18 [zi a2] [] [(0, zi a2)] (zi159 15) (by decide) rfl rfl (by omega) rfl rfl t145 (Nat.le_of_ble_eq_true rfl) (Nat.le_of_ble_eq_true rfl) rfl ?_
      refine X.iload_n 1 (zi145 0) rfl rfl rfl ?_
      refine X.iflt 14 4 (zi145 1) rfl rfl rfl (fun h507 => ?_) (fun h507 => ?_)
      · refine X.cut [] (zi145 14) rfl ?_
        refine X.iconst 15 (zi145 14) rfl rfl (by decide) ?_
        refine X.retz (zi145 15) rfl t145 (by omega) ?_
        show X (EE s) d 159 18 [(0, zr 4 40), (1, zi a1), (2, zi a2), (3, zi a3)] [zi 0] m _
        refine X.ifeq 28 21 (zi159 18) rfl rfl rfl (fun h508 => ?_) (fun h508 => (by exfalso; omega))
        refine X.cut [] (zi159 28) rfl ?_
        refine X.ldc2 31 (zi159 28) rfl rfl (by decide) ?_
        refine X.retl (zi159 31) rfl t159 ?_
        exact hQ (-1) (by first | trivial | omega) (Eq.trans (if_neg h501) (Eq.trans (if_neg h504) (Eq.trans (if_pos h507) rfl))) 
      · refine X.iload_n 5 (zi145 4) rfl rfl rfl ?_
        refine X.bipush 7 (zi145 5) rfl rfl (by decide) ?_
        refine X.icmpge 14 10 (zi145 7) rfl rfl rfl (fun h509 => ?_) (fun h509 => ?_)
        · refine X.cut [] (zi145 14) rfl ?_
          refine X.iconst 15 (zi145 14) rfl rfl (by decide) ?_
          refine X.retz (zi145 15) rfl t145 (by omega) ?_
          show X (EE s) d 159 18 [(0, zr 4 40), (1, zi a1), (2, zi a2), (3, zi a3)] [zi 0] m _
          refine X.ifeq 28 21 (zi159 18) rfl rfl rfl (fun h510 => ?_) (fun h510 => (by exfalso; omega))
          refine X.cut [] (zi159 28) rfl ?_
          refine X.ldc2 31 (zi159 28) rfl rfl (by decide) ?_
          refine X.retl (zi159 31) rfl t159 ?_
          exact hQ (-1) (by first | trivial | omega) (Eq.trans (if_neg h501) (Eq.trans (if_neg h504) (Eq.trans (if_neg h507) (Eq.trans (if_pos h509) rfl)))) 
        · refine X.iconst 11 (zi145 10) rfl rfl (by decide) ?_
          refine X.goto 15 (zi145 11) rfl rfl ?_
          refine X.cut [] (zi145 15) rfl ?_
          refine X.retz (zi145 15) rfl t145 (by omega) ?_
          show X (EE s) d 159 18 [(0, zr 4 40), (1, zi a1), (2, zi a2), (3, zi a3)] [zi 1] m _
          refine X.ifeq 28 21 (zi159 18) rfl rfl rfl (fun h511 => (by exfalso; omega)) (fun h511 => ?_)
          refine X.iload_n 22 (zi159 21) rfl rfl rfl ?_
          refine X.calls 25 [zi a3] [] [(0, zi a3)] (zi159 22) (by decide) rfl rfl (by omega) rfl rfl t146 (Nat.le_of_ble_eq_true rfl) (Nat.le_of_ble_eq_true rfl) rfl ?_
          refine X.iload_n 1 (zi146 0) rfl rfl rfl ?_
          refine X.iconst 2 (zi146 1) rfl rfl (by decide) ?_
          refine X.icmpeq 12 5 (zi146 2) rfl rfl rfl (fun h512 => ?_) (fun h512 => ?_)
          · refine X.cut [] (zi146 12) rfl ?_
            refine X.iconst 13 (zi146 12) rfl rfl (by decide) ?_
            refine X.goto 17 (zi146 13) rfl rfl ?_
            refine X.retz (zi146 17) rfl t146 (by omega) ?_
            show X (EE s) d 159 25 [(0, zr 4 40), (1, zi a1), (2, zi a2), (3, zi a3)] [zi 1] m _
            refine X.ifne 32 28 (zi159 25) rfl rfl rfl (fun h513 => ?_) (fun h513 => (by exfalso; omega))
            refine X.aload_n 33 (zi159 32) rfl rfl rfl ?_
            refine X.getF 36 (zi159 33) rfl rfl (by decide) rfl rfl ?_
            refine X.getR 39 (zi159 36) rfl rfl (by decide) rfl rfl ?_
            refine X.iload_n 40 (zi159 39) rfl rfl rfl ?_
            refine X.iload_n 41 (zi159 40) rfl rfl rfl ?_
            refine X.iload_n 42 (zi159 41) rfl rfl rfl ?_
            refine X.callv 45 [zi a1, zi a2, zi a3] [] [(0, zr 0 23), (1, zi a1), (2, zi a2), (3, zi a3)] (zi159 42) rfl (by decide) rfl rfl (by omega) rfl rfl (by decide) rfl t161 (Nat.le_of_ble_eq_true rfl) (Nat.le_of_ble_eq_true rfl) rfl ?_
            refine c161_1 (B := B) 0 a1 a2 a3 (by omega) (hJ.up (by omega)) (by omega) (by omega) (by omega) (by omega) (by omega) (by omega) (fun v516 hv516 hFv516 => ?_)
            show X (EE s) d 159 45 [(0, zr 4 40), (1, zi a1), (2, zi a2), (3, zi a3)] [zl v516] m _
            refine X.retl (zi159 45) rfl t159 ?_
            exact hQ v516 (by first | trivial | omega) (Eq.trans (if_neg h501) (Eq.trans (if_neg h504) (Eq.trans (if_neg h507) (Eq.trans (if_neg h509) (Eq.trans (if_pos h512) (Eq.trans (zn_eq hFv516.symm) rfl)))))) 
          · refine X.iload_n 6 (zi146 5) rfl rfl rfl ?_
            refine X.calls 9 [zi a3] [] [(0, zi a3)] (zi146 6) (by decide) rfl rfl (by omega) rfl rfl t80 (Nat.le_of_ble_eq_true rfl) (Nat.le_of_ble_eq_true rfl) rfl ?_
            refine X.iload_n 1 (zi80 0) rfl rfl rfl ?_
            refine X.iflt 13 4 (zi80 1) rfl rfl rfl (fun h517 => ?_) (fun h517 => ?_)
            · refine X.cut [] (zi80 13) rfl ?_
              refine X.iconst 14 (zi80 13) rfl rfl (by decide) ?_
              refine X.retz (zi80 14) rfl t80 (by omega) ?_
              show X (EE s) (d - 1) 146 9 [(0, zi a3)] [zi 0] m _
              refine X.ifeq 16 12 (zi146 9) rfl rfl rfl (fun h518 => ?_) (fun h518 => (by exfalso; omega))
              refine X.cut [] (zi146 16) rfl ?_
              refine X.iconst 17 (zi146 16) rfl rfl (by decide) ?_
              refine X.retz (zi146 17) rfl t146 (by omega) ?_
              show X (EE s) d 159 25 [(0, zr 4 40), (1, zi a1), (2, zi a2), (3, zi a3)] [zi 0] m _
              refine X.ifne 32 28 (zi159 25) rfl rfl rfl (fun h519 => (by exfalso; omega)) (fun h519 => ?_)
              refine X.cut [] (zi159 28) rfl ?_
              refine X.ldc2 31 (zi159 28) rfl rfl (by decide) ?_
              refine X.retl (zi159 31) rfl t159 ?_
              exact hQ (-1) (by first | trivial | omega) (Eq.trans (if_neg h501) (Eq.trans (if_neg h504) (Eq.trans (if_neg h507) (Eq.trans (if_neg h509) (Eq.trans (if_neg h512) (Eq.trans (if_pos h517) rfl)))))) 
            · refine X.iload_n 5 (zi80 4) rfl rfl rfl ?_
              refine X.iconst 6 (zi80 5) rfl rfl (by decide) ?_
              refine X.icmpge 13 9 (zi80 6) rfl rfl rfl (fun h520 => ?_) (fun h520 => ?_)
              · refine X.cut [] (zi80 13) rfl ?_
                refine X.iconst 14 (zi80 13) rfl rfl (by decide) ?_
                refine X.retz (zi80 14) rfl t80 (by omega) ?_
                show X (EE s) (d - 1) 146 9 [(0, zi a3)] [zi 0] m _
                refine X.ifeq 16 12 (zi146 9) rfl rfl rfl (fun h521 => ?_) (fun h521 => (by exfalso; omega))
                refine X.cut [] (zi146 16) rfl ?_
                refine X.iconst 17 (zi146 16) rfl rfl (by decide) ?_
                refine X.retz (zi146 17) rfl t146 (by omega) ?_
                show X (EE s) d 159 25 [(0, zr 4 40), (1, zi a1), (2, zi a2), (3, zi a3)] [zi 0] m _
                refine X.ifne 32 28 (zi159 25) rfl rfl rfl (fun h522 => (by exfalso; omega)) (fun h522 => ?_)
                refine X.cut [] (zi159 28) rfl ?_
                refine X.ldc2 31 (zi159 28) rfl rfl (by decide) ?_
                refine X.retl (zi159 31) rfl t159 ?_
                exact hQ (-1) (by first | trivial | omega) (Eq.trans (if_neg h501) (Eq.trans (if_neg h504) (Eq.trans (if_neg h507) (Eq.trans (if_neg h509) (Eq.trans (if_neg h512) (Eq.trans (if_neg h517) (Eq.trans (if_pos h520) rfl))))))) 
              · refine X.iconst 10 (zi80 9) rfl rfl (by decide) ?_
                refine X.goto 14 (zi80 10) rfl rfl ?_
                refine X.cut [] (zi80 14) rfl ?_
                refine X.retz (zi80 14) rfl t80 (by omega) ?_
                show X (EE s) (d - 1) 146 9 [(0, zi a3)] [zi 1] m _
                refine X.ifeq 16 12 (zi146 9) rfl rfl rfl (fun h523 => (by exfalso; omega)) (fun h523 => ?_)
                refine X.cut [] (zi146 12) rfl ?_
                refine X.iconst 13 (zi146 12) rfl rfl (by decide) ?_
                refine X.goto 17 (zi146 13) rfl rfl ?_
                refine X.retz (zi146 17) rfl t146 (by omega) ?_
                show X (EE s) d 159 25 [(0, zr 4 40), (1, zi a1), (2, zi a2), (3, zi a3)] [zi 1] m _
                refine X.ifne 32 28 (zi159 25) rfl rfl rfl (fun h524 => ?_) (fun h524 => (by exfalso; omega))
                refine X.aload_n 33 (zi159 32) rfl rfl rfl ?_
                refine X.getF 36 (zi159 33) rfl rfl (by decide) rfl rfl ?_
                refine X.getR 39 (zi159 36) rfl rfl (by decide) rfl rfl ?_
                refine X.iload_n 40 (zi159 39) rfl rfl rfl ?_
                refine X.iload_n 41 (zi159 40) rfl rfl rfl ?_
                refine X.iload_n 42 (zi159 41) rfl rfl rfl ?_
                refine X.callv 45 [zi a1, zi a2, zi a3] [] [(0, zr 0 23), (1, zi a1), (2, zi a2), (3, zi a3)] (zi159 42) rfl (by decide) rfl rfl (by omega) rfl rfl (by decide) rfl t161 (Nat.le_of_ble_eq_true rfl) (Nat.le_of_ble_eq_true rfl) rfl ?_
                refine c161_1 (B := B) 0 a1 a2 a3 (by omega) (hJ.up (by omega)) (by omega) (by omega) (by omega) (by omega) (by omega) (by omega) (fun v527 hv527 hFv527 => ?_)
                show X (EE s) d 159 45 [(0, zr 4 40), (1, zi a1), (2, zi a2), (3, zi a3)] [zl v527] m _
                refine X.retl (zi159 45) rfl t159 ?_
                exact hQ v527 (by first | trivial | omega) (Eq.trans (if_neg h501) (Eq.trans (if_neg h504) (Eq.trans (if_neg h507) (Eq.trans (if_neg h509) (Eq.trans (if_neg h512) (Eq.trans (if_neg h517) (Eq.trans (if_neg h520) (Eq.trans (zn_eq hFv527.symm) rfl)))))))) 
-- WorkMeterModel.billAt
noncomputable def f289_1 (a1 : Int) (m : zM) : Int :=
  zn (if (m 4 45 18) < 6 then
  ((m 4 45 18))
  else
  (6)) fun v504 =>
  if a1 < 0 then
  ((-1))
  else
  (if a1 ≤ (v504 - 1) then
  (if (m 4 45 18) < 7 then
  ((1172 + (45 * (((m 4 45 18) - 1) - a1))))
  else
  ((1172 + (45 * ((7 - 1) - a1)))))
  else
  ((-1)))
-- WorkMeterModel.billAt
theorem c289_1 {s : Nat × (Nat → Int32)} {S : zS} {m0 m : zM} {B : Int} {d : Nat} {Q : Option zV → zM → Prop} (a1 : Int) (hd : 13 ≤ d) (hJ : J S m0 B m) (hB : B + 0 ≤ 1000000000) (ha1 : (-2147483648) ≤ a1 ∧ a1 ≤ 2147483647) (hQ : ∀ (v : Int), ((-1) ≤ v ∧ v ≤ 1442) → f289_1 a1 m = v → (v = -1 ∨ v = 1172 ∨ 1217 ≤ v) → Q (some (zi v)) m) : X (EE s) d 289 0 [(0, zr 4 44), (1, zi a1)] [] m Q := by
  refine X.aload_n 1 (zi289 0) rfl rfl rfl ?_
  refine X.getF 4 (zi289 1) rfl rfl (by decide) rfl rfl ?_
  refine X.bipush 6 (zi289 4) rfl rfl (by decide) ?_
  refine X.lald 7 (zi289 6) rfl rfl (by decide) rfl (by omega) ?_
  have h501 := r45_18 hJ 4
  refine X.ldc2 10 (zi289 7) rfl rfl (by decide) ?_
  refine X.lcmp 11 (zi289 10) rfl rfl (fun z502 hz502 => ?_)
  have hK507 : ∀ (v : Int) , (0 ≤ v ∧ v ≤ 6) → (if (m 4 45 18) < 6 then
      ((m 4 45 18))
      else
      (6)) = v → X (EE s) d 289 27 [(0, zr 4 44), (1, zi a1)] [zl v] m Q := by
    intro v504 hv504 hT508
    refine X.l2i 28 (zi289 27) rfl rfl (by omega) ?_
    refine X.istore_n 29 [(0, zr 4 44), (1, zi a1), (2, zi v504)] (zi289 28) rfl rfl rfl ?_
    refine X.iload_n 30 (zi289 29) rfl rfl rfl ?_
    refine X.i2l 31 (zi289 30) rfl rfl ?_
    refine X.lconst (y := 0) 32 (zi289 31) rfl rfl rfl ?_
    refine X.iload_n 33 (zi289 32) rfl rfl rfl ?_
    refine X.iconst 34 (zi289 33) rfl rfl (by decide) ?_
    refine X.isub 35 (zi289 34) rfl rfl (by omega) ?_
    refine X.i2l 36 (zi289 35) rfl rfl ?_
    refine X.calls 39 [zl a1, zl 0, zl (v504 - 1)] [] [(0, zl a1), (2, zl 0), (4, zl (v504 - 1))] (zi289 36) (by decide) rfl rfl (by omega) rfl rfl t204 (Nat.le_of_ble_eq_true rfl) (Nat.le_of_ble_eq_true rfl) rfl ?_
    refine X.lload_n 1 (zi204 0) rfl rfl rfl ?_
    refine X.lload_n 2 (zi204 1) rfl rfl rfl ?_
    refine X.lcmp 3 (zi204 2) rfl rfl (fun z509 hz509 => ?_)
    refine X.iflt 17 6 (zi204 3) rfl rfl rfl (fun h510 => ?_) (fun h510 => ?_)
    · have h510c : a1 < 0 := by omega
      clear h510 hz509
      refine X.cut [] (zi204 17) rfl ?_
      refine X.iconst 18 (zi204 17) rfl rfl (by decide) ?_
      refine X.retz (zi204 18) rfl t204 (by omega) ?_
      show X (EE s) d 289 39 [(0, zr 4 44), (1, zi a1), (2, zi v504)] [zi 0] m _
      refine X.ifeq 60 42 (zi289 39) rfl rfl rfl (fun h511 => ?_) (fun h511 => (by exfalso; omega))
      refine X.cut [] (zi289 60) rfl ?_
      refine X.iconst 61 (zi289 60) rfl rfl (by decide) ?_
      refine X.reti (zi289 61) rfl t289 ?_
      exact hQ (-1) (by first | trivial | omega) (Eq.trans (zn_eq hT508.symm) (Eq.trans (if_pos h510c) rfl)) (by omega)
    · have h510c : ¬ a1 < 0 := by omega
      clear h510 hz509
      refine X.lload_n 7 (zi204 6) rfl rfl rfl ?_
      refine X.lload 9 (zi204 7) rfl rfl rfl ?_
      refine X.lcmp 10 (zi204 9) rfl rfl (fun z512 hz512 => ?_)
      refine X.ifgt 17 13 (zi204 10) rfl rfl rfl (fun h513 => ?_) (fun h513 => ?_)
      · have h513c : ¬ a1 ≤ (v504 - 1) := by omega
        clear h513 hz512
        refine X.cut [] (zi204 17) rfl ?_
        refine X.iconst 18 (zi204 17) rfl rfl (by decide) ?_
        refine X.retz (zi204 18) rfl t204 (by omega) ?_
        show X (EE s) d 289 39 [(0, zr 4 44), (1, zi a1), (2, zi v504)] [zi 0] m _
        refine X.ifeq 60 42 (zi289 39) rfl rfl rfl (fun h514 => ?_) (fun h514 => (by exfalso; omega))
        refine X.cut [] (zi289 60) rfl ?_
        refine X.iconst 61 (zi289 60) rfl rfl (by decide) ?_
        refine X.reti (zi289 61) rfl t289 ?_
        exact hQ (-1) (by first | trivial | omega) (Eq.trans (zn_eq hT508.symm) (Eq.trans (if_neg h510c) (Eq.trans (if_neg h513c) rfl))) (by omega)
      · have h513c : a1 ≤ (v504 - 1) := by omega
        clear h513 hz512
        refine X.iconst 14 (zi204 13) rfl rfl (by decide) ?_
        refine X.goto 18 (zi204 14) rfl rfl ?_
        refine X.cut [] (zi204 18) rfl ?_
        refine X.retz (zi204 18) rfl t204 (by omega) ?_
        show X (EE s) d 289 39 [(0, zr 4 44), (1, zi a1), (2, zi v504)] [zi 1] m _
        refine X.ifeq 60 42 (zi289 39) rfl rfl rfl (fun h515 => (by exfalso; omega)) (fun h515 => ?_)
        refine X.sipush 45 (zi289 42) rfl rfl (by decide) ?_
        refine X.bipush 47 (zi289 45) rfl rfl (by decide) ?_
        refine X.aload_n 48 (zi289 47) rfl rfl rfl ?_
        refine X.callv 51 [] [zi 45, zi 1172] [(0, zr 4 44)] (zi289 48) rfl (by decide) rfl rfl (by omega) rfl rfl (by decide) rfl t287 (Nat.le_of_ble_eq_true rfl) (Nat.le_of_ble_eq_true rfl) rfl ?_
        refine X.aload_n 1 (zi287 0) rfl rfl rfl ?_
        refine X.getF 4 (zi287 1) rfl rfl (by decide) rfl rfl ?_
        refine X.bipush 6 (zi287 4) rfl rfl (by decide) ?_
        refine X.lald 7 (zi287 6) rfl rfl (by decide) rfl (by omega) ?_
        refine X.ldc2 10 (zi287 7) rfl rfl (by decide) ?_
        refine X.lcmp 11 (zi287 10) rfl rfl (fun z516 hz516 => ?_)
        refine X.ifge 24 14 (zi287 11) rfl rfl rfl (fun h517 => ?_) (fun h517 => ?_)
        · have h517c : ¬ (m 4 45 18) < 7 := by omega
          clear h517 hz516
          refine X.cut [] (zi287 24) rfl ?_
          refine X.ldc2 27 (zi287 24) rfl rfl (by decide) ?_
          refine X.l2i 28 (zi287 27) rfl rfl (by omega) ?_
          refine X.reti (zi287 28) rfl t287 ?_
          show X (EE s) d 289 51 [(0, zr 4 44), (1, zi a1), (2, zi v504)] [zi 7, zi 45, zi 1172] m _
          refine X.iconst 52 (zi289 51) rfl rfl (by decide) ?_
          refine X.isub 53 (zi289 52) rfl rfl (by omega) ?_
          refine X.iload_n 54 (zi289 53) rfl rfl rfl ?_
          refine X.isub 55 (zi289 54) rfl rfl (by omega) ?_
          refine X.imul 56 (zi289 55) rfl rfl (by omega) ?_
          refine X.iadd 57 (zi289 56) rfl rfl (by omega) ?_
          refine X.goto 61 (zi289 57) rfl rfl ?_
          refine X.cut [] (zi289 61) rfl ?_
          refine X.reti (zi289 61) rfl t289 ?_
          exact hQ (1172 + (45 * ((7 - 1) - a1))) (by first | trivial | omega) (Eq.trans (zn_eq hT508.symm) (Eq.trans (if_neg h510c) (Eq.trans (if_pos h513c) (Eq.trans (if_neg h517c) rfl)))) (by omega)
        · have h517c : (m 4 45 18) < 7 := by omega
          clear h517 hz516
          refine X.aload_n 15 (zi287 14) rfl rfl rfl ?_
          refine X.getF 18 (zi287 15) rfl rfl (by decide) rfl rfl ?_
          refine X.bipush 20 (zi287 18) rfl rfl (by decide) ?_
          refine X.lald 21 (zi287 20) rfl rfl (by decide) rfl (by omega) ?_
          refine X.goto 27 (zi287 21) rfl rfl ?_
          refine X.cut [] (zi287 27) rfl ?_
          refine X.l2i 28 (zi287 27) rfl rfl (by omega) ?_
          refine X.reti (zi287 28) rfl t287 ?_
          show X (EE s) d 289 51 [(0, zr 4 44), (1, zi a1), (2, zi v504)] [zi (m 4 45 18), zi 45, zi 1172] m _
          refine X.iconst 52 (zi289 51) rfl rfl (by decide) ?_
          refine X.isub 53 (zi289 52) rfl rfl (by omega) ?_
          refine X.iload_n 54 (zi289 53) rfl rfl rfl ?_
          refine X.isub 55 (zi289 54) rfl rfl (by omega) ?_
          refine X.imul 56 (zi289 55) rfl rfl (by omega) ?_
          refine X.iadd 57 (zi289 56) rfl rfl (by omega) ?_
          refine X.goto 61 (zi289 57) rfl rfl ?_
          refine X.cut [] (zi289 61) rfl ?_
          refine X.reti (zi289 61) rfl t289 ?_
          exact hQ (1172 + (45 * (((m 4 45 18) - 1) - a1))) (by first | trivial | omega) (Eq.trans (zn_eq hT508.symm) (Eq.trans (if_neg h510c) (Eq.trans (if_pos h513c) (Eq.trans (if_pos h517c) rfl)))) (by omega)
  refine X.ifge 24 14 (zi289 11) rfl rfl rfl (fun h503 => ?_) (fun h503 => ?_)
  · have h503c : ¬ (m 4 45 18) < 6 := by omega
    clear h503 hz502
    refine X.ldc2 27 (zi289 24) rfl rfl (by decide) ?_
    exact hK507 6 (by first | trivial | omega) (Eq.trans (if_neg h503c) rfl)
  · have h503c : (m 4 45 18) < 6 := by omega
    clear h503 hz502
    refine X.aload_n 15 (zi289 14) rfl rfl rfl ?_
    refine X.getF 18 (zi289 15) rfl rfl (by decide) rfl rfl ?_
    refine X.bipush 20 (zi289 18) rfl rfl (by decide) ?_
    refine X.lald 21 (zi289 20) rfl rfl (by decide) rfl (by omega) ?_
    refine X.goto 27 (zi289 21) rfl rfl ?_
    exact hK507 (m 4 45 18) (by first | trivial | omega) (Eq.trans (if_pos h503c) rfl)
-- WorkMeterModel.billed
noncomputable def f288_1 (a1 a2 a3 : Int) (m : zM) : Int :=
  zn (f289_1 a1 m) fun v503 =>
  if v503 = (-1) then
  ((-1))
  else
  (if a2 < 0 then
  ((-1))
  else
  (if a2 ≤ 6 then
  (if a3 = (-1) then
  (zn (f291_1 a2 a3 m) fun v518 =>
  zn (if v503 = 1172 then
  (0)
  else
  ((m 4 45 ((v503 - 45) + (1 + v518))))) fun v520 =>
  zn (w64 ((m 4 45 (v503 + (1 + v518))) - v520)) fun z525 =>
  z525)
  else
  (if a3 < 0 then
  ((-1))
  else
  (if a3 ≤ 3 then
  (zn (f291_1 a2 a3 m) fun v538 =>
  zn (if v503 = 1172 then
  (0)
  else
  ((m 4 45 ((v503 - 45) + (1 + v538))))) fun v540 =>
  zn (w64 ((m 4 45 (v503 + (1 + v538))) - v540)) fun z545 =>
  z545)
  else
  ((-1)))))
  else
  ((-1))))
-- WorkMeterModel.billed
theorem c288_1 {s : Nat × (Nat → Int32)} {S : zS} {m0 m : zM} {B : Int} {d : Nat} {Q : Option zV → zM → Prop} (a1 a2 a3 : Int) (hd : 14 ≤ d) (hJ : J S m0 B m) (hB : B + 0 ≤ 1000000000) (ha1 : (-2147483648) ≤ a1 ∧ a1 ≤ 2147483647) (ha2 : (-2147483648) ≤ a2 ∧ a2 ≤ 2147483647) (ha3 : (-2147483648) ≤ a3 ∧ a3 ≤ 2147483647) (hQ : ∀ (v : Int), (True) → f288_1 a1 a2 a3 m = v → Q (some (zl v)) m) : X (EE s) d 288 0 [(0, zr 4 44), (1, zi a1), (2, zi a2), (3, zi a3)] [] m Q := by
  refine X.aload_n 1 (zi288 0) rfl rfl rfl ?_
  refine X.iload_n 2 (zi288 1) rfl rfl rfl ?_
  refine X.callv 5 [zi a1] [] [(0, zr 4 44), (1, zi a1)] (zi288 2) rfl (by decide) rfl rfl (by omega) rfl rfl (by decide) rfl t289 (Nat.le_of_ble_eq_true rfl) (Nat.le_of_ble_eq_true rfl) rfl ?_
  refine c289_1 (B := B)  a1 (by omega) (hJ.up (by omega)) (by omega) (by omega) (fun v503 hv503 hFv503 hqv503_0 => ?_)
  show X (EE s) d 288 5 [(0, zr 4 44), (1, zi a1), (2, zi a2), (3, zi a3)] [zi v503] m _
  refine X.istore 7 [(0, zr 4 44), (1, zi a1), (2, zi a2), (3, zi a3), (4, zi v503)] (zi288 5) rfl rfl rfl ?_
  refine X.iload 9 (zi288 7) rfl rfl rfl ?_
  refine X.iconst 10 (zi288 9) rfl rfl (by decide) ?_
  refine X.icmpeq 21 13 (zi288 10) rfl rfl rfl (fun h504 => ?_) (fun h504 => ?_)
  · refine X.cut [] (zi288 21) rfl ?_
    refine X.ldc2 24 (zi288 21) rfl rfl (by decide) ?_
    refine X.retl (zi288 24) rfl t288 ?_
    exact hQ (-1) (by first | trivial | omega) (Eq.trans (zn_eq hFv503.symm) (Eq.trans (if_pos h504) rfl)) 
  · refine X.iload_n 14 (zi288 13) rfl rfl rfl ?_
    refine X.iload_n 15 (zi288 14) rfl rfl rfl ?_
    refine X.calls 18 [zi a2, zi a3] [] [(0, zi a2), (1, zi a3)] (zi288 15) (by decide) rfl rfl (by omega) rfl rfl t290 (Nat.le_of_ble_eq_true rfl) (Nat.le_of_ble_eq_true rfl) rfl ?_
    refine X.iload_n 1 (zi290 0) rfl rfl rfl ?_
    refine X.i2l 2 (zi290 1) rfl rfl ?_
    refine X.lconst (y := 0) 3 (zi290 2) rfl rfl rfl ?_
    refine X.ldc2 6 (zi290 3) rfl rfl (by decide) ?_
    refine X.calls 9 [zl a2, zl 0, zl 6] [] [(0, zl a2), (2, zl 0), (4, zl 6)] (zi290 6) (by decide) rfl rfl (by omega) rfl rfl t204 (Nat.le_of_ble_eq_true rfl) (Nat.le_of_ble_eq_true rfl) rfl ?_
    refine X.lload_n 1 (zi204 0) rfl rfl rfl ?_
    refine X.lload_n 2 (zi204 1) rfl rfl rfl ?_
    refine X.lcmp 3 (zi204 2) rfl rfl (fun z505 hz505 => ?_)
    refine X.iflt 17 6 (zi204 3) rfl rfl rfl (fun h506 => ?_) (fun h506 => ?_)
    · have h506c : a2 < 0 := by omega
      clear h506 hz505
      refine X.cut [] (zi204 17) rfl ?_
      refine X.iconst 18 (zi204 17) rfl rfl (by decide) ?_
      refine X.retz (zi204 18) rfl t204 (by omega) ?_
      show X (EE s) (d - 1) 290 9 [(0, zi a2), (1, zi a3)] [zi 0] m _
      refine X.ifeq 28 12 (zi290 9) rfl rfl rfl (fun h507 => ?_) (fun h507 => (by exfalso; omega))
      refine X.cut [] (zi290 28) rfl ?_
      refine X.iconst 29 (zi290 28) rfl rfl (by decide) ?_
      refine X.retz (zi290 29) rfl t290 (by omega) ?_
      show X (EE s) d 288 18 [(0, zr 4 44), (1, zi a1), (2, zi a2), (3, zi a3), (4, zi v503)] [zi 0] m _
      refine X.ifne 25 21 (zi288 18) rfl rfl rfl (fun h508 => (by exfalso; omega)) (fun h508 => ?_)
      refine X.cut [] (zi288 21) rfl ?_
      refine X.ldc2 24 (zi288 21) rfl rfl (by decide) ?_
      refine X.retl (zi288 24) rfl t288 ?_
      exact hQ (-1) (by first | trivial | omega) (Eq.trans (zn_eq hFv503.symm) (Eq.trans (if_neg h504) (Eq.trans (if_pos h506c) rfl))) 
    · have h506c : ¬ a2 < 0 := by omega
      clear h506 hz505
      refine X.lload_n 7 (zi204 6) rfl rfl rfl ?_
      refine X.lload 9 (zi204 7) rfl rfl rfl ?_
      refine X.lcmp 10 (zi204 9) rfl rfl (fun z509 hz509 => ?_)
      refine X.ifgt 17 13 (zi204 10) rfl rfl rfl (fun h510 => ?_) (fun h510 => ?_)
      · have h510c : ¬ a2 ≤ 6 := by omega
        clear h510 hz509
        refine X.cut [] (zi204 17) rfl ?_
        refine X.iconst 18 (zi204 17) rfl rfl (by decide) ?_
        refine X.retz (zi204 18) rfl t204 (by omega) ?_
        show X (EE s) (d - 1) 290 9 [(0, zi a2), (1, zi a3)] [zi 0] m _
        refine X.ifeq 28 12 (zi290 9) rfl rfl rfl (fun h511 => ?_) (fun h511 => (by exfalso; omega))
        refine X.cut [] (zi290 28) rfl ?_
        refine X.iconst 29 (zi290 28) rfl rfl (by decide) ?_
        refine X.retz (zi290 29) rfl t290 (by omega) ?_
        show X (EE s) d 288 18 [(0, zr 4 44), (1, zi a1), (2, zi a2), (3, zi a3), (4, zi v503)] [zi 0] m _
        refine X.ifne 25 21 (zi288 18) rfl rfl rfl (fun h512 => (by exfalso; omega)) (fun h512 => ?_)
        refine X.cut [] (zi288 21) rfl ?_
        refine X.ldc2 24 (zi288 21) rfl rfl (by decide) ?_
        refine X.retl (zi288 24) rfl t288 ?_
        exact hQ (-1) (by first | trivial | omega) (Eq.trans (zn_eq hFv503.symm) (Eq.trans (if_neg h504) (Eq.trans (if_neg h506c) (Eq.trans (if_neg h510c) rfl)))) 
      · have h510c : a2 ≤ 6 := by omega
        clear h510 hz509
        refine X.iconst 14 (zi204 13) rfl rfl (by decide) ?_
        refine X.goto 18 (zi204 14) rfl rfl ?_
        refine X.cut [] (zi204 18) rfl ?_
        refine X.retz (zi204 18) rfl t204 (by omega) ?_
        show X (EE s) (d - 1) 290 9 [(0, zi a2), (1, zi a3)] [zi 1] m _
        refine X.ifeq 28 12 (zi290 9) rfl rfl rfl (fun h513 => (by exfalso; omega)) (fun h513 => ?_)
        refine X.iload_n 13 (zi290 12) rfl rfl rfl ?_
        refine X.iconst 14 (zi290 13) rfl rfl (by decide) ?_
        refine X.icmpeq 24 17 (zi290 14) rfl rfl rfl (fun h514 => ?_) (fun h514 => ?_)
        · refine X.cut [] (zi290 24) rfl ?_
          refine X.iconst 25 (zi290 24) rfl rfl (by decide) ?_
          refine X.goto 29 (zi290 25) rfl rfl ?_
          refine X.retz (zi290 29) rfl t290 (by omega) ?_
          show X (EE s) d 288 18 [(0, zr 4 44), (1, zi a1), (2, zi a2), (3, zi a3), (4, zi v503)] [zi 1] m _
          refine X.ifne 25 21 (zi288 18) rfl rfl rfl (fun h515 => ?_) (fun h515 => (by exfalso; omega))
          refine X.cut [(0, zr 4 44), (2, zi a2), (3, zi a3), (4, zi v503)] (zi288 25) rfl ?_
          refine X.iconst 26 (zi288 25) rfl rfl (by decide) ?_
          refine X.iload_n 27 (zi288 26) rfl rfl rfl ?_
          refine X.iload_n 28 (zi288 27) rfl rfl rfl ?_
          refine X.calls 31 [zi a2, zi a3] [zi 1] [(0, zi a2), (1, zi a3)] (zi288 28) (by decide) rfl rfl (by omega) rfl rfl t291 (Nat.le_of_ble_eq_true rfl) (Nat.le_of_ble_eq_true rfl) rfl ?_
          refine c291_1 (B := B)  a2 a3 (by omega) (hJ.up (by omega)) (by omega) (by omega) (by omega) (fun v518 hv518 hFv518 => ?_)
          show X (EE s) d 288 31 [(0, zr 4 44), (2, zi a2), (3, zi a3), (4, zi v503)] [zi v518, zi 1] m _
          refine X.iadd 32 (zi288 31) rfl rfl (by omega) ?_
          refine X.istore 34 [(0, zr 4 44), (2, zi a2), (3, zi a3), (4, zi v503), (5, zi (1 + v518))] (zi288 32) rfl rfl rfl ?_
          refine X.aload_n 35 (zi288 34) rfl rfl rfl ?_
          refine X.getF 38 (zi288 35) rfl rfl (by decide) rfl rfl ?_
          refine X.iload 40 (zi288 38) rfl rfl rfl ?_
          refine X.iload 42 (zi288 40) rfl rfl rfl ?_
          refine X.iadd 43 (zi288 42) rfl rfl (by omega) ?_
          refine X.lald 44 (zi288 43) rfl rfl (by decide) rfl (by omega) ?_
          refine X.iload 46 (zi288 44) rfl rfl rfl ?_
          refine X.sipush 49 (zi288 46) rfl rfl (by decide) ?_
          have hK523 : ∀ (v : Int) , (True) → (if v503 = 1172 then
              (0)
              else
              ((m 4 45 ((v503 - 45) + (1 + v518))))) = v → X (EE s) d 288 69 [] [zl v, zl (m 4 45 (v503 + (1 + v518)))] m Q := by
            intro v520 hv520 hT524
            refine X.lsubW 70 (zi288 69) rfl rfl (fun z525 ez525 hz525 => ?_)
            refine X.retl (zi288 70) rfl t288 ?_
            exact hQ z525 (by first | trivial | omega) (Eq.trans (zn_eq hFv503.symm) (Eq.trans (if_neg h504) (Eq.trans (if_neg h506c) (Eq.trans (if_pos h510c) (Eq.trans (if_pos h514) (Eq.trans (zn_eq hFv518.symm) (Eq.trans (zn_eq hT524.symm) (Eq.trans (zn_eq ez525) rfl)))))))) 
          refine X.icmpne 56 52 (zi288 49) rfl rfl rfl (fun h519 => ?_) (fun h519 => ?_)
          · refine X.cut [(0, zr 4 44), (4, zi v503), (5, zi (1 + v518))] (zi288 56) rfl ?_
            refine X.aload_n 57 (zi288 56) rfl rfl rfl ?_
            refine X.getF 60 (zi288 57) rfl rfl (by decide) rfl rfl ?_
            refine X.iload 62 (zi288 60) rfl rfl rfl ?_
            refine X.bipush 64 (zi288 62) rfl rfl (by decide) ?_
            refine X.isub 65 (zi288 64) rfl rfl (by omega) ?_
            refine X.iload 67 (zi288 65) rfl rfl rfl ?_
            refine X.iadd 68 (zi288 67) rfl rfl (by omega) ?_
            refine X.lald 69 (zi288 68) rfl rfl (by decide) rfl (by omega) ?_
            refine X.cut [] (zi288 69) rfl ?_
            exact hK523 (m 4 45 ((v503 - 45) + (1 + v518))) (by first | trivial | omega) (Eq.trans (if_neg h519) rfl)
          · refine X.lconst (y := 0) 53 (zi288 52) rfl rfl rfl ?_
            refine X.goto 69 (zi288 53) rfl rfl ?_
            refine X.cut [] (zi288 69) rfl ?_
            exact hK523 0 (by first | trivial | omega) (Eq.trans (if_pos h519) rfl)
        · refine X.iload_n 18 (zi290 17) rfl rfl rfl ?_
          refine X.calls 21 [zi a3] [] [(0, zi a3)] (zi290 18) (by decide) rfl rfl (by omega) rfl rfl t242 (Nat.le_of_ble_eq_true rfl) (Nat.le_of_ble_eq_true rfl) rfl ?_
          refine X.iload_n 1 (zi242 0) rfl rfl rfl ?_
          refine X.i2l 2 (zi242 1) rfl rfl ?_
          refine X.lconst (y := 0) 3 (zi242 2) rfl rfl rfl ?_
          refine X.ldc2 6 (zi242 3) rfl rfl (by decide) ?_
          refine X.calls 9 [zl a3, zl 0, zl 3] [] [(0, zl a3), (2, zl 0), (4, zl 3)] (zi242 6) (by decide) rfl rfl (by omega) rfl rfl t204 (Nat.le_of_ble_eq_true rfl) (Nat.le_of_ble_eq_true rfl) rfl ?_
          refine X.lload_n 1 (zi204 0) rfl rfl rfl ?_
          refine X.lload_n 2 (zi204 1) rfl rfl rfl ?_
          refine X.lcmp 3 (zi204 2) rfl rfl (fun z526 hz526 => ?_)
          refine X.iflt 17 6 (zi204 3) rfl rfl rfl (fun h527 => ?_) (fun h527 => ?_)
          · have h527c : a3 < 0 := by omega
            clear h527 hz526
            refine X.cut [] (zi204 17) rfl ?_
            refine X.iconst 18 (zi204 17) rfl rfl (by decide) ?_
            refine X.retz (zi204 18) rfl t204 (by omega) ?_
            show X (EE s) ((d - 1) - 1) 242 9 [(0, zi a3)] [zi 0] m _
            refine X.retz (zi242 9) rfl t242 (by omega) ?_
            show X (EE s) (d - 1) 290 21 [(0, zi a2), (1, zi a3)] [zi 0] m _
            refine X.ifeq 28 24 (zi290 21) rfl rfl rfl (fun h528 => ?_) (fun h528 => (by exfalso; omega))
            refine X.cut [] (zi290 28) rfl ?_
            refine X.iconst 29 (zi290 28) rfl rfl (by decide) ?_
            refine X.retz (zi290 29) rfl t290 (by omega) ?_
            show X (EE s) d 288 18 [(0, zr 4 44), (1, zi a1), (2, zi a2), (3, zi a3), (4, zi v503)] [zi 0] m _
            refine X.ifne 25 21 (zi288 18) rfl rfl rfl (fun h529 => (by exfalso; omega)) (fun h529 => ?_)
            refine X.cut [] (zi288 21) rfl ?_
            refine X.ldc2 24 (zi288 21) rfl rfl (by decide) ?_
            refine X.retl (zi288 24) rfl t288 ?_
            exact hQ (-1) (by first | trivial | omega) (Eq.trans (zn_eq hFv503.symm) (Eq.trans (if_neg h504) (Eq.trans (if_neg h506c) (Eq.trans (if_pos h510c) (Eq.trans (if_neg h514) (Eq.trans (if_pos h527c) rfl)))))) 
          · have h527c : ¬ a3 < 0 := by omega
            clear h527 hz526
            refine X.lload_n 7 (zi204 6) rfl rfl rfl ?_
            refine X.lload 9 (zi204 7) rfl rfl rfl ?_
            refine X.lcmp 10 (zi204 9) rfl rfl (fun z530 hz530 => ?_)
            refine X.ifgt 17 13 (zi204 10) rfl rfl rfl (fun h531 => ?_) (fun h531 => ?_)
            · have h531c : ¬ a3 ≤ 3 := by omega
              clear h531 hz530
              refine X.cut [] (zi204 17) rfl ?_
              refine X.iconst 18 (zi204 17) rfl rfl (by decide) ?_
              refine X.retz (zi204 18) rfl t204 (by omega) ?_
              show X (EE s) ((d - 1) - 1) 242 9 [(0, zi a3)] [zi 0] m _
              refine X.retz (zi242 9) rfl t242 (by omega) ?_
              show X (EE s) (d - 1) 290 21 [(0, zi a2), (1, zi a3)] [zi 0] m _
              refine X.ifeq 28 24 (zi290 21) rfl rfl rfl (fun h532 => ?_) (fun h532 => (by exfalso; omega))
              refine X.cut [] (zi290 28) rfl ?_
              refine X.iconst 29 (zi290 28) rfl rfl (by decide) ?_
              refine X.retz (zi290 29) rfl t290 (by omega) ?_
              show X (EE s) d 288 18 [(0, zr 4 44), (1, zi a1), (2, zi a2), (3, zi a3), (4, zi v503)] [zi 0] m _
              refine X.ifne 25 21 (zi288 18) rfl rfl rfl (fun h533 => (by exfalso; omega)) (fun h533 => ?_)
              refine X.cut [] (zi288 21) rfl ?_
              refine X.ldc2 24 (zi288 21) rfl rfl (by decide) ?_
              refine X.retl (zi288 24) rfl t288 ?_
              exact hQ (-1) (by first | trivial | omega) (Eq.trans (zn_eq hFv503.symm) (Eq.trans (if_neg h504) (Eq.trans (if_neg h506c) (Eq.trans (if_pos h510c) (Eq.trans (if_neg h514) (Eq.trans (if_neg h527c) (Eq.trans (if_neg h531c) rfl))))))) 
            · have h531c : a3 ≤ 3 := by omega
              clear h531 hz530
              refine X.iconst 14 (zi204 13) rfl rfl (by decide) ?_
              refine X.goto 18 (zi204 14) rfl rfl ?_
              refine X.cut [] (zi204 18) rfl ?_
              refine X.retz (zi204 18) rfl t204 (by omega) ?_
              show X (EE s) ((d - 1) - 1) 242 9 [(0, zi a3)] [zi 1] m _
              refine X.retz (zi242 9) rfl t242 (by omega) ?_
              show X (EE s) (d - 1) 290 21 [(0, zi a2), (1, zi a3)] [zi 1] m _
              refine X.ifeq 28 24 (zi290 21) rfl rfl rfl (fun h534 => (by exfalso; omega)) (fun h534 => ?_)
              refine X.cut [] (zi290 24) rfl ?_
              refine X.iconst 25 (zi290 24) rfl rfl (by decide) ?_
              refine X.goto 29 (zi290 25) rfl rfl ?_
              refine X.retz (zi290 29) rfl t290 (by omega) ?_
              show X (EE s) d 288 18 [(0, zr 4 44), (1, zi a1), (2, zi a2), (3, zi a3), (4, zi v503)] [zi 1] m _
              refine X.ifne 25 21 (zi288 18) rfl rfl rfl (fun h535 => ?_) (fun h535 => (by exfalso; omega))
              refine X.cut [(0, zr 4 44), (2, zi a2), (3, zi a3), (4, zi v503)] (zi288 25) rfl ?_
              refine X.iconst 26 (zi288 25) rfl rfl (by decide) ?_
              refine X.iload_n 27 (zi288 26) rfl rfl rfl ?_
              refine X.iload_n 28 (zi288 27) rfl rfl rfl ?_
              refine X.calls 31 [zi a2, zi a3] [zi 1] [(0, zi a2), (1, zi a3)] (zi288 28) (by decide) rfl rfl (by omega) rfl rfl t291 (Nat.le_of_ble_eq_true rfl) (Nat.le_of_ble_eq_true rfl) rfl ?_
              refine c291_1 (B := B)  a2 a3 (by omega) (hJ.up (by omega)) (by omega) (by omega) (by omega) (fun v538 hv538 hFv538 => ?_)
              show X (EE s) d 288 31 [(0, zr 4 44), (2, zi a2), (3, zi a3), (4, zi v503)] [zi v538, zi 1] m _
              refine X.iadd 32 (zi288 31) rfl rfl (by omega) ?_
              refine X.istore 34 [(0, zr 4 44), (2, zi a2), (3, zi a3), (4, zi v503), (5, zi (1 + v538))] (zi288 32) rfl rfl rfl ?_
              refine X.aload_n 35 (zi288 34) rfl rfl rfl ?_
              refine X.getF 38 (zi288 35) rfl rfl (by decide) rfl rfl ?_
              refine X.iload 40 (zi288 38) rfl rfl rfl ?_
              refine X.iload 42 (zi288 40) rfl rfl rfl ?_
              refine X.iadd 43 (zi288 42) rfl rfl (by omega) ?_
              refine X.lald 44 (zi288 43) rfl rfl (by decide) rfl (by omega) ?_
              refine X.iload 46 (zi288 44) rfl rfl rfl ?_
              refine X.sipush 49 (zi288 46) rfl rfl (by decide) ?_
              have hK543 : ∀ (v : Int) , (True) → (if v503 = 1172 then
                  (0)
                  else
                  ((m 4 45 ((v503 - 45) + (1 + v538))))) = v → X (EE s) d 288 69 [] [zl v, zl (m 4 45 (v503 + (1 + v538)))] m Q := by
                intro v540 hv540 hT544
                refine X.lsubW 70 (zi288 69) rfl rfl (fun z545 ez545 hz545 => ?_)
                refine X.retl (zi288 70) rfl t288 ?_
                exact hQ z545 (by first | trivial | omega) (Eq.trans (zn_eq hFv503.symm) (Eq.trans (if_neg h504) (Eq.trans (if_neg h506c) (Eq.trans (if_pos h510c) (Eq.trans (if_neg h514) (Eq.trans (if_neg h527c) (Eq.trans (if_pos h531c) (Eq.trans (zn_eq hFv538.symm) (Eq.trans (zn_eq hT544.symm) (Eq.trans (zn_eq ez545) rfl)))))))))) 
              refine X.icmpne 56 52 (zi288 49) rfl rfl rfl (fun h539 => ?_) (fun h539 => ?_)
              · refine X.cut [(0, zr 4 44), (4, zi v503), (5, zi (1 + v538))] (zi288 56) rfl ?_
                refine X.aload_n 57 (zi288 56) rfl rfl rfl ?_
                refine X.getF 60 (zi288 57) rfl rfl (by decide) rfl rfl ?_
                refine X.iload 62 (zi288 60) rfl rfl rfl ?_
                refine X.bipush 64 (zi288 62) rfl rfl (by decide) ?_
                refine X.isub 65 (zi288 64) rfl rfl (by omega) ?_
                refine X.iload 67 (zi288 65) rfl rfl rfl ?_
                refine X.iadd 68 (zi288 67) rfl rfl (by omega) ?_
                refine X.lald 69 (zi288 68) rfl rfl (by decide) rfl (by omega) ?_
                refine X.cut [] (zi288 69) rfl ?_
                exact hK543 (m 4 45 ((v503 - 45) + (1 + v538))) (by first | trivial | omega) (Eq.trans (if_neg h539) rfl)
              · refine X.lconst (y := 0) 53 (zi288 52) rfl rfl rfl ?_
                refine X.goto 69 (zi288 53) rfl rfl ?_
                refine X.cut [] (zi288 69) rfl ?_
                exact hK543 0 (by first | trivial | omega) (Eq.trans (if_pos h539) rfl)
-- WorkMeter.bills
noncomputable def f163_1 (a1 a2 : Int) (m : zM) : Int :=
  if a1 < 0 then
  ((-1))
  else
  (if (min (m 0 23 3) 6) ≤ a1 then
  ((-1))
  else
  (if a2 < 0 then
  ((-1))
  else
  (if a2 ≤ 4 then
  (zn (if a2 = 0 then
  ((m 0 26 ((((((m 0 23 3) - 1) - a1) % 6) * 33) + 32)))
  else
  ((m 0 26 (((((((m 0 23 3) - 1) - a1) % 6) * 33) + 28) + (a2 - 1))))) fun v510 =>
  v510)
  else
  ((-1)))))
-- WorkMeter.bills
theorem c163_1 {s : Nat × (Nat → Int32)} {S : zS} {m0 m : zM} {B : Int} {d : Nat} {Q : Option zV → zM → Prop} (a1 a2 : Int) (hd : 14 ≤ d) (hJ : J S m0 B m) (hB : B + 0 ≤ 1000000000) (ha1 : (-2147483648) ≤ a1 ∧ a1 ≤ 2147483647) (ha2 : (-2147483648) ≤ a2 ∧ a2 ≤ 2147483647) (hQ : ∀ (v : Int), (True) → f163_1 a1 a2 m = v → Q (some (zl v)) m) : X (EE s) d 163 0 [(0, zr 4 40), (1, zi a1), (2, zi a2)] [] m Q := by
  refine X.aload_n 1 (zi163 0) rfl rfl rfl ?_
  refine X.getF 4 (zi163 1) rfl rfl (by decide) rfl rfl ?_
  refine X.getR 7 (zi163 4) rfl rfl (by decide) rfl rfl ?_
  refine X.iload_n 8 (zi163 7) rfl rfl rfl ?_
  refine X.callv 11 [zi a1] [] [(0, zr 0 23), (1, zi a1)] (zi163 8) rfl (by decide) rfl rfl (by omega) rfl rfl (by decide) rfl t160 (Nat.le_of_ble_eq_true rfl) (Nat.le_of_ble_eq_true rfl) rfl ?_
  refine X.iload_n 1 (zi160 0) rfl rfl rfl ?_
  refine X.iflt 21 4 (zi160 1) rfl rfl rfl (fun h501 => ?_) (fun h501 => ?_)
  · refine X.cut [] (zi160 21) rfl ?_
    refine X.iconst 22 (zi160 21) rfl rfl (by decide) ?_
    refine X.retz (zi160 22) rfl t160 (by omega) ?_
    show X (EE s) d 163 11 [(0, zr 4 40), (1, zi a1), (2, zi a2)] [zi 0] m _
    refine X.ifeq 23 14 (zi163 11) rfl rfl rfl (fun h502 => ?_) (fun h502 => (by exfalso; omega))
    refine X.cut [] (zi163 23) rfl ?_
    refine X.ldc2 26 (zi163 23) rfl rfl (by decide) ?_
    refine X.retl (zi163 26) rfl t163 ?_
    exact hQ (-1) (by first | trivial | omega) (Eq.trans (if_pos h501) rfl) 
  · refine X.iload_n 5 (zi160 4) rfl rfl rfl ?_
    refine X.aload_n 6 (zi160 5) rfl rfl rfl ?_
    refine X.getI 9 3 (zi160 6) rfl rfl (by decide) rfl rfl rfl ?_
    have h503 := r23_3 hJ 0
    refine X.bipush 11 (zi160 9) rfl rfl (by decide) ?_
    refine X.minI 14 (zi160 11) rfl rfl (by omega) (Nat.le_of_ble_eq_true rfl) ?_
    refine X.icmpge 21 17 (zi160 14) rfl rfl rfl (fun h504 => ?_) (fun h504 => ?_)
    · refine X.cut [] (zi160 21) rfl ?_
      refine X.iconst 22 (zi160 21) rfl rfl (by decide) ?_
      refine X.retz (zi160 22) rfl t160 (by omega) ?_
      show X (EE s) d 163 11 [(0, zr 4 40), (1, zi a1), (2, zi a2)] [zi 0] m _
      refine X.ifeq 23 14 (zi163 11) rfl rfl rfl (fun h505 => ?_) (fun h505 => (by exfalso; omega))
      refine X.cut [] (zi163 23) rfl ?_
      refine X.ldc2 26 (zi163 23) rfl rfl (by decide) ?_
      refine X.retl (zi163 26) rfl t163 ?_
      exact hQ (-1) (by first | trivial | omega) (Eq.trans (if_neg h501) (Eq.trans (if_pos h504) rfl)) 
    · refine X.iconst 18 (zi160 17) rfl rfl (by decide) ?_
      refine X.goto 22 (zi160 18) rfl rfl ?_
      refine X.cut [] (zi160 22) rfl ?_
      refine X.retz (zi160 22) rfl t160 (by omega) ?_
      show X (EE s) d 163 11 [(0, zr 4 40), (1, zi a1), (2, zi a2)] [zi 1] m _
      refine X.ifeq 23 14 (zi163 11) rfl rfl rfl (fun h506 => (by exfalso; omega)) (fun h506 => ?_)
      refine X.iload_n 15 (zi163 14) rfl rfl rfl ?_
      refine X.iflt 23 18 (zi163 15) rfl rfl rfl (fun h507 => ?_) (fun h507 => ?_)
      · refine X.cut [] (zi163 23) rfl ?_
        refine X.ldc2 26 (zi163 23) rfl rfl (by decide) ?_
        refine X.retl (zi163 26) rfl t163 ?_
        exact hQ (-1) (by first | trivial | omega) (Eq.trans (if_neg h501) (Eq.trans (if_neg h504) (Eq.trans (if_pos h507) rfl))) 
      · refine X.iload_n 19 (zi163 18) rfl rfl rfl ?_
        refine X.iconst 20 (zi163 19) rfl rfl (by decide) ?_
        refine X.icmple 27 23 (zi163 20) rfl rfl rfl (fun h508 => ?_) (fun h508 => ?_)
        · refine X.iload_n 28 (zi163 27) rfl rfl rfl ?_
          have hK513 : ∀ (v : Int) , (True) → (if a2 = 0 then
              ((m 0 26 ((((((m 0 23 3) - 1) - a1) % 6) * 33) + 32)))
              else
              ((m 0 26 (((((((m 0 23 3) - 1) - a1) % 6) * 33) + 28) + (a2 - 1))))) = v → X (EE s) d 163 59 [] [zl v] m Q := by
            intro v510 hv510 hT514
            refine X.retl (zi163 59) rfl t163 ?_
            exact hQ v510 (by first | trivial | omega) (Eq.trans (if_neg h501) (Eq.trans (if_neg h504) (Eq.trans (if_neg h507) (Eq.trans (if_pos h508) (Eq.trans (zn_eq hT514.symm) rfl))))) 
          refine X.ifne 45 31 (zi163 28) rfl rfl rfl (fun h509 => ?_) (fun h509 => ?_)
          · refine X.aload_n 46 (zi163 45) rfl rfl rfl ?_
            refine X.getF 49 (zi163 46) rfl rfl (by decide) rfl rfl ?_
            refine X.getR 52 (zi163 49) rfl rfl (by decide) rfl rfl ?_
            refine X.iload_n 53 (zi163 52) rfl rfl rfl ?_
            refine X.iload_n 54 (zi163 53) rfl rfl rfl ?_
            refine X.iconst 55 (zi163 54) rfl rfl (by decide) ?_
            refine X.isub 56 (zi163 55) rfl rfl (by omega) ?_
            refine X.callv 59 [zi a1, zi (a2 - 1)] [] [(0, zr 0 23), (1, zi a1), (2, zi (a2 - 1))] (zi163 56) rfl (by decide) rfl rfl (by omega) rfl rfl (by decide) rfl t165 (Nat.le_of_ble_eq_true rfl) (Nat.le_of_ble_eq_true rfl) rfl ?_
            refine X.aload_n 1 (zi165 0) rfl rfl rfl ?_
            refine X.getR 4 (zi165 1) rfl rfl (by decide) rfl rfl ?_
            refine X.aload_n 5 (zi165 4) rfl rfl rfl ?_
            refine X.iload_n 6 (zi165 5) rfl rfl rfl ?_
            refine X.callv 9 [zi a1] [zr 0 26] [(0, zr 0 23), (1, zi a1)] (zi165 6) rfl (by decide) rfl rfl (by omega) rfl rfl (by decide) rfl t162 (Nat.le_of_ble_eq_true rfl) (Nat.le_of_ble_eq_true rfl) rfl ?_
            refine X.aload_n 1 (zi162 0) rfl rfl rfl ?_
            refine X.getI 4 3 (zi162 1) rfl rfl (by decide) rfl rfl rfl ?_
            refine X.iconst 5 (zi162 4) rfl rfl (by decide) ?_
            refine X.isub 6 (zi162 5) rfl rfl (by omega) ?_
            refine X.iload_n 7 (zi162 6) rfl rfl rfl ?_
            refine X.isub 8 (zi162 7) rfl rfl (by omega) ?_
            refine X.bipush 10 (zi162 8) rfl rfl (by decide) ?_
            refine X.irem 11 (zi162 10) rfl rfl (by omega) ?_
            refine X.bipush 13 (zi162 11) rfl rfl (by decide) ?_
            refine X.imul 14 (zi162 13) rfl rfl (by omega) ?_
            refine X.reti (zi162 14) rfl t162 ?_
            show X (EE s) (d - 1) 165 9 [(0, zr 0 23), (1, zi a1), (2, zi (a2 - 1))] [zi (((((m 0 23 3) - 1) - a1) % 6) * 33), zr 0 26] m _
            refine X.bipush 11 (zi165 9) rfl rfl (by decide) ?_
            refine X.iadd 12 (zi165 11) rfl rfl (by omega) ?_
            refine X.iload_n 13 (zi165 12) rfl rfl rfl ?_
            refine X.iadd 14 (zi165 13) rfl rfl (by omega) ?_
            refine X.lald 15 (zi165 14) rfl rfl (by decide) rfl (by omega) ?_
            refine X.retl (zi165 15) rfl t165 ?_
            show X (EE s) d 163 59 [(0, zr 4 40), (1, zi a1), (2, zi a2)] [zl (m 0 26 (((((((m 0 23 3) - 1) - a1) % 6) * 33) + 28) + (a2 - 1)))] m _
            refine X.cut [] (zi163 59) rfl ?_
            exact hK513 (m 0 26 (((((((m 0 23 3) - 1) - a1) % 6) * 33) + 28) + (a2 - 1))) (by first | trivial | omega) (Eq.trans (if_neg h509) rfl)
          · refine X.aload_n 32 (zi163 31) rfl rfl rfl ?_
            refine X.getF 35 (zi163 32) rfl rfl (by decide) rfl rfl ?_
            refine X.getR 38 (zi163 35) rfl rfl (by decide) rfl rfl ?_
            refine X.iload_n 39 (zi163 38) rfl rfl rfl ?_
            refine X.callv 42 [zi a1] [] [(0, zr 0 23), (1, zi a1)] (zi163 39) rfl (by decide) rfl rfl (by omega) rfl rfl (by decide) rfl t164 (Nat.le_of_ble_eq_true rfl) (Nat.le_of_ble_eq_true rfl) rfl ?_
            refine X.aload_n 1 (zi164 0) rfl rfl rfl ?_
            refine X.getR 4 (zi164 1) rfl rfl (by decide) rfl rfl ?_
            refine X.aload_n 5 (zi164 4) rfl rfl rfl ?_
            refine X.iload_n 6 (zi164 5) rfl rfl rfl ?_
            refine X.callv 9 [zi a1] [zr 0 26] [(0, zr 0 23), (1, zi a1)] (zi164 6) rfl (by decide) rfl rfl (by omega) rfl rfl (by decide) rfl t162 (Nat.le_of_ble_eq_true rfl) (Nat.le_of_ble_eq_true rfl) rfl ?_
            refine X.aload_n 1 (zi162 0) rfl rfl rfl ?_
            refine X.getI 4 3 (zi162 1) rfl rfl (by decide) rfl rfl rfl ?_
            refine X.iconst 5 (zi162 4) rfl rfl (by decide) ?_
            refine X.isub 6 (zi162 5) rfl rfl (by omega) ?_
            refine X.iload_n 7 (zi162 6) rfl rfl rfl ?_
            refine X.isub 8 (zi162 7) rfl rfl (by omega) ?_
            refine X.bipush 10 (zi162 8) rfl rfl (by decide) ?_
            refine X.irem 11 (zi162 10) rfl rfl (by omega) ?_
            refine X.bipush 13 (zi162 11) rfl rfl (by decide) ?_
            refine X.imul 14 (zi162 13) rfl rfl (by omega) ?_
            refine X.reti (zi162 14) rfl t162 ?_
            show X (EE s) (d - 1) 164 9 [(0, zr 0 23), (1, zi a1)] [zi (((((m 0 23 3) - 1) - a1) % 6) * 33), zr 0 26] m _
            refine X.bipush 11 (zi164 9) rfl rfl (by decide) ?_
            refine X.iadd 12 (zi164 11) rfl rfl (by omega) ?_
            refine X.lald 13 (zi164 12) rfl rfl (by decide) rfl (by omega) ?_
            refine X.retl (zi164 13) rfl t164 ?_
            show X (EE s) d 163 42 [(0, zr 4 40), (1, zi a1), (2, zi a2)] [zl (m 0 26 ((((((m 0 23 3) - 1) - a1) % 6) * 33) + 32))] m _
            refine X.goto 59 (zi163 42) rfl rfl ?_
            refine X.cut [] (zi163 59) rfl ?_
            exact hK513 (m 0 26 ((((((m 0 23 3) - 1) - a1) % 6) * 33) + 32)) (by first | trivial | omega) (Eq.trans (if_pos h509) rfl)
        · refine X.cut [] (zi163 23) rfl ?_
          refine X.ldc2 26 (zi163 23) rfl rfl (by decide) ?_
          refine X.retl (zi163 26) rfl t163 ?_
          exact hQ (-1) (by first | trivial | omega) (Eq.trans (if_neg h501) (Eq.trans (if_neg h504) (Eq.trans (if_neg h507) (Eq.trans (if_neg h508) rfl)))) 
-- WorkMeterModel.bills
noncomputable def f292_1 (a1 a2 : Int) (m : zM) : Int :=
  zn (f289_1 a1 m) fun v503 =>
  if v503 = (-1) then
  ((-1))
  else
  (if a2 < 0 then
  ((-1))
  else
  (if a2 ≤ 4 then
  (zn (if a2 = 0 then
  ((m 4 45 v503))
  else
  ((m 4 45 ((v503 + 35) + a2)))) fun v513 =>
  v513)
  else
  ((-1))))
-- WorkMeterModel.bills
theorem c292_1 {s : Nat × (Nat → Int32)} {S : zS} {m0 m : zM} {B : Int} {d : Nat} {Q : Option zV → zM → Prop} (a1 a2 : Int) (hd : 14 ≤ d) (hJ : J S m0 B m) (hB : B + 0 ≤ 1000000000) (ha1 : (-2147483648) ≤ a1 ∧ a1 ≤ 2147483647) (ha2 : (-2147483648) ≤ a2 ∧ a2 ≤ 2147483647) (hQ : ∀ (v : Int), (True) → f292_1 a1 a2 m = v → Q (some (zl v)) m) : X (EE s) d 292 0 [(0, zr 4 44), (1, zi a1), (2, zi a2)] [] m Q := by
  refine X.aload_n 1 (zi292 0) rfl rfl rfl ?_
  refine X.iload_n 2 (zi292 1) rfl rfl rfl ?_
  refine X.callv 5 [zi a1] [] [(0, zr 4 44), (1, zi a1)] (zi292 2) rfl (by decide) rfl rfl (by omega) rfl rfl (by decide) rfl t289 (Nat.le_of_ble_eq_true rfl) (Nat.le_of_ble_eq_true rfl) rfl ?_
  refine c289_1 (B := B)  a1 (by omega) (hJ.up (by omega)) (by omega) (by omega) (fun v503 hv503 hFv503 hqv503_0 => ?_)
  show X (EE s) d 292 5 [(0, zr 4 44), (1, zi a1), (2, zi a2)] [zi v503] m _
  refine X.istore_n 6 [(0, zr 4 44), (1, zi a1), (2, zi a2), (3, zi v503)] (zi292 5) rfl rfl rfl ?_
  refine X.iload_n 7 (zi292 6) rfl rfl rfl ?_
  refine X.iconst 8 (zi292 7) rfl rfl (by decide) ?_
  refine X.icmpeq 23 11 (zi292 8) rfl rfl rfl (fun h504 => ?_) (fun h504 => ?_)
  · refine X.cut [] (zi292 23) rfl ?_
    refine X.ldc2 26 (zi292 23) rfl rfl (by decide) ?_
    refine X.retl (zi292 26) rfl t292 ?_
    exact hQ (-1) (by first | trivial | omega) (Eq.trans (zn_eq hFv503.symm) (Eq.trans (if_pos h504) rfl)) 
  · refine X.iload_n 12 (zi292 11) rfl rfl rfl ?_
    refine X.i2l 13 (zi292 12) rfl rfl ?_
    refine X.lconst (y := 0) 14 (zi292 13) rfl rfl rfl ?_
    refine X.ldc2 17 (zi292 14) rfl rfl (by decide) ?_
    refine X.calls 20 [zl a2, zl 0, zl 4] [] [(0, zl a2), (2, zl 0), (4, zl 4)] (zi292 17) (by decide) rfl rfl (by omega) rfl rfl t204 (Nat.le_of_ble_eq_true rfl) (Nat.le_of_ble_eq_true rfl) rfl ?_
    refine X.lload_n 1 (zi204 0) rfl rfl rfl ?_
    refine X.lload_n 2 (zi204 1) rfl rfl rfl ?_
    refine X.lcmp 3 (zi204 2) rfl rfl (fun z505 hz505 => ?_)
    refine X.iflt 17 6 (zi204 3) rfl rfl rfl (fun h506 => ?_) (fun h506 => ?_)
    · have h506c : a2 < 0 := by omega
      clear h506 hz505
      refine X.cut [] (zi204 17) rfl ?_
      refine X.iconst 18 (zi204 17) rfl rfl (by decide) ?_
      refine X.retz (zi204 18) rfl t204 (by omega) ?_
      show X (EE s) d 292 20 [(0, zr 4 44), (1, zi a1), (2, zi a2), (3, zi v503)] [zi 0] m _
      refine X.ifne 27 23 (zi292 20) rfl rfl rfl (fun h507 => (by exfalso; omega)) (fun h507 => ?_)
      refine X.cut [] (zi292 23) rfl ?_
      refine X.ldc2 26 (zi292 23) rfl rfl (by decide) ?_
      refine X.retl (zi292 26) rfl t292 ?_
      exact hQ (-1) (by first | trivial | omega) (Eq.trans (zn_eq hFv503.symm) (Eq.trans (if_neg h504) (Eq.trans (if_pos h506c) rfl))) 
    · have h506c : ¬ a2 < 0 := by omega
      clear h506 hz505
      refine X.lload_n 7 (zi204 6) rfl rfl rfl ?_
      refine X.lload 9 (zi204 7) rfl rfl rfl ?_
      refine X.lcmp 10 (zi204 9) rfl rfl (fun z508 hz508 => ?_)
      refine X.ifgt 17 13 (zi204 10) rfl rfl rfl (fun h509 => ?_) (fun h509 => ?_)
      · have h509c : ¬ a2 ≤ 4 := by omega
        clear h509 hz508
        refine X.cut [] (zi204 17) rfl ?_
        refine X.iconst 18 (zi204 17) rfl rfl (by decide) ?_
        refine X.retz (zi204 18) rfl t204 (by omega) ?_
        show X (EE s) d 292 20 [(0, zr 4 44), (1, zi a1), (2, zi a2), (3, zi v503)] [zi 0] m _
        refine X.ifne 27 23 (zi292 20) rfl rfl rfl (fun h510 => (by exfalso; omega)) (fun h510 => ?_)
        refine X.cut [] (zi292 23) rfl ?_
        refine X.ldc2 26 (zi292 23) rfl rfl (by decide) ?_
        refine X.retl (zi292 26) rfl t292 ?_
        exact hQ (-1) (by first | trivial | omega) (Eq.trans (zn_eq hFv503.symm) (Eq.trans (if_neg h504) (Eq.trans (if_neg h506c) (Eq.trans (if_neg h509c) rfl)))) 
      · have h509c : a2 ≤ 4 := by omega
        clear h509 hz508
        refine X.iconst 14 (zi204 13) rfl rfl (by decide) ?_
        refine X.goto 18 (zi204 14) rfl rfl ?_
        refine X.cut [] (zi204 18) rfl ?_
        refine X.retz (zi204 18) rfl t204 (by omega) ?_
        show X (EE s) d 292 20 [(0, zr 4 44), (1, zi a1), (2, zi a2), (3, zi v503)] [zi 1] m _
        refine X.ifne 27 23 (zi292 20) rfl rfl rfl (fun h511 => ?_) (fun h511 => (by exfalso; omega))
        refine X.cut [(0, zr 4 44), (2, zi a2), (3, zi v503)] (zi292 27) rfl ?_
        refine X.iload_n 28 (zi292 27) rfl rfl rfl ?_
        have hK516 : ∀ (v : Int) , (True) → (if a2 = 0 then
            ((m 4 45 v503))
            else
            ((m 4 45 ((v503 + 35) + a2)))) = v → X (EE s) d 292 51 [] [zl v] m Q := by
          intro v513 hv513 hT517
          refine X.retl (zi292 51) rfl t292 ?_
          exact hQ v513 (by first | trivial | omega) (Eq.trans (zn_eq hFv503.symm) (Eq.trans (if_neg h504) (Eq.trans (if_neg h506c) (Eq.trans (if_pos h509c) (Eq.trans (zn_eq hT517.symm) rfl))))) 
        refine X.ifne 40 31 (zi292 28) rfl rfl rfl (fun h512 => ?_) (fun h512 => ?_)
        · refine X.aload_n 41 (zi292 40) rfl rfl rfl ?_
          refine X.getF 44 (zi292 41) rfl rfl (by decide) rfl rfl ?_
          refine X.iload_n 45 (zi292 44) rfl rfl rfl ?_
          refine X.bipush 47 (zi292 45) rfl rfl (by decide) ?_
          refine X.iadd 48 (zi292 47) rfl rfl (by omega) ?_
          refine X.iload_n 49 (zi292 48) rfl rfl rfl ?_
          refine X.iadd 50 (zi292 49) rfl rfl (by omega) ?_
          refine X.lald 51 (zi292 50) rfl rfl (by decide) rfl (by omega) ?_
          refine X.cut [] (zi292 51) rfl ?_
          exact hK516 (m 4 45 ((v503 + 35) + a2)) (by first | trivial | omega) (Eq.trans (if_neg h512) rfl)
        · refine X.aload_n 32 (zi292 31) rfl rfl rfl ?_
          refine X.getF 35 (zi292 32) rfl rfl (by decide) rfl rfl ?_
          refine X.iload_n 36 (zi292 35) rfl rfl rfl ?_
          refine X.lald 37 (zi292 36) rfl rfl (by decide) rfl (by omega) ?_
          refine X.goto 51 (zi292 37) rfl rfl ?_
          refine X.cut [] (zi292 51) rfl ?_
          exact hK516 (m 4 45 v503) (by first | trivial | omega) (Eq.trans (if_pos h512) rfl)
noncomputable def fl167_8_1_b (self : Int → Int → Int → Int) (k53 : Int → Int → Int) (g0 g2 : Nat) (y1 : Int) (m : zM) (y3 y5 y7 : Int) : Int :=
  if 4 ≤ y7 then
  (k53 y3 y5)
  else
  (zn (f161_1 g0 y1 0 y7 m) fun v519 =>
  zn (w64 (v519 * (m g2 10 (6 + y7)))) fun z521 =>
  zn (w64 (y3 + z521)) fun z522 =>
  self z522 (max y5 (m g0 26 (((((((m g0 23 3) - 1) - y1) % 6) * 33) + 28) + y7))) (y7 + 1))
noncomputable def fl167_8_1 (k53 : Int → Int → Int) (g0 g2 : Nat) (y1 : Int) (m : zM) : Nat → Int → Int → Int → Int
  | 0 => fun y3 y5 y7 => 0
  | n + 1 => fl167_8_1_b (fl167_8_1 k53 g0 g2 y1 m n) k53 g0 g2 y1 m
theorem l167_8_1 {s : Nat × (Nat → Int32)} {S : zS} {m0 : zM} {m : zM} {B : Int} {d : Nat} {Q : Option zV → zM → Prop} {R0 : Int} {k53 : Int → Int → Int} (g0 g2 : Nat) (y1 : Int) (hd : 15 ≤ d) (hJ : J S m0 B m) (hB9 : B ≤ 1000000000) (hy1 : 0 ≤ y1 ∧ y1 ≤ 5)
    (K53 : ∀ (x3 x5 : Int) , (True) → (0 ≤ x5) → (0 ≤ y1) → (y1 < m g0 23 3) → R0 = k53 x3 x5 → X (EE s) d 167 53 [(0, zr g0 23), (1, zi y1), (2, zr g2 9), (3, zl x3), (5, zl x5)] [] m Q) :
    ∀ (n : Nat) (y3 y5 y7 : Int) , (0 ≤ y5) → (0 ≤ y7 ∧ y7 ≤ 4) → (0 ≤ y1) → (y1 < m g0 23 3) → 4 - y7 < (n : Int) → R0 = fl167_8_1 k53 g0 g2 y1 m n y3 y5 y7 → X (EE s) d 167 8 [(0, zr g0 23), (1, zi y1), (2, zr g2 9), (3, zl y3), (5, zl y5), (7, zi y7)] [] m Q := by
  intro n
  induction n with
  | zero =>
    intro y3 y5 y7 hy5 hy7 hr0 hr1 hn hR
    exfalso
    omega
  | succ n ih =>
    intro y3 y5 y7 hy5 hy7 hr0 hr1 hn hR
    replace hR : R0 = fl167_8_1_b (fl167_8_1 k53 g0 g2 y1 m n) k53 g0 g2 y1 m y3 y5 y7 := hR
    refine X.iload 10 (zi167 8) rfl rfl rfl ?_
    refine X.iconst 11 (zi167 10) rfl rfl (by decide) ?_
    refine X.icmpge 53 14 (zi167 11) rfl rfl rfl (fun h516 => ?_) (fun h516 => ?_)
    · refine X.cut [(0, zr g0 23), (1, zi y1), (2, zr g2 9), (3, zl y3), (5, zl y5)] (zi167 53) rfl ?_
      exact K53 y3 y5 (by first | trivial | omega) (by first | trivial | omega) (by omega) (by omega) (Eq.trans hR (Eq.trans (if_pos h516) rfl))
    · refine X.lload_n 15 (zi167 14) rfl rfl rfl ?_
      refine X.aload_n 16 (zi167 15) rfl rfl rfl ?_
      refine X.iload_n 17 (zi167 16) rfl rfl rfl ?_
      refine X.iconst 18 (zi167 17) rfl rfl (by decide) ?_
      refine X.iload 20 (zi167 18) rfl rfl rfl ?_
      refine X.callv 23 [zi y1, zi 0, zi y7] [zl y3] [(0, zr g0 23), (1, zi y1), (2, zi 0), (3, zi y7)] (zi167 20) rfl (by decide) rfl rfl (by omega) rfl rfl (by decide) rfl t161 (Nat.le_of_ble_eq_true rfl) (Nat.le_of_ble_eq_true rfl) rfl ?_
      refine c161_1 (B := B) g0 y1 0 y7 (by omega) (hJ.up (by omega)) (by omega) (by omega) (by omega) (by omega) (by omega) (by omega) (fun v519 hv519 hFv519 => ?_)
      show X (EE s) d 167 23 [(0, zr g0 23), (1, zi y1), (2, zr g2 9), (3, zl y3), (5, zl y5), (7, zi y7)] [zl v519, zl y3] m _
      refine X.aload_n 24 (zi167 23) rfl rfl rfl ?_
      refine X.iload 26 (zi167 24) rfl rfl rfl ?_
      refine X.callv 29 [zi y7] [zl v519, zl y3] [(0, zr g2 9), (1, zi y7)] (zi167 26) rfl (by decide) rfl rfl (by omega) rfl rfl (by decide) rfl t43 (Nat.le_of_ble_eq_true rfl) (Nat.le_of_ble_eq_true rfl) rfl ?_
      refine X.aload_n 1 (zi43 0) rfl rfl rfl ?_
      refine X.getR 4 (zi43 1) rfl rfl (by decide) rfl rfl ?_
      refine X.bipush 6 (zi43 4) rfl rfl (by decide) ?_
      refine X.iload_n 7 (zi43 6) rfl rfl rfl ?_
      refine X.iadd 8 (zi43 7) rfl rfl (by omega) ?_
      refine X.iald 9 (zi43 8) rfl rfl (by decide) rfl (by omega) ?_
      have h520 := r10_6 hJ g2 (i := (6 + y7)) (by omega)
      refine X.reti (zi43 9) rfl t43 ?_
      show X (EE s) d 167 29 [(0, zr g0 23), (1, zi y1), (2, zr g2 9), (3, zl y3), (5, zl y5), (7, zi y7)] [zi (m g2 10 (6 + y7)), zl v519, zl y3] m _
      refine X.i2l 30 (zi167 29) rfl rfl ?_
      refine X.lmulW 31 (zi167 30) rfl rfl (fun z521 ez521 hz521 => ?_)
      refine X.laddW 32 (zi167 31) rfl rfl (fun z522 ez522 hz522 => ?_)
      refine X.lstore_n 33 [(0, zr g0 23), (1, zi y1), (2, zr g2 9), (3, zl z522), (5, zl y5), (7, zi y7)] (zi167 32) rfl rfl rfl ?_
      refine X.lload 35 (zi167 33) rfl rfl rfl ?_
      refine X.aload_n 36 (zi167 35) rfl rfl rfl ?_
      refine X.iload_n 37 (zi167 36) rfl rfl rfl ?_
      refine X.iload 39 (zi167 37) rfl rfl rfl ?_
      refine X.callv 42 [zi y1, zi y7] [zl y5] [(0, zr g0 23), (1, zi y1), (2, zi y7)] (zi167 39) rfl (by decide) rfl rfl (by omega) rfl rfl (by decide) rfl t165 (Nat.le_of_ble_eq_true rfl) (Nat.le_of_ble_eq_true rfl) rfl ?_
      refine X.aload_n 1 (zi165 0) rfl rfl rfl ?_
      refine X.getR 4 (zi165 1) rfl rfl (by decide) rfl rfl ?_
      refine X.aload_n 5 (zi165 4) rfl rfl rfl ?_
      refine X.iload_n 6 (zi165 5) rfl rfl rfl ?_
      refine X.callv 9 [zi y1] [zr g0 26] [(0, zr g0 23), (1, zi y1)] (zi165 6) rfl (by decide) rfl rfl (by omega) rfl rfl (by decide) rfl t162 (Nat.le_of_ble_eq_true rfl) (Nat.le_of_ble_eq_true rfl) rfl ?_
      refine X.aload_n 1 (zi162 0) rfl rfl rfl ?_
      refine X.getI 4 3 (zi162 1) rfl rfl (by decide) rfl rfl rfl ?_
      have h523 := r23_3 hJ g0
      refine X.iconst 5 (zi162 4) rfl rfl (by decide) ?_
      refine X.isub 6 (zi162 5) rfl rfl (by omega) ?_
      refine X.iload_n 7 (zi162 6) rfl rfl rfl ?_
      refine X.isub 8 (zi162 7) rfl rfl (by omega) ?_
      refine X.bipush 10 (zi162 8) rfl rfl (by decide) ?_
      refine X.irem 11 (zi162 10) rfl rfl (by omega) ?_
      refine X.bipush 13 (zi162 11) rfl rfl (by decide) ?_
      refine X.imul 14 (zi162 13) rfl rfl (by omega) ?_
      refine X.reti (zi162 14) rfl t162 ?_
      show X (EE s) (d - 1) 165 9 [(0, zr g0 23), (1, zi y1), (2, zi y7)] [zi (((((m g0 23 3) - 1) - y1) % 6) * 33), zr g0 26] m _
      refine X.bipush 11 (zi165 9) rfl rfl (by decide) ?_
      refine X.iadd 12 (zi165 11) rfl rfl (by omega) ?_
      refine X.iload_n 13 (zi165 12) rfl rfl rfl ?_
      refine X.iadd 14 (zi165 13) rfl rfl (by omega) ?_
      refine X.lald 15 (zi165 14) rfl rfl (by decide) rfl (by omega) ?_
      refine X.retl (zi165 15) rfl t165 ?_
      show X (EE s) d 167 42 [(0, zr g0 23), (1, zi y1), (2, zr g2 9), (3, zl z522), (5, zl y5), (7, zi y7)] [zl (m g0 26 (((((((m g0 23 3) - 1) - y1) % 6) * 33) + 28) + y7)), zl y5] m _
      refine X.maxL 45 (zi167 42) rfl rfl (by omega) (Nat.le_of_ble_eq_true rfl) ?_
      refine X.lstore 47 [(0, zr g0 23), (1, zi y1), (2, zr g2 9), (3, zl z522), (5, zl (max y5 (m g0 26 (((((((m g0 23 3) - 1) - y1) % 6) * 33) + 28) + y7)))), (7, zi y7)] (zi167 45) rfl rfl rfl ?_
      refine X.iinc 50 [(0, zr g0 23), (1, zi y1), (2, zr g2 9), (3, zl z522), (5, zl (max y5 (m g0 26 (((((((m g0 23 3) - 1) - y1) % 6) * 33) + 28) + y7)))), (7, zi (y7 + 1))] (zi167 47) rfl rfl rfl (by omega) rfl ?_
      refine X.goto 8 (zi167 50) rfl rfl ?_
      exact ih z522 (max y5 (m g0 26 (((((((m g0 23 3) - 1) - y1) % 6) * 33) + 28) + y7))) (y7 + 1) (by omega) (by omega) (by omega) (by omega) (by omega) (Eq.trans hR (Eq.trans (if_neg h516) (Eq.trans (zn_eq hFv519.symm) (Eq.trans (zn_eq ez521) (Eq.trans (zn_eq ez522) rfl)))))
-- WorkMeter$Settings.value
noncomputable def f168_1 (g0 : Nat) (a1 : Int) (m : zM) : Int :=
  zn (f76_1 a1 m) fun v503 =>
  zn (if v503 = (-1) then
  ((-1))
  else
  ((m g0 10 v503))) fun v506 =>
  v506
-- WorkMeter$Settings.value
theorem c168_1 {s : Nat × (Nat → Int32)} {S : zS} {m0 m : zM} {B : Int} {d : Nat} {Q : Option zV → zM → Prop} (g0 : Nat) (a1 : Int) (hd : 14 ≤ d) (hJ : J S m0 B m) (hB : B + 0 ≤ 1000000000) (ha1 : 20 ≤ a1 ∧ a1 ≤ 20) (hQ : ∀ (v : Int), ((-1) ≤ v ∧ v ≤ 1000000) → f168_1 g0 a1 m = v → Q (some (zi v)) m) : X (EE s) d 168 0 [(0, zr g0 9), (1, zi a1)] [] m Q := by
  refine X.iload_n 1 (zi168 0) rfl rfl rfl ?_
  refine X.calls 4 [zi a1] [] [(0, zi a1)] (zi168 1) (by decide) rfl rfl (by omega) rfl rfl t76 (Nat.le_of_ble_eq_true rfl) (Nat.le_of_ble_eq_true rfl) rfl ?_
  refine c76_1 (B := B)  a1 (by omega) (hJ.up (by omega)) (by omega) (by omega) (fun v503 hv503 hFv503 hqv503_0 hqv503_1 => ?_)
  show X (EE s) d 168 4 [(0, zr g0 9), (1, zi a1)] [zi v503] m _
  refine X.istore_n 5 [(0, zr g0 9), (1, zi a1), (2, zi v503)] (zi168 4) rfl rfl rfl ?_
  refine X.iload_n 6 (zi168 5) rfl rfl rfl ?_
  refine X.iconst 7 (zi168 6) rfl rfl (by decide) ?_
  have hK509 : ∀ (v : Int) , ((-1) ≤ v ∧ v ≤ 1000000) → (if v503 = (-1) then
      ((-1))
      else
      ((m g0 10 v503))) = v → X (EE s) d 168 20 [] [zi v] m Q := by
    intro v506 hv506 hT510
    refine X.reti (zi168 20) rfl t168 ?_
    exact hQ v506 (by first | trivial | omega) (Eq.trans (zn_eq hFv503.symm) (Eq.trans (zn_eq hT510.symm) rfl)) 
  refine X.icmpne 14 10 (zi168 7) rfl rfl rfl (fun h504 => ?_) (fun h504 => ?_)
  · refine X.cut [(0, zr g0 9), (2, zi v503)] (zi168 14) rfl ?_
    refine X.aload_n 15 (zi168 14) rfl rfl rfl ?_
    refine X.getR 18 (zi168 15) rfl rfl (by decide) rfl rfl ?_
    refine X.iload_n 19 (zi168 18) rfl rfl rfl ?_
    refine X.iald 20 (zi168 19) rfl rfl (by decide) rfl (by omega) ?_
    have h505 := r10_all hJ g0 (i := v503) (by omega)
    refine X.cut [] (zi168 20) rfl ?_
    exact hK509 (m g0 10 v503) (by first | trivial | omega) (Eq.trans (if_neg h504) rfl)
  · refine X.iconst 11 (zi168 10) rfl rfl (by decide) ?_
    refine X.goto 20 (zi168 11) rfl rfl ?_
    refine X.cut [] (zi168 20) rfl ?_
    exact hK509 (-1) (by first | trivial | omega) (Eq.trans (if_pos h504) rfl)
-- WorkMeter$Settings.value
theorem c168_2 {s : Nat × (Nat → Int32)} {S : zS} {m0 m : zM} {B : Int} {d : Nat} {Q : Option zV → zM → Prop} (g0 : Nat) (a1 : Int) (hd : 14 ≤ d) (hJ : J S m0 B m) (hB : B + 0 ≤ 1000000000) (ha1 : 21 ≤ a1 ∧ a1 ≤ 21) (hQ : ∀ (v : Int), ((-1) ≤ v ∧ v ≤ 1000000) → f168_1 g0 a1 m = v → Q (some (zi v)) m) : X (EE s) d 168 0 [(0, zr g0 9), (1, zi a1)] [] m Q := by
  refine X.iload_n 1 (zi168 0) rfl rfl rfl ?_
  refine X.calls 4 [zi a1] [] [(0, zi a1)] (zi168 1) (by decide) rfl rfl (by omega) rfl rfl t76 (Nat.le_of_ble_eq_true rfl) (Nat.le_of_ble_eq_true rfl) rfl ?_
  refine c76_1 (B := B)  a1 (by omega) (hJ.up (by omega)) (by omega) (by omega) (fun v503 hv503 hFv503 hqv503_0 hqv503_1 => ?_)
  show X (EE s) d 168 4 [(0, zr g0 9), (1, zi a1)] [zi v503] m _
  refine X.istore_n 5 [(0, zr g0 9), (1, zi a1), (2, zi v503)] (zi168 4) rfl rfl rfl ?_
  refine X.iload_n 6 (zi168 5) rfl rfl rfl ?_
  refine X.iconst 7 (zi168 6) rfl rfl (by decide) ?_
  have hK509 : ∀ (v : Int) , ((-1) ≤ v ∧ v ≤ 1000000) → (if v503 = (-1) then
      ((-1))
      else
      ((m g0 10 v503))) = v → X (EE s) d 168 20 [] [zi v] m Q := by
    intro v506 hv506 hT510
    refine X.reti (zi168 20) rfl t168 ?_
    exact hQ v506 (by first | trivial | omega) (Eq.trans (zn_eq hFv503.symm) (Eq.trans (zn_eq hT510.symm) rfl)) 
  refine X.icmpne 14 10 (zi168 7) rfl rfl rfl (fun h504 => ?_) (fun h504 => ?_)
  · refine X.cut [(0, zr g0 9), (2, zi v503)] (zi168 14) rfl ?_
    refine X.aload_n 15 (zi168 14) rfl rfl rfl ?_
    refine X.getR 18 (zi168 15) rfl rfl (by decide) rfl rfl ?_
    refine X.iload_n 19 (zi168 18) rfl rfl rfl ?_
    refine X.iald 20 (zi168 19) rfl rfl (by decide) rfl (by omega) ?_
    have h505 := r10_all hJ g0 (i := v503) (by omega)
    refine X.cut [] (zi168 20) rfl ?_
    exact hK509 (m g0 10 v503) (by first | trivial | omega) (Eq.trans (if_neg h504) rfl)
  · refine X.iconst 11 (zi168 10) rfl rfl (by decide) ?_
    refine X.goto 20 (zi168 11) rfl rfl ?_
    refine X.cut [] (zi168 20) rfl ?_
    exact hK509 (-1) (by first | trivial | omega) (Eq.trans (if_pos h504) rfl)
-- WorkMeter$Settings.value
theorem c168_3 {s : Nat × (Nat → Int32)} {S : zS} {m0 m : zM} {B : Int} {d : Nat} {Q : Option zV → zM → Prop} (g0 : Nat) (a1 : Int) (hd : 14 ≤ d) (hJ : J S m0 B m) (hB : B + 0 ≤ 1000000000) (ha1 : 22 ≤ a1 ∧ a1 ≤ 22) (hQ : ∀ (v : Int), ((-1) ≤ v ∧ v ≤ 1000000) → f168_1 g0 a1 m = v → Q (some (zi v)) m) : X (EE s) d 168 0 [(0, zr g0 9), (1, zi a1)] [] m Q := by
  refine X.iload_n 1 (zi168 0) rfl rfl rfl ?_
  refine X.calls 4 [zi a1] [] [(0, zi a1)] (zi168 1) (by decide) rfl rfl (by omega) rfl rfl t76 (Nat.le_of_ble_eq_true rfl) (Nat.le_of_ble_eq_true rfl) rfl ?_
  refine c76_1 (B := B)  a1 (by omega) (hJ.up (by omega)) (by omega) (by omega) (fun v503 hv503 hFv503 hqv503_0 hqv503_1 => ?_)
  show X (EE s) d 168 4 [(0, zr g0 9), (1, zi a1)] [zi v503] m _
  refine X.istore_n 5 [(0, zr g0 9), (1, zi a1), (2, zi v503)] (zi168 4) rfl rfl rfl ?_
  refine X.iload_n 6 (zi168 5) rfl rfl rfl ?_
  refine X.iconst 7 (zi168 6) rfl rfl (by decide) ?_
  have hK509 : ∀ (v : Int) , ((-1) ≤ v ∧ v ≤ 1000000) → (if v503 = (-1) then
      ((-1))
      else
      ((m g0 10 v503))) = v → X (EE s) d 168 20 [] [zi v] m Q := by
    intro v506 hv506 hT510
    refine X.reti (zi168 20) rfl t168 ?_
    exact hQ v506 (by first | trivial | omega) (Eq.trans (zn_eq hFv503.symm) (Eq.trans (zn_eq hT510.symm) rfl)) 
  refine X.icmpne 14 10 (zi168 7) rfl rfl rfl (fun h504 => ?_) (fun h504 => ?_)
  · refine X.cut [(0, zr g0 9), (2, zi v503)] (zi168 14) rfl ?_
    refine X.aload_n 15 (zi168 14) rfl rfl rfl ?_
    refine X.getR 18 (zi168 15) rfl rfl (by decide) rfl rfl ?_
    refine X.iload_n 19 (zi168 18) rfl rfl rfl ?_
    refine X.iald 20 (zi168 19) rfl rfl (by decide) rfl (by omega) ?_
    have h505 := r10_all hJ g0 (i := v503) (by omega)
    refine X.cut [] (zi168 20) rfl ?_
    exact hK509 (m g0 10 v503) (by first | trivial | omega) (Eq.trans (if_neg h504) rfl)
  · refine X.iconst 11 (zi168 10) rfl rfl (by decide) ?_
    refine X.goto 20 (zi168 11) rfl rfl ?_
    refine X.cut [] (zi168 20) rfl ?_
    exact hK509 (-1) (by first | trivial | omega) (Eq.trans (if_pos h504) rfl)
end
section
-- WorkMeter$Registers.moneyHundredths
noncomputable def f167_1 (g0 g2 : Nat) (a1 : Int) (m : zM) : Int :=
  fl167_8_1 (fun y501 y502 =>
  zn (f168_1 g2 20 m) fun v509 =>
  zn (w64 (y502 * v509)) fun z510 =>
  zn (w64 (y501 + z510)) fun z511 =>
  zn (f161_1 g0 a1 2 (-1) m) fun v514 =>
  zn (f161_1 g0 a1 5 (-1) m) fun v517 =>
  zn (w64 (v514 + v517)) fun z518 =>
  zn (w64 (z518 * 100)) fun z519 =>
  zn (f161_1 g0 a1 0 (-1) m) fun v522 =>
  zn (f168_1 g2 21 m) fun v525 =>
  zn (w64 (v522 * v525)) fun z526 =>
  zn (w64 (z519 - z526)) fun z527 =>
  zn (w64 (z511 * 100)) fun z528 =>
  zn (f168_1 g2 22 m) fun v531 =>
  zn (w64 ((max 0 z527) * v531)) fun z532 =>
  zn (w64 (z528 + z532)) fun z533 =>
  z533) g0 g2 a1 m (zfu 5) 0 0 0
-- WorkMeter$Registers.moneyHundredths
theorem c167_1 {s : Nat × (Nat → Int32)} {S : zS} {m0 m : zM} {B : Int} {d : Nat} {Q : Option zV → zM → Prop} (g0 g2 : Nat) (a1 : Int) (hd : 15 ≤ d) (hJ : J S m0 B m) (hB : B + 0 ≤ 1000000000) (ha1 : 0 ≤ a1 ∧ a1 ≤ 5) (hp0 : 0 ≤ a1) (hp1 : a1 < m g0 23 3) (hQ : ∀ (v : Int), (True) → f167_1 g0 g2 a1 m = v → Q (some (zl v)) m) : X (EE s) d 167 0 [(0, zr g0 23), (1, zi a1), (2, zr g2 9)] [] m Q := by
  refine X.lconst (y := 0) 1 (zi167 0) rfl rfl rfl ?_
  refine X.lstore_n 2 [(0, zr g0 23), (1, zi a1), (2, zr g2 9), (3, zl 0)] (zi167 1) rfl rfl rfl ?_
  refine X.lconst (y := 0) 3 (zi167 2) rfl rfl rfl ?_
  refine X.lstore 5 [(0, zr g0 23), (1, zi a1), (2, zr g2 9), (3, zl 0), (5, zl 0)] (zi167 3) rfl rfl rfl ?_
  refine X.iconst 6 (zi167 5) rfl rfl (by decide) ?_
  refine X.istore 8 [(0, zr g0 23), (1, zi a1), (2, zr g2 9), (3, zl 0), (5, zl 0), (7, zi 0)] (zi167 6) rfl rfl rfl ?_
  have hz5 := zfu_eq 5
  refine l167_8_1 (s := s) (m := m) (B := B) (d := d) (R0 := (f167_1 g0 g2 a1 m)) g0 g2 a1  (by omega) (hJ.up (by omega)) (by omega) (by omega) (fun y501 y502 hby501 hby502 hrlm503_0 hrlm503_1 hR506 => ?_) (zfu 5) 0 0 0 (by omega) (by omega) (by omega) (by omega) (by omega) rfl
  refine X.lload_n 54 (zi167 53) rfl rfl rfl ?_
  refine X.lload 56 (zi167 54) rfl rfl rfl ?_
  refine X.aload_n 57 (zi167 56) rfl rfl rfl ?_
  refine X.bipush 59 (zi167 57) rfl rfl (by decide) ?_
  refine X.callv 62 [zi 20] [zl y502, zl y501] [(0, zr g2 9), (1, zi 20)] (zi167 59) rfl (by decide) rfl rfl (by omega) rfl rfl (by decide) rfl t168 (Nat.le_of_ble_eq_true rfl) (Nat.le_of_ble_eq_true rfl) rfl ?_
  refine c168_1 (B := B) g2 20 (by omega) (hJ.up (by omega)) (by omega) (by omega) (fun v509 hv509 hFv509 => ?_)
  show X (EE s) d 167 62 [(0, zr g0 23), (1, zi a1), (2, zr g2 9), (3, zl y501), (5, zl y502)] [zi v509, zl y502, zl y501] m _
  refine X.i2l 63 (zi167 62) rfl rfl ?_
  refine X.lmulW 64 (zi167 63) rfl rfl (fun z510 ez510 hz510 => ?_)
  refine X.laddW 65 (zi167 64) rfl rfl (fun z511 ez511 hz511 => ?_)
  refine X.lstore_n 66 [(0, zr g0 23), (1, zi a1), (2, zr g2 9), (3, zl z511), (5, zl y502)] (zi167 65) rfl rfl rfl ?_
  refine X.aload_n 67 (zi167 66) rfl rfl rfl ?_
  refine X.iload_n 68 (zi167 67) rfl rfl rfl ?_
  refine X.iconst 69 (zi167 68) rfl rfl (by decide) ?_
  refine X.iconst 70 (zi167 69) rfl rfl (by decide) ?_
  refine X.callv 73 [zi a1, zi 2, zi (-1)] [] [(0, zr g0 23), (1, zi a1), (2, zi 2), (3, zi (-1))] (zi167 70) rfl (by decide) rfl rfl (by omega) rfl rfl (by decide) rfl t161 (Nat.le_of_ble_eq_true rfl) (Nat.le_of_ble_eq_true rfl) rfl ?_
  refine c161_1 (B := B) g0 a1 2 (-1) (by omega) (hJ.up (by omega)) (by omega) (by omega) (by omega) (by omega) (by omega) (by omega) (fun v514 hv514 hFv514 => ?_)
  show X (EE s) d 167 73 [(0, zr g0 23), (1, zi a1), (2, zr g2 9), (3, zl z511), (5, zl y502)] [zl v514] m _
  refine X.aload_n 74 (zi167 73) rfl rfl rfl ?_
  refine X.iload_n 75 (zi167 74) rfl rfl rfl ?_
  refine X.iconst 76 (zi167 75) rfl rfl (by decide) ?_
  refine X.iconst 77 (zi167 76) rfl rfl (by decide) ?_
  refine X.callv 80 [zi a1, zi 5, zi (-1)] [zl v514] [(0, zr g0 23), (1, zi a1), (2, zi 5), (3, zi (-1))] (zi167 77) rfl (by decide) rfl rfl (by omega) rfl rfl (by decide) rfl t161 (Nat.le_of_ble_eq_true rfl) (Nat.le_of_ble_eq_true rfl) rfl ?_
  refine c161_1 (B := B) g0 a1 5 (-1) (by omega) (hJ.up (by omega)) (by omega) (by omega) (by omega) (by omega) (by omega) (by omega) (fun v517 hv517 hFv517 => ?_)
  show X (EE s) d 167 80 [(0, zr g0 23), (1, zi a1), (2, zr g2 9), (3, zl z511), (5, zl y502)] [zl v517, zl v514] m _
  refine X.laddW 81 (zi167 80) rfl rfl (fun z518 ez518 hz518 => ?_)
  refine X.lstore 83 [(0, zr g0 23), (1, zi a1), (2, zr g2 9), (3, zl z511), (5, zl y502), (7, zl z518)] (zi167 81) rfl rfl rfl ?_
  refine X.lload 85 (zi167 83) rfl rfl rfl ?_
  refine X.ldc2 88 (zi167 85) rfl rfl (by decide) ?_
  refine X.lmulW 89 (zi167 88) rfl rfl (fun z519 ez519 hz519 => ?_)
  refine X.aload_n 90 (zi167 89) rfl rfl rfl ?_
  refine X.iload_n 91 (zi167 90) rfl rfl rfl ?_
  refine X.iconst 92 (zi167 91) rfl rfl (by decide) ?_
  refine X.iconst 93 (zi167 92) rfl rfl (by decide) ?_
  refine X.callv 96 [zi a1, zi 0, zi (-1)] [zl z519] [(0, zr g0 23), (1, zi a1), (2, zi 0), (3, zi (-1))] (zi167 93) rfl (by decide) rfl rfl (by omega) rfl rfl (by decide) rfl t161 (Nat.le_of_ble_eq_true rfl) (Nat.le_of_ble_eq_true rfl) rfl ?_
  refine c161_1 (B := B) g0 a1 0 (-1) (by omega) (hJ.up (by omega)) (by omega) (by omega) (by omega) (by omega) (by omega) (by omega) (fun v522 hv522 hFv522 => ?_)
  show X (EE s) d 167 96 [(0, zr g0 23), (1, zi a1), (2, zr g2 9), (3, zl z511), (5, zl y502), (7, zl z518)] [zl v522, zl z519] m _
  refine X.aload_n 97 (zi167 96) rfl rfl rfl ?_
  refine X.bipush 99 (zi167 97) rfl rfl (by decide) ?_
  refine X.callv 102 [zi 21] [zl v522, zl z519] [(0, zr g2 9), (1, zi 21)] (zi167 99) rfl (by decide) rfl rfl (by omega) rfl rfl (by decide) rfl t168 (Nat.le_of_ble_eq_true rfl) (Nat.le_of_ble_eq_true rfl) rfl ?_
  refine c168_2 (B := B) g2 21 (by omega) (hJ.up (by omega)) (by omega) (by omega) (fun v525 hv525 hFv525 => ?_)
  show X (EE s) d 167 102 [(0, zr g0 23), (1, zi a1), (2, zr g2 9), (3, zl z511), (5, zl y502), (7, zl z518)] [zi v525, zl v522, zl z519] m _
  refine X.i2l 103 (zi167 102) rfl rfl ?_
  refine X.lmulW 104 (zi167 103) rfl rfl (fun z526 ez526 hz526 => ?_)
  refine X.lsubW 105 (zi167 104) rfl rfl (fun z527 ez527 hz527 => ?_)
  refine X.lstore 107 [(0, zr g0 23), (1, zi a1), (2, zr g2 9), (3, zl z511), (5, zl y502), (7, zl z518), (9, zl z527)] (zi167 105) rfl rfl rfl ?_
  refine X.lload_n 108 (zi167 107) rfl rfl rfl ?_
  refine X.ldc2 111 (zi167 108) rfl rfl (by decide) ?_
  refine X.lmulW 112 (zi167 111) rfl rfl (fun z528 ez528 hz528 => ?_)
  refine X.lconst (y := 0) 113 (zi167 112) rfl rfl rfl ?_
  refine X.lload 115 (zi167 113) rfl rfl rfl ?_
  refine X.maxL 118 (zi167 115) rfl rfl (by omega) (Nat.le_of_ble_eq_true rfl) ?_
  refine X.aload_n 119 (zi167 118) rfl rfl rfl ?_
  refine X.bipush 121 (zi167 119) rfl rfl (by decide) ?_
  refine X.callv 124 [zi 22] [zl (max 0 z527), zl z528] [(0, zr g2 9), (1, zi 22)] (zi167 121) rfl (by decide) rfl rfl (by omega) rfl rfl (by decide) rfl t168 (Nat.le_of_ble_eq_true rfl) (Nat.le_of_ble_eq_true rfl) rfl ?_
  refine c168_3 (B := B) g2 22 (by omega) (hJ.up (by omega)) (by omega) (by omega) (fun v531 hv531 hFv531 => ?_)
  show X (EE s) d 167 124 [(0, zr g0 23), (1, zi a1), (2, zr g2 9), (3, zl z511), (5, zl y502), (7, zl z518), (9, zl z527)] [zi v531, zl (max 0 z527), zl z528] m _
  refine X.i2l 125 (zi167 124) rfl rfl ?_
  refine X.lmulW 126 (zi167 125) rfl rfl (fun z532 ez532 hz532 => ?_)
  refine X.laddW 127 (zi167 126) rfl rfl (fun z533 ez533 hz533 => ?_)
  refine X.retl (zi167 127) rfl t167 ?_
  exact hQ z533 (by first | trivial | omega) (Eq.trans hR506 (Eq.trans (zn_eq hFv509.symm) (Eq.trans (zn_eq ez510) (Eq.trans (zn_eq ez511) (Eq.trans (zn_eq hFv514.symm) (Eq.trans (zn_eq hFv517.symm) (Eq.trans (zn_eq ez518) (Eq.trans (zn_eq ez519) (Eq.trans (zn_eq hFv522.symm) (Eq.trans (zn_eq hFv525.symm) (Eq.trans (zn_eq ez526) (Eq.trans (zn_eq ez527) (Eq.trans (zn_eq ez528) (Eq.trans (zn_eq hFv531.symm) (Eq.trans (zn_eq ez532) (Eq.trans (zn_eq ez533) rfl)))))))))))))))) 
noncomputable def fl169_9_1_b (self : Int → Int → Int → Int) (k45 : Int → Int) (m : zM) (y4 y6 y8 : Int) : Int :=
  if 200 ≤ y8 then
  (k45 y4)
  else
  (if y6 = 0 then
  (k45 y4)
  else
  (zn ((y4).tmod y6) fun z512 =>
  self y6 z512 (y8 + 1)))
noncomputable def fl169_9_1 (k45 : Int → Int) (m : zM) : Nat → Int → Int → Int → Int
  | 0 => fun y4 y6 y8 => 0
  | n + 1 => fl169_9_1_b (fl169_9_1 k45 m n) k45 m
theorem l169_9_1 {s : Nat × (Nat → Int32)} {S : zS} {m0 : zM} {m : zM} {B : Int} {d : Nat} {Q : Option zV → zM → Prop} {R0 : Int} {k45 : Int → Int} (hd : 13 ≤ d) (hJ : J S m0 B m) (hB9 : B ≤ 1000000000)
    (K45 : ∀ (x4 : Int) , (True) → R0 = k45 x4 → X (EE s) d 169 45 [(4, zl x4)] [] m Q) :
    ∀ (n : Nat) (y4 y6 y8 : Int) , (0 ≤ y8 ∧ y8 ≤ 200) → 200 - y8 < (n : Int) → R0 = fl169_9_1 k45 m n y4 y6 y8 → X (EE s) d 169 9 [(4, zl y4), (6, zl y6), (8, zi y8)] [] m Q := by
  intro n
  induction n with
  | zero =>
    intro y4 y6 y8 hy8 hn hR
    exfalso
    omega
  | succ n ih =>
    intro y4 y6 y8 hy8 hn hR
    replace hR : R0 = fl169_9_1_b (fl169_9_1 k45 m n) k45 m y4 y6 y8 := hR
    refine X.iload 11 (zi169 9) rfl rfl rfl ?_
    refine X.sipush 14 (zi169 11) rfl rfl (by decide) ?_
    refine X.icmpge 45 17 (zi169 14) rfl rfl rfl (fun h509 => ?_) (fun h509 => ?_)
    · refine X.cut [(4, zl y4)] (zi169 45) rfl ?_
      exact K45 y4 (by first | trivial | omega) (Eq.trans hR (Eq.trans (if_pos h509) rfl))
    · refine X.lload 19 (zi169 17) rfl rfl rfl ?_
      refine X.lconst (y := 0) 20 (zi169 19) rfl rfl rfl ?_
      refine X.lcmp 21 (zi169 20) rfl rfl (fun z510 hz510 => ?_)
      refine X.ifeq 45 24 (zi169 21) rfl rfl rfl (fun h511 => ?_) (fun h511 => ?_)
      · have h511c : y6 = 0 := by omega
        clear h511 hz510
        refine X.cut [(4, zl y4)] (zi169 45) rfl ?_
        exact K45 y4 (by first | trivial | omega) (Eq.trans hR (Eq.trans (if_neg h509) (Eq.trans (if_pos h511c) rfl)))
      · have h511c : ¬ y6 = 0 := by omega
        clear h511 hz510
        refine X.lload 26 (zi169 24) rfl rfl rfl ?_
        refine X.lload 28 (zi169 26) rfl rfl rfl ?_
        refine X.lremW 29 (zi169 28) rfl rfl (by omega) (fun z512 ez512 hz512 => ?_)
        refine X.lstore 31 [(4, zl y4), (6, zl y6), (8, zi y8), (9, zl z512)] (zi169 29) rfl rfl rfl ?_
        refine X.lload 33 (zi169 31) rfl rfl rfl ?_
        refine X.lstore 35 [(4, zl y6), (6, zl y6), (8, zi y8), (9, zl z512)] (zi169 33) rfl rfl rfl ?_
        refine X.lload 37 (zi169 35) rfl rfl rfl ?_
        refine X.lstore 39 [(4, zl y6), (6, zl z512), (8, zi y8), (9, zl z512)] (zi169 37) rfl rfl rfl ?_
        refine X.iinc 42 [(4, zl y6), (6, zl z512), (8, zi (y8 + 1)), (9, zl z512)] (zi169 39) rfl rfl rfl (by omega) rfl ?_
        refine X.goto 9 (zi169 42) rfl rfl ?_
        refine X.cut [(4, zl y6), (6, zl z512), (8, zi (y8 + 1))] (zi169 9) rfl ?_
        exact ih y6 z512 (y8 + 1) (by omega) (by omega) (Eq.trans hR (Eq.trans (if_neg h509) (Eq.trans (if_neg h511c) (Eq.trans (zn_eq ez512) rfl))))
-- WorkMeter.commonDivisor
noncomputable def f169_1 (a0 a1 : Int) (m : zM) : Int :=
  fl169_9_1 (fun y501 =>
  zn (if y501 ≤ 0 then
  (1)
  else
  (y501)) fun v508 =>
  v508) m (zfu 201) a0 a1 0
-- WorkMeter.commonDivisor
theorem c169_1 {s : Nat × (Nat → Int32)} {S : zS} {m0 m : zM} {B : Int} {d : Nat} {Q : Option zV → zM → Prop} (a0 a1 : Int) (hd : 13 ≤ d) (hJ : J S m0 B m) (hB : B + 0 ≤ 1000000000) (ha1 : 100 ≤ a1 ∧ a1 ≤ 100000000) (hQ : ∀ (v : Int), (1 ≤ v) → f169_1 a0 a1 m = v → Q (some (zl v)) m) : X (EE s) d 169 0 [(0, zl a0), (2, zl a1)] [] m Q := by
  refine X.lload_n 1 (zi169 0) rfl rfl rfl ?_
  refine X.lstore 3 [(0, zl a0), (2, zl a1), (4, zl a0)] (zi169 1) rfl rfl rfl ?_
  refine X.lload_n 4 (zi169 3) rfl rfl rfl ?_
  refine X.lstore 6 [(0, zl a0), (2, zl a1), (4, zl a0), (6, zl a1)] (zi169 4) rfl rfl rfl ?_
  refine X.iconst 7 (zi169 6) rfl rfl (by decide) ?_
  refine X.istore 9 [(0, zl a0), (2, zl a1), (4, zl a0), (6, zl a1), (8, zi 0)] (zi169 7) rfl rfl rfl ?_
  refine X.cut [(4, zl a0), (6, zl a1), (8, zi 0)] (zi169 9) rfl ?_
  have hz201 := zfu_eq 201
  refine l169_9_1 (s := s) (m := m) (B := B) (d := d) (R0 := (f169_1 a0 a1 m))    (by omega) (hJ.up (by omega)) (by omega) (fun y501 hby501 hR505 => ?_) (zfu 201) a0 a1 0 (by omega) (by omega) rfl
  refine X.lload 47 (zi169 45) rfl rfl rfl ?_
  refine X.lconst (y := 0) 48 (zi169 47) rfl rfl rfl ?_
  refine X.lcmp 49 (zi169 48) rfl rfl (fun z506 hz506 => ?_)
  have hK511 : ∀ (v : Int) , (1 ≤ v) → (if y501 ≤ 0 then
      (1)
      else
      (y501)) = v → X (EE s) d 169 58 [] [zl v] m Q := by
    intro v508 hv508 hT512
    refine X.retl (zi169 58) rfl t169 ?_
    exact hQ v508 (by first | trivial | omega) (Eq.trans hR505 (Eq.trans (zn_eq hT512.symm) rfl)) 
  refine X.ifle 57 52 (zi169 49) rfl rfl rfl (fun h507 => ?_) (fun h507 => ?_)
  · have h507c : y501 ≤ 0 := by omega
    clear h507 hz506
    refine X.cut [] (zi169 57) rfl ?_
    refine X.lconst (y := 1) 58 (zi169 57) rfl rfl rfl ?_
    exact hK511 1 (by first | trivial | omega) (Eq.trans (if_pos h507c) rfl)
  · have h507c : ¬ y501 ≤ 0 := by omega
    clear h507 hz506
    refine X.lload 54 (zi169 52) rfl rfl rfl ?_
    refine X.goto 58 (zi169 54) rfl rfl ?_
    refine X.cut [] (zi169 58) rfl ?_
    exact hK511 y501 (by first | trivial | omega) (Eq.trans (if_neg h507c) rfl)
-- WorkMeter.money
noncomputable def f166_1 (a1 a2 : Int) (m : zM) : Int :=
  if a1 < 0 then
  ((-1))
  else
  (if (min (m 0 23 3) 6) ≤ a1 then
  ((-1))
  else
  (if a2 < 0 then
  ((-1))
  else
  (if a2 ≤ 1 then
  (zn (f167_1 0 0 a1 m) fun v511 =>
  zn (f169_1 v511 (100 * (max 1 (m 0 10 1))) m) fun v515 =>
  zn (if a2 = 0 then
  (v511)
  else
  ((100 * (max 1 (m 0 10 1))))) fun v517 =>
  zn (w64 ((v517).tdiv v515)) fun z522 =>
  z522)
  else
  ((-1)))))
-- WorkMeter.money
theorem c166_1 {s : Nat × (Nat → Int32)} {S : zS} {m0 m : zM} {B : Int} {d : Nat} {Q : Option zV → zM → Prop} (a1 a2 : Int) (hd : 16 ≤ d) (hJ : J S m0 B m) (hB : B + 0 ≤ 1000000000) (ha1 : (-2147483648) ≤ a1 ∧ a1 ≤ 2147483647) (ha2 : (-2147483648) ≤ a2 ∧ a2 ≤ 2147483647) (hQ : ∀ (v : Int), (True) → f166_1 a1 a2 m = v → Q (some (zl v)) m) : X (EE s) d 166 0 [(0, zr 4 40), (1, zi a1), (2, zi a2)] [] m Q := by
  refine X.aload_n 1 (zi166 0) rfl rfl rfl ?_
  refine X.getF 4 (zi166 1) rfl rfl (by decide) rfl rfl ?_
  refine X.getR 7 (zi166 4) rfl rfl (by decide) rfl rfl ?_
  refine X.iload_n 8 (zi166 7) rfl rfl rfl ?_
  refine X.callv 11 [zi a1] [] [(0, zr 0 23), (1, zi a1)] (zi166 8) rfl (by decide) rfl rfl (by omega) rfl rfl (by decide) rfl t160 (Nat.le_of_ble_eq_true rfl) (Nat.le_of_ble_eq_true rfl) rfl ?_
  refine X.iload_n 1 (zi160 0) rfl rfl rfl ?_
  refine X.iflt 21 4 (zi160 1) rfl rfl rfl (fun h501 => ?_) (fun h501 => ?_)
  · refine X.cut [] (zi160 21) rfl ?_
    refine X.iconst 22 (zi160 21) rfl rfl (by decide) ?_
    refine X.retz (zi160 22) rfl t160 (by omega) ?_
    show X (EE s) d 166 11 [(0, zr 4 40), (1, zi a1), (2, zi a2)] [zi 0] m _
    refine X.ifeq 23 14 (zi166 11) rfl rfl rfl (fun h502 => ?_) (fun h502 => (by exfalso; omega))
    refine X.cut [] (zi166 23) rfl ?_
    refine X.ldc2 26 (zi166 23) rfl rfl (by decide) ?_
    refine X.retl (zi166 26) rfl t166 ?_
    exact hQ (-1) (by first | trivial | omega) (Eq.trans (if_pos h501) rfl) 
  · refine X.iload_n 5 (zi160 4) rfl rfl rfl ?_
    refine X.aload_n 6 (zi160 5) rfl rfl rfl ?_
    refine X.getI 9 3 (zi160 6) rfl rfl (by decide) rfl rfl rfl ?_
    have h503 := r23_3 hJ 0
    refine X.bipush 11 (zi160 9) rfl rfl (by decide) ?_
    refine X.minI 14 (zi160 11) rfl rfl (by omega) (Nat.le_of_ble_eq_true rfl) ?_
    refine X.icmpge 21 17 (zi160 14) rfl rfl rfl (fun h504 => ?_) (fun h504 => ?_)
    · refine X.cut [] (zi160 21) rfl ?_
      refine X.iconst 22 (zi160 21) rfl rfl (by decide) ?_
      refine X.retz (zi160 22) rfl t160 (by omega) ?_
      show X (EE s) d 166 11 [(0, zr 4 40), (1, zi a1), (2, zi a2)] [zi 0] m _
      refine X.ifeq 23 14 (zi166 11) rfl rfl rfl (fun h505 => ?_) (fun h505 => (by exfalso; omega))
      refine X.cut [] (zi166 23) rfl ?_
      refine X.ldc2 26 (zi166 23) rfl rfl (by decide) ?_
      refine X.retl (zi166 26) rfl t166 ?_
      exact hQ (-1) (by first | trivial | omega) (Eq.trans (if_neg h501) (Eq.trans (if_pos h504) rfl)) 
    · refine X.iconst 18 (zi160 17) rfl rfl (by decide) ?_
      refine X.goto 22 (zi160 18) rfl rfl ?_
      refine X.cut [] (zi160 22) rfl ?_
      refine X.retz (zi160 22) rfl t160 (by omega) ?_
      show X (EE s) d 166 11 [(0, zr 4 40), (1, zi a1), (2, zi a2)] [zi 1] m _
      refine X.ifeq 23 14 (zi166 11) rfl rfl rfl (fun h506 => (by exfalso; omega)) (fun h506 => ?_)
      refine X.iload_n 15 (zi166 14) rfl rfl rfl ?_
      refine X.iflt 23 18 (zi166 15) rfl rfl rfl (fun h507 => ?_) (fun h507 => ?_)
      · refine X.cut [] (zi166 23) rfl ?_
        refine X.ldc2 26 (zi166 23) rfl rfl (by decide) ?_
        refine X.retl (zi166 26) rfl t166 ?_
        exact hQ (-1) (by first | trivial | omega) (Eq.trans (if_neg h501) (Eq.trans (if_neg h504) (Eq.trans (if_pos h507) rfl))) 
      · refine X.iload_n 19 (zi166 18) rfl rfl rfl ?_
        refine X.iconst 20 (zi166 19) rfl rfl (by decide) ?_
        refine X.icmple 27 23 (zi166 20) rfl rfl rfl (fun h508 => ?_) (fun h508 => ?_)
        · refine X.aload_n 28 (zi166 27) rfl rfl rfl ?_
          refine X.getF 31 (zi166 28) rfl rfl (by decide) rfl rfl ?_
          refine X.getR 34 (zi166 31) rfl rfl (by decide) rfl rfl ?_
          refine X.iload_n 35 (zi166 34) rfl rfl rfl ?_
          refine X.aload_n 36 (zi166 35) rfl rfl rfl ?_
          refine X.getF 39 (zi166 36) rfl rfl (by decide) rfl rfl ?_
          refine X.getR 42 (zi166 39) rfl rfl (by decide) rfl rfl ?_
          refine X.callv 45 [zi a1, zr 0 9] [] [(0, zr 0 23), (1, zi a1), (2, zr 0 9)] (zi166 42) rfl (by decide) rfl rfl (by omega) rfl rfl (by decide) rfl t167 (Nat.le_of_ble_eq_true rfl) (Nat.le_of_ble_eq_true rfl) rfl ?_
          refine c167_1 (B := B) 0 0 a1 (by omega) (hJ.up (by omega)) (by omega) (by omega) (by omega) (by omega) (fun v511 hv511 hFv511 => ?_)
          show X (EE s) d 166 45 [(0, zr 4 40), (1, zi a1), (2, zi a2)] [zl v511] m _
          refine X.lstore_n 46 [(0, zr 4 40), (1, zi a1), (2, zi a2), (3, zl v511)] (zi166 45) rfl rfl rfl ?_
          refine X.ldc2 49 (zi166 46) rfl rfl (by decide) ?_
          refine X.aload_n 50 (zi166 49) rfl rfl rfl ?_
          refine X.getF 53 (zi166 50) rfl rfl (by decide) rfl rfl ?_
          refine X.getR 56 (zi166 53) rfl rfl (by decide) rfl rfl ?_
          refine X.callv 59 [] [zl 100] [(0, zr 0 9)] (zi166 56) rfl (by decide) rfl rfl (by omega) rfl rfl (by decide) rfl t48 (Nat.le_of_ble_eq_true rfl) (Nat.le_of_ble_eq_true rfl) rfl ?_
          refine X.iconst 1 (zi48 0) rfl rfl (by decide) ?_
          refine X.aload_n 2 (zi48 1) rfl rfl rfl ?_
          refine X.getR 5 (zi48 2) rfl rfl (by decide) rfl rfl ?_
          refine X.iconst 6 (zi48 5) rfl rfl (by decide) ?_
          refine X.iald 7 (zi48 6) rfl rfl (by decide) rfl (by omega) ?_
          have h512 := r10_0 hJ 0 (i := 1) (by omega)
          refine X.maxI 10 (zi48 7) rfl rfl (by omega) (Nat.le_of_ble_eq_true rfl) ?_
          refine X.reti (zi48 10) rfl t48 ?_
          show X (EE s) d 166 59 [(0, zr 4 40), (1, zi a1), (2, zi a2), (3, zl v511)] [zi (max 1 (m 0 10 1)), zl 100] m _
          refine X.i2l 60 (zi166 59) rfl rfl ?_
          refine X.lmul 61 (zi166 60) rfl rfl (by omega) ?_
          refine X.lstore 63 [(0, zr 4 40), (1, zi a1), (2, zi a2), (3, zl v511), (5, zl (100 * (max 1 (m 0 10 1))))] (zi166 61) rfl rfl rfl ?_
          refine X.lload_n 64 (zi166 63) rfl rfl rfl ?_
          refine X.lload 66 (zi166 64) rfl rfl rfl ?_
          refine X.calls 69 [zl v511, zl (100 * (max 1 (m 0 10 1)))] [] [(0, zl v511), (2, zl (100 * (max 1 (m 0 10 1))))] (zi166 66) (by decide) rfl rfl (by omega) rfl rfl t169 (Nat.le_of_ble_eq_true rfl) (Nat.le_of_ble_eq_true rfl) rfl ?_
          refine c169_1 (B := B)  v511 (100 * (max 1 (m 0 10 1))) (by omega) (hJ.up (by omega)) (by omega) (by omega) (fun v515 hv515 hFv515 => ?_)
          show X (EE s) d 166 69 [(0, zr 4 40), (1, zi a1), (2, zi a2), (3, zl v511), (5, zl (100 * (max 1 (m 0 10 1))))] [zl v515] m _
          refine X.lstore 71 [(0, zr 4 40), (1, zi a1), (2, zi a2), (3, zl v511), (5, zl (100 * (max 1 (m 0 10 1)))), (7, zl v515)] (zi166 69) rfl rfl rfl ?_
          refine X.iload_n 72 (zi166 71) rfl rfl rfl ?_
          have hK520 : ∀ (v : Int) , (True) → (if a2 = 0 then
              (v511)
              else
              ((100 * (max 1 (m 0 10 1))))) = v → X (EE s) d 166 81 [(7, zl v515)] [zl v] m Q := by
            intro v517 hv517 hT521
            refine X.lload 83 (zi166 81) rfl rfl rfl ?_
            refine X.ldivW 84 (zi166 83) rfl rfl (by omega) (fun z522 ez522 hz522 => ?_)
            refine X.retl (zi166 84) rfl t166 ?_
            exact hQ z522 (by first | trivial | omega) (Eq.trans (if_neg h501) (Eq.trans (if_neg h504) (Eq.trans (if_neg h507) (Eq.trans (if_pos h508) (Eq.trans (zn_eq hFv511.symm) (Eq.trans (zn_eq hFv515.symm) (Eq.trans (zn_eq hT521.symm) (Eq.trans (zn_eq ez522) rfl)))))))) 
          refine X.ifne 79 75 (zi166 72) rfl rfl rfl (fun h516 => ?_) (fun h516 => ?_)
          · refine X.cut [(5, zl (100 * (max 1 (m 0 10 1)))), (7, zl v515)] (zi166 79) rfl ?_
            refine X.lload 81 (zi166 79) rfl rfl rfl ?_
            refine X.cut [(7, zl v515)] (zi166 81) rfl ?_
            exact hK520 (100 * (max 1 (m 0 10 1))) (by first | trivial | omega) (Eq.trans (if_neg h516) rfl)
          · refine X.lload_n 76 (zi166 75) rfl rfl rfl ?_
            refine X.goto 81 (zi166 76) rfl rfl ?_
            refine X.cut [(7, zl v515)] (zi166 81) rfl ?_
            exact hK520 v511 (by first | trivial | omega) (Eq.trans (if_pos h516) rfl)
        · refine X.cut [] (zi166 23) rfl ?_
          refine X.ldc2 26 (zi166 23) rfl rfl (by decide) ?_
          refine X.retl (zi166 26) rfl t166 ?_
          exact hQ (-1) (by first | trivial | omega) (Eq.trans (if_neg h501) (Eq.trans (if_neg h504) (Eq.trans (if_neg h507) (Eq.trans (if_neg h508) rfl)))) 
noncomputable def fl293_34_1_b (self : Int → Int → Int → Int) (k107 : Int → Int → Int) (y1 y2 y3 : Int) (m : zM) (y4 y6 y8 : Int) : Int :=
  if 4 ≤ y8 then
  (k107 y4 y6)
  else
  (zn (f288_1 y1 0 y8 m) fun v531 =>
  zn (w64 (v531 * (m 4 45 (28 + y8)))) fun z533 =>
  zn (w64 (y4 + z533)) fun z534 =>
  zn (if (m 4 45 ((y3 + 36) + y8)) ≤ y6 then
  (y6)
  else
  ((m 4 45 ((y3 + 36) + y8)))) fun v537 =>
  self z534 v537 (y8 + 1))
noncomputable def fl293_34_1 (k107 : Int → Int → Int) (y1 y2 y3 : Int) (m : zM) : Nat → Int → Int → Int → Int
  | 0 => fun y4 y6 y8 => 0
  | n + 1 => fl293_34_1_b (fl293_34_1 k107 y1 y2 y3 m n) k107 y1 y2 y3 m
theorem l293_34_1 {s : Nat × (Nat → Int32)} {S : zS} {m0 : zM} {m : zM} {B : Int} {d : Nat} {Q : Option zV → zM → Prop} {R0 : Int} {k107 : Int → Int → Int} (y1 y2 y3 : Int) (hd : 15 ≤ d) (hJ : J S m0 B m) (hB9 : B ≤ 1000000000) (hy1 : (-2147483648) ≤ y1 ∧ y1 ≤ 2147483647) (hy2 : 0 ≤ y2 ∧ y2 ≤ 1) (hy3 : 0 ≤ y3 ∧ y3 ≤ 1442)
    (K107 : ∀ (x4 x6 : Int) , (True) → (0 ≤ x6) → R0 = k107 x4 x6 → X (EE s) d 293 107 [(0, zr 4 44), (1, zi y1), (2, zi y2), (4, zl x4), (6, zl x6)] [] m Q) :
    ∀ (n : Nat) (y4 y6 y8 : Int) , (0 ≤ y6) → (0 ≤ y8 ∧ y8 ≤ 4) → 4 - y8 < (n : Int) → R0 = fl293_34_1 k107 y1 y2 y3 m n y4 y6 y8 → X (EE s) d 293 34 [(0, zr 4 44), (1, zi y1), (2, zi y2), (3, zi y3), (4, zl y4), (6, zl y6), (8, zi y8)] [] m Q := by
  intro n
  induction n with
  | zero =>
    intro y4 y6 y8 hy6 hy8 hn hR
    exfalso
    omega
  | succ n ih =>
    intro y4 y6 y8 hy6 hy8 hn hR
    replace hR : R0 = fl293_34_1_b (fl293_34_1 k107 y1 y2 y3 m n) k107 y1 y2 y3 m y4 y6 y8 := hR
    refine X.iload 36 (zi293 34) rfl rfl rfl ?_
    refine X.iconst 37 (zi293 36) rfl rfl (by decide) ?_
    refine X.icmpge 107 40 (zi293 37) rfl rfl rfl (fun h528 => ?_) (fun h528 => ?_)
    · refine X.cut [(0, zr 4 44), (1, zi y1), (2, zi y2), (4, zl y4), (6, zl y6)] (zi293 107) rfl ?_
      exact K107 y4 y6 (by first | trivial | omega) (by first | trivial | omega) (Eq.trans hR (Eq.trans (if_pos h528) rfl))
    · refine X.lload 42 (zi293 40) rfl rfl rfl ?_
      refine X.aload_n 43 (zi293 42) rfl rfl rfl ?_
      refine X.iload_n 44 (zi293 43) rfl rfl rfl ?_
      refine X.iconst 45 (zi293 44) rfl rfl (by decide) ?_
      refine X.iload 47 (zi293 45) rfl rfl rfl ?_
      refine X.callv 50 [zi y1, zi 0, zi y8] [zl y4] [(0, zr 4 44), (1, zi y1), (2, zi 0), (3, zi y8)] (zi293 47) rfl (by decide) rfl rfl (by omega) rfl rfl (by decide) rfl t288 (Nat.le_of_ble_eq_true rfl) (Nat.le_of_ble_eq_true rfl) rfl ?_
      refine c288_1 (B := B)  y1 0 y8 (by omega) (hJ.up (by omega)) (by omega) (by omega) (by omega) (by omega) (fun v531 hv531 hFv531 => ?_)
      show X (EE s) d 293 50 [(0, zr 4 44), (1, zi y1), (2, zi y2), (3, zi y3), (4, zl y4), (6, zl y6), (8, zi y8)] [zl v531, zl y4] m _
      refine X.aload_n 51 (zi293 50) rfl rfl rfl ?_
      refine X.getF 54 (zi293 51) rfl rfl (by decide) rfl rfl ?_
      refine X.bipush 56 (zi293 54) rfl rfl (by decide) ?_
      refine X.iload 58 (zi293 56) rfl rfl rfl ?_
      refine X.iadd 59 (zi293 58) rfl rfl (by omega) ?_
      refine X.lald 60 (zi293 59) rfl rfl (by decide) rfl (by omega) ?_
      have h532 := r45_28 hJ 4 (i := (28 + y8)) (by omega)
      refine X.lmulW 61 (zi293 60) rfl rfl (fun z533 ez533 hz533 => ?_)
      refine X.laddW 62 (zi293 61) rfl rfl (fun z534 ez534 hz534 => ?_)
      refine X.lstore 64 [(0, zr 4 44), (1, zi y1), (2, zi y2), (3, zi y3), (4, zl z534), (6, zl y6), (8, zi y8)] (zi293 62) rfl rfl rfl ?_
      refine X.aload_n 65 (zi293 64) rfl rfl rfl ?_
      refine X.getF 68 (zi293 65) rfl rfl (by decide) rfl rfl ?_
      refine X.iload_n 69 (zi293 68) rfl rfl rfl ?_
      refine X.bipush 71 (zi293 69) rfl rfl (by decide) ?_
      refine X.iadd 72 (zi293 71) rfl rfl (by omega) ?_
      refine X.iload 74 (zi293 72) rfl rfl rfl ?_
      refine X.iadd 75 (zi293 74) rfl rfl (by omega) ?_
      refine X.lald 76 (zi293 75) rfl rfl (by decide) rfl (by omega) ?_
      refine X.lload 78 (zi293 76) rfl rfl rfl ?_
      refine X.lcmp 79 (zi293 78) rfl rfl (fun z535 hz535 => ?_)
      have hK540 : ∀ (v : Int) , (0 ≤ v) → (if (m 4 45 ((y3 + 36) + y8)) ≤ y6 then
          (y6)
          else
          ((m 4 45 ((y3 + 36) + y8)))) = v → X (EE s) d 293 99 [(0, zr 4 44), (1, zi y1), (2, zi y2), (3, zi y3), (4, zl z534), (8, zi y8)] [zl v] m Q := by
        intro v537 hv537 hT541
        refine X.lstore 101 [(0, zr 4 44), (1, zi y1), (2, zi y2), (3, zi y3), (4, zl z534), (6, zl v537), (8, zi y8)] (zi293 99) rfl rfl rfl ?_
        refine X.iinc 104 [(0, zr 4 44), (1, zi y1), (2, zi y2), (3, zi y3), (4, zl z534), (6, zl v537), (8, zi (y8 + 1))] (zi293 101) rfl rfl rfl (by omega) rfl ?_
        refine X.goto 34 (zi293 104) rfl rfl ?_
        exact ih z534 v537 (y8 + 1) (by omega) (by omega) (by omega) (Eq.trans hR (Eq.trans (if_neg h528) (Eq.trans (zn_eq hFv531.symm) (Eq.trans (zn_eq ez533) (Eq.trans (zn_eq ez534) (Eq.trans (zn_eq hT541.symm) rfl))))))
      refine X.ifle 97 82 (zi293 79) rfl rfl rfl (fun h536 => ?_) (fun h536 => ?_)
      · have h536c : (m 4 45 ((y3 + 36) + y8)) ≤ y6 := by omega
        clear h536 hz535
        refine X.lload 99 (zi293 97) rfl rfl rfl ?_
        refine X.cut [(0, zr 4 44), (1, zi y1), (2, zi y2), (3, zi y3), (4, zl z534), (8, zi y8)] (zi293 99) rfl ?_
        exact hK540 y6 (by first | trivial | omega) (Eq.trans (if_pos h536c) rfl)
      · have h536c : ¬ (m 4 45 ((y3 + 36) + y8)) ≤ y6 := by omega
        clear h536 hz535
        refine X.aload_n 83 (zi293 82) rfl rfl rfl ?_
        refine X.getF 86 (zi293 83) rfl rfl (by decide) rfl rfl ?_
        refine X.iload_n 87 (zi293 86) rfl rfl rfl ?_
        refine X.bipush 89 (zi293 87) rfl rfl (by decide) ?_
        refine X.iadd 90 (zi293 89) rfl rfl (by omega) ?_
        refine X.iload 92 (zi293 90) rfl rfl rfl ?_
        refine X.iadd 93 (zi293 92) rfl rfl (by omega) ?_
        refine X.lald 94 (zi293 93) rfl rfl (by decide) rfl (by omega) ?_
        refine X.goto 99 (zi293 94) rfl rfl ?_
        refine X.cut [(0, zr 4 44), (1, zi y1), (2, zi y2), (3, zi y3), (4, zl z534), (8, zi y8)] (zi293 99) rfl ?_
        exact hK540 (m 4 45 ((y3 + 36) + y8)) (by first | trivial | omega) (Eq.trans (if_neg h536c) rfl)
-- WorkMeterModel.money
noncomputable def f293_1 (a1 a2 : Int) (m : zM) : Int :=
  zn (f289_1 a1 m) fun v503 =>
  if v503 = (-1) then
  ((-1))
  else
  (if a2 < 0 then
  ((-1))
  else
  (if a2 ≤ 1 then
  (fl293_34_1 (fun y512 y513 =>
  zn (f288_1 a1 2 (-1) m) fun v520 =>
  zn (f288_1 a1 5 (-1) m) fun v523 =>
  zn (w64 (v520 + v523)) fun z524 =>
  zn (w64 (100 * z524)) fun z525 =>
  zn (f288_1 a1 0 (-1) m) fun v528 =>
  zn (w64 (v528 * (m 4 45 1612))) fun z530 =>
  zn (w64 (z525 - z530)) fun z531 =>
  zn (w64 (y513 * (m 4 45 1611))) fun z533 =>
  zn (w64 (y512 + z533)) fun z534 =>
  zn (w64 (100 * z534)) fun z535 =>
  zn (if z531 ≤ 0 then
  (0)
  else
  (z531)) fun v538 =>
  zn (w64 (v538 * (m 4 45 1613))) fun z544 =>
  zn (w64 (z535 + z544)) fun z545 =>
  zn (fdiv (100 * (m 4 45 5)) z545 m) fun v549 =>
  zn (if a2 = 0 then
  (z545)
  else
  ((100 * (m 4 45 5)))) fun v551 =>
  zn (w64 ((v551).tdiv v549)) fun z556 =>
  z556) a1 a2 v503 m (zfu 5) 0 0 0)
  else
  ((-1))))
-- WorkMeterModel.money
theorem c293_1 {s : Nat × (Nat → Int32)} {S : zS} {m0 m : zM} {B : Int} {d : Nat} {Q : Option zV → zM → Prop} (a1 a2 : Int) (hd : 132 ≤ d) (hJ : J S m0 B m) (hB : B + 0 ≤ 1000000000) (ha1 : (-2147483648) ≤ a1 ∧ a1 ≤ 2147483647) (ha2 : (-2147483648) ≤ a2 ∧ a2 ≤ 2147483647) (hQ : ∀ (v : Int), (True) → f293_1 a1 a2 m = v → Q (some (zl v)) m) : X (EE s) d 293 0 [(0, zr 4 44), (1, zi a1), (2, zi a2)] [] m Q := by
  refine X.aload_n 1 (zi293 0) rfl rfl rfl ?_
  refine X.iload_n 2 (zi293 1) rfl rfl rfl ?_
  refine X.callv 5 [zi a1] [] [(0, zr 4 44), (1, zi a1)] (zi293 2) rfl (by decide) rfl rfl (by omega) rfl rfl (by decide) rfl t289 (Nat.le_of_ble_eq_true rfl) (Nat.le_of_ble_eq_true rfl) rfl ?_
  refine c289_1 (B := B)  a1 (by omega) (hJ.up (by omega)) (by omega) (by omega) (fun v503 hv503 hFv503 hqv503_0 => ?_)
  show X (EE s) d 293 5 [(0, zr 4 44), (1, zi a1), (2, zi a2)] [zi v503] m _
  refine X.istore_n 6 [(0, zr 4 44), (1, zi a1), (2, zi a2), (3, zi v503)] (zi293 5) rfl rfl rfl ?_
  refine X.iload_n 7 (zi293 6) rfl rfl rfl ?_
  refine X.iconst 8 (zi293 7) rfl rfl (by decide) ?_
  refine X.icmpeq 21 11 (zi293 8) rfl rfl rfl (fun h504 => ?_) (fun h504 => ?_)
  · refine X.cut [] (zi293 21) rfl ?_
    refine X.ldc2 24 (zi293 21) rfl rfl (by decide) ?_
    refine X.retl (zi293 24) rfl t293 ?_
    exact hQ (-1) (by first | trivial | omega) (Eq.trans (zn_eq hFv503.symm) (Eq.trans (if_pos h504) rfl)) 
  · refine X.iload_n 12 (zi293 11) rfl rfl rfl ?_
    refine X.i2l 13 (zi293 12) rfl rfl ?_
    refine X.lconst (y := 0) 14 (zi293 13) rfl rfl rfl ?_
    refine X.lconst (y := 1) 15 (zi293 14) rfl rfl rfl ?_
    refine X.calls 18 [zl a2, zl 0, zl 1] [] [(0, zl a2), (2, zl 0), (4, zl 1)] (zi293 15) (by decide) rfl rfl (by omega) rfl rfl t204 (Nat.le_of_ble_eq_true rfl) (Nat.le_of_ble_eq_true rfl) rfl ?_
    refine X.lload_n 1 (zi204 0) rfl rfl rfl ?_
    refine X.lload_n 2 (zi204 1) rfl rfl rfl ?_
    refine X.lcmp 3 (zi204 2) rfl rfl (fun z505 hz505 => ?_)
    refine X.iflt 17 6 (zi204 3) rfl rfl rfl (fun h506 => ?_) (fun h506 => ?_)
    · have h506c : a2 < 0 := by omega
      clear h506 hz505
      refine X.cut [] (zi204 17) rfl ?_
      refine X.iconst 18 (zi204 17) rfl rfl (by decide) ?_
      refine X.retz (zi204 18) rfl t204 (by omega) ?_
      show X (EE s) d 293 18 [(0, zr 4 44), (1, zi a1), (2, zi a2), (3, zi v503)] [zi 0] m _
      refine X.ifne 25 21 (zi293 18) rfl rfl rfl (fun h507 => (by exfalso; omega)) (fun h507 => ?_)
      refine X.cut [] (zi293 21) rfl ?_
      refine X.ldc2 24 (zi293 21) rfl rfl (by decide) ?_
      refine X.retl (zi293 24) rfl t293 ?_
      exact hQ (-1) (by first | trivial | omega) (Eq.trans (zn_eq hFv503.symm) (Eq.trans (if_neg h504) (Eq.trans (if_pos h506c) rfl))) 
    · have h506c : ¬ a2 < 0 := by omega
      clear h506 hz505
      refine X.lload_n 7 (zi204 6) rfl rfl rfl ?_
      refine X.lload 9 (zi204 7) rfl rfl rfl ?_
      refine X.lcmp 10 (zi204 9) rfl rfl (fun z508 hz508 => ?_)
      refine X.ifgt 17 13 (zi204 10) rfl rfl rfl (fun h509 => ?_) (fun h509 => ?_)
      · have h509c : ¬ a2 ≤ 1 := by omega
        clear h509 hz508
        refine X.cut [] (zi204 17) rfl ?_
        refine X.iconst 18 (zi204 17) rfl rfl (by decide) ?_
        refine X.retz (zi204 18) rfl t204 (by omega) ?_
        show X (EE s) d 293 18 [(0, zr 4 44), (1, zi a1), (2, zi a2), (3, zi v503)] [zi 0] m _
        refine X.ifne 25 21 (zi293 18) rfl rfl rfl (fun h510 => (by exfalso; omega)) (fun h510 => ?_)
        refine X.cut [] (zi293 21) rfl ?_
        refine X.ldc2 24 (zi293 21) rfl rfl (by decide) ?_
        refine X.retl (zi293 24) rfl t293 ?_
        exact hQ (-1) (by first | trivial | omega) (Eq.trans (zn_eq hFv503.symm) (Eq.trans (if_neg h504) (Eq.trans (if_neg h506c) (Eq.trans (if_neg h509c) rfl)))) 
      · have h509c : a2 ≤ 1 := by omega
        clear h509 hz508
        refine X.iconst 14 (zi204 13) rfl rfl (by decide) ?_
        refine X.goto 18 (zi204 14) rfl rfl ?_
        refine X.cut [] (zi204 18) rfl ?_
        refine X.retz (zi204 18) rfl t204 (by omega) ?_
        show X (EE s) d 293 18 [(0, zr 4 44), (1, zi a1), (2, zi a2), (3, zi v503)] [zi 1] m _
        refine X.ifne 25 21 (zi293 18) rfl rfl rfl (fun h511 => ?_) (fun h511 => (by exfalso; omega))
        refine X.lconst (y := 0) 26 (zi293 25) rfl rfl rfl ?_
        refine X.lstore 28 [(0, zr 4 44), (1, zi a1), (2, zi a2), (3, zi v503), (4, zl 0)] (zi293 26) rfl rfl rfl ?_
        refine X.lconst (y := 0) 29 (zi293 28) rfl rfl rfl ?_
        refine X.lstore 31 [(0, zr 4 44), (1, zi a1), (2, zi a2), (3, zi v503), (4, zl 0), (6, zl 0)] (zi293 29) rfl rfl rfl ?_
        refine X.iconst 32 (zi293 31) rfl rfl (by decide) ?_
        refine X.istore 34 [(0, zr 4 44), (1, zi a1), (2, zi a2), (3, zi v503), (4, zl 0), (6, zl 0), (8, zi 0)] (zi293 32) rfl rfl rfl ?_
        have hz5 := zfu_eq 5
        refine l293_34_1 (s := s) (m := m) (B := B) (d := d) (R0 := (f293_1 a1 a2 m))  a1 a2 v503  (by omega) (hJ.up (by omega)) (by omega) (by omega) (by omega) (by omega) (fun y512 y513 hby512 hby513 hR517 => ?_) (zfu 5) 0 0 0 (by omega) (by omega) (by omega) (Eq.trans (zn_eq hFv503.symm) (Eq.trans (if_neg h504) (Eq.trans (if_neg h506c) (Eq.trans (if_pos h509c) rfl))))
        refine X.ldc2 110 (zi293 107) rfl rfl (by decide) ?_
        refine X.aload_n 111 (zi293 110) rfl rfl rfl ?_
        refine X.iload_n 112 (zi293 111) rfl rfl rfl ?_
        refine X.iconst 113 (zi293 112) rfl rfl (by decide) ?_
        refine X.iconst 114 (zi293 113) rfl rfl (by decide) ?_
        refine X.callv 117 [zi a1, zi 2, zi (-1)] [zl 100] [(0, zr 4 44), (1, zi a1), (2, zi 2), (3, zi (-1))] (zi293 114) rfl (by decide) rfl rfl (by omega) rfl rfl (by decide) rfl t288 (Nat.le_of_ble_eq_true rfl) (Nat.le_of_ble_eq_true rfl) rfl ?_
        refine c288_1 (B := B)  a1 2 (-1) (by omega) (hJ.up (by omega)) (by omega) (by omega) (by omega) (by omega) (fun v520 hv520 hFv520 => ?_)
        show X (EE s) d 293 117 [(0, zr 4 44), (1, zi a1), (2, zi a2), (4, zl y512), (6, zl y513)] [zl v520, zl 100] m _
        refine X.aload_n 118 (zi293 117) rfl rfl rfl ?_
        refine X.iload_n 119 (zi293 118) rfl rfl rfl ?_
        refine X.iconst 120 (zi293 119) rfl rfl (by decide) ?_
        refine X.iconst 121 (zi293 120) rfl rfl (by decide) ?_
        refine X.callv 124 [zi a1, zi 5, zi (-1)] [zl v520, zl 100] [(0, zr 4 44), (1, zi a1), (2, zi 5), (3, zi (-1))] (zi293 121) rfl (by decide) rfl rfl (by omega) rfl rfl (by decide) rfl t288 (Nat.le_of_ble_eq_true rfl) (Nat.le_of_ble_eq_true rfl) rfl ?_
        refine c288_1 (B := B)  a1 5 (-1) (by omega) (hJ.up (by omega)) (by omega) (by omega) (by omega) (by omega) (fun v523 hv523 hFv523 => ?_)
        show X (EE s) d 293 124 [(0, zr 4 44), (1, zi a1), (2, zi a2), (4, zl y512), (6, zl y513)] [zl v523, zl v520, zl 100] m _
        refine X.laddW 125 (zi293 124) rfl rfl (fun z524 ez524 hz524 => ?_)
        refine X.lmulW 126 (zi293 125) rfl rfl (fun z525 ez525 hz525 => ?_)
        refine X.aload_n 127 (zi293 126) rfl rfl rfl ?_
        refine X.iload_n 128 (zi293 127) rfl rfl rfl ?_
        refine X.iconst 129 (zi293 128) rfl rfl (by decide) ?_
        refine X.iconst 130 (zi293 129) rfl rfl (by decide) ?_
        refine X.callv 133 [zi a1, zi 0, zi (-1)] [zl z525] [(0, zr 4 44), (1, zi a1), (2, zi 0), (3, zi (-1))] (zi293 130) rfl (by decide) rfl rfl (by omega) rfl rfl (by decide) rfl t288 (Nat.le_of_ble_eq_true rfl) (Nat.le_of_ble_eq_true rfl) rfl ?_
        refine c288_1 (B := B)  a1 0 (-1) (by omega) (hJ.up (by omega)) (by omega) (by omega) (by omega) (by omega) (fun v528 hv528 hFv528 => ?_)
        show X (EE s) d 293 133 [(0, zr 4 44), (1, zi a1), (2, zi a2), (4, zl y512), (6, zl y513)] [zl v528, zl z525] m _
        refine X.aload_n 134 (zi293 133) rfl rfl rfl ?_
        refine X.getF 137 (zi293 134) rfl rfl (by decide) rfl rfl ?_
        refine X.sipush 140 (zi293 137) rfl rfl (by decide) ?_
        refine X.lald 141 (zi293 140) rfl rfl (by decide) rfl (by omega) ?_
        have h529 := r45_1612 hJ 4
        refine X.lmulW 142 (zi293 141) rfl rfl (fun z530 ez530 hz530 => ?_)
        refine X.lsubW 143 (zi293 142) rfl rfl (fun z531 ez531 hz531 => ?_)
        refine X.lstore 145 [(0, zr 4 44), (1, zi a1), (2, zi a2), (4, zl y512), (6, zl y513), (8, zl z531)] (zi293 143) rfl rfl rfl ?_
        refine X.ldc2 148 (zi293 145) rfl rfl (by decide) ?_
        refine X.lload 150 (zi293 148) rfl rfl rfl ?_
        refine X.lload 152 (zi293 150) rfl rfl rfl ?_
        refine X.aload_n 153 (zi293 152) rfl rfl rfl ?_
        refine X.getF 156 (zi293 153) rfl rfl (by decide) rfl rfl ?_
        refine X.sipush 159 (zi293 156) rfl rfl (by decide) ?_
        refine X.lald 160 (zi293 159) rfl rfl (by decide) rfl (by omega) ?_
        have h532 := r45_1611 hJ 4
        refine X.lmulW 161 (zi293 160) rfl rfl (fun z533 ez533 hz533 => ?_)
        refine X.laddW 162 (zi293 161) rfl rfl (fun z534 ez534 hz534 => ?_)
        refine X.lmulW 163 (zi293 162) rfl rfl (fun z535 ez535 hz535 => ?_)
        refine X.lload 165 (zi293 163) rfl rfl rfl ?_
        refine X.lconst (y := 0) 166 (zi293 165) rfl rfl rfl ?_
        refine X.lcmp 167 (zi293 166) rfl rfl (fun z536 hz536 => ?_)
        have hK541 : ∀ (v : Int) , (0 ≤ v) → (if z531 ≤ 0 then
            (0)
            else
            (z531)) = v → X (EE s) d 293 176 [(0, zr 4 44), (2, zi a2)] [zl v, zl z535] m Q := by
          intro v538 hv538 hT542
          refine X.aload_n 177 (zi293 176) rfl rfl rfl ?_
          refine X.getF 180 (zi293 177) rfl rfl (by decide) rfl rfl ?_
          refine X.sipush 183 (zi293 180) rfl rfl (by decide) ?_
          refine X.lald 184 (zi293 183) rfl rfl (by decide) rfl (by omega) ?_
          have h543 := r45_1613 hJ 4
          refine X.lmulW 185 (zi293 184) rfl rfl (fun z544 ez544 hz544 => ?_)
          refine X.laddW 186 (zi293 185) rfl rfl (fun z545 ez545 hz545 => ?_)
          refine X.lstore 188 [(0, zr 4 44), (2, zi a2), (10, zl z545)] (zi293 186) rfl rfl rfl ?_
          refine X.ldc2 191 (zi293 188) rfl rfl (by decide) ?_
          refine X.aload_n 192 (zi293 191) rfl rfl rfl ?_
          refine X.getF 195 (zi293 192) rfl rfl (by decide) rfl rfl ?_
          refine X.iconst 196 (zi293 195) rfl rfl (by decide) ?_
          refine X.lald 197 (zi293 196) rfl rfl (by decide) rfl (by omega) ?_
          have h546 := r45_5 hJ 4
          refine X.lmul 198 (zi293 197) rfl rfl (by omega) ?_
          refine X.lstore 200 [(0, zr 4 44), (2, zi a2), (10, zl z545), (12, zl (100 * (m 4 45 5)))] (zi293 198) rfl rfl rfl ?_
          refine X.lload 202 (zi293 200) rfl rfl rfl ?_
          refine X.lload 204 (zi293 202) rfl rfl rfl ?_
          refine X.calls 207 [zl (100 * (m 4 45 5)), zl z545] [] [(0, zl (100 * (m 4 45 5))), (2, zl z545)] (zi293 204) (by decide) rfl rfl (by omega) rfl rfl t294 (Nat.le_of_ble_eq_true rfl) (Nat.le_of_ble_eq_true rfl) rfl ?_
          refine c_dv (B := B)  (100 * (m 4 45 5)) z545 (by omega) (hJ.up (by omega)) (by omega) (by omega) (by omega) (fun v549 hv549 hFv549 hqv549_0 => ?_)
          show X (EE s) d 293 207 [(0, zr 4 44), (2, zi a2), (10, zl z545), (12, zl (100 * (m 4 45 5)))] [zl v549] m _
          refine X.lstore 209 [(0, zr 4 44), (2, zi a2), (10, zl z545), (12, zl (100 * (m 4 45 5))), (14, zl v549)] (zi293 207) rfl rfl rfl ?_
          refine X.iload_n 210 (zi293 209) rfl rfl rfl ?_
          have hK554 : ∀ (v : Int) , (True) → (if a2 = 0 then
              (z545)
              else
              ((100 * (m 4 45 5)))) = v → X (EE s) d 293 220 [(14, zl v549)] [zl v] m Q := by
            intro v551 hv551 hT555
            refine X.lload 222 (zi293 220) rfl rfl rfl ?_
            refine X.ldivW 223 (zi293 222) rfl rfl (by omega) (fun z556 ez556 hz556 => ?_)
            refine X.retl (zi293 223) rfl t293 ?_
            exact hQ z556 (by first | trivial | omega) (Eq.trans hR517 (Eq.trans (zn_eq hFv520.symm) (Eq.trans (zn_eq hFv523.symm) (Eq.trans (zn_eq ez524) (Eq.trans (zn_eq ez525) (Eq.trans (zn_eq hFv528.symm) (Eq.trans (zn_eq ez530) (Eq.trans (zn_eq ez531) (Eq.trans (zn_eq ez533) (Eq.trans (zn_eq ez534) (Eq.trans (zn_eq ez535) (Eq.trans (zn_eq hT542.symm) (Eq.trans (zn_eq ez544) (Eq.trans (zn_eq ez545) (Eq.trans (zn_eq hFv549.symm) (Eq.trans (zn_eq hT555.symm) (Eq.trans (zn_eq ez556) rfl))))))))))))))))) 
          refine X.ifne 218 213 (zi293 210) rfl rfl rfl (fun h550 => ?_) (fun h550 => ?_)
          · refine X.cut [(12, zl (100 * (m 4 45 5))), (14, zl v549)] (zi293 218) rfl ?_
            refine X.lload 220 (zi293 218) rfl rfl rfl ?_
            refine X.cut [(14, zl v549)] (zi293 220) rfl ?_
            exact hK554 (100 * (m 4 45 5)) (by first | trivial | omega) (Eq.trans (if_neg h550) rfl)
          · refine X.lload 215 (zi293 213) rfl rfl rfl ?_
            refine X.goto 220 (zi293 215) rfl rfl ?_
            refine X.cut [(14, zl v549)] (zi293 220) rfl ?_
            exact hK554 z545 (by first | trivial | omega) (Eq.trans (if_pos h550) rfl)
        refine X.ifle 175 170 (zi293 167) rfl rfl rfl (fun h537 => ?_) (fun h537 => ?_)
        · have h537c : z531 ≤ 0 := by omega
          clear h537 hz536
          refine X.cut [(0, zr 4 44), (2, zi a2)] (zi293 175) rfl ?_
          refine X.lconst (y := 0) 176 (zi293 175) rfl rfl rfl ?_
          exact hK541 0 (by first | trivial | omega) (Eq.trans (if_pos h537c) rfl)
        · have h537c : ¬ z531 ≤ 0 := by omega
          clear h537 hz536
          refine X.lload 172 (zi293 170) rfl rfl rfl ?_
          refine X.goto 176 (zi293 172) rfl rfl ?_
          refine X.cut [(0, zr 4 44), (2, zi a2)] (zi293 176) rfl ?_
          exact hK541 z531 (by first | trivial | omega) (Eq.trans (if_neg h537c) rfl)
-- WorkMeter$Wave.copyFrom
noncomputable def f173_1 (g0 g1 : Nat) (m : zM) : zM :=
  zs (z_cpy m g0 20 g1 20 0 0 48) fun m501 =>
  zs (z_cpy m501 g0 21 g1 21 0 0 48) fun m503 =>
  zs (z_cpy m503 g0 22 g1 22 0 0 16) fun m505 =>
  zs (z_upd m505 g0 19 3 (m505 g1 19 3)) fun m508 =>
  zs (z_upd m508 g0 19 4 (m508 g1 19 4)) fun m511 =>
  zs (z_upd m511 g0 19 5 (m511 g1 19 5)) fun m514 =>
  zs (z_upd m514 g0 19 6 (m514 g1 19 6)) fun m516 =>
  m516
-- WorkMeter$Wave.copyFrom
theorem c173_1 {s : Nat × (Nat → Int32)} {S : zS} {m0 m : zM} {B : Int} {d : Nat} {Q : Option zV → zM → Prop} (g0 g1 : Nat) (hd : 13 ≤ d) (hJ : J S m0 B m) (hB : B + 0 ≤ 1000000000) (hf2 : ¬ S.1 2) (hgg0 : ¬ S.2.1 g0) (hQ : ∀ m', f173_1 g0 g1 m = m' → J S m0 (B) m' → Q none m') : X (EE s) d 173 0 [(0, zr g0 19), (1, zr g1 19)] [] m Q := by
  refine X.aload_n 1 (zi173 0) rfl rfl rfl ?_
  refine X.getR 4 (zi173 1) rfl rfl (by decide) rfl rfl ?_
  refine X.iconst 5 (zi173 4) rfl rfl (by decide) ?_
  refine X.aload_n 6 (zi173 5) rfl rfl rfl ?_
  refine X.getR 9 (zi173 6) rfl rfl (by decide) rfl rfl ?_
  refine X.iconst 10 (zi173 9) rfl rfl (by decide) ?_
  refine X.aload_n 11 (zi173 10) rfl rfl rfl ?_
  refine X.getR 14 (zi173 11) rfl rfl (by decide) rfl rfl ?_
  refine X.alen 15 (zi173 14) rfl rfl (by decide) rfl ?_
  show X (EE s) d 173 15 [(0, zr g0 19), (1, zr g1 19)] [zi 48, zi 0, zr g0 20, zi 0, zr g1 20] m _
  refine X.cpI' 18 (zi173 15) rfl rfl (by omega) (Nat.le_of_ble_eq_true rfl) (by decide) (by decide) rfl rfl (by omega) (fun m501 hm501 => ?_)
  have hJ502 := J.cpyS hJ hm501 rfl hf2 hgg0
  refine X.aload_n 19 (zi173 18) rfl rfl rfl ?_
  refine X.getR 22 (zi173 19) rfl rfl (by decide) rfl rfl ?_
  refine X.iconst 23 (zi173 22) rfl rfl (by decide) ?_
  refine X.aload_n 24 (zi173 23) rfl rfl rfl ?_
  refine X.getR 27 (zi173 24) rfl rfl (by decide) rfl rfl ?_
  refine X.iconst 28 (zi173 27) rfl rfl (by decide) ?_
  refine X.aload_n 29 (zi173 28) rfl rfl rfl ?_
  refine X.getR 32 (zi173 29) rfl rfl (by decide) rfl rfl ?_
  refine X.alen 33 (zi173 32) rfl rfl (by decide) rfl ?_
  show X (EE s) d 173 33 [(0, zr g0 19), (1, zr g1 19)] [zi 48, zi 0, zr g0 21, zi 0, zr g1 21] m501 _
  refine X.cpI' 36 (zi173 33) rfl rfl (by omega) (Nat.le_of_ble_eq_true rfl) (by decide) (by decide) rfl rfl (by omega) (fun m503 hm503 => ?_)
  have hJ504 := J.cpyS hJ502 hm503 rfl hf2 hgg0
  refine X.aload_n 37 (zi173 36) rfl rfl rfl ?_
  refine X.getR 40 (zi173 37) rfl rfl (by decide) rfl rfl ?_
  refine X.iconst 41 (zi173 40) rfl rfl (by decide) ?_
  refine X.aload_n 42 (zi173 41) rfl rfl rfl ?_
  refine X.getR 45 (zi173 42) rfl rfl (by decide) rfl rfl ?_
  refine X.iconst 46 (zi173 45) rfl rfl (by decide) ?_
  refine X.aload_n 47 (zi173 46) rfl rfl rfl ?_
  refine X.getR 50 (zi173 47) rfl rfl (by decide) rfl rfl ?_
  refine X.alen 51 (zi173 50) rfl rfl (by decide) rfl ?_
  show X (EE s) d 173 51 [(0, zr g0 19), (1, zr g1 19)] [zi 16, zi 0, zr g0 22, zi 0, zr g1 22] m503 _
  refine X.cpL' 54 (zi173 51) rfl rfl (by omega) (Nat.le_of_ble_eq_true rfl) (by decide) (by decide) rfl rfl (by omega) (fun m505 hm505 => ?_)
  have hJ506 := J.cpyS hJ504 hm505 rfl hf2 hgg0
  refine X.aload_n 55 (zi173 54) rfl rfl rfl ?_
  refine X.aload_n 56 (zi173 55) rfl rfl rfl ?_
  refine X.getI 59 3 (zi173 56) rfl rfl (by decide) rfl rfl rfl ?_
  have h507 := r19_3 hJ506 g1
  refine X.putI' 62 3 (zi173 59) rfl rfl (by decide) rfl rfl rfl (fun hrm508 m508 hm508 => ?_)
  have hJ509 := w19_3 hJ506 hm508 (by omega) hf2 hgg0
  refine X.aload_n 63 (zi173 62) rfl rfl rfl ?_
  refine X.aload_n 64 (zi173 63) rfl rfl rfl ?_
  refine X.getI 67 4 (zi173 64) rfl rfl (by decide) rfl rfl rfl ?_
  have h510 := r19_4 hJ509 g1
  refine X.putI' 70 4 (zi173 67) rfl rfl (by decide) rfl rfl rfl (fun hrm511 m511 hm511 => ?_)
  have hJ512 := w19_4 hJ509 hm511 (by omega) hf2 hgg0
  refine X.aload_n 71 (zi173 70) rfl rfl rfl ?_
  refine X.aload_n 72 (zi173 71) rfl rfl rfl ?_
  refine X.getI 75 5 (zi173 72) rfl rfl (by decide) rfl rfl rfl ?_
  have h513 := r19_5 hJ512 g1
  refine X.putI' 78 5 (zi173 75) rfl rfl (by decide) rfl rfl rfl (fun hrm514 m514 hm514 => ?_)
  have hJ515 := w19_5 hJ512 hm514 (by omega) hf2 hgg0
  have em514 : m514 g0 19 5 = (m511 g1 19 5) := by rw [hm514]; exact z_upd_same _ _ _ _ _
  refine X.aload_n 79 (zi173 78) rfl rfl rfl ?_
  refine X.aload_n 80 (zi173 79) rfl rfl rfl ?_
  refine X.getL 83 6 (zi173 80) rfl rfl (by decide) rfl rfl rfl ?_
  refine X.putL' 86 6 (zi173 83) rfl rfl (by decide) rfl rfl rfl (fun hrm516 m516 hm516 => ?_)
  have hJ517 := w19_6 hJ515 hm516 hrm516 hf2 hgg0
  refine X.retv (zi173 86) rfl t173 ?_
  exact hQ  m516  (Eq.trans (zs_eq hm501) (Eq.trans (zs_eq hm503) (Eq.trans (zs_eq hm505) (Eq.trans (zs_eq hm508) (Eq.trans (zs_eq hm511) (Eq.trans (zs_eq hm514) (Eq.trans (zs_eq hm516) rfl))))))) (hJ517.up (by omega)) 
-- WorkMeter$Load.copyFrom
noncomputable def f175_1 (g0 g1 : Nat) (m : zM) : zM :=
  zs (z_cpy m g0 28 g1 28 0 0 384) fun m501 =>
  zs (z_cpy m501 g0 29 g1 29 0 0 4) fun m503 =>
  zs (z_upd m503 g0 27 2 (m503 g1 27 2)) fun m506 =>
  zs (z_upd m506 g0 27 3 (m506 g1 27 3)) fun m508 =>
  zs (z_upd m508 g0 27 4 (m508 g1 27 4)) fun m510 =>
  zs (z_upd m510 g0 27 5 (m510 g1 27 5)) fun m512 =>
  zs (z_upd m512 g0 27 6 (m512 g1 27 6)) fun m515 =>
  zs (z_upd m515 g0 27 7 (m515 g1 27 7)) fun m518 =>
  zs (z_upd m518 g0 27 8 (m518 g1 27 8)) fun m521 =>
  zs (z_upd m521 g0 27 9 (m521 g1 27 9)) fun m524 =>
  m524
-- WorkMeter$Load.copyFrom
theorem c175_1 {s : Nat × (Nat → Int32)} {S : zS} {m0 m : zM} {B : Int} {d : Nat} {Q : Option zV → zM → Prop} (g0 g1 : Nat) (hd : 13 ≤ d) (hJ : J S m0 B m) (hB : B + 1 ≤ 1000000000) (hf7 : ¬ S.1 7) (hgg0 : ¬ S.2.1 g0) (hQ : ∀ m', f175_1 g0 g1 m = m' → J S m0 (B + 1) m' → Q none m') : X (EE s) d 175 0 [(0, zr g0 27), (1, zr g1 27)] [] m Q := by
  refine X.aload_n 1 (zi175 0) rfl rfl rfl ?_
  refine X.getR 4 (zi175 1) rfl rfl (by decide) rfl rfl ?_
  refine X.iconst 5 (zi175 4) rfl rfl (by decide) ?_
  refine X.aload_n 6 (zi175 5) rfl rfl rfl ?_
  refine X.getR 9 (zi175 6) rfl rfl (by decide) rfl rfl ?_
  refine X.iconst 10 (zi175 9) rfl rfl (by decide) ?_
  refine X.aload_n 11 (zi175 10) rfl rfl rfl ?_
  refine X.getR 14 (zi175 11) rfl rfl (by decide) rfl rfl ?_
  refine X.alen 15 (zi175 14) rfl rfl (by decide) rfl ?_
  show X (EE s) d 175 15 [(0, zr g0 27), (1, zr g1 27)] [zi 384, zi 0, zr g0 28, zi 0, zr g1 28] m _
  refine X.cpL' 18 (zi175 15) rfl rfl (by omega) (Nat.le_of_ble_eq_true rfl) (by decide) (by decide) rfl rfl (by omega) (fun m501 hm501 => ?_)
  have hJ502 := J.cpyS hJ hm501 rfl hf7 hgg0
  refine X.aload_n 19 (zi175 18) rfl rfl rfl ?_
  refine X.getR 22 (zi175 19) rfl rfl (by decide) rfl rfl ?_
  refine X.iconst 23 (zi175 22) rfl rfl (by decide) ?_
  refine X.aload_n 24 (zi175 23) rfl rfl rfl ?_
  refine X.getR 27 (zi175 24) rfl rfl (by decide) rfl rfl ?_
  refine X.iconst 28 (zi175 27) rfl rfl (by decide) ?_
  refine X.iconst 29 (zi175 28) rfl rfl (by decide) ?_
  refine X.cpL' 32 (zi175 29) rfl rfl (by omega) (Nat.le_of_ble_eq_true rfl) (by decide) (by decide) rfl rfl (by omega) (fun m503 hm503 => ?_)
  have hJ504 := J.cpyS hJ502 hm503 rfl hf7 hgg0
  refine X.aload_n 33 (zi175 32) rfl rfl rfl ?_
  refine X.aload_n 34 (zi175 33) rfl rfl rfl ?_
  refine X.getI 37 2 (zi175 34) rfl rfl (by decide) rfl rfl rfl ?_
  have h505 := r27_2 hJ504 g1
  refine X.putI' 40 2 (zi175 37) rfl rfl (by decide) rfl rfl rfl (fun hrm506 m506 hm506 => ?_)
  have hJ507 := w27_2 (hJ504.up (B' := B + 1) (by omega)) hm506 (by omega) hf7 hgg0
  refine X.aload_n 41 (zi175 40) rfl rfl rfl ?_
  refine X.aload_n 42 (zi175 41) rfl rfl rfl ?_
  refine X.getL 45 3 (zi175 42) rfl rfl (by decide) rfl rfl rfl ?_
  refine X.putL' 48 3 (zi175 45) rfl rfl (by decide) rfl rfl rfl (fun hrm508 m508 hm508 => ?_)
  have hJ509 := w27_3 hJ507 hm508 (by omega) hrm508 hf7 hgg0
  refine X.aload_n 49 (zi175 48) rfl rfl rfl ?_
  refine X.aload_n 50 (zi175 49) rfl rfl rfl ?_
  refine X.getL 53 4 (zi175 50) rfl rfl (by decide) rfl rfl rfl ?_
  refine X.putL' 56 4 (zi175 53) rfl rfl (by decide) rfl rfl rfl (fun hrm510 m510 hm510 => ?_)
  have hJ511 := w27_3 hJ509 hm510 (by omega) hrm510 hf7 hgg0
  refine X.aload_n 57 (zi175 56) rfl rfl rfl ?_
  refine X.aload_n 58 (zi175 57) rfl rfl rfl ?_
  refine X.getL 61 5 (zi175 58) rfl rfl (by decide) rfl rfl rfl ?_
  refine X.putL' 64 5 (zi175 61) rfl rfl (by decide) rfl rfl rfl (fun hrm512 m512 hm512 => ?_)
  have hJ513 := w27_3 hJ511 hm512 (by omega) hrm512 hf7 hgg0
  refine X.aload_n 65 (zi175 64) rfl rfl rfl ?_
  refine X.aload_n 66 (zi175 65) rfl rfl rfl ?_
  refine X.getIr 69 6 (zi175 66) rfl rfl (by decide) rfl rfl rfl (fun h514 => ?_)
  refine X.putI' 72 6 (zi175 69) rfl rfl (by decide) rfl rfl rfl (fun hrm515 m515 hm515 => ?_)
  have hJ516 := w27_3 hJ513 hm515 (by omega) hrm515 hf7 hgg0
  refine X.aload_n 73 (zi175 72) rfl rfl rfl ?_
  refine X.aload_n 74 (zi175 73) rfl rfl rfl ?_
  refine X.getIr 77 7 (zi175 74) rfl rfl (by decide) rfl rfl rfl (fun h517 => ?_)
  refine X.putI' 80 7 (zi175 77) rfl rfl (by decide) rfl rfl rfl (fun hrm518 m518 hm518 => ?_)
  have hJ519 := w27_3 hJ516 hm518 (by omega) hrm518 hf7 hgg0
  refine X.aload_n 81 (zi175 80) rfl rfl rfl ?_
  refine X.aload_n 82 (zi175 81) rfl rfl rfl ?_
  refine X.getIr 85 8 (zi175 82) rfl rfl (by decide) rfl rfl rfl (fun h520 => ?_)
  refine X.putI' 88 8 (zi175 85) rfl rfl (by decide) rfl rfl rfl (fun hrm521 m521 hm521 => ?_)
  have hJ522 := w27_3 hJ519 hm521 (by omega) hrm521 hf7 hgg0
  refine X.aload_n 89 (zi175 88) rfl rfl rfl ?_
  refine X.aload_n 90 (zi175 89) rfl rfl rfl ?_
  refine X.getI 93 9 (zi175 90) rfl rfl (by decide) rfl rfl rfl ?_
  have h523 := r27_9 hJ522 g1
  refine X.putI' 96 9 (zi175 93) rfl rfl (by decide) rfl rfl rfl (fun hrm524 m524 hm524 => ?_)
  have hJ525 := w27_9 hJ522 hm524 (by omega) hf7 hgg0
  refine X.retv (zi175 96) rfl t175 ?_
  exact hQ  m524  (Eq.trans (zs_eq hm501) (Eq.trans (zs_eq hm503) (Eq.trans (zs_eq hm506) (Eq.trans (zs_eq hm508) (Eq.trans (zs_eq hm510) (Eq.trans (zs_eq hm512) (Eq.trans (zs_eq hm515) (Eq.trans (zs_eq hm518) (Eq.trans (zs_eq hm521) (Eq.trans (zs_eq hm524) rfl)))))))))) (hJ525.up (by omega)) 
-- WorkMeter$Meter.copyFrom
noncomputable def f171_1 (g0 g1 : Nat) (m : zM) : zM :=
  zs (z_cpy m g0 10 g1 10 0 0 13) fun m501 =>
  zs (f111_1 g0 g1 m501) fun m503 =>
  zs (f173_1 g0 g1 m503) fun m506 =>
  zs (z_cpy m506 g0 24 g1 24 0 0 28) fun m509 =>
  zs (z_cpy m509 g0 25 g1 25 0 0 28) fun m511 =>
  zs (z_cpy m511 g0 26 g1 26 0 0 198) fun m513 =>
  zs (z_upd m513 g0 23 3 (m513 g1 23 3)) fun m516 =>
  zs (f175_1 g0 g1 m516) fun m518 =>
  zs (z_cpy m518 g0 31 g1 31 0 0 4) fun m521 =>
  zs (z_cpy m521 g0 32 g1 32 0 0 4) fun m523 =>
  zs (z_upd m523 g0 30 2 (m523 g1 30 2)) fun m525 =>
  zs (z_upd m525 g0 30 3 (m525 g1 30 3)) fun m528 =>
  zs (z_cpy m528 g0 34 g1 34 0 0 5) fun m530 =>
  zs (z_cpy m530 g0 35 g1 35 0 0 5) fun m532 =>
  zs (z_cpy m532 g0 36 g1 36 0 0 5) fun m534 =>
  zs (z_upd m534 g0 33 3 (m534 g1 33 3)) fun m537 =>
  zs (z_cpy m537 g0 38 g1 38 0 0 120) fun m539 =>
  zs (z_upd m539 g0 37 1 (m539 g1 37 1)) fun m542 =>
  zs (z_upd m542 g0 39 0 (m542 g1 39 0)) fun m545 =>
  zs (z_upd m545 g0 39 1 (m545 g1 39 1)) fun m548 =>
  zs (z_upd m548 g0 39 2 (m548 g1 39 2)) fun m551 =>
  zs (z_upd m551 g0 39 3 (m551 g1 39 3)) fun m554 =>
  zs (z_upd m554 g0 39 4 (m554 g1 39 4)) fun m557 =>
  zs (z_upd m557 g0 8 9 (m557 g1 8 9)) fun m560 =>
  zs (z_upd m560 g0 8 10 (m560 g1 8 10)) fun m562 =>
  zs (z_upd m562 g0 8 11 (m562 g1 8 11)) fun m565 =>
  zs (z_upd m565 g0 8 12 (m565 g1 8 12)) fun m568 =>
  zs (z_upd m568 g0 8 13 (m568 g1 8 13)) fun m571 =>
  zs (z_upd m571 g0 8 14 (m571 g1 8 14)) fun m574 =>
  zs (z_upd m574 g0 8 15 (m574 g1 8 15)) fun m577 =>
  m577
-- WorkMeter$Meter.copyFrom
theorem c171_1 {s : Nat × (Nat → Int32)} {S : zS} {m0 m : zM} {B : Int} {d : Nat} {Q : Option zV → zM → Prop} (g0 g1 : Nat) (hd : 14 ≤ d) (hJ : J S m0 B m) (hB : B + 4 ≤ 1000000000) (hf1 : ¬ S.1 1) (hf2 : ¬ S.1 2) (hf3 : ¬ S.1 3) (hf4 : ¬ S.1 4) (hf5 : ¬ S.1 5) (hf6 : ¬ S.1 6) (hf7 : ¬ S.1 7) (hf8 : ¬ S.1 8) (hf9 : ¬ S.1 9) (hf10 : ¬ S.1 10) (hf11 : ¬ S.1 11) (hf12 : ¬ S.1 12) (hf13 : ¬ S.1 13) (hgg0 : ¬ S.2.1 g0) (hQ : ∀ m', f171_1 g0 g1 m = m' → J S m0 (B + 4) m' → Q none m') : X (EE s) d 171 0 [(0, zr g0 8), (1, zr g1 8)] [] m Q := by
  refine X.aload_n 1 (zi171 0) rfl rfl rfl ?_
  refine X.getR 4 (zi171 1) rfl rfl (by decide) rfl rfl ?_
  refine X.aload_n 5 (zi171 4) rfl rfl rfl ?_
  refine X.getR 8 (zi171 5) rfl rfl (by decide) rfl rfl ?_
  refine X.callv 11 [zr g1 9] [] [(0, zr g0 9), (1, zr g1 9)] (zi171 8) rfl (by decide) rfl rfl (by omega) rfl rfl (by decide) rfl t172 (Nat.le_of_ble_eq_true rfl) (Nat.le_of_ble_eq_true rfl) rfl ?_
  refine X.aload_n 1 (zi172 0) rfl rfl rfl ?_
  refine X.getR 4 (zi172 1) rfl rfl (by decide) rfl rfl ?_
  refine X.iconst 5 (zi172 4) rfl rfl (by decide) ?_
  refine X.aload_n 6 (zi172 5) rfl rfl rfl ?_
  refine X.getR 9 (zi172 6) rfl rfl (by decide) rfl rfl ?_
  refine X.iconst 10 (zi172 9) rfl rfl (by decide) ?_
  refine X.bipush 12 (zi172 10) rfl rfl (by decide) ?_
  refine X.cpI' 15 (zi172 12) rfl rfl (by omega) (Nat.le_of_ble_eq_true rfl) (by decide) (by decide) rfl rfl (by omega) (fun m501 hm501 => ?_)
  have hJ502 := J.cpyS hJ hm501 rfl hf3 hgg0
  refine X.retv (zi172 15) rfl t172 ?_
  show X (EE s) d 171 11 [(0, zr g0 8), (1, zr g1 8)] [] m501 _
  refine X.aload_n 12 (zi171 11) rfl rfl rfl ?_
  refine X.getR 15 (zi171 12) rfl rfl (by decide) rfl rfl ?_
  refine X.aload_n 16 (zi171 15) rfl rfl rfl ?_
  refine X.getR 19 (zi171 16) rfl rfl (by decide) rfl rfl ?_
  refine X.callv 22 [zr g1 11] [] [(0, zr g0 11), (1, zr g1 11)] (zi171 19) rfl (by decide) rfl rfl (by omega) rfl rfl (by decide) rfl t111 (Nat.le_of_ble_eq_true rfl) (Nat.le_of_ble_eq_true rfl) rfl ?_
  refine c111_1 (B := B) g0 g1  (by omega) (hJ502.up (by omega)) (by omega)  hf1 hgg0 (fun m503 hFv505 hJ504 => ?_)
  show X (EE s) d 171 22 [(0, zr g0 8), (1, zr g1 8)] [] m503 _
  refine X.aload_n 23 (zi171 22) rfl rfl rfl ?_
  refine X.getR 26 (zi171 23) rfl rfl (by decide) rfl rfl ?_
  refine X.aload_n 27 (zi171 26) rfl rfl rfl ?_
  refine X.getR 30 (zi171 27) rfl rfl (by decide) rfl rfl ?_
  refine X.callv 33 [zr g1 19] [] [(0, zr g0 19), (1, zr g1 19)] (zi171 30) rfl (by decide) rfl rfl (by omega) rfl rfl (by decide) rfl t173 (Nat.le_of_ble_eq_true rfl) (Nat.le_of_ble_eq_true rfl) rfl ?_
  refine c173_1 (B := B) g0 g1  (by omega) (hJ504.up (by omega)) (by omega)  hf2 hgg0 (fun m506 hFv508 hJ507 => ?_)
  show X (EE s) d 171 33 [(0, zr g0 8), (1, zr g1 8)] [] m506 _
  refine X.aload_n 34 (zi171 33) rfl rfl rfl ?_
  refine X.getR 37 (zi171 34) rfl rfl (by decide) rfl rfl ?_
  refine X.aload_n 38 (zi171 37) rfl rfl rfl ?_
  refine X.getR 41 (zi171 38) rfl rfl (by decide) rfl rfl ?_
  refine X.callv 44 [zr g1 23] [] [(0, zr g0 23), (1, zr g1 23)] (zi171 41) rfl (by decide) rfl rfl (by omega) rfl rfl (by decide) rfl t174 (Nat.le_of_ble_eq_true rfl) (Nat.le_of_ble_eq_true rfl) rfl ?_
  refine X.aload_n 1 (zi174 0) rfl rfl rfl ?_
  refine X.getR 4 (zi174 1) rfl rfl (by decide) rfl rfl ?_
  refine X.iconst 5 (zi174 4) rfl rfl (by decide) ?_
  refine X.aload_n 6 (zi174 5) rfl rfl rfl ?_
  refine X.getR 9 (zi174 6) rfl rfl (by decide) rfl rfl ?_
  refine X.iconst 10 (zi174 9) rfl rfl (by decide) ?_
  refine X.bipush 12 (zi174 10) rfl rfl (by decide) ?_
  refine X.cpL' 15 (zi174 12) rfl rfl (by omega) (Nat.le_of_ble_eq_true rfl) (by decide) (by decide) rfl rfl (by omega) (fun m509 hm509 => ?_)
  have hJ510 := J.cpyS hJ507 hm509 rfl hf10 hgg0
  refine X.aload_n 16 (zi174 15) rfl rfl rfl ?_
  refine X.getR 19 (zi174 16) rfl rfl (by decide) rfl rfl ?_
  refine X.iconst 20 (zi174 19) rfl rfl (by decide) ?_
  refine X.aload_n 21 (zi174 20) rfl rfl rfl ?_
  refine X.getR 24 (zi174 21) rfl rfl (by decide) rfl rfl ?_
  refine X.iconst 25 (zi174 24) rfl rfl (by decide) ?_
  refine X.bipush 27 (zi174 25) rfl rfl (by decide) ?_
  refine X.cpL' 30 (zi174 27) rfl rfl (by omega) (Nat.le_of_ble_eq_true rfl) (by decide) (by decide) rfl rfl (by omega) (fun m511 hm511 => ?_)
  have hJ512 := J.cpyS hJ510 hm511 rfl hf5 hgg0
  refine X.aload_n 31 (zi174 30) rfl rfl rfl ?_
  refine X.getR 34 (zi174 31) rfl rfl (by decide) rfl rfl ?_
  refine X.iconst 35 (zi174 34) rfl rfl (by decide) ?_
  refine X.aload_n 36 (zi174 35) rfl rfl rfl ?_
  refine X.getR 39 (zi174 36) rfl rfl (by decide) rfl rfl ?_
  refine X.iconst 40 (zi174 39) rfl rfl (by decide) ?_
  refine X.aload_n 41 (zi174 40) rfl rfl rfl ?_
  refine X.getR 44 (zi174 41) rfl rfl (by decide) rfl rfl ?_
  refine X.alen 45 (zi174 44) rfl rfl (by decide) rfl ?_
  show X (EE s) (d - 1) 174 45 [(0, zr g0 23), (1, zr g1 23)] [zi 198, zi 0, zr g0 26, zi 0, zr g1 26] m511 _
  refine X.cpL' 48 (zi174 45) rfl rfl (by omega) (Nat.le_of_ble_eq_true rfl) (by decide) (by decide) rfl rfl (by omega) (fun m513 hm513 => ?_)
  have hJ514 := J.cpyS hJ512 hm513 rfl hf5 hgg0
  refine X.aload_n 49 (zi174 48) rfl rfl rfl ?_
  refine X.aload_n 50 (zi174 49) rfl rfl rfl ?_
  refine X.getI 53 3 (zi174 50) rfl rfl (by decide) rfl rfl rfl ?_
  have h515 := r23_3 hJ514 g1
  refine X.putI' 56 3 (zi174 53) rfl rfl (by decide) rfl rfl rfl (fun hrm516 m516 hm516 => ?_)
  have hJ517 := w23_3 (hJ514.up (B' := B + 1) (by omega)) hm516 (by omega) hf5 hgg0
  refine X.retv (zi174 56) rfl t174 ?_
  show X (EE s) d 171 44 [(0, zr g0 8), (1, zr g1 8)] [] m516 _
  refine X.aload_n 45 (zi171 44) rfl rfl rfl ?_
  refine X.getR 48 (zi171 45) rfl rfl (by decide) rfl rfl ?_
  refine X.aload_n 49 (zi171 48) rfl rfl rfl ?_
  refine X.getR 52 (zi171 49) rfl rfl (by decide) rfl rfl ?_
  refine X.callv 55 [zr g1 27] [] [(0, zr g0 27), (1, zr g1 27)] (zi171 52) rfl (by decide) rfl rfl (by omega) rfl rfl (by decide) rfl t175 (Nat.le_of_ble_eq_true rfl) (Nat.le_of_ble_eq_true rfl) rfl ?_
  refine c175_1 (B := B + 1) g0 g1  (by omega) (hJ517.up (by omega)) (by omega)  hf7 hgg0 (fun m518 hFv520 hJ519 => ?_)
  show X (EE s) d 171 55 [(0, zr g0 8), (1, zr g1 8)] [] m518 _
  refine X.aload_n 56 (zi171 55) rfl rfl rfl ?_
  refine X.getR 59 (zi171 56) rfl rfl (by decide) rfl rfl ?_
  refine X.aload_n 60 (zi171 59) rfl rfl rfl ?_
  refine X.getR 63 (zi171 60) rfl rfl (by decide) rfl rfl ?_
  refine X.callv 66 [zr g1 30] [] [(0, zr g0 30), (1, zr g1 30)] (zi171 63) rfl (by decide) rfl rfl (by omega) rfl rfl (by decide) rfl t176 (Nat.le_of_ble_eq_true rfl) (Nat.le_of_ble_eq_true rfl) rfl ?_
  refine X.aload_n 1 (zi176 0) rfl rfl rfl ?_
  refine X.getR 4 (zi176 1) rfl rfl (by decide) rfl rfl ?_
  refine X.iconst 5 (zi176 4) rfl rfl (by decide) ?_
  refine X.aload_n 6 (zi176 5) rfl rfl rfl ?_
  refine X.getR 9 (zi176 6) rfl rfl (by decide) rfl rfl ?_
  refine X.iconst 10 (zi176 9) rfl rfl (by decide) ?_
  refine X.iconst 11 (zi176 10) rfl rfl (by decide) ?_
  refine X.cpL' 14 (zi176 11) rfl rfl (by omega) (Nat.le_of_ble_eq_true rfl) (by decide) (by decide) rfl rfl (by omega) (fun m521 hm521 => ?_)
  have hJ522 := J.cpyS hJ519 hm521 rfl hf8 hgg0
  refine X.aload_n 15 (zi176 14) rfl rfl rfl ?_
  refine X.getR 18 (zi176 15) rfl rfl (by decide) rfl rfl ?_
  refine X.iconst 19 (zi176 18) rfl rfl (by decide) ?_
  refine X.aload_n 20 (zi176 19) rfl rfl rfl ?_
  refine X.getR 23 (zi176 20) rfl rfl (by decide) rfl rfl ?_
  refine X.iconst 24 (zi176 23) rfl rfl (by decide) ?_
  refine X.iconst 25 (zi176 24) rfl rfl (by decide) ?_
  refine X.cpI' 28 (zi176 25) rfl rfl (by omega) (Nat.le_of_ble_eq_true rfl) (by decide) (by decide) rfl rfl (by omega) (fun m523 hm523 => ?_)
  have hJ524 := J.cpyS hJ522 hm523 rfl hf8 hgg0
  refine X.aload_n 29 (zi176 28) rfl rfl rfl ?_
  refine X.aload_n 30 (zi176 29) rfl rfl rfl ?_
  refine X.getL 33 2 (zi176 30) rfl rfl (by decide) rfl rfl rfl ?_
  refine X.putL' 36 2 (zi176 33) rfl rfl (by decide) rfl rfl rfl (fun hrm525 m525 hm525 => ?_)
  have hJ526 := w30_0 hJ524 hm525 (by omega) hrm525 hf8 hgg0
  refine X.aload_n 37 (zi176 36) rfl rfl rfl ?_
  refine X.aload_n 38 (zi176 37) rfl rfl rfl ?_
  refine X.getIr 41 3 (zi176 38) rfl rfl (by decide) rfl rfl rfl (fun h527 => ?_)
  refine X.putI' 44 3 (zi176 41) rfl rfl (by decide) rfl rfl rfl (fun hrm528 m528 hm528 => ?_)
  have hJ529 := w30_0 hJ526 hm528 (by omega) hrm528 hf8 hgg0
  refine X.retv (zi176 44) rfl t176 ?_
  show X (EE s) d 171 66 [(0, zr g0 8), (1, zr g1 8)] [] m528 _
  refine X.aload_n 67 (zi171 66) rfl rfl rfl ?_
  refine X.getR 70 (zi171 67) rfl rfl (by decide) rfl rfl ?_
  refine X.aload_n 71 (zi171 70) rfl rfl rfl ?_
  refine X.getR 74 (zi171 71) rfl rfl (by decide) rfl rfl ?_
  refine X.callv 77 [zr g1 33] [] [(0, zr g0 33), (1, zr g1 33)] (zi171 74) rfl (by decide) rfl rfl (by omega) rfl rfl (by decide) rfl t177 (Nat.le_of_ble_eq_true rfl) (Nat.le_of_ble_eq_true rfl) rfl ?_
  refine X.aload_n 1 (zi177 0) rfl rfl rfl ?_
  refine X.getR 4 (zi177 1) rfl rfl (by decide) rfl rfl ?_
  refine X.iconst 5 (zi177 4) rfl rfl (by decide) ?_
  refine X.aload_n 6 (zi177 5) rfl rfl rfl ?_
  refine X.getR 9 (zi177 6) rfl rfl (by decide) rfl rfl ?_
  refine X.iconst 10 (zi177 9) rfl rfl (by decide) ?_
  refine X.iconst 11 (zi177 10) rfl rfl (by decide) ?_
  refine X.cpI' 14 (zi177 11) rfl rfl (by omega) (Nat.le_of_ble_eq_true rfl) (by decide) (by decide) rfl rfl (by omega) (fun m530 hm530 => ?_)
  have hJ531 := J.cpyS hJ529 hm530 rfl hf9 hgg0
  refine X.aload_n 15 (zi177 14) rfl rfl rfl ?_
  refine X.getR 18 (zi177 15) rfl rfl (by decide) rfl rfl ?_
  refine X.iconst 19 (zi177 18) rfl rfl (by decide) ?_
  refine X.aload_n 20 (zi177 19) rfl rfl rfl ?_
  refine X.getR 23 (zi177 20) rfl rfl (by decide) rfl rfl ?_
  refine X.iconst 24 (zi177 23) rfl rfl (by decide) ?_
  refine X.iconst 25 (zi177 24) rfl rfl (by decide) ?_
  refine X.cpI' 28 (zi177 25) rfl rfl (by omega) (Nat.le_of_ble_eq_true rfl) (by decide) (by decide) rfl rfl (by omega) (fun m532 hm532 => ?_)
  have hJ533 := J.cpyS hJ531 hm532 rfl hf9 hgg0
  refine X.aload_n 29 (zi177 28) rfl rfl rfl ?_
  refine X.getR 32 (zi177 29) rfl rfl (by decide) rfl rfl ?_
  refine X.iconst 33 (zi177 32) rfl rfl (by decide) ?_
  refine X.aload_n 34 (zi177 33) rfl rfl rfl ?_
  refine X.getR 37 (zi177 34) rfl rfl (by decide) rfl rfl ?_
  refine X.iconst 38 (zi177 37) rfl rfl (by decide) ?_
  refine X.iconst 39 (zi177 38) rfl rfl (by decide) ?_
  refine X.cpI' 42 (zi177 39) rfl rfl (by omega) (Nat.le_of_ble_eq_true rfl) (by decide) (by decide) rfl rfl (by omega) (fun m534 hm534 => ?_)
  have hJ535 := J.cpyS hJ533 hm534 rfl hf9 hgg0
  refine X.aload_n 43 (zi177 42) rfl rfl rfl ?_
  refine X.aload_n 44 (zi177 43) rfl rfl rfl ?_
  refine X.getIr 47 3 (zi177 44) rfl rfl (by decide) rfl rfl rfl (fun h536 => ?_)
  refine X.putI' 50 3 (zi177 47) rfl rfl (by decide) rfl rfl rfl (fun hrm537 m537 hm537 => ?_)
  have hJ538 := w33_0 hJ535 hm537 (by omega) hrm537 hf9 hgg0
  refine X.retv (zi177 50) rfl t177 ?_
  show X (EE s) d 171 77 [(0, zr g0 8), (1, zr g1 8)] [] m537 _
  refine X.aload_n 78 (zi171 77) rfl rfl rfl ?_
  refine X.getR 81 (zi171 78) rfl rfl (by decide) rfl rfl ?_
  refine X.aload_n 82 (zi171 81) rfl rfl rfl ?_
  refine X.getR 85 (zi171 82) rfl rfl (by decide) rfl rfl ?_
  refine X.callv 88 [zr g1 37] [] [(0, zr g0 37), (1, zr g1 37)] (zi171 85) rfl (by decide) rfl rfl (by omega) rfl rfl (by decide) rfl t178 (Nat.le_of_ble_eq_true rfl) (Nat.le_of_ble_eq_true rfl) rfl ?_
  refine X.aload_n 1 (zi178 0) rfl rfl rfl ?_
  refine X.getR 4 (zi178 1) rfl rfl (by decide) rfl rfl ?_
  refine X.iconst 5 (zi178 4) rfl rfl (by decide) ?_
  refine X.aload_n 6 (zi178 5) rfl rfl rfl ?_
  refine X.getR 9 (zi178 6) rfl rfl (by decide) rfl rfl ?_
  refine X.iconst 10 (zi178 9) rfl rfl (by decide) ?_
  refine X.aload_n 11 (zi178 10) rfl rfl rfl ?_
  refine X.getR 14 (zi178 11) rfl rfl (by decide) rfl rfl ?_
  refine X.alen 15 (zi178 14) rfl rfl (by decide) rfl ?_
  show X (EE s) (d - 1) 178 15 [(0, zr g0 37), (1, zr g1 37)] [zi 120, zi 0, zr g0 38, zi 0, zr g1 38] m537 _
  refine X.cpI' 18 (zi178 15) rfl rfl (by omega) (Nat.le_of_ble_eq_true rfl) (by decide) (by decide) rfl rfl (by omega) (fun m539 hm539 => ?_)
  have hJ540 := J.cpyS hJ538 hm539 rfl hf6 hgg0
  refine X.aload_n 19 (zi178 18) rfl rfl rfl ?_
  refine X.aload_n 20 (zi178 19) rfl rfl rfl ?_
  refine X.getI 23 1 (zi178 20) rfl rfl (by decide) rfl rfl rfl ?_
  have h541 := r37_1 hJ540 g1
  refine X.putI' 26 1 (zi178 23) rfl rfl (by decide) rfl rfl rfl (fun hrm542 m542 hm542 => ?_)
  have hJ543 := w37_1 (hJ540.up (B' := B + 3) (by omega)) hm542 (by omega) hf6 hgg0
  refine X.retv (zi178 26) rfl t178 ?_
  show X (EE s) d 171 88 [(0, zr g0 8), (1, zr g1 8)] [] m542 _
  refine X.aload_n 89 (zi171 88) rfl rfl rfl ?_
  refine X.getR 92 (zi171 89) rfl rfl (by decide) rfl rfl ?_
  refine X.aload_n 93 (zi171 92) rfl rfl rfl ?_
  refine X.getR 96 (zi171 93) rfl rfl (by decide) rfl rfl ?_
  refine X.callv 99 [zr g1 39] [] [(0, zr g0 39), (1, zr g1 39)] (zi171 96) rfl (by decide) rfl rfl (by omega) rfl rfl (by decide) rfl t179 (Nat.le_of_ble_eq_true rfl) (Nat.le_of_ble_eq_true rfl) rfl ?_
  refine X.aload_n 1 (zi179 0) rfl rfl rfl ?_
  refine X.aload_n 2 (zi179 1) rfl rfl rfl ?_
  refine X.getZ 5 0 (zi179 2) rfl rfl (by decide) rfl rfl rfl (fun h544 => ?_)
  refine X.putZ' 8 0 (zi179 5) rfl rfl (by decide) rfl rfl rfl (by omega) (fun hrm545 m545 hm545 => ?_)
  have hJ546 := w39_0 hJ543 hm545 (by omega) hf4 hgg0
  refine X.aload_n 9 (zi179 8) rfl rfl rfl ?_
  refine X.aload_n 10 (zi179 9) rfl rfl rfl ?_
  refine X.getIr 13 1 (zi179 10) rfl rfl (by decide) rfl rfl rfl (fun h547 => ?_)
  refine X.putI' 16 1 (zi179 13) rfl rfl (by decide) rfl rfl rfl (fun hrm548 m548 hm548 => ?_)
  have hJ549 := w39_1 hJ546 hm548 hrm548 hf4 hgg0
  refine X.aload_n 17 (zi179 16) rfl rfl rfl ?_
  refine X.aload_n 18 (zi179 17) rfl rfl rfl ?_
  refine X.getI 21 2 (zi179 18) rfl rfl (by decide) rfl rfl rfl ?_
  have h550 := r39_2 hJ549 g1
  refine X.putI' 24 2 (zi179 21) rfl rfl (by decide) rfl rfl rfl (fun hrm551 m551 hm551 => ?_)
  have hJ552 := w39_2 (hJ549.up (B' := B + 4) (by omega)) hm551 (by omega) hf4 hgg0
  refine X.aload_n 25 (zi179 24) rfl rfl rfl ?_
  refine X.aload_n 26 (zi179 25) rfl rfl rfl ?_
  refine X.getIr 29 3 (zi179 26) rfl rfl (by decide) rfl rfl rfl (fun h553 => ?_)
  refine X.putI' 32 3 (zi179 29) rfl rfl (by decide) rfl rfl rfl (fun hrm554 m554 hm554 => ?_)
  have hJ555 := w39_3 hJ552 hm554 hrm554 hf4 hgg0
  refine X.aload_n 33 (zi179 32) rfl rfl rfl ?_
  refine X.aload_n 34 (zi179 33) rfl rfl rfl ?_
  refine X.getI 37 4 (zi179 34) rfl rfl (by decide) rfl rfl rfl ?_
  have h556 := r39_4 hJ555 g1
  refine X.putI' 40 4 (zi179 37) rfl rfl (by decide) rfl rfl rfl (fun hrm557 m557 hm557 => ?_)
  have hJ558 := w39_4 hJ555 hm557 (by omega) hf4 hgg0
  refine X.retv (zi179 40) rfl t179 ?_
  show X (EE s) d 171 99 [(0, zr g0 8), (1, zr g1 8)] [] m557 _
  refine X.aload_n 100 (zi171 99) rfl rfl rfl ?_
  refine X.aload_n 101 (zi171 100) rfl rfl rfl ?_
  refine X.getI 104 9 (zi171 101) rfl rfl (by decide) rfl rfl rfl ?_
  have h559 := r8_9 hJ558 g1
  refine X.putI' 107 9 (zi171 104) rfl rfl (by decide) rfl rfl rfl (fun hrm560 m560 hm560 => ?_)
  have hJ561 := w8_9 hJ558 hm560 (by omega) hf11 hgg0
  have em560 : m560 g0 8 9 = (m557 g1 8 9) := by rw [hm560]; exact z_upd_same _ _ _ _ _
  refine X.aload_n 108 (zi171 107) rfl rfl rfl ?_
  refine X.aload_n 109 (zi171 108) rfl rfl rfl ?_
  refine X.getL 112 10 (zi171 109) rfl rfl (by decide) rfl rfl rfl ?_
  refine X.putL' 115 10 (zi171 112) rfl rfl (by decide) rfl rfl rfl (fun hrm562 m562 hm562 => ?_)
  have hJ563 := w8_10 hJ561 hm562 hrm562 hf12 hgg0
  refine X.aload_n 116 (zi171 115) rfl rfl rfl ?_
  refine X.aload_n 117 (zi171 116) rfl rfl rfl ?_
  refine X.getZ 120 11 (zi171 117) rfl rfl (by decide) rfl rfl rfl (fun h564 => ?_)
  refine X.putZ' 123 11 (zi171 120) rfl rfl (by decide) rfl rfl rfl (by omega) (fun hrm565 m565 hm565 => ?_)
  have hJ566 := w8_11 hJ563 hm565 (by omega) hf12 hgg0
  refine X.aload_n 124 (zi171 123) rfl rfl rfl ?_
  refine X.aload_n 125 (zi171 124) rfl rfl rfl ?_
  refine X.getZ 128 12 (zi171 125) rfl rfl (by decide) rfl rfl rfl (fun h567 => ?_)
  refine X.putZ' 131 12 (zi171 128) rfl rfl (by decide) rfl rfl rfl (by omega) (fun hrm568 m568 hm568 => ?_)
  have hJ569 := w8_12 hJ566 hm568 (by omega) hf12 hgg0
  refine X.aload_n 132 (zi171 131) rfl rfl rfl ?_
  refine X.aload_n 133 (zi171 132) rfl rfl rfl ?_
  refine X.getIr 136 13 (zi171 133) rfl rfl (by decide) rfl rfl rfl (fun h570 => ?_)
  refine X.putI' 139 13 (zi171 136) rfl rfl (by decide) rfl rfl rfl (fun hrm571 m571 hm571 => ?_)
  have hJ572 := w8_13 hJ569 hm571 (by omega) hrm571 hf13 hgg0
  refine X.aload_n 140 (zi171 139) rfl rfl rfl ?_
  refine X.aload_n 141 (zi171 140) rfl rfl rfl ?_
  refine X.getIr 144 14 (zi171 141) rfl rfl (by decide) rfl rfl rfl (fun h573 => ?_)
  refine X.putI' 147 14 (zi171 144) rfl rfl (by decide) rfl rfl rfl (fun hrm574 m574 hm574 => ?_)
  have hJ575 := w8_13 hJ572 hm574 (by omega) hrm574 hf13 hgg0
  refine X.aload_n 148 (zi171 147) rfl rfl rfl ?_
  refine X.aload_n 149 (zi171 148) rfl rfl rfl ?_
  refine X.getIr 152 15 (zi171 149) rfl rfl (by decide) rfl rfl rfl (fun h576 => ?_)
  refine X.putI' 155 15 (zi171 152) rfl rfl (by decide) rfl rfl rfl (fun hrm577 m577 hm577 => ?_)
  have hJ578 := w8_13 hJ575 hm577 (by omega) hrm577 hf13 hgg0
  refine X.retv (zi171 155) rfl t171 ?_
  exact hQ  m577  (Eq.trans (zs_eq hm501) (Eq.trans (zs_eq hFv505.symm) (Eq.trans (zs_eq hFv508.symm) (Eq.trans (zs_eq hm509) (Eq.trans (zs_eq hm511) (Eq.trans (zs_eq hm513) (Eq.trans (zs_eq hm516) (Eq.trans (zs_eq hFv520.symm) (Eq.trans (zs_eq hm521) (Eq.trans (zs_eq hm523) (Eq.trans (zs_eq hm525) (Eq.trans (zs_eq hm528) (Eq.trans (zs_eq hm530) (Eq.trans (zs_eq hm532) (Eq.trans (zs_eq hm534) (Eq.trans (zs_eq hm537) (Eq.trans (zs_eq hm539) (Eq.trans (zs_eq hm542) (Eq.trans (zs_eq hm545) (Eq.trans (zs_eq hm548) (Eq.trans (zs_eq hm551) (Eq.trans (zs_eq hm554) (Eq.trans (zs_eq hm557) (Eq.trans (zs_eq hm560) (Eq.trans (zs_eq hm562) (Eq.trans (zs_eq hm565) (Eq.trans (zs_eq hm568) (Eq.trans (zs_eq hm571) (Eq.trans (zs_eq hm574) (Eq.trans (zs_eq hm577) rfl)))))))))))))))))))))))))))))) (hJ578.up (by omega)) 
-- WorkMeter$Meter.totalReading
theorem c70_2 {s : Nat × (Nat → Int32)} {S : zS} {m0 m : zM} {B : Int} {d : Nat} {Q : Option zV → zM → Prop} (g0 : Nat) (a1 : Int) (hd : 15 ≤ d) (hJ : J S m0 B m) (hB : B + 0 ≤ 1000000000) (ha1 : 1 ≤ a1 ∧ a1 ≤ 1) (hQ : ∀ (v : Int), (True) → f70_1 g0 a1 m = v → Q (some (zl v)) m) : X (EE s) d 70 0 [(0, zr g0 8), (1, zi a1)] [] m Q := by
  refine X.aload_n 1 (zi70 0) rfl rfl rfl ?_
  refine X.getR 4 (zi70 1) rfl rfl (by decide) rfl rfl ?_
  refine X.iload_n 5 (zi70 4) rfl rfl rfl ?_
  refine X.iconst 6 (zi70 5) rfl rfl (by decide) ?_
  refine X.callv 9 [zi a1, zi (-1)] [] [(0, zr g0 23), (1, zi a1), (2, zi (-1))] (zi70 6) rfl (by decide) rfl rfl (by omega) rfl rfl (by decide) rfl t71 (Nat.le_of_ble_eq_true rfl) (Nat.le_of_ble_eq_true rfl) rfl ?_
  refine c71_2 (B := B) g0 a1 (-1) (by omega) (hJ.up (by omega)) (by omega) (by omega) (by omega) (fun v503 hv503 hFv503 => ?_)
  show X (EE s) d 70 9 [(0, zr g0 8), (1, zi a1)] [zl v503] m _
  refine X.aload_n 10 (zi70 9) rfl rfl rfl ?_
  refine X.getR 13 (zi70 10) rfl rfl (by decide) rfl rfl ?_
  refine X.callv 16 [] [zl v503] [(0, zr g0 9)] (zi70 13) rfl (by decide) rfl rfl (by omega) rfl rfl (by decide) rfl t48 (Nat.le_of_ble_eq_true rfl) (Nat.le_of_ble_eq_true rfl) rfl ?_
  refine X.iconst 1 (zi48 0) rfl rfl (by decide) ?_
  refine X.aload_n 2 (zi48 1) rfl rfl rfl ?_
  refine X.getR 5 (zi48 2) rfl rfl (by decide) rfl rfl ?_
  refine X.iconst 6 (zi48 5) rfl rfl (by decide) ?_
  refine X.iald 7 (zi48 6) rfl rfl (by decide) rfl (by omega) ?_
  have h504 := r10_0 hJ g0 (i := 1) (by omega)
  refine X.maxI 10 (zi48 7) rfl rfl (by omega) (Nat.le_of_ble_eq_true rfl) ?_
  refine X.reti (zi48 10) rfl t48 ?_
  show X (EE s) d 70 16 [(0, zr g0 8), (1, zi a1)] [zi (max 1 (m g0 10 1)), zl v503] m _
  refine X.i2l 17 (zi70 16) rfl rfl ?_
  refine X.ldivW 18 (zi70 17) rfl rfl (by omega) (fun z505 ez505 hz505 => ?_)
  refine X.retl (zi70 18) rfl t70 ?_
  exact hQ z505 (by first | trivial | omega) (Eq.trans (zn_eq hFv503.symm) (Eq.trans (zn_eq ez505) rfl)) 
noncomputable def fl180_6_1_b (self : Int → Int → Int) (k28 : Int → Int) (g0 : Nat) (m : zM) (y1 y3 : Int) : Int :=
  if 4 ≤ y3 then
  (k28 y1)
  else
  (self (max y1 (m g0 31 y3)) (y3 + 1))
noncomputable def fl180_6_1 (k28 : Int → Int) (g0 : Nat) (m : zM) : Nat → Int → Int → Int
  | 0 => fun y1 y3 => 0
  | n + 1 => fl180_6_1_b (fl180_6_1 k28 g0 m n) k28 g0 m
theorem l180_6_1 {s : Nat × (Nat → Int32)} {S : zS} {m0 : zM} {m : zM} {B : Int} {d : Nat} {Q : Option zV → zM → Prop} {R0 : Int} {k28 : Int → Int} (g0 : Nat) (hd : 13 ≤ d) (hJ : J S m0 B m) (hB9 : B ≤ 1000000000)
    (K28 : ∀ (x1 : Int) , ((-1) ≤ x1) → R0 = k28 x1 → X (EE s) d 180 28 [(1, zl x1)] [] m Q) :
    ∀ (n : Nat) (y1 y3 : Int) , ((-1) ≤ y1) → (0 ≤ y3 ∧ y3 ≤ 4) → 4 - y3 < (n : Int) → R0 = fl180_6_1 k28 g0 m n y1 y3 → X (EE s) d 180 6 [(0, zr g0 30), (1, zl y1), (3, zi y3)] [] m Q := by
  intro n
  induction n with
  | zero =>
    intro y1 y3 hy1 hy3 hn hR
    exfalso
    omega
  | succ n ih =>
    intro y1 y3 hy1 hy3 hn hR
    replace hR : R0 = fl180_6_1_b (fl180_6_1 k28 g0 m n) k28 g0 m y1 y3 := hR
    refine X.iload_n 7 (zi180 6) rfl rfl rfl ?_
    refine X.iconst 8 (zi180 7) rfl rfl (by decide) ?_
    refine X.icmpge 28 11 (zi180 8) rfl rfl rfl (fun h503 => ?_) (fun h503 => ?_)
    · refine X.cut [(1, zl y1)] (zi180 28) rfl ?_
      exact K28 y1 (by first | trivial | omega) (Eq.trans hR (Eq.trans (if_pos h503) rfl))
    · refine X.lload_n 12 (zi180 11) rfl rfl rfl ?_
      refine X.aload_n 13 (zi180 12) rfl rfl rfl ?_
      refine X.getR 16 (zi180 13) rfl rfl (by decide) rfl rfl ?_
      refine X.iload_n 17 (zi180 16) rfl rfl rfl ?_
      refine X.lald 18 (zi180 17) rfl rfl (by decide) rfl (by omega) ?_
      refine X.maxL 21 (zi180 18) rfl rfl (by omega) (Nat.le_of_ble_eq_true rfl) ?_
      refine X.lstore_n 22 [(0, zr g0 30), (1, zl (max y1 (m g0 31 y3))), (3, zi y3)] (zi180 21) rfl rfl rfl ?_
      refine X.iinc 25 [(0, zr g0 30), (1, zl (max y1 (m g0 31 y3))), (3, zi (y3 + 1))] (zi180 22) rfl rfl rfl (by omega) rfl ?_
      refine X.goto 6 (zi180 25) rfl rfl ?_
      exact ih (max y1 (m g0 31 y3)) (y3 + 1) (by omega) (by omega) (by omega) (Eq.trans hR (Eq.trans (if_neg h503) rfl))
-- WorkMeter$Demand.mostOfAll
noncomputable def f180_1 (g0 : Nat) (m : zM) : Int :=
  fl180_6_1 (fun y501 =>
  y501) g0 m (zfu 5) (-1) 0
-- WorkMeter$Demand.mostOfAll
theorem c180_1 {s : Nat × (Nat → Int32)} {S : zS} {m0 m : zM} {B : Int} {d : Nat} {Q : Option zV → zM → Prop} (g0 : Nat) (hd : 13 ≤ d) (hJ : J S m0 B m) (hB : B + 0 ≤ 1000000000) (hQ : ∀ (v : Int), ((-1) ≤ v) → f180_1 g0 m = v → Q (some (zl v)) m) : X (EE s) d 180 0 [(0, zr g0 30)] [] m Q := by
  refine X.ldc2 3 (zi180 0) rfl rfl (by decide) ?_
  refine X.lstore_n 4 [(0, zr g0 30), (1, zl (-1))] (zi180 3) rfl rfl rfl ?_
  refine X.iconst 5 (zi180 4) rfl rfl (by decide) ?_
  refine X.istore_n 6 [(0, zr g0 30), (1, zl (-1)), (3, zi 0)] (zi180 5) rfl rfl rfl ?_
  have hz5 := zfu_eq 5
  refine l180_6_1 (s := s) (m := m) (B := B) (d := d) (R0 := (f180_1 g0 m)) g0   (by omega) (hJ.up (by omega)) (by omega) (fun y501 hby501 hR505 => ?_) (zfu 5) (-1) 0 (by omega) (by omega) (by omega) rfl
  refine X.lload_n 29 (zi180 28) rfl rfl rfl ?_
  refine X.retl (zi180 29) rfl t180 ?_
  exact hQ y501 (by first | trivial | omega) (Eq.trans hR505 rfl) 
-- WorkMeter.would
noncomputable def f170_1 (a1 a2 : Int) (m : zM) : Int × zM :=
  if a1 < 1 then
  (((-10000000000), m))
  else
  (if 900 < a1 then
  (((-10000000000), m))
  else
  (if a2 < 0 then
  (((-10000000000), m))
  else
  (if a2 ≤ 6 then
  (zs (f171_1 2 0 m) fun m505 =>
  zs (f25_1 2 a1 m505) fun m508 =>
  if a2 = 0 then
  (zn (f70_1 2 0 m508) fun v514 =>
  (v514, m508))
  else
  (if a2 = 1 then
  (zn (f70_1 2 1 m508) fun v518 =>
  (v518, m508))
  else
  (if a2 = 2 then
  (((m508 2 8 10), m508))
  else
  (if a2 = 3 then
  (zn (f180_1 2 m508) fun v523 =>
  (v523, m508))
  else
  (if a2 = 4 then
  (((m508 2 33 3), m508))
  else
  (if a2 = 5 then
  (zn (if (m508 2 8 12) = 0 then
  (0)
  else
  (1)) fun v529 =>
  (v529, m508))
  else
  (((m508 2 8 9), m508))))))))
  else
  (((-10000000000), m)))))
-- WorkMeter.would
theorem c170_1 {s : Nat × (Nat → Int32)} {S : zS} {m0 m : zM} {B : Int} {d : Nat} {Q : Option zV → zM → Prop} (a1 a2 : Int) (hd : 19 ≤ d) (hJ : J S m0 B m) (hB : B + 7212 ≤ 1000000000) (ha1 : (-2147483648) ≤ a1 ∧ a1 ≤ 2147483647) (ha2 : (-2147483648) ≤ a2 ∧ a2 ≤ 2147483647) (hf1 : ¬ S.1 1) (hf2 : ¬ S.1 2) (hf3 : ¬ S.1 3) (hf4 : ¬ S.1 4) (hf5 : ¬ S.1 5) (hf6 : ¬ S.1 6) (hf7 : ¬ S.1 7) (hf8 : ¬ S.1 8) (hf9 : ¬ S.1 9) (hf10 : ¬ S.1 10) (hf11 : ¬ S.1 11) (hf12 : ¬ S.1 12) (hf13 : ¬ S.1 13) (hg2 : ¬ S.2.1 2) (hQ : ∀ (v : Int) m', (True) → f170_1 a1 a2 m = (v, m') → J S m0 (B + 7212) m' → Q (some (zl v)) m') : X (EE s) d 170 0 [(0, zr 4 40), (1, zi a1), (2, zi a2)] [] m Q := by
  refine X.iload_n 1 (zi170 0) rfl rfl rfl ?_
  refine X.iconst 2 (zi170 1) rfl rfl (by decide) ?_
  refine X.icmplt 22 5 (zi170 2) rfl rfl rfl (fun h501 => ?_) (fun h501 => ?_)
  · refine X.cut [] (zi170 22) rfl ?_
    refine X.ldc2 25 (zi170 22) rfl rfl (by decide) ?_
    refine X.retl (zi170 25) rfl t170 ?_
    exact hQ (-10000000000) m (by first | trivial | omega) (Eq.trans (if_pos h501) rfl) (hJ.up (by omega)) 
  · refine X.iload_n 6 (zi170 5) rfl rfl rfl ?_
    refine X.sipush 9 (zi170 6) rfl rfl (by decide) ?_
    refine X.icmpgt 22 12 (zi170 9) rfl rfl rfl (fun h502 => ?_) (fun h502 => ?_)
    · refine X.cut [] (zi170 22) rfl ?_
      refine X.ldc2 25 (zi170 22) rfl rfl (by decide) ?_
      refine X.retl (zi170 25) rfl t170 ?_
      exact hQ (-10000000000) m (by first | trivial | omega) (Eq.trans (if_neg h501) (Eq.trans (if_pos h502) rfl)) (hJ.up (by omega)) 
    · refine X.iload_n 13 (zi170 12) rfl rfl rfl ?_
      refine X.iflt 22 16 (zi170 13) rfl rfl rfl (fun h503 => ?_) (fun h503 => ?_)
      · refine X.cut [] (zi170 22) rfl ?_
        refine X.ldc2 25 (zi170 22) rfl rfl (by decide) ?_
        refine X.retl (zi170 25) rfl t170 ?_
        exact hQ (-10000000000) m (by first | trivial | omega) (Eq.trans (if_neg h501) (Eq.trans (if_neg h502) (Eq.trans (if_pos h503) rfl))) (hJ.up (by omega)) 
      · refine X.iload_n 17 (zi170 16) rfl rfl rfl ?_
        refine X.bipush 19 (zi170 17) rfl rfl (by decide) ?_
        refine X.icmple 26 22 (zi170 19) rfl rfl rfl (fun h504 => ?_) (fun h504 => ?_)
        · refine X.aload_n 27 (zi170 26) rfl rfl rfl ?_
          refine X.getF 30 (zi170 27) rfl rfl (by decide) rfl rfl ?_
          refine X.aload_n 31 (zi170 30) rfl rfl rfl ?_
          refine X.getF 34 (zi170 31) rfl rfl (by decide) rfl rfl ?_
          refine X.callv 37 [zr 0 8] [] [(0, zr 2 8), (1, zr 0 8)] (zi170 34) rfl (by decide) rfl rfl (by omega) rfl rfl (by decide) rfl t171 (Nat.le_of_ble_eq_true rfl) (Nat.le_of_ble_eq_true rfl) rfl ?_
          refine c171_1 (B := B) 2 0  (by omega) (hJ.up (by omega)) (by omega)  hf1 hf2 hf3 hf4 hf5 hf6 hf7 hf8 hf9 hf10 hf11 hf12 hf13 hg2 (fun m505 hFv507 hJ506 => ?_)
          show X (EE s) d 170 37 [(0, zr 4 40), (1, zi a1), (2, zi a2)] [] m505 _
          refine X.aload_n 38 (zi170 37) rfl rfl rfl ?_
          refine X.getF 41 (zi170 38) rfl rfl (by decide) rfl rfl ?_
          refine X.iload_n 42 (zi170 41) rfl rfl rfl ?_
          refine X.callv 45 [zi a1] [] [(0, zr 2 8), (1, zi a1)] (zi170 42) rfl (by decide) rfl rfl (by omega) rfl rfl (by decide) rfl t25 (Nat.le_of_ble_eq_true rfl) (Nat.le_of_ble_eq_true rfl) rfl ?_
          refine c25_1 (B := B + 4) 2 a1 (by omega) (hJ506.up (by omega)) (by omega) (by omega) hf6 hf7 hf8 hf9 hf10 hf11 hf12 hf13 hg2 (fun m508 hFv510 hJ509 => ?_)
          show X (EE s) d 170 45 [(0, zr 4 40), (1, zi a1), (2, zi a2)] [] m508 _
          refine X.iload_n 46 (zi170 45) rfl rfl rfl ?_
          by_cases h511 : a2 = 0
          · refine X.tsIn 84 0 (zi170 46) rfl (by omega) rfl rfl ?_
            refine X.cut [(0, zr 4 40)] (zi170 84) rfl ?_
            refine X.aload_n 85 (zi170 84) rfl rfl rfl ?_
            refine X.getF 88 (zi170 85) rfl rfl (by decide) rfl rfl ?_
            refine X.iconst 89 (zi170 88) rfl rfl (by decide) ?_
            refine X.callv 92 [zi 0] [] [(0, zr 2 8), (1, zi 0)] (zi170 89) rfl (by decide) rfl rfl (by omega) rfl rfl (by decide) rfl t70 (Nat.le_of_ble_eq_true rfl) (Nat.le_of_ble_eq_true rfl) rfl ?_
            refine c70_1 (B := B + 7212) 2 0 (by omega) (hJ509.up (by omega)) (by omega) (by omega) (fun v514 hv514 hFv514 => ?_)
            show X (EE s) d 170 92 [(0, zr 4 40)] [zl v514] m508 _
            refine X.retl (zi170 92) rfl t170 ?_
            exact hQ v514 m508 (by first | trivial | omega) (Eq.trans (if_neg h501) (Eq.trans (if_neg h502) (Eq.trans (if_neg h503) (Eq.trans (if_pos h504) (Eq.trans (zs_eq hFv507.symm) (Eq.trans (zs_eq hFv510.symm) (Eq.trans (if_pos h511) (Eq.trans (zn_eq hFv514.symm) rfl)))))))) (hJ509.up (by omega)) 
          by_cases h515 : a2 = 1
          · refine X.tsIn 93 1 (zi170 46) rfl (by omega) rfl rfl ?_
            refine X.cut [(0, zr 4 40)] (zi170 93) rfl ?_
            refine X.aload_n 94 (zi170 93) rfl rfl rfl ?_
            refine X.getF 97 (zi170 94) rfl rfl (by decide) rfl rfl ?_
            refine X.iconst 98 (zi170 97) rfl rfl (by decide) ?_
            refine X.callv 101 [zi 1] [] [(0, zr 2 8), (1, zi 1)] (zi170 98) rfl (by decide) rfl rfl (by omega) rfl rfl (by decide) rfl t70 (Nat.le_of_ble_eq_true rfl) (Nat.le_of_ble_eq_true rfl) rfl ?_
            refine c70_2 (B := B + 7212) 2 1 (by omega) (hJ509.up (by omega)) (by omega) (by omega) (fun v518 hv518 hFv518 => ?_)
            show X (EE s) d 170 101 [(0, zr 4 40)] [zl v518] m508 _
            refine X.retl (zi170 101) rfl t170 ?_
            exact hQ v518 m508 (by first | trivial | omega) (Eq.trans (if_neg h501) (Eq.trans (if_neg h502) (Eq.trans (if_neg h503) (Eq.trans (if_pos h504) (Eq.trans (zs_eq hFv507.symm) (Eq.trans (zs_eq hFv510.symm) (Eq.trans (if_neg h511) (Eq.trans (if_pos h515) (Eq.trans (zn_eq hFv518.symm) rfl))))))))) (hJ509.up (by omega)) 
          by_cases h519 : a2 = 2
          · refine X.tsIn 102 2 (zi170 46) rfl (by omega) rfl rfl ?_
            refine X.cut [(0, zr 4 40)] (zi170 102) rfl ?_
            refine X.aload_n 103 (zi170 102) rfl rfl rfl ?_
            refine X.getF 106 (zi170 103) rfl rfl (by decide) rfl rfl ?_
            refine X.getL 109 10 (zi170 106) rfl rfl (by decide) rfl rfl rfl ?_
            refine X.retl (zi170 109) rfl t170 ?_
            exact hQ (m508 2 8 10) m508 (by first | trivial | omega) (Eq.trans (if_neg h501) (Eq.trans (if_neg h502) (Eq.trans (if_neg h503) (Eq.trans (if_pos h504) (Eq.trans (zs_eq hFv507.symm) (Eq.trans (zs_eq hFv510.symm) (Eq.trans (if_neg h511) (Eq.trans (if_neg h515) (Eq.trans (if_pos h519) rfl))))))))) (hJ509.up (by omega)) 
          by_cases h520 : a2 = 3
          · refine X.tsIn 110 3 (zi170 46) rfl (by omega) rfl rfl ?_
            refine X.cut [(0, zr 4 40)] (zi170 110) rfl ?_
            refine X.aload_n 111 (zi170 110) rfl rfl rfl ?_
            refine X.getF 114 (zi170 111) rfl rfl (by decide) rfl rfl ?_
            refine X.getR 117 (zi170 114) rfl rfl (by decide) rfl rfl ?_
            refine X.callv 120 [] [] [(0, zr 2 30)] (zi170 117) rfl (by decide) rfl rfl (by omega) rfl rfl (by decide) rfl t180 (Nat.le_of_ble_eq_true rfl) (Nat.le_of_ble_eq_true rfl) rfl ?_
            refine c180_1 (B := B + 7212) 2  (by omega) (hJ509.up (by omega)) (by omega)  (fun v523 hv523 hFv523 => ?_)
            show X (EE s) d 170 120 [(0, zr 4 40)] [zl v523] m508 _
            refine X.retl (zi170 120) rfl t170 ?_
            exact hQ v523 m508 (by first | trivial | omega) (Eq.trans (if_neg h501) (Eq.trans (if_neg h502) (Eq.trans (if_neg h503) (Eq.trans (if_pos h504) (Eq.trans (zs_eq hFv507.symm) (Eq.trans (zs_eq hFv510.symm) (Eq.trans (if_neg h511) (Eq.trans (if_neg h515) (Eq.trans (if_neg h519) (Eq.trans (if_pos h520) (Eq.trans (zn_eq hFv523.symm) rfl))))))))))) (hJ509.up (by omega)) 
          by_cases h524 : a2 = 4
          · refine X.tsIn 121 4 (zi170 46) rfl (by omega) rfl rfl ?_
            refine X.cut [(0, zr 4 40)] (zi170 121) rfl ?_
            refine X.aload_n 122 (zi170 121) rfl rfl rfl ?_
            refine X.getF 125 (zi170 122) rfl rfl (by decide) rfl rfl ?_
            refine X.getR 128 (zi170 125) rfl rfl (by decide) rfl rfl ?_
            refine X.getIr 131 3 (zi170 128) rfl rfl (by decide) rfl rfl rfl (fun h525 => ?_)
            refine X.i2l 132 (zi170 131) rfl rfl ?_
            refine X.retl (zi170 132) rfl t170 ?_
            exact hQ (m508 2 33 3) m508 (by first | trivial | omega) (Eq.trans (if_neg h501) (Eq.trans (if_neg h502) (Eq.trans (if_neg h503) (Eq.trans (if_pos h504) (Eq.trans (zs_eq hFv507.symm) (Eq.trans (zs_eq hFv510.symm) (Eq.trans (if_neg h511) (Eq.trans (if_neg h515) (Eq.trans (if_neg h519) (Eq.trans (if_neg h520) (Eq.trans (if_pos h524) rfl))))))))))) (hJ509.up (by omega)) 
          by_cases h526 : a2 = 5
          · refine X.tsIn 133 5 (zi170 46) rfl (by omega) rfl rfl ?_
            refine X.cut [(0, zr 4 40)] (zi170 133) rfl ?_
            refine X.aload_n 134 (zi170 133) rfl rfl rfl ?_
            refine X.getF 137 (zi170 134) rfl rfl (by decide) rfl rfl ?_
            refine X.getZ 140 12 (zi170 137) rfl rfl (by decide) rfl rfl rfl (fun h527 => ?_)
            have hK532 : ∀ (v : Int) , (0 ≤ v ∧ v ≤ 1) → (if (m508 2 8 12) = 0 then
                (0)
                else
                (1)) = v → X (EE s) d 170 148 [] [zl v] m508 Q := by
              intro v529 hv529 hT533
              refine X.retl (zi170 148) rfl t170 ?_
              exact hQ v529 m508 (by first | trivial | omega) (Eq.trans (if_neg h501) (Eq.trans (if_neg h502) (Eq.trans (if_neg h503) (Eq.trans (if_pos h504) (Eq.trans (zs_eq hFv507.symm) (Eq.trans (zs_eq hFv510.symm) (Eq.trans (if_neg h511) (Eq.trans (if_neg h515) (Eq.trans (if_neg h519) (Eq.trans (if_neg h520) (Eq.trans (if_neg h524) (Eq.trans (if_pos h526) (Eq.trans (zn_eq hT533.symm) rfl))))))))))))) (hJ509.up (by omega)) 
            refine X.ifeq 147 143 (zi170 140) rfl rfl rfl (fun h528 => ?_) (fun h528 => ?_)
            · refine X.cut [] (zi170 147) rfl ?_
              refine X.lconst (y := 0) 148 (zi170 147) rfl rfl rfl ?_
              exact hK532 0 (by first | trivial | omega) (Eq.trans (if_pos h528) rfl)
            · refine X.lconst (y := 1) 144 (zi170 143) rfl rfl rfl ?_
              refine X.goto 148 (zi170 144) rfl rfl ?_
              refine X.cut [] (zi170 148) rfl ?_
              exact hK532 1 (by first | trivial | omega) (Eq.trans (if_neg h528) rfl)
          refine X.tsOut 149 (zi170 46) rfl (by omega) rfl ?_
          refine X.cut [(0, zr 4 40)] (zi170 149) rfl ?_
          refine X.aload_n 150 (zi170 149) rfl rfl rfl ?_
          refine X.getF 153 (zi170 150) rfl rfl (by decide) rfl rfl ?_
          refine X.getI 156 9 (zi170 153) rfl rfl (by decide) rfl rfl rfl ?_
          have h534 := r8_9 hJ509 2
          refine X.i2l 157 (zi170 156) rfl rfl ?_
          refine X.retl (zi170 157) rfl t170 ?_
          exact hQ (m508 2 8 9) m508 (by first | trivial | omega) (Eq.trans (if_neg h501) (Eq.trans (if_neg h502) (Eq.trans (if_neg h503) (Eq.trans (if_pos h504) (Eq.trans (zs_eq hFv507.symm) (Eq.trans (zs_eq hFv510.symm) (Eq.trans (if_neg h511) (Eq.trans (if_neg h515) (Eq.trans (if_neg h519) (Eq.trans (if_neg h520) (Eq.trans (if_neg h524) (Eq.trans (if_neg h526) rfl)))))))))))) (hJ509.up (by omega)) 
        · refine X.cut [] (zi170 22) rfl ?_
          refine X.ldc2 25 (zi170 22) rfl rfl (by decide) ?_
          refine X.retl (zi170 25) rfl t170 ?_
          exact hQ (-10000000000) m (by first | trivial | omega) (Eq.trans (if_neg h501) (Eq.trans (if_neg h502) (Eq.trans (if_neg h503) (Eq.trans (if_neg h504) rfl)))) (hJ.up (by omega)) 
noncomputable def fl302_41_1_b (self : Int → zM → Int × zM) (k56 : zM → Int × zM) (y1 y2 : Int) (y3 : Int) (m : zM) : Int × zM :=
  if y1 ≤ y3 then
  (k56 m)
  else
  (zs (f208_1 m) fun m506 =>
  self (y3 + 1) m506)
noncomputable def fl302_41_1 (k56 : zM → Int × zM) (y1 y2 : Int) : Nat → Int → zM → Int × zM
  | 0 => fun y3 m => (0, m)
  | n + 1 => fl302_41_1_b (fl302_41_1 k56 y1 y2 n) k56 y1 y2
theorem l302_41_1 {s : Nat × (Nat → Int32)} {S : zS} {m0 : zM} {d : Nat} {Q : Option zV → zM → Prop} {R0 : Int × zM} {k56 : zM → Int × zM} (y1 y2 : Int) (BE : Int) (hE : BE ≤ 1000000000) (hd : 20 ≤ d) (hy1 : 1 ≤ y1 ∧ y1 ≤ 900) (hy2 : 0 ≤ y2 ∧ y2 ≤ 6) (hf26 : ¬ S.1 26) (hf27 : ¬ S.1 27) (hf28 : ¬ S.1 28) (hf29 : ¬ S.1 29) (hf30 : ¬ S.1 30) (hf31 : ¬ S.1 31) (hf32 : ¬ S.1 32) (hf33 : ¬ S.1 33) (hg4 : ¬ S.2.1 4)
    (K56 : ∀ (m' : zM) (B' : Int), J S m0 B' m' → B' ≤ BE → R0 = k56 m' → X (EE s) d 302 56 [(0, zr 4 44), (2, zi y2)] [] m' Q) :
    ∀ (n : Nat) (y3 : Int) (m : zM) (B : Int), J S m0 B m → B + 11 * (n : Int) ≤ BE → (0 ≤ y3 ∧ y3 ≤ 900) → 900 - y3 < (n : Int) → R0 = fl302_41_1 k56 y1 y2 n y3 m → X (EE s) d 302 41 [(0, zr 4 44), (1, zi y1), (2, zi y2), (3, zi y3)] [] m Q := by
  intro n
  induction n with
  | zero =>
    intro y3 m B hJ hB hy3 hn hR
    exfalso
    omega
  | succ n ih =>
    intro y3 m B hJ hB hy3 hn hR
    replace hR : R0 = fl302_41_1_b (fl302_41_1 k56 y1 y2 n) k56 y1 y2 y3 m := hR
    refine X.iload_n 42 (zi302 41) rfl rfl rfl ?_
    refine X.iload_n 43 (zi302 42) rfl rfl rfl ?_
    refine X.icmpge 56 46 (zi302 43) rfl rfl rfl (fun h505 => ?_) (fun h505 => ?_)
    · refine X.cut [(0, zr 4 44), (2, zi y2)] (zi302 56) rfl ?_
      exact K56  m (B) (hJ.up (by omega)) (by omega)  (Eq.trans hR (Eq.trans (if_pos h505) rfl))
    · refine X.aload_n 47 (zi302 46) rfl rfl rfl ?_
      refine X.callv 50 [] [] [(0, zr 4 44)] (zi302 47) rfl (by decide) rfl rfl (by omega) rfl rfl (by decide) rfl t208 (Nat.le_of_ble_eq_true rfl) (Nat.le_of_ble_eq_true rfl) rfl ?_
      refine c208_1 (B := B)   (by omega) (hJ.up (by omega)) (by omega)  hf26 hf27 hf28 hf29 hf30 hf31 hf32 hf33 hg4 (fun m506 hFv508 hJ507 => ?_)
      show X (EE s) d 302 50 [(0, zr 4 44), (1, zi y1), (2, zi y2), (3, zi y3)] [] m506 _
      refine X.iinc 53 [(0, zr 4 44), (1, zi y1), (2, zi y2), (3, zi (y3 + 1))] (zi302 50) rfl rfl rfl (by omega) rfl ?_
      refine X.goto 41 (zi302 53) rfl rfl ?_
      exact ih (y3 + 1) m506 (B + 11) (hJ507.up (by omega)) (by omega) (by omega) (by omega) (Eq.trans hR (Eq.trans (if_neg h505) (Eq.trans (zs_eq hFv508.symm) rfl)))
noncomputable def fl304_6_1_b (self : Int → Int → Int) (k45 : Int → Int) (m : zM) (y1 y3 : Int) : Int :=
  if 4 ≤ y3 then
  (k45 y1)
  else
  (zn (if (m 4 45 (32 + y3)) ≤ y1 then
  (y1)
  else
  ((m 4 45 (32 + y3)))) fun v520 =>
  self v520 (y3 + 1))
noncomputable def fl304_6_1 (k45 : Int → Int) (m : zM) : Nat → Int → Int → Int
  | 0 => fun y1 y3 => 0
  | n + 1 => fl304_6_1_b (fl304_6_1 k45 m n) k45 m
theorem l304_6_1 {s : Nat × (Nat → Int32)} {S : zS} {m0 : zM} {m : zM} {B : Int} {d : Nat} {Q : Option zV → zM → Prop} {R0 : Int} {k45 : Int → Int} (hd : 13 ≤ d) (hJ : J S m0 B m) (hB9 : B ≤ 1000000000)
    (K45 : ∀ (x1 : Int) , ((-1) ≤ x1) → R0 = k45 x1 → X (EE s) d 304 45 [(1, zl x1)] [] m Q) :
    ∀ (n : Nat) (y1 y3 : Int) , ((-1) ≤ y1) → (0 ≤ y3 ∧ y3 ≤ 4) → 4 - y3 < (n : Int) → R0 = fl304_6_1 k45 m n y1 y3 → X (EE s) d 304 6 [(0, zr 4 44), (1, zl y1), (3, zi y3)] [] m Q := by
  intro n
  induction n with
  | zero =>
    intro y1 y3 hy1 hy3 hn hR
    exfalso
    omega
  | succ n ih =>
    intro y1 y3 hy1 hy3 hn hR
    replace hR : R0 = fl304_6_1_b (fl304_6_1 k45 m n) k45 m y1 y3 := hR
    refine X.iload_n 7 (zi304 6) rfl rfl rfl ?_
    refine X.iconst 8 (zi304 7) rfl rfl (by decide) ?_
    refine X.icmpge 45 11 (zi304 8) rfl rfl rfl (fun h517 => ?_) (fun h517 => ?_)
    · refine X.cut [(1, zl y1)] (zi304 45) rfl ?_
      exact K45 y1 (by first | trivial | omega) (Eq.trans hR (Eq.trans (if_pos h517) rfl))
    · refine X.aload_n 12 (zi304 11) rfl rfl rfl ?_
      refine X.getF 15 (zi304 12) rfl rfl (by decide) rfl rfl ?_
      refine X.bipush 17 (zi304 15) rfl rfl (by decide) ?_
      refine X.iload_n 18 (zi304 17) rfl rfl rfl ?_
      refine X.iadd 19 (zi304 18) rfl rfl (by omega) ?_
      refine X.lald 20 (zi304 19) rfl rfl (by decide) rfl (by omega) ?_
      refine X.lload_n 21 (zi304 20) rfl rfl rfl ?_
      refine X.lcmp 22 (zi304 21) rfl rfl (fun z518 hz518 => ?_)
      have hK523 : ∀ (v : Int) , ((-1) ≤ v) → (if (m 4 45 (32 + y3)) ≤ y1 then
          (y1)
          else
          ((m 4 45 (32 + y3)))) = v → X (EE s) d 304 38 [(0, zr 4 44), (3, zi y3)] [zl v] m Q := by
        intro v520 hv520 hT524
        refine X.lstore_n 39 [(0, zr 4 44), (1, zl v520), (3, zi y3)] (zi304 38) rfl rfl rfl ?_
        refine X.iinc 42 [(0, zr 4 44), (1, zl v520), (3, zi (y3 + 1))] (zi304 39) rfl rfl rfl (by omega) rfl ?_
        refine X.goto 6 (zi304 42) rfl rfl ?_
        exact ih v520 (y3 + 1) (by omega) (by omega) (by omega) (Eq.trans hR (Eq.trans (if_neg h517) (Eq.trans (zn_eq hT524.symm) rfl)))
      refine X.ifle 37 25 (zi304 22) rfl rfl rfl (fun h519 => ?_) (fun h519 => ?_)
      · have h519c : (m 4 45 (32 + y3)) ≤ y1 := by omega
        clear h519 hz518
        refine X.lload_n 38 (zi304 37) rfl rfl rfl ?_
        refine X.cut [(0, zr 4 44), (3, zi y3)] (zi304 38) rfl ?_
        exact hK523 y1 (by first | trivial | omega) (Eq.trans (if_pos h519c) rfl)
      · have h519c : ¬ (m 4 45 (32 + y3)) ≤ y1 := by omega
        clear h519 hz518
        refine X.aload_n 26 (zi304 25) rfl rfl rfl ?_
        refine X.getF 29 (zi304 26) rfl rfl (by decide) rfl rfl ?_
        refine X.bipush 31 (zi304 29) rfl rfl (by decide) ?_
        refine X.iload_n 32 (zi304 31) rfl rfl rfl ?_
        refine X.iadd 33 (zi304 32) rfl rfl (by omega) ?_
        refine X.lald 34 (zi304 33) rfl rfl (by decide) rfl (by omega) ?_
        refine X.goto 38 (zi304 34) rfl rfl ?_
        refine X.cut [(0, zr 4 44), (3, zi y3)] (zi304 38) rfl ?_
        exact hK523 (m 4 45 (32 + y3)) (by first | trivial | omega) (Eq.trans (if_neg h519c) rfl)
-- WorkMeterModel.greatestOfAll
noncomputable def f304_1 (m : zM) : Int :=
  fl304_6_1 (fun y501 =>
  y501) m (zfu 5) (-1) 0
-- WorkMeterModel.greatestOfAll
theorem c304_1 {s : Nat × (Nat → Int32)} {S : zS} {m0 m : zM} {B : Int} {d : Nat} {Q : Option zV → zM → Prop} (hd : 13 ≤ d) (hJ : J S m0 B m) (hB : B + 0 ≤ 1000000000) (hQ : ∀ (v : Int), ((-1) ≤ v) → f304_1 m = v → Q (some (zl v)) m) : X (EE s) d 304 0 [(0, zr 4 44)] [] m Q := by
  refine X.ldc2 3 (zi304 0) rfl rfl (by decide) ?_
  refine X.lstore_n 4 [(0, zr 4 44), (1, zl (-1))] (zi304 3) rfl rfl rfl ?_
  refine X.iconst 5 (zi304 4) rfl rfl (by decide) ?_
  refine X.istore_n 6 [(0, zr 4 44), (1, zl (-1)), (3, zi 0)] (zi304 5) rfl rfl rfl ?_
  have hz5 := zfu_eq 5
  refine l304_6_1 (s := s) (m := m) (B := B) (d := d) (R0 := (f304_1 m))    (by omega) (hJ.up (by omega)) (by omega) (fun y501 hby501 hR505 => ?_) (zfu 5) (-1) 0 (by omega) (by omega) (by omega) rfl
  refine X.lload_n 46 (zi304 45) rfl rfl rfl ?_
  refine X.retl (zi304 46) rfl t304 ?_
  exact hQ y501 (by first | trivial | omega) (Eq.trans hR505 rfl) 
-- WorkMeterModel.seen
noncomputable def f303_1 (a1 : Int) (m : zM) : Int :=
  if a1 = 0 then
  (zn (w64 (((m 4 45 64)).tdiv (m 4 45 5))) fun z503 =>
  z503)
  else
  (if a1 = 1 then
  (zn (w64 (((m 4 45 69)).tdiv (m 4 45 5))) fun z506 =>
  z506)
  else
  (if a1 = 2 then
  ((m 4 45 10))
  else
  (if a1 = 3 then
  (zn (f304_1 m) fun v511 =>
  v511)
  else
  (if a1 = 4 then
  (zn (f231_1 m) fun v515 =>
  v515)
  else
  (if a1 = 5 then
  ((m 4 45 12))
  else
  ((m 4 45 0)))))))
end
