-- WorkMeterModel.period
theorem c237_1 {s : Nat × (Nat → Int32)} {S : zS} {m0 m : zM} {B : Int} {d : Nat} {Q : Option zV → zM → Prop} (a1 a2 : Int) (hd : 15 ≤ d) (hJ : J S m0 B m) (hB : B + 0 ≤ 1000000000) (ha1 : (-2147483648) ≤ a1 ∧ a1 ≤ 2147483647) (ha2 : (-2147483648) ≤ a2 ∧ a2 ≤ 2147483647) (hQ : ∀ (v : Int), (True) → Q (some (zl v)) m) : X (EE s) d 237 0 [(0, zr 4 44), (1, zi a1), (2, zi a2)] [] m Q := by
  refine X.iload_n 1 i237_0 rfl rfl rfl ?_
  refine X.iconst 2 i237_1 rfl rfl (by decide) ?_
  refine X.icmpeq 25 5 i237_2 rfl rfl rfl (fun h501 => ?_) (fun h501 => ?_)
  · refine X.iload_n 26 i237_25 rfl rfl rfl ?_
    refine X.iconst 27 i237_26 rfl rfl (by decide) ?_
    refine X.icmpne 34 30 i237_27 rfl rfl rfl (fun h502 => (by exfalso; omega)) (fun h502 => ?_)
    refine X.iconst 31 i237_30 rfl rfl (by decide) ?_
    refine X.goto 35 i237_31 rfl rfl ?_
    refine X.istore_n 36 [(0, zr 4 44), (1, zi a1), (2, zi a2), (3, zi 1)] i237_35 rfl rfl rfl ?_
    refine X.iload_n 37 i237_36 rfl rfl rfl ?_
    refine X.ifeq 48 40 i237_37 rfl rfl rfl (fun h503 => (by exfalso; omega)) (fun h503 => ?_)
    refine X.aload_n 41 i237_40 rfl rfl rfl ?_
    refine X.iconst 42 i237_41 rfl rfl (by decide) ?_
    refine X.callv 45 [zi 0] [] [(0, zr 4 44), (1, zi 0)] i237_42 rfl (by decide) rfl rfl (by omega) rfl rfl (by decide) rfl t209 (Nat.le_of_ble_eq_true rfl) (Nat.le_of_ble_eq_true rfl) rfl ?_
    refine c209_1 (B := B)  0 (by omega) (hJ.up (by omega)) (by omega) (by omega) (fun v506 hv506 => ?_)
    show X (EE s) d 237 45 [(0, zr 4 44), (1, zi a1), (2, zi a2), (3, zi 1)] [zl v506] m _
    refine X.goto 53 i237_45 rfl rfl ?_
    refine X.lstore 55 [(0, zr 4 44), (1, zi a1), (2, zi a2), (3, zi 1), (4, zl v506)] i237_53 rfl rfl rfl ?_
    refine X.iload_n 56 i237_55 rfl rfl rfl ?_
    refine X.ifeq 67 59 i237_56 rfl rfl rfl (fun h507 => (by exfalso; omega)) (fun h507 => ?_)
    refine X.aload_n 60 i237_59 rfl rfl rfl ?_
    refine X.iconst 61 i237_60 rfl rfl (by decide) ?_
    refine X.callv 64 [zi 1] [] [(0, zr 4 44), (1, zi 1)] i237_61 rfl (by decide) rfl rfl (by omega) rfl rfl (by decide) rfl t209 (Nat.le_of_ble_eq_true rfl) (Nat.le_of_ble_eq_true rfl) rfl ?_
    refine c209_1 (B := B)  1 (by omega) (hJ.up (by omega)) (by omega) (by omega) (fun v510 hv510 => ?_)
    show X (EE s) d 237 64 [(0, zr 4 44), (1, zi a1), (2, zi a2), (3, zi 1), (4, zl v506)] [zl v510] m _
    refine X.goto 72 i237_64 rfl rfl ?_
    refine X.lstore 74 [(0, zr 4 44), (1, zi a1), (2, zi a2), (3, zi 1), (4, zl v506), (6, zl v510)] i237_72 rfl rfl rfl ?_
    refine X.lload 76 i237_74 rfl rfl rfl ?_
    refine X.lload 78 i237_76 rfl rfl rfl ?_
    refine X.llF 79 .lmul (fun x y => x * y) i237_78 rfl rfl rfl (fun _ _ => rfl) (fun z511 hz511 => ?_)
    refine X.lload 81 i237_79 rfl rfl rfl ?_
    refine X.lload 83 i237_81 rfl rfl rfl ?_
    refine X.llF 84 .lmul (fun x y => x * y) i237_83 rfl rfl rfl (fun _ _ => rfl) (fun z512 hz512 => ?_)
    refine X.llF 85 .ladd (fun x y => x + y) i237_84 rfl rfl rfl (fun _ _ => rfl) (fun z513 hz513 => ?_)
    refine X.calls 88 [zl z513] [] [(0, zl z513)] i237_85 (by decide) rfl rfl (by omega) rfl rfl t214 (Nat.le_of_ble_eq_true rfl) (Nat.le_of_ble_eq_true rfl) rfl ?_
    refine c214_1 (B := B)  z513 (by omega) (hJ.up (by omega)) (by omega)  (fun v516 hv516 => ?_)
    show X (EE s) d 237 88 [(0, zr 4 44), (1, zi a1), (2, zi a2), (3, zi 1), (4, zl v506), (6, zl v510)] [zl v516] m _
    refine X.lstore 90 [(0, zr 4 44), (1, zi a1), (2, zi a2), (3, zi 1), (4, zl v506), (6, zl v510), (8, zl v516)] i237_88 rfl rfl rfl ?_
    refine X.iload_n 91 i237_90 rfl rfl rfl ?_
    by_cases h517 : a2 = 0
    · refine X.tsIn 140 0 i237_91 rfl (by omega) rfl rfl ?_
      refine X.cut [(4, zl v506)] i237_140 rfl ?_
      refine X.lload 142 i237_140 rfl rfl rfl ?_
      refine X.retl i237_142 rfl t237 ?_
      exact hQ v506 (by first | trivial | omega) 
    by_cases h518 : a2 = 1
    · refine X.tsIn 143 1 i237_91 rfl (by omega) rfl rfl ?_
      refine X.cut [(6, zl v510)] i237_143 rfl ?_
      refine X.lload 145 i237_143 rfl rfl rfl ?_
      refine X.retl i237_145 rfl t237 ?_
      exact hQ v510 (by first | trivial | omega) 
    by_cases h519 : a2 = 2
    · refine X.tsIn 146 2 i237_91 rfl (by omega) rfl rfl ?_
      refine X.cut [(0, zr 4 44), (1, zi a1), (3, zi 1)] i237_146 rfl ?_
      refine X.iload_n 147 i237_146 rfl rfl rfl ?_
      refine X.ifeq 158 150 i237_147 rfl rfl rfl (fun h520 => (by exfalso; omega)) (fun h520 => ?_)
      refine X.aload_n 151 i237_150 rfl rfl rfl ?_
      refine X.iconst 152 i237_151 rfl rfl (by decide) ?_
      refine X.callv 155 [zi 2] [] [(0, zr 4 44), (1, zi 2)] i237_152 rfl (by decide) rfl rfl (by omega) rfl rfl (by decide) rfl t209 (Nat.le_of_ble_eq_true rfl) (Nat.le_of_ble_eq_true rfl) rfl ?_
      refine c209_1 (B := B)  2 (by omega) (hJ.up (by omega)) (by omega) (by omega) (fun v523 hv523 => ?_)
      show X (EE s) d 237 155 [(0, zr 4 44), (1, zi a1), (3, zi 1)] [zl v523] m _
      refine X.goto 165 i237_155 rfl rfl ?_
      refine X.cut [] i237_165 rfl ?_
      refine X.retl i237_165 rfl t237 ?_
      exact hQ v523 (by first | trivial | omega) 
    by_cases h524 : a2 = 3
    · refine X.tsIn 166 3 i237_91 rfl (by omega) rfl rfl ?_
      refine X.cut [(0, zr 4 44), (1, zi a1), (3, zi 1)] i237_166 rfl ?_
      refine X.iload_n 167 i237_166 rfl rfl rfl ?_
      refine X.ifeq 178 170 i237_167 rfl rfl rfl (fun h525 => (by exfalso; omega)) (fun h525 => ?_)
      refine X.aload_n 171 i237_170 rfl rfl rfl ?_
      refine X.iconst 172 i237_171 rfl rfl (by decide) ?_
      refine X.callv 175 [zi 3] [] [(0, zr 4 44), (1, zi 3)] i237_172 rfl (by decide) rfl rfl (by omega) rfl rfl (by decide) rfl t209 (Nat.le_of_ble_eq_true rfl) (Nat.le_of_ble_eq_true rfl) rfl ?_
      refine c209_1 (B := B)  3 (by omega) (hJ.up (by omega)) (by omega) (by omega) (fun v528 hv528 => ?_)
      show X (EE s) d 237 175 [(0, zr 4 44), (1, zi a1), (3, zi 1)] [zl v528] m _
      refine X.goto 186 i237_175 rfl rfl ?_
      refine X.cut [] i237_186 rfl ?_
      refine X.retl i237_186 rfl t237 ?_
      exact hQ v528 (by first | trivial | omega) 
    by_cases h529 : a2 = 4
    · refine X.tsIn 187 4 i237_91 rfl (by omega) rfl rfl ?_
      refine X.cut [(8, zl v516)] i237_187 rfl ?_
      refine X.lload 189 i237_187 rfl rfl rfl ?_
      refine X.retl i237_189 rfl t237 ?_
      exact hQ v516 (by first | trivial | omega) 
    by_cases h530 : a2 = 5
    · refine X.tsIn 190 5 i237_91 rfl (by omega) rfl rfl ?_
      refine X.cut [(4, zl v506), (6, zl v510)] i237_190 rfl ?_
      refine X.lload 192 i237_190 rfl rfl rfl ?_
      refine X.lload 194 i237_192 rfl rfl rfl ?_
      refine X.calls 197 [zl v506, zl v510] [] [(0, zl v506), (2, zl v510)] i237_194 (by decide) rfl rfl (by omega) rfl rfl t221 (Nat.le_of_ble_eq_true rfl) (Nat.le_of_ble_eq_true rfl) rfl ?_
      refine X.lload_n 1 i221_0 rfl rfl rfl ?_
      refine X.lconst (y := 0) 2 i221_1 rfl rfl rfl ?_
      refine X.lcmp 3 i221_2 rfl rfl (fun z531 hz531 => ?_)
      refine X.iflt 20 6 i221_3 rfl rfl rfl (fun h532 => ?_) (fun h532 => ?_)
      · have h532c : v506 < 0 := by omega
        clear h532 hz531
        refine X.cut [(2, zl v510)] i221_20 rfl ?_
        refine X.lload_n 21 i221_20 rfl rfl rfl ?_
        refine X.lconst (y := 0) 22 i221_21 rfl rfl rfl ?_
        refine X.lcmp 23 i221_22 rfl rfl (fun z533 hz533 => ?_)
        refine X.iflt 30 26 i221_23 rfl rfl rfl (fun h534 => ?_) (fun h534 => ?_)
        · have h534c : v510 < 0 := by omega
          clear h534 hz533
          refine X.cut [] i221_30 rfl ?_
          refine X.iconst 31 i221_30 rfl rfl (by decide) ?_
          refine X.reti i221_31 rfl t221 ?_
          show X (EE s) d 237 197 [(4, zl v506), (6, zl v510)] [zi 3] m _
          refine X.i2l 198 i237_197 rfl rfl ?_
          refine X.retl i237_198 rfl t237 ?_
          exact hQ 3 (by first | trivial | omega) 
        · have h534c : v510 ≥ 0 := by omega
          clear h534 hz533
          refine X.iconst 27 i221_26 rfl rfl (by decide) ?_
          refine X.goto 31 i221_27 rfl rfl ?_
          refine X.cut [] i221_31 rfl ?_
          refine X.reti i221_31 rfl t221 ?_
          show X (EE s) d 237 197 [(4, zl v506), (6, zl v510)] [zi 2] m _
          refine X.i2l 198 i237_197 rfl rfl ?_
          refine X.retl i237_198 rfl t237 ?_
          exact hQ 2 (by first | trivial | omega) 
      · have h532c : v506 ≥ 0 := by omega
        clear h532 hz531
        refine X.lload_n 7 i221_6 rfl rfl rfl ?_
        refine X.lconst (y := 0) 8 i221_7 rfl rfl rfl ?_
        refine X.lcmp 9 i221_8 rfl rfl (fun z535 hz535 => ?_)
        refine X.iflt 16 12 i221_9 rfl rfl rfl (fun h536 => ?_) (fun h536 => ?_)
        · have h536c : v510 < 0 := by omega
          clear h536 hz535
          refine X.cut [] i221_16 rfl ?_
          refine X.iconst 17 i221_16 rfl rfl (by decide) ?_
          refine X.goto 31 i221_17 rfl rfl ?_
          refine X.reti i221_31 rfl t221 ?_
          show X (EE s) d 237 197 [(4, zl v506), (6, zl v510)] [zi 4] m _
          refine X.i2l 198 i237_197 rfl rfl ?_
          refine X.retl i237_198 rfl t237 ?_
          exact hQ 4 (by first | trivial | omega) 
        · have h536c : v510 ≥ 0 := by omega
          clear h536 hz535
          refine X.iconst 13 i221_12 rfl rfl (by decide) ?_
          refine X.goto 31 i221_13 rfl rfl ?_
          refine X.cut [] i221_31 rfl ?_
          refine X.reti i221_31 rfl t221 ?_
          show X (EE s) d 237 197 [(4, zl v506), (6, zl v510)] [zi 1] m _
          refine X.i2l 198 i237_197 rfl rfl ?_
          refine X.retl i237_198 rfl t237 ?_
          exact hQ 1 (by first | trivial | omega) 
    by_cases h537 : a2 = 6
    · refine X.tsIn 199 6 i237_91 rfl (by omega) rfl rfl ?_
      refine X.cut [(0, zr 4 44), (1, zi a1), (3, zi 1)] i237_199 rfl ?_
      refine X.iload_n 200 i237_199 rfl rfl rfl ?_
      refine X.ifeq 212 203 i237_200 rfl rfl rfl (fun h538 => (by exfalso; omega)) (fun h538 => ?_)
      refine X.aload_n 204 i237_203 rfl rfl rfl ?_
      refine X.bipush 206 i237_204 rfl rfl (by decide) ?_
      refine X.callv 209 [zi 95] [] [(0, zr 4 44), (1, zi 95)] i237_206 rfl (by decide) rfl rfl (by omega) rfl rfl (by decide) rfl t238 (Nat.le_of_ble_eq_true rfl) (Nat.le_of_ble_eq_true rfl) rfl ?_
      refine c238_1 (B := B)  95 (by omega) (hJ.up (by omega)) (by omega) (by omega) (fun v541 hv541 => ?_)
      show X (EE s) d 237 209 [(0, zr 4 44), (1, zi a1), (3, zi 1)] [zl v541] m _
      refine X.goto 228 i237_209 rfl rfl ?_
      refine X.cut [] i237_228 rfl ?_
      refine X.retl i237_228 rfl t237 ?_
      exact hQ v541 (by first | trivial | omega) 
    by_cases h542 : a2 = 7
    · refine X.tsIn 229 7 i237_91 rfl (by omega) rfl rfl ?_
      refine X.cut [(0, zr 4 44), (1, zi a1), (3, zi 1)] i237_229 rfl ?_
      refine X.iload_n 230 i237_229 rfl rfl rfl ?_
      refine X.ifeq 243 233 i237_230 rfl rfl rfl (fun h543 => (by exfalso; omega)) (fun h543 => ?_)
      refine X.aload_n 234 i237_233 rfl rfl rfl ?_
      refine X.sipush 237 i237_234 rfl rfl (by decide) ?_
      refine X.callv 240 [zi 143] [] [(0, zr 4 44), (1, zi 143)] i237_237 rfl (by decide) rfl rfl (by omega) rfl rfl (by decide) rfl t238 (Nat.le_of_ble_eq_true rfl) (Nat.le_of_ble_eq_true rfl) rfl ?_
      refine c238_2 (B := B)  143 (by omega) (hJ.up (by omega)) (by omega) (by omega) (fun v546 hv546 => ?_)
      show X (EE s) d 237 240 [(0, zr 4 44), (1, zi a1), (3, zi 1)] [zl v546] m _
      refine X.goto 260 i237_240 rfl rfl ?_
      refine X.cut [] i237_260 rfl ?_
      refine X.retl i237_260 rfl t237 ?_
      exact hQ v546 (by first | trivial | omega) 
    by_cases h547 : a2 = 8
    · refine X.tsIn 261 8 i237_91 rfl (by omega) rfl rfl ?_
      refine X.cut [(4, zl v506), (8, zl v516)] i237_261 rfl ?_
      refine X.lload 263 i237_261 rfl rfl rfl ?_
      refine X.lload 265 i237_263 rfl rfl rfl ?_
      refine X.calls 268 [zl v506, zl v516] [] [(0, zl v506), (2, zl v516)] i237_265 (by decide) rfl rfl (by omega) rfl rfl t239 (Nat.le_of_ble_eq_true rfl) (Nat.le_of_ble_eq_true rfl) rfl ?_
      refine X.lload_n 1 i239_0 rfl rfl rfl ?_
      refine X.lconst (y := 0) 2 i239_1 rfl rfl rfl ?_
      refine X.lcmp 3 i239_2 rfl rfl (fun z548 hz548 => ?_)
      refine X.ifne 10 6 i239_3 rfl rfl rfl (fun h549 => ?_) (fun h549 => ?_)
      · have h549c : v516 ≠ 0 := by omega
        clear h549 hz548
        refine X.lload_n 11 i239_10 rfl rfl rfl ?_
        refine X.lconst (y := 0) 12 i239_11 rfl rfl rfl ?_
        refine X.lcmp 13 i239_12 rfl rfl (fun z550 hz550 => ?_)
        refine X.ifge 28 16 i239_13 rfl rfl rfl (fun h551 => ?_) (fun h551 => ?_)
        · have h551c : v506 ≥ 0 := by omega
          clear h551 hz550
          refine X.ldc2 31 i239_28 rfl rfl (by decide) ?_
          refine X.lload_n 32 i239_31 rfl rfl rfl ?_
          refine X.llF 33 .lmul (fun x y => x * y) i239_32 rfl rfl rfl (fun _ _ => rfl) (fun z552 hz552 => ?_)
          refine X.lload_n 34 i239_33 rfl rfl rfl ?_
          refine X.ldivF 35 i239_34 rfl rfl (by omega) (fun z553 => ?_)
          refine X.cut [] i239_35 rfl ?_
          refine X.retl i239_35 rfl t239 ?_
          show X (EE s) d 237 268 [(4, zl v506), (8, zl v516)] [zl z553] m _
          refine X.retl i237_268 rfl t237 ?_
          exact hQ z553 (by first | trivial | omega) 
        · have h551c : v506 < 0 := by omega
          clear h551 hz550
          refine X.ldc2 19 i239_16 rfl rfl (by decide) ?_
          refine X.lload_n 20 i239_19 rfl rfl rfl ?_
          refine X.lnegF 21 i239_20 rfl rfl (fun z554 hz554 => ?_)
          refine X.llF 22 .lmul (fun x y => x * y) i239_21 rfl rfl rfl (fun _ _ => rfl) (fun z555 hz555 => ?_)
          refine X.lload_n 23 i239_22 rfl rfl rfl ?_
          refine X.ldivF 24 i239_23 rfl rfl (by omega) (fun z556 => ?_)
          refine X.lnegF 25 i239_24 rfl rfl (fun z557 hz557 => ?_)
          refine X.goto 35 i239_25 rfl rfl ?_
          refine X.cut [] i239_35 rfl ?_
          refine X.retl i239_35 rfl t239 ?_
          show X (EE s) d 237 268 [(4, zl v506), (8, zl v516)] [zl z557] m _
          refine X.retl i237_268 rfl t237 ?_
          exact hQ z557 (by first | trivial | omega) 
      · have h549c : v516 = 0 := by omega
        clear h549 hz548
        refine X.lconst (y := 0) 7 i239_6 rfl rfl rfl ?_
        refine X.goto 35 i239_7 rfl rfl ?_
        refine X.cut [] i239_35 rfl ?_
        refine X.retl i239_35 rfl t239 ?_
        show X (EE s) d 237 268 [(4, zl v506), (8, zl v516)] [zl 0] m _
        refine X.retl i237_268 rfl t237 ?_
        exact hQ 0 (by first | trivial | omega) 
    refine X.tsOut 269 i237_91 rfl (by omega) rfl ?_
    refine X.cut [] i237_269 rfl ?_
    refine X.ldc2 272 i237_269 rfl rfl (by decide) ?_
    refine X.retl i237_272 rfl t237 ?_
    exact hQ (-10000000000) (by first | trivial | omega) 
  · refine X.iload_n 6 i237_5 rfl rfl rfl ?_
    refine X.i2l 7 i237_6 rfl rfl ?_
    refine X.lconst (y := 0) 8 i237_7 rfl rfl rfl ?_
    refine X.aload_n 9 i237_8 rfl rfl rfl ?_
    refine X.callv 12 [] [zl 0, zl a1] [(0, zr 4 44)] i237_9 rfl (by decide) rfl rfl (by omega) rfl rfl (by decide) rfl t206 (Nat.le_of_ble_eq_true rfl) (Nat.le_of_ble_eq_true rfl) rfl ?_
    refine X.aload_n 1 i206_0 rfl rfl rfl ?_
    refine X.getF 4 i206_1 rfl rfl (by decide) rfl rfl ?_
    refine X.iconst 5 i206_4 rfl rfl (by decide) ?_
    refine X.lald 6 i206_5 rfl rfl (by decide) rfl (by omega) ?_
    have h558 := r45_1 hJ 4
    refine X.l2i 7 i206_6 rfl rfl (by omega) ?_
    refine X.reti i206_7 rfl t206 ?_
    show X (EE s) d 237 12 [(0, zr 4 44), (1, zi a1), (2, zi a2)] [zi (m 4 45 1), zl 0, zl a1] m _
    refine X.iconst 13 i237_12 rfl rfl (by decide) ?_
    refine X.isub 14 i237_13 rfl rfl (by omega) ?_
    refine X.i2l 15 i237_14 rfl rfl ?_
    refine X.calls 18 [zl a1, zl 0, zl ((m 4 45 1) - 1)] [] [(0, zl a1), (2, zl 0), (4, zl ((m 4 45 1) - 1))] i237_15 (by decide) rfl rfl (by omega) rfl rfl t204 (Nat.le_of_ble_eq_true rfl) (Nat.le_of_ble_eq_true rfl) rfl ?_
    refine X.lload_n 1 i204_0 rfl rfl rfl ?_
    refine X.lload_n 2 i204_1 rfl rfl rfl ?_
    refine X.lcmp 3 i204_2 rfl rfl (fun z559 hz559 => ?_)
    refine X.iflt 17 6 i204_3 rfl rfl rfl (fun h560 => ?_) (fun h560 => ?_)
    · have h560c : a1 < 0 := by omega
      clear h560 hz559
      refine X.cut [] i204_17 rfl ?_
      refine X.iconst 18 i204_17 rfl rfl (by decide) ?_
      refine X.retz i204_18 rfl t204 (by omega) ?_
      show X (EE s) d 237 18 [(0, zr 4 44), (1, zi a1), (2, zi a2)] [zi 0] m _
      refine X.ifne 25 21 i237_18 rfl rfl rfl (fun h561 => (by exfalso; omega)) (fun h561 => ?_)
      refine X.ldc2 24 i237_21 rfl rfl (by decide) ?_
      refine X.retl i237_24 rfl t237 ?_
      exact hQ (-10000000000) (by first | trivial | omega) 
    · have h560c : a1 ≥ 0 := by omega
      clear h560 hz559
      refine X.lload_n 7 i204_6 rfl rfl rfl ?_
      refine X.lload 9 i204_7 rfl rfl rfl ?_
      refine X.lcmp 10 i204_9 rfl rfl (fun z562 hz562 => ?_)
      refine X.ifgt 17 13 i204_10 rfl rfl rfl (fun h563 => ?_) (fun h563 => ?_)
      · have h563c : a1 > ((m 4 45 1) - 1) := by omega
        clear h563 hz562
        refine X.cut [] i204_17 rfl ?_
        refine X.iconst 18 i204_17 rfl rfl (by decide) ?_
        refine X.retz i204_18 rfl t204 (by omega) ?_
        show X (EE s) d 237 18 [(0, zr 4 44), (1, zi a1), (2, zi a2)] [zi 0] m _
        refine X.ifne 25 21 i237_18 rfl rfl rfl (fun h564 => (by exfalso; omega)) (fun h564 => ?_)
        refine X.ldc2 24 i237_21 rfl rfl (by decide) ?_
        refine X.retl i237_24 rfl t237 ?_
        exact hQ (-10000000000) (by first | trivial | omega) 
      · have h563c : a1 ≤ ((m 4 45 1) - 1) := by omega
        clear h563 hz562
        refine X.iconst 14 i204_13 rfl rfl (by decide) ?_
        refine X.goto 18 i204_14 rfl rfl ?_
        refine X.cut [] i204_18 rfl ?_
        refine X.retz i204_18 rfl t204 (by omega) ?_
        show X (EE s) d 237 18 [(0, zr 4 44), (1, zi a1), (2, zi a2)] [zi 1] m _
        refine X.ifne 25 21 i237_18 rfl rfl rfl (fun h565 => ?_) (fun h565 => (by exfalso; omega))
        refine X.iload_n 26 i237_25 rfl rfl rfl ?_
        refine X.iconst 27 i237_26 rfl rfl (by decide) ?_
        refine X.icmpne 34 30 i237_27 rfl rfl rfl (fun h566 => ?_) (fun h566 => (by exfalso; omega))
        refine X.iconst 35 i237_34 rfl rfl (by decide) ?_
        refine X.istore_n 36 [(0, zr 4 44), (1, zi a1), (2, zi a2), (3, zi 0)] i237_35 rfl rfl rfl ?_
        refine X.iload_n 37 i237_36 rfl rfl rfl ?_
        refine X.ifeq 48 40 i237_37 rfl rfl rfl (fun h567 => ?_) (fun h567 => (by exfalso; omega))
        refine X.aload_n 49 i237_48 rfl rfl rfl ?_
        refine X.iload_n 50 i237_49 rfl rfl rfl ?_
        refine X.callv 53 [zi a1] [] [(0, zr 4 44), (1, zi a1)] i237_50 rfl (by decide) rfl rfl (by omega) rfl rfl (by decide) rfl t210 (Nat.le_of_ble_eq_true rfl) (Nat.le_of_ble_eq_true rfl) rfl ?_
        refine c210_1 (B := B)  a1 (by omega) (hJ.up (by omega)) (by omega) (by omega) (fun v570 hv570 => ?_)
        show X (EE s) d 237 53 [(0, zr 4 44), (1, zi a1), (2, zi a2), (3, zi 0)] [zl v570] m _
        refine X.lstore 55 [(0, zr 4 44), (1, zi a1), (2, zi a2), (3, zi 0), (4, zl v570)] i237_53 rfl rfl rfl ?_
        refine X.iload_n 56 i237_55 rfl rfl rfl ?_
        refine X.ifeq 67 59 i237_56 rfl rfl rfl (fun h571 => ?_) (fun h571 => (by exfalso; omega))
        refine X.aload_n 68 i237_67 rfl rfl rfl ?_
        refine X.iload_n 69 i237_68 rfl rfl rfl ?_
        refine X.callv 72 [zi a1] [] [(0, zr 4 44), (1, zi a1)] i237_69 rfl (by decide) rfl rfl (by omega) rfl rfl (by decide) rfl t212 (Nat.le_of_ble_eq_true rfl) (Nat.le_of_ble_eq_true rfl) rfl ?_
        refine c212_1 (B := B)  a1 (by omega) (hJ.up (by omega)) (by omega) (by omega) (fun v574 hv574 => ?_)
        show X (EE s) d 237 72 [(0, zr 4 44), (1, zi a1), (2, zi a2), (3, zi 0), (4, zl v570)] [zl v574] m _
        refine X.lstore 74 [(0, zr 4 44), (1, zi a1), (2, zi a2), (3, zi 0), (4, zl v570), (6, zl v574)] i237_72 rfl rfl rfl ?_
        refine X.lload 76 i237_74 rfl rfl rfl ?_
        refine X.lload 78 i237_76 rfl rfl rfl ?_
        refine X.llF 79 .lmul (fun x y => x * y) i237_78 rfl rfl rfl (fun _ _ => rfl) (fun z575 hz575 => ?_)
        refine X.lload 81 i237_79 rfl rfl rfl ?_
        refine X.lload 83 i237_81 rfl rfl rfl ?_
        refine X.llF 84 .lmul (fun x y => x * y) i237_83 rfl rfl rfl (fun _ _ => rfl) (fun z576 hz576 => ?_)
        refine X.llF 85 .ladd (fun x y => x + y) i237_84 rfl rfl rfl (fun _ _ => rfl) (fun z577 hz577 => ?_)
        refine X.calls 88 [zl z577] [] [(0, zl z577)] i237_85 (by decide) rfl rfl (by omega) rfl rfl t214 (Nat.le_of_ble_eq_true rfl) (Nat.le_of_ble_eq_true rfl) rfl ?_
        refine c214_1 (B := B)  z577 (by omega) (hJ.up (by omega)) (by omega)  (fun v580 hv580 => ?_)
        show X (EE s) d 237 88 [(0, zr 4 44), (1, zi a1), (2, zi a2), (3, zi 0), (4, zl v570), (6, zl v574)] [zl v580] m _
        refine X.lstore 90 [(0, zr 4 44), (1, zi a1), (2, zi a2), (3, zi 0), (4, zl v570), (6, zl v574), (8, zl v580)] i237_88 rfl rfl rfl ?_
        refine X.iload_n 91 i237_90 rfl rfl rfl ?_
        by_cases h581 : a2 = 0
        · refine X.tsIn 140 0 i237_91 rfl (by omega) rfl rfl ?_
          refine X.cut [(4, zl v570)] i237_140 rfl ?_
          refine X.lload 142 i237_140 rfl rfl rfl ?_
          refine X.retl i237_142 rfl t237 ?_
          exact hQ v570 (by first | trivial | omega) 
        by_cases h582 : a2 = 1
        · refine X.tsIn 143 1 i237_91 rfl (by omega) rfl rfl ?_
          refine X.cut [(6, zl v574)] i237_143 rfl ?_
          refine X.lload 145 i237_143 rfl rfl rfl ?_
          refine X.retl i237_145 rfl t237 ?_
          exact hQ v574 (by first | trivial | omega) 
        by_cases h583 : a2 = 2
        · refine X.tsIn 146 2 i237_91 rfl (by omega) rfl rfl ?_
          refine X.cut [(0, zr 4 44), (1, zi a1), (3, zi 0)] i237_146 rfl ?_
          refine X.iload_n 147 i237_146 rfl rfl rfl ?_
          refine X.ifeq 158 150 i237_147 rfl rfl rfl (fun h584 => ?_) (fun h584 => (by exfalso; omega))
          refine X.cut [(0, zr 4 44), (1, zi a1)] i237_158 rfl ?_
          refine X.aload_n 159 i237_158 rfl rfl rfl ?_
          refine X.bipush 161 i237_159 rfl rfl (by decide) ?_
          refine X.iload_n 162 i237_161 rfl rfl rfl ?_
          refine X.callv 165 [zi 95, zi a1] [] [(0, zr 4 44), (1, zi 95), (2, zi a1)] i237_162 rfl (by decide) rfl rfl (by omega) rfl rfl (by decide) rfl t213 (Nat.le_of_ble_eq_true rfl) (Nat.le_of_ble_eq_true rfl) rfl ?_
          refine c213_1 (B := B)  95 a1 (by omega) (hJ.up (by omega)) (by omega) (by omega) (by omega) (fun v587 hv587 => ?_)
          show X (EE s) d 237 165 [(0, zr 4 44), (1, zi a1)] [zl v587] m _
          refine X.cut [] i237_165 rfl ?_
          refine X.retl i237_165 rfl t237 ?_
          exact hQ v587 (by first | trivial | omega) 
        by_cases h588 : a2 = 3
        · refine X.tsIn 166 3 i237_91 rfl (by omega) rfl rfl ?_
          refine X.cut [(0, zr 4 44), (1, zi a1), (3, zi 0)] i237_166 rfl ?_
          refine X.iload_n 167 i237_166 rfl rfl rfl ?_
          refine X.ifeq 178 170 i237_167 rfl rfl rfl (fun h589 => ?_) (fun h589 => (by exfalso; omega))
          refine X.cut [(0, zr 4 44), (1, zi a1)] i237_178 rfl ?_
          refine X.aload_n 179 i237_178 rfl rfl rfl ?_
          refine X.sipush 182 i237_179 rfl rfl (by decide) ?_
          refine X.iload_n 183 i237_182 rfl rfl rfl ?_
          refine X.callv 186 [zi 143, zi a1] [] [(0, zr 4 44), (1, zi 143), (2, zi a1)] i237_183 rfl (by decide) rfl rfl (by omega) rfl rfl (by decide) rfl t213 (Nat.le_of_ble_eq_true rfl) (Nat.le_of_ble_eq_true rfl) rfl ?_
          refine c213_1 (B := B)  143 a1 (by omega) (hJ.up (by omega)) (by omega) (by omega) (by omega) (fun v592 hv592 => ?_)
          show X (EE s) d 237 186 [(0, zr 4 44), (1, zi a1)] [zl v592] m _
          refine X.cut [] i237_186 rfl ?_
          refine X.retl i237_186 rfl t237 ?_
          exact hQ v592 (by first | trivial | omega) 
        by_cases h593 : a2 = 4
        · refine X.tsIn 187 4 i237_91 rfl (by omega) rfl rfl ?_
          refine X.cut [(8, zl v580)] i237_187 rfl ?_
          refine X.lload 189 i237_187 rfl rfl rfl ?_
          refine X.retl i237_189 rfl t237 ?_
          exact hQ v580 (by first | trivial | omega) 
        by_cases h594 : a2 = 5
        · refine X.tsIn 190 5 i237_91 rfl (by omega) rfl rfl ?_
          refine X.cut [(4, zl v570), (6, zl v574)] i237_190 rfl ?_
          refine X.lload 192 i237_190 rfl rfl rfl ?_
          refine X.lload 194 i237_192 rfl rfl rfl ?_
          refine X.calls 197 [zl v570, zl v574] [] [(0, zl v570), (2, zl v574)] i237_194 (by decide) rfl rfl (by omega) rfl rfl t221 (Nat.le_of_ble_eq_true rfl) (Nat.le_of_ble_eq_true rfl) rfl ?_
          refine X.lload_n 1 i221_0 rfl rfl rfl ?_
          refine X.lconst (y := 0) 2 i221_1 rfl rfl rfl ?_
          refine X.lcmp 3 i221_2 rfl rfl (fun z595 hz595 => ?_)
          refine X.iflt 20 6 i221_3 rfl rfl rfl (fun h596 => ?_) (fun h596 => ?_)
          · have h596c : v570 < 0 := by omega
            clear h596 hz595
            refine X.cut [(2, zl v574)] i221_20 rfl ?_
            refine X.lload_n 21 i221_20 rfl rfl rfl ?_
            refine X.lconst (y := 0) 22 i221_21 rfl rfl rfl ?_
            refine X.lcmp 23 i221_22 rfl rfl (fun z597 hz597 => ?_)
            refine X.iflt 30 26 i221_23 rfl rfl rfl (fun h598 => ?_) (fun h598 => ?_)
            · have h598c : v574 < 0 := by omega
              clear h598 hz597
              refine X.cut [] i221_30 rfl ?_
              refine X.iconst 31 i221_30 rfl rfl (by decide) ?_
              refine X.reti i221_31 rfl t221 ?_
              show X (EE s) d 237 197 [(4, zl v570), (6, zl v574)] [zi 3] m _
              refine X.i2l 198 i237_197 rfl rfl ?_
              refine X.retl i237_198 rfl t237 ?_
              exact hQ 3 (by first | trivial | omega) 
            · have h598c : v574 ≥ 0 := by omega
              clear h598 hz597
              refine X.iconst 27 i221_26 rfl rfl (by decide) ?_
              refine X.goto 31 i221_27 rfl rfl ?_
              refine X.cut [] i221_31 rfl ?_
              refine X.reti i221_31 rfl t221 ?_
              show X (EE s) d 237 197 [(4, zl v570), (6, zl v574)] [zi 2] m _
              refine X.i2l 198 i237_197 rfl rfl ?_
              refine X.retl i237_198 rfl t237 ?_
              exact hQ 2 (by first | trivial | omega) 
          · have h596c : v570 ≥ 0 := by omega
            clear h596 hz595
            refine X.lload_n 7 i221_6 rfl rfl rfl ?_
            refine X.lconst (y := 0) 8 i221_7 rfl rfl rfl ?_
            refine X.lcmp 9 i221_8 rfl rfl (fun z599 hz599 => ?_)
            refine X.iflt 16 12 i221_9 rfl rfl rfl (fun h600 => ?_) (fun h600 => ?_)
            · have h600c : v574 < 0 := by omega
              clear h600 hz599
              refine X.cut [] i221_16 rfl ?_
              refine X.iconst 17 i221_16 rfl rfl (by decide) ?_
              refine X.goto 31 i221_17 rfl rfl ?_
              refine X.reti i221_31 rfl t221 ?_
              show X (EE s) d 237 197 [(4, zl v570), (6, zl v574)] [zi 4] m _
              refine X.i2l 198 i237_197 rfl rfl ?_
              refine X.retl i237_198 rfl t237 ?_
              exact hQ 4 (by first | trivial | omega) 
            · have h600c : v574 ≥ 0 := by omega
              clear h600 hz599
              refine X.iconst 13 i221_12 rfl rfl (by decide) ?_
              refine X.goto 31 i221_13 rfl rfl ?_
              refine X.cut [] i221_31 rfl ?_
              refine X.reti i221_31 rfl t221 ?_
              show X (EE s) d 237 197 [(4, zl v570), (6, zl v574)] [zi 1] m _
              refine X.i2l 198 i237_197 rfl rfl ?_
              refine X.retl i237_198 rfl t237 ?_
              exact hQ 1 (by first | trivial | omega) 
        by_cases h601 : a2 = 6
        · refine X.tsIn 199 6 i237_91 rfl (by omega) rfl rfl ?_
          refine X.cut [(0, zr 4 44), (1, zi a1), (3, zi 0)] i237_199 rfl ?_
          refine X.iload_n 200 i237_199 rfl rfl rfl ?_
          refine X.ifeq 212 203 i237_200 rfl rfl rfl (fun h602 => ?_) (fun h602 => (by exfalso; omega))
          refine X.cut [(0, zr 4 44), (1, zi a1)] i237_212 rfl ?_
          refine X.aload_n 213 i237_212 rfl rfl rfl ?_
          refine X.bipush 215 i237_213 rfl rfl (by decide) ?_
          refine X.iload_n 216 i237_215 rfl rfl rfl ?_
          refine X.callv 219 [zi 95, zi a1] [] [(0, zr 4 44), (1, zi 95), (2, zi a1)] i237_216 rfl (by decide) rfl rfl (by omega) rfl rfl (by decide) rfl t213 (Nat.le_of_ble_eq_true rfl) (Nat.le_of_ble_eq_true rfl) rfl ?_
          refine c213_1 (B := B)  95 a1 (by omega) (hJ.up (by omega)) (by omega) (by omega) (by omega) (fun v605 hv605 => ?_)
          show X (EE s) d 237 219 [(0, zr 4 44), (1, zi a1)] [zl v605] m _
          refine X.aload_n 220 i237_219 rfl rfl rfl ?_
          refine X.callv 223 [] [zl v605] [(0, zr 4 44)] i237_220 rfl (by decide) rfl rfl (by omega) rfl rfl (by decide) rfl t211 (Nat.le_of_ble_eq_true rfl) (Nat.le_of_ble_eq_true rfl) rfl ?_
          refine X.aload_n 1 i211_0 rfl rfl rfl ?_
          refine X.getF 4 i211_1 rfl rfl (by decide) rfl rfl ?_
          refine X.iconst 5 i211_4 rfl rfl (by decide) ?_
          refine X.lald 6 i211_5 rfl rfl (by decide) rfl (by omega) ?_
          have h606 := r45_2 hJ 4
          refine X.l2i 7 i211_6 rfl rfl (by omega) ?_
          refine X.reti i211_7 rfl t211 ?_
          show X (EE s) d 237 223 [(0, zr 4 44), (1, zi a1)] [zi (m 4 45 2), zl v605] m _
          refine X.i2l 224 i237_223 rfl rfl ?_
          refine X.ldivF 225 i237_224 rfl rfl (by omega) (fun z607 => ?_)
          refine X.calls 228 [zl z607] [] [(0, zl z607)] i237_225 (by decide) rfl rfl (by omega) rfl rfl t214 (Nat.le_of_ble_eq_true rfl) (Nat.le_of_ble_eq_true rfl) rfl ?_
          refine c214_1 (B := B)  z607 (by omega) (hJ.up (by omega)) (by omega)  (fun v610 hv610 => ?_)
          show X (EE s) d 237 228 [(0, zr 4 44), (1, zi a1)] [zl v610] m _
          refine X.cut [] i237_228 rfl ?_
          refine X.retl i237_228 rfl t237 ?_
          exact hQ v610 (by first | trivial | omega) 
        by_cases h611 : a2 = 7
        · refine X.tsIn 229 7 i237_91 rfl (by omega) rfl rfl ?_
          refine X.cut [(0, zr 4 44), (1, zi a1), (3, zi 0)] i237_229 rfl ?_
          refine X.iload_n 230 i237_229 rfl rfl rfl ?_
          refine X.ifeq 243 233 i237_230 rfl rfl rfl (fun h612 => ?_) (fun h612 => (by exfalso; omega))
          refine X.cut [(0, zr 4 44), (1, zi a1)] i237_243 rfl ?_
          refine X.aload_n 244 i237_243 rfl rfl rfl ?_
          refine X.sipush 247 i237_244 rfl rfl (by decide) ?_
          refine X.iload_n 248 i237_247 rfl rfl rfl ?_
          refine X.callv 251 [zi 143, zi a1] [] [(0, zr 4 44), (1, zi 143), (2, zi a1)] i237_248 rfl (by decide) rfl rfl (by omega) rfl rfl (by decide) rfl t213 (Nat.le_of_ble_eq_true rfl) (Nat.le_of_ble_eq_true rfl) rfl ?_
          refine c213_1 (B := B)  143 a1 (by omega) (hJ.up (by omega)) (by omega) (by omega) (by omega) (fun v615 hv615 => ?_)
          show X (EE s) d 237 251 [(0, zr 4 44), (1, zi a1)] [zl v615] m _
          refine X.aload_n 252 i237_251 rfl rfl rfl ?_
          refine X.callv 255 [] [zl v615] [(0, zr 4 44)] i237_252 rfl (by decide) rfl rfl (by omega) rfl rfl (by decide) rfl t211 (Nat.le_of_ble_eq_true rfl) (Nat.le_of_ble_eq_true rfl) rfl ?_
          refine X.aload_n 1 i211_0 rfl rfl rfl ?_
          refine X.getF 4 i211_1 rfl rfl (by decide) rfl rfl ?_
          refine X.iconst 5 i211_4 rfl rfl (by decide) ?_
          refine X.lald 6 i211_5 rfl rfl (by decide) rfl (by omega) ?_
          have h616 := r45_2 hJ 4
          refine X.l2i 7 i211_6 rfl rfl (by omega) ?_
          refine X.reti i211_7 rfl t211 ?_
          show X (EE s) d 237 255 [(0, zr 4 44), (1, zi a1)] [zi (m 4 45 2), zl v615] m _
          refine X.i2l 256 i237_255 rfl rfl ?_
          refine X.ldivF 257 i237_256 rfl rfl (by omega) (fun z617 => ?_)
          refine X.calls 260 [zl z617] [] [(0, zl z617)] i237_257 (by decide) rfl rfl (by omega) rfl rfl t214 (Nat.le_of_ble_eq_true rfl) (Nat.le_of_ble_eq_true rfl) rfl ?_
          refine c214_1 (B := B)  z617 (by omega) (hJ.up (by omega)) (by omega)  (fun v620 hv620 => ?_)
          show X (EE s) d 237 260 [(0, zr 4 44), (1, zi a1)] [zl v620] m _
          refine X.cut [] i237_260 rfl ?_
          refine X.retl i237_260 rfl t237 ?_
          exact hQ v620 (by first | trivial | omega) 
        by_cases h621 : a2 = 8
        · refine X.tsIn 261 8 i237_91 rfl (by omega) rfl rfl ?_
          refine X.cut [(4, zl v570), (8, zl v580)] i237_261 rfl ?_
          refine X.lload 263 i237_261 rfl rfl rfl ?_
          refine X.lload 265 i237_263 rfl rfl rfl ?_
          refine X.calls 268 [zl v570, zl v580] [] [(0, zl v570), (2, zl v580)] i237_265 (by decide) rfl rfl (by omega) rfl rfl t239 (Nat.le_of_ble_eq_true rfl) (Nat.le_of_ble_eq_true rfl) rfl ?_
          refine X.lload_n 1 i239_0 rfl rfl rfl ?_
          refine X.lconst (y := 0) 2 i239_1 rfl rfl rfl ?_
          refine X.lcmp 3 i239_2 rfl rfl (fun z622 hz622 => ?_)
          refine X.ifne 10 6 i239_3 rfl rfl rfl (fun h623 => ?_) (fun h623 => ?_)
          · have h623c : v580 ≠ 0 := by omega
            clear h623 hz622
            refine X.lload_n 11 i239_10 rfl rfl rfl ?_
            refine X.lconst (y := 0) 12 i239_11 rfl rfl rfl ?_
            refine X.lcmp 13 i239_12 rfl rfl (fun z624 hz624 => ?_)
            refine X.ifge 28 16 i239_13 rfl rfl rfl (fun h625 => ?_) (fun h625 => ?_)
            · have h625c : v570 ≥ 0 := by omega
              clear h625 hz624
              refine X.ldc2 31 i239_28 rfl rfl (by decide) ?_
              refine X.lload_n 32 i239_31 rfl rfl rfl ?_
              refine X.llF 33 .lmul (fun x y => x * y) i239_32 rfl rfl rfl (fun _ _ => rfl) (fun z626 hz626 => ?_)
              refine X.lload_n 34 i239_33 rfl rfl rfl ?_
              refine X.ldivF 35 i239_34 rfl rfl (by omega) (fun z627 => ?_)
              refine X.cut [] i239_35 rfl ?_
              refine X.retl i239_35 rfl t239 ?_
              show X (EE s) d 237 268 [(4, zl v570), (8, zl v580)] [zl z627] m _
              refine X.retl i237_268 rfl t237 ?_
              exact hQ z627 (by first | trivial | omega) 
            · have h625c : v570 < 0 := by omega
              clear h625 hz624
              refine X.ldc2 19 i239_16 rfl rfl (by decide) ?_
              refine X.lload_n 20 i239_19 rfl rfl rfl ?_
              refine X.lnegF 21 i239_20 rfl rfl (fun z628 hz628 => ?_)
              refine X.llF 22 .lmul (fun x y => x * y) i239_21 rfl rfl rfl (fun _ _ => rfl) (fun z629 hz629 => ?_)
              refine X.lload_n 23 i239_22 rfl rfl rfl ?_
              refine X.ldivF 24 i239_23 rfl rfl (by omega) (fun z630 => ?_)
              refine X.lnegF 25 i239_24 rfl rfl (fun z631 hz631 => ?_)
              refine X.goto 35 i239_25 rfl rfl ?_
              refine X.cut [] i239_35 rfl ?_
              refine X.retl i239_35 rfl t239 ?_
              show X (EE s) d 237 268 [(4, zl v570), (8, zl v580)] [zl z631] m _
              refine X.retl i237_268 rfl t237 ?_
              exact hQ z631 (by first | trivial | omega) 
          · have h623c : v580 = 0 := by omega
            clear h623 hz622
            refine X.lconst (y := 0) 7 i239_6 rfl rfl rfl ?_
            refine X.goto 35 i239_7 rfl rfl ?_
            refine X.cut [] i239_35 rfl ?_
            refine X.retl i239_35 rfl t239 ?_
            show X (EE s) d 237 268 [(4, zl v570), (8, zl v580)] [zl 0] m _
            refine X.retl i237_268 rfl t237 ?_
            exact hQ 0 (by first | trivial | omega) 
        refine X.tsOut 269 i237_91 rfl (by omega) rfl ?_
        refine X.cut [] i237_269 rfl ?_
        refine X.ldc2 272 i237_269 rfl rfl (by decide) ?_
        refine X.retl i237_272 rfl t237 ?_
        exact hQ (-10000000000) (by first | trivial | omega) 
theorem l72_16_2 {s : Nat × (Nat → Int32)} {S : zS} {m0 m : zM} {B : Int} {d : Nat} {Q : Option zV → zM → Prop} (g0 : Nat) (y1 : Int) (hd : 13 ≤ d) (hJ : J S m0 B m) (hB9 : B ≤ 1000000000) (hy1 : 0 ≤ y1 ∧ y1 ≤ 24)
    (K37 : ∀ (x3 : Int) , (True) → X (EE s) d 72 37 [(3, zl x3)] [] m Q) :
    ∀ (n : Nat) (y3 y5 : Int) , (0 ≤ y5 ∧ y5 ≤ 4) → 4 - y5 < (n : Int) → X (EE s) d 72 16 [(0, zr g0 24), (1, zi y1), (3, zl y3), (5, zi y5)] [] m Q := by
  intro n
  induction n with
  | zero =>
    intro y3 y5 hy5 hn
    exfalso
    omega
  | succ n ih =>
    intro y3 y5 hy5 hn
    refine X.iload 18 i72_16 rfl rfl rfl ?_
    refine X.iconst 19 i72_18 rfl rfl (by decide) ?_
    refine X.icmpge 37 22 i72_19 rfl rfl rfl (fun h505 => ?_) (fun h505 => ?_)
    · refine X.cut [(3, zl y3)] i72_37 rfl ?_
      exact K37 y3 (by first | trivial | omega)
    · refine X.lload_n 23 i72_22 rfl rfl rfl ?_
      refine X.aload_n 24 i72_23 rfl rfl rfl ?_
      refine X.iload_n 25 i72_24 rfl rfl rfl ?_
      refine X.iload 27 i72_25 rfl rfl rfl ?_
      refine X.iadd 28 i72_27 rfl rfl (by omega) ?_
      refine X.lald 29 i72_28 rfl rfl (by decide) rfl (by omega) ?_
      refine X.llF 30 .ladd (fun x y => x + y) i72_29 rfl rfl rfl (fun _ _ => rfl) (fun z506 hz506 => ?_)
      refine X.lstore_n 31 [(0, zr g0 24), (1, zi y1), (3, zl z506), (5, zi y5)] i72_30 rfl rfl rfl ?_
      refine X.iinc 34 [(0, zr g0 24), (1, zi y1), (3, zl z506), (5, zi (y5 + 1))] i72_31 rfl rfl rfl (by omega) rfl ?_
      refine X.goto 16 i72_34 rfl rfl ?_
      exact ih z506 (y5 + 1) (by omega) (by omega)
-- WorkMeter$Registers.sumIn
theorem c72_2 {s : Nat × (Nat → Int32)} {S : zS} {m0 m : zM} {B : Int} {d : Nat} {Q : Option zV → zM → Prop} (g0 : Nat) (a1 a2 : Int) (hd : 13 ≤ d) (hJ : J S m0 B m) (hB : B + 0 ≤ 1000000000) (ha1 : 0 ≤ a1 ∧ a1 ≤ 24) (ha2 : (-1) ≤ a2 ∧ a2 ≤ (-1)) (hQ : ∀ (v : Int), (True) → Q (some (zl v)) m) : X (EE s) d 72 0 [(0, zr g0 24), (1, zi a1), (2, zi a2)] [] m Q := by
  refine X.iload_n 1 i72_0 rfl rfl rfl ?_
  refine X.iconst 2 i72_1 rfl rfl (by decide) ?_
  refine X.icmpeq 11 5 i72_2 rfl rfl rfl (fun h501 => ?_) (fun h501 => (by exfalso; omega))
  refine X.cut [(0, zr g0 24), (1, zi a1)] i72_11 rfl ?_
  refine X.lconst (y := 0) 12 i72_11 rfl rfl rfl ?_
  refine X.lstore_n 13 [(0, zr g0 24), (1, zi a1), (3, zl 0)] i72_12 rfl rfl rfl ?_
  refine X.iconst 14 i72_13 rfl rfl (by decide) ?_
  refine X.istore 16 [(0, zr g0 24), (1, zi a1), (3, zl 0), (5, zi 0)] i72_14 rfl rfl rfl ?_
  refine l72_16_2 (s := s) (S := S) (m0 := m0) (m := m) (B := B) (d := d) g0 a1 (by omega) (hJ.up (by omega)) (by omega) (by omega) (fun y502 hby502 => ?_) ((4 - 0 : Int).toNat + 1) 0 0 (by omega) (by omega)
  refine X.lload_n 38 i72_37 rfl rfl rfl ?_
  refine X.retl i72_38 rfl t72 ?_
  exact hQ y502 (by first | trivial | omega) 
-- WorkMeter$Registers.sumIn
theorem c72_3 {s : Nat × (Nat → Int32)} {S : zS} {m0 m : zM} {B : Int} {d : Nat} {Q : Option zV → zM → Prop} (g0 : Nat) (a1 a2 : Int) (hd : 13 ≤ d) (hJ : J S m0 B m) (hB : B + 0 ≤ 1000000000) (ha1 : 0 ≤ a1 ∧ a1 ≤ 24) (ha2 : 0 ≤ a2 ∧ a2 ≤ 3) (hQ : ∀ (v : Int), (True) → Q (some (zl v)) m) : X (EE s) d 72 0 [(0, zr g0 24), (1, zi a1), (2, zi a2)] [] m Q := by
  refine X.iload_n 1 i72_0 rfl rfl rfl ?_
  refine X.iconst 2 i72_1 rfl rfl (by decide) ?_
  refine X.icmpeq 11 5 i72_2 rfl rfl rfl (fun h501 => (by exfalso; omega)) (fun h501 => ?_)
  refine X.aload_n 6 i72_5 rfl rfl rfl ?_
  refine X.iload_n 7 i72_6 rfl rfl rfl ?_
  refine X.iload_n 8 i72_7 rfl rfl rfl ?_
  refine X.iadd 9 i72_8 rfl rfl (by omega) ?_
  refine X.lald 10 i72_9 rfl rfl (by decide) rfl (by omega) ?_
  refine X.retl i72_10 rfl t72 ?_
  exact hQ (m g0 24 (a1 + a2)) (by first | trivial | omega) 
-- WorkMeter.raw
theorem c144_1 {s : Nat × (Nat → Int32)} {S : zS} {m0 m : zM} {B : Int} {d : Nat} {Q : Option zV → zM → Prop} (a1 a2 : Int) (hd : 15 ≤ d) (hJ : J S m0 B m) (hB : B + 0 ≤ 1000000000) (ha1 : (-2147483648) ≤ a1 ∧ a1 ≤ 2147483647) (ha2 : (-2147483648) ≤ a2 ∧ a2 ≤ 2147483647) (hQ : ∀ (v : Int), (True) → Q (some (zl v)) m) : X (EE s) d 144 0 [(0, zr 4 40), (1, zi a1), (2, zi a2)] [] m Q := by
  refine X.iload_n 1 i144_0 rfl rfl rfl ?_
  refine X.calls 4 [zi a1] [] [(0, zi a1)] i144_1 (by decide) rfl rfl (by omega) rfl rfl t145 (Nat.le_of_ble_eq_true rfl) (Nat.le_of_ble_eq_true rfl) rfl ?_
  refine X.iload_n 1 i145_0 rfl rfl rfl ?_
  refine X.iflt 14 4 i145_1 rfl rfl rfl (fun h501 => ?_) (fun h501 => ?_)
  · refine X.cut [] i145_14 rfl ?_
    refine X.iconst 15 i145_14 rfl rfl (by decide) ?_
    refine X.retz i145_15 rfl t145 (by omega) ?_
    show X (EE s) d 144 4 [(0, zr 4 40), (1, zi a1), (2, zi a2)] [zi 0] m _
    refine X.ifeq 14 7 i144_4 rfl rfl rfl (fun h502 => ?_) (fun h502 => (by exfalso; omega))
    refine X.cut [] i144_14 rfl ?_
    refine X.ldc2 17 i144_14 rfl rfl (by decide) ?_
    refine X.retl i144_17 rfl t144 ?_
    exact hQ (-1) (by first | trivial | omega) 
  · refine X.iload_n 5 i145_4 rfl rfl rfl ?_
    refine X.bipush 7 i145_5 rfl rfl (by decide) ?_
    refine X.icmpge 14 10 i145_7 rfl rfl rfl (fun h503 => ?_) (fun h503 => ?_)
    · refine X.cut [] i145_14 rfl ?_
      refine X.iconst 15 i145_14 rfl rfl (by decide) ?_
      refine X.retz i145_15 rfl t145 (by omega) ?_
      show X (EE s) d 144 4 [(0, zr 4 40), (1, zi a1), (2, zi a2)] [zi 0] m _
      refine X.ifeq 14 7 i144_4 rfl rfl rfl (fun h504 => ?_) (fun h504 => (by exfalso; omega))
      refine X.cut [] i144_14 rfl ?_
      refine X.ldc2 17 i144_14 rfl rfl (by decide) ?_
      refine X.retl i144_17 rfl t144 ?_
      exact hQ (-1) (by first | trivial | omega) 
    · refine X.iconst 11 i145_10 rfl rfl (by decide) ?_
      refine X.goto 15 i145_11 rfl rfl ?_
      refine X.cut [] i145_15 rfl ?_
      refine X.retz i145_15 rfl t145 (by omega) ?_
      show X (EE s) d 144 4 [(0, zr 4 40), (1, zi a1), (2, zi a2)] [zi 1] m _
      refine X.ifeq 14 7 i144_4 rfl rfl rfl (fun h505 => (by exfalso; omega)) (fun h505 => ?_)
      refine X.iload_n 8 i144_7 rfl rfl rfl ?_
      refine X.calls 11 [zi a2] [] [(0, zi a2)] i144_8 (by decide) rfl rfl (by omega) rfl rfl t146 (Nat.le_of_ble_eq_true rfl) (Nat.le_of_ble_eq_true rfl) rfl ?_
      refine X.iload_n 1 i146_0 rfl rfl rfl ?_
      refine X.iconst 2 i146_1 rfl rfl (by decide) ?_
      refine X.icmpeq 12 5 i146_2 rfl rfl rfl (fun h506 => ?_) (fun h506 => ?_)
      · refine X.cut [] i146_12 rfl ?_
        refine X.iconst 13 i146_12 rfl rfl (by decide) ?_
        refine X.goto 17 i146_13 rfl rfl ?_
        refine X.retz i146_17 rfl t146 (by omega) ?_
        show X (EE s) d 144 11 [(0, zr 4 40), (1, zi a1), (2, zi a2)] [zi 1] m _
        refine X.ifne 18 14 i144_11 rfl rfl rfl (fun h507 => ?_) (fun h507 => (by exfalso; omega))
        refine X.aload_n 19 i144_18 rfl rfl rfl ?_
        refine X.getF 22 i144_19 rfl rfl (by decide) rfl rfl ?_
        refine X.getR 25 i144_22 rfl rfl (by decide) rfl rfl ?_
        refine X.iload_n 26 i144_25 rfl rfl rfl ?_
        refine X.iload_n 27 i144_26 rfl rfl rfl ?_
        refine X.callv 30 [zi a1, zi a2] [] [(0, zr 0 23), (1, zi a1), (2, zi a2)] i144_27 rfl (by decide) rfl rfl (by omega) rfl rfl (by decide) rfl t71 (Nat.le_of_ble_eq_true rfl) (Nat.le_of_ble_eq_true rfl) rfl ?_
        refine X.aload_n 1 i71_0 rfl rfl rfl ?_
        refine X.getR 4 i71_1 rfl rfl (by decide) rfl rfl ?_
        refine X.iload_n 5 i71_4 rfl rfl rfl ?_
        refine X.iconst 6 i71_5 rfl rfl (by decide) ?_
        refine X.imul 7 i71_6 rfl rfl (by omega) ?_
        refine X.iload_n 8 i71_7 rfl rfl rfl ?_
        refine X.calls 11 [zr 0 24, zi (a1 * 4), zi a2] [] [(0, zr 0 24), (1, zi (a1 * 4)), (2, zi a2)] i71_8 (by decide) rfl rfl (by omega) rfl rfl t72 (Nat.le_of_ble_eq_true rfl) (Nat.le_of_ble_eq_true rfl) rfl ?_
        refine c72_2 (B := B) 0 (a1 * 4) a2 (by omega) (hJ.up (by omega)) (by omega) (by omega) (by omega) (fun v510 hv510 => ?_)
        show X (EE s) (d - 1) 71 11 [(0, zr 0 23), (1, zi a1), (2, zi a2)] [zl v510] m _
        refine X.retl i71_11 rfl t71 ?_
        show X (EE s) d 144 30 [(0, zr 4 40), (1, zi a1), (2, zi a2)] [zl v510] m _
        refine X.retl i144_30 rfl t144 ?_
        exact hQ v510 (by first | trivial | omega) 
      · refine X.iload_n 6 i146_5 rfl rfl rfl ?_
        refine X.calls 9 [zi a2] [] [(0, zi a2)] i146_6 (by decide) rfl rfl (by omega) rfl rfl t80 (Nat.le_of_ble_eq_true rfl) (Nat.le_of_ble_eq_true rfl) rfl ?_
        refine X.iload_n 1 i80_0 rfl rfl rfl ?_
        refine X.iflt 13 4 i80_1 rfl rfl rfl (fun h511 => ?_) (fun h511 => ?_)
        · refine X.cut [] i80_13 rfl ?_
          refine X.iconst 14 i80_13 rfl rfl (by decide) ?_
          refine X.retz i80_14 rfl t80 (by omega) ?_
          show X (EE s) (d - 1) 146 9 [(0, zi a2)] [zi 0] m _
          refine X.ifeq 16 12 i146_9 rfl rfl rfl (fun h512 => ?_) (fun h512 => (by exfalso; omega))
          refine X.cut [] i146_16 rfl ?_
          refine X.iconst 17 i146_16 rfl rfl (by decide) ?_
          refine X.retz i146_17 rfl t146 (by omega) ?_
          show X (EE s) d 144 11 [(0, zr 4 40), (1, zi a1), (2, zi a2)] [zi 0] m _
          refine X.ifne 18 14 i144_11 rfl rfl rfl (fun h513 => (by exfalso; omega)) (fun h513 => ?_)
          refine X.cut [] i144_14 rfl ?_
          refine X.ldc2 17 i144_14 rfl rfl (by decide) ?_
          refine X.retl i144_17 rfl t144 ?_
          exact hQ (-1) (by first | trivial | omega) 
        · refine X.iload_n 5 i80_4 rfl rfl rfl ?_
          refine X.iconst 6 i80_5 rfl rfl (by decide) ?_
          refine X.icmpge 13 9 i80_6 rfl rfl rfl (fun h514 => ?_) (fun h514 => ?_)
          · refine X.cut [] i80_13 rfl ?_
            refine X.iconst 14 i80_13 rfl rfl (by decide) ?_
            refine X.retz i80_14 rfl t80 (by omega) ?_
            show X (EE s) (d - 1) 146 9 [(0, zi a2)] [zi 0] m _
            refine X.ifeq 16 12 i146_9 rfl rfl rfl (fun h515 => ?_) (fun h515 => (by exfalso; omega))
            refine X.cut [] i146_16 rfl ?_
            refine X.iconst 17 i146_16 rfl rfl (by decide) ?_
            refine X.retz i146_17 rfl t146 (by omega) ?_
            show X (EE s) d 144 11 [(0, zr 4 40), (1, zi a1), (2, zi a2)] [zi 0] m _
            refine X.ifne 18 14 i144_11 rfl rfl rfl (fun h516 => (by exfalso; omega)) (fun h516 => ?_)
            refine X.cut [] i144_14 rfl ?_
            refine X.ldc2 17 i144_14 rfl rfl (by decide) ?_
            refine X.retl i144_17 rfl t144 ?_
            exact hQ (-1) (by first | trivial | omega) 
          · refine X.iconst 10 i80_9 rfl rfl (by decide) ?_
            refine X.goto 14 i80_10 rfl rfl ?_
            refine X.cut [] i80_14 rfl ?_
            refine X.retz i80_14 rfl t80 (by omega) ?_
            show X (EE s) (d - 1) 146 9 [(0, zi a2)] [zi 1] m _
            refine X.ifeq 16 12 i146_9 rfl rfl rfl (fun h517 => (by exfalso; omega)) (fun h517 => ?_)
            refine X.cut [] i146_12 rfl ?_
            refine X.iconst 13 i146_12 rfl rfl (by decide) ?_
            refine X.goto 17 i146_13 rfl rfl ?_
            refine X.retz i146_17 rfl t146 (by omega) ?_
            show X (EE s) d 144 11 [(0, zr 4 40), (1, zi a1), (2, zi a2)] [zi 1] m _
            refine X.ifne 18 14 i144_11 rfl rfl rfl (fun h518 => ?_) (fun h518 => (by exfalso; omega))
            refine X.aload_n 19 i144_18 rfl rfl rfl ?_
            refine X.getF 22 i144_19 rfl rfl (by decide) rfl rfl ?_
            refine X.getR 25 i144_22 rfl rfl (by decide) rfl rfl ?_
            refine X.iload_n 26 i144_25 rfl rfl rfl ?_
            refine X.iload_n 27 i144_26 rfl rfl rfl ?_
            refine X.callv 30 [zi a1, zi a2] [] [(0, zr 0 23), (1, zi a1), (2, zi a2)] i144_27 rfl (by decide) rfl rfl (by omega) rfl rfl (by decide) rfl t71 (Nat.le_of_ble_eq_true rfl) (Nat.le_of_ble_eq_true rfl) rfl ?_
            refine X.aload_n 1 i71_0 rfl rfl rfl ?_
            refine X.getR 4 i71_1 rfl rfl (by decide) rfl rfl ?_
            refine X.iload_n 5 i71_4 rfl rfl rfl ?_
            refine X.iconst 6 i71_5 rfl rfl (by decide) ?_
            refine X.imul 7 i71_6 rfl rfl (by omega) ?_
            refine X.iload_n 8 i71_7 rfl rfl rfl ?_
            refine X.calls 11 [zr 0 24, zi (a1 * 4), zi a2] [] [(0, zr 0 24), (1, zi (a1 * 4)), (2, zi a2)] i71_8 (by decide) rfl rfl (by omega) rfl rfl t72 (Nat.le_of_ble_eq_true rfl) (Nat.le_of_ble_eq_true rfl) rfl ?_
            refine c72_3 (B := B) 0 (a1 * 4) a2 (by omega) (hJ.up (by omega)) (by omega) (by omega) (by omega) (fun v521 hv521 => ?_)
            show X (EE s) (d - 1) 71 11 [(0, zr 0 23), (1, zi a1), (2, zi a2)] [zl v521] m _
            refine X.retl i71_11 rfl t71 ?_
            show X (EE s) d 144 30 [(0, zr 4 40), (1, zi a1), (2, zi a2)] [zl v521] m _
            refine X.retl i144_30 rfl t144 ?_
            exact hQ v521 (by first | trivial | omega) 
-- WorkMeterModel.raw
theorem c295_1 {s : Nat × (Nat → Int32)} {S : zS} {m0 m : zM} {B : Int} {d : Nat} {Q : Option zV → zM → Prop} (a1 a2 : Int) (hd : 13 ≤ d) (hJ : J S m0 B m) (hB : B + 0 ≤ 1000000000) (ha1 : (-2147483648) ≤ a1 ∧ a1 ≤ 2147483647) (ha2 : (-2147483648) ≤ a2 ∧ a2 ≤ 2147483647) (hQ : ∀ (v : Int), (True) → Q (some (zl v)) m) : X (EE s) d 295 0 [(0, zr 4 44), (1, zi a1), (2, zi a2)] [] m Q := by
  refine X.iload_n 1 i295_0 rfl rfl rfl ?_
  refine X.iload_n 2 i295_1 rfl rfl rfl ?_
  refine X.calls 5 [zi a1, zi a2] [] [(0, zi a1), (1, zi a2)] i295_2 (by decide) rfl rfl (by omega) rfl rfl t290 (Nat.le_of_ble_eq_true rfl) (Nat.le_of_ble_eq_true rfl) rfl ?_
  refine X.iload_n 1 i290_0 rfl rfl rfl ?_
  refine X.i2l 2 i290_1 rfl rfl ?_
  refine X.lconst (y := 0) 3 i290_2 rfl rfl rfl ?_
  refine X.ldc2 6 i290_3 rfl rfl (by decide) ?_
  refine X.calls 9 [zl a1, zl 0, zl 6] [] [(0, zl a1), (2, zl 0), (4, zl 6)] i290_6 (by decide) rfl rfl (by omega) rfl rfl t204 (Nat.le_of_ble_eq_true rfl) (Nat.le_of_ble_eq_true rfl) rfl ?_
  refine X.lload_n 1 i204_0 rfl rfl rfl ?_
  refine X.lload_n 2 i204_1 rfl rfl rfl ?_
  refine X.lcmp 3 i204_2 rfl rfl (fun z501 hz501 => ?_)
  refine X.iflt 17 6 i204_3 rfl rfl rfl (fun h502 => ?_) (fun h502 => ?_)
  · have h502c : a1 < 0 := by omega
    clear h502 hz501
    refine X.cut [] i204_17 rfl ?_
    refine X.iconst 18 i204_17 rfl rfl (by decide) ?_
    refine X.retz i204_18 rfl t204 (by omega) ?_
    show X (EE s) (d - 1) 290 9 [(0, zi a1), (1, zi a2)] [zi 0] m _
    refine X.ifeq 28 12 i290_9 rfl rfl rfl (fun h503 => ?_) (fun h503 => (by exfalso; omega))
    refine X.cut [] i290_28 rfl ?_
    refine X.iconst 29 i290_28 rfl rfl (by decide) ?_
    refine X.retz i290_29 rfl t290 (by omega) ?_
    show X (EE s) d 295 5 [(0, zr 4 44), (1, zi a1), (2, zi a2)] [zi 0] m _
    refine X.ifeq 24 8 i295_5 rfl rfl rfl (fun h504 => ?_) (fun h504 => (by exfalso; omega))
    refine X.cut [] i295_24 rfl ?_
    refine X.ldc2 27 i295_24 rfl rfl (by decide) ?_
    refine X.retl i295_27 rfl t295 ?_
    exact hQ (-1) (by first | trivial | omega) 
  · have h502c : a1 ≥ 0 := by omega
    clear h502 hz501
    refine X.lload_n 7 i204_6 rfl rfl rfl ?_
    refine X.lload 9 i204_7 rfl rfl rfl ?_
    refine X.lcmp 10 i204_9 rfl rfl (fun z505 hz505 => ?_)
    refine X.ifgt 17 13 i204_10 rfl rfl rfl (fun h506 => ?_) (fun h506 => ?_)
    · have h506c : a1 > 6 := by omega
      clear h506 hz505
      refine X.cut [] i204_17 rfl ?_
      refine X.iconst 18 i204_17 rfl rfl (by decide) ?_
      refine X.retz i204_18 rfl t204 (by omega) ?_
      show X (EE s) (d - 1) 290 9 [(0, zi a1), (1, zi a2)] [zi 0] m _
      refine X.ifeq 28 12 i290_9 rfl rfl rfl (fun h507 => ?_) (fun h507 => (by exfalso; omega))
      refine X.cut [] i290_28 rfl ?_
      refine X.iconst 29 i290_28 rfl rfl (by decide) ?_
      refine X.retz i290_29 rfl t290 (by omega) ?_
      show X (EE s) d 295 5 [(0, zr 4 44), (1, zi a1), (2, zi a2)] [zi 0] m _
      refine X.ifeq 24 8 i295_5 rfl rfl rfl (fun h508 => ?_) (fun h508 => (by exfalso; omega))
      refine X.cut [] i295_24 rfl ?_
      refine X.ldc2 27 i295_24 rfl rfl (by decide) ?_
      refine X.retl i295_27 rfl t295 ?_
      exact hQ (-1) (by first | trivial | omega) 
    · have h506c : a1 ≤ 6 := by omega
      clear h506 hz505
      refine X.iconst 14 i204_13 rfl rfl (by decide) ?_
      refine X.goto 18 i204_14 rfl rfl ?_
      refine X.cut [] i204_18 rfl ?_
      refine X.retz i204_18 rfl t204 (by omega) ?_
      show X (EE s) (d - 1) 290 9 [(0, zi a1), (1, zi a2)] [zi 1] m _
      refine X.ifeq 28 12 i290_9 rfl rfl rfl (fun h509 => (by exfalso; omega)) (fun h509 => ?_)
      refine X.iload_n 13 i290_12 rfl rfl rfl ?_
      refine X.iconst 14 i290_13 rfl rfl (by decide) ?_
      refine X.icmpeq 24 17 i290_14 rfl rfl rfl (fun h510 => ?_) (fun h510 => ?_)
      · refine X.cut [] i290_24 rfl ?_
        refine X.iconst 25 i290_24 rfl rfl (by decide) ?_
        refine X.goto 29 i290_25 rfl rfl ?_
        refine X.retz i290_29 rfl t290 (by omega) ?_
        show X (EE s) d 295 5 [(0, zr 4 44), (1, zi a1), (2, zi a2)] [zi 1] m _
        refine X.ifeq 24 8 i295_5 rfl rfl rfl (fun h511 => (by exfalso; omega)) (fun h511 => ?_)
        refine X.aload_n 9 i295_8 rfl rfl rfl ?_
        refine X.getF 12 i295_9 rfl rfl (by decide) rfl rfl ?_
        refine X.bipush 14 i295_12 rfl rfl (by decide) ?_
        refine X.iload_n 15 i295_14 rfl rfl rfl ?_
        refine X.iload_n 16 i295_15 rfl rfl rfl ?_
        refine X.calls 19 [zi a1, zi a2] [zi 60, zr 4 45] [(0, zi a1), (1, zi a2)] i295_16 (by decide) rfl rfl (by omega) rfl rfl t291 (Nat.le_of_ble_eq_true rfl) (Nat.le_of_ble_eq_true rfl) rfl ?_
        refine X.iconst 1 i291_0 rfl rfl (by decide) ?_
        refine X.iload_n 2 i291_1 rfl rfl rfl ?_
        refine X.imul 3 i291_2 rfl rfl (by omega) ?_
        refine X.iload_n 4 i291_3 rfl rfl rfl ?_
        refine X.iconst 5 i291_4 rfl rfl (by decide) ?_
        refine X.icmpne 12 8 i291_5 rfl rfl rfl (fun h512 => (by exfalso; omega)) (fun h512 => ?_)
        refine X.iconst 9 i291_8 rfl rfl (by decide) ?_
        refine X.goto 13 i291_9 rfl rfl ?_
        refine X.cut [] i291_13 rfl ?_
        refine X.iadd 14 i291_13 rfl rfl (by omega) ?_
        refine X.reti i291_14 rfl t291 ?_
        show X (EE s) d 295 19 [(0, zr 4 44), (1, zi a1), (2, zi a2)] [zi ((5 * a1) + 4), zi 60, zr 4 45] m _
        refine X.iadd 20 i295_19 rfl rfl (by omega) ?_
        refine X.lald 21 i295_20 rfl rfl (by decide) rfl (by omega) ?_
        refine X.goto 27 i295_21 rfl rfl ?_
        refine X.cut [] i295_27 rfl ?_
        refine X.retl i295_27 rfl t295 ?_
        exact hQ (m 4 45 (60 + ((5 * a1) + 4))) (by first | trivial | omega) 
      · refine X.iload_n 18 i290_17 rfl rfl rfl ?_
        refine X.calls 21 [zi a2] [] [(0, zi a2)] i290_18 (by decide) rfl rfl (by omega) rfl rfl t242 (Nat.le_of_ble_eq_true rfl) (Nat.le_of_ble_eq_true rfl) rfl ?_
        refine X.iload_n 1 i242_0 rfl rfl rfl ?_
        refine X.i2l 2 i242_1 rfl rfl ?_
        refine X.lconst (y := 0) 3 i242_2 rfl rfl rfl ?_
        refine X.ldc2 6 i242_3 rfl rfl (by decide) ?_
        refine X.calls 9 [zl a2, zl 0, zl 3] [] [(0, zl a2), (2, zl 0), (4, zl 3)] i242_6 (by decide) rfl rfl (by omega) rfl rfl t204 (Nat.le_of_ble_eq_true rfl) (Nat.le_of_ble_eq_true rfl) rfl ?_
        refine X.lload_n 1 i204_0 rfl rfl rfl ?_
        refine X.lload_n 2 i204_1 rfl rfl rfl ?_
        refine X.lcmp 3 i204_2 rfl rfl (fun z513 hz513 => ?_)
        refine X.iflt 17 6 i204_3 rfl rfl rfl (fun h514 => ?_) (fun h514 => ?_)
        · have h514c : a2 < 0 := by omega
          clear h514 hz513
          refine X.cut [] i204_17 rfl ?_
          refine X.iconst 18 i204_17 rfl rfl (by decide) ?_
          refine X.retz i204_18 rfl t204 (by omega) ?_
          show X (EE s) ((d - 1) - 1) 242 9 [(0, zi a2)] [zi 0] m _
          refine X.retz i242_9 rfl t242 (by omega) ?_
          show X (EE s) (d - 1) 290 21 [(0, zi a1), (1, zi a2)] [zi 0] m _
          refine X.ifeq 28 24 i290_21 rfl rfl rfl (fun h515 => ?_) (fun h515 => (by exfalso; omega))
          refine X.cut [] i290_28 rfl ?_
          refine X.iconst 29 i290_28 rfl rfl (by decide) ?_
          refine X.retz i290_29 rfl t290 (by omega) ?_
          show X (EE s) d 295 5 [(0, zr 4 44), (1, zi a1), (2, zi a2)] [zi 0] m _
          refine X.ifeq 24 8 i295_5 rfl rfl rfl (fun h516 => ?_) (fun h516 => (by exfalso; omega))
          refine X.cut [] i295_24 rfl ?_
          refine X.ldc2 27 i295_24 rfl rfl (by decide) ?_
          refine X.retl i295_27 rfl t295 ?_
          exact hQ (-1) (by first | trivial | omega) 
        · have h514c : a2 ≥ 0 := by omega
          clear h514 hz513
          refine X.lload_n 7 i204_6 rfl rfl rfl ?_
          refine X.lload 9 i204_7 rfl rfl rfl ?_
          refine X.lcmp 10 i204_9 rfl rfl (fun z517 hz517 => ?_)
          refine X.ifgt 17 13 i204_10 rfl rfl rfl (fun h518 => ?_) (fun h518 => ?_)
          · have h518c : a2 > 3 := by omega
            clear h518 hz517
            refine X.cut [] i204_17 rfl ?_
            refine X.iconst 18 i204_17 rfl rfl (by decide) ?_
            refine X.retz i204_18 rfl t204 (by omega) ?_
            show X (EE s) ((d - 1) - 1) 242 9 [(0, zi a2)] [zi 0] m _
            refine X.retz i242_9 rfl t242 (by omega) ?_
            show X (EE s) (d - 1) 290 21 [(0, zi a1), (1, zi a2)] [zi 0] m _
            refine X.ifeq 28 24 i290_21 rfl rfl rfl (fun h519 => ?_) (fun h519 => (by exfalso; omega))
            refine X.cut [] i290_28 rfl ?_
            refine X.iconst 29 i290_28 rfl rfl (by decide) ?_
            refine X.retz i290_29 rfl t290 (by omega) ?_
            show X (EE s) d 295 5 [(0, zr 4 44), (1, zi a1), (2, zi a2)] [zi 0] m _
            refine X.ifeq 24 8 i295_5 rfl rfl rfl (fun h520 => ?_) (fun h520 => (by exfalso; omega))
            refine X.cut [] i295_24 rfl ?_
            refine X.ldc2 27 i295_24 rfl rfl (by decide) ?_
            refine X.retl i295_27 rfl t295 ?_
            exact hQ (-1) (by first | trivial | omega) 
          · have h518c : a2 ≤ 3 := by omega
            clear h518 hz517
            refine X.iconst 14 i204_13 rfl rfl (by decide) ?_
            refine X.goto 18 i204_14 rfl rfl ?_
            refine X.cut [] i204_18 rfl ?_
            refine X.retz i204_18 rfl t204 (by omega) ?_
            show X (EE s) ((d - 1) - 1) 242 9 [(0, zi a2)] [zi 1] m _
            refine X.retz i242_9 rfl t242 (by omega) ?_
            show X (EE s) (d - 1) 290 21 [(0, zi a1), (1, zi a2)] [zi 1] m _
            refine X.ifeq 28 24 i290_21 rfl rfl rfl (fun h521 => (by exfalso; omega)) (fun h521 => ?_)
            refine X.cut [] i290_24 rfl ?_
            refine X.iconst 25 i290_24 rfl rfl (by decide) ?_
            refine X.goto 29 i290_25 rfl rfl ?_
            refine X.retz i290_29 rfl t290 (by omega) ?_
            show X (EE s) d 295 5 [(0, zr 4 44), (1, zi a1), (2, zi a2)] [zi 1] m _
            refine X.ifeq 24 8 i295_5 rfl rfl rfl (fun h522 => (by exfalso; omega)) (fun h522 => ?_)
            refine X.aload_n 9 i295_8 rfl rfl rfl ?_
            refine X.getF 12 i295_9 rfl rfl (by decide) rfl rfl ?_
            refine X.bipush 14 i295_12 rfl rfl (by decide) ?_
            refine X.iload_n 15 i295_14 rfl rfl rfl ?_
            refine X.iload_n 16 i295_15 rfl rfl rfl ?_
            refine X.calls 19 [zi a1, zi a2] [zi 60, zr 4 45] [(0, zi a1), (1, zi a2)] i295_16 (by decide) rfl rfl (by omega) rfl rfl t291 (Nat.le_of_ble_eq_true rfl) (Nat.le_of_ble_eq_true rfl) rfl ?_
            refine X.iconst 1 i291_0 rfl rfl (by decide) ?_
            refine X.iload_n 2 i291_1 rfl rfl rfl ?_
            refine X.imul 3 i291_2 rfl rfl (by omega) ?_
            refine X.iload_n 4 i291_3 rfl rfl rfl ?_
            refine X.iconst 5 i291_4 rfl rfl (by decide) ?_
            refine X.icmpne 12 8 i291_5 rfl rfl rfl (fun h523 => ?_) (fun h523 => (by exfalso; omega))
            refine X.cut [(1, zi a2)] i291_12 rfl ?_
            refine X.iload_n 13 i291_12 rfl rfl rfl ?_
            refine X.cut [] i291_13 rfl ?_
            refine X.iadd 14 i291_13 rfl rfl (by omega) ?_
            refine X.reti i291_14 rfl t291 ?_
            show X (EE s) d 295 19 [(0, zr 4 44), (1, zi a1), (2, zi a2)] [zi ((5 * a1) + a2), zi 60, zr 4 45] m _
            refine X.iadd 20 i295_19 rfl rfl (by omega) ?_
            refine X.lald 21 i295_20 rfl rfl (by decide) rfl (by omega) ?_
            refine X.goto 27 i295_21 rfl rfl ?_
            refine X.cut [] i295_27 rfl ?_
            refine X.retl i295_27 rfl t295 ?_
            exact hQ (m 4 45 (60 + ((5 * a1) + a2))) (by first | trivial | omega) 
-- WorkMeter.reading
theorem c147_1 {s : Nat × (Nat → Int32)} {S : zS} {m0 m : zM} {B : Int} {d : Nat} {Q : Option zV → zM → Prop} (a1 a2 : Int) (hd : 15 ≤ d) (hJ : J S m0 B m) (hB : B + 0 ≤ 1000000000) (ha1 : (-2147483648) ≤ a1 ∧ a1 ≤ 2147483647) (ha2 : (-2147483648) ≤ a2 ∧ a2 ≤ 2147483647) (hQ : ∀ (v : Int), (True) → Q (some (zl v)) m) : X (EE s) d 147 0 [(0, zr 4 40), (1, zi a1), (2, zi a2)] [] m Q := by
  refine X.iload_n 1 i147_0 rfl rfl rfl ?_
  refine X.calls 4 [zi a1] [] [(0, zi a1)] i147_1 (by decide) rfl rfl (by omega) rfl rfl t145 (Nat.le_of_ble_eq_true rfl) (Nat.le_of_ble_eq_true rfl) rfl ?_
  refine X.iload_n 1 i145_0 rfl rfl rfl ?_
  refine X.iflt 14 4 i145_1 rfl rfl rfl (fun h501 => ?_) (fun h501 => ?_)
  · refine X.cut [] i145_14 rfl ?_
    refine X.iconst 15 i145_14 rfl rfl (by decide) ?_
    refine X.retz i145_15 rfl t145 (by omega) ?_
    show X (EE s) d 147 4 [(0, zr 4 40), (1, zi a1), (2, zi a2)] [zi 0] m _
    refine X.ifeq 14 7 i147_4 rfl rfl rfl (fun h502 => ?_) (fun h502 => (by exfalso; omega))
    refine X.cut [] i147_14 rfl ?_
    refine X.ldc2 17 i147_14 rfl rfl (by decide) ?_
    refine X.retl i147_17 rfl t147 ?_
    exact hQ (-1) (by first | trivial | omega) 
  · refine X.iload_n 5 i145_4 rfl rfl rfl ?_
    refine X.bipush 7 i145_5 rfl rfl (by decide) ?_
    refine X.icmpge 14 10 i145_7 rfl rfl rfl (fun h503 => ?_) (fun h503 => ?_)
    · refine X.cut [] i145_14 rfl ?_
      refine X.iconst 15 i145_14 rfl rfl (by decide) ?_
      refine X.retz i145_15 rfl t145 (by omega) ?_
      show X (EE s) d 147 4 [(0, zr 4 40), (1, zi a1), (2, zi a2)] [zi 0] m _
      refine X.ifeq 14 7 i147_4 rfl rfl rfl (fun h504 => ?_) (fun h504 => (by exfalso; omega))
      refine X.cut [] i147_14 rfl ?_
      refine X.ldc2 17 i147_14 rfl rfl (by decide) ?_
      refine X.retl i147_17 rfl t147 ?_
      exact hQ (-1) (by first | trivial | omega) 
    · refine X.iconst 11 i145_10 rfl rfl (by decide) ?_
      refine X.goto 15 i145_11 rfl rfl ?_
      refine X.cut [] i145_15 rfl ?_
      refine X.retz i145_15 rfl t145 (by omega) ?_
      show X (EE s) d 147 4 [(0, zr 4 40), (1, zi a1), (2, zi a2)] [zi 1] m _
      refine X.ifeq 14 7 i147_4 rfl rfl rfl (fun h505 => (by exfalso; omega)) (fun h505 => ?_)
      refine X.iload_n 8 i147_7 rfl rfl rfl ?_
      refine X.calls 11 [zi a2] [] [(0, zi a2)] i147_8 (by decide) rfl rfl (by omega) rfl rfl t146 (Nat.le_of_ble_eq_true rfl) (Nat.le_of_ble_eq_true rfl) rfl ?_
      refine X.iload_n 1 i146_0 rfl rfl rfl ?_
      refine X.iconst 2 i146_1 rfl rfl (by decide) ?_
      refine X.icmpeq 12 5 i146_2 rfl rfl rfl (fun h506 => ?_) (fun h506 => ?_)
      · refine X.cut [] i146_12 rfl ?_
        refine X.iconst 13 i146_12 rfl rfl (by decide) ?_
        refine X.goto 17 i146_13 rfl rfl ?_
        refine X.retz i146_17 rfl t146 (by omega) ?_
        show X (EE s) d 147 11 [(0, zr 4 40), (1, zi a1), (2, zi a2)] [zi 1] m _
        refine X.ifne 18 14 i147_11 rfl rfl rfl (fun h507 => ?_) (fun h507 => (by exfalso; omega))
        refine X.aload_n 19 i147_18 rfl rfl rfl ?_
        refine X.getF 22 i147_19 rfl rfl (by decide) rfl rfl ?_
        refine X.getR 25 i147_22 rfl rfl (by decide) rfl rfl ?_
        refine X.iload_n 26 i147_25 rfl rfl rfl ?_
        refine X.iload_n 27 i147_26 rfl rfl rfl ?_
        refine X.callv 30 [zi a1, zi a2] [] [(0, zr 0 23), (1, zi a1), (2, zi a2)] i147_27 rfl (by decide) rfl rfl (by omega) rfl rfl (by decide) rfl t71 (Nat.le_of_ble_eq_true rfl) (Nat.le_of_ble_eq_true rfl) rfl ?_
        refine X.aload_n 1 i71_0 rfl rfl rfl ?_
        refine X.getR 4 i71_1 rfl rfl (by decide) rfl rfl ?_
        refine X.iload_n 5 i71_4 rfl rfl rfl ?_
        refine X.iconst 6 i71_5 rfl rfl (by decide) ?_
        refine X.imul 7 i71_6 rfl rfl (by omega) ?_
        refine X.iload_n 8 i71_7 rfl rfl rfl ?_
        refine X.calls 11 [zr 0 24, zi (a1 * 4), zi a2] [] [(0, zr 0 24), (1, zi (a1 * 4)), (2, zi a2)] i71_8 (by decide) rfl rfl (by omega) rfl rfl t72 (Nat.le_of_ble_eq_true rfl) (Nat.le_of_ble_eq_true rfl) rfl ?_
        refine c72_2 (B := B) 0 (a1 * 4) a2 (by omega) (hJ.up (by omega)) (by omega) (by omega) (by omega) (fun v510 hv510 => ?_)
        show X (EE s) (d - 1) 71 11 [(0, zr 0 23), (1, zi a1), (2, zi a2)] [zl v510] m _
        refine X.retl i71_11 rfl t71 ?_
        show X (EE s) d 147 30 [(0, zr 4 40), (1, zi a1), (2, zi a2)] [zl v510] m _
        refine X.aload_n 31 i147_30 rfl rfl rfl ?_
        refine X.getF 34 i147_31 rfl rfl (by decide) rfl rfl ?_
        refine X.getR 37 i147_34 rfl rfl (by decide) rfl rfl ?_
        refine X.callv 40 [] [zl v510] [(0, zr 0 9)] i147_37 rfl (by decide) rfl rfl (by omega) rfl rfl (by decide) rfl t48 (Nat.le_of_ble_eq_true rfl) (Nat.le_of_ble_eq_true rfl) rfl ?_
        refine X.iconst 1 i48_0 rfl rfl (by decide) ?_
        refine X.aload_n 2 i48_1 rfl rfl rfl ?_
        refine X.getR 5 i48_2 rfl rfl (by decide) rfl rfl ?_
        refine X.iconst 6 i48_5 rfl rfl (by decide) ?_
        refine X.iald 7 i48_6 rfl rfl (by decide) rfl (by omega) ?_
        have h511 := r10_0 hJ 0 (i := 1) (by omega)
        refine X.maxI 10 i48_7 rfl rfl (by omega) (Nat.le_of_ble_eq_true rfl) ?_
        refine X.reti i48_10 rfl t48 ?_
        show X (EE s) d 147 40 [(0, zr 4 40), (1, zi a1), (2, zi a2)] [zi (max 1 (m 0 10 1)), zl v510] m _
        refine X.i2l 41 i147_40 rfl rfl ?_
        refine X.ldivF 42 i147_41 rfl rfl (by omega) (fun z512 => ?_)
        refine X.retl i147_42 rfl t147 ?_
        exact hQ z512 (by first | trivial | omega) 
      · refine X.iload_n 6 i146_5 rfl rfl rfl ?_
        refine X.calls 9 [zi a2] [] [(0, zi a2)] i146_6 (by decide) rfl rfl (by omega) rfl rfl t80 (Nat.le_of_ble_eq_true rfl) (Nat.le_of_ble_eq_true rfl) rfl ?_
        refine X.iload_n 1 i80_0 rfl rfl rfl ?_
        refine X.iflt 13 4 i80_1 rfl rfl rfl (fun h513 => ?_) (fun h513 => ?_)
        · refine X.cut [] i80_13 rfl ?_
          refine X.iconst 14 i80_13 rfl rfl (by decide) ?_
          refine X.retz i80_14 rfl t80 (by omega) ?_
          show X (EE s) (d - 1) 146 9 [(0, zi a2)] [zi 0] m _
          refine X.ifeq 16 12 i146_9 rfl rfl rfl (fun h514 => ?_) (fun h514 => (by exfalso; omega))
          refine X.cut [] i146_16 rfl ?_
          refine X.iconst 17 i146_16 rfl rfl (by decide) ?_
          refine X.retz i146_17 rfl t146 (by omega) ?_
          show X (EE s) d 147 11 [(0, zr 4 40), (1, zi a1), (2, zi a2)] [zi 0] m _
          refine X.ifne 18 14 i147_11 rfl rfl rfl (fun h515 => (by exfalso; omega)) (fun h515 => ?_)
          refine X.cut [] i147_14 rfl ?_
          refine X.ldc2 17 i147_14 rfl rfl (by decide) ?_
          refine X.retl i147_17 rfl t147 ?_
          exact hQ (-1) (by first | trivial | omega) 
        · refine X.iload_n 5 i80_4 rfl rfl rfl ?_
          refine X.iconst 6 i80_5 rfl rfl (by decide) ?_
          refine X.icmpge 13 9 i80_6 rfl rfl rfl (fun h516 => ?_) (fun h516 => ?_)
          · refine X.cut [] i80_13 rfl ?_
            refine X.iconst 14 i80_13 rfl rfl (by decide) ?_
            refine X.retz i80_14 rfl t80 (by omega) ?_
            show X (EE s) (d - 1) 146 9 [(0, zi a2)] [zi 0] m _
            refine X.ifeq 16 12 i146_9 rfl rfl rfl (fun h517 => ?_) (fun h517 => (by exfalso; omega))
            refine X.cut [] i146_16 rfl ?_
            refine X.iconst 17 i146_16 rfl rfl (by decide) ?_
            refine X.retz i146_17 rfl t146 (by omega) ?_
            show X (EE s) d 147 11 [(0, zr 4 40), (1, zi a1), (2, zi a2)] [zi 0] m _
            refine X.ifne 18 14 i147_11 rfl rfl rfl (fun h518 => (by exfalso; omega)) (fun h518 => ?_)
            refine X.cut [] i147_14 rfl ?_
            refine X.ldc2 17 i147_14 rfl rfl (by decide) ?_
            refine X.retl i147_17 rfl t147 ?_
            exact hQ (-1) (by first | trivial | omega) 
          · refine X.iconst 10 i80_9 rfl rfl (by decide) ?_
            refine X.goto 14 i80_10 rfl rfl ?_
            refine X.cut [] i80_14 rfl ?_
            refine X.retz i80_14 rfl t80 (by omega) ?_
            show X (EE s) (d - 1) 146 9 [(0, zi a2)] [zi 1] m _
            refine X.ifeq 16 12 i146_9 rfl rfl rfl (fun h519 => (by exfalso; omega)) (fun h519 => ?_)
            refine X.cut [] i146_12 rfl ?_
            refine X.iconst 13 i146_12 rfl rfl (by decide) ?_
            refine X.goto 17 i146_13 rfl rfl ?_
            refine X.retz i146_17 rfl t146 (by omega) ?_
            show X (EE s) d 147 11 [(0, zr 4 40), (1, zi a1), (2, zi a2)] [zi 1] m _
            refine X.ifne 18 14 i147_11 rfl rfl rfl (fun h520 => ?_) (fun h520 => (by exfalso; omega))
            refine X.aload_n 19 i147_18 rfl rfl rfl ?_
            refine X.getF 22 i147_19 rfl rfl (by decide) rfl rfl ?_
            refine X.getR 25 i147_22 rfl rfl (by decide) rfl rfl ?_
            refine X.iload_n 26 i147_25 rfl rfl rfl ?_
            refine X.iload_n 27 i147_26 rfl rfl rfl ?_
            refine X.callv 30 [zi a1, zi a2] [] [(0, zr 0 23), (1, zi a1), (2, zi a2)] i147_27 rfl (by decide) rfl rfl (by omega) rfl rfl (by decide) rfl t71 (Nat.le_of_ble_eq_true rfl) (Nat.le_of_ble_eq_true rfl) rfl ?_
            refine X.aload_n 1 i71_0 rfl rfl rfl ?_
            refine X.getR 4 i71_1 rfl rfl (by decide) rfl rfl ?_
            refine X.iload_n 5 i71_4 rfl rfl rfl ?_
            refine X.iconst 6 i71_5 rfl rfl (by decide) ?_
            refine X.imul 7 i71_6 rfl rfl (by omega) ?_
            refine X.iload_n 8 i71_7 rfl rfl rfl ?_
            refine X.calls 11 [zr 0 24, zi (a1 * 4), zi a2] [] [(0, zr 0 24), (1, zi (a1 * 4)), (2, zi a2)] i71_8 (by decide) rfl rfl (by omega) rfl rfl t72 (Nat.le_of_ble_eq_true rfl) (Nat.le_of_ble_eq_true rfl) rfl ?_
            refine c72_3 (B := B) 0 (a1 * 4) a2 (by omega) (hJ.up (by omega)) (by omega) (by omega) (by omega) (fun v523 hv523 => ?_)
            show X (EE s) (d - 1) 71 11 [(0, zr 0 23), (1, zi a1), (2, zi a2)] [zl v523] m _
            refine X.retl i71_11 rfl t71 ?_
            show X (EE s) d 147 30 [(0, zr 4 40), (1, zi a1), (2, zi a2)] [zl v523] m _
            refine X.aload_n 31 i147_30 rfl rfl rfl ?_
            refine X.getF 34 i147_31 rfl rfl (by decide) rfl rfl ?_
            refine X.getR 37 i147_34 rfl rfl (by decide) rfl rfl ?_
            refine X.callv 40 [] [zl v523] [(0, zr 0 9)] i147_37 rfl (by decide) rfl rfl (by omega) rfl rfl (by decide) rfl t48 (Nat.le_of_ble_eq_true rfl) (Nat.le_of_ble_eq_true rfl) rfl ?_
            refine X.iconst 1 i48_0 rfl rfl (by decide) ?_
            refine X.aload_n 2 i48_1 rfl rfl rfl ?_
            refine X.getR 5 i48_2 rfl rfl (by decide) rfl rfl ?_
            refine X.iconst 6 i48_5 rfl rfl (by decide) ?_
            refine X.iald 7 i48_6 rfl rfl (by decide) rfl (by omega) ?_
            have h524 := r10_0 hJ 0 (i := 1) (by omega)
            refine X.maxI 10 i48_7 rfl rfl (by omega) (Nat.le_of_ble_eq_true rfl) ?_
            refine X.reti i48_10 rfl t48 ?_
            show X (EE s) d 147 40 [(0, zr 4 40), (1, zi a1), (2, zi a2)] [zi (max 1 (m 0 10 1)), zl v523] m _
            refine X.i2l 41 i147_40 rfl rfl ?_
            refine X.ldivF 42 i147_41 rfl rfl (by omega) (fun z525 => ?_)
            refine X.retl i147_42 rfl t147 ?_
            exact hQ z525 (by first | trivial | omega) 
-- WorkMeterModel.reading
theorem c296_1 {s : Nat × (Nat → Int32)} {S : zS} {m0 m : zM} {B : Int} {d : Nat} {Q : Option zV → zM → Prop} (a1 a2 : Int) (hd : 13 ≤ d) (hJ : J S m0 B m) (hB : B + 0 ≤ 1000000000) (ha1 : (-2147483648) ≤ a1 ∧ a1 ≤ 2147483647) (ha2 : (-2147483648) ≤ a2 ∧ a2 ≤ 2147483647) (hQ : ∀ (v : Int), (True) → Q (some (zl v)) m) : X (EE s) d 296 0 [(0, zr 4 44), (1, zi a1), (2, zi a2)] [] m Q := by
  refine X.iload_n 1 i296_0 rfl rfl rfl ?_
  refine X.iload_n 2 i296_1 rfl rfl rfl ?_
  refine X.calls 5 [zi a1, zi a2] [] [(0, zi a1), (1, zi a2)] i296_2 (by decide) rfl rfl (by omega) rfl rfl t290 (Nat.le_of_ble_eq_true rfl) (Nat.le_of_ble_eq_true rfl) rfl ?_
  refine X.iload_n 1 i290_0 rfl rfl rfl ?_
  refine X.i2l 2 i290_1 rfl rfl ?_
  refine X.lconst (y := 0) 3 i290_2 rfl rfl rfl ?_
  refine X.ldc2 6 i290_3 rfl rfl (by decide) ?_
  refine X.calls 9 [zl a1, zl 0, zl 6] [] [(0, zl a1), (2, zl 0), (4, zl 6)] i290_6 (by decide) rfl rfl (by omega) rfl rfl t204 (Nat.le_of_ble_eq_true rfl) (Nat.le_of_ble_eq_true rfl) rfl ?_
  refine X.lload_n 1 i204_0 rfl rfl rfl ?_
  refine X.lload_n 2 i204_1 rfl rfl rfl ?_
  refine X.lcmp 3 i204_2 rfl rfl (fun z501 hz501 => ?_)
  refine X.iflt 17 6 i204_3 rfl rfl rfl (fun h502 => ?_) (fun h502 => ?_)
  · have h502c : a1 < 0 := by omega
    clear h502 hz501
    refine X.cut [] i204_17 rfl ?_
    refine X.iconst 18 i204_17 rfl rfl (by decide) ?_
    refine X.retz i204_18 rfl t204 (by omega) ?_
    show X (EE s) (d - 1) 290 9 [(0, zi a1), (1, zi a2)] [zi 0] m _
    refine X.ifeq 28 12 i290_9 rfl rfl rfl (fun h503 => ?_) (fun h503 => (by exfalso; omega))
    refine X.cut [] i290_28 rfl ?_
    refine X.iconst 29 i290_28 rfl rfl (by decide) ?_
    refine X.retz i290_29 rfl t290 (by omega) ?_
    show X (EE s) d 296 5 [(0, zr 4 44), (1, zi a1), (2, zi a2)] [zi 0] m _
    refine X.ifeq 31 8 i296_5 rfl rfl rfl (fun h504 => ?_) (fun h504 => (by exfalso; omega))
    refine X.cut [] i296_31 rfl ?_
    refine X.ldc2 34 i296_31 rfl rfl (by decide) ?_
    refine X.retl i296_34 rfl t296 ?_
    exact hQ (-1) (by first | trivial | omega) 
  · have h502c : a1 ≥ 0 := by omega
    clear h502 hz501
    refine X.lload_n 7 i204_6 rfl rfl rfl ?_
    refine X.lload 9 i204_7 rfl rfl rfl ?_
    refine X.lcmp 10 i204_9 rfl rfl (fun z505 hz505 => ?_)
    refine X.ifgt 17 13 i204_10 rfl rfl rfl (fun h506 => ?_) (fun h506 => ?_)
    · have h506c : a1 > 6 := by omega
      clear h506 hz505
      refine X.cut [] i204_17 rfl ?_
      refine X.iconst 18 i204_17 rfl rfl (by decide) ?_
      refine X.retz i204_18 rfl t204 (by omega) ?_
      show X (EE s) (d - 1) 290 9 [(0, zi a1), (1, zi a2)] [zi 0] m _
      refine X.ifeq 28 12 i290_9 rfl rfl rfl (fun h507 => ?_) (fun h507 => (by exfalso; omega))
      refine X.cut [] i290_28 rfl ?_
      refine X.iconst 29 i290_28 rfl rfl (by decide) ?_
      refine X.retz i290_29 rfl t290 (by omega) ?_
      show X (EE s) d 296 5 [(0, zr 4 44), (1, zi a1), (2, zi a2)] [zi 0] m _
      refine X.ifeq 31 8 i296_5 rfl rfl rfl (fun h508 => ?_) (fun h508 => (by exfalso; omega))
      refine X.cut [] i296_31 rfl ?_
      refine X.ldc2 34 i296_31 rfl rfl (by decide) ?_
      refine X.retl i296_34 rfl t296 ?_
      exact hQ (-1) (by first | trivial | omega) 
    · have h506c : a1 ≤ 6 := by omega
      clear h506 hz505
      refine X.iconst 14 i204_13 rfl rfl (by decide) ?_
      refine X.goto 18 i204_14 rfl rfl ?_
      refine X.cut [] i204_18 rfl ?_
      refine X.retz i204_18 rfl t204 (by omega) ?_
      show X (EE s) (d - 1) 290 9 [(0, zi a1), (1, zi a2)] [zi 1] m _
      refine X.ifeq 28 12 i290_9 rfl rfl rfl (fun h509 => (by exfalso; omega)) (fun h509 => ?_)
      refine X.iload_n 13 i290_12 rfl rfl rfl ?_
      refine X.iconst 14 i290_13 rfl rfl (by decide) ?_
      refine X.icmpeq 24 17 i290_14 rfl rfl rfl (fun h510 => ?_) (fun h510 => ?_)
      · refine X.cut [] i290_24 rfl ?_
        refine X.iconst 25 i290_24 rfl rfl (by decide) ?_
        refine X.goto 29 i290_25 rfl rfl ?_
        refine X.retz i290_29 rfl t290 (by omega) ?_
        show X (EE s) d 296 5 [(0, zr 4 44), (1, zi a1), (2, zi a2)] [zi 1] m _
        refine X.ifeq 31 8 i296_5 rfl rfl rfl (fun h511 => (by exfalso; omega)) (fun h511 => ?_)
        refine X.aload_n 9 i296_8 rfl rfl rfl ?_
        refine X.getF 12 i296_9 rfl rfl (by decide) rfl rfl ?_
        refine X.bipush 14 i296_12 rfl rfl (by decide) ?_
        refine X.iload_n 15 i296_14 rfl rfl rfl ?_
        refine X.iload_n 16 i296_15 rfl rfl rfl ?_
        refine X.calls 19 [zi a1, zi a2] [zi 60, zr 4 45] [(0, zi a1), (1, zi a2)] i296_16 (by decide) rfl rfl (by omega) rfl rfl t291 (Nat.le_of_ble_eq_true rfl) (Nat.le_of_ble_eq_true rfl) rfl ?_
        refine X.iconst 1 i291_0 rfl rfl (by decide) ?_
        refine X.iload_n 2 i291_1 rfl rfl rfl ?_
        refine X.imul 3 i291_2 rfl rfl (by omega) ?_
        refine X.iload_n 4 i291_3 rfl rfl rfl ?_
        refine X.iconst 5 i291_4 rfl rfl (by decide) ?_
        refine X.icmpne 12 8 i291_5 rfl rfl rfl (fun h512 => (by exfalso; omega)) (fun h512 => ?_)
        refine X.iconst 9 i291_8 rfl rfl (by decide) ?_
        refine X.goto 13 i291_9 rfl rfl ?_
        refine X.cut [] i291_13 rfl ?_
        refine X.iadd 14 i291_13 rfl rfl (by omega) ?_
        refine X.reti i291_14 rfl t291 ?_
        show X (EE s) d 296 19 [(0, zr 4 44), (1, zi a1), (2, zi a2)] [zi ((5 * a1) + 4), zi 60, zr 4 45] m _
        refine X.iadd 20 i296_19 rfl rfl (by omega) ?_
        refine X.lald 21 i296_20 rfl rfl (by decide) rfl (by omega) ?_
        refine X.aload_n 22 i296_21 rfl rfl rfl ?_
        refine X.getF 25 i296_22 rfl rfl (by decide) rfl rfl ?_
        refine X.iconst 26 i296_25 rfl rfl (by decide) ?_
        refine X.lald 27 i296_26 rfl rfl (by decide) rfl (by omega) ?_
        have h513 := r45_5 hJ 4
        refine X.ldivF 28 i296_27 rfl rfl (by omega) (fun z514 => ?_)
        refine X.goto 34 i296_28 rfl rfl ?_
        refine X.cut [] i296_34 rfl ?_
        refine X.retl i296_34 rfl t296 ?_
        exact hQ z514 (by first | trivial | omega) 
      · refine X.iload_n 18 i290_17 rfl rfl rfl ?_
        refine X.calls 21 [zi a2] [] [(0, zi a2)] i290_18 (by decide) rfl rfl (by omega) rfl rfl t242 (Nat.le_of_ble_eq_true rfl) (Nat.le_of_ble_eq_true rfl) rfl ?_
        refine X.iload_n 1 i242_0 rfl rfl rfl ?_
        refine X.i2l 2 i242_1 rfl rfl ?_
        refine X.lconst (y := 0) 3 i242_2 rfl rfl rfl ?_
        refine X.ldc2 6 i242_3 rfl rfl (by decide) ?_
        refine X.calls 9 [zl a2, zl 0, zl 3] [] [(0, zl a2), (2, zl 0), (4, zl 3)] i242_6 (by decide) rfl rfl (by omega) rfl rfl t204 (Nat.le_of_ble_eq_true rfl) (Nat.le_of_ble_eq_true rfl) rfl ?_
        refine X.lload_n 1 i204_0 rfl rfl rfl ?_
        refine X.lload_n 2 i204_1 rfl rfl rfl ?_
        refine X.lcmp 3 i204_2 rfl rfl (fun z515 hz515 => ?_)
        refine X.iflt 17 6 i204_3 rfl rfl rfl (fun h516 => ?_) (fun h516 => ?_)
        · have h516c : a2 < 0 := by omega
          clear h516 hz515
          refine X.cut [] i204_17 rfl ?_
          refine X.iconst 18 i204_17 rfl rfl (by decide) ?_
          refine X.retz i204_18 rfl t204 (by omega) ?_
          show X (EE s) ((d - 1) - 1) 242 9 [(0, zi a2)] [zi 0] m _
          refine X.retz i242_9 rfl t242 (by omega) ?_
          show X (EE s) (d - 1) 290 21 [(0, zi a1), (1, zi a2)] [zi 0] m _
          refine X.ifeq 28 24 i290_21 rfl rfl rfl (fun h517 => ?_) (fun h517 => (by exfalso; omega))
          refine X.cut [] i290_28 rfl ?_
          refine X.iconst 29 i290_28 rfl rfl (by decide) ?_
          refine X.retz i290_29 rfl t290 (by omega) ?_
          show X (EE s) d 296 5 [(0, zr 4 44), (1, zi a1), (2, zi a2)] [zi 0] m _
          refine X.ifeq 31 8 i296_5 rfl rfl rfl (fun h518 => ?_) (fun h518 => (by exfalso; omega))
          refine X.cut [] i296_31 rfl ?_
          refine X.ldc2 34 i296_31 rfl rfl (by decide) ?_
          refine X.retl i296_34 rfl t296 ?_
          exact hQ (-1) (by first | trivial | omega) 
        · have h516c : a2 ≥ 0 := by omega
          clear h516 hz515
          refine X.lload_n 7 i204_6 rfl rfl rfl ?_
          refine X.lload 9 i204_7 rfl rfl rfl ?_
          refine X.lcmp 10 i204_9 rfl rfl (fun z519 hz519 => ?_)
          refine X.ifgt 17 13 i204_10 rfl rfl rfl (fun h520 => ?_) (fun h520 => ?_)
          · have h520c : a2 > 3 := by omega
            clear h520 hz519
            refine X.cut [] i204_17 rfl ?_
            refine X.iconst 18 i204_17 rfl rfl (by decide) ?_
            refine X.retz i204_18 rfl t204 (by omega) ?_
            show X (EE s) ((d - 1) - 1) 242 9 [(0, zi a2)] [zi 0] m _
            refine X.retz i242_9 rfl t242 (by omega) ?_
            show X (EE s) (d - 1) 290 21 [(0, zi a1), (1, zi a2)] [zi 0] m _
            refine X.ifeq 28 24 i290_21 rfl rfl rfl (fun h521 => ?_) (fun h521 => (by exfalso; omega))
            refine X.cut [] i290_28 rfl ?_
            refine X.iconst 29 i290_28 rfl rfl (by decide) ?_
            refine X.retz i290_29 rfl t290 (by omega) ?_
            show X (EE s) d 296 5 [(0, zr 4 44), (1, zi a1), (2, zi a2)] [zi 0] m _
            refine X.ifeq 31 8 i296_5 rfl rfl rfl (fun h522 => ?_) (fun h522 => (by exfalso; omega))
            refine X.cut [] i296_31 rfl ?_
            refine X.ldc2 34 i296_31 rfl rfl (by decide) ?_
            refine X.retl i296_34 rfl t296 ?_
            exact hQ (-1) (by first | trivial | omega) 
          · have h520c : a2 ≤ 3 := by omega
            clear h520 hz519
            refine X.iconst 14 i204_13 rfl rfl (by decide) ?_
            refine X.goto 18 i204_14 rfl rfl ?_
            refine X.cut [] i204_18 rfl ?_
            refine X.retz i204_18 rfl t204 (by omega) ?_
            show X (EE s) ((d - 1) - 1) 242 9 [(0, zi a2)] [zi 1] m _
            refine X.retz i242_9 rfl t242 (by omega) ?_
            show X (EE s) (d - 1) 290 21 [(0, zi a1), (1, zi a2)] [zi 1] m _
            refine X.ifeq 28 24 i290_21 rfl rfl rfl (fun h523 => (by exfalso; omega)) (fun h523 => ?_)
            refine X.cut [] i290_24 rfl ?_
            refine X.iconst 25 i290_24 rfl rfl (by decide) ?_
            refine X.goto 29 i290_25 rfl rfl ?_
            refine X.retz i290_29 rfl t290 (by omega) ?_
            show X (EE s) d 296 5 [(0, zr 4 44), (1, zi a1), (2, zi a2)] [zi 1] m _
            refine X.ifeq 31 8 i296_5 rfl rfl rfl (fun h524 => (by exfalso; omega)) (fun h524 => ?_)
            refine X.aload_n 9 i296_8 rfl rfl rfl ?_
            refine X.getF 12 i296_9 rfl rfl (by decide) rfl rfl ?_
            refine X.bipush 14 i296_12 rfl rfl (by decide) ?_
            refine X.iload_n 15 i296_14 rfl rfl rfl ?_
            refine X.iload_n 16 i296_15 rfl rfl rfl ?_
            refine X.calls 19 [zi a1, zi a2] [zi 60, zr 4 45] [(0, zi a1), (1, zi a2)] i296_16 (by decide) rfl rfl (by omega) rfl rfl t291 (Nat.le_of_ble_eq_true rfl) (Nat.le_of_ble_eq_true rfl) rfl ?_
            refine X.iconst 1 i291_0 rfl rfl (by decide) ?_
            refine X.iload_n 2 i291_1 rfl rfl rfl ?_
            refine X.imul 3 i291_2 rfl rfl (by omega) ?_
            refine X.iload_n 4 i291_3 rfl rfl rfl ?_
            refine X.iconst 5 i291_4 rfl rfl (by decide) ?_
            refine X.icmpne 12 8 i291_5 rfl rfl rfl (fun h525 => ?_) (fun h525 => (by exfalso; omega))
            refine X.cut [(1, zi a2)] i291_12 rfl ?_
            refine X.iload_n 13 i291_12 rfl rfl rfl ?_
            refine X.cut [] i291_13 rfl ?_
            refine X.iadd 14 i291_13 rfl rfl (by omega) ?_
            refine X.reti i291_14 rfl t291 ?_
            show X (EE s) d 296 19 [(0, zr 4 44), (1, zi a1), (2, zi a2)] [zi ((5 * a1) + a2), zi 60, zr 4 45] m _
            refine X.iadd 20 i296_19 rfl rfl (by omega) ?_
            refine X.lald 21 i296_20 rfl rfl (by decide) rfl (by omega) ?_
            refine X.aload_n 22 i296_21 rfl rfl rfl ?_
            refine X.getF 25 i296_22 rfl rfl (by decide) rfl rfl ?_
            refine X.iconst 26 i296_25 rfl rfl (by decide) ?_
            refine X.lald 27 i296_26 rfl rfl (by decide) rfl (by omega) ?_
            have h526 := r45_5 hJ 4
            refine X.ldivF 28 i296_27 rfl rfl (by omega) (fun z527 => ?_)
            refine X.goto 34 i296_28 rfl rfl ?_
            refine X.cut [] i296_34 rfl ?_
            refine X.retl i296_34 rfl t296 ?_
            exact hQ z527 (by first | trivial | omega) 
-- WorkMeter.tariffAt
theorem c148_1 {s : Nat × (Nat → Int32)} {S : zS} {m0 m : zM} {B : Int} {d : Nat} {Q : Option zV → zM → Prop} (a1 : Int) (hd : 16 ≤ d) (hJ : J S m0 B m) (hB : B + 0 ≤ 1000000000) (ha1 : (-2147483648) ≤ a1 ∧ a1 ≤ 2147483647) (hQ : ∀ (v : Int), ((-1) ≤ v ∧ v ≤ 3) → Q (some (zi v)) m) : X (EE s) d 148 0 [(0, zr 4 40), (1, zi a1)] [] m Q := by
  refine X.iload_n 1 i148_0 rfl rfl rfl ?_
  refine X.calls 4 [zi a1] [] [(0, zi a1)] i148_1 (by decide) rfl rfl (by omega) rfl rfl t128 (Nat.le_of_ble_eq_true rfl) (Nat.le_of_ble_eq_true rfl) rfl ?_
  refine X.iload_n 1 i128_0 rfl rfl rfl ?_
  refine X.iflt 14 4 i128_1 rfl rfl rfl (fun h501 => ?_) (fun h501 => ?_)
  · refine X.cut [] i128_14 rfl ?_
    refine X.iconst 15 i128_14 rfl rfl (by decide) ?_
    refine X.retz i128_15 rfl t128 (by omega) ?_
    show X (EE s) d 148 4 [(0, zr 4 40), (1, zi a1)] [zi 0] m _
    refine X.ifeq 21 7 i148_4 rfl rfl rfl (fun h502 => ?_) (fun h502 => (by exfalso; omega))
    refine X.cut [] i148_21 rfl ?_
    refine X.iconst 22 i148_21 rfl rfl (by decide) ?_
    refine X.reti i148_22 rfl t148 ?_
    exact hQ (-1) (by first | trivial | omega) 
  · refine X.iload_n 5 i128_4 rfl rfl rfl ?_
    refine X.ldc 7 i128_5 rfl rfl (by decide) ?_
    refine X.icmpgt 14 10 i128_7 rfl rfl rfl (fun h503 => ?_) (fun h503 => ?_)
    · refine X.cut [] i128_14 rfl ?_
      refine X.iconst 15 i128_14 rfl rfl (by decide) ?_
      refine X.retz i128_15 rfl t128 (by omega) ?_
      show X (EE s) d 148 4 [(0, zr 4 40), (1, zi a1)] [zi 0] m _
      refine X.ifeq 21 7 i148_4 rfl rfl rfl (fun h504 => ?_) (fun h504 => (by exfalso; omega))
      refine X.cut [] i148_21 rfl ?_
      refine X.iconst 22 i148_21 rfl rfl (by decide) ?_
      refine X.reti i148_22 rfl t148 ?_
      exact hQ (-1) (by first | trivial | omega) 
    · refine X.iconst 11 i128_10 rfl rfl (by decide) ?_
      refine X.goto 15 i128_11 rfl rfl ?_
      refine X.cut [] i128_15 rfl ?_
      refine X.retz i128_15 rfl t128 (by omega) ?_
      show X (EE s) d 148 4 [(0, zr 4 40), (1, zi a1)] [zi 1] m _
      refine X.ifeq 21 7 i148_4 rfl rfl rfl (fun h505 => (by exfalso; omega)) (fun h505 => ?_)
      refine X.aload_n 8 i148_7 rfl rfl rfl ?_
      refine X.getF 11 i148_8 rfl rfl (by decide) rfl rfl ?_
      refine X.getR 14 i148_11 rfl rfl (by decide) rfl rfl ?_
      refine X.iload_n 15 i148_14 rfl rfl rfl ?_
      refine X.callv 18 [zi a1] [] [(0, zr 0 11), (1, zi a1)] i148_15 rfl (by decide) rfl rfl (by omega) rfl rfl (by decide) rfl t27 (Nat.le_of_ble_eq_true rfl) (Nat.le_of_ble_eq_true rfl) rfl ?_
      refine X.aload_n 1 i27_0 rfl rfl rfl ?_
      refine X.aload_n 2 i27_1 rfl rfl rfl ?_
      refine X.iload_n 3 i27_2 rfl rfl rfl ?_
      refine X.ldc 5 i27_3 rfl rfl (by decide) ?_
      refine X.idiv 6 i27_5 rfl rfl (by omega) ?_
      refine X.callv 9 [zi (a1 / 86400)] [zr 0 11] [(0, zr 0 11), (1, zi (a1 / 86400))] i27_6 rfl (by decide) rfl rfl (by omega) rfl rfl (by decide) rfl t28 (Nat.le_of_ble_eq_true rfl) (Nat.le_of_ble_eq_true rfl) rfl ?_
      refine c28_1 (B := B) 0 (a1 / 86400) (by omega) (hJ.up (by omega)) (by omega) (by omega) (fun v508 hv508 => ?_)
      show X (EE s) (d - 1) 27 9 [(0, zr 0 11), (1, zi a1)] [zi v508, zr 0 11] m _
      refine X.iload_n 10 i27_9 rfl rfl rfl ?_
      refine X.ldc 12 i27_10 rfl rfl (by decide) ?_
      refine X.irem 13 i27_12 rfl rfl (by omega) ?_
      refine X.callv 16 [zi v508, zi (a1 % 86400)] [] [(0, zr 0 11), (1, zi v508), (2, zi (a1 % 86400))] i27_13 rfl (by decide) rfl rfl (by omega) rfl rfl (by decide) rfl t31 (Nat.le_of_ble_eq_true rfl) (Nat.le_of_ble_eq_true rfl) rfl ?_
      refine c31_1 (B := B) 0 v508 (a1 % 86400) (by omega) (hJ.up (by omega)) (by omega) (by omega) (by omega) (fun v511 hv511 => ?_)
      show X (EE s) (d - 1) 27 16 [(0, zr 0 11), (1, zi a1)] [zi v511] m _
      refine X.reti i27_16 rfl t27 ?_
      show X (EE s) d 148 18 [(0, zr 4 40), (1, zi a1)] [zi v511] m _
      refine X.goto 22 i148_18 rfl rfl ?_
      refine X.cut [] i148_22 rfl ?_
      refine X.reti i148_22 rfl t148 ?_
      exact hQ v511 (by first | trivial | omega) 
-- WorkMeterModel.tariffAt
theorem c250_1 {s : Nat × (Nat → Int32)} {S : zS} {m0 m : zM} {B : Int} {d : Nat} {Q : Option zV → zM → Prop} (a1 : Int) (hd : 16 ≤ d) (hJ : J S m0 B m) (hB : B + 0 ≤ 1000000000) (ha1 : (-2147483648) ≤ a1 ∧ a1 ≤ 2147483647) (hQ : ∀ (v : Int), ((-1) ≤ v ∧ v ≤ 3) → Q (some (zi v)) m) : X (EE s) d 250 0 [(0, zr 4 44), (1, zi a1)] [] m Q := by
  refine X.iload_n 1 i250_0 rfl rfl rfl ?_
  refine X.i2l 2 i250_1 rfl rfl ?_
  refine X.lconst (y := 0) 3 i250_2 rfl rfl rfl ?_
  refine X.ldc2 6 i250_3 rfl rfl (by decide) ?_
  refine X.calls 9 [zl a1, zl 0, zl 2000000000] [] [(0, zl a1), (2, zl 0), (4, zl 2000000000)] i250_6 (by decide) rfl rfl (by omega) rfl rfl t204 (Nat.le_of_ble_eq_true rfl) (Nat.le_of_ble_eq_true rfl) rfl ?_
  refine X.lload_n 1 i204_0 rfl rfl rfl ?_
  refine X.lload_n 2 i204_1 rfl rfl rfl ?_
  refine X.lcmp 3 i204_2 rfl rfl (fun z501 hz501 => ?_)
  refine X.iflt 17 6 i204_3 rfl rfl rfl (fun h502 => ?_) (fun h502 => ?_)
  · have h502c : a1 < 0 := by omega
    clear h502 hz501
    refine X.cut [] i204_17 rfl ?_
    refine X.iconst 18 i204_17 rfl rfl (by decide) ?_
    refine X.retz i204_18 rfl t204 (by omega) ?_
    show X (EE s) d 250 9 [(0, zr 4 44), (1, zi a1)] [zi 0] m _
    refine X.ifeq 20 12 i250_9 rfl rfl rfl (fun h503 => ?_) (fun h503 => (by exfalso; omega))
    refine X.cut [] i250_20 rfl ?_
    refine X.iconst 21 i250_20 rfl rfl (by decide) ?_
    refine X.reti i250_21 rfl t250 ?_
    exact hQ (-1) (by first | trivial | omega) 
  · have h502c : a1 ≥ 0 := by omega
    clear h502 hz501
    refine X.lload_n 7 i204_6 rfl rfl rfl ?_
    refine X.lload 9 i204_7 rfl rfl rfl ?_
    refine X.lcmp 10 i204_9 rfl rfl (fun z504 hz504 => ?_)
    refine X.ifgt 17 13 i204_10 rfl rfl rfl (fun h505 => ?_) (fun h505 => ?_)
    · have h505c : a1 > 2000000000 := by omega
      clear h505 hz504
      refine X.cut [] i204_17 rfl ?_
      refine X.iconst 18 i204_17 rfl rfl (by decide) ?_
      refine X.retz i204_18 rfl t204 (by omega) ?_
      show X (EE s) d 250 9 [(0, zr 4 44), (1, zi a1)] [zi 0] m _
      refine X.ifeq 20 12 i250_9 rfl rfl rfl (fun h506 => ?_) (fun h506 => (by exfalso; omega))
      refine X.cut [] i250_20 rfl ?_
      refine X.iconst 21 i250_20 rfl rfl (by decide) ?_
      refine X.reti i250_21 rfl t250 ?_
      exact hQ (-1) (by first | trivial | omega) 
    · have h505c : a1 ≤ 2000000000 := by omega
      clear h505 hz504
      refine X.iconst 14 i204_13 rfl rfl (by decide) ?_
      refine X.goto 18 i204_14 rfl rfl ?_
      refine X.cut [] i204_18 rfl ?_
      refine X.retz i204_18 rfl t204 (by omega) ?_
      show X (EE s) d 250 9 [(0, zr 4 44), (1, zi a1)] [zi 1] m _
      refine X.ifeq 20 12 i250_9 rfl rfl rfl (fun h507 => (by exfalso; omega)) (fun h507 => ?_)
      refine X.aload_n 13 i250_12 rfl rfl rfl ?_
      refine X.iload_n 14 i250_13 rfl rfl rfl ?_
      refine X.callv 17 [zi a1] [] [(0, zr 4 44), (1, zi a1)] i250_14 rfl (by decide) rfl rfl (by omega) rfl rfl (by decide) rfl t217 (Nat.le_of_ble_eq_true rfl) (Nat.le_of_ble_eq_true rfl) rfl ?_
      refine c217_1 (B := B)  a1 (by omega) (hJ.up (by omega)) (by omega) (by omega) (fun v510 hv510 => ?_)
      show X (EE s) d 250 17 [(0, zr 4 44), (1, zi a1)] [zi v510] m _
      refine X.goto 21 i250_17 rfl rfl ?_
      refine X.cut [] i250_21 rfl ?_
      refine X.reti i250_21 rfl t250 ?_
      exact hQ v510 (by first | trivial | omega) 
-- WorkMeter.tableOf
theorem c149_1 {s : Nat × (Nat → Int32)} {S : zS} {m0 m : zM} {B : Int} {d : Nat} {Q : Option zV → zM → Prop} (a1 : Int) (hd : 15 ≤ d) (hJ : J S m0 B m) (hB : B + 0 ≤ 1000000000) (ha1 : (-2147483648) ≤ a1 ∧ a1 ≤ 2147483647) (hQ : ∀ (v : Int), ((-1) ≤ v ∧ v ≤ 7) → Q (some (zi v)) m) : X (EE s) d 149 0 [(0, zr 4 40), (1, zi a1)] [] m Q := by
  refine X.iload_n 1 i149_0 rfl rfl rfl ?_
  refine X.calls 4 [zi a1] [] [(0, zi a1)] i149_1 (by decide) rfl rfl (by omega) rfl rfl t150 (Nat.le_of_ble_eq_true rfl) (Nat.le_of_ble_eq_true rfl) rfl ?_
  refine X.iload_n 1 i150_0 rfl rfl rfl ?_
  refine X.iflt 15 4 i150_1 rfl rfl rfl (fun h501 => ?_) (fun h501 => ?_)
  · refine X.cut [] i150_15 rfl ?_
    refine X.iconst 16 i150_15 rfl rfl (by decide) ?_
    refine X.retz i150_16 rfl t150 (by omega) ?_
    show X (EE s) d 149 4 [(0, zr 4 40), (1, zi a1)] [zi 0] m _
    refine X.ifeq 21 7 i149_4 rfl rfl rfl (fun h502 => ?_) (fun h502 => (by exfalso; omega))
    refine X.cut [] i149_21 rfl ?_
    refine X.iconst 22 i149_21 rfl rfl (by decide) ?_
    refine X.reti i149_22 rfl t149 ?_
    exact hQ (-1) (by first | trivial | omega) 
  · refine X.iload_n 5 i150_4 rfl rfl rfl ?_
    refine X.sipush 8 i150_5 rfl rfl (by decide) ?_
    refine X.icmpgt 15 11 i150_8 rfl rfl rfl (fun h503 => ?_) (fun h503 => ?_)
    · refine X.cut [] i150_15 rfl ?_
      refine X.iconst 16 i150_15 rfl rfl (by decide) ?_
      refine X.retz i150_16 rfl t150 (by omega) ?_
      show X (EE s) d 149 4 [(0, zr 4 40), (1, zi a1)] [zi 0] m _
      refine X.ifeq 21 7 i149_4 rfl rfl rfl (fun h504 => ?_) (fun h504 => (by exfalso; omega))
      refine X.cut [] i149_21 rfl ?_
      refine X.iconst 22 i149_21 rfl rfl (by decide) ?_
      refine X.reti i149_22 rfl t149 ?_
      exact hQ (-1) (by first | trivial | omega) 
    · refine X.iconst 12 i150_11 rfl rfl (by decide) ?_
      refine X.goto 16 i150_12 rfl rfl ?_
      refine X.cut [] i150_16 rfl ?_
      refine X.retz i150_16 rfl t150 (by omega) ?_
      show X (EE s) d 149 4 [(0, zr 4 40), (1, zi a1)] [zi 1] m _
      refine X.ifeq 21 7 i149_4 rfl rfl rfl (fun h505 => (by exfalso; omega)) (fun h505 => ?_)
      refine X.aload_n 8 i149_7 rfl rfl rfl ?_
      refine X.getF 11 i149_8 rfl rfl (by decide) rfl rfl ?_
      refine X.getR 14 i149_11 rfl rfl (by decide) rfl rfl ?_
      refine X.iload_n 15 i149_14 rfl rfl rfl ?_
      refine X.callv 18 [zi a1] [] [(0, zr 0 11), (1, zi a1)] i149_15 rfl (by decide) rfl rfl (by omega) rfl rfl (by decide) rfl t28 (Nat.le_of_ble_eq_true rfl) (Nat.le_of_ble_eq_true rfl) rfl ?_
      refine c28_1 (B := B) 0 a1 (by omega) (hJ.up (by omega)) (by omega) (by omega) (fun v508 hv508 => ?_)
      show X (EE s) d 149 18 [(0, zr 4 40), (1, zi a1)] [zi v508] m _
      refine X.goto 22 i149_18 rfl rfl ?_
      refine X.cut [] i149_22 rfl ?_
      refine X.reti i149_22 rfl t149 ?_
      exact hQ v508 (by first | trivial | omega) 
-- WorkMeterModel.tableOf
theorem c251_1 {s : Nat × (Nat → Int32)} {S : zS} {m0 m : zM} {B : Int} {d : Nat} {Q : Option zV → zM → Prop} (a1 : Int) (hd : 15 ≤ d) (hJ : J S m0 B m) (hB : B + 0 ≤ 1000000000) (ha1 : (-2147483648) ≤ a1 ∧ a1 ≤ 2147483647) (hQ : ∀ (v : Int), ((-1) ≤ v ∧ v ≤ 7) → Q (some (zi v)) m) : X (EE s) d 251 0 [(0, zr 4 44), (1, zi a1)] [] m Q := by
  refine X.iload_n 1 i251_0 rfl rfl rfl ?_
  refine X.i2l 2 i251_1 rfl rfl ?_
  refine X.lconst (y := 0) 3 i251_2 rfl rfl rfl ?_
  refine X.ldc2 6 i251_3 rfl rfl (by decide) ?_
  refine X.calls 9 [zl a1, zl 0, zl 23148] [] [(0, zl a1), (2, zl 0), (4, zl 23148)] i251_6 (by decide) rfl rfl (by omega) rfl rfl t204 (Nat.le_of_ble_eq_true rfl) (Nat.le_of_ble_eq_true rfl) rfl ?_
  refine X.lload_n 1 i204_0 rfl rfl rfl ?_
  refine X.lload_n 2 i204_1 rfl rfl rfl ?_
  refine X.lcmp 3 i204_2 rfl rfl (fun z501 hz501 => ?_)
  refine X.iflt 17 6 i204_3 rfl rfl rfl (fun h502 => ?_) (fun h502 => ?_)
  · have h502c : a1 < 0 := by omega
    clear h502 hz501
    refine X.cut [] i204_17 rfl ?_
    refine X.iconst 18 i204_17 rfl rfl (by decide) ?_
    refine X.retz i204_18 rfl t204 (by omega) ?_
    show X (EE s) d 251 9 [(0, zr 4 44), (1, zi a1)] [zi 0] m _
    refine X.ifeq 20 12 i251_9 rfl rfl rfl (fun h503 => ?_) (fun h503 => (by exfalso; omega))
    refine X.cut [] i251_20 rfl ?_
    refine X.iconst 21 i251_20 rfl rfl (by decide) ?_
    refine X.reti i251_21 rfl t251 ?_
    exact hQ (-1) (by first | trivial | omega) 
  · have h502c : a1 ≥ 0 := by omega
    clear h502 hz501
    refine X.lload_n 7 i204_6 rfl rfl rfl ?_
    refine X.lload 9 i204_7 rfl rfl rfl ?_
    refine X.lcmp 10 i204_9 rfl rfl (fun z504 hz504 => ?_)
    refine X.ifgt 17 13 i204_10 rfl rfl rfl (fun h505 => ?_) (fun h505 => ?_)
    · have h505c : a1 > 23148 := by omega
      clear h505 hz504
      refine X.cut [] i204_17 rfl ?_
      refine X.iconst 18 i204_17 rfl rfl (by decide) ?_
      refine X.retz i204_18 rfl t204 (by omega) ?_
      show X (EE s) d 251 9 [(0, zr 4 44), (1, zi a1)] [zi 0] m _
      refine X.ifeq 20 12 i251_9 rfl rfl rfl (fun h506 => ?_) (fun h506 => (by exfalso; omega))
      refine X.cut [] i251_20 rfl ?_
      refine X.iconst 21 i251_20 rfl rfl (by decide) ?_
      refine X.reti i251_21 rfl t251 ?_
      exact hQ (-1) (by first | trivial | omega) 
    · have h505c : a1 ≤ 23148 := by omega
      clear h505 hz504
      refine X.iconst 14 i204_13 rfl rfl (by decide) ?_
      refine X.goto 18 i204_14 rfl rfl ?_
      refine X.cut [] i204_18 rfl ?_
      refine X.retz i204_18 rfl t204 (by omega) ?_
      show X (EE s) d 251 9 [(0, zr 4 44), (1, zi a1)] [zi 1] m _
      refine X.ifeq 20 12 i251_9 rfl rfl rfl (fun h507 => (by exfalso; omega)) (fun h507 => ?_)
      refine X.aload_n 13 i251_12 rfl rfl rfl ?_
      refine X.iload_n 14 i251_13 rfl rfl rfl ?_
      refine X.callv 17 [zi a1] [] [(0, zr 4 44), (1, zi a1)] i251_14 rfl (by decide) rfl rfl (by omega) rfl rfl (by decide) rfl t218 (Nat.le_of_ble_eq_true rfl) (Nat.le_of_ble_eq_true rfl) rfl ?_
      refine c218_1 (B := B)  a1 (by omega) (hJ.up (by omega)) (by omega) (by omega) (fun v510 hv510 => ?_)
      show X (EE s) d 251 17 [(0, zr 4 44), (1, zi a1)] [zi v510] m _
      refine X.goto 21 i251_17 rfl rfl ?_
      refine X.cut [] i251_21 rfl ?_
      refine X.reti i251_21 rfl t251 ?_
      exact hQ v510 (by first | trivial | omega) 
-- WorkMeter.switching
theorem c151_1 {s : Nat × (Nat → Int32)} {S : zS} {m0 m : zM} {B : Int} {d : Nat} {Q : Option zV → zM → Prop} (a1 a2 a3 : Int) (hd : 13 ≤ d) (hJ : J S m0 B m) (hB : B + 0 ≤ 1000000000) (ha1 : (-2147483648) ≤ a1 ∧ a1 ≤ 2147483647) (ha2 : (-2147483648) ≤ a2 ∧ a2 ≤ 2147483647) (ha3 : (-2147483648) ≤ a3 ∧ a3 ≤ 2147483647) (hQ : ∀ (v : Int), ((-1) ≤ v ∧ v ≤ 86399) → Q (some (zi v)) m) : X (EE s) d 151 0 [(0, zr 4 40), (1, zi a1), (2, zi a2), (3, zi a3)] [] m Q := by
  refine X.iload_n 1 i151_0 rfl rfl rfl ?_
  refine X.calls 4 [zi a1] [] [(0, zi a1)] i151_1 (by decide) rfl rfl (by omega) rfl rfl t79 (Nat.le_of_ble_eq_true rfl) (Nat.le_of_ble_eq_true rfl) rfl ?_
  refine X.iload_n 1 i79_0 rfl rfl rfl ?_
  refine X.iflt 14 4 i79_1 rfl rfl rfl (fun h501 => ?_) (fun h501 => ?_)
  · refine X.cut [] i79_14 rfl ?_
    refine X.iconst 15 i79_14 rfl rfl (by decide) ?_
    refine X.retz i79_15 rfl t79 (by omega) ?_
    show X (EE s) d 151 4 [(0, zr 4 40), (1, zi a1), (2, zi a2), (3, zi a3)] [zi 0] m _
    refine X.ifne 9 7 i151_4 rfl rfl rfl (fun h502 => (by exfalso; omega)) (fun h502 => ?_)
    refine X.iconst 8 i151_7 rfl rfl (by decide) ?_
    refine X.reti i151_8 rfl t151 ?_
    exact hQ (-1) (by first | trivial | omega) 
  · refine X.iload_n 5 i79_4 rfl rfl rfl ?_
    refine X.bipush 7 i79_5 rfl rfl (by decide) ?_
    refine X.icmpge 14 10 i79_7 rfl rfl rfl (fun h503 => ?_) (fun h503 => ?_)
    · refine X.cut [] i79_14 rfl ?_
      refine X.iconst 15 i79_14 rfl rfl (by decide) ?_
      refine X.retz i79_15 rfl t79 (by omega) ?_
      show X (EE s) d 151 4 [(0, zr 4 40), (1, zi a1), (2, zi a2), (3, zi a3)] [zi 0] m _
      refine X.ifne 9 7 i151_4 rfl rfl rfl (fun h504 => (by exfalso; omega)) (fun h504 => ?_)
      refine X.iconst 8 i151_7 rfl rfl (by decide) ?_
      refine X.reti i151_8 rfl t151 ?_
      exact hQ (-1) (by first | trivial | omega) 
    · refine X.iconst 11 i79_10 rfl rfl (by decide) ?_
      refine X.goto 15 i79_11 rfl rfl ?_
      refine X.cut [] i79_15 rfl ?_
      refine X.retz i79_15 rfl t79 (by omega) ?_
      show X (EE s) d 151 4 [(0, zr 4 40), (1, zi a1), (2, zi a2), (3, zi a3)] [zi 1] m _
      refine X.ifne 9 7 i151_4 rfl rfl rfl (fun h505 => ?_) (fun h505 => (by exfalso; omega))
      refine X.aload_n 10 i151_9 rfl rfl rfl ?_
      refine X.getF 13 i151_10 rfl rfl (by decide) rfl rfl ?_
      refine X.getR 16 i151_13 rfl rfl (by decide) rfl rfl ?_
      refine X.getR 19 i151_16 rfl rfl (by decide) rfl rfl ?_
      refine X.iload_n 20 i151_19 rfl rfl rfl ?_
      refine X.iald 21 i151_20 rfl rfl (by decide) rfl (by omega) ?_
      have h506 := r12_0 hJ 0 (i := a1) (by omega)
      refine X.istore 23 [(0, zr 4 40), (1, zi a1), (2, zi a2), (3, zi a3), (4, zi (m 0 12 a1))] i151_21 rfl rfl rfl ?_
      refine X.iload_n 24 i151_23 rfl rfl rfl ?_
      refine X.iconst 25 i151_24 rfl rfl (by decide) ?_
      refine X.icmpne 31 28 i151_25 rfl rfl rfl (fun h507 => ?_) (fun h507 => ?_)
      · refine X.iload_n 32 i151_31 rfl rfl rfl ?_
        refine X.iflt 50 35 i151_32 rfl rfl rfl (fun h508 => ?_) (fun h508 => ?_)
        · refine X.cut [] i151_50 rfl ?_
          refine X.iconst 51 i151_50 rfl rfl (by decide) ?_
          refine X.reti i151_51 rfl t151 ?_
          exact hQ (-1) (by first | trivial | omega) 
        · refine X.iload_n 36 i151_35 rfl rfl rfl ?_
          refine X.iload 38 i151_36 rfl rfl rfl ?_
          refine X.icmpge 50 41 i151_38 rfl rfl rfl (fun h509 => ?_) (fun h509 => ?_)
          · refine X.cut [] i151_50 rfl ?_
            refine X.iconst 51 i151_50 rfl rfl (by decide) ?_
            refine X.reti i151_51 rfl t151 ?_
            exact hQ (-1) (by first | trivial | omega) 
          · refine X.iload_n 42 i151_41 rfl rfl rfl ?_
            refine X.iflt 50 45 i151_42 rfl rfl rfl (fun h510 => ?_) (fun h510 => ?_)
            · refine X.cut [] i151_50 rfl ?_
              refine X.iconst 51 i151_50 rfl rfl (by decide) ?_
              refine X.reti i151_51 rfl t151 ?_
              exact hQ (-1) (by first | trivial | omega) 
            · refine X.iload_n 46 i151_45 rfl rfl rfl ?_
              refine X.iconst 47 i151_46 rfl rfl (by decide) ?_
              refine X.icmple 52 50 i151_47 rfl rfl rfl (fun h511 => ?_) (fun h511 => ?_)
              · refine X.cut [(0, zr 4 40), (1, zi a1), (2, zi a2), (3, zi a3)] i151_52 rfl ?_
                refine X.iload_n 53 i151_52 rfl rfl rfl ?_
                refine X.bipush 55 i151_53 rfl rfl (by decide) ?_
                refine X.imul 56 i151_55 rfl rfl (by omega) ?_
                refine X.iload_n 57 i151_56 rfl rfl rfl ?_
                refine X.iadd 58 i151_57 rfl rfl (by omega) ?_
                refine X.istore 60 [(0, zr 4 40), (1, zi a1), (2, zi a2), (3, zi a3), (5, zi ((a1 * 6) + a2))] i151_58 rfl rfl rfl ?_
                refine X.iload_n 61 i151_60 rfl rfl rfl ?_
                refine X.ifne 80 64 i151_61 rfl rfl rfl (fun h512 => ?_) (fun h512 => ?_)
                · refine X.cut [(0, zr 4 40), (5, zi ((a1 * 6) + a2))] i151_80 rfl ?_
                  refine X.aload_n 81 i151_80 rfl rfl rfl ?_
                  refine X.getF 84 i151_81 rfl rfl (by decide) rfl rfl ?_
                  refine X.getR 87 i151_84 rfl rfl (by decide) rfl rfl ?_
                  refine X.getR 90 i151_87 rfl rfl (by decide) rfl rfl ?_
                  refine X.iload 92 i151_90 rfl rfl rfl ?_
                  refine X.iald 93 i151_92 rfl rfl (by decide) rfl (by omega) ?_
                  have h513 := r14_0 hJ 0 (i := ((a1 * 6) + a2)) (by omega)
                  refine X.cut [] i151_93 rfl ?_
                  refine X.reti i151_93 rfl t151 ?_
                  exact hQ (m 0 14 ((a1 * 6) + a2)) (by first | trivial | omega) 
                · refine X.aload_n 65 i151_64 rfl rfl rfl ?_
                  refine X.getF 68 i151_65 rfl rfl (by decide) rfl rfl ?_
                  refine X.getR 71 i151_68 rfl rfl (by decide) rfl rfl ?_
                  refine X.getR 74 i151_71 rfl rfl (by decide) rfl rfl ?_
                  refine X.iload 76 i151_74 rfl rfl rfl ?_
                  refine X.iald 77 i151_76 rfl rfl (by decide) rfl (by omega) ?_
                  have h514 := r13_0 hJ 0 (i := ((a1 * 6) + a2)) (by omega)
                  refine X.goto 93 i151_77 rfl rfl ?_
                  refine X.cut [] i151_93 rfl ?_
                  refine X.reti i151_93 rfl t151 ?_
                  exact hQ (m 0 13 ((a1 * 6) + a2)) (by first | trivial | omega) 
              · refine X.cut [] i151_50 rfl ?_
                refine X.iconst 51 i151_50 rfl rfl (by decide) ?_
                refine X.reti i151_51 rfl t151 ?_
                exact hQ (-1) (by first | trivial | omega) 
      · refine X.iload 30 i151_28 rfl rfl rfl ?_
        refine X.reti i151_30 rfl t151 ?_
        exact hQ (m 0 12 a1) (by first | trivial | omega) 
-- WorkMeterModel.switching
theorem c252_1 {s : Nat × (Nat → Int32)} {S : zS} {m0 m : zM} {B : Int} {d : Nat} {Q : Option zV → zM → Prop} (a1 a2 a3 : Int) (hd : 13 ≤ d) (hJ : J S m0 B m) (hB : B + 0 ≤ 1000000000) (ha1 : (-2147483648) ≤ a1 ∧ a1 ≤ 2147483647) (ha2 : (-2147483648) ≤ a2 ∧ a2 ≤ 2147483647) (ha3 : (-2147483648) ≤ a3 ∧ a3 ≤ 2147483647) (hQ : ∀ (v : Int), ((-1) ≤ v ∧ v ≤ 86399) → Q (some (zi v)) m) : X (EE s) d 252 0 [(0, zr 4 44), (1, zi a1), (2, zi a2), (3, zi a3)] [] m Q := by
  refine X.iload_n 1 i252_0 rfl rfl rfl ?_
  refine X.calls 4 [zi a1] [] [(0, zi a1)] i252_1 (by decide) rfl rfl (by omega) rfl rfl t241 (Nat.le_of_ble_eq_true rfl) (Nat.le_of_ble_eq_true rfl) rfl ?_
  refine X.iload_n 1 i241_0 rfl rfl rfl ?_
  refine X.i2l 2 i241_1 rfl rfl ?_
  refine X.lconst (y := 0) 3 i241_2 rfl rfl rfl ?_
  refine X.ldc2 6 i241_3 rfl rfl (by decide) ?_
  refine X.calls 9 [zl a1, zl 0, zl 7] [] [(0, zl a1), (2, zl 0), (4, zl 7)] i241_6 (by decide) rfl rfl (by omega) rfl rfl t204 (Nat.le_of_ble_eq_true rfl) (Nat.le_of_ble_eq_true rfl) rfl ?_
  refine X.lload_n 1 i204_0 rfl rfl rfl ?_
  refine X.lload_n 2 i204_1 rfl rfl rfl ?_
  refine X.lcmp 3 i204_2 rfl rfl (fun z501 hz501 => ?_)
  refine X.iflt 17 6 i204_3 rfl rfl rfl (fun h502 => ?_) (fun h502 => ?_)
  · have h502c : a1 < 0 := by omega
    clear h502 hz501
    refine X.cut [] i204_17 rfl ?_
    refine X.iconst 18 i204_17 rfl rfl (by decide) ?_
    refine X.retz i204_18 rfl t204 (by omega) ?_
    show X (EE s) (d - 1) 241 9 [(0, zi a1)] [zi 0] m _
    refine X.retz i241_9 rfl t241 (by omega) ?_
    show X (EE s) d 252 4 [(0, zr 4 44), (1, zi a1), (2, zi a2), (3, zi a3)] [zi 0] m _
    refine X.ifne 9 7 i252_4 rfl rfl rfl (fun h503 => (by exfalso; omega)) (fun h503 => ?_)
    refine X.iconst 8 i252_7 rfl rfl (by decide) ?_
    refine X.reti i252_8 rfl t252 ?_
    exact hQ (-1) (by first | trivial | omega) 
  · have h502c : a1 ≥ 0 := by omega
    clear h502 hz501
    refine X.lload_n 7 i204_6 rfl rfl rfl ?_
    refine X.lload 9 i204_7 rfl rfl rfl ?_
    refine X.lcmp 10 i204_9 rfl rfl (fun z504 hz504 => ?_)
    refine X.ifgt 17 13 i204_10 rfl rfl rfl (fun h505 => ?_) (fun h505 => ?_)
    · have h505c : a1 > 7 := by omega
      clear h505 hz504
      refine X.cut [] i204_17 rfl ?_
      refine X.iconst 18 i204_17 rfl rfl (by decide) ?_
      refine X.retz i204_18 rfl t204 (by omega) ?_
      show X (EE s) (d - 1) 241 9 [(0, zi a1)] [zi 0] m _
      refine X.retz i241_9 rfl t241 (by omega) ?_
      show X (EE s) d 252 4 [(0, zr 4 44), (1, zi a1), (2, zi a2), (3, zi a3)] [zi 0] m _
      refine X.ifne 9 7 i252_4 rfl rfl rfl (fun h506 => (by exfalso; omega)) (fun h506 => ?_)
      refine X.iconst 8 i252_7 rfl rfl (by decide) ?_
      refine X.reti i252_8 rfl t252 ?_
      exact hQ (-1) (by first | trivial | omega) 
    · have h505c : a1 ≤ 7 := by omega
      clear h505 hz504
      refine X.iconst 14 i204_13 rfl rfl (by decide) ?_
      refine X.goto 18 i204_14 rfl rfl ?_
      refine X.cut [] i204_18 rfl ?_
      refine X.retz i204_18 rfl t204 (by omega) ?_
      show X (EE s) (d - 1) 241 9 [(0, zi a1)] [zi 1] m _
      refine X.retz i241_9 rfl t241 (by omega) ?_
      show X (EE s) d 252 4 [(0, zr 4 44), (1, zi a1), (2, zi a2), (3, zi a3)] [zi 1] m _
      refine X.ifne 9 7 i252_4 rfl rfl rfl (fun h507 => ?_) (fun h507 => (by exfalso; omega))
      refine X.iload_n 10 i252_9 rfl rfl rfl ?_
      refine X.iconst 11 i252_10 rfl rfl (by decide) ?_
      refine X.icmpne 26 14 i252_11 rfl rfl rfl (fun h508 => ?_) (fun h508 => ?_)
      · refine X.iload_n 27 i252_26 rfl rfl rfl ?_
        refine X.i2l 28 i252_27 rfl rfl ?_
        refine X.lconst (y := 0) 29 i252_28 rfl rfl rfl ?_
        refine X.aload_n 30 i252_29 rfl rfl rfl ?_
        refine X.getF 33 i252_30 rfl rfl (by decide) rfl rfl ?_
        refine X.sipush 36 i252_33 rfl rfl (by decide) ?_
        refine X.iload_n 37 i252_36 rfl rfl rfl ?_
        refine X.iadd 38 i252_37 rfl rfl (by omega) ?_
        refine X.lald 39 i252_38 rfl rfl (by decide) rfl (by omega) ?_
        have h509 := r45_287 hJ 4 (i := (287 + a1)) (by omega)
        refine X.lconst (y := 1) 40 i252_39 rfl rfl rfl ?_
        refine X.lsub 41 i252_40 rfl rfl (by omega) ?_
        refine X.calls 44 [zl a2, zl 0, zl ((m 4 45 (287 + a1)) - 1)] [] [(0, zl a2), (2, zl 0), (4, zl ((m 4 45 (287 + a1)) - 1))] i252_41 (by decide) rfl rfl (by omega) rfl rfl t204 (Nat.le_of_ble_eq_true rfl) (Nat.le_of_ble_eq_true rfl) rfl ?_
        refine X.lload_n 1 i204_0 rfl rfl rfl ?_
        refine X.lload_n 2 i204_1 rfl rfl rfl ?_
        refine X.lcmp 3 i204_2 rfl rfl (fun z510 hz510 => ?_)
        refine X.iflt 17 6 i204_3 rfl rfl rfl (fun h511 => ?_) (fun h511 => ?_)
        · have h511c : a2 < 0 := by omega
          clear h511 hz510
          refine X.cut [] i204_17 rfl ?_
          refine X.iconst 18 i204_17 rfl rfl (by decide) ?_
          refine X.retz i204_18 rfl t204 (by omega) ?_
          show X (EE s) d 252 44 [(0, zr 4 44), (1, zi a1), (2, zi a2), (3, zi a3)] [zi 0] m _
          refine X.ifeq 57 47 i252_44 rfl rfl rfl (fun h512 => ?_) (fun h512 => (by exfalso; omega))
          refine X.cut [] i252_57 rfl ?_
          refine X.iconst 58 i252_57 rfl rfl (by decide) ?_
          refine X.reti i252_58 rfl t252 ?_
          exact hQ (-1) (by first | trivial | omega) 
        · have h511c : a2 ≥ 0 := by omega
          clear h511 hz510
          refine X.lload_n 7 i204_6 rfl rfl rfl ?_
          refine X.lload 9 i204_7 rfl rfl rfl ?_
          refine X.lcmp 10 i204_9 rfl rfl (fun z513 hz513 => ?_)
          refine X.ifgt 17 13 i204_10 rfl rfl rfl (fun h514 => ?_) (fun h514 => ?_)
          · have h514c : a2 > ((m 4 45 (287 + a1)) - 1) := by omega
            clear h514 hz513
            refine X.cut [] i204_17 rfl ?_
            refine X.iconst 18 i204_17 rfl rfl (by decide) ?_
            refine X.retz i204_18 rfl t204 (by omega) ?_
            show X (EE s) d 252 44 [(0, zr 4 44), (1, zi a1), (2, zi a2), (3, zi a3)] [zi 0] m _
            refine X.ifeq 57 47 i252_44 rfl rfl rfl (fun h515 => ?_) (fun h515 => (by exfalso; omega))
            refine X.cut [] i252_57 rfl ?_
            refine X.iconst 58 i252_57 rfl rfl (by decide) ?_
            refine X.reti i252_58 rfl t252 ?_
            exact hQ (-1) (by first | trivial | omega) 
          · have h514c : a2 ≤ ((m 4 45 (287 + a1)) - 1) := by omega
            clear h514 hz513
            refine X.iconst 14 i204_13 rfl rfl (by decide) ?_
            refine X.goto 18 i204_14 rfl rfl ?_
            refine X.cut [] i204_18 rfl ?_
            refine X.retz i204_18 rfl t204 (by omega) ?_
            show X (EE s) d 252 44 [(0, zr 4 44), (1, zi a1), (2, zi a2), (3, zi a3)] [zi 1] m _
            refine X.ifeq 57 47 i252_44 rfl rfl rfl (fun h516 => (by exfalso; omega)) (fun h516 => ?_)
            refine X.iload_n 48 i252_47 rfl rfl rfl ?_
            refine X.i2l 49 i252_48 rfl rfl ?_
            refine X.lconst (y := 0) 50 i252_49 rfl rfl rfl ?_
            refine X.lconst (y := 1) 51 i252_50 rfl rfl rfl ?_
            refine X.calls 54 [zl a3, zl 0, zl 1] [] [(0, zl a3), (2, zl 0), (4, zl 1)] i252_51 (by decide) rfl rfl (by omega) rfl rfl t204 (Nat.le_of_ble_eq_true rfl) (Nat.le_of_ble_eq_true rfl) rfl ?_
            refine X.lload_n 1 i204_0 rfl rfl rfl ?_
            refine X.lload_n 2 i204_1 rfl rfl rfl ?_
            refine X.lcmp 3 i204_2 rfl rfl (fun z517 hz517 => ?_)
            refine X.iflt 17 6 i204_3 rfl rfl rfl (fun h518 => ?_) (fun h518 => ?_)
            · have h518c : a3 < 0 := by omega
              clear h518 hz517
              refine X.cut [] i204_17 rfl ?_
              refine X.iconst 18 i204_17 rfl rfl (by decide) ?_
              refine X.retz i204_18 rfl t204 (by omega) ?_
              show X (EE s) d 252 54 [(0, zr 4 44), (1, zi a1), (2, zi a2), (3, zi a3)] [zi 0] m _
              refine X.ifne 59 57 i252_54 rfl rfl rfl (fun h519 => (by exfalso; omega)) (fun h519 => ?_)
              refine X.cut [] i252_57 rfl ?_
              refine X.iconst 58 i252_57 rfl rfl (by decide) ?_
              refine X.reti i252_58 rfl t252 ?_
              exact hQ (-1) (by first | trivial | omega) 
            · have h518c : a3 ≥ 0 := by omega
              clear h518 hz517
              refine X.lload_n 7 i204_6 rfl rfl rfl ?_
              refine X.lload 9 i204_7 rfl rfl rfl ?_
              refine X.lcmp 10 i204_9 rfl rfl (fun z520 hz520 => ?_)
              refine X.ifgt 17 13 i204_10 rfl rfl rfl (fun h521 => ?_) (fun h521 => ?_)
              · have h521c : a3 > 1 := by omega
                clear h521 hz520
                refine X.cut [] i204_17 rfl ?_
                refine X.iconst 18 i204_17 rfl rfl (by decide) ?_
                refine X.retz i204_18 rfl t204 (by omega) ?_
                show X (EE s) d 252 54 [(0, zr 4 44), (1, zi a1), (2, zi a2), (3, zi a3)] [zi 0] m _
                refine X.ifne 59 57 i252_54 rfl rfl rfl (fun h522 => (by exfalso; omega)) (fun h522 => ?_)
                refine X.cut [] i252_57 rfl ?_
                refine X.iconst 58 i252_57 rfl rfl (by decide) ?_
                refine X.reti i252_58 rfl t252 ?_
                exact hQ (-1) (by first | trivial | omega) 
              · have h521c : a3 ≤ 1 := by omega
                clear h521 hz520
                refine X.iconst 14 i204_13 rfl rfl (by decide) ?_
                refine X.goto 18 i204_14 rfl rfl ?_
                refine X.cut [] i204_18 rfl ?_
                refine X.retz i204_18 rfl t204 (by omega) ?_
                show X (EE s) d 252 54 [(0, zr 4 44), (1, zi a1), (2, zi a2), (3, zi a3)] [zi 1] m _
                refine X.ifne 59 57 i252_54 rfl rfl rfl (fun h523 => ?_) (fun h523 => (by exfalso; omega))
                refine X.aload_n 60 i252_59 rfl rfl rfl ?_
                refine X.getF 63 i252_60 rfl rfl (by decide) rfl rfl ?_
                refine X.iload_n 64 i252_63 rfl rfl rfl ?_
                refine X.ifne 73 67 i252_64 rfl rfl rfl (fun h524 => ?_) (fun h524 => ?_)
                · refine X.cut [(1, zi a1), (2, zi a2)] i252_73 rfl ?_
                  refine X.sipush 76 i252_73 rfl rfl (by decide) ?_
                  refine X.bipush 78 i252_76 rfl rfl (by decide) ?_
                  refine X.iload_n 79 i252_78 rfl rfl rfl ?_
                  refine X.imul 80 i252_79 rfl rfl (by omega) ?_
                  refine X.iadd 81 i252_80 rfl rfl (by omega) ?_
                  refine X.iload_n 82 i252_81 rfl rfl rfl ?_
                  refine X.iadd 83 i252_82 rfl rfl (by omega) ?_
                  refine X.lald 84 i252_83 rfl rfl (by decide) rfl (by omega) ?_
                  have h525 := r45_343 hJ 4 (i := ((343 + (6 * a1)) + a2)) (by omega)
                  refine X.l2i 85 i252_84 rfl rfl (by omega) ?_
                  refine X.reti i252_85 rfl t252 ?_
                  exact hQ (m 4 45 ((343 + (6 * a1)) + a2)) (by first | trivial | omega) 
                · refine X.sipush 70 i252_67 rfl rfl (by decide) ?_
                  refine X.goto 76 i252_70 rfl rfl ?_
                  refine X.cut [(1, zi a1), (2, zi a2)] i252_76 rfl ?_
                  refine X.bipush 78 i252_76 rfl rfl (by decide) ?_
                  refine X.iload_n 79 i252_78 rfl rfl rfl ?_
                  refine X.imul 80 i252_79 rfl rfl (by omega) ?_
                  refine X.iadd 81 i252_80 rfl rfl (by omega) ?_
                  refine X.iload_n 82 i252_81 rfl rfl rfl ?_
                  refine X.iadd 83 i252_82 rfl rfl (by omega) ?_
                  refine X.lald 84 i252_83 rfl rfl (by decide) rfl (by omega) ?_
                  have h526 := r45_295 hJ 4 (i := ((295 + (6 * a1)) + a2)) (by omega)
                  refine X.l2i 85 i252_84 rfl rfl (by omega) ?_
                  refine X.reti i252_85 rfl t252 ?_
                  exact hQ (m 4 45 ((295 + (6 * a1)) + a2)) (by first | trivial | omega) 
      · refine X.aload_n 15 i252_14 rfl rfl rfl ?_
        refine X.getF 18 i252_15 rfl rfl (by decide) rfl rfl ?_
        refine X.sipush 21 i252_18 rfl rfl (by decide) ?_
        refine X.iload_n 22 i252_21 rfl rfl rfl ?_
        refine X.iadd 23 i252_22 rfl rfl (by omega) ?_
        refine X.lald 24 i252_23 rfl rfl (by decide) rfl (by omega) ?_
        have h527 := r45_287 hJ 4 (i := (287 + a1)) (by omega)
        refine X.l2i 25 i252_24 rfl rfl (by omega) ?_
        refine X.reti i252_25 rfl t252 ?_
        exact hQ (m 4 45 (287 + a1)) (by first | trivial | omega) 
theorem l153_36_1 {s : Nat × (Nat → Int32)} {S : zS} {m0 m : zM} {B : Int} {d : Nat} {Q : Option zV → zM → Prop} (g0 : Nat) (y2 y3 : Int) (hd : 16 ≤ d) (hJ : J S m0 B m) (hB9 : B ≤ 1000000000) (hy2 : 1295999 ≤ y2 ∧ y2 ≤ 2000000000) (hy3 : 0 ≤ y3 ∧ y3 ≤ 3)
    (K59 : ∀ (x4 x5 : Int) , (0 ≤ x4 ∧ x4 ≤ 2000000000) → (0 ≤ x5 ∧ x5 ≤ 104) → X (EE s) d 153 59 [(0, zr g0 11), (2, zi y2), (3, zi y3), (4, zi x4), (5, zi x5)] [] m Q)
    (K76 : X (EE s) d 153 76 [] [] m Q) :
    ∀ (n : Nat) (y4 y5 : Int) , (0 ≤ y4 ∧ y4 ≤ 2000246400) → (0 ≤ y5 ∧ y5 ≤ 105) → 105 - y5 < (n : Int) → X (EE s) d 153 36 [(0, zr g0 11), (2, zi y2), (3, zi y3), (4, zi y4), (5, zi y5)] [] m Q := by
  intro n
  induction n with
  | zero =>
    intro y4 y5 hy4 hy5 hn
    exfalso
    omega
  | succ n ih =>
    intro y4 y5 hy4 hy5 hn
    refine X.iload 38 i153_36 rfl rfl rfl ?_
    refine X.bipush 40 i153_38 rfl rfl (by decide) ?_
    refine X.icmpge 76 43 i153_40 rfl rfl rfl (fun h513 => ?_) (fun h513 => ?_)
    · refine X.cut [] i153_76 rfl ?_
      exact K76  
    · refine X.iload 45 i153_43 rfl rfl rfl ?_
      refine X.iload_n 46 i153_45 rfl rfl rfl ?_
      refine X.icmpgt 76 49 i153_46 rfl rfl rfl (fun h514 => ?_) (fun h514 => ?_)
      · refine X.cut [] i153_76 rfl ?_
        exact K76  
      · refine X.aload_n 50 i153_49 rfl rfl rfl ?_
        refine X.iload 52 i153_50 rfl rfl rfl ?_
        refine X.callv 55 [zi y4] [] [(0, zr g0 11), (1, zi y4)] i153_52 rfl (by decide) rfl rfl (by omega) rfl rfl (by decide) rfl t27 (Nat.le_of_ble_eq_true rfl) (Nat.le_of_ble_eq_true rfl) rfl ?_
        refine X.aload_n 1 i27_0 rfl rfl rfl ?_
        refine X.aload_n 2 i27_1 rfl rfl rfl ?_
        refine X.iload_n 3 i27_2 rfl rfl rfl ?_
        refine X.ldc 5 i27_3 rfl rfl (by decide) ?_
        refine X.idiv 6 i27_5 rfl rfl (by omega) ?_
        refine X.callv 9 [zi (y4 / 86400)] [zr g0 11] [(0, zr g0 11), (1, zi (y4 / 86400))] i27_6 rfl (by decide) rfl rfl (by omega) rfl rfl (by decide) rfl t28 (Nat.le_of_ble_eq_true rfl) (Nat.le_of_ble_eq_true rfl) rfl ?_
        refine c28_1 (B := B) g0 (y4 / 86400) (by omega) (hJ.up (by omega)) (by omega) (by omega) (fun v517 hv517 => ?_)
        show X (EE s) (d - 1) 27 9 [(0, zr g0 11), (1, zi y4)] [zi v517, zr g0 11] m _
        refine X.iload_n 10 i27_9 rfl rfl rfl ?_
        refine X.ldc 12 i27_10 rfl rfl (by decide) ?_
        refine X.irem 13 i27_12 rfl rfl (by omega) ?_
        refine X.callv 16 [zi v517, zi (y4 % 86400)] [] [(0, zr g0 11), (1, zi v517), (2, zi (y4 % 86400))] i27_13 rfl (by decide) rfl rfl (by omega) rfl rfl (by decide) rfl t31 (Nat.le_of_ble_eq_true rfl) (Nat.le_of_ble_eq_true rfl) rfl ?_
        refine c31_1 (B := B) g0 v517 (y4 % 86400) (by omega) (hJ.up (by omega)) (by omega) (by omega) (by omega) (fun v520 hv520 => ?_)
        show X (EE s) (d - 1) 27 16 [(0, zr g0 11), (1, zi y4)] [zi v520] m _
        refine X.reti i27_16 rfl t27 ?_
        show X (EE s) d 153 55 [(0, zr g0 11), (2, zi y2), (3, zi y3), (4, zi y4), (5, zi y5)] [zi v520] m _
        refine X.iload_n 56 i153_55 rfl rfl rfl ?_
        refine X.icmpeq 62 59 i153_56 rfl rfl rfl (fun h521 => ?_) (fun h521 => ?_)
        · refine X.aload_n 63 i153_62 rfl rfl rfl ?_
          refine X.iload 65 i153_63 rfl rfl rfl ?_
          refine X.callv 68 [zi y4] [] [(0, zr g0 11), (1, zi y4)] i153_65 rfl (by decide) rfl rfl (by omega) rfl rfl (by decide) rfl t37 (Nat.le_of_ble_eq_true rfl) (Nat.le_of_ble_eq_true rfl) rfl ?_
          refine c37_1 (B := B) g0 y4 (by omega) (hJ.up (by omega)) (by omega) (by omega) (fun v524 hv524 hqv5240 => ?_)
          show X (EE s) d 153 68 [(0, zr g0 11), (2, zi y2), (3, zi y3), (4, zi y4), (5, zi y5)] [zi v524] m _
          refine X.istore 70 [(0, zr g0 11), (2, zi y2), (3, zi y3), (4, zi v524), (5, zi y5)] i153_68 rfl rfl rfl ?_
          refine X.iinc 73 [(0, zr g0 11), (2, zi y2), (3, zi y3), (4, zi v524), (5, zi (y5 + 1))] i153_70 rfl rfl rfl (by omega) rfl ?_
          refine X.goto 36 i153_73 rfl rfl ?_
          exact ih v524 (y5 + 1) (by omega) (by omega) (by omega)
        · exact K59 y4 y5 (by first | trivial | omega) (by first | trivial | omega)
-- WorkMeter$Calendar.changeAfter
theorem c153_1 {s : Nat × (Nat → Int32)} {S : zS} {m0 m : zM} {B : Int} {d : Nat} {Q : Option zV → zM → Prop} (g0 : Nat) (a1 : Int) (hd : 16 ≤ d) (hJ : J S m0 B m) (hB : B + 0 ≤ 1000000000) (ha1 : 0 ≤ a1 ∧ a1 ≤ 2000000000) (hQ : ∀ (v : Int), ((-1) ≤ v ∧ v ≤ 2000000000) → Q (some (zi v)) m) : X (EE s) d 153 0 [(0, zr g0 11), (1, zi a1)] [] m Q := by
  refine X.iload_n 1 i153_0 rfl rfl rfl ?_
  refine X.ldc 3 i153_1 rfl rfl (by decide) ?_
  refine X.idiv 4 i153_3 rfl rfl (by omega) ?_
  refine X.bipush 6 i153_4 rfl rfl (by decide) ?_
  refine X.iadd 7 i153_6 rfl rfl (by omega) ?_
  refine X.iconst 8 i153_7 rfl rfl (by decide) ?_
  refine X.iadd 9 i153_8 rfl rfl (by omega) ?_
  refine X.ldc 11 i153_9 rfl rfl (by decide) ?_
  refine X.imul 12 i153_11 rfl rfl (by omega) ?_
  refine X.iconst 13 i153_12 rfl rfl (by decide) ?_
  refine X.isub 14 i153_13 rfl rfl (by omega) ?_
  refine X.ldc 16 i153_14 rfl rfl (by decide) ?_
  refine X.minI 19 i153_16 rfl rfl (by omega) (Nat.le_of_ble_eq_true rfl) ?_
  refine X.istore_n 20 [(0, zr g0 11), (1, zi a1), (2, zi (min (((((a1 / 86400) + 14) + 1) * 86400) - 1) 2000000000))] i153_19 rfl rfl rfl ?_
  refine X.aload_n 21 i153_20 rfl rfl rfl ?_
  refine X.iload_n 22 i153_21 rfl rfl rfl ?_
  refine X.callv 25 [zi a1] [] [(0, zr g0 11), (1, zi a1)] i153_22 rfl (by decide) rfl rfl (by omega) rfl rfl (by decide) rfl t27 (Nat.le_of_ble_eq_true rfl) (Nat.le_of_ble_eq_true rfl) rfl ?_
  refine X.aload_n 1 i27_0 rfl rfl rfl ?_
  refine X.aload_n 2 i27_1 rfl rfl rfl ?_
  refine X.iload_n 3 i27_2 rfl rfl rfl ?_
  refine X.ldc 5 i27_3 rfl rfl (by decide) ?_
  refine X.idiv 6 i27_5 rfl rfl (by omega) ?_
  refine X.callv 9 [zi (a1 / 86400)] [zr g0 11] [(0, zr g0 11), (1, zi (a1 / 86400))] i27_6 rfl (by decide) rfl rfl (by omega) rfl rfl (by decide) rfl t28 (Nat.le_of_ble_eq_true rfl) (Nat.le_of_ble_eq_true rfl) rfl ?_
  refine c28_1 (B := B) g0 (a1 / 86400) (by omega) (hJ.up (by omega)) (by omega) (by omega) (fun v503 hv503 => ?_)
  show X (EE s) (d - 1) 27 9 [(0, zr g0 11), (1, zi a1)] [zi v503, zr g0 11] m _
  refine X.iload_n 10 i27_9 rfl rfl rfl ?_
  refine X.ldc 12 i27_10 rfl rfl (by decide) ?_
  refine X.irem 13 i27_12 rfl rfl (by omega) ?_
  refine X.callv 16 [zi v503, zi (a1 % 86400)] [] [(0, zr g0 11), (1, zi v503), (2, zi (a1 % 86400))] i27_13 rfl (by decide) rfl rfl (by omega) rfl rfl (by decide) rfl t31 (Nat.le_of_ble_eq_true rfl) (Nat.le_of_ble_eq_true rfl) rfl ?_
  refine c31_1 (B := B) g0 v503 (a1 % 86400) (by omega) (hJ.up (by omega)) (by omega) (by omega) (by omega) (fun v506 hv506 => ?_)
  show X (EE s) (d - 1) 27 16 [(0, zr g0 11), (1, zi a1)] [zi v506] m _
  refine X.reti i27_16 rfl t27 ?_
  show X (EE s) d 153 25 [(0, zr g0 11), (1, zi a1), (2, zi (min (((((a1 / 86400) + 14) + 1) * 86400) - 1) 2000000000))] [zi v506] m _
  refine X.istore_n 26 [(0, zr g0 11), (1, zi a1), (2, zi (min (((((a1 / 86400) + 14) + 1) * 86400) - 1) 2000000000)), (3, zi v506)] i153_25 rfl rfl rfl ?_
  refine X.aload_n 27 i153_26 rfl rfl rfl ?_
  refine X.iload_n 28 i153_27 rfl rfl rfl ?_
  refine X.callv 31 [zi a1] [] [(0, zr g0 11), (1, zi a1)] i153_28 rfl (by decide) rfl rfl (by omega) rfl rfl (by decide) rfl t37 (Nat.le_of_ble_eq_true rfl) (Nat.le_of_ble_eq_true rfl) rfl ?_
  refine c37_1 (B := B) g0 a1 (by omega) (hJ.up (by omega)) (by omega) (by omega) (fun v509 hv509 hqv5090 => ?_)
  show X (EE s) d 153 31 [(0, zr g0 11), (1, zi a1), (2, zi (min (((((a1 / 86400) + 14) + 1) * 86400) - 1) 2000000000)), (3, zi v506)] [zi v509] m _
  refine X.istore 33 [(0, zr g0 11), (1, zi a1), (2, zi (min (((((a1 / 86400) + 14) + 1) * 86400) - 1) 2000000000)), (3, zi v506), (4, zi v509)] i153_31 rfl rfl rfl ?_
  refine X.iconst 34 i153_33 rfl rfl (by decide) ?_
  refine X.istore 36 [(0, zr g0 11), (1, zi a1), (2, zi (min (((((a1 / 86400) + 14) + 1) * 86400) - 1) 2000000000)), (3, zi v506), (4, zi v509), (5, zi 0)] i153_34 rfl rfl rfl ?_
  refine X.cut [(0, zr g0 11), (2, zi (min (((((a1 / 86400) + 14) + 1) * 86400) - 1) 2000000000)), (3, zi v506), (4, zi v509), (5, zi 0)] i153_36 rfl ?_
  refine l153_36_1 (s := s) (S := S) (m0 := m0) (m := m) (B := B) (d := d) g0 (min (((((a1 / 86400) + 14) + 1) * 86400) - 1) 2000000000) v506 (by omega) (hJ.up (by omega)) (by omega) (by omega) (by omega) (fun y510 y511 hby510 hby511 => ?_) ?_ ((105 - 0 : Int).toNat + 1) v509 0 (by omega) (by omega) (by omega)
  · refine X.iload 61 i153_59 rfl rfl rfl ?_
    refine X.reti i153_61 rfl t153 ?_
    exact hQ y510 (by first | trivial | omega) 
  · refine X.iconst 77 i153_76 rfl rfl (by decide) ?_
    refine X.reti i153_77 rfl t153 ?_
    exact hQ (-1) (by first | trivial | omega) 
-- WorkMeter.next
theorem c152_1 {s : Nat × (Nat → Int32)} {S : zS} {m0 m : zM} {B : Int} {d : Nat} {Q : Option zV → zM → Prop} (a1 : Int) (hd : 17 ≤ d) (hJ : J S m0 B m) (hB : B + 0 ≤ 1000000000) (ha1 : (-2147483648) ≤ a1 ∧ a1 ≤ 2147483647) (hQ : ∀ (v : Int), ((-1) ≤ v ∧ v ≤ 2000000000) → Q (some (zi v)) m) : X (EE s) d 152 0 [(0, zr 4 40), (1, zi a1)] [] m Q := by
  refine X.iload_n 1 i152_0 rfl rfl rfl ?_
  refine X.iflt 9 4 i152_1 rfl rfl rfl (fun h501 => ?_) (fun h501 => ?_)
  · refine X.cut [] i152_9 rfl ?_
    refine X.iconst 10 i152_9 rfl rfl (by decide) ?_
    refine X.reti i152_10 rfl t152 ?_
    exact hQ (-1) (by first | trivial | omega) 
  · refine X.iload_n 5 i152_4 rfl rfl rfl ?_
    refine X.iconst 6 i152_5 rfl rfl (by decide) ?_
    refine X.icmple 11 9 i152_6 rfl rfl rfl (fun h502 => ?_) (fun h502 => ?_)
    · refine X.aload_n 12 i152_11 rfl rfl rfl ?_
      refine X.getF 15 i152_12 rfl rfl (by decide) rfl rfl ?_
      refine X.getR 18 i152_15 rfl rfl (by decide) rfl rfl ?_
      refine X.aload_n 19 i152_18 rfl rfl rfl ?_
      refine X.getF 22 i152_19 rfl rfl (by decide) rfl rfl ?_
      refine X.getI 25 9 i152_22 rfl rfl (by decide) rfl rfl rfl ?_
      have h503 := r8_9 hJ 0
      refine X.callv 28 [zi (m 0 8 9)] [] [(0, zr 0 11), (1, zi (m 0 8 9))] i152_25 rfl (by decide) rfl rfl (by omega) rfl rfl (by decide) rfl t153 (Nat.le_of_ble_eq_true rfl) (Nat.le_of_ble_eq_true rfl) rfl ?_
      refine c153_1 (B := B) 0 (m 0 8 9) (by omega) (hJ.up (by omega)) (by omega) (by omega) (fun v506 hv506 => ?_)
      show X (EE s) d 152 28 [(0, zr 4 40), (1, zi a1)] [zi v506] m _
      refine X.istore_n 29 [(0, zr 4 40), (1, zi a1), (2, zi v506)] i152_28 rfl rfl rfl ?_
      refine X.iload_n 30 i152_29 rfl rfl rfl ?_
      refine X.iconst 31 i152_30 rfl rfl (by decide) ?_
      refine X.icmpeq 38 34 i152_31 rfl rfl rfl (fun h507 => ?_) (fun h507 => ?_)
      · refine X.cut [(2, zi v506)] i152_38 rfl ?_
        refine X.iload_n 39 i152_38 rfl rfl rfl ?_
        refine X.reti i152_39 rfl t152 ?_
        exact hQ v506 (by first | trivial | omega) 
      · refine X.iload_n 35 i152_34 rfl rfl rfl ?_
        refine X.ifne 40 38 i152_35 rfl rfl rfl (fun h508 => ?_) (fun h508 => ?_)
        · refine X.cut [(0, zr 4 40), (2, zi v506)] i152_40 rfl ?_
          refine X.aload_n 41 i152_40 rfl rfl rfl ?_
          refine X.getF 44 i152_41 rfl rfl (by decide) rfl rfl ?_
          refine X.getR 47 i152_44 rfl rfl (by decide) rfl rfl ?_
          refine X.iload_n 48 i152_47 rfl rfl rfl ?_
          refine X.callv 51 [zi v506] [] [(0, zr 0 11), (1, zi v506)] i152_48 rfl (by decide) rfl rfl (by omega) rfl rfl (by decide) rfl t27 (Nat.le_of_ble_eq_true rfl) (Nat.le_of_ble_eq_true rfl) rfl ?_
          refine X.aload_n 1 i27_0 rfl rfl rfl ?_
          refine X.aload_n 2 i27_1 rfl rfl rfl ?_
          refine X.iload_n 3 i27_2 rfl rfl rfl ?_
          refine X.ldc 5 i27_3 rfl rfl (by decide) ?_
          refine X.idiv 6 i27_5 rfl rfl (by omega) ?_
          refine X.callv 9 [zi (v506 / 86400)] [zr 0 11] [(0, zr 0 11), (1, zi (v506 / 86400))] i27_6 rfl (by decide) rfl rfl (by omega) rfl rfl (by decide) rfl t28 (Nat.le_of_ble_eq_true rfl) (Nat.le_of_ble_eq_true rfl) rfl ?_
          refine c28_1 (B := B) 0 (v506 / 86400) (by omega) (hJ.up (by omega)) (by omega) (by omega) (fun v511 hv511 => ?_)
          show X (EE s) (d - 1) 27 9 [(0, zr 0 11), (1, zi v506)] [zi v511, zr 0 11] m _
          refine X.iload_n 10 i27_9 rfl rfl rfl ?_
          refine X.ldc 12 i27_10 rfl rfl (by decide) ?_
          refine X.irem 13 i27_12 rfl rfl (by omega) ?_
          refine X.callv 16 [zi v511, zi (v506 % 86400)] [] [(0, zr 0 11), (1, zi v511), (2, zi (v506 % 86400))] i27_13 rfl (by decide) rfl rfl (by omega) rfl rfl (by decide) rfl t31 (Nat.le_of_ble_eq_true rfl) (Nat.le_of_ble_eq_true rfl) rfl ?_
          refine c31_1 (B := B) 0 v511 (v506 % 86400) (by omega) (hJ.up (by omega)) (by omega) (by omega) (by omega) (fun v514 hv514 => ?_)
          show X (EE s) (d - 1) 27 16 [(0, zr 0 11), (1, zi v506)] [zi v514] m _
          refine X.reti i27_16 rfl t27 ?_
          show X (EE s) d 152 51 [(0, zr 4 40), (2, zi v506)] [zi v514] m _
          refine X.reti i152_51 rfl t152 ?_
          exact hQ v514 (by first | trivial | omega) 
        · refine X.cut [(2, zi v506)] i152_38 rfl ?_
          refine X.iload_n 39 i152_38 rfl rfl rfl ?_
          refine X.reti i152_39 rfl t152 ?_
          exact hQ v506 (by first | trivial | omega) 
    · refine X.cut [] i152_9 rfl ?_
      refine X.iconst 10 i152_9 rfl rfl (by decide) ?_
      refine X.reti i152_10 rfl t152 ?_
      exact hQ (-1) (by first | trivial | omega) 
-- WorkMeterModel.tableAt
theorem c218_2 {s : Nat × (Nat → Int32)} {S : zS} {m0 m : zM} {B : Int} {d : Nat} {Q : Option zV → zM → Prop} (a1 : Int) (hd : 14 ≤ d) (hJ : J S m0 B m) (hB : B + 0 ≤ 1000000000) (ha1 : 0 ≤ a1 ∧ a1 ≤ 23150) (hQ : ∀ (v : Int), (0 ≤ v ∧ v ≤ 7) → Q (some (zi v)) m) : X (EE s) d 218 0 [(0, zr 4 44), (1, zi a1)] [] m Q := by
  refine X.iload_n 1 i218_0 rfl rfl rfl ?_
  refine X.sipush 4 i218_1 rfl rfl (by decide) ?_
  refine X.irem 5 i218_4 rfl rfl (by omega) ?_
  refine X.istore_n 6 [(0, zr 4 44), (1, zi a1), (2, zi (a1 % 365))] i218_5 rfl rfl rfl ?_
  refine X.aload_n 7 i218_6 rfl rfl rfl ?_
  refine X.getF 10 i218_7 rfl rfl (by decide) rfl rfl ?_
  refine X.sipush 13 i218_10 rfl rfl (by decide) ?_
  refine X.iload_n 14 i218_13 rfl rfl rfl ?_
  refine X.iadd 15 i218_14 rfl rfl (by omega) ?_
  refine X.lald 16 i218_15 rfl rfl (by decide) rfl (by omega) ?_
  have h501 := r45_423 hJ 4 (i := (423 + (a1 % 365))) (by omega)
  refine X.ldc2 19 i218_16 rfl rfl (by decide) ?_
  refine X.lcmp 20 i218_19 rfl rfl (fun z502 hz502 => ?_)
  refine X.ifeq 35 23 i218_20 rfl rfl rfl (fun h503 => ?_) (fun h503 => ?_)
  · have h503c : (m 4 45 (423 + (a1 % 365))) = (-1) := by omega
    clear h503 hz502
    refine X.aload_n 36 i218_35 rfl rfl rfl ?_
    refine X.getF 39 i218_36 rfl rfl (by decide) rfl rfl ?_
    refine X.sipush 42 i218_39 rfl rfl (by decide) ?_
    refine X.bipush 44 i218_42 rfl rfl (by decide) ?_
    refine X.aload_n 45 i218_44 rfl rfl rfl ?_
    refine X.iload_n 46 i218_45 rfl rfl rfl ?_
    refine X.callv 49 [zi (a1 % 365)] [zi 7, zi 395, zr 4 45] [(0, zr 4 44), (1, zi (a1 % 365))] i218_46 rfl (by decide) rfl rfl (by omega) rfl rfl (by decide) rfl t219 (Nat.le_of_ble_eq_true rfl) (Nat.le_of_ble_eq_true rfl) rfl ?_
    refine c219_1 (B := B)  (a1 % 365) (by omega) (hJ.up (by omega)) (by omega) (by omega) (fun v506 hv506 => ?_)
    show X (EE s) d 218 49 [(0, zr 4 44), (1, zi a1), (2, zi (a1 % 365))] [zi v506, zi 7, zi 395, zr 4 45] m _
    refine X.imul 50 i218_49 rfl rfl (by omega) ?_
    refine X.iadd 51 i218_50 rfl rfl (by omega) ?_
    refine X.iload_n 52 i218_51 rfl rfl rfl ?_
    refine X.bipush 54 i218_52 rfl rfl (by decide) ?_
    refine X.irem 55 i218_54 rfl rfl (by omega) ?_
    refine X.iadd 56 i218_55 rfl rfl (by omega) ?_
    refine X.lald 57 i218_56 rfl rfl (by decide) rfl (by omega) ?_
    have h507 := r45_395 hJ 4 (i := ((395 + (7 * v506)) + (a1 % 7))) (by omega)
    refine X.l2i 58 i218_57 rfl rfl (by omega) ?_
    refine X.reti i218_58 rfl t218 ?_
    exact hQ (m 4 45 ((395 + (7 * v506)) + (a1 % 7))) (by first | trivial | omega) 
  · have h503c : (m 4 45 (423 + (a1 % 365))) ≠ (-1) := by omega
    clear h503 hz502
    refine X.aload_n 24 i218_23 rfl rfl rfl ?_
    refine X.getF 27 i218_24 rfl rfl (by decide) rfl rfl ?_
    refine X.sipush 30 i218_27 rfl rfl (by decide) ?_
    refine X.iload_n 31 i218_30 rfl rfl rfl ?_
    refine X.iadd 32 i218_31 rfl rfl (by omega) ?_
    refine X.lald 33 i218_32 rfl rfl (by decide) rfl (by omega) ?_
    refine X.l2i 34 i218_33 rfl rfl (by omega) ?_
    refine X.reti i218_34 rfl t218 ?_
    exact hQ (m 4 45 (423 + (a1 % 365))) (by first | trivial | omega) 
theorem l255_45_1 {s : Nat × (Nat → Int32)} {S : zS} {m0 m : zM} {B : Int} {d : Nat} {Q : Option zV → zM → Prop} (y1 y2 y3 : Int) (hd : 16 ≤ d) (hJ : J S m0 B m) (hB9 : B ≤ 1000000000) (hy1 : 0 ≤ y1 ∧ y1 ≤ 23148) (hy2 : 0 ≤ y2 ∧ y2 ≤ 23162) (hy3 : 0 ≤ y3 ∧ y3 ≤ 7)
    (K136 : ∀ (x4 x5 : Int) , ((-1) ≤ x4 ∧ x4 ≤ 5) → (1 ≤ x5 ∧ x5 ≤ 2000000000) → X (EE s) d 255 136 [(0, zr 4 44), (1, zi y1), (2, zi y2), (3, zi y3), (4, zi x4), (5, zl x5)] [] m Q)
    (K146 : X (EE s) d 255 146 [(0, zr 4 44), (1, zi y1), (2, zi y2)] [] m Q) :
    ∀ (n : Nat) (y4 : Int) , ((-1) ≤ y4 ∧ y4 ≤ 6) → 6 - y4 < (n : Int) → X (EE s) d 255 45 [(0, zr 4 44), (1, zi y1), (2, zi y2), (3, zi y3), (4, zi y4)] [] m Q := by
  intro n
  induction n with
  | zero =>
    intro y4 hy4 hn
    exfalso
    omega
  | succ n ih =>
    intro y4 hy4 hn
    refine X.iload 47 i255_45 rfl rfl rfl ?_
    refine X.i2l 48 i255_47 rfl rfl ?_
    refine X.aload_n 49 i255_48 rfl rfl rfl ?_
    refine X.getF 52 i255_49 rfl rfl (by decide) rfl rfl ?_
    refine X.sipush 55 i255_52 rfl rfl (by decide) ?_
    refine X.iload_n 56 i255_55 rfl rfl rfl ?_
    refine X.iadd 57 i255_56 rfl rfl (by omega) ?_
    refine X.lald 58 i255_57 rfl rfl (by decide) rfl (by omega) ?_
    have h532 := r45_287 hJ 4 (i := (287 + y3)) (by omega)
    refine X.lcmp 59 i255_58 rfl rfl (fun z533 hz533 => ?_)
    refine X.ifge 146 62 i255_59 rfl rfl rfl (fun h534 => ?_) (fun h534 => ?_)
    · have h534c : y4 ≥ (m 4 45 (287 + y3)) := by omega
      clear h534 hz533
      refine X.cut [(0, zr 4 44), (1, zi y1), (2, zi y2)] i255_146 rfl ?_
      exact K146  
    · have h534c : y4 < (m 4 45 (287 + y3)) := by omega
      clear h534 hz533
      refine X.iload_n 63 i255_62 rfl rfl rfl ?_
      refine X.i2l 64 i255_63 rfl rfl ?_
      refine X.ldc2 67 i255_64 rfl rfl (by decide) ?_
      refine X.lmul 68 i255_67 rfl rfl (by omega) ?_
      refine X.iload 70 i255_68 rfl rfl rfl ?_
      refine X.ifge 77 73 i255_70 rfl rfl rfl (fun h535 => ?_) (fun h535 => ?_)
      · refine X.aload_n 78 i255_77 rfl rfl rfl ?_
        refine X.getF 81 i255_78 rfl rfl (by decide) rfl rfl ?_
        refine X.sipush 84 i255_81 rfl rfl (by decide) ?_
        refine X.bipush 86 i255_84 rfl rfl (by decide) ?_
        refine X.iload_n 87 i255_86 rfl rfl rfl ?_
        refine X.imul 88 i255_87 rfl rfl (by omega) ?_
        refine X.iadd 89 i255_88 rfl rfl (by omega) ?_
        refine X.iload 91 i255_89 rfl rfl rfl ?_
        refine X.iadd 92 i255_91 rfl rfl (by omega) ?_
        refine X.lald 93 i255_92 rfl rfl (by decide) rfl (by omega) ?_
        have h536 := r45_295 hJ 4 (i := ((295 + (6 * y3)) + y4)) (by omega)
        refine X.ladd 94 i255_93 rfl rfl (by omega) ?_
        refine X.lstore 96 [(0, zr 4 44), (1, zi y1), (2, zi y2), (3, zi y3), (4, zi y4), (5, zl ((y2 * 86400) + (m 4 45 ((295 + (6 * y3)) + y4))))] i255_94 rfl rfl rfl ?_
        refine X.lload 98 i255_96 rfl rfl rfl ?_
        refine X.aload_n 99 i255_98 rfl rfl rfl ?_
        refine X.getF 102 i255_99 rfl rfl (by decide) rfl rfl ?_
        refine X.iconst 103 i255_102 rfl rfl (by decide) ?_
        refine X.lald 104 i255_103 rfl rfl (by decide) rfl (by omega) ?_
        have h537 := r45_0 hJ 4
        refine X.lcmp 105 i255_104 rfl rfl (fun z538 hz538 => ?_)
        refine X.ifle 140 108 i255_105 rfl rfl rfl (fun h539 => ?_) (fun h539 => ?_)
        · have h539c : ((y2 * 86400) + (m 4 45 ((295 + (6 * y3)) + y4))) ≤ (m 4 45 0) := by omega
          clear h539 hz538
          refine X.cut [(0, zr 4 44), (1, zi y1), (2, zi y2), (3, zi y3), (4, zi y4)] i255_140 rfl ?_
          refine X.iinc 143 [(0, zr 4 44), (1, zi y1), (2, zi y2), (3, zi y3), (4, zi (y4 + 1))] i255_140 rfl rfl rfl (by omega) rfl ?_
          refine X.goto 45 i255_143 rfl rfl ?_
          exact ih (y4 + 1) (by omega) (by omega)
        · have h539c : ((y2 * 86400) + (m 4 45 ((295 + (6 * y3)) + y4))) > (m 4 45 0) := by omega
          clear h539 hz538
          refine X.lload 110 i255_108 rfl rfl rfl ?_
          refine X.ldc2 113 i255_110 rfl rfl (by decide) ?_
          refine X.lcmp 114 i255_113 rfl rfl (fun z540 hz540 => ?_)
          refine X.ifgt 140 117 i255_114 rfl rfl rfl (fun h541 => ?_) (fun h541 => ?_)
          · have h541c : ((y2 * 86400) + (m 4 45 ((295 + (6 * y3)) + y4))) > 2000000000 := by omega
            clear h541 hz540
            refine X.cut [(0, zr 4 44), (1, zi y1), (2, zi y2), (3, zi y3), (4, zi y4)] i255_140 rfl ?_
            refine X.iinc 143 [(0, zr 4 44), (1, zi y1), (2, zi y2), (3, zi y3), (4, zi (y4 + 1))] i255_140 rfl rfl rfl (by omega) rfl ?_
            refine X.goto 45 i255_143 rfl rfl ?_
            exact ih (y4 + 1) (by omega) (by omega)
          · have h541c : ((y2 * 86400) + (m 4 45 ((295 + (6 * y3)) + y4))) ≤ 2000000000 := by omega
            clear h541 hz540
            refine X.aload_n 118 i255_117 rfl rfl rfl ?_
            refine X.lload 120 i255_118 rfl rfl rfl ?_
            refine X.l2i 121 i255_120 rfl rfl (by omega) ?_
            refine X.callv 124 [zi ((y2 * 86400) + (m 4 45 ((295 + (6 * y3)) + y4)))] [] [(0, zr 4 44), (1, zi ((y2 * 86400) + (m 4 45 ((295 + (6 * y3)) + y4))))] i255_121 rfl (by decide) rfl rfl (by omega) rfl rfl (by decide) rfl t217 (Nat.le_of_ble_eq_true rfl) (Nat.le_of_ble_eq_true rfl) rfl ?_
            refine c217_1 (B := B)  ((y2 * 86400) + (m 4 45 ((295 + (6 * y3)) + y4))) (by omega) (hJ.up (by omega)) (by omega) (by omega) (fun v544 hv544 => ?_)
            show X (EE s) d 255 124 [(0, zr 4 44), (1, zi y1), (2, zi y2), (3, zi y3), (4, zi y4), (5, zl ((y2 * 86400) + (m 4 45 ((295 + (6 * y3)) + y4))))] [zi v544] m _
            refine X.aload_n 125 i255_124 rfl rfl rfl ?_
            refine X.lload 127 i255_125 rfl rfl rfl ?_
            refine X.l2i 128 i255_127 rfl rfl (by omega) ?_
            refine X.iconst 129 i255_128 rfl rfl (by decide) ?_
            refine X.isub 130 i255_129 rfl rfl (by omega) ?_
            refine X.callv 133 [zi (((y2 * 86400) + (m 4 45 ((295 + (6 * y3)) + y4))) - 1)] [zi v544] [(0, zr 4 44), (1, zi (((y2 * 86400) + (m 4 45 ((295 + (6 * y3)) + y4))) - 1))] i255_130 rfl (by decide) rfl rfl (by omega) rfl rfl (by decide) rfl t217 (Nat.le_of_ble_eq_true rfl) (Nat.le_of_ble_eq_true rfl) rfl ?_
            refine c217_1 (B := B)  (((y2 * 86400) + (m 4 45 ((295 + (6 * y3)) + y4))) - 1) (by omega) (hJ.up (by omega)) (by omega) (by omega) (fun v547 hv547 => ?_)
            show X (EE s) d 255 133 [(0, zr 4 44), (1, zi y1), (2, zi y2), (3, zi y3), (4, zi y4), (5, zl ((y2 * 86400) + (m 4 45 ((295 + (6 * y3)) + y4))))] [zi v547, zi v544] m _
            refine X.icmpeq 140 136 i255_133 rfl rfl rfl (fun h548 => ?_) (fun h548 => ?_)
            · refine X.cut [(0, zr 4 44), (1, zi y1), (2, zi y2), (3, zi y3), (4, zi y4)] i255_140 rfl ?_
              refine X.iinc 143 [(0, zr 4 44), (1, zi y1), (2, zi y2), (3, zi y3), (4, zi (y4 + 1))] i255_140 rfl rfl rfl (by omega) rfl ?_
              refine X.goto 45 i255_143 rfl rfl ?_
              exact ih (y4 + 1) (by omega) (by omega)
            · exact K136 y4 ((y2 * 86400) + (m 4 45 ((295 + (6 * y3)) + y4))) (by first | trivial | omega) (by first | trivial | omega)
      · refine X.lconst (y := 0) 74 i255_73 rfl rfl rfl ?_
        refine X.goto 93 i255_74 rfl rfl ?_
        refine X.ladd 94 i255_93 rfl rfl (by omega) ?_
        refine X.lstore 96 [(0, zr 4 44), (1, zi y1), (2, zi y2), (3, zi y3), (4, zi y4), (5, zl ((y2 * 86400) + 0))] i255_94 rfl rfl rfl ?_
        refine X.lload 98 i255_96 rfl rfl rfl ?_
        refine X.aload_n 99 i255_98 rfl rfl rfl ?_
        refine X.getF 102 i255_99 rfl rfl (by decide) rfl rfl ?_
        refine X.iconst 103 i255_102 rfl rfl (by decide) ?_
        refine X.lald 104 i255_103 rfl rfl (by decide) rfl (by omega) ?_
        have h549 := r45_0 hJ 4
        refine X.lcmp 105 i255_104 rfl rfl (fun z550 hz550 => ?_)
        refine X.ifle 140 108 i255_105 rfl rfl rfl (fun h551 => ?_) (fun h551 => ?_)
        · have h551c : ((y2 * 86400) + 0) ≤ (m 4 45 0) := by omega
          clear h551 hz550
          refine X.cut [(0, zr 4 44), (1, zi y1), (2, zi y2), (3, zi y3), (4, zi y4)] i255_140 rfl ?_
          refine X.iinc 143 [(0, zr 4 44), (1, zi y1), (2, zi y2), (3, zi y3), (4, zi (y4 + 1))] i255_140 rfl rfl rfl (by omega) rfl ?_
          refine X.goto 45 i255_143 rfl rfl ?_
          exact ih (y4 + 1) (by omega) (by omega)
        · have h551c : ((y2 * 86400) + 0) > (m 4 45 0) := by omega
          clear h551 hz550
          refine X.lload 110 i255_108 rfl rfl rfl ?_
          refine X.ldc2 113 i255_110 rfl rfl (by decide) ?_
          refine X.lcmp 114 i255_113 rfl rfl (fun z552 hz552 => ?_)
          refine X.ifgt 140 117 i255_114 rfl rfl rfl (fun h553 => ?_) (fun h553 => ?_)
          · have h553c : ((y2 * 86400) + 0) > 2000000000 := by omega
            clear h553 hz552
            refine X.cut [(0, zr 4 44), (1, zi y1), (2, zi y2), (3, zi y3), (4, zi y4)] i255_140 rfl ?_
            refine X.iinc 143 [(0, zr 4 44), (1, zi y1), (2, zi y2), (3, zi y3), (4, zi (y4 + 1))] i255_140 rfl rfl rfl (by omega) rfl ?_
            refine X.goto 45 i255_143 rfl rfl ?_
            exact ih (y4 + 1) (by omega) (by omega)
          · have h553c : ((y2 * 86400) + 0) ≤ 2000000000 := by omega
            clear h553 hz552
            refine X.aload_n 118 i255_117 rfl rfl rfl ?_
            refine X.lload 120 i255_118 rfl rfl rfl ?_
            refine X.l2i 121 i255_120 rfl rfl (by omega) ?_
            refine X.callv 124 [zi ((y2 * 86400) + 0)] [] [(0, zr 4 44), (1, zi ((y2 * 86400) + 0))] i255_121 rfl (by decide) rfl rfl (by omega) rfl rfl (by decide) rfl t217 (Nat.le_of_ble_eq_true rfl) (Nat.le_of_ble_eq_true rfl) rfl ?_
            refine c217_1 (B := B)  ((y2 * 86400) + 0) (by omega) (hJ.up (by omega)) (by omega) (by omega) (fun v556 hv556 => ?_)
            show X (EE s) d 255 124 [(0, zr 4 44), (1, zi y1), (2, zi y2), (3, zi y3), (4, zi y4), (5, zl ((y2 * 86400) + 0))] [zi v556] m _
            refine X.aload_n 125 i255_124 rfl rfl rfl ?_
            refine X.lload 127 i255_125 rfl rfl rfl ?_
            refine X.l2i 128 i255_127 rfl rfl (by omega) ?_
            refine X.iconst 129 i255_128 rfl rfl (by decide) ?_
            refine X.isub 130 i255_129 rfl rfl (by omega) ?_
            refine X.callv 133 [zi (((y2 * 86400) + 0) - 1)] [zi v556] [(0, zr 4 44), (1, zi (((y2 * 86400) + 0) - 1))] i255_130 rfl (by decide) rfl rfl (by omega) rfl rfl (by decide) rfl t217 (Nat.le_of_ble_eq_true rfl) (Nat.le_of_ble_eq_true rfl) rfl ?_
            refine c217_1 (B := B)  (((y2 * 86400) + 0) - 1) (by omega) (hJ.up (by omega)) (by omega) (by omega) (fun v559 hv559 => ?_)
            show X (EE s) d 255 133 [(0, zr 4 44), (1, zi y1), (2, zi y2), (3, zi y3), (4, zi y4), (5, zl ((y2 * 86400) + 0))] [zi v559, zi v556] m _
            refine X.icmpeq 140 136 i255_133 rfl rfl rfl (fun h560 => ?_) (fun h560 => ?_)
            · refine X.cut [(0, zr 4 44), (1, zi y1), (2, zi y2), (3, zi y3), (4, zi y4)] i255_140 rfl ?_
              refine X.iinc 143 [(0, zr 4 44), (1, zi y1), (2, zi y2), (3, zi y3), (4, zi (y4 + 1))] i255_140 rfl rfl rfl (by omega) rfl ?_
              refine X.goto 45 i255_143 rfl rfl ?_
              exact ih (y4 + 1) (by omega) (by omega)
            · exact K136 y4 ((y2 * 86400) + 0) (by first | trivial | omega) (by first | trivial | omega)
-- WorkMeterModel.tableAt
theorem c218_3 {s : Nat × (Nat → Int32)} {S : zS} {m0 m : zM} {B : Int} {d : Nat} {Q : Option zV → zM → Prop} (a1 : Int) (hd : 14 ≤ d) (hJ : J S m0 B m) (hB : B + 0 ≤ 1000000000) (ha1 : 0 ≤ a1 ∧ a1 ≤ 23150) (hQ : ∀ (v : Int), (0 ≤ v ∧ v ≤ 7) → Q (some (zi v)) m) : X (EE s) d 218 0 [(0, zr 4 44), (1, zi a1)] [] m Q := by
  refine X.iload_n 1 i218_0 rfl rfl rfl ?_
  refine X.sipush 4 i218_1 rfl rfl (by decide) ?_
  refine X.irem 5 i218_4 rfl rfl (by omega) ?_
  refine X.istore_n 6 [(0, zr 4 44), (1, zi a1), (2, zi (a1 % 365))] i218_5 rfl rfl rfl ?_
  refine X.aload_n 7 i218_6 rfl rfl rfl ?_
  refine X.getF 10 i218_7 rfl rfl (by decide) rfl rfl ?_
  refine X.sipush 13 i218_10 rfl rfl (by decide) ?_
  refine X.iload_n 14 i218_13 rfl rfl rfl ?_
  refine X.iadd 15 i218_14 rfl rfl (by omega) ?_
  refine X.lald 16 i218_15 rfl rfl (by decide) rfl (by omega) ?_
  have h501 := r45_423 hJ 4 (i := (423 + (a1 % 365))) (by omega)
  refine X.ldc2 19 i218_16 rfl rfl (by decide) ?_
  refine X.lcmp 20 i218_19 rfl rfl (fun z502 hz502 => ?_)
  refine X.ifeq 35 23 i218_20 rfl rfl rfl (fun h503 => ?_) (fun h503 => ?_)
  · have h503c : (m 4 45 (423 + (a1 % 365))) = (-1) := by omega
    clear h503 hz502
    refine X.aload_n 36 i218_35 rfl rfl rfl ?_
    refine X.getF 39 i218_36 rfl rfl (by decide) rfl rfl ?_
    refine X.sipush 42 i218_39 rfl rfl (by decide) ?_
    refine X.bipush 44 i218_42 rfl rfl (by decide) ?_
    refine X.aload_n 45 i218_44 rfl rfl rfl ?_
    refine X.iload_n 46 i218_45 rfl rfl rfl ?_
    refine X.callv 49 [zi (a1 % 365)] [zi 7, zi 395, zr 4 45] [(0, zr 4 44), (1, zi (a1 % 365))] i218_46 rfl (by decide) rfl rfl (by omega) rfl rfl (by decide) rfl t219 (Nat.le_of_ble_eq_true rfl) (Nat.le_of_ble_eq_true rfl) rfl ?_
    refine c219_1 (B := B)  (a1 % 365) (by omega) (hJ.up (by omega)) (by omega) (by omega) (fun v506 hv506 => ?_)
    show X (EE s) d 218 49 [(0, zr 4 44), (1, zi a1), (2, zi (a1 % 365))] [zi v506, zi 7, zi 395, zr 4 45] m _
    refine X.imul 50 i218_49 rfl rfl (by omega) ?_
    refine X.iadd 51 i218_50 rfl rfl (by omega) ?_
    refine X.iload_n 52 i218_51 rfl rfl rfl ?_
    refine X.bipush 54 i218_52 rfl rfl (by decide) ?_
    refine X.irem 55 i218_54 rfl rfl (by omega) ?_
    refine X.iadd 56 i218_55 rfl rfl (by omega) ?_
    refine X.lald 57 i218_56 rfl rfl (by decide) rfl (by omega) ?_
    have h507 := r45_395 hJ 4 (i := ((395 + (7 * v506)) + (a1 % 7))) (by omega)
    refine X.l2i 58 i218_57 rfl rfl (by omega) ?_
    refine X.reti i218_58 rfl t218 ?_
    exact hQ (m 4 45 ((395 + (7 * v506)) + (a1 % 7))) (by first | trivial | omega) 
  · have h503c : (m 4 45 (423 + (a1 % 365))) ≠ (-1) := by omega
    clear h503 hz502
    refine X.aload_n 24 i218_23 rfl rfl rfl ?_
    refine X.getF 27 i218_24 rfl rfl (by decide) rfl rfl ?_
    refine X.sipush 30 i218_27 rfl rfl (by decide) ?_
    refine X.iload_n 31 i218_30 rfl rfl rfl ?_
    refine X.iadd 32 i218_31 rfl rfl (by omega) ?_
    refine X.lald 33 i218_32 rfl rfl (by decide) rfl (by omega) ?_
    refine X.l2i 34 i218_33 rfl rfl (by omega) ?_
    refine X.reti i218_34 rfl t218 ?_
    exact hQ (m 4 45 (423 + (a1 % 365))) (by first | trivial | omega) 
theorem l255_13_1 {s : Nat × (Nat → Int32)} {S : zS} {m0 m : zM} {B : Int} {d : Nat} {Q : Option zV → zM → Prop} (y1 : Int) (hd : 16 ≤ d) (hJ : J S m0 B m) (hB9 : B ≤ 1000000000) (hy1 : 0 ≤ y1 ∧ y1 ≤ 23148)
    (K34 : ∀ (x2 : Int) , (0 ≤ x2 ∧ x2 ≤ 23162) → X (EE s) d 255 34 [(0, zr 4 44), (1, zi y1), (2, zi x2)] [] m Q)
    (K136 : ∀ (x2 x3 x4 x5 : Int) , (0 ≤ x2 ∧ x2 ≤ 23162) → (0 ≤ x3 ∧ x3 ≤ 7) → ((-1) ≤ x4 ∧ x4 ≤ 5) → (1 ≤ x5 ∧ x5 ≤ 2000000000) → X (EE s) d 255 136 [(0, zr 4 44), (1, zi y1), (2, zi x2), (3, zi x3), (4, zi x4), (5, zl x5)] [] m Q)
    (K152 : X (EE s) d 255 152 [] [] m Q) :
    ∀ (n : Nat) (y2 : Int) , (0 ≤ y2 ∧ y2 ≤ 23163) → 23163 - y2 < (n : Int) → X (EE s) d 255 13 [(0, zr 4 44), (1, zi y1), (2, zi y2)] [] m Q := by
  intro n
  induction n with
  | zero =>
    intro y2 hy2 hn
    exfalso
    omega
  | succ n ih =>
    intro y2 hy2 hn
    refine X.iload_n 14 i255_13 rfl rfl rfl ?_
    refine X.iload_n 15 i255_14 rfl rfl rfl ?_
    refine X.bipush 17 i255_15 rfl rfl (by decide) ?_
    refine X.iadd 18 i255_17 rfl rfl (by omega) ?_
    refine X.icmpgt 152 21 i255_18 rfl rfl rfl (fun h515 => ?_) (fun h515 => ?_)
    · refine X.cut [] i255_152 rfl ?_
      exact K152  
    · refine X.iload_n 22 i255_21 rfl rfl rfl ?_
      refine X.i2l 23 i255_22 rfl rfl ?_
      refine X.ldc2 26 i255_23 rfl rfl (by decide) ?_
      refine X.lmul 27 i255_26 rfl rfl (by omega) ?_
      refine X.ldc2 30 i255_27 rfl rfl (by decide) ?_
      refine X.lcmp 31 i255_30 rfl rfl (fun z516 hz516 => ?_)
      refine X.ifle 36 34 i255_31 rfl rfl rfl (fun h517 => ?_) (fun h517 => ?_)
      · have h517c : (y2 * 86400) ≤ 2000000000 := by omega
        clear h517 hz516
        refine X.aload_n 37 i255_36 rfl rfl rfl ?_
        refine X.iload_n 38 i255_37 rfl rfl rfl ?_
        refine X.callv 41 [zi y2] [] [(0, zr 4 44), (1, zi y2)] i255_38 rfl (by decide) rfl rfl (by omega) rfl rfl (by decide) rfl t218 (Nat.le_of_ble_eq_true rfl) (Nat.le_of_ble_eq_true rfl) rfl ?_
        refine c218_3 (B := B)  y2 (by omega) (hJ.up (by omega)) (by omega) (by omega) (fun v520 hv520 => ?_)
        show X (EE s) d 255 41 [(0, zr 4 44), (1, zi y1), (2, zi y2)] [zi v520] m _
        refine X.istore_n 42 [(0, zr 4 44), (1, zi y1), (2, zi y2), (3, zi v520)] i255_41 rfl rfl rfl ?_
        refine X.iconst 43 i255_42 rfl rfl (by decide) ?_
        refine X.istore 45 [(0, zr 4 44), (1, zi y1), (2, zi y2), (3, zi v520), (4, zi (-1))] i255_43 rfl rfl rfl ?_
        refine l255_45_1 (s := s) (S := S) (m0 := m0) (m := m) (B := B) (d := d)  y1 y2 v520 (by omega) (hJ.up (by omega)) (by omega) (by omega) (by omega) (by omega) (fun y521 y522 hby521 hby522 => ?_) ?_ ((6 - (-1) : Int).toNat + 1) (-1) (by omega) (by omega)
        · exact K136 y2 v520 y521 y522 (by first | trivial | omega) (by first | trivial | omega) (by first | trivial | omega) (by first | trivial | omega)
        · refine X.iinc 149 [(0, zr 4 44), (1, zi y1), (2, zi (y2 + 1))] i255_146 rfl rfl rfl (by omega) rfl ?_
          refine X.goto 13 i255_149 rfl rfl ?_
          exact ih (y2 + 1) (by omega) (by omega)
      · have h517c : (y2 * 86400) > 2000000000 := by omega
        clear h517 hz516
        exact K34 y2 (by first | trivial | omega)
-- WorkMeterModel.nextTime
theorem c255_1 {s : Nat × (Nat → Int32)} {S : zS} {m0 m : zM} {B : Int} {d : Nat} {Q : Option zV → zM → Prop} (hd : 16 ≤ d) (hJ : J S m0 B m) (hB : B + 0 ≤ 1000000000) (hQ : ∀ (v : Int), ((-1) ≤ v ∧ v ≤ 2000000000) → Q (some (zi v)) m) : X (EE s) d 255 0 [(0, zr 4 44)] [] m Q := by
  refine X.aload_n 1 i255_0 rfl rfl rfl ?_
  refine X.getF 4 i255_1 rfl rfl (by decide) rfl rfl ?_
  refine X.iconst 5 i255_4 rfl rfl (by decide) ?_
  refine X.lald 6 i255_5 rfl rfl (by decide) rfl (by omega) ?_
  have h501 := r45_0 hJ 4
  refine X.l2i 7 i255_6 rfl rfl (by omega) ?_
  refine X.ldc 9 i255_7 rfl rfl (by decide) ?_
  refine X.idiv 10 i255_9 rfl rfl (by omega) ?_
  refine X.istore_n 11 [(0, zr 4 44), (1, zi ((m 4 45 0) / 86400))] i255_10 rfl rfl rfl ?_
  refine X.iload_n 12 i255_11 rfl rfl rfl ?_
  refine X.istore_n 13 [(0, zr 4 44), (1, zi ((m 4 45 0) / 86400)), (2, zi ((m 4 45 0) / 86400))] i255_12 rfl rfl rfl ?_
  refine l255_13_1 (s := s) (S := S) (m0 := m0) (m := m) (B := B) (d := d)  ((m 4 45 0) / 86400) (by omega) (hJ.up (by omega)) (by omega) (by omega) (fun y502 hby502 => ?_) (fun y506 y507 y508 y509 hby506 hby507 hby508 hby509 => ?_) ?_ ((23163 - ((m 4 45 0) / 86400) : Int).toNat + 1) ((m 4 45 0) / 86400) (by omega) (by omega)
  · refine X.iconst 35 i255_34 rfl rfl (by decide) ?_
    refine X.reti i255_35 rfl t255 ?_
    exact hQ (-1) (by first | trivial | omega) 
  · refine X.lload 138 i255_136 rfl rfl rfl ?_
    refine X.l2i 139 i255_138 rfl rfl (by omega) ?_
    refine X.reti i255_139 rfl t255 ?_
    exact hQ y509 (by first | trivial | omega) 
  · refine X.iconst 153 i255_152 rfl rfl (by decide) ?_
    refine X.reti i255_153 rfl t255 ?_
    exact hQ (-1) (by first | trivial | omega) 
-- WorkMeterModel.next
theorem c254_1 {s : Nat × (Nat → Int32)} {S : zS} {m0 m : zM} {B : Int} {d : Nat} {Q : Option zV → zM → Prop} (a1 : Int) (hd : 17 ≤ d) (hJ : J S m0 B m) (hB : B + 0 ≤ 1000000000) (ha1 : (-2147483648) ≤ a1 ∧ a1 ≤ 2147483647) (hQ : ∀ (v : Int), ((-1) ≤ v ∧ v ≤ 2000000000) → Q (some (zi v)) m) : X (EE s) d 254 0 [(0, zr 4 44), (1, zi a1)] [] m Q := by
  refine X.aload_n 1 i254_0 rfl rfl rfl ?_
  refine X.callv 4 [] [] [(0, zr 4 44)] i254_1 rfl (by decide) rfl rfl (by omega) rfl rfl (by decide) rfl t255 (Nat.le_of_ble_eq_true rfl) (Nat.le_of_ble_eq_true rfl) rfl ?_
  refine c255_1 (B := B)   (by omega) (hJ.up (by omega)) (by omega)  (fun v503 hv503 => ?_)
  show X (EE s) d 254 4 [(0, zr 4 44), (1, zi a1)] [zi v503] m _
  refine X.istore_n 5 [(0, zr 4 44), (1, zi a1), (2, zi v503)] i254_4 rfl rfl rfl ?_
  refine X.iload_n 6 i254_5 rfl rfl rfl ?_
  refine X.iconst 7 i254_6 rfl rfl (by decide) ?_
  refine X.icmpne 14 10 i254_7 rfl rfl rfl (fun h504 => ?_) (fun h504 => ?_)
  · refine X.iload_n 15 i254_14 rfl rfl rfl ?_
    refine X.ifne 22 18 i254_15 rfl rfl rfl (fun h505 => ?_) (fun h505 => ?_)
    · refine X.iload_n 23 i254_22 rfl rfl rfl ?_
      refine X.iconst 24 i254_23 rfl rfl (by decide) ?_
      refine X.icmpne 35 27 i254_24 rfl rfl rfl (fun h506 => ?_) (fun h506 => ?_)
      · refine X.cut [] i254_35 rfl ?_
        refine X.iconst 36 i254_35 rfl rfl (by decide) ?_
        refine X.reti i254_36 rfl t254 ?_
        exact hQ (-1) (by first | trivial | omega) 
      · refine X.aload_n 28 i254_27 rfl rfl rfl ?_
        refine X.iload_n 29 i254_28 rfl rfl rfl ?_
        refine X.callv 32 [zi v503] [] [(0, zr 4 44), (1, zi v503)] i254_29 rfl (by decide) rfl rfl (by omega) rfl rfl (by decide) rfl t217 (Nat.le_of_ble_eq_true rfl) (Nat.le_of_ble_eq_true rfl) rfl ?_
        refine c217_1 (B := B)  v503 (by omega) (hJ.up (by omega)) (by omega) (by omega) (fun v509 hv509 => ?_)
        show X (EE s) d 254 32 [(0, zr 4 44), (1, zi a1), (2, zi v503)] [zi v509] m _
        refine X.goto 36 i254_32 rfl rfl ?_
        refine X.cut [] i254_36 rfl ?_
        refine X.reti i254_36 rfl t254 ?_
        exact hQ v509 (by first | trivial | omega) 
    · refine X.iload_n 19 i254_18 rfl rfl rfl ?_
      refine X.goto 36 i254_19 rfl rfl ?_
      refine X.cut [] i254_36 rfl ?_
      refine X.reti i254_36 rfl t254 ?_
      exact hQ v503 (by first | trivial | omega) 
  · refine X.iconst 11 i254_10 rfl rfl (by decide) ?_
    refine X.goto 36 i254_11 rfl rfl ?_
    refine X.cut [] i254_36 rfl ?_
    refine X.reti i254_36 rfl t254 ?_
    exact hQ (-1) (by first | trivial | omega) 
-- WorkMeter.marked
theorem c154_1 {s : Nat × (Nat → Int32)} {S : zS} {m0 m : zM} {B : Int} {d : Nat} {Q : Option zV → zM → Prop} (a1 a2 : Int) (hd : 13 ≤ d) (hJ : J S m0 B m) (hB : B + 0 ≤ 1000000000) (ha1 : (-2147483648) ≤ a1 ∧ a1 ≤ 2147483647) (ha2 : (-2147483648) ≤ a2 ∧ a2 ≤ 2147483647) (hQ : ∀ (v : Int), ((-2147483648) ≤ v ∧ v ≤ 2147483647) → Q (some (zi v)) m) : X (EE s) d 154 0 [(0, zr 4 40), (1, zi a1), (2, zi a2)] [] m Q := by
  refine X.iload_n 1 i154_0 rfl rfl rfl ?_
  refine X.iflt 9 4 i154_1 rfl rfl rfl (fun h501 => ?_) (fun h501 => ?_)
  · refine X.cut [] i154_9 rfl ?_
    refine X.iconst 10 i154_9 rfl rfl (by decide) ?_
    refine X.reti i154_10 rfl t154 ?_
    exact hQ (-1) (by first | trivial | omega) 
  · refine X.iload_n 5 i154_4 rfl rfl rfl ?_
    refine X.iconst 6 i154_5 rfl rfl (by decide) ?_
    refine X.icmplt 11 9 i154_6 rfl rfl rfl (fun h502 => ?_) (fun h502 => ?_)
    · refine X.iload_n 12 i154_11 rfl rfl rfl ?_
      by_cases h503 : a2 = 0
      · refine X.tsIn 44 0 i154_12 rfl (by omega) rfl rfl ?_
        refine X.cut [(0, zr 4 40), (1, zi a1)] i154_44 rfl ?_
        refine X.aload_n 45 i154_44 rfl rfl rfl ?_
        refine X.getF 48 i154_45 rfl rfl (by decide) rfl rfl ?_
        refine X.getR 51 i154_48 rfl rfl (by decide) rfl rfl ?_
        refine X.iload_n 52 i154_51 rfl rfl rfl ?_
        refine X.callv 55 [zi a1] [] [(0, zr 0 33), (1, zi a1)] i154_52 rfl (by decide) rfl rfl (by omega) rfl rfl (by decide) rfl t40 (Nat.le_of_ble_eq_true rfl) (Nat.le_of_ble_eq_true rfl) rfl ?_
        refine X.aload_n 1 i40_0 rfl rfl rfl ?_
        refine X.getIr 4 3 i40_1 rfl rfl (by decide) rfl rfl rfl (fun h504 => ?_)
        refine X.iload_n 5 i40_4 rfl rfl rfl ?_
        refine X.iiF 6 .ishr (fun x y => x >>> (y &&& 31)) i40_5 rfl rfl rfl (fun _ _ => rfl) (fun z505 hz505 => ?_)
        refine X.iconst 7 i40_6 rfl rfl (by decide) ?_
        refine X.andF 8 1 i40_7 rfl rfl (by decide) (.inl rfl) (fun z506 hz506 => ?_)
        refine X.iconst 9 i40_8 rfl rfl (by decide) ?_
        refine X.icmpne 16 12 i40_9 rfl rfl rfl (fun h507 => ?_) (fun h507 => ?_)
        · refine X.cut [] i40_16 rfl ?_
          refine X.iconst 17 i40_16 rfl rfl (by decide) ?_
          refine X.retz i40_17 rfl t40 (by omega) ?_
          show X (EE s) d 154 55 [(0, zr 4 40), (1, zi a1)] [zi 0] m _
          refine X.ifeq 62 58 i154_55 rfl rfl rfl (fun h508 => ?_) (fun h508 => (by exfalso; omega))
          refine X.cut [] i154_62 rfl ?_
          refine X.iconst 63 i154_62 rfl rfl (by decide) ?_
          refine X.reti i154_63 rfl t154 ?_
          exact hQ 0 (by first | trivial | omega) 
        · refine X.iconst 13 i40_12 rfl rfl (by decide) ?_
          refine X.goto 17 i40_13 rfl rfl ?_
          refine X.cut [] i40_17 rfl ?_
          refine X.retz i40_17 rfl t40 (by omega) ?_
          show X (EE s) d 154 55 [(0, zr 4 40), (1, zi a1)] [zi 1] m _
          refine X.ifeq 62 58 i154_55 rfl rfl rfl (fun h509 => (by exfalso; omega)) (fun h509 => ?_)
          refine X.iconst 59 i154_58 rfl rfl (by decide) ?_
          refine X.goto 63 i154_59 rfl rfl ?_
          refine X.cut [] i154_63 rfl ?_
          refine X.reti i154_63 rfl t154 ?_
          exact hQ 1 (by first | trivial | omega) 
      by_cases h510 : a2 = 1
      · refine X.tsIn 64 1 i154_12 rfl (by omega) rfl rfl ?_
        refine X.cut [(0, zr 4 40), (1, zi a1)] i154_64 rfl ?_
        refine X.aload_n 65 i154_64 rfl rfl rfl ?_
        refine X.getF 68 i154_65 rfl rfl (by decide) rfl rfl ?_
        refine X.getR 71 i154_68 rfl rfl (by decide) rfl rfl ?_
        refine X.getR 74 i154_71 rfl rfl (by decide) rfl rfl ?_
        refine X.iload_n 75 i154_74 rfl rfl rfl ?_
        refine X.ialdr 76 i154_75 rfl rfl (by decide) rfl (by omega) (fun h511 => ?_)
        refine X.reti i154_76 rfl t154 ?_
        exact hQ (m 0 34 a1) (by first | trivial | omega) 
      by_cases h512 : a2 = 2
      · refine X.tsIn 77 2 i154_12 rfl (by omega) rfl rfl ?_
        refine X.cut [(0, zr 4 40), (1, zi a1)] i154_77 rfl ?_
        refine X.aload_n 78 i154_77 rfl rfl rfl ?_
        refine X.getF 81 i154_78 rfl rfl (by decide) rfl rfl ?_
        refine X.getR 84 i154_81 rfl rfl (by decide) rfl rfl ?_
        refine X.getR 87 i154_84 rfl rfl (by decide) rfl rfl ?_
        refine X.iload_n 88 i154_87 rfl rfl rfl ?_
        refine X.ialdr 89 i154_88 rfl rfl (by decide) rfl (by omega) (fun h513 => ?_)
        refine X.reti i154_89 rfl t154 ?_
        exact hQ (m 0 35 a1) (by first | trivial | omega) 
      by_cases h514 : a2 = 3
      · refine X.tsIn 90 3 i154_12 rfl (by omega) rfl rfl ?_
        refine X.cut [(0, zr 4 40), (1, zi a1)] i154_90 rfl ?_
        refine X.aload_n 91 i154_90 rfl rfl rfl ?_
        refine X.getF 94 i154_91 rfl rfl (by decide) rfl rfl ?_
        refine X.getR 97 i154_94 rfl rfl (by decide) rfl rfl ?_
        refine X.getR 100 i154_97 rfl rfl (by decide) rfl rfl ?_
        refine X.iload_n 101 i154_100 rfl rfl rfl ?_
        refine X.ialdr 102 i154_101 rfl rfl (by decide) rfl (by omega) (fun h515 => ?_)
        refine X.reti i154_102 rfl t154 ?_
        exact hQ (m 0 36 a1) (by first | trivial | omega) 
      refine X.tsOut 103 i154_12 rfl (by omega) rfl ?_
      refine X.cut [] i154_103 rfl ?_
      refine X.iconst 104 i154_103 rfl rfl (by decide) ?_
      refine X.reti i154_104 rfl t154 ?_
      exact hQ (-1) (by first | trivial | omega) 
    · refine X.cut [] i154_9 rfl ?_
      refine X.iconst 10 i154_9 rfl rfl (by decide) ?_
      refine X.reti i154_10 rfl t154 ?_
      exact hQ (-1) (by first | trivial | omega) 
-- WorkMeterModel.marked
theorem c297_1 {s : Nat × (Nat → Int32)} {S : zS} {m0 m : zM} {B : Int} {d : Nat} {Q : Option zV → zM → Prop} (a1 a2 : Int) (hd : 13 ≤ d) (hJ : J S m0 B m) (hB : B + 0 ≤ 1000000000) (ha1 : (-2147483648) ≤ a1 ∧ a1 ≤ 2147483647) (ha2 : (-2147483648) ≤ a2 ∧ a2 ≤ 2147483647) (hQ : ∀ (v : Int), ((-2147483648) ≤ v ∧ v ≤ 2147483647) → Q (some (zi v)) m) : X (EE s) d 297 0 [(0, zr 4 44), (1, zi a1), (2, zi a2)] [] m Q := by
  refine X.iload_n 1 i297_0 rfl rfl rfl ?_
  refine X.i2l 2 i297_1 rfl rfl ?_
  refine X.lconst (y := 0) 3 i297_2 rfl rfl rfl ?_
  refine X.ldc2 6 i297_3 rfl rfl (by decide) ?_
  refine X.calls 9 [zl a1, zl 0, zl 4] [] [(0, zl a1), (2, zl 0), (4, zl 4)] i297_6 (by decide) rfl rfl (by omega) rfl rfl t204 (Nat.le_of_ble_eq_true rfl) (Nat.le_of_ble_eq_true rfl) rfl ?_
  refine X.lload_n 1 i204_0 rfl rfl rfl ?_
  refine X.lload_n 2 i204_1 rfl rfl rfl ?_
  refine X.lcmp 3 i204_2 rfl rfl (fun z501 hz501 => ?_)
  refine X.iflt 17 6 i204_3 rfl rfl rfl (fun h502 => ?_) (fun h502 => ?_)
  · have h502c : a1 < 0 := by omega
    clear h502 hz501
    refine X.cut [] i204_17 rfl ?_
    refine X.iconst 18 i204_17 rfl rfl (by decide) ?_
    refine X.retz i204_18 rfl t204 (by omega) ?_
    show X (EE s) d 297 9 [(0, zr 4 44), (1, zi a1), (2, zi a2)] [zi 0] m _
    refine X.ifne 14 12 i297_9 rfl rfl rfl (fun h503 => (by exfalso; omega)) (fun h503 => ?_)
    refine X.iconst 13 i297_12 rfl rfl (by decide) ?_
    refine X.reti i297_13 rfl t297 ?_
    exact hQ (-1) (by first | trivial | omega) 
  · have h502c : a1 ≥ 0 := by omega
    clear h502 hz501
    refine X.lload_n 7 i204_6 rfl rfl rfl ?_
    refine X.lload 9 i204_7 rfl rfl rfl ?_
    refine X.lcmp 10 i204_9 rfl rfl (fun z504 hz504 => ?_)
    refine X.ifgt 17 13 i204_10 rfl rfl rfl (fun h505 => ?_) (fun h505 => ?_)
    · have h505c : a1 > 4 := by omega
      clear h505 hz504
      refine X.cut [] i204_17 rfl ?_
      refine X.iconst 18 i204_17 rfl rfl (by decide) ?_
      refine X.retz i204_18 rfl t204 (by omega) ?_
      show X (EE s) d 297 9 [(0, zr 4 44), (1, zi a1), (2, zi a2)] [zi 0] m _
      refine X.ifne 14 12 i297_9 rfl rfl rfl (fun h506 => (by exfalso; omega)) (fun h506 => ?_)
      refine X.iconst 13 i297_12 rfl rfl (by decide) ?_
      refine X.reti i297_13 rfl t297 ?_
      exact hQ (-1) (by first | trivial | omega) 
    · have h505c : a1 ≤ 4 := by omega
      clear h505 hz504
      refine X.iconst 14 i204_13 rfl rfl (by decide) ?_
      refine X.goto 18 i204_14 rfl rfl ?_
      refine X.cut [] i204_18 rfl ?_
      refine X.retz i204_18 rfl t204 (by omega) ?_
      show X (EE s) d 297 9 [(0, zr 4 44), (1, zi a1), (2, zi a2)] [zi 1] m _
      refine X.ifne 14 12 i297_9 rfl rfl rfl (fun h507 => ?_) (fun h507 => (by exfalso; omega))
      refine X.iload_n 15 i297_14 rfl rfl rfl ?_
      by_cases h508 : a2 = 0
      · refine X.tsIn 44 0 i297_15 rfl (by omega) rfl rfl ?_
        refine X.cut [(0, zr 4 44), (1, zi a1)] i297_44 rfl ?_
        refine X.aload_n 45 i297_44 rfl rfl rfl ?_
        refine X.getF 48 i297_45 rfl rfl (by decide) rfl rfl ?_
        refine X.bipush 50 i297_48 rfl rfl (by decide) ?_
        refine X.iload_n 51 i297_50 rfl rfl rfl ?_
        refine X.iadd 52 i297_51 rfl rfl (by omega) ?_
        refine X.lald 53 i297_52 rfl rfl (by decide) rfl (by omega) ?_
        refine X.l2iF 54 i297_53 rfl rfl (fun z509 hz509 => ?_)
        refine X.reti i297_54 rfl t297 ?_
        exact hQ z509 (by first | trivial | omega) 
      by_cases h510 : a2 = 1
      · refine X.tsIn 55 1 i297_15 rfl (by omega) rfl rfl ?_
        refine X.cut [(0, zr 4 44), (1, zi a1)] i297_55 rfl ?_
        refine X.aload_n 56 i297_55 rfl rfl rfl ?_
        refine X.getF 59 i297_56 rfl rfl (by decide) rfl rfl ?_
        refine X.bipush 61 i297_59 rfl rfl (by decide) ?_
        refine X.iload_n 62 i297_61 rfl rfl rfl ?_
        refine X.iadd 63 i297_62 rfl rfl (by omega) ?_
        refine X.lald 64 i297_63 rfl rfl (by decide) rfl (by omega) ?_
        refine X.l2iF 65 i297_64 rfl rfl (fun z511 hz511 => ?_)
        refine X.reti i297_65 rfl t297 ?_
        exact hQ z511 (by first | trivial | omega) 
      by_cases h512 : a2 = 2
      · refine X.tsIn 66 2 i297_15 rfl (by omega) rfl rfl ?_
        refine X.cut [(0, zr 4 44), (1, zi a1)] i297_66 rfl ?_
        refine X.aload_n 67 i297_66 rfl rfl rfl ?_
        refine X.getF 70 i297_67 rfl rfl (by decide) rfl rfl ?_
        refine X.bipush 72 i297_70 rfl rfl (by decide) ?_
        refine X.iload_n 73 i297_72 rfl rfl rfl ?_
        refine X.iadd 74 i297_73 rfl rfl (by omega) ?_
        refine X.lald 75 i297_74 rfl rfl (by decide) rfl (by omega) ?_
        refine X.l2iF 76 i297_75 rfl rfl (fun z513 hz513 => ?_)
        refine X.reti i297_76 rfl t297 ?_
        exact hQ z513 (by first | trivial | omega) 
      by_cases h514 : a2 = 3
      · refine X.tsIn 77 3 i297_15 rfl (by omega) rfl rfl ?_
        refine X.cut [(0, zr 4 44), (1, zi a1)] i297_77 rfl ?_
        refine X.aload_n 78 i297_77 rfl rfl rfl ?_
        refine X.getF 81 i297_78 rfl rfl (by decide) rfl rfl ?_
        refine X.bipush 83 i297_81 rfl rfl (by decide) ?_
        refine X.iload_n 84 i297_83 rfl rfl rfl ?_
        refine X.iadd 85 i297_84 rfl rfl (by omega) ?_
        refine X.lald 86 i297_85 rfl rfl (by decide) rfl (by omega) ?_
        refine X.l2iF 87 i297_86 rfl rfl (fun z515 hz515 => ?_)
        refine X.reti i297_87 rfl t297 ?_
        exact hQ z515 (by first | trivial | omega) 
      refine X.tsOut 88 i297_15 rfl (by omega) rfl ?_
      refine X.cut [] i297_88 rfl ?_
      refine X.iconst 89 i297_88 rfl rfl (by decide) ?_
      refine X.reti i297_89 rfl t297 ?_
      exact hQ (-1) (by first | trivial | omega) 
-- WorkMeter.load
theorem c155_1 {s : Nat × (Nat → Int32)} {S : zS} {m0 m : zM} {B : Int} {d : Nat} {Q : Option zV → zM → Prop} (a1 a2 : Int) (hd : 14 ≤ d) (hJ : J S m0 B m) (hB : B + 0 ≤ 1000000000) (ha1 : (-2147483648) ≤ a1 ∧ a1 ≤ 2147483647) (ha2 : (-2147483648) ≤ a2 ∧ a2 ≤ 2147483647) (hQ : ∀ (v : Int), (True) → Q (some (zl v)) m) : X (EE s) d 155 0 [(0, zr 4 40), (1, zi a1), (2, zi a2)] [] m Q := by
  refine X.aload_n 1 i155_0 rfl rfl rfl ?_
  refine X.getF 4 i155_1 rfl rfl (by decide) rfl rfl ?_
  refine X.getR 7 i155_4 rfl rfl (by decide) rfl rfl ?_
  refine X.callv 10 [] [] [(0, zr 0 27)] i155_7 rfl (by decide) rfl rfl (by omega) rfl rfl (by decide) rfl t66 (Nat.le_of_ble_eq_true rfl) (Nat.le_of_ble_eq_true rfl) rfl ?_
  refine X.aload_n 1 i66_0 rfl rfl rfl ?_
  refine X.getI 4 2 i66_1 rfl rfl (by decide) rfl rfl rfl ?_
  have h501 := r27_2 hJ 0
  refine X.bipush 6 i66_4 rfl rfl (by decide) ?_
  refine X.minI 9 i66_6 rfl rfl (by omega) (Nat.le_of_ble_eq_true rfl) ?_
  refine X.reti i66_9 rfl t66 ?_
  show X (EE s) d 155 10 [(0, zr 4 40), (1, zi a1), (2, zi a2)] [zi (min (m 0 27 2) 64)] m _
  refine X.istore_n 11 [(0, zr 4 40), (1, zi a1), (2, zi a2), (3, zi (min (m 0 27 2) 64))] i155_10 rfl rfl rfl ?_
  refine X.iload_n 12 i155_11 rfl rfl rfl ?_
  refine X.iconst 13 i155_12 rfl rfl (by decide) ?_
  refine X.icmpne 19 16 i155_13 rfl rfl rfl (fun h502 => ?_) (fun h502 => ?_)
  · refine X.iload_n 20 i155_19 rfl rfl rfl ?_
    refine X.iflt 38 23 i155_20 rfl rfl rfl (fun h503 => ?_) (fun h503 => ?_)
    · refine X.cut [] i155_38 rfl ?_
      refine X.ldc2 41 i155_38 rfl rfl (by decide) ?_
      refine X.retl i155_41 rfl t155 ?_
      exact hQ (-1) (by first | trivial | omega) 
    · refine X.iload_n 24 i155_23 rfl rfl rfl ?_
      refine X.iload_n 25 i155_24 rfl rfl rfl ?_
      refine X.icmpge 38 28 i155_25 rfl rfl rfl (fun h504 => ?_) (fun h504 => ?_)
      · refine X.cut [] i155_38 rfl ?_
        refine X.ldc2 41 i155_38 rfl rfl (by decide) ?_
        refine X.retl i155_41 rfl t155 ?_
        exact hQ (-1) (by first | trivial | omega) 
      · refine X.iload_n 29 i155_28 rfl rfl rfl ?_
        refine X.iflt 38 32 i155_29 rfl rfl rfl (fun h505 => ?_) (fun h505 => ?_)
        · refine X.cut [] i155_38 rfl ?_
          refine X.ldc2 41 i155_38 rfl rfl (by decide) ?_
          refine X.retl i155_41 rfl t155 ?_
          exact hQ (-1) (by first | trivial | omega) 
        · refine X.iload_n 33 i155_32 rfl rfl rfl ?_
          refine X.bipush 35 i155_33 rfl rfl (by decide) ?_
          refine X.icmplt 42 38 i155_35 rfl rfl rfl (fun h506 => ?_) (fun h506 => ?_)
          · refine X.cut [(0, zr 4 40), (1, zi a1), (2, zi a2)] i155_42 rfl ?_
            refine X.aload_n 43 i155_42 rfl rfl rfl ?_
            refine X.getF 46 i155_43 rfl rfl (by decide) rfl rfl ?_
            refine X.getR 49 i155_46 rfl rfl (by decide) rfl rfl ?_
            refine X.iload_n 50 i155_49 rfl rfl rfl ?_
            refine X.iload_n 51 i155_50 rfl rfl rfl ?_
            refine X.callv 54 [zi a1, zi a2] [] [(0, zr 0 27), (1, zi a1), (2, zi a2)] i155_51 rfl (by decide) rfl rfl (by omega) rfl rfl (by decide) rfl t67 (Nat.le_of_ble_eq_true rfl) (Nat.le_of_ble_eq_true rfl) rfl ?_
            refine X.aload_n 1 i67_0 rfl rfl rfl ?_
            refine X.getR 4 i67_1 rfl rfl (by decide) rfl rfl ?_
            refine X.aload_n 5 i67_4 rfl rfl rfl ?_
            refine X.getI 8 2 i67_5 rfl rfl (by decide) rfl rfl rfl ?_
            refine X.iconst 9 i67_8 rfl rfl (by decide) ?_
            refine X.isub 10 i67_9 rfl rfl (by omega) ?_
            refine X.iload_n 11 i67_10 rfl rfl rfl ?_
            refine X.isub 12 i67_11 rfl rfl (by omega) ?_
            refine X.bipush 14 i67_12 rfl rfl (by decide) ?_
            refine X.irem 15 i67_14 rfl rfl (by omega) ?_
            refine X.bipush 17 i67_15 rfl rfl (by decide) ?_
            refine X.imul 18 i67_17 rfl rfl (by omega) ?_
            refine X.iload_n 19 i67_18 rfl rfl rfl ?_
            refine X.iadd 20 i67_19 rfl rfl (by omega) ?_
            refine X.lald 21 i67_20 rfl rfl (by decide) rfl (by omega) ?_
            refine X.retl i67_21 rfl t67 ?_
            show X (EE s) d 155 54 [(0, zr 4 40), (1, zi a1), (2, zi a2)] [zl (m 0 28 ((((((m 0 27 2) - 1) - a1) % 64) * 6) + a2))] m _
            refine X.retl i155_54 rfl t155 ?_
            exact hQ (m 0 28 ((((((m 0 27 2) - 1) - a1) % 64) * 6) + a2)) (by first | trivial | omega) 
          · refine X.cut [] i155_38 rfl ?_
            refine X.ldc2 41 i155_38 rfl rfl (by decide) ?_
            refine X.retl i155_41 rfl t155 ?_
            exact hQ (-1) (by first | trivial | omega) 
  · refine X.iload_n 17 i155_16 rfl rfl rfl ?_
    refine X.i2l 18 i155_17 rfl rfl ?_
    refine X.retl i155_18 rfl t155 ?_
    exact hQ (min (m 0 27 2) 64) (by first | trivial | omega) 
-- WorkMeterModel.load
theorem c298_1 {s : Nat × (Nat → Int32)} {S : zS} {m0 m : zM} {B : Int} {d : Nat} {Q : Option zV → zM → Prop} (a1 a2 : Int) (hd : 13 ≤ d) (hJ : J S m0 B m) (hB : B + 0 ≤ 1000000000) (ha1 : (-2147483648) ≤ a1 ∧ a1 ≤ 2147483647) (ha2 : (-2147483648) ≤ a2 ∧ a2 ≤ 2147483647) (hQ : ∀ (v : Int), (True) → Q (some (zl v)) m) : X (EE s) d 298 0 [(0, zr 4 44), (1, zi a1), (2, zi a2)] [] m Q := by
  refine X.iload_n 1 i298_0 rfl rfl rfl ?_
  refine X.iconst 2 i298_1 rfl rfl (by decide) ?_
  refine X.icmpne 11 5 i298_2 rfl rfl rfl (fun h501 => ?_) (fun h501 => ?_)
  · refine X.iload_n 12 i298_11 rfl rfl rfl ?_
    refine X.i2l 13 i298_12 rfl rfl ?_
    refine X.lconst (y := 0) 14 i298_13 rfl rfl rfl ?_
    refine X.aload_n 15 i298_14 rfl rfl rfl ?_
    refine X.callv 18 [] [zl 0, zl a1] [(0, zr 4 44)] i298_15 rfl (by decide) rfl rfl (by omega) rfl rfl (by decide) rfl t235 (Nat.le_of_ble_eq_true rfl) (Nat.le_of_ble_eq_true rfl) rfl ?_
    refine X.aload_n 1 i235_0 rfl rfl rfl ?_
    refine X.getF 4 i235_1 rfl rfl (by decide) rfl rfl ?_
    refine X.bipush 6 i235_4 rfl rfl (by decide) ?_
    refine X.lald 7 i235_6 rfl rfl (by decide) rfl (by omega) ?_
    have h502 := r45_17 hJ 4
    refine X.ldc2 10 i235_7 rfl rfl (by decide) ?_
    refine X.lcmp 11 i235_10 rfl rfl (fun z503 hz503 => ?_)
    refine X.ifge 24 14 i235_11 rfl rfl rfl (fun h504 => ?_) (fun h504 => ?_)
    · have h504c : (m 4 45 17) ≥ 64 := by omega
      clear h504 hz503
      refine X.cut [] i235_24 rfl ?_
      refine X.ldc2 27 i235_24 rfl rfl (by decide) ?_
      refine X.l2i 28 i235_27 rfl rfl (by omega) ?_
      refine X.reti i235_28 rfl t235 ?_
      show X (EE s) d 298 18 [(0, zr 4 44), (1, zi a1), (2, zi a2)] [zi 64, zl 0, zl a1] m _
      refine X.iconst 19 i298_18 rfl rfl (by decide) ?_
      refine X.isub 20 i298_19 rfl rfl (by omega) ?_
      refine X.i2l 21 i298_20 rfl rfl ?_
      refine X.calls 24 [zl a1, zl 0, zl (64 - 1)] [] [(0, zl a1), (2, zl 0), (4, zl (64 - 1))] i298_21 (by decide) rfl rfl (by omega) rfl rfl t204 (Nat.le_of_ble_eq_true rfl) (Nat.le_of_ble_eq_true rfl) rfl ?_
      refine X.lload_n 1 i204_0 rfl rfl rfl ?_
      refine X.lload_n 2 i204_1 rfl rfl rfl ?_
      refine X.lcmp 3 i204_2 rfl rfl (fun z505 hz505 => ?_)
      refine X.iflt 17 6 i204_3 rfl rfl rfl (fun h506 => ?_) (fun h506 => ?_)
      · have h506c : a1 < 0 := by omega
        clear h506 hz505
        refine X.cut [] i204_17 rfl ?_
        refine X.iconst 18 i204_17 rfl rfl (by decide) ?_
        refine X.retz i204_18 rfl t204 (by omega) ?_
        show X (EE s) d 298 24 [(0, zr 4 44), (1, zi a1), (2, zi a2)] [zi 0] m _
        refine X.ifeq 55 27 i298_24 rfl rfl rfl (fun h507 => ?_) (fun h507 => (by exfalso; omega))
        refine X.cut [] i298_55 rfl ?_
        refine X.ldc2 58 i298_55 rfl rfl (by decide) ?_
        refine X.retl i298_58 rfl t298 ?_
        exact hQ (-1) (by first | trivial | omega) 
      · have h506c : a1 ≥ 0 := by omega
        clear h506 hz505
        refine X.lload_n 7 i204_6 rfl rfl rfl ?_
        refine X.lload 9 i204_7 rfl rfl rfl ?_
        refine X.lcmp 10 i204_9 rfl rfl (fun z508 hz508 => ?_)
        refine X.ifgt 17 13 i204_10 rfl rfl rfl (fun h509 => ?_) (fun h509 => ?_)
        · have h509c : a1 > (64 - 1) := by omega
          clear h509 hz508
          refine X.cut [] i204_17 rfl ?_
          refine X.iconst 18 i204_17 rfl rfl (by decide) ?_
          refine X.retz i204_18 rfl t204 (by omega) ?_
          show X (EE s) d 298 24 [(0, zr 4 44), (1, zi a1), (2, zi a2)] [zi 0] m _
          refine X.ifeq 55 27 i298_24 rfl rfl rfl (fun h510 => ?_) (fun h510 => (by exfalso; omega))
          refine X.cut [] i298_55 rfl ?_
          refine X.ldc2 58 i298_55 rfl rfl (by decide) ?_
          refine X.retl i298_58 rfl t298 ?_
          exact hQ (-1) (by first | trivial | omega) 
        · have h509c : a1 ≤ (64 - 1) := by omega
          clear h509 hz508
          refine X.iconst 14 i204_13 rfl rfl (by decide) ?_
          refine X.goto 18 i204_14 rfl rfl ?_
          refine X.cut [] i204_18 rfl ?_
          refine X.retz i204_18 rfl t204 (by omega) ?_
          show X (EE s) d 298 24 [(0, zr 4 44), (1, zi a1), (2, zi a2)] [zi 1] m _
          refine X.ifeq 55 27 i298_24 rfl rfl rfl (fun h511 => (by exfalso; omega)) (fun h511 => ?_)
          refine X.iload_n 28 i298_27 rfl rfl rfl ?_
          refine X.i2l 29 i298_28 rfl rfl ?_
          refine X.lconst (y := 0) 30 i298_29 rfl rfl rfl ?_
          refine X.ldc2 33 i298_30 rfl rfl (by decide) ?_
          refine X.calls 36 [zl a2, zl 0, zl 5] [] [(0, zl a2), (2, zl 0), (4, zl 5)] i298_33 (by decide) rfl rfl (by omega) rfl rfl t204 (Nat.le_of_ble_eq_true rfl) (Nat.le_of_ble_eq_true rfl) rfl ?_
          refine X.lload_n 1 i204_0 rfl rfl rfl ?_
          refine X.lload_n 2 i204_1 rfl rfl rfl ?_
          refine X.lcmp 3 i204_2 rfl rfl (fun z512 hz512 => ?_)
          refine X.iflt 17 6 i204_3 rfl rfl rfl (fun h513 => ?_) (fun h513 => ?_)
          · have h513c : a2 < 0 := by omega
            clear h513 hz512
            refine X.cut [] i204_17 rfl ?_
            refine X.iconst 18 i204_17 rfl rfl (by decide) ?_
            refine X.retz i204_18 rfl t204 (by omega) ?_
            show X (EE s) d 298 36 [(0, zr 4 44), (1, zi a1), (2, zi a2)] [zi 0] m _
            refine X.ifeq 55 39 i298_36 rfl rfl rfl (fun h514 => ?_) (fun h514 => (by exfalso; omega))
            refine X.cut [] i298_55 rfl ?_
            refine X.ldc2 58 i298_55 rfl rfl (by decide) ?_
            refine X.retl i298_58 rfl t298 ?_
            exact hQ (-1) (by first | trivial | omega) 
          · have h513c : a2 ≥ 0 := by omega
            clear h513 hz512
            refine X.lload_n 7 i204_6 rfl rfl rfl ?_
            refine X.lload 9 i204_7 rfl rfl rfl ?_
            refine X.lcmp 10 i204_9 rfl rfl (fun z515 hz515 => ?_)
            refine X.ifgt 17 13 i204_10 rfl rfl rfl (fun h516 => ?_) (fun h516 => ?_)
            · have h516c : a2 > 5 := by omega
              clear h516 hz515
              refine X.cut [] i204_17 rfl ?_
              refine X.iconst 18 i204_17 rfl rfl (by decide) ?_
              refine X.retz i204_18 rfl t204 (by omega) ?_
              show X (EE s) d 298 36 [(0, zr 4 44), (1, zi a1), (2, zi a2)] [zi 0] m _
              refine X.ifeq 55 39 i298_36 rfl rfl rfl (fun h517 => ?_) (fun h517 => (by exfalso; omega))
              refine X.cut [] i298_55 rfl ?_
              refine X.ldc2 58 i298_55 rfl rfl (by decide) ?_
              refine X.retl i298_58 rfl t298 ?_
              exact hQ (-1) (by first | trivial | omega) 
            · have h516c : a2 ≤ 5 := by omega
              clear h516 hz515
              refine X.iconst 14 i204_13 rfl rfl (by decide) ?_
              refine X.goto 18 i204_14 rfl rfl ?_
              refine X.cut [] i204_18 rfl ?_
              refine X.retz i204_18 rfl t204 (by omega) ?_
              show X (EE s) d 298 36 [(0, zr 4 44), (1, zi a1), (2, zi a2)] [zi 1] m _
              refine X.ifeq 55 39 i298_36 rfl rfl rfl (fun h518 => (by exfalso; omega)) (fun h518 => ?_)
              refine X.aload_n 40 i298_39 rfl rfl rfl ?_
              refine X.aload_n 41 i298_40 rfl rfl rfl ?_
              refine X.callv 44 [] [zr 4 44] [(0, zr 4 44)] i298_41 rfl (by decide) rfl rfl (by omega) rfl rfl (by decide) rfl t235 (Nat.le_of_ble_eq_true rfl) (Nat.le_of_ble_eq_true rfl) rfl ?_
              refine X.aload_n 1 i235_0 rfl rfl rfl ?_
              refine X.getF 4 i235_1 rfl rfl (by decide) rfl rfl ?_
              refine X.bipush 6 i235_4 rfl rfl (by decide) ?_
              refine X.lald 7 i235_6 rfl rfl (by decide) rfl (by omega) ?_
              refine X.ldc2 10 i235_7 rfl rfl (by decide) ?_
              refine X.lcmp 11 i235_10 rfl rfl (fun z519 hz519 => ?_)
              refine X.ifge 24 14 i235_11 rfl rfl rfl (fun h520 => ?_) (fun h520 => (by exfalso; omega))
              have h520c : (m 4 45 17) ≥ 64 := by omega
              clear h520 hz519
              refine X.cut [] i235_24 rfl ?_
              refine X.ldc2 27 i235_24 rfl rfl (by decide) ?_
              refine X.l2i 28 i235_27 rfl rfl (by omega) ?_
              refine X.reti i235_28 rfl t235 ?_
              show X (EE s) d 298 44 [(0, zr 4 44), (1, zi a1), (2, zi a2)] [zi 64, zr 4 44] m _
              refine X.iconst 45 i298_44 rfl rfl (by decide) ?_
              refine X.isub 46 i298_45 rfl rfl (by omega) ?_
              refine X.iload_n 47 i298_46 rfl rfl rfl ?_
              refine X.isub 48 i298_47 rfl rfl (by omega) ?_
              refine X.iload_n 49 i298_48 rfl rfl rfl ?_
              refine X.callv 52 [zi ((64 - 1) - a1), zi a2] [] [(0, zr 4 44), (1, zi ((64 - 1) - a1)), (2, zi a2)] i298_49 rfl (by decide) rfl rfl (by omega) rfl rfl (by decide) rfl t234 (Nat.le_of_ble_eq_true rfl) (Nat.le_of_ble_eq_true rfl) rfl ?_
              refine X.aload_n 1 i234_0 rfl rfl rfl ?_
              refine X.getF 4 i234_1 rfl rfl (by decide) rfl rfl ?_
              refine X.sipush 7 i234_4 rfl rfl (by decide) ?_
              refine X.bipush 9 i234_7 rfl rfl (by decide) ?_
              refine X.iload_n 10 i234_9 rfl rfl rfl ?_
              refine X.imul 11 i234_10 rfl rfl (by omega) ?_
              refine X.iadd 12 i234_11 rfl rfl (by omega) ?_
              refine X.iload_n 13 i234_12 rfl rfl rfl ?_
              refine X.iadd 14 i234_13 rfl rfl (by omega) ?_
              refine X.lald 15 i234_14 rfl rfl (by decide) rfl (by omega) ?_
              refine X.retl i234_15 rfl t234 ?_
              show X (EE s) d 298 52 [(0, zr 4 44), (1, zi a1), (2, zi a2)] [zl (m 4 45 ((788 + (6 * ((64 - 1) - a1))) + a2))] m _
              refine X.goto 58 i298_52 rfl rfl ?_
              refine X.cut [] i298_58 rfl ?_
              refine X.retl i298_58 rfl t298 ?_
              exact hQ (m 4 45 ((788 + (6 * ((64 - 1) - a1))) + a2)) (by first | trivial | omega) 
    · have h504c : (m 4 45 17) < 64 := by omega
      clear h504 hz503
      refine X.aload_n 15 i235_14 rfl rfl rfl ?_
      refine X.getF 18 i235_15 rfl rfl (by decide) rfl rfl ?_
      refine X.bipush 20 i235_18 rfl rfl (by decide) ?_
      refine X.lald 21 i235_20 rfl rfl (by decide) rfl (by omega) ?_
      refine X.goto 27 i235_21 rfl rfl ?_
      refine X.cut [] i235_27 rfl ?_
      refine X.l2i 28 i235_27 rfl rfl (by omega) ?_
      refine X.reti i235_28 rfl t235 ?_
      show X (EE s) d 298 18 [(0, zr 4 44), (1, zi a1), (2, zi a2)] [zi (m 4 45 17), zl 0, zl a1] m _
      refine X.iconst 19 i298_18 rfl rfl (by decide) ?_
      refine X.isub 20 i298_19 rfl rfl (by omega) ?_
      refine X.i2l 21 i298_20 rfl rfl ?_
      refine X.calls 24 [zl a1, zl 0, zl ((m 4 45 17) - 1)] [] [(0, zl a1), (2, zl 0), (4, zl ((m 4 45 17) - 1))] i298_21 (by decide) rfl rfl (by omega) rfl rfl t204 (Nat.le_of_ble_eq_true rfl) (Nat.le_of_ble_eq_true rfl) rfl ?_
      refine X.lload_n 1 i204_0 rfl rfl rfl ?_
      refine X.lload_n 2 i204_1 rfl rfl rfl ?_
      refine X.lcmp 3 i204_2 rfl rfl (fun z521 hz521 => ?_)
      refine X.iflt 17 6 i204_3 rfl rfl rfl (fun h522 => ?_) (fun h522 => ?_)
      · have h522c : a1 < 0 := by omega
        clear h522 hz521
        refine X.cut [] i204_17 rfl ?_
        refine X.iconst 18 i204_17 rfl rfl (by decide) ?_
        refine X.retz i204_18 rfl t204 (by omega) ?_
        show X (EE s) d 298 24 [(0, zr 4 44), (1, zi a1), (2, zi a2)] [zi 0] m _
        refine X.ifeq 55 27 i298_24 rfl rfl rfl (fun h523 => ?_) (fun h523 => (by exfalso; omega))
        refine X.cut [] i298_55 rfl ?_
        refine X.ldc2 58 i298_55 rfl rfl (by decide) ?_
        refine X.retl i298_58 rfl t298 ?_
        exact hQ (-1) (by first | trivial | omega) 
      · have h522c : a1 ≥ 0 := by omega
        clear h522 hz521
        refine X.lload_n 7 i204_6 rfl rfl rfl ?_
        refine X.lload 9 i204_7 rfl rfl rfl ?_
        refine X.lcmp 10 i204_9 rfl rfl (fun z524 hz524 => ?_)
        refine X.ifgt 17 13 i204_10 rfl rfl rfl (fun h525 => ?_) (fun h525 => ?_)
        · have h525c : a1 > ((m 4 45 17) - 1) := by omega
          clear h525 hz524
          refine X.cut [] i204_17 rfl ?_
          refine X.iconst 18 i204_17 rfl rfl (by decide) ?_
          refine X.retz i204_18 rfl t204 (by omega) ?_
          show X (EE s) d 298 24 [(0, zr 4 44), (1, zi a1), (2, zi a2)] [zi 0] m _
          refine X.ifeq 55 27 i298_24 rfl rfl rfl (fun h526 => ?_) (fun h526 => (by exfalso; omega))
          refine X.cut [] i298_55 rfl ?_
          refine X.ldc2 58 i298_55 rfl rfl (by decide) ?_
          refine X.retl i298_58 rfl t298 ?_
          exact hQ (-1) (by first | trivial | omega) 
        · have h525c : a1 ≤ ((m 4 45 17) - 1) := by omega
          clear h525 hz524
          refine X.iconst 14 i204_13 rfl rfl (by decide) ?_
          refine X.goto 18 i204_14 rfl rfl ?_
          refine X.cut [] i204_18 rfl ?_
          refine X.retz i204_18 rfl t204 (by omega) ?_
          show X (EE s) d 298 24 [(0, zr 4 44), (1, zi a1), (2, zi a2)] [zi 1] m _
          refine X.ifeq 55 27 i298_24 rfl rfl rfl (fun h527 => (by exfalso; omega)) (fun h527 => ?_)
          refine X.iload_n 28 i298_27 rfl rfl rfl ?_
          refine X.i2l 29 i298_28 rfl rfl ?_
          refine X.lconst (y := 0) 30 i298_29 rfl rfl rfl ?_
          refine X.ldc2 33 i298_30 rfl rfl (by decide) ?_
          refine X.calls 36 [zl a2, zl 0, zl 5] [] [(0, zl a2), (2, zl 0), (4, zl 5)] i298_33 (by decide) rfl rfl (by omega) rfl rfl t204 (Nat.le_of_ble_eq_true rfl) (Nat.le_of_ble_eq_true rfl) rfl ?_
          refine X.lload_n 1 i204_0 rfl rfl rfl ?_
          refine X.lload_n 2 i204_1 rfl rfl rfl ?_
          refine X.lcmp 3 i204_2 rfl rfl (fun z528 hz528 => ?_)
          refine X.iflt 17 6 i204_3 rfl rfl rfl (fun h529 => ?_) (fun h529 => ?_)
          · have h529c : a2 < 0 := by omega
            clear h529 hz528
            refine X.cut [] i204_17 rfl ?_
            refine X.iconst 18 i204_17 rfl rfl (by decide) ?_
            refine X.retz i204_18 rfl t204 (by omega) ?_
            show X (EE s) d 298 36 [(0, zr 4 44), (1, zi a1), (2, zi a2)] [zi 0] m _
            refine X.ifeq 55 39 i298_36 rfl rfl rfl (fun h530 => ?_) (fun h530 => (by exfalso; omega))
            refine X.cut [] i298_55 rfl ?_
            refine X.ldc2 58 i298_55 rfl rfl (by decide) ?_
            refine X.retl i298_58 rfl t298 ?_
            exact hQ (-1) (by first | trivial | omega) 
          · have h529c : a2 ≥ 0 := by omega
            clear h529 hz528
            refine X.lload_n 7 i204_6 rfl rfl rfl ?_
            refine X.lload 9 i204_7 rfl rfl rfl ?_
            refine X.lcmp 10 i204_9 rfl rfl (fun z531 hz531 => ?_)
            refine X.ifgt 17 13 i204_10 rfl rfl rfl (fun h532 => ?_) (fun h532 => ?_)
            · have h532c : a2 > 5 := by omega
              clear h532 hz531
              refine X.cut [] i204_17 rfl ?_
              refine X.iconst 18 i204_17 rfl rfl (by decide) ?_
              refine X.retz i204_18 rfl t204 (by omega) ?_
              show X (EE s) d 298 36 [(0, zr 4 44), (1, zi a1), (2, zi a2)] [zi 0] m _
              refine X.ifeq 55 39 i298_36 rfl rfl rfl (fun h533 => ?_) (fun h533 => (by exfalso; omega))
              refine X.cut [] i298_55 rfl ?_
              refine X.ldc2 58 i298_55 rfl rfl (by decide) ?_
              refine X.retl i298_58 rfl t298 ?_
              exact hQ (-1) (by first | trivial | omega) 
            · have h532c : a2 ≤ 5 := by omega
              clear h532 hz531
              refine X.iconst 14 i204_13 rfl rfl (by decide) ?_
              refine X.goto 18 i204_14 rfl rfl ?_
              refine X.cut [] i204_18 rfl ?_
              refine X.retz i204_18 rfl t204 (by omega) ?_
              show X (EE s) d 298 36 [(0, zr 4 44), (1, zi a1), (2, zi a2)] [zi 1] m _
              refine X.ifeq 55 39 i298_36 rfl rfl rfl (fun h534 => (by exfalso; omega)) (fun h534 => ?_)
              refine X.aload_n 40 i298_39 rfl rfl rfl ?_
              refine X.aload_n 41 i298_40 rfl rfl rfl ?_
              refine X.callv 44 [] [zr 4 44] [(0, zr 4 44)] i298_41 rfl (by decide) rfl rfl (by omega) rfl rfl (by decide) rfl t235 (Nat.le_of_ble_eq_true rfl) (Nat.le_of_ble_eq_true rfl) rfl ?_
              refine X.aload_n 1 i235_0 rfl rfl rfl ?_
              refine X.getF 4 i235_1 rfl rfl (by decide) rfl rfl ?_
              refine X.bipush 6 i235_4 rfl rfl (by decide) ?_
              refine X.lald 7 i235_6 rfl rfl (by decide) rfl (by omega) ?_
              refine X.ldc2 10 i235_7 rfl rfl (by decide) ?_
              refine X.lcmp 11 i235_10 rfl rfl (fun z535 hz535 => ?_)
              refine X.ifge 24 14 i235_11 rfl rfl rfl (fun h536 => (by exfalso; omega)) (fun h536 => ?_)
              have h536c : (m 4 45 17) < 64 := by omega
              clear h536 hz535
              refine X.aload_n 15 i235_14 rfl rfl rfl ?_
              refine X.getF 18 i235_15 rfl rfl (by decide) rfl rfl ?_
              refine X.bipush 20 i235_18 rfl rfl (by decide) ?_
              refine X.lald 21 i235_20 rfl rfl (by decide) rfl (by omega) ?_
              refine X.goto 27 i235_21 rfl rfl ?_
              refine X.cut [] i235_27 rfl ?_
              refine X.l2i 28 i235_27 rfl rfl (by omega) ?_
              refine X.reti i235_28 rfl t235 ?_
              show X (EE s) d 298 44 [(0, zr 4 44), (1, zi a1), (2, zi a2)] [zi (m 4 45 17), zr 4 44] m _
              refine X.iconst 45 i298_44 rfl rfl (by decide) ?_
              refine X.isub 46 i298_45 rfl rfl (by omega) ?_
              refine X.iload_n 47 i298_46 rfl rfl rfl ?_
              refine X.isub 48 i298_47 rfl rfl (by omega) ?_
              refine X.iload_n 49 i298_48 rfl rfl rfl ?_
              refine X.callv 52 [zi (((m 4 45 17) - 1) - a1), zi a2] [] [(0, zr 4 44), (1, zi (((m 4 45 17) - 1) - a1)), (2, zi a2)] i298_49 rfl (by decide) rfl rfl (by omega) rfl rfl (by decide) rfl t234 (Nat.le_of_ble_eq_true rfl) (Nat.le_of_ble_eq_true rfl) rfl ?_
              refine X.aload_n 1 i234_0 rfl rfl rfl ?_
              refine X.getF 4 i234_1 rfl rfl (by decide) rfl rfl ?_
              refine X.sipush 7 i234_4 rfl rfl (by decide) ?_
              refine X.bipush 9 i234_7 rfl rfl (by decide) ?_
              refine X.iload_n 10 i234_9 rfl rfl rfl ?_
              refine X.imul 11 i234_10 rfl rfl (by omega) ?_
              refine X.iadd 12 i234_11 rfl rfl (by omega) ?_
              refine X.iload_n 13 i234_12 rfl rfl rfl ?_
              refine X.iadd 14 i234_13 rfl rfl (by omega) ?_
              refine X.lald 15 i234_14 rfl rfl (by decide) rfl (by omega) ?_
              refine X.retl i234_15 rfl t234 ?_
              show X (EE s) d 298 52 [(0, zr 4 44), (1, zi a1), (2, zi a2)] [zl (m 4 45 ((788 + (6 * (((m 4 45 17) - 1) - a1))) + a2))] m _
              refine X.goto 58 i298_52 rfl rfl ?_
              refine X.cut [] i298_58 rfl ?_
              refine X.retl i298_58 rfl t298 ?_
              exact hQ (m 4 45 ((788 + (6 * (((m 4 45 17) - 1) - a1))) + a2)) (by first | trivial | omega) 
  · refine X.aload_n 6 i298_5 rfl rfl rfl ?_
    refine X.callv 9 [] [] [(0, zr 4 44)] i298_6 rfl (by decide) rfl rfl (by omega) rfl rfl (by decide) rfl t235 (Nat.le_of_ble_eq_true rfl) (Nat.le_of_ble_eq_true rfl) rfl ?_
    refine X.aload_n 1 i235_0 rfl rfl rfl ?_
    refine X.getF 4 i235_1 rfl rfl (by decide) rfl rfl ?_
    refine X.bipush 6 i235_4 rfl rfl (by decide) ?_
    refine X.lald 7 i235_6 rfl rfl (by decide) rfl (by omega) ?_
    have h537 := r45_17 hJ 4
    refine X.ldc2 10 i235_7 rfl rfl (by decide) ?_
    refine X.lcmp 11 i235_10 rfl rfl (fun z538 hz538 => ?_)
    refine X.ifge 24 14 i235_11 rfl rfl rfl (fun h539 => ?_) (fun h539 => ?_)
    · have h539c : (m 4 45 17) ≥ 64 := by omega
      clear h539 hz538
      refine X.cut [] i235_24 rfl ?_
      refine X.ldc2 27 i235_24 rfl rfl (by decide) ?_
      refine X.l2i 28 i235_27 rfl rfl (by omega) ?_
      refine X.reti i235_28 rfl t235 ?_
      show X (EE s) d 298 9 [(0, zr 4 44), (1, zi a1), (2, zi a2)] [zi 64] m _
      refine X.i2l 10 i298_9 rfl rfl ?_
      refine X.retl i298_10 rfl t298 ?_
      exact hQ 64 (by first | trivial | omega) 
    · have h539c : (m 4 45 17) < 64 := by omega
      clear h539 hz538
      refine X.aload_n 15 i235_14 rfl rfl rfl ?_
      refine X.getF 18 i235_15 rfl rfl (by decide) rfl rfl ?_
      refine X.bipush 20 i235_18 rfl rfl (by decide) ?_
      refine X.lald 21 i235_20 rfl rfl (by decide) rfl (by omega) ?_
      refine X.goto 27 i235_21 rfl rfl ?_
      refine X.cut [] i235_27 rfl ?_
      refine X.l2i 28 i235_27 rfl rfl (by omega) ?_
      refine X.reti i235_28 rfl t235 ?_
      show X (EE s) d 298 9 [(0, zr 4 44), (1, zi a1), (2, zi a2)] [zi (m 4 45 17)] m _
      refine X.i2l 10 i298_9 rfl rfl ?_
      refine X.retl i298_10 rfl t298 ?_
      exact hQ (m 4 45 17) (by first | trivial | omega) 
-- WorkMeter.block
theorem c156_1 {s : Nat × (Nat → Int32)} {S : zS} {m0 m : zM} {B : Int} {d : Nat} {Q : Option zV → zM → Prop} (a1 : Int) (hd : 14 ≤ d) (hJ : J S m0 B m) (hB : B + 0 ≤ 1000000000) (ha1 : (-2147483648) ≤ a1 ∧ a1 ≤ 2147483647) (hQ : ∀ (v : Int), (True) → Q (some (zl v)) m) : X (EE s) d 156 0 [(0, zr 4 40), (1, zi a1)] [] m Q := by
  refine X.iload_n 1 i156_0 rfl rfl rfl ?_
  by_cases h501 : a1 = 0
  · refine X.tsIn 40 0 i156_1 rfl (by omega) rfl rfl ?_
    refine X.cut [(0, zr 4 40)] i156_40 rfl ?_
    refine X.aload_n 41 i156_40 rfl rfl rfl ?_
    refine X.getF 44 i156_41 rfl rfl (by decide) rfl rfl ?_
    refine X.getR 47 i156_44 rfl rfl (by decide) rfl rfl ?_
    refine X.getL 50 3 i156_47 rfl rfl (by decide) rfl rfl rfl ?_
    refine X.retl i156_50 rfl t156 ?_
    exact hQ (m 0 27 3) (by first | trivial | omega) 
  by_cases h502 : a1 = 1
  · refine X.tsIn 51 1 i156_1 rfl (by omega) rfl rfl ?_
    refine X.cut [(0, zr 4 40)] i156_51 rfl ?_
    refine X.aload_n 52 i156_51 rfl rfl rfl ?_
    refine X.getF 55 i156_52 rfl rfl (by decide) rfl rfl ?_
    refine X.getR 58 i156_55 rfl rfl (by decide) rfl rfl ?_
    refine X.getL 61 4 i156_58 rfl rfl (by decide) rfl rfl rfl ?_
    refine X.retl i156_61 rfl t156 ?_
    exact hQ (m 0 27 4) (by first | trivial | omega) 
  by_cases h503 : a1 = 2
  · refine X.tsIn 62 2 i156_1 rfl (by omega) rfl rfl ?_
    refine X.cut [(0, zr 4 40)] i156_62 rfl ?_
    refine X.aload_n 63 i156_62 rfl rfl rfl ?_
    refine X.getF 66 i156_63 rfl rfl (by decide) rfl rfl ?_
    refine X.getR 69 i156_66 rfl rfl (by decide) rfl rfl ?_
    refine X.getL 72 5 i156_69 rfl rfl (by decide) rfl rfl rfl ?_
    refine X.retl i156_72 rfl t156 ?_
    exact hQ (m 0 27 5) (by first | trivial | omega) 
  by_cases h504 : a1 = 3
  · refine X.tsIn 73 3 i156_1 rfl (by omega) rfl rfl ?_
    refine X.cut [(0, zr 4 40)] i156_73 rfl ?_
    refine X.aload_n 74 i156_73 rfl rfl rfl ?_
    refine X.getF 77 i156_74 rfl rfl (by decide) rfl rfl ?_
    refine X.getR 80 i156_77 rfl rfl (by decide) rfl rfl ?_
    refine X.getIr 83 6 i156_80 rfl rfl (by decide) rfl rfl rfl (fun h505 => ?_)
    refine X.i2l 84 i156_83 rfl rfl ?_
    refine X.retl i156_84 rfl t156 ?_
    exact hQ (m 0 27 6) (by first | trivial | omega) 
  by_cases h506 : a1 = 4
  · refine X.tsIn 85 4 i156_1 rfl (by omega) rfl rfl ?_
    refine X.cut [(0, zr 4 40)] i156_85 rfl ?_
    refine X.aload_n 86 i156_85 rfl rfl rfl ?_
    refine X.getF 89 i156_86 rfl rfl (by decide) rfl rfl ?_
    refine X.getR 92 i156_89 rfl rfl (by decide) rfl rfl ?_
    refine X.getIr 95 7 i156_92 rfl rfl (by decide) rfl rfl rfl (fun h507 => ?_)
    refine X.i2l 96 i156_95 rfl rfl ?_
    refine X.retl i156_96 rfl t156 ?_
    exact hQ (m 0 27 7) (by first | trivial | omega) 
  by_cases h508 : a1 = 5
  · refine X.tsIn 97 5 i156_1 rfl (by omega) rfl rfl ?_
    refine X.cut [(0, zr 4 40)] i156_97 rfl ?_
    refine X.aload_n 98 i156_97 rfl rfl rfl ?_
    refine X.getF 101 i156_98 rfl rfl (by decide) rfl rfl ?_
    refine X.getR 104 i156_101 rfl rfl (by decide) rfl rfl ?_
    refine X.aload_n 105 i156_104 rfl rfl rfl ?_
    refine X.getF 108 i156_105 rfl rfl (by decide) rfl rfl ?_
    refine X.getR 111 i156_108 rfl rfl (by decide) rfl rfl ?_
    refine X.callv 114 [] [zr 0 27] [(0, zr 0 9)] i156_111 rfl (by decide) rfl rfl (by omega) rfl rfl (by decide) rfl t36 (Nat.le_of_ble_eq_true rfl) (Nat.le_of_ble_eq_true rfl) rfl ?_
    refine X.iconst 1 i36_0 rfl rfl (by decide) ?_
    refine X.aload_n 2 i36_1 rfl rfl rfl ?_
    refine X.getR 5 i36_2 rfl rfl (by decide) rfl rfl ?_
    refine X.iconst 6 i36_5 rfl rfl (by decide) ?_
    refine X.iald 7 i36_6 rfl rfl (by decide) rfl (by omega) ?_
    have h509 := r10_0 hJ 0 (i := 4) (by omega)
    refine X.maxI 10 i36_7 rfl rfl (by omega) (Nat.le_of_ble_eq_true rfl) ?_
    refine X.reti i36_10 rfl t36 ?_
    show X (EE s) d 156 114 [(0, zr 4 40)] [zi (max 1 (m 0 10 4)), zr 0 27] m _
    refine X.callv 117 [zi (max 1 (m 0 10 4))] [] [(0, zr 0 27), (1, zi (max 1 (m 0 10 4)))] i156_114 rfl (by decide) rfl rfl (by omega) rfl rfl (by decide) rfl t61 (Nat.le_of_ble_eq_true rfl) (Nat.le_of_ble_eq_true rfl) rfl ?_
    refine X.aload_n 1 i61_0 rfl rfl rfl ?_
    refine X.getIr 4 8 i61_1 rfl rfl (by decide) rfl rfl rfl (fun h510 => ?_)
    refine X.istore_n 5 [(0, zr 0 27), (1, zi (max 1 (m 0 10 4))), (2, zi (m 0 27 8))] i61_4 rfl rfl rfl ?_
    refine X.aload_n 6 i61_5 rfl rfl rfl ?_
    refine X.getIr 9 7 i61_6 rfl rfl (by decide) rfl rfl rfl (fun h511 => ?_)
    refine X.ifle 17 12 i61_9 rfl rfl rfl (fun h512 => ?_) (fun h512 => ?_)
    · refine X.aload_n 18 i61_17 rfl rfl rfl ?_
      refine X.getI 21 9 i61_18 rfl rfl (by decide) rfl rfl rfl ?_
      have h513 := r27_9 hJ 0
      refine X.iload_n 22 i61_21 rfl rfl rfl ?_
      refine X.irem 23 i61_22 rfl rfl (by omega) ?_
      have hz514 := z_modb (x := (m 0 27 9)) (y := (max 1 (m 0 10 4))) (by omega) (by omega)
      obtain ⟨z514, ez514⟩ : ∃ z, z = ((m 0 27 9) % (max 1 (m 0 10 4))) := ⟨_, rfl⟩
      rw [← ez514] at hz514 ⊢
      clear ez514
      refine X.ifeq 34 26 i61_23 rfl rfl rfl (fun h515 => ?_) (fun h515 => ?_)
      · refine X.cut [(2, zi (m 0 27 8))] i61_34 rfl ?_
        refine X.iload_n 35 i61_34 rfl rfl rfl ?_
        refine X.cut [] i61_35 rfl ?_
        refine X.reti i61_35 rfl t61 ?_
        show X (EE s) d 156 117 [(0, zr 4 40)] [zi (m 0 27 8)] m _
        refine X.i2l 118 i156_117 rfl rfl ?_
        refine X.retl i156_118 rfl t156 ?_
        exact hQ (m 0 27 8) (by first | trivial | omega) 
      · refine X.iload_n 27 i61_26 rfl rfl rfl ?_
        refine X.sipush 30 i61_27 rfl rfl (by decide) ?_
        refine X.iiF 31 .ior (fun x y => x ||| y) i61_30 rfl rfl rfl (fun _ _ => rfl) (fun z516 hz516 => ?_)
        refine X.goto 35 i61_31 rfl rfl ?_
        refine X.cut [] i61_35 rfl ?_
        refine X.reti i61_35 rfl t61 ?_
        show X (EE s) d 156 117 [(0, zr 4 40)] [zi z516] m _
        refine X.i2l 118 i156_117 rfl rfl ?_
        refine X.retl i156_118 rfl t156 ?_
        exact hQ z516 (by first | trivial | omega) 
    · refine X.iload_n 13 i61_12 rfl rfl rfl ?_
      refine X.bipush 15 i61_13 rfl rfl (by decide) ?_
      refine X.iiF 16 .ior (fun x y => x ||| y) i61_15 rfl rfl rfl (fun _ _ => rfl) (fun z517 hz517 => ?_)
      refine X.istore_n 17 [(0, zr 0 27), (1, zi (max 1 (m 0 10 4))), (2, zi z517)] i61_16 rfl rfl rfl ?_
      refine X.aload_n 18 i61_17 rfl rfl rfl ?_
      refine X.getI 21 9 i61_18 rfl rfl (by decide) rfl rfl rfl ?_
      have h518 := r27_9 hJ 0
      refine X.iload_n 22 i61_21 rfl rfl rfl ?_
      refine X.irem 23 i61_22 rfl rfl (by omega) ?_
      have hz519 := z_modb (x := (m 0 27 9)) (y := (max 1 (m 0 10 4))) (by omega) (by omega)
      obtain ⟨z519, ez519⟩ : ∃ z, z = ((m 0 27 9) % (max 1 (m 0 10 4))) := ⟨_, rfl⟩
      rw [← ez519] at hz519 ⊢
      clear ez519
      refine X.ifeq 34 26 i61_23 rfl rfl rfl (fun h520 => ?_) (fun h520 => ?_)
      · refine X.cut [(2, zi z517)] i61_34 rfl ?_
        refine X.iload_n 35 i61_34 rfl rfl rfl ?_
        refine X.cut [] i61_35 rfl ?_
        refine X.reti i61_35 rfl t61 ?_
        show X (EE s) d 156 117 [(0, zr 4 40)] [zi z517] m _
        refine X.i2l 118 i156_117 rfl rfl ?_
        refine X.retl i156_118 rfl t156 ?_
        exact hQ z517 (by first | trivial | omega) 
      · refine X.iload_n 27 i61_26 rfl rfl rfl ?_
        refine X.sipush 30 i61_27 rfl rfl (by decide) ?_
        refine X.iiF 31 .ior (fun x y => x ||| y) i61_30 rfl rfl rfl (fun _ _ => rfl) (fun z521 hz521 => ?_)
        refine X.goto 35 i61_31 rfl rfl ?_
        refine X.cut [] i61_35 rfl ?_
        refine X.reti i61_35 rfl t61 ?_
        show X (EE s) d 156 117 [(0, zr 4 40)] [zi z521] m _
        refine X.i2l 118 i156_117 rfl rfl ?_
        refine X.retl i156_118 rfl t156 ?_
        exact hQ z521 (by first | trivial | omega) 
  refine X.tsOut 119 i156_1 rfl (by omega) rfl ?_
  refine X.cut [] i156_119 rfl ?_
  refine X.ldc2 122 i156_119 rfl rfl (by decide) ?_
  refine X.retl i156_122 rfl t156 ?_
  exact hQ (-1) (by first | trivial | omega) 
-- WorkMeterModel.block
theorem c299_1 {s : Nat × (Nat → Int32)} {S : zS} {m0 m : zM} {B : Int} {d : Nat} {Q : Option zV → zM → Prop} (a1 : Int) (hd : 13 ≤ d) (hJ : J S m0 B m) (hB : B + 0 ≤ 1000000000) (ha1 : (-2147483648) ≤ a1 ∧ a1 ≤ 2147483647) (hQ : ∀ (v : Int), (True) → Q (some (zl v)) m) : X (EE s) d 299 0 [(0, zr 4 44), (1, zi a1)] [] m Q := by
  refine X.iload_n 1 i299_0 rfl rfl rfl ?_
  by_cases h501 : a1 = 0
  · refine X.tsIn 40 0 i299_1 rfl (by omega) rfl rfl ?_
    refine X.cut [(0, zr 4 44)] i299_40 rfl ?_
    refine X.aload_n 41 i299_40 rfl rfl rfl ?_
    refine X.getF 44 i299_41 rfl rfl (by decide) rfl rfl ?_
    refine X.bipush 46 i299_44 rfl rfl (by decide) ?_
    refine X.lald 47 i299_46 rfl rfl (by decide) rfl (by omega) ?_
    refine X.retl i299_47 rfl t299 ?_
    exact hQ (m 4 45 22) (by first | trivial | omega) 
  by_cases h502 : a1 = 1
  · refine X.tsIn 48 1 i299_1 rfl (by omega) rfl rfl ?_
    refine X.cut [(0, zr 4 44)] i299_48 rfl ?_
    refine X.aload_n 49 i299_48 rfl rfl rfl ?_
    refine X.getF 52 i299_49 rfl rfl (by decide) rfl rfl ?_
    refine X.bipush 54 i299_52 rfl rfl (by decide) ?_
    refine X.lald 55 i299_54 rfl rfl (by decide) rfl (by omega) ?_
    refine X.retl i299_55 rfl t299 ?_
    exact hQ (m 4 45 23) (by first | trivial | omega) 
  by_cases h503 : a1 = 2
  · refine X.tsIn 56 2 i299_1 rfl (by omega) rfl rfl ?_
    refine X.cut [(0, zr 4 44)] i299_56 rfl ?_
    refine X.aload_n 57 i299_56 rfl rfl rfl ?_
    refine X.getF 60 i299_57 rfl rfl (by decide) rfl rfl ?_
    refine X.bipush 62 i299_60 rfl rfl (by decide) ?_
    refine X.lald 63 i299_62 rfl rfl (by decide) rfl (by omega) ?_
    refine X.retl i299_63 rfl t299 ?_
    exact hQ (m 4 45 24) (by first | trivial | omega) 
  by_cases h504 : a1 = 3
  · refine X.tsIn 64 3 i299_1 rfl (by omega) rfl rfl ?_
    refine X.cut [(0, zr 4 44)] i299_64 rfl ?_
    refine X.aload_n 65 i299_64 rfl rfl rfl ?_
    refine X.getF 68 i299_65 rfl rfl (by decide) rfl rfl ?_
    refine X.bipush 70 i299_68 rfl rfl (by decide) ?_
    refine X.lald 71 i299_70 rfl rfl (by decide) rfl (by omega) ?_
    refine X.retl i299_71 rfl t299 ?_
    exact hQ (m 4 45 25) (by first | trivial | omega) 
  by_cases h505 : a1 = 4
  · refine X.tsIn 72 4 i299_1 rfl (by omega) rfl rfl ?_
    refine X.cut [(0, zr 4 44)] i299_72 rfl ?_
    refine X.aload_n 73 i299_72 rfl rfl rfl ?_
    refine X.getF 76 i299_73 rfl rfl (by decide) rfl rfl ?_
    refine X.bipush 78 i299_76 rfl rfl (by decide) ?_
    refine X.lald 79 i299_78 rfl rfl (by decide) rfl (by omega) ?_
    refine X.retl i299_79 rfl t299 ?_
    exact hQ (m 4 45 26) (by first | trivial | omega) 
  by_cases h506 : a1 = 5
  · refine X.tsIn 80 5 i299_1 rfl (by omega) rfl rfl ?_
    refine X.cut [(0, zr 4 44)] i299_80 rfl ?_
    refine X.aload_n 81 i299_80 rfl rfl rfl ?_
    refine X.getF 84 i299_81 rfl rfl (by decide) rfl rfl ?_
    refine X.bipush 86 i299_84 rfl rfl (by decide) ?_
    refine X.lald 87 i299_86 rfl rfl (by decide) rfl (by omega) ?_
    refine X.aload_n 88 i299_87 rfl rfl rfl ?_
    refine X.getF 91 i299_88 rfl rfl (by decide) rfl rfl ?_
    refine X.bipush 93 i299_91 rfl rfl (by decide) ?_
    refine X.lald 94 i299_93 rfl rfl (by decide) rfl (by omega) ?_
    refine X.lconst (y := 0) 95 i299_94 rfl rfl rfl ?_
    refine X.lcmp 96 i299_95 rfl rfl (fun z507 hz507 => ?_)
    refine X.ifle 104 99 i299_96 rfl rfl rfl (fun h508 => ?_) (fun h508 => ?_)
    · have h508c : (m 4 45 26) ≤ 0 := by omega
      clear h508 hz507
      refine X.iconst 105 i299_104 rfl rfl (by decide) ?_
      refine X.i2l 106 i299_105 rfl rfl ?_
      refine X.llF 107 .lor (fun x y => x ||| y) i299_106 rfl rfl rfl (fun _ _ => rfl) (fun z509 hz509 => ?_)
      refine X.aload_n 108 i299_107 rfl rfl rfl ?_
      refine X.getF 111 i299_108 rfl rfl (by decide) rfl rfl ?_
      refine X.bipush 113 i299_111 rfl rfl (by decide) ?_
      refine X.lald 114 i299_113 rfl rfl (by decide) rfl (by omega) ?_
      refine X.lconst (y := 1) 115 i299_114 rfl rfl rfl ?_
      refine X.lcmp 116 i299_115 rfl rfl (fun z510 hz510 => ?_)
      refine X.ifne 125 119 i299_116 rfl rfl rfl (fun h511 => ?_) (fun h511 => ?_)
      · have h511c : (m 4 45 21) ≠ 1 := by omega
        clear h511 hz510
        refine X.cut [] i299_125 rfl ?_
        refine X.iconst 126 i299_125 rfl rfl (by decide) ?_
        refine X.i2l 127 i299_126 rfl rfl ?_
        refine X.llF 128 .lor (fun x y => x ||| y) i299_127 rfl rfl rfl (fun _ _ => rfl) (fun z512 hz512 => ?_)
        refine X.retl i299_128 rfl t299 ?_
        exact hQ z512 (by first | trivial | omega) 
      · have h511c : (m 4 45 21) = 1 := by omega
        clear h511 hz510
        refine X.sipush 122 i299_119 rfl rfl (by decide) ?_
        refine X.goto 126 i299_122 rfl rfl ?_
        refine X.cut [] i299_126 rfl ?_
        refine X.i2l 127 i299_126 rfl rfl ?_
        refine X.llF 128 .lor (fun x y => x ||| y) i299_127 rfl rfl rfl (fun _ _ => rfl) (fun z513 hz513 => ?_)
        refine X.retl i299_128 rfl t299 ?_
        exact hQ z513 (by first | trivial | omega) 
    · have h508c : (m 4 45 26) > 0 := by omega
      clear h508 hz507
      refine X.bipush 101 i299_99 rfl rfl (by decide) ?_
      refine X.goto 105 i299_101 rfl rfl ?_
      refine X.i2l 106 i299_105 rfl rfl ?_
      refine X.llF 107 .lor (fun x y => x ||| y) i299_106 rfl rfl rfl (fun _ _ => rfl) (fun z514 hz514 => ?_)
      refine X.aload_n 108 i299_107 rfl rfl rfl ?_
      refine X.getF 111 i299_108 rfl rfl (by decide) rfl rfl ?_
      refine X.bipush 113 i299_111 rfl rfl (by decide) ?_
      refine X.lald 114 i299_113 rfl rfl (by decide) rfl (by omega) ?_
      refine X.lconst (y := 1) 115 i299_114 rfl rfl rfl ?_
      refine X.lcmp 116 i299_115 rfl rfl (fun z515 hz515 => ?_)
      refine X.ifne 125 119 i299_116 rfl rfl rfl (fun h516 => ?_) (fun h516 => ?_)
      · have h516c : (m 4 45 21) ≠ 1 := by omega
        clear h516 hz515
        refine X.cut [] i299_125 rfl ?_
        refine X.iconst 126 i299_125 rfl rfl (by decide) ?_
        refine X.i2l 127 i299_126 rfl rfl ?_
        refine X.llF 128 .lor (fun x y => x ||| y) i299_127 rfl rfl rfl (fun _ _ => rfl) (fun z517 hz517 => ?_)
        refine X.retl i299_128 rfl t299 ?_
        exact hQ z517 (by first | trivial | omega) 
      · have h516c : (m 4 45 21) = 1 := by omega
        clear h516 hz515
        refine X.sipush 122 i299_119 rfl rfl (by decide) ?_
        refine X.goto 126 i299_122 rfl rfl ?_
        refine X.cut [] i299_126 rfl ?_
        refine X.i2l 127 i299_126 rfl rfl ?_
        refine X.llF 128 .lor (fun x y => x ||| y) i299_127 rfl rfl rfl (fun _ _ => rfl) (fun z518 hz518 => ?_)
        refine X.retl i299_128 rfl t299 ?_
        exact hQ z518 (by first | trivial | omega) 
  refine X.tsOut 129 i299_1 rfl (by omega) rfl ?_
  refine X.cut [] i299_129 rfl ?_
  refine X.ldc2 132 i299_129 rfl rfl (by decide) ?_
  refine X.retl i299_132 rfl t299 ?_
  exact hQ (-1) (by first | trivial | omega) 
-- WorkMeter.demand
theorem c157_1 {s : Nat × (Nat → Int32)} {S : zS} {m0 m : zM} {B : Int} {d : Nat} {Q : Option zV → zM → Prop} (a1 : Int) (hd : 13 ≤ d) (hJ : J S m0 B m) (hB : B + 0 ≤ 1000000000) (ha1 : (-2147483648) ≤ a1 ∧ a1 ≤ 2147483647) (hQ : ∀ (v : Int), (True) → Q (some (zl v)) m) : X (EE s) d 157 0 [(0, zr 4 40), (1, zi a1)] [] m Q := by
  refine X.iload_n 1 i157_0 rfl rfl rfl ?_
  refine X.ifne 15 4 i157_1 rfl rfl rfl (fun h501 => ?_) (fun h501 => ?_)
  · refine X.iload_n 16 i157_15 rfl rfl rfl ?_
    refine X.iconst 17 i157_16 rfl rfl (by decide) ?_
    refine X.icmpne 34 20 i157_17 rfl rfl rfl (fun h502 => ?_) (fun h502 => ?_)
    · refine X.cut [] i157_34 rfl ?_
      refine X.ldc2 37 i157_34 rfl rfl (by decide) ?_
      refine X.retl i157_37 rfl t157 ?_
      exact hQ (-1) (by first | trivial | omega) 
    · refine X.aload_n 21 i157_20 rfl rfl rfl ?_
      refine X.getF 24 i157_21 rfl rfl (by decide) rfl rfl ?_
      refine X.getR 27 i157_24 rfl rfl (by decide) rfl rfl ?_
      refine X.getIr 30 3 i157_27 rfl rfl (by decide) rfl rfl rfl (fun h503 => ?_)
      refine X.i2l 31 i157_30 rfl rfl ?_
      refine X.goto 37 i157_31 rfl rfl ?_
      refine X.cut [] i157_37 rfl ?_
      refine X.retl i157_37 rfl t157 ?_
      exact hQ (m 0 30 3) (by first | trivial | omega) 
  · refine X.aload_n 5 i157_4 rfl rfl rfl ?_
    refine X.getF 8 i157_5 rfl rfl (by decide) rfl rfl ?_
    refine X.getR 11 i157_8 rfl rfl (by decide) rfl rfl ?_
    refine X.getL 14 2 i157_11 rfl rfl (by decide) rfl rfl rfl ?_
    refine X.retl i157_14 rfl t157 ?_
    exact hQ (m 0 30 2) (by first | trivial | omega) 
-- WorkMeterModel.demand
theorem c300_1 {s : Nat × (Nat → Int32)} {S : zS} {m0 m : zM} {B : Int} {d : Nat} {Q : Option zV → zM → Prop} (a1 : Int) (hd : 13 ≤ d) (hJ : J S m0 B m) (hB : B + 0 ≤ 1000000000) (ha1 : (-2147483648) ≤ a1 ∧ a1 ≤ 2147483647) (hQ : ∀ (v : Int), (True) → Q (some (zl v)) m) : X (EE s) d 300 0 [(0, zr 4 44), (1, zi a1)] [] m Q := by
  refine X.iload_n 1 i300_0 rfl rfl rfl ?_
  refine X.ifne 14 4 i300_1 rfl rfl rfl (fun h501 => ?_) (fun h501 => ?_)
  · refine X.iload_n 15 i300_14 rfl rfl rfl ?_
    refine X.iconst 16 i300_15 rfl rfl (by decide) ?_
    refine X.icmpne 29 19 i300_16 rfl rfl rfl (fun h502 => ?_) (fun h502 => ?_)
    · refine X.cut [] i300_29 rfl ?_
      refine X.ldc2 32 i300_29 rfl rfl (by decide) ?_
      refine X.retl i300_32 rfl t300 ?_
      exact hQ (-1) (by first | trivial | omega) 
    · refine X.aload_n 20 i300_19 rfl rfl rfl ?_
      refine X.getF 23 i300_20 rfl rfl (by decide) rfl rfl ?_
      refine X.bipush 25 i300_23 rfl rfl (by decide) ?_
      refine X.lald 26 i300_25 rfl rfl (by decide) rfl (by omega) ?_
      refine X.goto 32 i300_26 rfl rfl ?_
      refine X.cut [] i300_32 rfl ?_
      refine X.retl i300_32 rfl t300 ?_
      exact hQ (m 4 45 20) (by first | trivial | omega) 
  · refine X.aload_n 5 i300_4 rfl rfl rfl ?_
    refine X.getF 8 i300_5 rfl rfl (by decide) rfl rfl ?_
    refine X.bipush 10 i300_8 rfl rfl (by decide) ?_
    refine X.lald 11 i300_10 rfl rfl (by decide) rfl (by omega) ?_
    refine X.goto 32 i300_11 rfl rfl ?_
    refine X.cut [] i300_32 rfl ?_
    refine X.retl i300_32 rfl t300 ?_
    exact hQ (m 4 45 19) (by first | trivial | omega) 
-- WorkMeter.greatest
theorem c158_1 {s : Nat × (Nat → Int32)} {S : zS} {m0 m : zM} {B : Int} {d : Nat} {Q : Option zV → zM → Prop} (a1 a2 : Int) (hd : 13 ≤ d) (hJ : J S m0 B m) (hB : B + 0 ≤ 1000000000) (ha1 : (-2147483648) ≤ a1 ∧ a1 ≤ 2147483647) (ha2 : (-2147483648) ≤ a2 ∧ a2 ≤ 2147483647) (hQ : ∀ (v : Int), (True) → Q (some (zl v)) m) : X (EE s) d 158 0 [(0, zr 4 40), (1, zi a1), (2, zi a2)] [] m Q := by
  refine X.iload_n 1 i158_0 rfl rfl rfl ?_
  refine X.calls 4 [zi a1] [] [(0, zi a1)] i158_1 (by decide) rfl rfl (by omega) rfl rfl t80 (Nat.le_of_ble_eq_true rfl) (Nat.le_of_ble_eq_true rfl) rfl ?_
  refine X.iload_n 1 i80_0 rfl rfl rfl ?_
  refine X.iflt 13 4 i80_1 rfl rfl rfl (fun h501 => ?_) (fun h501 => ?_)
  · refine X.cut [] i80_13 rfl ?_
    refine X.iconst 14 i80_13 rfl rfl (by decide) ?_
    refine X.retz i80_14 rfl t80 (by omega) ?_
    show X (EE s) d 158 4 [(0, zr 4 40), (1, zi a1), (2, zi a2)] [zi 0] m _
    refine X.ifne 11 7 i158_4 rfl rfl rfl (fun h502 => (by exfalso; omega)) (fun h502 => ?_)
    refine X.ldc2 10 i158_7 rfl rfl (by decide) ?_
    refine X.retl i158_10 rfl t158 ?_
    exact hQ (-1) (by first | trivial | omega) 
  · refine X.iload_n 5 i80_4 rfl rfl rfl ?_
    refine X.iconst 6 i80_5 rfl rfl (by decide) ?_
    refine X.icmpge 13 9 i80_6 rfl rfl rfl (fun h503 => ?_) (fun h503 => ?_)
    · refine X.cut [] i80_13 rfl ?_
      refine X.iconst 14 i80_13 rfl rfl (by decide) ?_
      refine X.retz i80_14 rfl t80 (by omega) ?_
      show X (EE s) d 158 4 [(0, zr 4 40), (1, zi a1), (2, zi a2)] [zi 0] m _
      refine X.ifne 11 7 i158_4 rfl rfl rfl (fun h504 => (by exfalso; omega)) (fun h504 => ?_)
      refine X.ldc2 10 i158_7 rfl rfl (by decide) ?_
      refine X.retl i158_10 rfl t158 ?_
      exact hQ (-1) (by first | trivial | omega) 
    · refine X.iconst 10 i80_9 rfl rfl (by decide) ?_
      refine X.goto 14 i80_10 rfl rfl ?_
      refine X.cut [] i80_14 rfl ?_
      refine X.retz i80_14 rfl t80 (by omega) ?_
      show X (EE s) d 158 4 [(0, zr 4 40), (1, zi a1), (2, zi a2)] [zi 1] m _
      refine X.ifne 11 7 i158_4 rfl rfl rfl (fun h505 => ?_) (fun h505 => (by exfalso; omega))
      refine X.iload_n 12 i158_11 rfl rfl rfl ?_
      refine X.ifne 28 15 i158_12 rfl rfl rfl (fun h506 => ?_) (fun h506 => ?_)
      · refine X.iload_n 29 i158_28 rfl rfl rfl ?_
        refine X.iconst 30 i158_29 rfl rfl (by decide) ?_
        refine X.icmpne 49 33 i158_30 rfl rfl rfl (fun h507 => ?_) (fun h507 => ?_)
        · refine X.cut [] i158_49 rfl ?_
          refine X.ldc2 52 i158_49 rfl rfl (by decide) ?_
          refine X.retl i158_52 rfl t158 ?_
          exact hQ (-1) (by first | trivial | omega) 
        · refine X.aload_n 34 i158_33 rfl rfl rfl ?_
          refine X.getF 37 i158_34 rfl rfl (by decide) rfl rfl ?_
          refine X.getR 40 i158_37 rfl rfl (by decide) rfl rfl ?_
          refine X.getR 43 i158_40 rfl rfl (by decide) rfl rfl ?_
          refine X.iload_n 44 i158_43 rfl rfl rfl ?_
          refine X.ialdr 45 i158_44 rfl rfl (by decide) rfl (by omega) (fun h508 => ?_)
          refine X.i2l 46 i158_45 rfl rfl ?_
          refine X.goto 52 i158_46 rfl rfl ?_
          refine X.cut [] i158_52 rfl ?_
          refine X.retl i158_52 rfl t158 ?_
          exact hQ (m 0 32 a1) (by first | trivial | omega) 
      · refine X.aload_n 16 i158_15 rfl rfl rfl ?_
        refine X.getF 19 i158_16 rfl rfl (by decide) rfl rfl ?_
        refine X.getR 22 i158_19 rfl rfl (by decide) rfl rfl ?_
        refine X.getR 25 i158_22 rfl rfl (by decide) rfl rfl ?_
        refine X.iload_n 26 i158_25 rfl rfl rfl ?_
        refine X.lald 27 i158_26 rfl rfl (by decide) rfl (by omega) ?_
        refine X.retl i158_27 rfl t158 ?_
        exact hQ (m 0 31 a1) (by first | trivial | omega) 
-- WorkMeterModel.greatest
theorem c301_1 {s : Nat × (Nat → Int32)} {S : zS} {m0 m : zM} {B : Int} {d : Nat} {Q : Option zV → zM → Prop} (a1 a2 : Int) (hd : 13 ≤ d) (hJ : J S m0 B m) (hB : B + 0 ≤ 1000000000) (ha1 : (-2147483648) ≤ a1 ∧ a1 ≤ 2147483647) (ha2 : (-2147483648) ≤ a2 ∧ a2 ≤ 2147483647) (hQ : ∀ (v : Int), (True) → Q (some (zl v)) m) : X (EE s) d 301 0 [(0, zr 4 44), (1, zi a1), (2, zi a2)] [] m Q := by
  refine X.iload_n 1 i301_0 rfl rfl rfl ?_
  refine X.calls 4 [zi a1] [] [(0, zi a1)] i301_1 (by decide) rfl rfl (by omega) rfl rfl t242 (Nat.le_of_ble_eq_true rfl) (Nat.le_of_ble_eq_true rfl) rfl ?_
  refine X.iload_n 1 i242_0 rfl rfl rfl ?_
  refine X.i2l 2 i242_1 rfl rfl ?_
  refine X.lconst (y := 0) 3 i242_2 rfl rfl rfl ?_
  refine X.ldc2 6 i242_3 rfl rfl (by decide) ?_
  refine X.calls 9 [zl a1, zl 0, zl 3] [] [(0, zl a1), (2, zl 0), (4, zl 3)] i242_6 (by decide) rfl rfl (by omega) rfl rfl t204 (Nat.le_of_ble_eq_true rfl) (Nat.le_of_ble_eq_true rfl) rfl ?_
  refine X.lload_n 1 i204_0 rfl rfl rfl ?_
  refine X.lload_n 2 i204_1 rfl rfl rfl ?_
  refine X.lcmp 3 i204_2 rfl rfl (fun z501 hz501 => ?_)
  refine X.iflt 17 6 i204_3 rfl rfl rfl (fun h502 => ?_) (fun h502 => ?_)
  · have h502c : a1 < 0 := by omega
    clear h502 hz501
    refine X.cut [] i204_17 rfl ?_
    refine X.iconst 18 i204_17 rfl rfl (by decide) ?_
    refine X.retz i204_18 rfl t204 (by omega) ?_
    show X (EE s) (d - 1) 242 9 [(0, zi a1)] [zi 0] m _
    refine X.retz i242_9 rfl t242 (by omega) ?_
    show X (EE s) d 301 4 [(0, zr 4 44), (1, zi a1), (2, zi a2)] [zi 0] m _
    refine X.ifne 11 7 i301_4 rfl rfl rfl (fun h503 => (by exfalso; omega)) (fun h503 => ?_)
    refine X.ldc2 10 i301_7 rfl rfl (by decide) ?_
    refine X.retl i301_10 rfl t301 ?_
    exact hQ (-1) (by first | trivial | omega) 
  · have h502c : a1 ≥ 0 := by omega
    clear h502 hz501
    refine X.lload_n 7 i204_6 rfl rfl rfl ?_
    refine X.lload 9 i204_7 rfl rfl rfl ?_
    refine X.lcmp 10 i204_9 rfl rfl (fun z504 hz504 => ?_)
    refine X.ifgt 17 13 i204_10 rfl rfl rfl (fun h505 => ?_) (fun h505 => ?_)
    · have h505c : a1 > 3 := by omega
      clear h505 hz504
      refine X.cut [] i204_17 rfl ?_
      refine X.iconst 18 i204_17 rfl rfl (by decide) ?_
      refine X.retz i204_18 rfl t204 (by omega) ?_
      show X (EE s) (d - 1) 242 9 [(0, zi a1)] [zi 0] m _
      refine X.retz i242_9 rfl t242 (by omega) ?_
      show X (EE s) d 301 4 [(0, zr 4 44), (1, zi a1), (2, zi a2)] [zi 0] m _
      refine X.ifne 11 7 i301_4 rfl rfl rfl (fun h506 => (by exfalso; omega)) (fun h506 => ?_)
      refine X.ldc2 10 i301_7 rfl rfl (by decide) ?_
      refine X.retl i301_10 rfl t301 ?_
      exact hQ (-1) (by first | trivial | omega) 
    · have h505c : a1 ≤ 3 := by omega
      clear h505 hz504
      refine X.iconst 14 i204_13 rfl rfl (by decide) ?_
      refine X.goto 18 i204_14 rfl rfl ?_
      refine X.cut [] i204_18 rfl ?_
      refine X.retz i204_18 rfl t204 (by omega) ?_
      show X (EE s) (d - 1) 242 9 [(0, zi a1)] [zi 1] m _
      refine X.retz i242_9 rfl t242 (by omega) ?_
      show X (EE s) d 301 4 [(0, zr 4 44), (1, zi a1), (2, zi a2)] [zi 1] m _
      refine X.ifne 11 7 i301_4 rfl rfl rfl (fun h507 => ?_) (fun h507 => (by exfalso; omega))
      refine X.iload_n 12 i301_11 rfl rfl rfl ?_
      refine X.ifne 27 15 i301_12 rfl rfl rfl (fun h508 => ?_) (fun h508 => ?_)
      · refine X.iload_n 28 i301_27 rfl rfl rfl ?_
        refine X.iconst 29 i301_28 rfl rfl (by decide) ?_
        refine X.icmpne 44 32 i301_29 rfl rfl rfl (fun h509 => ?_) (fun h509 => ?_)
        · refine X.cut [] i301_44 rfl ?_
          refine X.ldc2 47 i301_44 rfl rfl (by decide) ?_
          refine X.retl i301_47 rfl t301 ?_
          exact hQ (-1) (by first | trivial | omega) 
        · refine X.aload_n 33 i301_32 rfl rfl rfl ?_
          refine X.getF 36 i301_33 rfl rfl (by decide) rfl rfl ?_
          refine X.bipush 38 i301_36 rfl rfl (by decide) ?_
          refine X.iload_n 39 i301_38 rfl rfl rfl ?_
          refine X.iadd 40 i301_39 rfl rfl (by omega) ?_
          refine X.lald 41 i301_40 rfl rfl (by decide) rfl (by omega) ?_
          refine X.goto 47 i301_41 rfl rfl ?_
          refine X.cut [] i301_47 rfl ?_
          refine X.retl i301_47 rfl t301 ?_
          exact hQ (m 4 45 (36 + a1)) (by first | trivial | omega) 
      · refine X.aload_n 16 i301_15 rfl rfl rfl ?_
        refine X.getF 19 i301_16 rfl rfl (by decide) rfl rfl ?_
        refine X.bipush 21 i301_19 rfl rfl (by decide) ?_
        refine X.iload_n 22 i301_21 rfl rfl rfl ?_
        refine X.iadd 23 i301_22 rfl rfl (by omega) ?_
        refine X.lald 24 i301_23 rfl rfl (by decide) rfl (by omega) ?_
        refine X.goto 47 i301_24 rfl rfl ?_
        refine X.cut [] i301_47 rfl ?_
        refine X.retl i301_47 rfl t301 ?_
        exact hQ (m 4 45 (32 + a1)) (by first | trivial | omega) 
theorem l72_16_3 {s : Nat × (Nat → Int32)} {S : zS} {m0 m : zM} {B : Int} {d : Nat} {Q : Option zV → zM → Prop} (g0 : Nat) (y1 : Int) (hd : 13 ≤ d) (hJ : J S m0 B m) (hB9 : B ≤ 1000000000) (hy1 : 0 ≤ y1 ∧ y1 ≤ 189)
    (K37 : ∀ (x3 : Int) , (True) → X (EE s) d 72 37 [(3, zl x3)] [] m Q) :
    ∀ (n : Nat) (y3 y5 : Int) , (0 ≤ y5 ∧ y5 ≤ 4) → 4 - y5 < (n : Int) → X (EE s) d 72 16 [(0, zr g0 26), (1, zi y1), (3, zl y3), (5, zi y5)] [] m Q := by
  intro n
  induction n with
  | zero =>
    intro y3 y5 hy5 hn
    exfalso
    omega
  | succ n ih =>
    intro y3 y5 hy5 hn
    refine X.iload 18 i72_16 rfl rfl rfl ?_
    refine X.iconst 19 i72_18 rfl rfl (by decide) ?_
    refine X.icmpge 37 22 i72_19 rfl rfl rfl (fun h505 => ?_) (fun h505 => ?_)
    · refine X.cut [(3, zl y3)] i72_37 rfl ?_
      exact K37 y3 (by first | trivial | omega)
    · refine X.lload_n 23 i72_22 rfl rfl rfl ?_
      refine X.aload_n 24 i72_23 rfl rfl rfl ?_
      refine X.iload_n 25 i72_24 rfl rfl rfl ?_
      refine X.iload 27 i72_25 rfl rfl rfl ?_
      refine X.iadd 28 i72_27 rfl rfl (by omega) ?_
      refine X.lald 29 i72_28 rfl rfl (by decide) rfl (by omega) ?_
      refine X.llF 30 .ladd (fun x y => x + y) i72_29 rfl rfl rfl (fun _ _ => rfl) (fun z506 hz506 => ?_)
      refine X.lstore_n 31 [(0, zr g0 26), (1, zi y1), (3, zl z506), (5, zi y5)] i72_30 rfl rfl rfl ?_
      refine X.iinc 34 [(0, zr g0 26), (1, zi y1), (3, zl z506), (5, zi (y5 + 1))] i72_31 rfl rfl rfl (by omega) rfl ?_
      refine X.goto 16 i72_34 rfl rfl ?_
      exact ih z506 (y5 + 1) (by omega) (by omega)
-- WorkMeter$Registers.sumIn
theorem c72_4 {s : Nat × (Nat → Int32)} {S : zS} {m0 m : zM} {B : Int} {d : Nat} {Q : Option zV → zM → Prop} (g0 : Nat) (a1 a2 : Int) (hd : 13 ≤ d) (hJ : J S m0 B m) (hB : B + 0 ≤ 1000000000) (ha1 : 0 ≤ a1 ∧ a1 ≤ 189) (ha2 : (-1) ≤ a2 ∧ a2 ≤ (-1)) (hQ : ∀ (v : Int), (True) → Q (some (zl v)) m) : X (EE s) d 72 0 [(0, zr g0 26), (1, zi a1), (2, zi a2)] [] m Q := by
  refine X.iload_n 1 i72_0 rfl rfl rfl ?_
  refine X.iconst 2 i72_1 rfl rfl (by decide) ?_
  refine X.icmpeq 11 5 i72_2 rfl rfl rfl (fun h501 => ?_) (fun h501 => (by exfalso; omega))
  refine X.cut [(0, zr g0 26), (1, zi a1)] i72_11 rfl ?_
  refine X.lconst (y := 0) 12 i72_11 rfl rfl rfl ?_
  refine X.lstore_n 13 [(0, zr g0 26), (1, zi a1), (3, zl 0)] i72_12 rfl rfl rfl ?_
  refine X.iconst 14 i72_13 rfl rfl (by decide) ?_
  refine X.istore 16 [(0, zr g0 26), (1, zi a1), (3, zl 0), (5, zi 0)] i72_14 rfl rfl rfl ?_
  refine l72_16_3 (s := s) (S := S) (m0 := m0) (m := m) (B := B) (d := d) g0 a1 (by omega) (hJ.up (by omega)) (by omega) (by omega) (fun y502 hby502 => ?_) ((4 - 0 : Int).toNat + 1) 0 0 (by omega) (by omega)
  refine X.lload_n 38 i72_37 rfl rfl rfl ?_
  refine X.retl i72_38 rfl t72 ?_
  exact hQ y502 (by first | trivial | omega) 
-- WorkMeter$Registers.sumIn
theorem c72_5 {s : Nat × (Nat → Int32)} {S : zS} {m0 m : zM} {B : Int} {d : Nat} {Q : Option zV → zM → Prop} (g0 : Nat) (a1 a2 : Int) (hd : 13 ≤ d) (hJ : J S m0 B m) (hB : B + 0 ≤ 1000000000) (ha1 : 0 ≤ a1 ∧ a1 ≤ 189) (ha2 : 0 ≤ a2 ∧ a2 ≤ 3) (hQ : ∀ (v : Int), (True) → Q (some (zl v)) m) : X (EE s) d 72 0 [(0, zr g0 26), (1, zi a1), (2, zi a2)] [] m Q := by
  refine X.iload_n 1 i72_0 rfl rfl rfl ?_
  refine X.iconst 2 i72_1 rfl rfl (by decide) ?_
  refine X.icmpeq 11 5 i72_2 rfl rfl rfl (fun h501 => (by exfalso; omega)) (fun h501 => ?_)
  refine X.aload_n 6 i72_5 rfl rfl rfl ?_
  refine X.iload_n 7 i72_6 rfl rfl rfl ?_
  refine X.iload_n 8 i72_7 rfl rfl rfl ?_
  refine X.iadd 9 i72_8 rfl rfl (by omega) ?_
  refine X.lald 10 i72_9 rfl rfl (by decide) rfl (by omega) ?_
  refine X.retl i72_10 rfl t72 ?_
  exact hQ (m g0 26 (a1 + a2)) (by first | trivial | omega) 
-- WorkMeter.billed
theorem c159_1 {s : Nat × (Nat → Int32)} {S : zS} {m0 m : zM} {B : Int} {d : Nat} {Q : Option zV → zM → Prop} (a1 a2 a3 : Int) (hd : 15 ≤ d) (hJ : J S m0 B m) (hB : B + 0 ≤ 1000000000) (ha1 : (-2147483648) ≤ a1 ∧ a1 ≤ 2147483647) (ha2 : (-2147483648) ≤ a2 ∧ a2 ≤ 2147483647) (ha3 : (-2147483648) ≤ a3 ∧ a3 ≤ 2147483647) (hQ : ∀ (v : Int), (True) → Q (some (zl v)) m) : X (EE s) d 159 0 [(0, zr 4 40), (1, zi a1), (2, zi a2), (3, zi a3)] [] m Q := by
  refine X.aload_n 1 i159_0 rfl rfl rfl ?_
  refine X.getF 4 i159_1 rfl rfl (by decide) rfl rfl ?_
  refine X.getR 7 i159_4 rfl rfl (by decide) rfl rfl ?_
  refine X.iload_n 8 i159_7 rfl rfl rfl ?_
  refine X.callv 11 [zi a1] [] [(0, zr 0 23), (1, zi a1)] i159_8 rfl (by decide) rfl rfl (by omega) rfl rfl (by decide) rfl t160 (Nat.le_of_ble_eq_true rfl) (Nat.le_of_ble_eq_true rfl) rfl ?_
  refine X.iload_n 1 i160_0 rfl rfl rfl ?_
  refine X.iflt 21 4 i160_1 rfl rfl rfl (fun h501 => ?_) (fun h501 => ?_)
  · refine X.cut [] i160_21 rfl ?_
    refine X.iconst 22 i160_21 rfl rfl (by decide) ?_
    refine X.retz i160_22 rfl t160 (by omega) ?_
    show X (EE s) d 159 11 [(0, zr 4 40), (1, zi a1), (2, zi a2), (3, zi a3)] [zi 0] m _
    refine X.ifeq 28 14 i159_11 rfl rfl rfl (fun h502 => ?_) (fun h502 => (by exfalso; omega))
    refine X.cut [] i159_28 rfl ?_
    refine X.ldc2 31 i159_28 rfl rfl (by decide) ?_
    refine X.retl i159_31 rfl t159 ?_
    exact hQ (-1) (by first | trivial | omega) 
  · refine X.iload_n 5 i160_4 rfl rfl rfl ?_
    refine X.aload_n 6 i160_5 rfl rfl rfl ?_
    refine X.getI 9 3 i160_6 rfl rfl (by decide) rfl rfl rfl ?_
    have h503 := r23_3 hJ 0
    refine X.bipush 11 i160_9 rfl rfl (by decide) ?_
    refine X.minI 14 i160_11 rfl rfl (by omega) (Nat.le_of_ble_eq_true rfl) ?_
    refine X.icmpge 21 17 i160_14 rfl rfl rfl (fun h504 => ?_) (fun h504 => ?_)
    · refine X.cut [] i160_21 rfl ?_
      refine X.iconst 22 i160_21 rfl rfl (by decide) ?_
      refine X.retz i160_22 rfl t160 (by omega) ?_
      show X (EE s) d 159 11 [(0, zr 4 40), (1, zi a1), (2, zi a2), (3, zi a3)] [zi 0] m _
      refine X.ifeq 28 14 i159_11 rfl rfl rfl (fun h505 => ?_) (fun h505 => (by exfalso; omega))
      refine X.cut [] i159_28 rfl ?_
      refine X.ldc2 31 i159_28 rfl rfl (by decide) ?_
      refine X.retl i159_31 rfl t159 ?_
      exact hQ (-1) (by first | trivial | omega) 
    · refine X.iconst 18 i160_17 rfl rfl (by decide) ?_
      refine X.goto 22 i160_18 rfl rfl ?_
      refine X.cut [] i160_22 rfl ?_
      refine X.retz i160_22 rfl t160 (by omega) ?_
      show X (EE s) d 159 11 [(0, zr 4 40), (1, zi a1), (2, zi a2), (3, zi a3)] [zi 1] m _
      refine X.ifeq 28 14 i159_11 rfl rfl rfl (fun h506 => (by exfalso; omega)) (fun h506 => ?_)
      refine X.iload_n 15 i159_14 rfl rfl rfl ?_
      refine X.calls 18 [zi a2] [] [(0, zi a2)] i159_15 (by decide) rfl rfl (by omega) rfl rfl t145 (Nat.le_of_ble_eq_true rfl) (Nat.le_of_ble_eq_true rfl) rfl ?_
      refine X.iload_n 1 i145_0 rfl rfl rfl ?_
      refine X.iflt 14 4 i145_1 rfl rfl rfl (fun h507 => ?_) (fun h507 => ?_)
      · refine X.cut [] i145_14 rfl ?_
        refine X.iconst 15 i145_14 rfl rfl (by decide) ?_
        refine X.retz i145_15 rfl t145 (by omega) ?_
        show X (EE s) d 159 18 [(0, zr 4 40), (1, zi a1), (2, zi a2), (3, zi a3)] [zi 0] m _
        refine X.ifeq 28 21 i159_18 rfl rfl rfl (fun h508 => ?_) (fun h508 => (by exfalso; omega))
        refine X.cut [] i159_28 rfl ?_
        refine X.ldc2 31 i159_28 rfl rfl (by decide) ?_
        refine X.retl i159_31 rfl t159 ?_
        exact hQ (-1) (by first | trivial | omega) 
      · refine X.iload_n 5 i145_4 rfl rfl rfl ?_
        refine X.bipush 7 i145_5 rfl rfl (by decide) ?_
        refine X.icmpge 14 10 i145_7 rfl rfl rfl (fun h509 => ?_) (fun h509 => ?_)
        · refine X.cut [] i145_14 rfl ?_
          refine X.iconst 15 i145_14 rfl rfl (by decide) ?_
          refine X.retz i145_15 rfl t145 (by omega) ?_
          show X (EE s) d 159 18 [(0, zr 4 40), (1, zi a1), (2, zi a2), (3, zi a3)] [zi 0] m _
          refine X.ifeq 28 21 i159_18 rfl rfl rfl (fun h510 => ?_) (fun h510 => (by exfalso; omega))
          refine X.cut [] i159_28 rfl ?_
          refine X.ldc2 31 i159_28 rfl rfl (by decide) ?_
          refine X.retl i159_31 rfl t159 ?_
          exact hQ (-1) (by first | trivial | omega) 
        · refine X.iconst 11 i145_10 rfl rfl (by decide) ?_
          refine X.goto 15 i145_11 rfl rfl ?_
          refine X.cut [] i145_15 rfl ?_
          refine X.retz i145_15 rfl t145 (by omega) ?_
          show X (EE s) d 159 18 [(0, zr 4 40), (1, zi a1), (2, zi a2), (3, zi a3)] [zi 1] m _
          refine X.ifeq 28 21 i159_18 rfl rfl rfl (fun h511 => (by exfalso; omega)) (fun h511 => ?_)
          refine X.iload_n 22 i159_21 rfl rfl rfl ?_
          refine X.calls 25 [zi a3] [] [(0, zi a3)] i159_22 (by decide) rfl rfl (by omega) rfl rfl t146 (Nat.le_of_ble_eq_true rfl) (Nat.le_of_ble_eq_true rfl) rfl ?_
          refine X.iload_n 1 i146_0 rfl rfl rfl ?_
          refine X.iconst 2 i146_1 rfl rfl (by decide) ?_
          refine X.icmpeq 12 5 i146_2 rfl rfl rfl (fun h512 => ?_) (fun h512 => ?_)
          · refine X.cut [] i146_12 rfl ?_
            refine X.iconst 13 i146_12 rfl rfl (by decide) ?_
            refine X.goto 17 i146_13 rfl rfl ?_
            refine X.retz i146_17 rfl t146 (by omega) ?_
            show X (EE s) d 159 25 [(0, zr 4 40), (1, zi a1), (2, zi a2), (3, zi a3)] [zi 1] m _
            refine X.ifne 32 28 i159_25 rfl rfl rfl (fun h513 => ?_) (fun h513 => (by exfalso; omega))
            refine X.aload_n 33 i159_32 rfl rfl rfl ?_
            refine X.getF 36 i159_33 rfl rfl (by decide) rfl rfl ?_
            refine X.getR 39 i159_36 rfl rfl (by decide) rfl rfl ?_
            refine X.iload_n 40 i159_39 rfl rfl rfl ?_
            refine X.iload_n 41 i159_40 rfl rfl rfl ?_
            refine X.iload_n 42 i159_41 rfl rfl rfl ?_
            refine X.callv 45 [zi a1, zi a2, zi a3] [] [(0, zr 0 23), (1, zi a1), (2, zi a2), (3, zi a3)] i159_42 rfl (by decide) rfl rfl (by omega) rfl rfl (by decide) rfl t161 (Nat.le_of_ble_eq_true rfl) (Nat.le_of_ble_eq_true rfl) rfl ?_
            refine X.aload_n 1 i161_0 rfl rfl rfl ?_
            refine X.getR 4 i161_1 rfl rfl (by decide) rfl rfl ?_
            refine X.aload_n 5 i161_4 rfl rfl rfl ?_
            refine X.iload_n 6 i161_5 rfl rfl rfl ?_
            refine X.callv 9 [zi a1] [zr 0 26] [(0, zr 0 23), (1, zi a1)] i161_6 rfl (by decide) rfl rfl (by omega) rfl rfl (by decide) rfl t162 (Nat.le_of_ble_eq_true rfl) (Nat.le_of_ble_eq_true rfl) rfl ?_
            refine X.aload_n 1 i162_0 rfl rfl rfl ?_
            refine X.getI 4 3 i162_1 rfl rfl (by decide) rfl rfl rfl ?_
            refine X.iconst 5 i162_4 rfl rfl (by decide) ?_
            refine X.isub 6 i162_5 rfl rfl (by omega) ?_
            refine X.iload_n 7 i162_6 rfl rfl rfl ?_
            refine X.isub 8 i162_7 rfl rfl (by omega) ?_
            refine X.bipush 10 i162_8 rfl rfl (by decide) ?_
            refine X.irem 11 i162_10 rfl rfl (by omega) ?_
            refine X.bipush 13 i162_11 rfl rfl (by decide) ?_
            refine X.imul 14 i162_13 rfl rfl (by omega) ?_
            refine X.reti i162_14 rfl t162 ?_
            show X (EE s) (d - 1) 161 9 [(0, zr 0 23), (1, zi a1), (2, zi a2), (3, zi a3)] [zi (((((m 0 23 3) - 1) - a1) % 6) * 33), zr 0 26] m _
            refine X.iload_n 10 i161_9 rfl rfl rfl ?_
            refine X.iconst 11 i161_10 rfl rfl (by decide) ?_
            refine X.imul 12 i161_11 rfl rfl (by omega) ?_
            refine X.iadd 13 i161_12 rfl rfl (by omega) ?_
            refine X.iload_n 14 i161_13 rfl rfl rfl ?_
            refine X.calls 17 [zr 0 26, zi ((((((m 0 23 3) - 1) - a1) % 6) * 33) + (a2 * 4)), zi a3] [] [(0, zr 0 26), (1, zi ((((((m 0 23 3) - 1) - a1) % 6) * 33) + (a2 * 4))), (2, zi a3)] i161_14 (by decide) rfl rfl (by omega) rfl rfl t72 (Nat.le_of_ble_eq_true rfl) (Nat.le_of_ble_eq_true rfl) rfl ?_
            refine c72_4 (B := B) 0 ((((((m 0 23 3) - 1) - a1) % 6) * 33) + (a2 * 4)) a3 (by omega) (hJ.up (by omega)) (by omega) (by omega) (by omega) (fun v516 hv516 => ?_)
            show X (EE s) (d - 1) 161 17 [(0, zr 0 23), (1, zi a1), (2, zi a2), (3, zi a3)] [zl v516] m _
            refine X.retl i161_17 rfl t161 ?_
            show X (EE s) d 159 45 [(0, zr 4 40), (1, zi a1), (2, zi a2), (3, zi a3)] [zl v516] m _
            refine X.retl i159_45 rfl t159 ?_
            exact hQ v516 (by first | trivial | omega) 
          · refine X.iload_n 6 i146_5 rfl rfl rfl ?_
            refine X.calls 9 [zi a3] [] [(0, zi a3)] i146_6 (by decide) rfl rfl (by omega) rfl rfl t80 (Nat.le_of_ble_eq_true rfl) (Nat.le_of_ble_eq_true rfl) rfl ?_
            refine X.iload_n 1 i80_0 rfl rfl rfl ?_
            refine X.iflt 13 4 i80_1 rfl rfl rfl (fun h517 => ?_) (fun h517 => ?_)
            · refine X.cut [] i80_13 rfl ?_
              refine X.iconst 14 i80_13 rfl rfl (by decide) ?_
              refine X.retz i80_14 rfl t80 (by omega) ?_
              show X (EE s) (d - 1) 146 9 [(0, zi a3)] [zi 0] m _
              refine X.ifeq 16 12 i146_9 rfl rfl rfl (fun h518 => ?_) (fun h518 => (by exfalso; omega))
              refine X.cut [] i146_16 rfl ?_
              refine X.iconst 17 i146_16 rfl rfl (by decide) ?_
              refine X.retz i146_17 rfl t146 (by omega) ?_
              show X (EE s) d 159 25 [(0, zr 4 40), (1, zi a1), (2, zi a2), (3, zi a3)] [zi 0] m _
              refine X.ifne 32 28 i159_25 rfl rfl rfl (fun h519 => (by exfalso; omega)) (fun h519 => ?_)
              refine X.cut [] i159_28 rfl ?_
              refine X.ldc2 31 i159_28 rfl rfl (by decide) ?_
              refine X.retl i159_31 rfl t159 ?_
              exact hQ (-1) (by first | trivial | omega) 
            · refine X.iload_n 5 i80_4 rfl rfl rfl ?_
              refine X.iconst 6 i80_5 rfl rfl (by decide) ?_
              refine X.icmpge 13 9 i80_6 rfl rfl rfl (fun h520 => ?_) (fun h520 => ?_)
              · refine X.cut [] i80_13 rfl ?_
                refine X.iconst 14 i80_13 rfl rfl (by decide) ?_
                refine X.retz i80_14 rfl t80 (by omega) ?_
                show X (EE s) (d - 1) 146 9 [(0, zi a3)] [zi 0] m _
                refine X.ifeq 16 12 i146_9 rfl rfl rfl (fun h521 => ?_) (fun h521 => (by exfalso; omega))
                refine X.cut [] i146_16 rfl ?_
                refine X.iconst 17 i146_16 rfl rfl (by decide) ?_
                refine X.retz i146_17 rfl t146 (by omega) ?_
                show X (EE s) d 159 25 [(0, zr 4 40), (1, zi a1), (2, zi a2), (3, zi a3)] [zi 0] m _
                refine X.ifne 32 28 i159_25 rfl rfl rfl (fun h522 => (by exfalso; omega)) (fun h522 => ?_)
                refine X.cut [] i159_28 rfl ?_
                refine X.ldc2 31 i159_28 rfl rfl (by decide) ?_
                refine X.retl i159_31 rfl t159 ?_
                exact hQ (-1) (by first | trivial | omega) 
              · refine X.iconst 10 i80_9 rfl rfl (by decide) ?_
                refine X.goto 14 i80_10 rfl rfl ?_
                refine X.cut [] i80_14 rfl ?_
                refine X.retz i80_14 rfl t80 (by omega) ?_
                show X (EE s) (d - 1) 146 9 [(0, zi a3)] [zi 1] m _
                refine X.ifeq 16 12 i146_9 rfl rfl rfl (fun h523 => (by exfalso; omega)) (fun h523 => ?_)
                refine X.cut [] i146_12 rfl ?_
                refine X.iconst 13 i146_12 rfl rfl (by decide) ?_
                refine X.goto 17 i146_13 rfl rfl ?_
                refine X.retz i146_17 rfl t146 (by omega) ?_
                show X (EE s) d 159 25 [(0, zr 4 40), (1, zi a1), (2, zi a2), (3, zi a3)] [zi 1] m _
                refine X.ifne 32 28 i159_25 rfl rfl rfl (fun h524 => ?_) (fun h524 => (by exfalso; omega))
                refine X.aload_n 33 i159_32 rfl rfl rfl ?_
                refine X.getF 36 i159_33 rfl rfl (by decide) rfl rfl ?_
                refine X.getR 39 i159_36 rfl rfl (by decide) rfl rfl ?_
                refine X.iload_n 40 i159_39 rfl rfl rfl ?_
                refine X.iload_n 41 i159_40 rfl rfl rfl ?_
                refine X.iload_n 42 i159_41 rfl rfl rfl ?_
                refine X.callv 45 [zi a1, zi a2, zi a3] [] [(0, zr 0 23), (1, zi a1), (2, zi a2), (3, zi a3)] i159_42 rfl (by decide) rfl rfl (by omega) rfl rfl (by decide) rfl t161 (Nat.le_of_ble_eq_true rfl) (Nat.le_of_ble_eq_true rfl) rfl ?_
                refine X.aload_n 1 i161_0 rfl rfl rfl ?_
                refine X.getR 4 i161_1 rfl rfl (by decide) rfl rfl ?_
                refine X.aload_n 5 i161_4 rfl rfl rfl ?_
                refine X.iload_n 6 i161_5 rfl rfl rfl ?_
                refine X.callv 9 [zi a1] [zr 0 26] [(0, zr 0 23), (1, zi a1)] i161_6 rfl (by decide) rfl rfl (by omega) rfl rfl (by decide) rfl t162 (Nat.le_of_ble_eq_true rfl) (Nat.le_of_ble_eq_true rfl) rfl ?_
                refine X.aload_n 1 i162_0 rfl rfl rfl ?_
                refine X.getI 4 3 i162_1 rfl rfl (by decide) rfl rfl rfl ?_
                refine X.iconst 5 i162_4 rfl rfl (by decide) ?_
                refine X.isub 6 i162_5 rfl rfl (by omega) ?_
                refine X.iload_n 7 i162_6 rfl rfl rfl ?_
                refine X.isub 8 i162_7 rfl rfl (by omega) ?_
                refine X.bipush 10 i162_8 rfl rfl (by decide) ?_
                refine X.irem 11 i162_10 rfl rfl (by omega) ?_
                refine X.bipush 13 i162_11 rfl rfl (by decide) ?_
                refine X.imul 14 i162_13 rfl rfl (by omega) ?_
                refine X.reti i162_14 rfl t162 ?_
                show X (EE s) (d - 1) 161 9 [(0, zr 0 23), (1, zi a1), (2, zi a2), (3, zi a3)] [zi (((((m 0 23 3) - 1) - a1) % 6) * 33), zr 0 26] m _
                refine X.iload_n 10 i161_9 rfl rfl rfl ?_
                refine X.iconst 11 i161_10 rfl rfl (by decide) ?_
                refine X.imul 12 i161_11 rfl rfl (by omega) ?_
                refine X.iadd 13 i161_12 rfl rfl (by omega) ?_
                refine X.iload_n 14 i161_13 rfl rfl rfl ?_
                refine X.calls 17 [zr 0 26, zi ((((((m 0 23 3) - 1) - a1) % 6) * 33) + (a2 * 4)), zi a3] [] [(0, zr 0 26), (1, zi ((((((m 0 23 3) - 1) - a1) % 6) * 33) + (a2 * 4))), (2, zi a3)] i161_14 (by decide) rfl rfl (by omega) rfl rfl t72 (Nat.le_of_ble_eq_true rfl) (Nat.le_of_ble_eq_true rfl) rfl ?_
                refine c72_5 (B := B) 0 ((((((m 0 23 3) - 1) - a1) % 6) * 33) + (a2 * 4)) a3 (by omega) (hJ.up (by omega)) (by omega) (by omega) (by omega) (fun v527 hv527 => ?_)
                show X (EE s) (d - 1) 161 17 [(0, zr 0 23), (1, zi a1), (2, zi a2), (3, zi a3)] [zl v527] m _
                refine X.retl i161_17 rfl t161 ?_
                show X (EE s) d 159 45 [(0, zr 4 40), (1, zi a1), (2, zi a2), (3, zi a3)] [zl v527] m _
                refine X.retl i159_45 rfl t159 ?_
                exact hQ v527 (by first | trivial | omega) 
-- WorkMeterModel.billAt
theorem c289_1 {s : Nat × (Nat → Int32)} {S : zS} {m0 m : zM} {B : Int} {d : Nat} {Q : Option zV → zM → Prop} (a1 : Int) (hd : 13 ≤ d) (hJ : J S m0 B m) (hB : B + 0 ≤ 1000000000) (ha1 : (-2147483648) ≤ a1 ∧ a1 ≤ 2147483647) (hQ : ∀ (v : Int), ((-1) ≤ v ∧ v ≤ 1442) → (v = -1 ∨ v = 1172 ∨ 1217 ≤ v) → Q (some (zi v)) m) : X (EE s) d 289 0 [(0, zr 4 44), (1, zi a1)] [] m Q := by
  refine X.aload_n 1 i289_0 rfl rfl rfl ?_
  refine X.getF 4 i289_1 rfl rfl (by decide) rfl rfl ?_
  refine X.bipush 6 i289_4 rfl rfl (by decide) ?_
  refine X.lald 7 i289_6 rfl rfl (by decide) rfl (by omega) ?_
  have h501 := r45_18 hJ 4
  refine X.ldc2 10 i289_7 rfl rfl (by decide) ?_
  refine X.lcmp 11 i289_10 rfl rfl (fun z502 hz502 => ?_)
  refine X.ifge 24 14 i289_11 rfl rfl rfl (fun h503 => ?_) (fun h503 => ?_)
  · have h503c : (m 4 45 18) ≥ 6 := by omega
    clear h503 hz502
    refine X.ldc2 27 i289_24 rfl rfl (by decide) ?_
    refine X.l2i 28 i289_27 rfl rfl (by omega) ?_
    refine X.istore_n 29 [(0, zr 4 44), (1, zi a1), (2, zi 6)] i289_28 rfl rfl rfl ?_
    refine X.iload_n 30 i289_29 rfl rfl rfl ?_
    refine X.i2l 31 i289_30 rfl rfl ?_
    refine X.lconst (y := 0) 32 i289_31 rfl rfl rfl ?_
    refine X.iload_n 33 i289_32 rfl rfl rfl ?_
    refine X.iconst 34 i289_33 rfl rfl (by decide) ?_
    refine X.isub 35 i289_34 rfl rfl (by omega) ?_
    refine X.i2l 36 i289_35 rfl rfl ?_
    refine X.calls 39 [zl a1, zl 0, zl (6 - 1)] [] [(0, zl a1), (2, zl 0), (4, zl (6 - 1))] i289_36 (by decide) rfl rfl (by omega) rfl rfl t204 (Nat.le_of_ble_eq_true rfl) (Nat.le_of_ble_eq_true rfl) rfl ?_
    refine X.lload_n 1 i204_0 rfl rfl rfl ?_
    refine X.lload_n 2 i204_1 rfl rfl rfl ?_
    refine X.lcmp 3 i204_2 rfl rfl (fun z504 hz504 => ?_)
    refine X.iflt 17 6 i204_3 rfl rfl rfl (fun h505 => ?_) (fun h505 => ?_)
    · have h505c : a1 < 0 := by omega
      clear h505 hz504
      refine X.cut [] i204_17 rfl ?_
      refine X.iconst 18 i204_17 rfl rfl (by decide) ?_
      refine X.retz i204_18 rfl t204 (by omega) ?_
      show X (EE s) d 289 39 [(0, zr 4 44), (1, zi a1), (2, zi 6)] [zi 0] m _
      refine X.ifeq 60 42 i289_39 rfl rfl rfl (fun h506 => ?_) (fun h506 => (by exfalso; omega))
      refine X.cut [] i289_60 rfl ?_
      refine X.iconst 61 i289_60 rfl rfl (by decide) ?_
      refine X.reti i289_61 rfl t289 ?_
      exact hQ (-1) (by first | trivial | omega) (by omega)
    · have h505c : a1 ≥ 0 := by omega
      clear h505 hz504
      refine X.lload_n 7 i204_6 rfl rfl rfl ?_
      refine X.lload 9 i204_7 rfl rfl rfl ?_
      refine X.lcmp 10 i204_9 rfl rfl (fun z507 hz507 => ?_)
      refine X.ifgt 17 13 i204_10 rfl rfl rfl (fun h508 => ?_) (fun h508 => ?_)
      · have h508c : a1 > (6 - 1) := by omega
        clear h508 hz507
        refine X.cut [] i204_17 rfl ?_
        refine X.iconst 18 i204_17 rfl rfl (by decide) ?_
        refine X.retz i204_18 rfl t204 (by omega) ?_
        show X (EE s) d 289 39 [(0, zr 4 44), (1, zi a1), (2, zi 6)] [zi 0] m _
        refine X.ifeq 60 42 i289_39 rfl rfl rfl (fun h509 => ?_) (fun h509 => (by exfalso; omega))
        refine X.cut [] i289_60 rfl ?_
        refine X.iconst 61 i289_60 rfl rfl (by decide) ?_
        refine X.reti i289_61 rfl t289 ?_
        exact hQ (-1) (by first | trivial | omega) (by omega)
      · have h508c : a1 ≤ (6 - 1) := by omega
        clear h508 hz507
        refine X.iconst 14 i204_13 rfl rfl (by decide) ?_
        refine X.goto 18 i204_14 rfl rfl ?_
        refine X.cut [] i204_18 rfl ?_
        refine X.retz i204_18 rfl t204 (by omega) ?_
        show X (EE s) d 289 39 [(0, zr 4 44), (1, zi a1), (2, zi 6)] [zi 1] m _
        refine X.ifeq 60 42 i289_39 rfl rfl rfl (fun h510 => (by exfalso; omega)) (fun h510 => ?_)
        refine X.sipush 45 i289_42 rfl rfl (by decide) ?_
        refine X.bipush 47 i289_45 rfl rfl (by decide) ?_
        refine X.aload_n 48 i289_47 rfl rfl rfl ?_
        refine X.callv 51 [] [zi 45, zi 1172] [(0, zr 4 44)] i289_48 rfl (by decide) rfl rfl (by omega) rfl rfl (by decide) rfl t287 (Nat.le_of_ble_eq_true rfl) (Nat.le_of_ble_eq_true rfl) rfl ?_
        refine X.aload_n 1 i287_0 rfl rfl rfl ?_
        refine X.getF 4 i287_1 rfl rfl (by decide) rfl rfl ?_
        refine X.bipush 6 i287_4 rfl rfl (by decide) ?_
        refine X.lald 7 i287_6 rfl rfl (by decide) rfl (by omega) ?_
        refine X.ldc2 10 i287_7 rfl rfl (by decide) ?_
        refine X.lcmp 11 i287_10 rfl rfl (fun z511 hz511 => ?_)
        refine X.ifge 24 14 i287_11 rfl rfl rfl (fun h512 => ?_) (fun h512 => ?_)
        · have h512c : (m 4 45 18) ≥ 7 := by omega
          clear h512 hz511
          refine X.cut [] i287_24 rfl ?_
          refine X.ldc2 27 i287_24 rfl rfl (by decide) ?_
          refine X.l2i 28 i287_27 rfl rfl (by omega) ?_
          refine X.reti i287_28 rfl t287 ?_
          show X (EE s) d 289 51 [(0, zr 4 44), (1, zi a1), (2, zi 6)] [zi 7, zi 45, zi 1172] m _
          refine X.iconst 52 i289_51 rfl rfl (by decide) ?_
          refine X.isub 53 i289_52 rfl rfl (by omega) ?_
          refine X.iload_n 54 i289_53 rfl rfl rfl ?_
          refine X.isub 55 i289_54 rfl rfl (by omega) ?_
          refine X.imul 56 i289_55 rfl rfl (by omega) ?_
          refine X.iadd 57 i289_56 rfl rfl (by omega) ?_
          refine X.goto 61 i289_57 rfl rfl ?_
          refine X.cut [] i289_61 rfl ?_
          refine X.reti i289_61 rfl t289 ?_
          exact hQ (1172 + (45 * ((7 - 1) - a1))) (by first | trivial | omega) (by omega)
        · have h512c : (m 4 45 18) < 7 := by omega
          clear h512 hz511
          refine X.aload_n 15 i287_14 rfl rfl rfl ?_
          refine X.getF 18 i287_15 rfl rfl (by decide) rfl rfl ?_
          refine X.bipush 20 i287_18 rfl rfl (by decide) ?_
          refine X.lald 21 i287_20 rfl rfl (by decide) rfl (by omega) ?_
          refine X.goto 27 i287_21 rfl rfl ?_
          refine X.cut [] i287_27 rfl ?_
          refine X.l2i 28 i287_27 rfl rfl (by omega) ?_
          refine X.reti i287_28 rfl t287 ?_
          show X (EE s) d 289 51 [(0, zr 4 44), (1, zi a1), (2, zi 6)] [zi (m 4 45 18), zi 45, zi 1172] m _
          refine X.iconst 52 i289_51 rfl rfl (by decide) ?_
          refine X.isub 53 i289_52 rfl rfl (by omega) ?_
          refine X.iload_n 54 i289_53 rfl rfl rfl ?_
          refine X.isub 55 i289_54 rfl rfl (by omega) ?_
          refine X.imul 56 i289_55 rfl rfl (by omega) ?_
          refine X.iadd 57 i289_56 rfl rfl (by omega) ?_
          refine X.goto 61 i289_57 rfl rfl ?_
          refine X.cut [] i289_61 rfl ?_
          refine X.reti i289_61 rfl t289 ?_
          exact hQ (1172 + (45 * (((m 4 45 18) - 1) - a1))) (by first | trivial | omega) (by omega)
  · have h503c : (m 4 45 18) < 6 := by omega
    clear h503 hz502
    refine X.aload_n 15 i289_14 rfl rfl rfl ?_
    refine X.getF 18 i289_15 rfl rfl (by decide) rfl rfl ?_
    refine X.bipush 20 i289_18 rfl rfl (by decide) ?_
    refine X.lald 21 i289_20 rfl rfl (by decide) rfl (by omega) ?_
    refine X.goto 27 i289_21 rfl rfl ?_
    refine X.l2i 28 i289_27 rfl rfl (by omega) ?_
    refine X.istore_n 29 [(0, zr 4 44), (1, zi a1), (2, zi (m 4 45 18))] i289_28 rfl rfl rfl ?_
    refine X.iload_n 30 i289_29 rfl rfl rfl ?_
    refine X.i2l 31 i289_30 rfl rfl ?_
    refine X.lconst (y := 0) 32 i289_31 rfl rfl rfl ?_
    refine X.iload_n 33 i289_32 rfl rfl rfl ?_
    refine X.iconst 34 i289_33 rfl rfl (by decide) ?_
    refine X.isub 35 i289_34 rfl rfl (by omega) ?_
    refine X.i2l 36 i289_35 rfl rfl ?_
    refine X.calls 39 [zl a1, zl 0, zl ((m 4 45 18) - 1)] [] [(0, zl a1), (2, zl 0), (4, zl ((m 4 45 18) - 1))] i289_36 (by decide) rfl rfl (by omega) rfl rfl t204 (Nat.le_of_ble_eq_true rfl) (Nat.le_of_ble_eq_true rfl) rfl ?_
    refine X.lload_n 1 i204_0 rfl rfl rfl ?_
    refine X.lload_n 2 i204_1 rfl rfl rfl ?_
    refine X.lcmp 3 i204_2 rfl rfl (fun z513 hz513 => ?_)
    refine X.iflt 17 6 i204_3 rfl rfl rfl (fun h514 => ?_) (fun h514 => ?_)
    · have h514c : a1 < 0 := by omega
      clear h514 hz513
      refine X.cut [] i204_17 rfl ?_
      refine X.iconst 18 i204_17 rfl rfl (by decide) ?_
      refine X.retz i204_18 rfl t204 (by omega) ?_
      show X (EE s) d 289 39 [(0, zr 4 44), (1, zi a1), (2, zi (m 4 45 18))] [zi 0] m _
      refine X.ifeq 60 42 i289_39 rfl rfl rfl (fun h515 => ?_) (fun h515 => (by exfalso; omega))
      refine X.cut [] i289_60 rfl ?_
      refine X.iconst 61 i289_60 rfl rfl (by decide) ?_
      refine X.reti i289_61 rfl t289 ?_
      exact hQ (-1) (by first | trivial | omega) (by omega)
    · have h514c : a1 ≥ 0 := by omega
      clear h514 hz513
      refine X.lload_n 7 i204_6 rfl rfl rfl ?_
      refine X.lload 9 i204_7 rfl rfl rfl ?_
      refine X.lcmp 10 i204_9 rfl rfl (fun z516 hz516 => ?_)
      refine X.ifgt 17 13 i204_10 rfl rfl rfl (fun h517 => ?_) (fun h517 => ?_)
      · have h517c : a1 > ((m 4 45 18) - 1) := by omega
        clear h517 hz516
        refine X.cut [] i204_17 rfl ?_
        refine X.iconst 18 i204_17 rfl rfl (by decide) ?_
        refine X.retz i204_18 rfl t204 (by omega) ?_
        show X (EE s) d 289 39 [(0, zr 4 44), (1, zi a1), (2, zi (m 4 45 18))] [zi 0] m _
        refine X.ifeq 60 42 i289_39 rfl rfl rfl (fun h518 => ?_) (fun h518 => (by exfalso; omega))
        refine X.cut [] i289_60 rfl ?_
        refine X.iconst 61 i289_60 rfl rfl (by decide) ?_
        refine X.reti i289_61 rfl t289 ?_
        exact hQ (-1) (by first | trivial | omega) (by omega)
      · have h517c : a1 ≤ ((m 4 45 18) - 1) := by omega
        clear h517 hz516
        refine X.iconst 14 i204_13 rfl rfl (by decide) ?_
        refine X.goto 18 i204_14 rfl rfl ?_
        refine X.cut [] i204_18 rfl ?_
        refine X.retz i204_18 rfl t204 (by omega) ?_
        show X (EE s) d 289 39 [(0, zr 4 44), (1, zi a1), (2, zi (m 4 45 18))] [zi 1] m _
        refine X.ifeq 60 42 i289_39 rfl rfl rfl (fun h519 => (by exfalso; omega)) (fun h519 => ?_)
        refine X.sipush 45 i289_42 rfl rfl (by decide) ?_
        refine X.bipush 47 i289_45 rfl rfl (by decide) ?_
        refine X.aload_n 48 i289_47 rfl rfl rfl ?_
        refine X.callv 51 [] [zi 45, zi 1172] [(0, zr 4 44)] i289_48 rfl (by decide) rfl rfl (by omega) rfl rfl (by decide) rfl t287 (Nat.le_of_ble_eq_true rfl) (Nat.le_of_ble_eq_true rfl) rfl ?_
        refine X.aload_n 1 i287_0 rfl rfl rfl ?_
        refine X.getF 4 i287_1 rfl rfl (by decide) rfl rfl ?_
        refine X.bipush 6 i287_4 rfl rfl (by decide) ?_
        refine X.lald 7 i287_6 rfl rfl (by decide) rfl (by omega) ?_
        refine X.ldc2 10 i287_7 rfl rfl (by decide) ?_
        refine X.lcmp 11 i287_10 rfl rfl (fun z520 hz520 => ?_)
        refine X.ifge 24 14 i287_11 rfl rfl rfl (fun h521 => (by exfalso; omega)) (fun h521 => ?_)
        have h521c : (m 4 45 18) < 7 := by omega
        clear h521 hz520
        refine X.aload_n 15 i287_14 rfl rfl rfl ?_
        refine X.getF 18 i287_15 rfl rfl (by decide) rfl rfl ?_
        refine X.bipush 20 i287_18 rfl rfl (by decide) ?_
        refine X.lald 21 i287_20 rfl rfl (by decide) rfl (by omega) ?_
        refine X.goto 27 i287_21 rfl rfl ?_
        refine X.cut [] i287_27 rfl ?_
        refine X.l2i 28 i287_27 rfl rfl (by omega) ?_
        refine X.reti i287_28 rfl t287 ?_
        show X (EE s) d 289 51 [(0, zr 4 44), (1, zi a1), (2, zi (m 4 45 18))] [zi (m 4 45 18), zi 45, zi 1172] m _
        refine X.iconst 52 i289_51 rfl rfl (by decide) ?_
        refine X.isub 53 i289_52 rfl rfl (by omega) ?_
        refine X.iload_n 54 i289_53 rfl rfl rfl ?_
        refine X.isub 55 i289_54 rfl rfl (by omega) ?_
        refine X.imul 56 i289_55 rfl rfl (by omega) ?_
        refine X.iadd 57 i289_56 rfl rfl (by omega) ?_
        refine X.goto 61 i289_57 rfl rfl ?_
        refine X.cut [] i289_61 rfl ?_
        refine X.reti i289_61 rfl t289 ?_
        exact hQ (1172 + (45 * (((m 4 45 18) - 1) - a1))) (by first | trivial | omega) (by omega)
-- WorkMeterModel.billed
theorem c288_1 {s : Nat × (Nat → Int32)} {S : zS} {m0 m : zM} {B : Int} {d : Nat} {Q : Option zV → zM → Prop} (a1 a2 a3 : Int) (hd : 14 ≤ d) (hJ : J S m0 B m) (hB : B + 0 ≤ 1000000000) (ha1 : (-2147483648) ≤ a1 ∧ a1 ≤ 2147483647) (ha2 : (-2147483648) ≤ a2 ∧ a2 ≤ 2147483647) (ha3 : (-2147483648) ≤ a3 ∧ a3 ≤ 2147483647) (hQ : ∀ (v : Int), (True) → Q (some (zl v)) m) : X (EE s) d 288 0 [(0, zr 4 44), (1, zi a1), (2, zi a2), (3, zi a3)] [] m Q := by
  refine X.aload_n 1 i288_0 rfl rfl rfl ?_
  refine X.iload_n 2 i288_1 rfl rfl rfl ?_
  refine X.callv 5 [zi a1] [] [(0, zr 4 44), (1, zi a1)] i288_2 rfl (by decide) rfl rfl (by omega) rfl rfl (by decide) rfl t289 (Nat.le_of_ble_eq_true rfl) (Nat.le_of_ble_eq_true rfl) rfl ?_
  refine c289_1 (B := B)  a1 (by omega) (hJ.up (by omega)) (by omega) (by omega) (fun v503 hv503 hqv5030 => ?_)
  show X (EE s) d 288 5 [(0, zr 4 44), (1, zi a1), (2, zi a2), (3, zi a3)] [zi v503] m _
  refine X.istore 7 [(0, zr 4 44), (1, zi a1), (2, zi a2), (3, zi a3), (4, zi v503)] i288_5 rfl rfl rfl ?_
  refine X.iload 9 i288_7 rfl rfl rfl ?_
  refine X.iconst 10 i288_9 rfl rfl (by decide) ?_
  refine X.icmpeq 21 13 i288_10 rfl rfl rfl (fun h504 => ?_) (fun h504 => ?_)
  · refine X.cut [] i288_21 rfl ?_
    refine X.ldc2 24 i288_21 rfl rfl (by decide) ?_
    refine X.retl i288_24 rfl t288 ?_
    exact hQ (-1) (by first | trivial | omega) 
  · refine X.iload_n 14 i288_13 rfl rfl rfl ?_
    refine X.iload_n 15 i288_14 rfl rfl rfl ?_
    refine X.calls 18 [zi a2, zi a3] [] [(0, zi a2), (1, zi a3)] i288_15 (by decide) rfl rfl (by omega) rfl rfl t290 (Nat.le_of_ble_eq_true rfl) (Nat.le_of_ble_eq_true rfl) rfl ?_
    refine X.iload_n 1 i290_0 rfl rfl rfl ?_
    refine X.i2l 2 i290_1 rfl rfl ?_
    refine X.lconst (y := 0) 3 i290_2 rfl rfl rfl ?_
    refine X.ldc2 6 i290_3 rfl rfl (by decide) ?_
    refine X.calls 9 [zl a2, zl 0, zl 6] [] [(0, zl a2), (2, zl 0), (4, zl 6)] i290_6 (by decide) rfl rfl (by omega) rfl rfl t204 (Nat.le_of_ble_eq_true rfl) (Nat.le_of_ble_eq_true rfl) rfl ?_
    refine X.lload_n 1 i204_0 rfl rfl rfl ?_
    refine X.lload_n 2 i204_1 rfl rfl rfl ?_
    refine X.lcmp 3 i204_2 rfl rfl (fun z505 hz505 => ?_)
    refine X.iflt 17 6 i204_3 rfl rfl rfl (fun h506 => ?_) (fun h506 => ?_)
    · have h506c : a2 < 0 := by omega
      clear h506 hz505
      refine X.cut [] i204_17 rfl ?_
      refine X.iconst 18 i204_17 rfl rfl (by decide) ?_
      refine X.retz i204_18 rfl t204 (by omega) ?_
      show X (EE s) (d - 1) 290 9 [(0, zi a2), (1, zi a3)] [zi 0] m _
      refine X.ifeq 28 12 i290_9 rfl rfl rfl (fun h507 => ?_) (fun h507 => (by exfalso; omega))
      refine X.cut [] i290_28 rfl ?_
      refine X.iconst 29 i290_28 rfl rfl (by decide) ?_
      refine X.retz i290_29 rfl t290 (by omega) ?_
      show X (EE s) d 288 18 [(0, zr 4 44), (1, zi a1), (2, zi a2), (3, zi a3), (4, zi v503)] [zi 0] m _
      refine X.ifne 25 21 i288_18 rfl rfl rfl (fun h508 => (by exfalso; omega)) (fun h508 => ?_)
      refine X.cut [] i288_21 rfl ?_
      refine X.ldc2 24 i288_21 rfl rfl (by decide) ?_
      refine X.retl i288_24 rfl t288 ?_
      exact hQ (-1) (by first | trivial | omega) 
    · have h506c : a2 ≥ 0 := by omega
      clear h506 hz505
      refine X.lload_n 7 i204_6 rfl rfl rfl ?_
      refine X.lload 9 i204_7 rfl rfl rfl ?_
      refine X.lcmp 10 i204_9 rfl rfl (fun z509 hz509 => ?_)
      refine X.ifgt 17 13 i204_10 rfl rfl rfl (fun h510 => ?_) (fun h510 => ?_)
      · have h510c : a2 > 6 := by omega
        clear h510 hz509
        refine X.cut [] i204_17 rfl ?_
        refine X.iconst 18 i204_17 rfl rfl (by decide) ?_
        refine X.retz i204_18 rfl t204 (by omega) ?_
        show X (EE s) (d - 1) 290 9 [(0, zi a2), (1, zi a3)] [zi 0] m _
        refine X.ifeq 28 12 i290_9 rfl rfl rfl (fun h511 => ?_) (fun h511 => (by exfalso; omega))
        refine X.cut [] i290_28 rfl ?_
        refine X.iconst 29 i290_28 rfl rfl (by decide) ?_
        refine X.retz i290_29 rfl t290 (by omega) ?_
        show X (EE s) d 288 18 [(0, zr 4 44), (1, zi a1), (2, zi a2), (3, zi a3), (4, zi v503)] [zi 0] m _
        refine X.ifne 25 21 i288_18 rfl rfl rfl (fun h512 => (by exfalso; omega)) (fun h512 => ?_)
        refine X.cut [] i288_21 rfl ?_
        refine X.ldc2 24 i288_21 rfl rfl (by decide) ?_
        refine X.retl i288_24 rfl t288 ?_
        exact hQ (-1) (by first | trivial | omega) 
      · have h510c : a2 ≤ 6 := by omega
        clear h510 hz509
        refine X.iconst 14 i204_13 rfl rfl (by decide) ?_
        refine X.goto 18 i204_14 rfl rfl ?_
        refine X.cut [] i204_18 rfl ?_
        refine X.retz i204_18 rfl t204 (by omega) ?_
        show X (EE s) (d - 1) 290 9 [(0, zi a2), (1, zi a3)] [zi 1] m _
        refine X.ifeq 28 12 i290_9 rfl rfl rfl (fun h513 => (by exfalso; omega)) (fun h513 => ?_)
        refine X.iload_n 13 i290_12 rfl rfl rfl ?_
        refine X.iconst 14 i290_13 rfl rfl (by decide) ?_
        refine X.icmpeq 24 17 i290_14 rfl rfl rfl (fun h514 => ?_) (fun h514 => ?_)
        · refine X.cut [] i290_24 rfl ?_
          refine X.iconst 25 i290_24 rfl rfl (by decide) ?_
          refine X.goto 29 i290_25 rfl rfl ?_
          refine X.retz i290_29 rfl t290 (by omega) ?_
          show X (EE s) d 288 18 [(0, zr 4 44), (1, zi a1), (2, zi a2), (3, zi a3), (4, zi v503)] [zi 1] m _
          refine X.ifne 25 21 i288_18 rfl rfl rfl (fun h515 => ?_) (fun h515 => (by exfalso; omega))
          refine X.cut [(0, zr 4 44), (2, zi a2), (3, zi a3), (4, zi v503)] i288_25 rfl ?_
          refine X.iconst 26 i288_25 rfl rfl (by decide) ?_
          refine X.iload_n 27 i288_26 rfl rfl rfl ?_
          refine X.iload_n 28 i288_27 rfl rfl rfl ?_
          refine X.calls 31 [zi a2, zi a3] [zi 1] [(0, zi a2), (1, zi a3)] i288_28 (by decide) rfl rfl (by omega) rfl rfl t291 (Nat.le_of_ble_eq_true rfl) (Nat.le_of_ble_eq_true rfl) rfl ?_
          refine X.iconst 1 i291_0 rfl rfl (by decide) ?_
          refine X.iload_n 2 i291_1 rfl rfl rfl ?_
          refine X.imul 3 i291_2 rfl rfl (by omega) ?_
          refine X.iload_n 4 i291_3 rfl rfl rfl ?_
          refine X.iconst 5 i291_4 rfl rfl (by decide) ?_
          refine X.icmpne 12 8 i291_5 rfl rfl rfl (fun h516 => (by exfalso; omega)) (fun h516 => ?_)
          refine X.iconst 9 i291_8 rfl rfl (by decide) ?_
          refine X.goto 13 i291_9 rfl rfl ?_
          refine X.cut [] i291_13 rfl ?_
          refine X.iadd 14 i291_13 rfl rfl (by omega) ?_
          refine X.reti i291_14 rfl t291 ?_
          show X (EE s) d 288 31 [(0, zr 4 44), (2, zi a2), (3, zi a3), (4, zi v503)] [zi ((5 * a2) + 4), zi 1] m _
          refine X.iadd 32 i288_31 rfl rfl (by omega) ?_
          refine X.istore 34 [(0, zr 4 44), (2, zi a2), (3, zi a3), (4, zi v503), (5, zi (1 + ((5 * a2) + 4)))] i288_32 rfl rfl rfl ?_
          refine X.aload_n 35 i288_34 rfl rfl rfl ?_
          refine X.getF 38 i288_35 rfl rfl (by decide) rfl rfl ?_
          refine X.iload 40 i288_38 rfl rfl rfl ?_
          refine X.iload 42 i288_40 rfl rfl rfl ?_
          refine X.iadd 43 i288_42 rfl rfl (by omega) ?_
          refine X.lald 44 i288_43 rfl rfl (by decide) rfl (by omega) ?_
          refine X.iload 46 i288_44 rfl rfl rfl ?_
          refine X.sipush 49 i288_46 rfl rfl (by decide) ?_
          refine X.icmpne 56 52 i288_49 rfl rfl rfl (fun h517 => ?_) (fun h517 => ?_)
          · refine X.cut [(0, zr 4 44), (4, zi v503), (5, zi (1 + ((5 * a2) + 4)))] i288_56 rfl ?_
            refine X.aload_n 57 i288_56 rfl rfl rfl ?_
            refine X.getF 60 i288_57 rfl rfl (by decide) rfl rfl ?_
            refine X.iload 62 i288_60 rfl rfl rfl ?_
            refine X.bipush 64 i288_62 rfl rfl (by decide) ?_
            refine X.isub 65 i288_64 rfl rfl (by omega) ?_
            refine X.iload 67 i288_65 rfl rfl rfl ?_
            refine X.iadd 68 i288_67 rfl rfl (by omega) ?_
            refine X.lald 69 i288_68 rfl rfl (by decide) rfl (by omega) ?_
            refine X.cut [] i288_69 rfl ?_
            refine X.llF 70 .lsub (fun x y => x - y) i288_69 rfl rfl rfl (fun _ _ => rfl) (fun z518 hz518 => ?_)
            refine X.retl i288_70 rfl t288 ?_
            exact hQ z518 (by first | trivial | omega) 
          · refine X.lconst (y := 0) 53 i288_52 rfl rfl rfl ?_
            refine X.goto 69 i288_53 rfl rfl ?_
            refine X.cut [] i288_69 rfl ?_
            refine X.llF 70 .lsub (fun x y => x - y) i288_69 rfl rfl rfl (fun _ _ => rfl) (fun z519 hz519 => ?_)
            refine X.retl i288_70 rfl t288 ?_
            exact hQ z519 (by first | trivial | omega) 
        · refine X.iload_n 18 i290_17 rfl rfl rfl ?_
          refine X.calls 21 [zi a3] [] [(0, zi a3)] i290_18 (by decide) rfl rfl (by omega) rfl rfl t242 (Nat.le_of_ble_eq_true rfl) (Nat.le_of_ble_eq_true rfl) rfl ?_
          refine X.iload_n 1 i242_0 rfl rfl rfl ?_
          refine X.i2l 2 i242_1 rfl rfl ?_
          refine X.lconst (y := 0) 3 i242_2 rfl rfl rfl ?_
          refine X.ldc2 6 i242_3 rfl rfl (by decide) ?_
          refine X.calls 9 [zl a3, zl 0, zl 3] [] [(0, zl a3), (2, zl 0), (4, zl 3)] i242_6 (by decide) rfl rfl (by omega) rfl rfl t204 (Nat.le_of_ble_eq_true rfl) (Nat.le_of_ble_eq_true rfl) rfl ?_
          refine X.lload_n 1 i204_0 rfl rfl rfl ?_
          refine X.lload_n 2 i204_1 rfl rfl rfl ?_
          refine X.lcmp 3 i204_2 rfl rfl (fun z520 hz520 => ?_)
          refine X.iflt 17 6 i204_3 rfl rfl rfl (fun h521 => ?_) (fun h521 => ?_)
          · have h521c : a3 < 0 := by omega
            clear h521 hz520
            refine X.cut [] i204_17 rfl ?_
            refine X.iconst 18 i204_17 rfl rfl (by decide) ?_
            refine X.retz i204_18 rfl t204 (by omega) ?_
            show X (EE s) ((d - 1) - 1) 242 9 [(0, zi a3)] [zi 0] m _
            refine X.retz i242_9 rfl t242 (by omega) ?_
            show X (EE s) (d - 1) 290 21 [(0, zi a2), (1, zi a3)] [zi 0] m _
            refine X.ifeq 28 24 i290_21 rfl rfl rfl (fun h522 => ?_) (fun h522 => (by exfalso; omega))
            refine X.cut [] i290_28 rfl ?_
            refine X.iconst 29 i290_28 rfl rfl (by decide) ?_
            refine X.retz i290_29 rfl t290 (by omega) ?_
            show X (EE s) d 288 18 [(0, zr 4 44), (1, zi a1), (2, zi a2), (3, zi a3), (4, zi v503)] [zi 0] m _
            refine X.ifne 25 21 i288_18 rfl rfl rfl (fun h523 => (by exfalso; omega)) (fun h523 => ?_)
            refine X.cut [] i288_21 rfl ?_
            refine X.ldc2 24 i288_21 rfl rfl (by decide) ?_
            refine X.retl i288_24 rfl t288 ?_
            exact hQ (-1) (by first | trivial | omega) 
          · have h521c : a3 ≥ 0 := by omega
            clear h521 hz520
            refine X.lload_n 7 i204_6 rfl rfl rfl ?_
            refine X.lload 9 i204_7 rfl rfl rfl ?_
            refine X.lcmp 10 i204_9 rfl rfl (fun z524 hz524 => ?_)
            refine X.ifgt 17 13 i204_10 rfl rfl rfl (fun h525 => ?_) (fun h525 => ?_)
            · have h525c : a3 > 3 := by omega
              clear h525 hz524
              refine X.cut [] i204_17 rfl ?_
              refine X.iconst 18 i204_17 rfl rfl (by decide) ?_
              refine X.retz i204_18 rfl t204 (by omega) ?_
              show X (EE s) ((d - 1) - 1) 242 9 [(0, zi a3)] [zi 0] m _
              refine X.retz i242_9 rfl t242 (by omega) ?_
              show X (EE s) (d - 1) 290 21 [(0, zi a2), (1, zi a3)] [zi 0] m _
              refine X.ifeq 28 24 i290_21 rfl rfl rfl (fun h526 => ?_) (fun h526 => (by exfalso; omega))
              refine X.cut [] i290_28 rfl ?_
              refine X.iconst 29 i290_28 rfl rfl (by decide) ?_
              refine X.retz i290_29 rfl t290 (by omega) ?_
              show X (EE s) d 288 18 [(0, zr 4 44), (1, zi a1), (2, zi a2), (3, zi a3), (4, zi v503)] [zi 0] m _
              refine X.ifne 25 21 i288_18 rfl rfl rfl (fun h527 => (by exfalso; omega)) (fun h527 => ?_)
              refine X.cut [] i288_21 rfl ?_
              refine X.ldc2 24 i288_21 rfl rfl (by decide) ?_
              refine X.retl i288_24 rfl t288 ?_
              exact hQ (-1) (by first | trivial | omega) 
            · have h525c : a3 ≤ 3 := by omega
              clear h525 hz524
              refine X.iconst 14 i204_13 rfl rfl (by decide) ?_
              refine X.goto 18 i204_14 rfl rfl ?_
              refine X.cut [] i204_18 rfl ?_
              refine X.retz i204_18 rfl t204 (by omega) ?_
              show X (EE s) ((d - 1) - 1) 242 9 [(0, zi a3)] [zi 1] m _
              refine X.retz i242_9 rfl t242 (by omega) ?_
              show X (EE s) (d - 1) 290 21 [(0, zi a2), (1, zi a3)] [zi 1] m _
              refine X.ifeq 28 24 i290_21 rfl rfl rfl (fun h528 => (by exfalso; omega)) (fun h528 => ?_)
              refine X.cut [] i290_24 rfl ?_
              refine X.iconst 25 i290_24 rfl rfl (by decide) ?_
              refine X.goto 29 i290_25 rfl rfl ?_
              refine X.retz i290_29 rfl t290 (by omega) ?_
              show X (EE s) d 288 18 [(0, zr 4 44), (1, zi a1), (2, zi a2), (3, zi a3), (4, zi v503)] [zi 1] m _
              refine X.ifne 25 21 i288_18 rfl rfl rfl (fun h529 => ?_) (fun h529 => (by exfalso; omega))
              refine X.cut [(0, zr 4 44), (2, zi a2), (3, zi a3), (4, zi v503)] i288_25 rfl ?_
              refine X.iconst 26 i288_25 rfl rfl (by decide) ?_
              refine X.iload_n 27 i288_26 rfl rfl rfl ?_
              refine X.iload_n 28 i288_27 rfl rfl rfl ?_
              refine X.calls 31 [zi a2, zi a3] [zi 1] [(0, zi a2), (1, zi a3)] i288_28 (by decide) rfl rfl (by omega) rfl rfl t291 (Nat.le_of_ble_eq_true rfl) (Nat.le_of_ble_eq_true rfl) rfl ?_
              refine X.iconst 1 i291_0 rfl rfl (by decide) ?_
              refine X.iload_n 2 i291_1 rfl rfl rfl ?_
              refine X.imul 3 i291_2 rfl rfl (by omega) ?_
              refine X.iload_n 4 i291_3 rfl rfl rfl ?_
              refine X.iconst 5 i291_4 rfl rfl (by decide) ?_
              refine X.icmpne 12 8 i291_5 rfl rfl rfl (fun h530 => ?_) (fun h530 => (by exfalso; omega))
              refine X.cut [(1, zi a3)] i291_12 rfl ?_
              refine X.iload_n 13 i291_12 rfl rfl rfl ?_
              refine X.cut [] i291_13 rfl ?_
              refine X.iadd 14 i291_13 rfl rfl (by omega) ?_
              refine X.reti i291_14 rfl t291 ?_
              show X (EE s) d 288 31 [(0, zr 4 44), (2, zi a2), (3, zi a3), (4, zi v503)] [zi ((5 * a2) + a3), zi 1] m _
              refine X.iadd 32 i288_31 rfl rfl (by omega) ?_
              refine X.istore 34 [(0, zr 4 44), (2, zi a2), (3, zi a3), (4, zi v503), (5, zi (1 + ((5 * a2) + a3)))] i288_32 rfl rfl rfl ?_
              refine X.aload_n 35 i288_34 rfl rfl rfl ?_
              refine X.getF 38 i288_35 rfl rfl (by decide) rfl rfl ?_
              refine X.iload 40 i288_38 rfl rfl rfl ?_
              refine X.iload 42 i288_40 rfl rfl rfl ?_
              refine X.iadd 43 i288_42 rfl rfl (by omega) ?_
              refine X.lald 44 i288_43 rfl rfl (by decide) rfl (by omega) ?_
              refine X.iload 46 i288_44 rfl rfl rfl ?_
              refine X.sipush 49 i288_46 rfl rfl (by decide) ?_
              refine X.icmpne 56 52 i288_49 rfl rfl rfl (fun h531 => ?_) (fun h531 => ?_)
              · refine X.cut [(0, zr 4 44), (4, zi v503), (5, zi (1 + ((5 * a2) + a3)))] i288_56 rfl ?_
                refine X.aload_n 57 i288_56 rfl rfl rfl ?_
                refine X.getF 60 i288_57 rfl rfl (by decide) rfl rfl ?_
                refine X.iload 62 i288_60 rfl rfl rfl ?_
                refine X.bipush 64 i288_62 rfl rfl (by decide) ?_
                refine X.isub 65 i288_64 rfl rfl (by omega) ?_
                refine X.iload 67 i288_65 rfl rfl rfl ?_
                refine X.iadd 68 i288_67 rfl rfl (by omega) ?_
                refine X.lald 69 i288_68 rfl rfl (by decide) rfl (by omega) ?_
                refine X.cut [] i288_69 rfl ?_
                refine X.llF 70 .lsub (fun x y => x - y) i288_69 rfl rfl rfl (fun _ _ => rfl) (fun z532 hz532 => ?_)
                refine X.retl i288_70 rfl t288 ?_
                exact hQ z532 (by first | trivial | omega) 
              · refine X.lconst (y := 0) 53 i288_52 rfl rfl rfl ?_
                refine X.goto 69 i288_53 rfl rfl ?_
                refine X.cut [] i288_69 rfl ?_
                refine X.llF 70 .lsub (fun x y => x - y) i288_69 rfl rfl rfl (fun _ _ => rfl) (fun z533 hz533 => ?_)
                refine X.retl i288_70 rfl t288 ?_
                exact hQ z533 (by first | trivial | omega) 
-- WorkMeter.bills
theorem c163_1 {s : Nat × (Nat → Int32)} {S : zS} {m0 m : zM} {B : Int} {d : Nat} {Q : Option zV → zM → Prop} (a1 a2 : Int) (hd : 14 ≤ d) (hJ : J S m0 B m) (hB : B + 0 ≤ 1000000000) (ha1 : (-2147483648) ≤ a1 ∧ a1 ≤ 2147483647) (ha2 : (-2147483648) ≤ a2 ∧ a2 ≤ 2147483647) (hQ : ∀ (v : Int), (True) → Q (some (zl v)) m) : X (EE s) d 163 0 [(0, zr 4 40), (1, zi a1), (2, zi a2)] [] m Q := by
  refine X.aload_n 1 i163_0 rfl rfl rfl ?_
  refine X.getF 4 i163_1 rfl rfl (by decide) rfl rfl ?_
  refine X.getR 7 i163_4 rfl rfl (by decide) rfl rfl ?_
  refine X.iload_n 8 i163_7 rfl rfl rfl ?_
  refine X.callv 11 [zi a1] [] [(0, zr 0 23), (1, zi a1)] i163_8 rfl (by decide) rfl rfl (by omega) rfl rfl (by decide) rfl t160 (Nat.le_of_ble_eq_true rfl) (Nat.le_of_ble_eq_true rfl) rfl ?_
  refine X.iload_n 1 i160_0 rfl rfl rfl ?_
  refine X.iflt 21 4 i160_1 rfl rfl rfl (fun h501 => ?_) (fun h501 => ?_)
  · refine X.cut [] i160_21 rfl ?_
    refine X.iconst 22 i160_21 rfl rfl (by decide) ?_
    refine X.retz i160_22 rfl t160 (by omega) ?_
    show X (EE s) d 163 11 [(0, zr 4 40), (1, zi a1), (2, zi a2)] [zi 0] m _
    refine X.ifeq 23 14 i163_11 rfl rfl rfl (fun h502 => ?_) (fun h502 => (by exfalso; omega))
    refine X.cut [] i163_23 rfl ?_
    refine X.ldc2 26 i163_23 rfl rfl (by decide) ?_
    refine X.retl i163_26 rfl t163 ?_
    exact hQ (-1) (by first | trivial | omega) 
  · refine X.iload_n 5 i160_4 rfl rfl rfl ?_
    refine X.aload_n 6 i160_5 rfl rfl rfl ?_
    refine X.getI 9 3 i160_6 rfl rfl (by decide) rfl rfl rfl ?_
    have h503 := r23_3 hJ 0
    refine X.bipush 11 i160_9 rfl rfl (by decide) ?_
    refine X.minI 14 i160_11 rfl rfl (by omega) (Nat.le_of_ble_eq_true rfl) ?_
    refine X.icmpge 21 17 i160_14 rfl rfl rfl (fun h504 => ?_) (fun h504 => ?_)
    · refine X.cut [] i160_21 rfl ?_
      refine X.iconst 22 i160_21 rfl rfl (by decide) ?_
      refine X.retz i160_22 rfl t160 (by omega) ?_
      show X (EE s) d 163 11 [(0, zr 4 40), (1, zi a1), (2, zi a2)] [zi 0] m _
      refine X.ifeq 23 14 i163_11 rfl rfl rfl (fun h505 => ?_) (fun h505 => (by exfalso; omega))
      refine X.cut [] i163_23 rfl ?_
      refine X.ldc2 26 i163_23 rfl rfl (by decide) ?_
      refine X.retl i163_26 rfl t163 ?_
      exact hQ (-1) (by first | trivial | omega) 
    · refine X.iconst 18 i160_17 rfl rfl (by decide) ?_
      refine X.goto 22 i160_18 rfl rfl ?_
      refine X.cut [] i160_22 rfl ?_
      refine X.retz i160_22 rfl t160 (by omega) ?_
      show X (EE s) d 163 11 [(0, zr 4 40), (1, zi a1), (2, zi a2)] [zi 1] m _
      refine X.ifeq 23 14 i163_11 rfl rfl rfl (fun h506 => (by exfalso; omega)) (fun h506 => ?_)
      refine X.iload_n 15 i163_14 rfl rfl rfl ?_
      refine X.iflt 23 18 i163_15 rfl rfl rfl (fun h507 => ?_) (fun h507 => ?_)
      · refine X.cut [] i163_23 rfl ?_
        refine X.ldc2 26 i163_23 rfl rfl (by decide) ?_
        refine X.retl i163_26 rfl t163 ?_
        exact hQ (-1) (by first | trivial | omega) 
      · refine X.iload_n 19 i163_18 rfl rfl rfl ?_
        refine X.iconst 20 i163_19 rfl rfl (by decide) ?_
        refine X.icmple 27 23 i163_20 rfl rfl rfl (fun h508 => ?_) (fun h508 => ?_)
        · refine X.iload_n 28 i163_27 rfl rfl rfl ?_
          refine X.ifne 45 31 i163_28 rfl rfl rfl (fun h509 => ?_) (fun h509 => ?_)
          · refine X.aload_n 46 i163_45 rfl rfl rfl ?_
            refine X.getF 49 i163_46 rfl rfl (by decide) rfl rfl ?_
            refine X.getR 52 i163_49 rfl rfl (by decide) rfl rfl ?_
            refine X.iload_n 53 i163_52 rfl rfl rfl ?_
            refine X.iload_n 54 i163_53 rfl rfl rfl ?_
            refine X.iconst 55 i163_54 rfl rfl (by decide) ?_
            refine X.isub 56 i163_55 rfl rfl (by omega) ?_
            refine X.callv 59 [zi a1, zi (a2 - 1)] [] [(0, zr 0 23), (1, zi a1), (2, zi (a2 - 1))] i163_56 rfl (by decide) rfl rfl (by omega) rfl rfl (by decide) rfl t165 (Nat.le_of_ble_eq_true rfl) (Nat.le_of_ble_eq_true rfl) rfl ?_
            refine X.aload_n 1 i165_0 rfl rfl rfl ?_
            refine X.getR 4 i165_1 rfl rfl (by decide) rfl rfl ?_
            refine X.aload_n 5 i165_4 rfl rfl rfl ?_
            refine X.iload_n 6 i165_5 rfl rfl rfl ?_
            refine X.callv 9 [zi a1] [zr 0 26] [(0, zr 0 23), (1, zi a1)] i165_6 rfl (by decide) rfl rfl (by omega) rfl rfl (by decide) rfl t162 (Nat.le_of_ble_eq_true rfl) (Nat.le_of_ble_eq_true rfl) rfl ?_
            refine X.aload_n 1 i162_0 rfl rfl rfl ?_
            refine X.getI 4 3 i162_1 rfl rfl (by decide) rfl rfl rfl ?_
            refine X.iconst 5 i162_4 rfl rfl (by decide) ?_
            refine X.isub 6 i162_5 rfl rfl (by omega) ?_
            refine X.iload_n 7 i162_6 rfl rfl rfl ?_
            refine X.isub 8 i162_7 rfl rfl (by omega) ?_
            refine X.bipush 10 i162_8 rfl rfl (by decide) ?_
            refine X.irem 11 i162_10 rfl rfl (by omega) ?_
            refine X.bipush 13 i162_11 rfl rfl (by decide) ?_
            refine X.imul 14 i162_13 rfl rfl (by omega) ?_
            refine X.reti i162_14 rfl t162 ?_
            show X (EE s) (d - 1) 165 9 [(0, zr 0 23), (1, zi a1), (2, zi (a2 - 1))] [zi (((((m 0 23 3) - 1) - a1) % 6) * 33), zr 0 26] m _
            refine X.bipush 11 i165_9 rfl rfl (by decide) ?_
            refine X.iadd 12 i165_11 rfl rfl (by omega) ?_
            refine X.iload_n 13 i165_12 rfl rfl rfl ?_
            refine X.iadd 14 i165_13 rfl rfl (by omega) ?_
            refine X.lald 15 i165_14 rfl rfl (by decide) rfl (by omega) ?_
            refine X.retl i165_15 rfl t165 ?_
            show X (EE s) d 163 59 [(0, zr 4 40), (1, zi a1), (2, zi a2)] [zl (m 0 26 (((((((m 0 23 3) - 1) - a1) % 6) * 33) + 28) + (a2 - 1)))] m _
            refine X.cut [] i163_59 rfl ?_
            refine X.retl i163_59 rfl t163 ?_
            exact hQ (m 0 26 (((((((m 0 23 3) - 1) - a1) % 6) * 33) + 28) + (a2 - 1))) (by first | trivial | omega) 
          · refine X.aload_n 32 i163_31 rfl rfl rfl ?_
            refine X.getF 35 i163_32 rfl rfl (by decide) rfl rfl ?_
            refine X.getR 38 i163_35 rfl rfl (by decide) rfl rfl ?_
            refine X.iload_n 39 i163_38 rfl rfl rfl ?_
            refine X.callv 42 [zi a1] [] [(0, zr 0 23), (1, zi a1)] i163_39 rfl (by decide) rfl rfl (by omega) rfl rfl (by decide) rfl t164 (Nat.le_of_ble_eq_true rfl) (Nat.le_of_ble_eq_true rfl) rfl ?_
            refine X.aload_n 1 i164_0 rfl rfl rfl ?_
            refine X.getR 4 i164_1 rfl rfl (by decide) rfl rfl ?_
            refine X.aload_n 5 i164_4 rfl rfl rfl ?_
            refine X.iload_n 6 i164_5 rfl rfl rfl ?_
            refine X.callv 9 [zi a1] [zr 0 26] [(0, zr 0 23), (1, zi a1)] i164_6 rfl (by decide) rfl rfl (by omega) rfl rfl (by decide) rfl t162 (Nat.le_of_ble_eq_true rfl) (Nat.le_of_ble_eq_true rfl) rfl ?_
            refine X.aload_n 1 i162_0 rfl rfl rfl ?_
            refine X.getI 4 3 i162_1 rfl rfl (by decide) rfl rfl rfl ?_
            refine X.iconst 5 i162_4 rfl rfl (by decide) ?_
            refine X.isub 6 i162_5 rfl rfl (by omega) ?_
            refine X.iload_n 7 i162_6 rfl rfl rfl ?_
            refine X.isub 8 i162_7 rfl rfl (by omega) ?_
            refine X.bipush 10 i162_8 rfl rfl (by decide) ?_
            refine X.irem 11 i162_10 rfl rfl (by omega) ?_
            refine X.bipush 13 i162_11 rfl rfl (by decide) ?_
            refine X.imul 14 i162_13 rfl rfl (by omega) ?_
            refine X.reti i162_14 rfl t162 ?_
            show X (EE s) (d - 1) 164 9 [(0, zr 0 23), (1, zi a1)] [zi (((((m 0 23 3) - 1) - a1) % 6) * 33), zr 0 26] m _
            refine X.bipush 11 i164_9 rfl rfl (by decide) ?_
            refine X.iadd 12 i164_11 rfl rfl (by omega) ?_
            refine X.lald 13 i164_12 rfl rfl (by decide) rfl (by omega) ?_
            refine X.retl i164_13 rfl t164 ?_
            show X (EE s) d 163 42 [(0, zr 4 40), (1, zi a1), (2, zi a2)] [zl (m 0 26 ((((((m 0 23 3) - 1) - a1) % 6) * 33) + 32))] m _
            refine X.goto 59 i163_42 rfl rfl ?_
            refine X.cut [] i163_59 rfl ?_
            refine X.retl i163_59 rfl t163 ?_
            exact hQ (m 0 26 ((((((m 0 23 3) - 1) - a1) % 6) * 33) + 32)) (by first | trivial | omega) 
        · refine X.cut [] i163_23 rfl ?_
          refine X.ldc2 26 i163_23 rfl rfl (by decide) ?_
          refine X.retl i163_26 rfl t163 ?_
          exact hQ (-1) (by first | trivial | omega) 
-- WorkMeterModel.bills
theorem c292_1 {s : Nat × (Nat → Int32)} {S : zS} {m0 m : zM} {B : Int} {d : Nat} {Q : Option zV → zM → Prop} (a1 a2 : Int) (hd : 14 ≤ d) (hJ : J S m0 B m) (hB : B + 0 ≤ 1000000000) (ha1 : (-2147483648) ≤ a1 ∧ a1 ≤ 2147483647) (ha2 : (-2147483648) ≤ a2 ∧ a2 ≤ 2147483647) (hQ : ∀ (v : Int), (True) → Q (some (zl v)) m) : X (EE s) d 292 0 [(0, zr 4 44), (1, zi a1), (2, zi a2)] [] m Q := by
  refine X.aload_n 1 i292_0 rfl rfl rfl ?_
  refine X.iload_n 2 i292_1 rfl rfl rfl ?_
  refine X.callv 5 [zi a1] [] [(0, zr 4 44), (1, zi a1)] i292_2 rfl (by decide) rfl rfl (by omega) rfl rfl (by decide) rfl t289 (Nat.le_of_ble_eq_true rfl) (Nat.le_of_ble_eq_true rfl) rfl ?_
  refine c289_1 (B := B)  a1 (by omega) (hJ.up (by omega)) (by omega) (by omega) (fun v503 hv503 hqv5030 => ?_)
  show X (EE s) d 292 5 [(0, zr 4 44), (1, zi a1), (2, zi a2)] [zi v503] m _
  refine X.istore_n 6 [(0, zr 4 44), (1, zi a1), (2, zi a2), (3, zi v503)] i292_5 rfl rfl rfl ?_
  refine X.iload_n 7 i292_6 rfl rfl rfl ?_
  refine X.iconst 8 i292_7 rfl rfl (by decide) ?_
  refine X.icmpeq 23 11 i292_8 rfl rfl rfl (fun h504 => ?_) (fun h504 => ?_)
  · refine X.cut [] i292_23 rfl ?_
    refine X.ldc2 26 i292_23 rfl rfl (by decide) ?_
    refine X.retl i292_26 rfl t292 ?_
    exact hQ (-1) (by first | trivial | omega) 
  · refine X.iload_n 12 i292_11 rfl rfl rfl ?_
    refine X.i2l 13 i292_12 rfl rfl ?_
    refine X.lconst (y := 0) 14 i292_13 rfl rfl rfl ?_
    refine X.ldc2 17 i292_14 rfl rfl (by decide) ?_
    refine X.calls 20 [zl a2, zl 0, zl 4] [] [(0, zl a2), (2, zl 0), (4, zl 4)] i292_17 (by decide) rfl rfl (by omega) rfl rfl t204 (Nat.le_of_ble_eq_true rfl) (Nat.le_of_ble_eq_true rfl) rfl ?_
    refine X.lload_n 1 i204_0 rfl rfl rfl ?_
    refine X.lload_n 2 i204_1 rfl rfl rfl ?_
    refine X.lcmp 3 i204_2 rfl rfl (fun z505 hz505 => ?_)
    refine X.iflt 17 6 i204_3 rfl rfl rfl (fun h506 => ?_) (fun h506 => ?_)
    · have h506c : a2 < 0 := by omega
      clear h506 hz505
      refine X.cut [] i204_17 rfl ?_
      refine X.iconst 18 i204_17 rfl rfl (by decide) ?_
      refine X.retz i204_18 rfl t204 (by omega) ?_
      show X (EE s) d 292 20 [(0, zr 4 44), (1, zi a1), (2, zi a2), (3, zi v503)] [zi 0] m _
      refine X.ifne 27 23 i292_20 rfl rfl rfl (fun h507 => (by exfalso; omega)) (fun h507 => ?_)
      refine X.cut [] i292_23 rfl ?_
      refine X.ldc2 26 i292_23 rfl rfl (by decide) ?_
      refine X.retl i292_26 rfl t292 ?_
      exact hQ (-1) (by first | trivial | omega) 
    · have h506c : a2 ≥ 0 := by omega
      clear h506 hz505
      refine X.lload_n 7 i204_6 rfl rfl rfl ?_
      refine X.lload 9 i204_7 rfl rfl rfl ?_
      refine X.lcmp 10 i204_9 rfl rfl (fun z508 hz508 => ?_)
      refine X.ifgt 17 13 i204_10 rfl rfl rfl (fun h509 => ?_) (fun h509 => ?_)
      · have h509c : a2 > 4 := by omega
        clear h509 hz508
        refine X.cut [] i204_17 rfl ?_
        refine X.iconst 18 i204_17 rfl rfl (by decide) ?_
        refine X.retz i204_18 rfl t204 (by omega) ?_
        show X (EE s) d 292 20 [(0, zr 4 44), (1, zi a1), (2, zi a2), (3, zi v503)] [zi 0] m _
        refine X.ifne 27 23 i292_20 rfl rfl rfl (fun h510 => (by exfalso; omega)) (fun h510 => ?_)
        refine X.cut [] i292_23 rfl ?_
        refine X.ldc2 26 i292_23 rfl rfl (by decide) ?_
        refine X.retl i292_26 rfl t292 ?_
        exact hQ (-1) (by first | trivial | omega) 
      · have h509c : a2 ≤ 4 := by omega
        clear h509 hz508
        refine X.iconst 14 i204_13 rfl rfl (by decide) ?_
        refine X.goto 18 i204_14 rfl rfl ?_
        refine X.cut [] i204_18 rfl ?_
        refine X.retz i204_18 rfl t204 (by omega) ?_
        show X (EE s) d 292 20 [(0, zr 4 44), (1, zi a1), (2, zi a2), (3, zi v503)] [zi 1] m _
        refine X.ifne 27 23 i292_20 rfl rfl rfl (fun h511 => ?_) (fun h511 => (by exfalso; omega))
        refine X.cut [(0, zr 4 44), (2, zi a2), (3, zi v503)] i292_27 rfl ?_
        refine X.iload_n 28 i292_27 rfl rfl rfl ?_
        refine X.ifne 40 31 i292_28 rfl rfl rfl (fun h512 => ?_) (fun h512 => ?_)
        · refine X.aload_n 41 i292_40 rfl rfl rfl ?_
          refine X.getF 44 i292_41 rfl rfl (by decide) rfl rfl ?_
          refine X.iload_n 45 i292_44 rfl rfl rfl ?_
          refine X.bipush 47 i292_45 rfl rfl (by decide) ?_
          refine X.iadd 48 i292_47 rfl rfl (by omega) ?_
          refine X.iload_n 49 i292_48 rfl rfl rfl ?_
          refine X.iadd 50 i292_49 rfl rfl (by omega) ?_
          refine X.lald 51 i292_50 rfl rfl (by decide) rfl (by omega) ?_
          refine X.cut [] i292_51 rfl ?_
          refine X.retl i292_51 rfl t292 ?_
          exact hQ (m 4 45 ((v503 + 35) + a2)) (by first | trivial | omega) 
        · refine X.aload_n 32 i292_31 rfl rfl rfl ?_
          refine X.getF 35 i292_32 rfl rfl (by decide) rfl rfl ?_
          refine X.iload_n 36 i292_35 rfl rfl rfl ?_
          refine X.lald 37 i292_36 rfl rfl (by decide) rfl (by omega) ?_
          refine X.goto 51 i292_37 rfl rfl ?_
          refine X.cut [] i292_51 rfl ?_
          refine X.retl i292_51 rfl t292 ?_
          exact hQ (m 4 45 v503) (by first | trivial | omega) 
theorem l167_8_1 {s : Nat × (Nat → Int32)} {S : zS} {m0 m : zM} {B : Int} {d : Nat} {Q : Option zV → zM → Prop} (g0 g2 : Nat) (y1 : Int) (hd : 15 ≤ d) (hJ : J S m0 B m) (hB9 : B ≤ 1000000000) (hy1 : 0 ≤ y1 ∧ y1 ≤ 5)
    (K53 : ∀ (x3 x5 : Int) , (True) → (0 ≤ x5) → (0 ≤ y1) → (y1 < m g0 23 3) → X (EE s) d 167 53 [(0, zr g0 23), (1, zi y1), (2, zr g2 9), (3, zl x3), (5, zl x5)] [] m Q) :
    ∀ (n : Nat) (y3 y5 y7 : Int) , (0 ≤ y5) → (0 ≤ y7 ∧ y7 ≤ 4) → (0 ≤ y1) → (y1 < m g0 23 3) → 4 - y7 < (n : Int) → X (EE s) d 167 8 [(0, zr g0 23), (1, zi y1), (2, zr g2 9), (3, zl y3), (5, zl y5), (7, zi y7)] [] m Q := by
  intro n
  induction n with
  | zero =>
    intro y3 y5 y7 hy5 hy7 hr0 hr1 hn
    exfalso
    omega
  | succ n ih =>
    intro y3 y5 y7 hy5 hy7 hr0 hr1 hn
    refine X.iload 10 i167_8 rfl rfl rfl ?_
    refine X.iconst 11 i167_10 rfl rfl (by decide) ?_
    refine X.icmpge 53 14 i167_11 rfl rfl rfl (fun h516 => ?_) (fun h516 => ?_)
    · refine X.cut [(0, zr g0 23), (1, zi y1), (2, zr g2 9), (3, zl y3), (5, zl y5)] i167_53 rfl ?_
      exact K53 y3 y5 (by first | trivial | omega) (by first | trivial | omega) (by omega) (by omega)
    · refine X.lload_n 15 i167_14 rfl rfl rfl ?_
      refine X.aload_n 16 i167_15 rfl rfl rfl ?_
      refine X.iload_n 17 i167_16 rfl rfl rfl ?_
      refine X.iconst 18 i167_17 rfl rfl (by decide) ?_
      refine X.iload 20 i167_18 rfl rfl rfl ?_
      refine X.callv 23 [zi y1, zi 0, zi y7] [zl y3] [(0, zr g0 23), (1, zi y1), (2, zi 0), (3, zi y7)] i167_20 rfl (by decide) rfl rfl (by omega) rfl rfl (by decide) rfl t161 (Nat.le_of_ble_eq_true rfl) (Nat.le_of_ble_eq_true rfl) rfl ?_
      refine X.aload_n 1 i161_0 rfl rfl rfl ?_
      refine X.getR 4 i161_1 rfl rfl (by decide) rfl rfl ?_
      refine X.aload_n 5 i161_4 rfl rfl rfl ?_
      refine X.iload_n 6 i161_5 rfl rfl rfl ?_
      refine X.callv 9 [zi y1] [zr g0 26] [(0, zr g0 23), (1, zi y1)] i161_6 rfl (by decide) rfl rfl (by omega) rfl rfl (by decide) rfl t162 (Nat.le_of_ble_eq_true rfl) (Nat.le_of_ble_eq_true rfl) rfl ?_
      refine X.aload_n 1 i162_0 rfl rfl rfl ?_
      refine X.getI 4 3 i162_1 rfl rfl (by decide) rfl rfl rfl ?_
      have h517 := r23_3 hJ g0
      refine X.iconst 5 i162_4 rfl rfl (by decide) ?_
      refine X.isub 6 i162_5 rfl rfl (by omega) ?_
      refine X.iload_n 7 i162_6 rfl rfl rfl ?_
      refine X.isub 8 i162_7 rfl rfl (by omega) ?_
      refine X.bipush 10 i162_8 rfl rfl (by decide) ?_
      refine X.irem 11 i162_10 rfl rfl (by omega) ?_
      refine X.bipush 13 i162_11 rfl rfl (by decide) ?_
      refine X.imul 14 i162_13 rfl rfl (by omega) ?_
      refine X.reti i162_14 rfl t162 ?_
      show X (EE s) (d - 1) 161 9 [(0, zr g0 23), (1, zi y1), (2, zi 0), (3, zi y7)] [zi (((((m g0 23 3) - 1) - y1) % 6) * 33), zr g0 26] m _
      refine X.iload_n 10 i161_9 rfl rfl rfl ?_
      refine X.iconst 11 i161_10 rfl rfl (by decide) ?_
      refine X.imul 12 i161_11 rfl rfl (by omega) ?_
      refine X.iadd 13 i161_12 rfl rfl (by omega) ?_
      refine X.iload_n 14 i161_13 rfl rfl rfl ?_
      refine X.calls 17 [zr g0 26, zi ((((((m g0 23 3) - 1) - y1) % 6) * 33) + (0 * 4)), zi y7] [] [(0, zr g0 26), (1, zi ((((((m g0 23 3) - 1) - y1) % 6) * 33) + (0 * 4))), (2, zi y7)] i161_14 (by decide) rfl rfl (by omega) rfl rfl t72 (Nat.le_of_ble_eq_true rfl) (Nat.le_of_ble_eq_true rfl) rfl ?_
      refine c72_5 (B := B) g0 ((((((m g0 23 3) - 1) - y1) % 6) * 33) + (0 * 4)) y7 (by omega) (hJ.up (by omega)) (by omega) (by omega) (by omega) (fun v520 hv520 => ?_)
      show X (EE s) (d - 1) 161 17 [(0, zr g0 23), (1, zi y1), (2, zi 0), (3, zi y7)] [zl v520] m _
      refine X.retl i161_17 rfl t161 ?_
      show X (EE s) d 167 23 [(0, zr g0 23), (1, zi y1), (2, zr g2 9), (3, zl y3), (5, zl y5), (7, zi y7)] [zl v520, zl y3] m _
      refine X.aload_n 24 i167_23 rfl rfl rfl ?_
      refine X.iload 26 i167_24 rfl rfl rfl ?_
      refine X.callv 29 [zi y7] [zl v520, zl y3] [(0, zr g2 9), (1, zi y7)] i167_26 rfl (by decide) rfl rfl (by omega) rfl rfl (by decide) rfl t43 (Nat.le_of_ble_eq_true rfl) (Nat.le_of_ble_eq_true rfl) rfl ?_
      refine X.aload_n 1 i43_0 rfl rfl rfl ?_
      refine X.getR 4 i43_1 rfl rfl (by decide) rfl rfl ?_
      refine X.bipush 6 i43_4 rfl rfl (by decide) ?_
      refine X.iload_n 7 i43_6 rfl rfl rfl ?_
      refine X.iadd 8 i43_7 rfl rfl (by omega) ?_
      refine X.iald 9 i43_8 rfl rfl (by decide) rfl (by omega) ?_
      have h521 := r10_6 hJ g2 (i := (6 + y7)) (by omega)
      refine X.reti i43_9 rfl t43 ?_
      show X (EE s) d 167 29 [(0, zr g0 23), (1, zi y1), (2, zr g2 9), (3, zl y3), (5, zl y5), (7, zi y7)] [zi (m g2 10 (6 + y7)), zl v520, zl y3] m _
      refine X.i2l 30 i167_29 rfl rfl ?_
      refine X.llF 31 .lmul (fun x y => x * y) i167_30 rfl rfl rfl (fun _ _ => rfl) (fun z522 hz522 => ?_)
      refine X.llF 32 .ladd (fun x y => x + y) i167_31 rfl rfl rfl (fun _ _ => rfl) (fun z523 hz523 => ?_)
      refine X.lstore_n 33 [(0, zr g0 23), (1, zi y1), (2, zr g2 9), (3, zl z523), (5, zl y5), (7, zi y7)] i167_32 rfl rfl rfl ?_
      refine X.lload 35 i167_33 rfl rfl rfl ?_
      refine X.aload_n 36 i167_35 rfl rfl rfl ?_
      refine X.iload_n 37 i167_36 rfl rfl rfl ?_
      refine X.iload 39 i167_37 rfl rfl rfl ?_
      refine X.callv 42 [zi y1, zi y7] [zl y5] [(0, zr g0 23), (1, zi y1), (2, zi y7)] i167_39 rfl (by decide) rfl rfl (by omega) rfl rfl (by decide) rfl t165 (Nat.le_of_ble_eq_true rfl) (Nat.le_of_ble_eq_true rfl) rfl ?_
      refine X.aload_n 1 i165_0 rfl rfl rfl ?_
      refine X.getR 4 i165_1 rfl rfl (by decide) rfl rfl ?_
      refine X.aload_n 5 i165_4 rfl rfl rfl ?_
      refine X.iload_n 6 i165_5 rfl rfl rfl ?_
      refine X.callv 9 [zi y1] [zr g0 26] [(0, zr g0 23), (1, zi y1)] i165_6 rfl (by decide) rfl rfl (by omega) rfl rfl (by decide) rfl t162 (Nat.le_of_ble_eq_true rfl) (Nat.le_of_ble_eq_true rfl) rfl ?_
      refine X.aload_n 1 i162_0 rfl rfl rfl ?_
      refine X.getI 4 3 i162_1 rfl rfl (by decide) rfl rfl rfl ?_
      refine X.iconst 5 i162_4 rfl rfl (by decide) ?_
      refine X.isub 6 i162_5 rfl rfl (by omega) ?_
      refine X.iload_n 7 i162_6 rfl rfl rfl ?_
      refine X.isub 8 i162_7 rfl rfl (by omega) ?_
      refine X.bipush 10 i162_8 rfl rfl (by decide) ?_
      refine X.irem 11 i162_10 rfl rfl (by omega) ?_
      refine X.bipush 13 i162_11 rfl rfl (by decide) ?_
      refine X.imul 14 i162_13 rfl rfl (by omega) ?_
      refine X.reti i162_14 rfl t162 ?_
      show X (EE s) (d - 1) 165 9 [(0, zr g0 23), (1, zi y1), (2, zi y7)] [zi (((((m g0 23 3) - 1) - y1) % 6) * 33), zr g0 26] m _
      refine X.bipush 11 i165_9 rfl rfl (by decide) ?_
      refine X.iadd 12 i165_11 rfl rfl (by omega) ?_
      refine X.iload_n 13 i165_12 rfl rfl rfl ?_
      refine X.iadd 14 i165_13 rfl rfl (by omega) ?_
      refine X.lald 15 i165_14 rfl rfl (by decide) rfl (by omega) ?_
      refine X.retl i165_15 rfl t165 ?_
      show X (EE s) d 167 42 [(0, zr g0 23), (1, zi y1), (2, zr g2 9), (3, zl z523), (5, zl y5), (7, zi y7)] [zl (m g0 26 (((((((m g0 23 3) - 1) - y1) % 6) * 33) + 28) + y7)), zl y5] m _
      refine X.maxL 45 i167_42 rfl rfl (by omega) (Nat.le_of_ble_eq_true rfl) ?_
      refine X.lstore 47 [(0, zr g0 23), (1, zi y1), (2, zr g2 9), (3, zl z523), (5, zl (max y5 (m g0 26 (((((((m g0 23 3) - 1) - y1) % 6) * 33) + 28) + y7)))), (7, zi y7)] i167_45 rfl rfl rfl ?_
      refine X.iinc 50 [(0, zr g0 23), (1, zi y1), (2, zr g2 9), (3, zl z523), (5, zl (max y5 (m g0 26 (((((((m g0 23 3) - 1) - y1) % 6) * 33) + 28) + y7)))), (7, zi (y7 + 1))] i167_47 rfl rfl rfl (by omega) rfl ?_
      refine X.goto 8 i167_50 rfl rfl ?_
      exact ih z523 (max y5 (m g0 26 (((((((m g0 23 3) - 1) - y1) % 6) * 33) + 28) + y7))) (y7 + 1) (by omega) (by omega) (by omega) (by omega) (by omega)
-- WorkMeter$Registers.moneyHundredths
theorem c167_1 {s : Nat × (Nat → Int32)} {S : zS} {m0 m : zM} {B : Int} {d : Nat} {Q : Option zV → zM → Prop} (g0 g2 : Nat) (a1 : Int) (hd : 15 ≤ d) (hJ : J S m0 B m) (hB : B + 0 ≤ 1000000000) (ha1 : 0 ≤ a1 ∧ a1 ≤ 5) (hp0 : 0 ≤ a1) (hp1 : a1 < m g0 23 3) (hQ : ∀ (v : Int), (True) → Q (some (zl v)) m) : X (EE s) d 167 0 [(0, zr g0 23), (1, zi a1), (2, zr g2 9)] [] m Q := by
  refine X.lconst (y := 0) 1 i167_0 rfl rfl rfl ?_
  refine X.lstore_n 2 [(0, zr g0 23), (1, zi a1), (2, zr g2 9), (3, zl 0)] i167_1 rfl rfl rfl ?_
  refine X.lconst (y := 0) 3 i167_2 rfl rfl rfl ?_
  refine X.lstore 5 [(0, zr g0 23), (1, zi a1), (2, zr g2 9), (3, zl 0), (5, zl 0)] i167_3 rfl rfl rfl ?_
  refine X.iconst 6 i167_5 rfl rfl (by decide) ?_
  refine X.istore 8 [(0, zr g0 23), (1, zi a1), (2, zr g2 9), (3, zl 0), (5, zl 0), (7, zi 0)] i167_6 rfl rfl rfl ?_
  refine l167_8_1 (s := s) (S := S) (m0 := m0) (m := m) (B := B) (d := d) g0 g2 a1 (by omega) (hJ.up (by omega)) (by omega) (by omega) (fun y501 y502 hby501 hby502 hrlm5030 hrlm5031 => ?_) ((4 - 0 : Int).toNat + 1) 0 0 0 (by omega) (by omega) (by omega) (by omega) (by omega)
  refine X.lload_n 54 i167_53 rfl rfl rfl ?_
  refine X.lload 56 i167_54 rfl rfl rfl ?_
  refine X.aload_n 57 i167_56 rfl rfl rfl ?_
  refine X.bipush 59 i167_57 rfl rfl (by decide) ?_
  refine X.callv 62 [zi 20] [zl y502, zl y501] [(0, zr g2 9), (1, zi 20)] i167_59 rfl (by decide) rfl rfl (by omega) rfl rfl (by decide) rfl t168 (Nat.le_of_ble_eq_true rfl) (Nat.le_of_ble_eq_true rfl) rfl ?_
  refine X.iload_n 1 i168_0 rfl rfl rfl ?_
  refine X.calls 4 [zi 20] [] [(0, zi 20)] i168_1 (by decide) rfl rfl (by omega) rfl rfl t76 (Nat.le_of_ble_eq_true rfl) (Nat.le_of_ble_eq_true rfl) rfl ?_
  refine X.iload_n 1 i76_0 rfl rfl rfl ?_
  refine X.iflt 11 4 i76_1 rfl rfl rfl (fun h506 => (by exfalso; omega)) (fun h506 => ?_)
  refine X.iload_n 5 i76_4 rfl rfl rfl ?_
  refine X.iconst 6 i76_5 rfl rfl (by decide) ?_
  refine X.icmpgt 11 9 i76_6 rfl rfl rfl (fun h507 => ?_) (fun h507 => (by exfalso; omega))
  refine X.iload_n 12 i76_11 rfl rfl rfl ?_
  refine X.bipush 14 i76_12 rfl rfl (by decide) ?_
  refine X.icmplt 31 17 i76_14 rfl rfl rfl (fun h508 => (by exfalso; omega)) (fun h508 => ?_)
  refine X.iload_n 18 i76_17 rfl rfl rfl ?_
  refine X.bipush 20 i76_18 rfl rfl (by decide) ?_
  refine X.icmpge 31 23 i76_20 rfl rfl rfl (fun h509 => ?_) (fun h509 => (by exfalso; omega))
  refine X.iload_n 32 i76_31 rfl rfl rfl ?_
  refine X.bipush 34 i76_32 rfl rfl (by decide) ?_
  refine X.icmplt 51 37 i76_34 rfl rfl rfl (fun h510 => (by exfalso; omega)) (fun h510 => ?_)
  refine X.iload_n 38 i76_37 rfl rfl rfl ?_
  refine X.bipush 40 i76_38 rfl rfl (by decide) ?_
  refine X.icmpgt 51 43 i76_40 rfl rfl rfl (fun h511 => (by exfalso; omega)) (fun h511 => ?_)
  refine X.iload_n 44 i76_43 rfl rfl rfl ?_
  refine X.bipush 46 i76_44 rfl rfl (by decide) ?_
  refine X.isub 47 i76_46 rfl rfl (by omega) ?_
  refine X.bipush 49 i76_47 rfl rfl (by decide) ?_
  refine X.iadd 50 i76_49 rfl rfl (by omega) ?_
  refine X.reti i76_50 rfl t76 ?_
  show X (EE s) (d - 1) 168 4 [(0, zr g2 9), (1, zi 20)] [zi ((20 - 20) + 10)] m _
  refine X.istore_n 5 [(0, zr g2 9), (1, zi 20), (2, zi ((20 - 20) + 10))] i168_4 rfl rfl rfl ?_
  refine X.iload_n 6 i168_5 rfl rfl rfl ?_
  refine X.iconst 7 i168_6 rfl rfl (by decide) ?_
  refine X.icmpne 14 10 i168_7 rfl rfl rfl (fun h512 => ?_) (fun h512 => (by exfalso; omega))
  refine X.cut [(0, zr g2 9), (2, zi ((20 - 20) + 10))] i168_14 rfl ?_
  refine X.aload_n 15 i168_14 rfl rfl rfl ?_
  refine X.getR 18 i168_15 rfl rfl (by decide) rfl rfl ?_
  refine X.iload_n 19 i168_18 rfl rfl rfl ?_
  refine X.iald 20 i168_19 rfl rfl (by decide) rfl (by omega) ?_
  have h513 := r10_6 hJ g2 (i := ((20 - 20) + 10)) (by omega)
  refine X.cut [] i168_20 rfl ?_
  refine X.reti i168_20 rfl t168 ?_
  show X (EE s) d 167 62 [(0, zr g0 23), (1, zi a1), (2, zr g2 9), (3, zl y501), (5, zl y502)] [zi (m g2 10 ((20 - 20) + 10)), zl y502, zl y501] m _
  refine X.i2l 63 i167_62 rfl rfl ?_
  refine X.llF 64 .lmul (fun x y => x * y) i167_63 rfl rfl rfl (fun _ _ => rfl) (fun z514 hz514 => ?_)
  refine X.llF 65 .ladd (fun x y => x + y) i167_64 rfl rfl rfl (fun _ _ => rfl) (fun z515 hz515 => ?_)
  refine X.lstore_n 66 [(0, zr g0 23), (1, zi a1), (2, zr g2 9), (3, zl z515), (5, zl y502)] i167_65 rfl rfl rfl ?_
  refine X.aload_n 67 i167_66 rfl rfl rfl ?_
  refine X.iload_n 68 i167_67 rfl rfl rfl ?_
  refine X.iconst 69 i167_68 rfl rfl (by decide) ?_
  refine X.iconst 70 i167_69 rfl rfl (by decide) ?_
  refine X.callv 73 [zi a1, zi 2, zi (-1)] [] [(0, zr g0 23), (1, zi a1), (2, zi 2), (3, zi (-1))] i167_70 rfl (by decide) rfl rfl (by omega) rfl rfl (by decide) rfl t161 (Nat.le_of_ble_eq_true rfl) (Nat.le_of_ble_eq_true rfl) rfl ?_
  refine X.aload_n 1 i161_0 rfl rfl rfl ?_
  refine X.getR 4 i161_1 rfl rfl (by decide) rfl rfl ?_
  refine X.aload_n 5 i161_4 rfl rfl rfl ?_
  refine X.iload_n 6 i161_5 rfl rfl rfl ?_
  refine X.callv 9 [zi a1] [zr g0 26] [(0, zr g0 23), (1, zi a1)] i161_6 rfl (by decide) rfl rfl (by omega) rfl rfl (by decide) rfl t162 (Nat.le_of_ble_eq_true rfl) (Nat.le_of_ble_eq_true rfl) rfl ?_
  refine X.aload_n 1 i162_0 rfl rfl rfl ?_
  refine X.getI 4 3 i162_1 rfl rfl (by decide) rfl rfl rfl ?_
  have h516 := r23_3 hJ g0
  refine X.iconst 5 i162_4 rfl rfl (by decide) ?_
  refine X.isub 6 i162_5 rfl rfl (by omega) ?_
  refine X.iload_n 7 i162_6 rfl rfl rfl ?_
  refine X.isub 8 i162_7 rfl rfl (by omega) ?_
  refine X.bipush 10 i162_8 rfl rfl (by decide) ?_
  refine X.irem 11 i162_10 rfl rfl (by omega) ?_
  refine X.bipush 13 i162_11 rfl rfl (by decide) ?_
  refine X.imul 14 i162_13 rfl rfl (by omega) ?_
  refine X.reti i162_14 rfl t162 ?_
  show X (EE s) (d - 1) 161 9 [(0, zr g0 23), (1, zi a1), (2, zi 2), (3, zi (-1))] [zi (((((m g0 23 3) - 1) - a1) % 6) * 33), zr g0 26] m _
  refine X.iload_n 10 i161_9 rfl rfl rfl ?_
  refine X.iconst 11 i161_10 rfl rfl (by decide) ?_
  refine X.imul 12 i161_11 rfl rfl (by omega) ?_
  refine X.iadd 13 i161_12 rfl rfl (by omega) ?_
  refine X.iload_n 14 i161_13 rfl rfl rfl ?_
  refine X.calls 17 [zr g0 26, zi ((((((m g0 23 3) - 1) - a1) % 6) * 33) + (2 * 4)), zi (-1)] [] [(0, zr g0 26), (1, zi ((((((m g0 23 3) - 1) - a1) % 6) * 33) + (2 * 4))), (2, zi (-1))] i161_14 (by decide) rfl rfl (by omega) rfl rfl t72 (Nat.le_of_ble_eq_true rfl) (Nat.le_of_ble_eq_true rfl) rfl ?_
  refine c72_4 (B := B) g0 ((((((m g0 23 3) - 1) - a1) % 6) * 33) + (2 * 4)) (-1) (by omega) (hJ.up (by omega)) (by omega) (by omega) (by omega) (fun v519 hv519 => ?_)
  show X (EE s) (d - 1) 161 17 [(0, zr g0 23), (1, zi a1), (2, zi 2), (3, zi (-1))] [zl v519] m _
  refine X.retl i161_17 rfl t161 ?_
  show X (EE s) d 167 73 [(0, zr g0 23), (1, zi a1), (2, zr g2 9), (3, zl z515), (5, zl y502)] [zl v519] m _
  refine X.aload_n 74 i167_73 rfl rfl rfl ?_
  refine X.iload_n 75 i167_74 rfl rfl rfl ?_
  refine X.iconst 76 i167_75 rfl rfl (by decide) ?_
  refine X.iconst 77 i167_76 rfl rfl (by decide) ?_
  refine X.callv 80 [zi a1, zi 5, zi (-1)] [zl v519] [(0, zr g0 23), (1, zi a1), (2, zi 5), (3, zi (-1))] i167_77 rfl (by decide) rfl rfl (by omega) rfl rfl (by decide) rfl t161 (Nat.le_of_ble_eq_true rfl) (Nat.le_of_ble_eq_true rfl) rfl ?_
  refine X.aload_n 1 i161_0 rfl rfl rfl ?_
  refine X.getR 4 i161_1 rfl rfl (by decide) rfl rfl ?_
  refine X.aload_n 5 i161_4 rfl rfl rfl ?_
  refine X.iload_n 6 i161_5 rfl rfl rfl ?_
  refine X.callv 9 [zi a1] [zr g0 26] [(0, zr g0 23), (1, zi a1)] i161_6 rfl (by decide) rfl rfl (by omega) rfl rfl (by decide) rfl t162 (Nat.le_of_ble_eq_true rfl) (Nat.le_of_ble_eq_true rfl) rfl ?_
  refine X.aload_n 1 i162_0 rfl rfl rfl ?_
  refine X.getI 4 3 i162_1 rfl rfl (by decide) rfl rfl rfl ?_
  refine X.iconst 5 i162_4 rfl rfl (by decide) ?_
  refine X.isub 6 i162_5 rfl rfl (by omega) ?_
  refine X.iload_n 7 i162_6 rfl rfl rfl ?_
  refine X.isub 8 i162_7 rfl rfl (by omega) ?_
  refine X.bipush 10 i162_8 rfl rfl (by decide) ?_
  refine X.irem 11 i162_10 rfl rfl (by omega) ?_
  refine X.bipush 13 i162_11 rfl rfl (by decide) ?_
  refine X.imul 14 i162_13 rfl rfl (by omega) ?_
  refine X.reti i162_14 rfl t162 ?_
  show X (EE s) (d - 1) 161 9 [(0, zr g0 23), (1, zi a1), (2, zi 5), (3, zi (-1))] [zi (((((m g0 23 3) - 1) - a1) % 6) * 33), zr g0 26] m _
  refine X.iload_n 10 i161_9 rfl rfl rfl ?_
  refine X.iconst 11 i161_10 rfl rfl (by decide) ?_
  refine X.imul 12 i161_11 rfl rfl (by omega) ?_
  refine X.iadd 13 i161_12 rfl rfl (by omega) ?_
  refine X.iload_n 14 i161_13 rfl rfl rfl ?_
  refine X.calls 17 [zr g0 26, zi ((((((m g0 23 3) - 1) - a1) % 6) * 33) + (5 * 4)), zi (-1)] [] [(0, zr g0 26), (1, zi ((((((m g0 23 3) - 1) - a1) % 6) * 33) + (5 * 4))), (2, zi (-1))] i161_14 (by decide) rfl rfl (by omega) rfl rfl t72 (Nat.le_of_ble_eq_true rfl) (Nat.le_of_ble_eq_true rfl) rfl ?_
  refine c72_4 (B := B) g0 ((((((m g0 23 3) - 1) - a1) % 6) * 33) + (5 * 4)) (-1) (by omega) (hJ.up (by omega)) (by omega) (by omega) (by omega) (fun v522 hv522 => ?_)
  show X (EE s) (d - 1) 161 17 [(0, zr g0 23), (1, zi a1), (2, zi 5), (3, zi (-1))] [zl v522] m _
  refine X.retl i161_17 rfl t161 ?_
  show X (EE s) d 167 80 [(0, zr g0 23), (1, zi a1), (2, zr g2 9), (3, zl z515), (5, zl y502)] [zl v522, zl v519] m _
  refine X.llF 81 .ladd (fun x y => x + y) i167_80 rfl rfl rfl (fun _ _ => rfl) (fun z523 hz523 => ?_)
  refine X.lstore 83 [(0, zr g0 23), (1, zi a1), (2, zr g2 9), (3, zl z515), (5, zl y502), (7, zl z523)] i167_81 rfl rfl rfl ?_
  refine X.lload 85 i167_83 rfl rfl rfl ?_
  refine X.ldc2 88 i167_85 rfl rfl (by decide) ?_
  refine X.llF 89 .lmul (fun x y => x * y) i167_88 rfl rfl rfl (fun _ _ => rfl) (fun z524 hz524 => ?_)
  refine X.aload_n 90 i167_89 rfl rfl rfl ?_
  refine X.iload_n 91 i167_90 rfl rfl rfl ?_
  refine X.iconst 92 i167_91 rfl rfl (by decide) ?_
  refine X.iconst 93 i167_92 rfl rfl (by decide) ?_
  refine X.callv 96 [zi a1, zi 0, zi (-1)] [zl z524] [(0, zr g0 23), (1, zi a1), (2, zi 0), (3, zi (-1))] i167_93 rfl (by decide) rfl rfl (by omega) rfl rfl (by decide) rfl t161 (Nat.le_of_ble_eq_true rfl) (Nat.le_of_ble_eq_true rfl) rfl ?_
  refine X.aload_n 1 i161_0 rfl rfl rfl ?_
  refine X.getR 4 i161_1 rfl rfl (by decide) rfl rfl ?_
  refine X.aload_n 5 i161_4 rfl rfl rfl ?_
  refine X.iload_n 6 i161_5 rfl rfl rfl ?_
  refine X.callv 9 [zi a1] [zr g0 26] [(0, zr g0 23), (1, zi a1)] i161_6 rfl (by decide) rfl rfl (by omega) rfl rfl (by decide) rfl t162 (Nat.le_of_ble_eq_true rfl) (Nat.le_of_ble_eq_true rfl) rfl ?_
  refine X.aload_n 1 i162_0 rfl rfl rfl ?_
  refine X.getI 4 3 i162_1 rfl rfl (by decide) rfl rfl rfl ?_
  refine X.iconst 5 i162_4 rfl rfl (by decide) ?_
  refine X.isub 6 i162_5 rfl rfl (by omega) ?_
  refine X.iload_n 7 i162_6 rfl rfl rfl ?_
  refine X.isub 8 i162_7 rfl rfl (by omega) ?_
  refine X.bipush 10 i162_8 rfl rfl (by decide) ?_
  refine X.irem 11 i162_10 rfl rfl (by omega) ?_
  refine X.bipush 13 i162_11 rfl rfl (by decide) ?_
  refine X.imul 14 i162_13 rfl rfl (by omega) ?_
  refine X.reti i162_14 rfl t162 ?_
  show X (EE s) (d - 1) 161 9 [(0, zr g0 23), (1, zi a1), (2, zi 0), (3, zi (-1))] [zi (((((m g0 23 3) - 1) - a1) % 6) * 33), zr g0 26] m _
  refine X.iload_n 10 i161_9 rfl rfl rfl ?_
  refine X.iconst 11 i161_10 rfl rfl (by decide) ?_
  refine X.imul 12 i161_11 rfl rfl (by omega) ?_
  refine X.iadd 13 i161_12 rfl rfl (by omega) ?_
  refine X.iload_n 14 i161_13 rfl rfl rfl ?_
  refine X.calls 17 [zr g0 26, zi ((((((m g0 23 3) - 1) - a1) % 6) * 33) + (0 * 4)), zi (-1)] [] [(0, zr g0 26), (1, zi ((((((m g0 23 3) - 1) - a1) % 6) * 33) + (0 * 4))), (2, zi (-1))] i161_14 (by decide) rfl rfl (by omega) rfl rfl t72 (Nat.le_of_ble_eq_true rfl) (Nat.le_of_ble_eq_true rfl) rfl ?_
  refine c72_4 (B := B) g0 ((((((m g0 23 3) - 1) - a1) % 6) * 33) + (0 * 4)) (-1) (by omega) (hJ.up (by omega)) (by omega) (by omega) (by omega) (fun v527 hv527 => ?_)
  show X (EE s) (d - 1) 161 17 [(0, zr g0 23), (1, zi a1), (2, zi 0), (3, zi (-1))] [zl v527] m _
  refine X.retl i161_17 rfl t161 ?_
  show X (EE s) d 167 96 [(0, zr g0 23), (1, zi a1), (2, zr g2 9), (3, zl z515), (5, zl y502), (7, zl z523)] [zl v527, zl z524] m _
  refine X.aload_n 97 i167_96 rfl rfl rfl ?_
  refine X.bipush 99 i167_97 rfl rfl (by decide) ?_
  refine X.callv 102 [zi 21] [zl v527, zl z524] [(0, zr g2 9), (1, zi 21)] i167_99 rfl (by decide) rfl rfl (by omega) rfl rfl (by decide) rfl t168 (Nat.le_of_ble_eq_true rfl) (Nat.le_of_ble_eq_true rfl) rfl ?_
  refine X.iload_n 1 i168_0 rfl rfl rfl ?_
  refine X.calls 4 [zi 21] [] [(0, zi 21)] i168_1 (by decide) rfl rfl (by omega) rfl rfl t76 (Nat.le_of_ble_eq_true rfl) (Nat.le_of_ble_eq_true rfl) rfl ?_
  refine X.iload_n 1 i76_0 rfl rfl rfl ?_
  refine X.iflt 11 4 i76_1 rfl rfl rfl (fun h528 => (by exfalso; omega)) (fun h528 => ?_)
  refine X.iload_n 5 i76_4 rfl rfl rfl ?_
  refine X.iconst 6 i76_5 rfl rfl (by decide) ?_
  refine X.icmpgt 11 9 i76_6 rfl rfl rfl (fun h529 => ?_) (fun h529 => (by exfalso; omega))
  refine X.iload_n 12 i76_11 rfl rfl rfl ?_
  refine X.bipush 14 i76_12 rfl rfl (by decide) ?_
  refine X.icmplt 31 17 i76_14 rfl rfl rfl (fun h530 => (by exfalso; omega)) (fun h530 => ?_)
  refine X.iload_n 18 i76_17 rfl rfl rfl ?_
  refine X.bipush 20 i76_18 rfl rfl (by decide) ?_
  refine X.icmpge 31 23 i76_20 rfl rfl rfl (fun h531 => ?_) (fun h531 => (by exfalso; omega))
  refine X.iload_n 32 i76_31 rfl rfl rfl ?_
  refine X.bipush 34 i76_32 rfl rfl (by decide) ?_
  refine X.icmplt 51 37 i76_34 rfl rfl rfl (fun h532 => (by exfalso; omega)) (fun h532 => ?_)
  refine X.iload_n 38 i76_37 rfl rfl rfl ?_
  refine X.bipush 40 i76_38 rfl rfl (by decide) ?_
  refine X.icmpgt 51 43 i76_40 rfl rfl rfl (fun h533 => (by exfalso; omega)) (fun h533 => ?_)
  refine X.iload_n 44 i76_43 rfl rfl rfl ?_
  refine X.bipush 46 i76_44 rfl rfl (by decide) ?_
  refine X.isub 47 i76_46 rfl rfl (by omega) ?_
  refine X.bipush 49 i76_47 rfl rfl (by decide) ?_
  refine X.iadd 50 i76_49 rfl rfl (by omega) ?_
  refine X.reti i76_50 rfl t76 ?_
  show X (EE s) (d - 1) 168 4 [(0, zr g2 9), (1, zi 21)] [zi ((21 - 20) + 10)] m _
  refine X.istore_n 5 [(0, zr g2 9), (1, zi 21), (2, zi ((21 - 20) + 10))] i168_4 rfl rfl rfl ?_
  refine X.iload_n 6 i168_5 rfl rfl rfl ?_
  refine X.iconst 7 i168_6 rfl rfl (by decide) ?_
  refine X.icmpne 14 10 i168_7 rfl rfl rfl (fun h534 => ?_) (fun h534 => (by exfalso; omega))
  refine X.cut [(0, zr g2 9), (2, zi ((21 - 20) + 10))] i168_14 rfl ?_
  refine X.aload_n 15 i168_14 rfl rfl rfl ?_
  refine X.getR 18 i168_15 rfl rfl (by decide) rfl rfl ?_
  refine X.iload_n 19 i168_18 rfl rfl rfl ?_
  refine X.iald 20 i168_19 rfl rfl (by decide) rfl (by omega) ?_
  have h535 := r10_6 hJ g2 (i := ((21 - 20) + 10)) (by omega)
  refine X.cut [] i168_20 rfl ?_
  refine X.reti i168_20 rfl t168 ?_
  show X (EE s) d 167 102 [(0, zr g0 23), (1, zi a1), (2, zr g2 9), (3, zl z515), (5, zl y502), (7, zl z523)] [zi (m g2 10 ((21 - 20) + 10)), zl v527, zl z524] m _
  refine X.i2l 103 i167_102 rfl rfl ?_
  refine X.llF 104 .lmul (fun x y => x * y) i167_103 rfl rfl rfl (fun _ _ => rfl) (fun z536 hz536 => ?_)
  refine X.llF 105 .lsub (fun x y => x - y) i167_104 rfl rfl rfl (fun _ _ => rfl) (fun z537 hz537 => ?_)
  refine X.lstore 107 [(0, zr g0 23), (1, zi a1), (2, zr g2 9), (3, zl z515), (5, zl y502), (7, zl z523), (9, zl z537)] i167_105 rfl rfl rfl ?_
  refine X.lload_n 108 i167_107 rfl rfl rfl ?_
  refine X.ldc2 111 i167_108 rfl rfl (by decide) ?_
  refine X.llF 112 .lmul (fun x y => x * y) i167_111 rfl rfl rfl (fun _ _ => rfl) (fun z538 hz538 => ?_)
  refine X.lconst (y := 0) 113 i167_112 rfl rfl rfl ?_
  refine X.lload 115 i167_113 rfl rfl rfl ?_
  refine X.maxL 118 i167_115 rfl rfl (by omega) (Nat.le_of_ble_eq_true rfl) ?_
  refine X.aload_n 119 i167_118 rfl rfl rfl ?_
  refine X.bipush 121 i167_119 rfl rfl (by decide) ?_
  refine X.callv 124 [zi 22] [zl (max 0 z537), zl z538] [(0, zr g2 9), (1, zi 22)] i167_121 rfl (by decide) rfl rfl (by omega) rfl rfl (by decide) rfl t168 (Nat.le_of_ble_eq_true rfl) (Nat.le_of_ble_eq_true rfl) rfl ?_
  refine X.iload_n 1 i168_0 rfl rfl rfl ?_
  refine X.calls 4 [zi 22] [] [(0, zi 22)] i168_1 (by decide) rfl rfl (by omega) rfl rfl t76 (Nat.le_of_ble_eq_true rfl) (Nat.le_of_ble_eq_true rfl) rfl ?_
  refine X.iload_n 1 i76_0 rfl rfl rfl ?_
  refine X.iflt 11 4 i76_1 rfl rfl rfl (fun h539 => (by exfalso; omega)) (fun h539 => ?_)
  refine X.iload_n 5 i76_4 rfl rfl rfl ?_
  refine X.iconst 6 i76_5 rfl rfl (by decide) ?_
  refine X.icmpgt 11 9 i76_6 rfl rfl rfl (fun h540 => ?_) (fun h540 => (by exfalso; omega))
  refine X.iload_n 12 i76_11 rfl rfl rfl ?_
  refine X.bipush 14 i76_12 rfl rfl (by decide) ?_
  refine X.icmplt 31 17 i76_14 rfl rfl rfl (fun h541 => (by exfalso; omega)) (fun h541 => ?_)
  refine X.iload_n 18 i76_17 rfl rfl rfl ?_
  refine X.bipush 20 i76_18 rfl rfl (by decide) ?_
  refine X.icmpge 31 23 i76_20 rfl rfl rfl (fun h542 => ?_) (fun h542 => (by exfalso; omega))
  refine X.iload_n 32 i76_31 rfl rfl rfl ?_
  refine X.bipush 34 i76_32 rfl rfl (by decide) ?_
  refine X.icmplt 51 37 i76_34 rfl rfl rfl (fun h543 => (by exfalso; omega)) (fun h543 => ?_)
  refine X.iload_n 38 i76_37 rfl rfl rfl ?_
  refine X.bipush 40 i76_38 rfl rfl (by decide) ?_
  refine X.icmpgt 51 43 i76_40 rfl rfl rfl (fun h544 => (by exfalso; omega)) (fun h544 => ?_)
  refine X.iload_n 44 i76_43 rfl rfl rfl ?_
  refine X.bipush 46 i76_44 rfl rfl (by decide) ?_
  refine X.isub 47 i76_46 rfl rfl (by omega) ?_
  refine X.bipush 49 i76_47 rfl rfl (by decide) ?_
  refine X.iadd 50 i76_49 rfl rfl (by omega) ?_
  refine X.reti i76_50 rfl t76 ?_
  show X (EE s) (d - 1) 168 4 [(0, zr g2 9), (1, zi 22)] [zi ((22 - 20) + 10)] m _
  refine X.istore_n 5 [(0, zr g2 9), (1, zi 22), (2, zi ((22 - 20) + 10))] i168_4 rfl rfl rfl ?_
  refine X.iload_n 6 i168_5 rfl rfl rfl ?_
  refine X.iconst 7 i168_6 rfl rfl (by decide) ?_
  refine X.icmpne 14 10 i168_7 rfl rfl rfl (fun h545 => ?_) (fun h545 => (by exfalso; omega))
  refine X.cut [(0, zr g2 9), (2, zi ((22 - 20) + 10))] i168_14 rfl ?_
  refine X.aload_n 15 i168_14 rfl rfl rfl ?_
  refine X.getR 18 i168_15 rfl rfl (by decide) rfl rfl ?_
  refine X.iload_n 19 i168_18 rfl rfl rfl ?_
  refine X.iald 20 i168_19 rfl rfl (by decide) rfl (by omega) ?_
  have h546 := r10_6 hJ g2 (i := ((22 - 20) + 10)) (by omega)
  refine X.cut [] i168_20 rfl ?_
  refine X.reti i168_20 rfl t168 ?_
  show X (EE s) d 167 124 [(0, zr g0 23), (1, zi a1), (2, zr g2 9), (3, zl z515), (5, zl y502), (7, zl z523), (9, zl z537)] [zi (m g2 10 ((22 - 20) + 10)), zl (max 0 z537), zl z538] m _
  refine X.i2l 125 i167_124 rfl rfl ?_
  refine X.llF 126 .lmul (fun x y => x * y) i167_125 rfl rfl rfl (fun _ _ => rfl) (fun z547 hz547 => ?_)
  refine X.llF 127 .ladd (fun x y => x + y) i167_126 rfl rfl rfl (fun _ _ => rfl) (fun z548 hz548 => ?_)
  refine X.retl i167_127 rfl t167 ?_
  exact hQ z548 (by first | trivial | omega) 
theorem l169_9_1 {s : Nat × (Nat → Int32)} {S : zS} {m0 m : zM} {B : Int} {d : Nat} {Q : Option zV → zM → Prop} (hd : 13 ≤ d) (hJ : J S m0 B m) (hB9 : B ≤ 1000000000)
    (K45 : ∀ (x4 : Int) , (True) → X (EE s) d 169 45 [(4, zl x4)] [] m Q) :
    ∀ (n : Nat) (y4 y6 y8 : Int) , (0 ≤ y8 ∧ y8 ≤ 200) → 200 - y8 < (n : Int) → X (EE s) d 169 9 [(4, zl y4), (6, zl y6), (8, zi y8)] [] m Q := by
  intro n
  induction n with
  | zero =>
    intro y4 y6 y8 hy8 hn
    exfalso
    omega
  | succ n ih =>
    intro y4 y6 y8 hy8 hn
    refine X.iload 11 i169_9 rfl rfl rfl ?_
    refine X.sipush 14 i169_11 rfl rfl (by decide) ?_
    refine X.icmpge 45 17 i169_14 rfl rfl rfl (fun h509 => ?_) (fun h509 => ?_)
    · refine X.cut [(4, zl y4)] i169_45 rfl ?_
      exact K45 y4 (by first | trivial | omega)
    · refine X.lload 19 i169_17 rfl rfl rfl ?_
      refine X.lconst (y := 0) 20 i169_19 rfl rfl rfl ?_
      refine X.lcmp 21 i169_20 rfl rfl (fun z510 hz510 => ?_)
      refine X.ifeq 45 24 i169_21 rfl rfl rfl (fun h511 => ?_) (fun h511 => ?_)
      · have h511c : y6 = 0 := by omega
        clear h511 hz510
        refine X.cut [(4, zl y4)] i169_45 rfl ?_
        exact K45 y4 (by first | trivial | omega)
      · have h511c : y6 ≠ 0 := by omega
        clear h511 hz510
        refine X.lload 26 i169_24 rfl rfl rfl ?_
        refine X.lload 28 i169_26 rfl rfl rfl ?_
        refine X.lremZ 29 i169_28 rfl rfl (by omega) (fun z512 hz512 => ?_)
        refine X.lstore 31 [(4, zl y4), (6, zl y6), (8, zi y8), (9, zl z512)] i169_29 rfl rfl rfl ?_
        refine X.lload 33 i169_31 rfl rfl rfl ?_
        refine X.lstore 35 [(4, zl y6), (6, zl y6), (8, zi y8), (9, zl z512)] i169_33 rfl rfl rfl ?_
        refine X.lload 37 i169_35 rfl rfl rfl ?_
        refine X.lstore 39 [(4, zl y6), (6, zl z512), (8, zi y8), (9, zl z512)] i169_37 rfl rfl rfl ?_
        refine X.iinc 42 [(4, zl y6), (6, zl z512), (8, zi (y8 + 1)), (9, zl z512)] i169_39 rfl rfl rfl (by omega) rfl ?_
        refine X.goto 9 i169_42 rfl rfl ?_
        refine X.cut [(4, zl y6), (6, zl z512), (8, zi (y8 + 1))] i169_9 rfl ?_
        exact ih y6 z512 (y8 + 1) (by omega) (by omega)
-- WorkMeter.commonDivisor
theorem c169_1 {s : Nat × (Nat → Int32)} {S : zS} {m0 m : zM} {B : Int} {d : Nat} {Q : Option zV → zM → Prop} (a0 a1 : Int) (hd : 13 ≤ d) (hJ : J S m0 B m) (hB : B + 0 ≤ 1000000000) (ha1 : 100 ≤ a1 ∧ a1 ≤ 100000000) (hQ : ∀ (v : Int), (1 ≤ v) → Q (some (zl v)) m) : X (EE s) d 169 0 [(0, zl a0), (2, zl a1)] [] m Q := by
  refine X.lload_n 1 i169_0 rfl rfl rfl ?_
  refine X.lstore 3 [(0, zl a0), (2, zl a1), (4, zl a0)] i169_1 rfl rfl rfl ?_
  refine X.lload_n 4 i169_3 rfl rfl rfl ?_
  refine X.lstore 6 [(0, zl a0), (2, zl a1), (4, zl a0), (6, zl a1)] i169_4 rfl rfl rfl ?_
  refine X.iconst 7 i169_6 rfl rfl (by decide) ?_
  refine X.istore 9 [(0, zl a0), (2, zl a1), (4, zl a0), (6, zl a1), (8, zi 0)] i169_7 rfl rfl rfl ?_
  refine X.cut [(4, zl a0), (6, zl a1), (8, zi 0)] i169_9 rfl ?_
  refine l169_9_1 (s := s) (S := S) (m0 := m0) (m := m) (B := B) (d := d)   (by omega) (hJ.up (by omega)) (by omega) (fun y501 hby501 => ?_) ((200 - 0 : Int).toNat + 1) a0 a1 0 (by omega) (by omega)
  refine X.lload 47 i169_45 rfl rfl rfl ?_
  refine X.lconst (y := 0) 48 i169_47 rfl rfl rfl ?_
  refine X.lcmp 49 i169_48 rfl rfl (fun z505 hz505 => ?_)
  refine X.ifle 57 52 i169_49 rfl rfl rfl (fun h506 => ?_) (fun h506 => ?_)
  · have h506c : y501 ≤ 0 := by omega
    clear h506 hz505
    refine X.cut [] i169_57 rfl ?_
    refine X.lconst (y := 1) 58 i169_57 rfl rfl rfl ?_
    refine X.retl i169_58 rfl t169 ?_
    exact hQ 1 (by first | trivial | omega) 
  · have h506c : y501 > 0 := by omega
    clear h506 hz505
    refine X.lload 54 i169_52 rfl rfl rfl ?_
    refine X.goto 58 i169_54 rfl rfl ?_
    refine X.cut [] i169_58 rfl ?_
    refine X.retl i169_58 rfl t169 ?_
    exact hQ y501 (by first | trivial | omega) 
-- WorkMeter.money
theorem c166_1 {s : Nat × (Nat → Int32)} {S : zS} {m0 m : zM} {B : Int} {d : Nat} {Q : Option zV → zM → Prop} (a1 a2 : Int) (hd : 16 ≤ d) (hJ : J S m0 B m) (hB : B + 0 ≤ 1000000000) (ha1 : (-2147483648) ≤ a1 ∧ a1 ≤ 2147483647) (ha2 : (-2147483648) ≤ a2 ∧ a2 ≤ 2147483647) (hQ : ∀ (v : Int), (True) → Q (some (zl v)) m) : X (EE s) d 166 0 [(0, zr 4 40), (1, zi a1), (2, zi a2)] [] m Q := by
  refine X.aload_n 1 i166_0 rfl rfl rfl ?_
  refine X.getF 4 i166_1 rfl rfl (by decide) rfl rfl ?_
  refine X.getR 7 i166_4 rfl rfl (by decide) rfl rfl ?_
  refine X.iload_n 8 i166_7 rfl rfl rfl ?_
  refine X.callv 11 [zi a1] [] [(0, zr 0 23), (1, zi a1)] i166_8 rfl (by decide) rfl rfl (by omega) rfl rfl (by decide) rfl t160 (Nat.le_of_ble_eq_true rfl) (Nat.le_of_ble_eq_true rfl) rfl ?_
  refine X.iload_n 1 i160_0 rfl rfl rfl ?_
  refine X.iflt 21 4 i160_1 rfl rfl rfl (fun h501 => ?_) (fun h501 => ?_)
  · refine X.cut [] i160_21 rfl ?_
    refine X.iconst 22 i160_21 rfl rfl (by decide) ?_
    refine X.retz i160_22 rfl t160 (by omega) ?_
    show X (EE s) d 166 11 [(0, zr 4 40), (1, zi a1), (2, zi a2)] [zi 0] m _
    refine X.ifeq 23 14 i166_11 rfl rfl rfl (fun h502 => ?_) (fun h502 => (by exfalso; omega))
    refine X.cut [] i166_23 rfl ?_
    refine X.ldc2 26 i166_23 rfl rfl (by decide) ?_
    refine X.retl i166_26 rfl t166 ?_
    exact hQ (-1) (by first | trivial | omega) 
  · refine X.iload_n 5 i160_4 rfl rfl rfl ?_
    refine X.aload_n 6 i160_5 rfl rfl rfl ?_
    refine X.getI 9 3 i160_6 rfl rfl (by decide) rfl rfl rfl ?_
    have h503 := r23_3 hJ 0
    refine X.bipush 11 i160_9 rfl rfl (by decide) ?_
    refine X.minI 14 i160_11 rfl rfl (by omega) (Nat.le_of_ble_eq_true rfl) ?_
    refine X.icmpge 21 17 i160_14 rfl rfl rfl (fun h504 => ?_) (fun h504 => ?_)
    · refine X.cut [] i160_21 rfl ?_
      refine X.iconst 22 i160_21 rfl rfl (by decide) ?_
      refine X.retz i160_22 rfl t160 (by omega) ?_
      show X (EE s) d 166 11 [(0, zr 4 40), (1, zi a1), (2, zi a2)] [zi 0] m _
      refine X.ifeq 23 14 i166_11 rfl rfl rfl (fun h505 => ?_) (fun h505 => (by exfalso; omega))
      refine X.cut [] i166_23 rfl ?_
      refine X.ldc2 26 i166_23 rfl rfl (by decide) ?_
      refine X.retl i166_26 rfl t166 ?_
      exact hQ (-1) (by first | trivial | omega) 
    · refine X.iconst 18 i160_17 rfl rfl (by decide) ?_
      refine X.goto 22 i160_18 rfl rfl ?_
      refine X.cut [] i160_22 rfl ?_
      refine X.retz i160_22 rfl t160 (by omega) ?_
      show X (EE s) d 166 11 [(0, zr 4 40), (1, zi a1), (2, zi a2)] [zi 1] m _
      refine X.ifeq 23 14 i166_11 rfl rfl rfl (fun h506 => (by exfalso; omega)) (fun h506 => ?_)
      refine X.iload_n 15 i166_14 rfl rfl rfl ?_
      refine X.iflt 23 18 i166_15 rfl rfl rfl (fun h507 => ?_) (fun h507 => ?_)
      · refine X.cut [] i166_23 rfl ?_
        refine X.ldc2 26 i166_23 rfl rfl (by decide) ?_
        refine X.retl i166_26 rfl t166 ?_
        exact hQ (-1) (by first | trivial | omega) 
      · refine X.iload_n 19 i166_18 rfl rfl rfl ?_
        refine X.iconst 20 i166_19 rfl rfl (by decide) ?_
        refine X.icmple 27 23 i166_20 rfl rfl rfl (fun h508 => ?_) (fun h508 => ?_)
        · refine X.aload_n 28 i166_27 rfl rfl rfl ?_
          refine X.getF 31 i166_28 rfl rfl (by decide) rfl rfl ?_
          refine X.getR 34 i166_31 rfl rfl (by decide) rfl rfl ?_
          refine X.iload_n 35 i166_34 rfl rfl rfl ?_
          refine X.aload_n 36 i166_35 rfl rfl rfl ?_
          refine X.getF 39 i166_36 rfl rfl (by decide) rfl rfl ?_
          refine X.getR 42 i166_39 rfl rfl (by decide) rfl rfl ?_
          refine X.callv 45 [zi a1, zr 0 9] [] [(0, zr 0 23), (1, zi a1), (2, zr 0 9)] i166_42 rfl (by decide) rfl rfl (by omega) rfl rfl (by decide) rfl t167 (Nat.le_of_ble_eq_true rfl) (Nat.le_of_ble_eq_true rfl) rfl ?_
          refine c167_1 (B := B) 0 0 a1 (by omega) (hJ.up (by omega)) (by omega) (by omega) (by omega) (by omega) (fun v511 hv511 => ?_)
          show X (EE s) d 166 45 [(0, zr 4 40), (1, zi a1), (2, zi a2)] [zl v511] m _
          refine X.lstore_n 46 [(0, zr 4 40), (1, zi a1), (2, zi a2), (3, zl v511)] i166_45 rfl rfl rfl ?_
          refine X.ldc2 49 i166_46 rfl rfl (by decide) ?_
          refine X.aload_n 50 i166_49 rfl rfl rfl ?_
          refine X.getF 53 i166_50 rfl rfl (by decide) rfl rfl ?_
          refine X.getR 56 i166_53 rfl rfl (by decide) rfl rfl ?_
          refine X.callv 59 [] [zl 100] [(0, zr 0 9)] i166_56 rfl (by decide) rfl rfl (by omega) rfl rfl (by decide) rfl t48 (Nat.le_of_ble_eq_true rfl) (Nat.le_of_ble_eq_true rfl) rfl ?_
          refine X.iconst 1 i48_0 rfl rfl (by decide) ?_
          refine X.aload_n 2 i48_1 rfl rfl rfl ?_
          refine X.getR 5 i48_2 rfl rfl (by decide) rfl rfl ?_
          refine X.iconst 6 i48_5 rfl rfl (by decide) ?_
          refine X.iald 7 i48_6 rfl rfl (by decide) rfl (by omega) ?_
          have h512 := r10_0 hJ 0 (i := 1) (by omega)
          refine X.maxI 10 i48_7 rfl rfl (by omega) (Nat.le_of_ble_eq_true rfl) ?_
          refine X.reti i48_10 rfl t48 ?_
          show X (EE s) d 166 59 [(0, zr 4 40), (1, zi a1), (2, zi a2), (3, zl v511)] [zi (max 1 (m 0 10 1)), zl 100] m _
          refine X.i2l 60 i166_59 rfl rfl ?_
          refine X.lmul 61 i166_60 rfl rfl (by omega) ?_
          refine X.lstore 63 [(0, zr 4 40), (1, zi a1), (2, zi a2), (3, zl v511), (5, zl (100 * (max 1 (m 0 10 1))))] i166_61 rfl rfl rfl ?_
          refine X.lload_n 64 i166_63 rfl rfl rfl ?_
          refine X.lload 66 i166_64 rfl rfl rfl ?_
          refine X.calls 69 [zl v511, zl (100 * (max 1 (m 0 10 1)))] [] [(0, zl v511), (2, zl (100 * (max 1 (m 0 10 1))))] i166_66 (by decide) rfl rfl (by omega) rfl rfl t169 (Nat.le_of_ble_eq_true rfl) (Nat.le_of_ble_eq_true rfl) rfl ?_
          refine c169_1 (B := B)  v511 (100 * (max 1 (m 0 10 1))) (by omega) (hJ.up (by omega)) (by omega) (by omega) (fun v515 hv515 => ?_)
          show X (EE s) d 166 69 [(0, zr 4 40), (1, zi a1), (2, zi a2), (3, zl v511), (5, zl (100 * (max 1 (m 0 10 1))))] [zl v515] m _
          refine X.lstore 71 [(0, zr 4 40), (1, zi a1), (2, zi a2), (3, zl v511), (5, zl (100 * (max 1 (m 0 10 1)))), (7, zl v515)] i166_69 rfl rfl rfl ?_
          refine X.iload_n 72 i166_71 rfl rfl rfl ?_
          refine X.ifne 79 75 i166_72 rfl rfl rfl (fun h516 => ?_) (fun h516 => ?_)
          · refine X.cut [(5, zl (100 * (max 1 (m 0 10 1)))), (7, zl v515)] i166_79 rfl ?_
            refine X.lload 81 i166_79 rfl rfl rfl ?_
            refine X.cut [(7, zl v515)] i166_81 rfl ?_
            refine X.lload 83 i166_81 rfl rfl rfl ?_
            refine X.ldivF 84 i166_83 rfl rfl (by omega) (fun z517 => ?_)
            refine X.retl i166_84 rfl t166 ?_
            exact hQ z517 (by first | trivial | omega) 
          · refine X.lload_n 76 i166_75 rfl rfl rfl ?_
            refine X.goto 81 i166_76 rfl rfl ?_
            refine X.cut [(7, zl v515)] i166_81 rfl ?_
            refine X.lload 83 i166_81 rfl rfl rfl ?_
            refine X.ldivF 84 i166_83 rfl rfl (by omega) (fun z518 => ?_)
            refine X.retl i166_84 rfl t166 ?_
            exact hQ z518 (by first | trivial | omega) 
        · refine X.cut [] i166_23 rfl ?_
          refine X.ldc2 26 i166_23 rfl rfl (by decide) ?_
          refine X.retl i166_26 rfl t166 ?_
          exact hQ (-1) (by first | trivial | omega) 
theorem l293_34_1 {s : Nat × (Nat → Int32)} {S : zS} {m0 m : zM} {B : Int} {d : Nat} {Q : Option zV → zM → Prop} (y1 y2 y3 : Int) (hd : 15 ≤ d) (hJ : J S m0 B m) (hB9 : B ≤ 1000000000) (hy1 : (-2147483648) ≤ y1 ∧ y1 ≤ 2147483647) (hy2 : 0 ≤ y2 ∧ y2 ≤ 1) (hy3 : 0 ≤ y3 ∧ y3 ≤ 1442)
    (K107 : ∀ (x4 x6 : Int) , (True) → (0 ≤ x6) → X (EE s) d 293 107 [(0, zr 4 44), (1, zi y1), (2, zi y2), (4, zl x4), (6, zl x6)] [] m Q) :
    ∀ (n : Nat) (y4 y6 y8 : Int) , (0 ≤ y6) → (0 ≤ y8 ∧ y8 ≤ 4) → 4 - y8 < (n : Int) → X (EE s) d 293 34 [(0, zr 4 44), (1, zi y1), (2, zi y2), (3, zi y3), (4, zl y4), (6, zl y6), (8, zi y8)] [] m Q := by
  intro n
  induction n with
  | zero =>
    intro y4 y6 y8 hy6 hy8 hn
    exfalso
    omega
  | succ n ih =>
    intro y4 y6 y8 hy6 hy8 hn
    refine X.iload 36 i293_34 rfl rfl rfl ?_
    refine X.iconst 37 i293_36 rfl rfl (by decide) ?_
    refine X.icmpge 107 40 i293_37 rfl rfl rfl (fun h516 => ?_) (fun h516 => ?_)
    · refine X.cut [(0, zr 4 44), (1, zi y1), (2, zi y2), (4, zl y4), (6, zl y6)] i293_107 rfl ?_
      exact K107 y4 y6 (by first | trivial | omega) (by first | trivial | omega)
    · refine X.lload 42 i293_40 rfl rfl rfl ?_
      refine X.aload_n 43 i293_42 rfl rfl rfl ?_
      refine X.iload_n 44 i293_43 rfl rfl rfl ?_
      refine X.iconst 45 i293_44 rfl rfl (by decide) ?_
      refine X.iload 47 i293_45 rfl rfl rfl ?_
      refine X.callv 50 [zi y1, zi 0, zi y8] [zl y4] [(0, zr 4 44), (1, zi y1), (2, zi 0), (3, zi y8)] i293_47 rfl (by decide) rfl rfl (by omega) rfl rfl (by decide) rfl t288 (Nat.le_of_ble_eq_true rfl) (Nat.le_of_ble_eq_true rfl) rfl ?_
      refine c288_1 (B := B)  y1 0 y8 (by omega) (hJ.up (by omega)) (by omega) (by omega) (by omega) (by omega) (fun v519 hv519 => ?_)
      show X (EE s) d 293 50 [(0, zr 4 44), (1, zi y1), (2, zi y2), (3, zi y3), (4, zl y4), (6, zl y6), (8, zi y8)] [zl v519, zl y4] m _
      refine X.aload_n 51 i293_50 rfl rfl rfl ?_
      refine X.getF 54 i293_51 rfl rfl (by decide) rfl rfl ?_
      refine X.bipush 56 i293_54 rfl rfl (by decide) ?_
      refine X.iload 58 i293_56 rfl rfl rfl ?_
      refine X.iadd 59 i293_58 rfl rfl (by omega) ?_
      refine X.lald 60 i293_59 rfl rfl (by decide) rfl (by omega) ?_
      refine X.llF 61 .lmul (fun x y => x * y) i293_60 rfl rfl rfl (fun _ _ => rfl) (fun z520 hz520 => ?_)
      refine X.llF 62 .ladd (fun x y => x + y) i293_61 rfl rfl rfl (fun _ _ => rfl) (fun z521 hz521 => ?_)
      refine X.lstore 64 [(0, zr 4 44), (1, zi y1), (2, zi y2), (3, zi y3), (4, zl z521), (6, zl y6), (8, zi y8)] i293_62 rfl rfl rfl ?_
      refine X.aload_n 65 i293_64 rfl rfl rfl ?_
      refine X.getF 68 i293_65 rfl rfl (by decide) rfl rfl ?_
      refine X.iload_n 69 i293_68 rfl rfl rfl ?_
      refine X.bipush 71 i293_69 rfl rfl (by decide) ?_
      refine X.iadd 72 i293_71 rfl rfl (by omega) ?_
      refine X.iload 74 i293_72 rfl rfl rfl ?_
      refine X.iadd 75 i293_74 rfl rfl (by omega) ?_
      refine X.lald 76 i293_75 rfl rfl (by decide) rfl (by omega) ?_
      refine X.lload 78 i293_76 rfl rfl rfl ?_
      refine X.lcmp 79 i293_78 rfl rfl (fun z522 hz522 => ?_)
      refine X.ifle 97 82 i293_79 rfl rfl rfl (fun h523 => ?_) (fun h523 => ?_)
      · have h523c : (m 4 45 ((y3 + 36) + y8)) ≤ y6 := by omega
        clear h523 hz522
        refine X.lload 99 i293_97 rfl rfl rfl ?_
        refine X.cut [(0, zr 4 44), (1, zi y1), (2, zi y2), (3, zi y3), (4, zl z521), (8, zi y8)] i293_99 rfl ?_
        refine X.lstore 101 [(0, zr 4 44), (1, zi y1), (2, zi y2), (3, zi y3), (4, zl z521), (6, zl y6), (8, zi y8)] i293_99 rfl rfl rfl ?_
        refine X.iinc 104 [(0, zr 4 44), (1, zi y1), (2, zi y2), (3, zi y3), (4, zl z521), (6, zl y6), (8, zi (y8 + 1))] i293_101 rfl rfl rfl (by omega) rfl ?_
        refine X.goto 34 i293_104 rfl rfl ?_
        exact ih z521 y6 (y8 + 1) (by omega) (by omega) (by omega)
      · have h523c : (m 4 45 ((y3 + 36) + y8)) > y6 := by omega
        clear h523 hz522
        refine X.aload_n 83 i293_82 rfl rfl rfl ?_
        refine X.getF 86 i293_83 rfl rfl (by decide) rfl rfl ?_
        refine X.iload_n 87 i293_86 rfl rfl rfl ?_
        refine X.bipush 89 i293_87 rfl rfl (by decide) ?_
        refine X.iadd 90 i293_89 rfl rfl (by omega) ?_
        refine X.iload 92 i293_90 rfl rfl rfl ?_
        refine X.iadd 93 i293_92 rfl rfl (by omega) ?_
        refine X.lald 94 i293_93 rfl rfl (by decide) rfl (by omega) ?_
        refine X.goto 99 i293_94 rfl rfl ?_
        refine X.cut [(0, zr 4 44), (1, zi y1), (2, zi y2), (3, zi y3), (4, zl z521), (8, zi y8)] i293_99 rfl ?_
        refine X.lstore 101 [(0, zr 4 44), (1, zi y1), (2, zi y2), (3, zi y3), (4, zl z521), (6, zl (m 4 45 ((y3 + 36) + y8))), (8, zi y8)] i293_99 rfl rfl rfl ?_
        refine X.iinc 104 [(0, zr 4 44), (1, zi y1), (2, zi y2), (3, zi y3), (4, zl z521), (6, zl (m 4 45 ((y3 + 36) + y8))), (8, zi (y8 + 1))] i293_101 rfl rfl rfl (by omega) rfl ?_
        refine X.goto 34 i293_104 rfl rfl ?_
        exact ih z521 (m 4 45 ((y3 + 36) + y8)) (y8 + 1) (by omega) (by omega) (by omega)
-- WorkMeterModel.money
theorem c293_1 {s : Nat × (Nat → Int32)} {S : zS} {m0 m : zM} {B : Int} {d : Nat} {Q : Option zV → zM → Prop} (a1 a2 : Int) (hd : 132 ≤ d) (hJ : J S m0 B m) (hB : B + 0 ≤ 1000000000) (ha1 : (-2147483648) ≤ a1 ∧ a1 ≤ 2147483647) (ha2 : (-2147483648) ≤ a2 ∧ a2 ≤ 2147483647) (hQ : ∀ (v : Int), (True) → Q (some (zl v)) m) : X (EE s) d 293 0 [(0, zr 4 44), (1, zi a1), (2, zi a2)] [] m Q := by
  refine X.aload_n 1 i293_0 rfl rfl rfl ?_
  refine X.iload_n 2 i293_1 rfl rfl rfl ?_
  refine X.callv 5 [zi a1] [] [(0, zr 4 44), (1, zi a1)] i293_2 rfl (by decide) rfl rfl (by omega) rfl rfl (by decide) rfl t289 (Nat.le_of_ble_eq_true rfl) (Nat.le_of_ble_eq_true rfl) rfl ?_
  refine c289_1 (B := B)  a1 (by omega) (hJ.up (by omega)) (by omega) (by omega) (fun v503 hv503 hqv5030 => ?_)
  show X (EE s) d 293 5 [(0, zr 4 44), (1, zi a1), (2, zi a2)] [zi v503] m _
  refine X.istore_n 6 [(0, zr 4 44), (1, zi a1), (2, zi a2), (3, zi v503)] i293_5 rfl rfl rfl ?_
  refine X.iload_n 7 i293_6 rfl rfl rfl ?_
  refine X.iconst 8 i293_7 rfl rfl (by decide) ?_
  refine X.icmpeq 21 11 i293_8 rfl rfl rfl (fun h504 => ?_) (fun h504 => ?_)
  · refine X.cut [] i293_21 rfl ?_
    refine X.ldc2 24 i293_21 rfl rfl (by decide) ?_
    refine X.retl i293_24 rfl t293 ?_
    exact hQ (-1) (by first | trivial | omega) 
  · refine X.iload_n 12 i293_11 rfl rfl rfl ?_
    refine X.i2l 13 i293_12 rfl rfl ?_
    refine X.lconst (y := 0) 14 i293_13 rfl rfl rfl ?_
    refine X.lconst (y := 1) 15 i293_14 rfl rfl rfl ?_
    refine X.calls 18 [zl a2, zl 0, zl 1] [] [(0, zl a2), (2, zl 0), (4, zl 1)] i293_15 (by decide) rfl rfl (by omega) rfl rfl t204 (Nat.le_of_ble_eq_true rfl) (Nat.le_of_ble_eq_true rfl) rfl ?_
    refine X.lload_n 1 i204_0 rfl rfl rfl ?_
    refine X.lload_n 2 i204_1 rfl rfl rfl ?_
    refine X.lcmp 3 i204_2 rfl rfl (fun z505 hz505 => ?_)
    refine X.iflt 17 6 i204_3 rfl rfl rfl (fun h506 => ?_) (fun h506 => ?_)
    · have h506c : a2 < 0 := by omega
      clear h506 hz505
      refine X.cut [] i204_17 rfl ?_
      refine X.iconst 18 i204_17 rfl rfl (by decide) ?_
      refine X.retz i204_18 rfl t204 (by omega) ?_
      show X (EE s) d 293 18 [(0, zr 4 44), (1, zi a1), (2, zi a2), (3, zi v503)] [zi 0] m _
      refine X.ifne 25 21 i293_18 rfl rfl rfl (fun h507 => (by exfalso; omega)) (fun h507 => ?_)
      refine X.cut [] i293_21 rfl ?_
      refine X.ldc2 24 i293_21 rfl rfl (by decide) ?_
      refine X.retl i293_24 rfl t293 ?_
      exact hQ (-1) (by first | trivial | omega) 
    · have h506c : a2 ≥ 0 := by omega
      clear h506 hz505
      refine X.lload_n 7 i204_6 rfl rfl rfl ?_
      refine X.lload 9 i204_7 rfl rfl rfl ?_
      refine X.lcmp 10 i204_9 rfl rfl (fun z508 hz508 => ?_)
      refine X.ifgt 17 13 i204_10 rfl rfl rfl (fun h509 => ?_) (fun h509 => ?_)
      · have h509c : a2 > 1 := by omega
        clear h509 hz508
        refine X.cut [] i204_17 rfl ?_
        refine X.iconst 18 i204_17 rfl rfl (by decide) ?_
        refine X.retz i204_18 rfl t204 (by omega) ?_
        show X (EE s) d 293 18 [(0, zr 4 44), (1, zi a1), (2, zi a2), (3, zi v503)] [zi 0] m _
        refine X.ifne 25 21 i293_18 rfl rfl rfl (fun h510 => (by exfalso; omega)) (fun h510 => ?_)
        refine X.cut [] i293_21 rfl ?_
        refine X.ldc2 24 i293_21 rfl rfl (by decide) ?_
        refine X.retl i293_24 rfl t293 ?_
        exact hQ (-1) (by first | trivial | omega) 
      · have h509c : a2 ≤ 1 := by omega
        clear h509 hz508
        refine X.iconst 14 i204_13 rfl rfl (by decide) ?_
        refine X.goto 18 i204_14 rfl rfl ?_
        refine X.cut [] i204_18 rfl ?_
        refine X.retz i204_18 rfl t204 (by omega) ?_
        show X (EE s) d 293 18 [(0, zr 4 44), (1, zi a1), (2, zi a2), (3, zi v503)] [zi 1] m _
        refine X.ifne 25 21 i293_18 rfl rfl rfl (fun h511 => ?_) (fun h511 => (by exfalso; omega))
        refine X.lconst (y := 0) 26 i293_25 rfl rfl rfl ?_
        refine X.lstore 28 [(0, zr 4 44), (1, zi a1), (2, zi a2), (3, zi v503), (4, zl 0)] i293_26 rfl rfl rfl ?_
        refine X.lconst (y := 0) 29 i293_28 rfl rfl rfl ?_
        refine X.lstore 31 [(0, zr 4 44), (1, zi a1), (2, zi a2), (3, zi v503), (4, zl 0), (6, zl 0)] i293_29 rfl rfl rfl ?_
        refine X.iconst 32 i293_31 rfl rfl (by decide) ?_
        refine X.istore 34 [(0, zr 4 44), (1, zi a1), (2, zi a2), (3, zi v503), (4, zl 0), (6, zl 0), (8, zi 0)] i293_32 rfl rfl rfl ?_
        refine l293_34_1 (s := s) (S := S) (m0 := m0) (m := m) (B := B) (d := d)  a1 a2 v503 (by omega) (hJ.up (by omega)) (by omega) (by omega) (by omega) (by omega) (fun y512 y513 hby512 hby513 => ?_) ((4 - 0 : Int).toNat + 1) 0 0 0 (by omega) (by omega) (by omega)
        refine X.ldc2 110 i293_107 rfl rfl (by decide) ?_
        refine X.aload_n 111 i293_110 rfl rfl rfl ?_
        refine X.iload_n 112 i293_111 rfl rfl rfl ?_
        refine X.iconst 113 i293_112 rfl rfl (by decide) ?_
        refine X.iconst 114 i293_113 rfl rfl (by decide) ?_
        refine X.callv 117 [zi a1, zi 2, zi (-1)] [zl 100] [(0, zr 4 44), (1, zi a1), (2, zi 2), (3, zi (-1))] i293_114 rfl (by decide) rfl rfl (by omega) rfl rfl (by decide) rfl t288 (Nat.le_of_ble_eq_true rfl) (Nat.le_of_ble_eq_true rfl) rfl ?_
        refine c288_1 (B := B)  a1 2 (-1) (by omega) (hJ.up (by omega)) (by omega) (by omega) (by omega) (by omega) (fun v519 hv519 => ?_)
        show X (EE s) d 293 117 [(0, zr 4 44), (1, zi a1), (2, zi a2), (4, zl y512), (6, zl y513)] [zl v519, zl 100] m _
        refine X.aload_n 118 i293_117 rfl rfl rfl ?_
        refine X.iload_n 119 i293_118 rfl rfl rfl ?_
        refine X.iconst 120 i293_119 rfl rfl (by decide) ?_
        refine X.iconst 121 i293_120 rfl rfl (by decide) ?_
        refine X.callv 124 [zi a1, zi 5, zi (-1)] [zl v519, zl 100] [(0, zr 4 44), (1, zi a1), (2, zi 5), (3, zi (-1))] i293_121 rfl (by decide) rfl rfl (by omega) rfl rfl (by decide) rfl t288 (Nat.le_of_ble_eq_true rfl) (Nat.le_of_ble_eq_true rfl) rfl ?_
        refine c288_1 (B := B)  a1 5 (-1) (by omega) (hJ.up (by omega)) (by omega) (by omega) (by omega) (by omega) (fun v522 hv522 => ?_)
        show X (EE s) d 293 124 [(0, zr 4 44), (1, zi a1), (2, zi a2), (4, zl y512), (6, zl y513)] [zl v522, zl v519, zl 100] m _
        refine X.llF 125 .ladd (fun x y => x + y) i293_124 rfl rfl rfl (fun _ _ => rfl) (fun z523 hz523 => ?_)
        refine X.llF 126 .lmul (fun x y => x * y) i293_125 rfl rfl rfl (fun _ _ => rfl) (fun z524 hz524 => ?_)
        refine X.aload_n 127 i293_126 rfl rfl rfl ?_
        refine X.iload_n 128 i293_127 rfl rfl rfl ?_
        refine X.iconst 129 i293_128 rfl rfl (by decide) ?_
        refine X.iconst 130 i293_129 rfl rfl (by decide) ?_
        refine X.callv 133 [zi a1, zi 0, zi (-1)] [zl z524] [(0, zr 4 44), (1, zi a1), (2, zi 0), (3, zi (-1))] i293_130 rfl (by decide) rfl rfl (by omega) rfl rfl (by decide) rfl t288 (Nat.le_of_ble_eq_true rfl) (Nat.le_of_ble_eq_true rfl) rfl ?_
        refine c288_1 (B := B)  a1 0 (-1) (by omega) (hJ.up (by omega)) (by omega) (by omega) (by omega) (by omega) (fun v527 hv527 => ?_)
        show X (EE s) d 293 133 [(0, zr 4 44), (1, zi a1), (2, zi a2), (4, zl y512), (6, zl y513)] [zl v527, zl z524] m _
        refine X.aload_n 134 i293_133 rfl rfl rfl ?_
        refine X.getF 137 i293_134 rfl rfl (by decide) rfl rfl ?_
        refine X.sipush 140 i293_137 rfl rfl (by decide) ?_
        refine X.lald 141 i293_140 rfl rfl (by decide) rfl (by omega) ?_
        refine X.llF 142 .lmul (fun x y => x * y) i293_141 rfl rfl rfl (fun _ _ => rfl) (fun z528 hz528 => ?_)
        refine X.llF 143 .lsub (fun x y => x - y) i293_142 rfl rfl rfl (fun _ _ => rfl) (fun z529 hz529 => ?_)
        refine X.lstore 145 [(0, zr 4 44), (1, zi a1), (2, zi a2), (4, zl y512), (6, zl y513), (8, zl z529)] i293_143 rfl rfl rfl ?_
        refine X.ldc2 148 i293_145 rfl rfl (by decide) ?_
        refine X.lload 150 i293_148 rfl rfl rfl ?_
        refine X.lload 152 i293_150 rfl rfl rfl ?_
        refine X.aload_n 153 i293_152 rfl rfl rfl ?_
        refine X.getF 156 i293_153 rfl rfl (by decide) rfl rfl ?_
        refine X.sipush 159 i293_156 rfl rfl (by decide) ?_
        refine X.lald 160 i293_159 rfl rfl (by decide) rfl (by omega) ?_
        refine X.llF 161 .lmul (fun x y => x * y) i293_160 rfl rfl rfl (fun _ _ => rfl) (fun z530 hz530 => ?_)
        refine X.llF 162 .ladd (fun x y => x + y) i293_161 rfl rfl rfl (fun _ _ => rfl) (fun z531 hz531 => ?_)
        refine X.llF 163 .lmul (fun x y => x * y) i293_162 rfl rfl rfl (fun _ _ => rfl) (fun z532 hz532 => ?_)
        refine X.lload 165 i293_163 rfl rfl rfl ?_
        refine X.lconst (y := 0) 166 i293_165 rfl rfl rfl ?_
        refine X.lcmp 167 i293_166 rfl rfl (fun z533 hz533 => ?_)
        refine X.ifle 175 170 i293_167 rfl rfl rfl (fun h534 => ?_) (fun h534 => ?_)
        · have h534c : z529 ≤ 0 := by omega
          clear h534 hz533
          refine X.cut [(0, zr 4 44), (2, zi a2)] i293_175 rfl ?_
          refine X.lconst (y := 0) 176 i293_175 rfl rfl rfl ?_
          refine X.aload_n 177 i293_176 rfl rfl rfl ?_
          refine X.getF 180 i293_177 rfl rfl (by decide) rfl rfl ?_
          refine X.sipush 183 i293_180 rfl rfl (by decide) ?_
          refine X.lald 184 i293_183 rfl rfl (by decide) rfl (by omega) ?_
          refine X.lmul 185 i293_184 rfl rfl (by omega) ?_
          refine X.ladd 186 i293_185 rfl rfl (by omega) ?_
          refine X.lstore 188 [(0, zr 4 44), (2, zi a2), (10, zl (z532 + (0 * (m 4 45 1613))))] i293_186 rfl rfl rfl ?_
          refine X.ldc2 191 i293_188 rfl rfl (by decide) ?_
          refine X.aload_n 192 i293_191 rfl rfl rfl ?_
          refine X.getF 195 i293_192 rfl rfl (by decide) rfl rfl ?_
          refine X.iconst 196 i293_195 rfl rfl (by decide) ?_
          refine X.lald 197 i293_196 rfl rfl (by decide) rfl (by omega) ?_
          have h535 := r45_5 hJ 4
          refine X.lmul 198 i293_197 rfl rfl (by omega) ?_
          refine X.lstore 200 [(0, zr 4 44), (2, zi a2), (10, zl (z532 + (0 * (m 4 45 1613)))), (12, zl (100 * (m 4 45 5)))] i293_198 rfl rfl rfl ?_
          refine X.lload 202 i293_200 rfl rfl rfl ?_
          refine X.lload 204 i293_202 rfl rfl rfl ?_
          refine X.calls 207 [zl (100 * (m 4 45 5)), zl (z532 + (0 * (m 4 45 1613)))] [] [(0, zl (100 * (m 4 45 5))), (2, zl (z532 + (0 * (m 4 45 1613))))] i293_204 (by decide) rfl rfl (by omega) rfl rfl t294 (Nat.le_of_ble_eq_true rfl) (Nat.le_of_ble_eq_true rfl) rfl ?_
          refine c_dv (B := B)  (100 * (m 4 45 5)) (z532 + (0 * (m 4 45 1613))) (by omega) (hJ.up (by omega)) (by omega) (by omega) (by omega) (fun v538 hv538 hqv5380 => ?_)
          show X (EE s) d 293 207 [(0, zr 4 44), (2, zi a2), (10, zl (z532 + (0 * (m 4 45 1613)))), (12, zl (100 * (m 4 45 5)))] [zl v538] m _
          refine X.lstore 209 [(0, zr 4 44), (2, zi a2), (10, zl (z532 + (0 * (m 4 45 1613)))), (12, zl (100 * (m 4 45 5))), (14, zl v538)] i293_207 rfl rfl rfl ?_
          refine X.iload_n 210 i293_209 rfl rfl rfl ?_
          refine X.ifne 218 213 i293_210 rfl rfl rfl (fun h539 => ?_) (fun h539 => ?_)
          · refine X.cut [(12, zl (100 * (m 4 45 5))), (14, zl v538)] i293_218 rfl ?_
            refine X.lload 220 i293_218 rfl rfl rfl ?_
            refine X.cut [(14, zl v538)] i293_220 rfl ?_
            refine X.lload 222 i293_220 rfl rfl rfl ?_
            refine X.ldivZ 223 i293_222 rfl rfl (by omega) (fun z540 hz540 => ?_)
            refine X.retl i293_223 rfl t293 ?_
            exact hQ z540 (by first | trivial | omega) 
          · refine X.lload 215 i293_213 rfl rfl rfl ?_
            refine X.goto 220 i293_215 rfl rfl ?_
            refine X.cut [(14, zl v538)] i293_220 rfl ?_
            refine X.lload 222 i293_220 rfl rfl rfl ?_
            refine X.ldivZ 223 i293_222 rfl rfl (by omega) (fun z541 hz541 => ?_)
            refine X.retl i293_223 rfl t293 ?_
            exact hQ z541 (by first | trivial | omega) 
        · have h534c : z529 > 0 := by omega
          clear h534 hz533
          refine X.lload 172 i293_170 rfl rfl rfl ?_
          refine X.goto 176 i293_172 rfl rfl ?_
          refine X.cut [(0, zr 4 44), (2, zi a2)] i293_176 rfl ?_
          refine X.aload_n 177 i293_176 rfl rfl rfl ?_
          refine X.getF 180 i293_177 rfl rfl (by decide) rfl rfl ?_
          refine X.sipush 183 i293_180 rfl rfl (by decide) ?_
          refine X.lald 184 i293_183 rfl rfl (by decide) rfl (by omega) ?_
          refine X.llF 185 .lmul (fun x y => x * y) i293_184 rfl rfl rfl (fun _ _ => rfl) (fun z542 hz542 => ?_)
          refine X.llF 186 .ladd (fun x y => x + y) i293_185 rfl rfl rfl (fun _ _ => rfl) (fun z543 hz543 => ?_)
          refine X.lstore 188 [(0, zr 4 44), (2, zi a2), (10, zl z543)] i293_186 rfl rfl rfl ?_
          refine X.ldc2 191 i293_188 rfl rfl (by decide) ?_
          refine X.aload_n 192 i293_191 rfl rfl rfl ?_
          refine X.getF 195 i293_192 rfl rfl (by decide) rfl rfl ?_
          refine X.iconst 196 i293_195 rfl rfl (by decide) ?_
          refine X.lald 197 i293_196 rfl rfl (by decide) rfl (by omega) ?_
          have h544 := r45_5 hJ 4
          refine X.lmul 198 i293_197 rfl rfl (by omega) ?_
          refine X.lstore 200 [(0, zr 4 44), (2, zi a2), (10, zl z543), (12, zl (100 * (m 4 45 5)))] i293_198 rfl rfl rfl ?_
          refine X.lload 202 i293_200 rfl rfl rfl ?_
          refine X.lload 204 i293_202 rfl rfl rfl ?_
          refine X.calls 207 [zl (100 * (m 4 45 5)), zl z543] [] [(0, zl (100 * (m 4 45 5))), (2, zl z543)] i293_204 (by decide) rfl rfl (by omega) rfl rfl t294 (Nat.le_of_ble_eq_true rfl) (Nat.le_of_ble_eq_true rfl) rfl ?_
          refine c_dv (B := B)  (100 * (m 4 45 5)) z543 (by omega) (hJ.up (by omega)) (by omega) (by omega) (by omega) (fun v547 hv547 hqv5470 => ?_)
          show X (EE s) d 293 207 [(0, zr 4 44), (2, zi a2), (10, zl z543), (12, zl (100 * (m 4 45 5)))] [zl v547] m _
          refine X.lstore 209 [(0, zr 4 44), (2, zi a2), (10, zl z543), (12, zl (100 * (m 4 45 5))), (14, zl v547)] i293_207 rfl rfl rfl ?_
          refine X.iload_n 210 i293_209 rfl rfl rfl ?_
          refine X.ifne 218 213 i293_210 rfl rfl rfl (fun h548 => ?_) (fun h548 => ?_)
          · refine X.cut [(12, zl (100 * (m 4 45 5))), (14, zl v547)] i293_218 rfl ?_
            refine X.lload 220 i293_218 rfl rfl rfl ?_
            refine X.cut [(14, zl v547)] i293_220 rfl ?_
            refine X.lload 222 i293_220 rfl rfl rfl ?_
            refine X.ldivZ 223 i293_222 rfl rfl (by omega) (fun z549 hz549 => ?_)
            refine X.retl i293_223 rfl t293 ?_
            exact hQ z549 (by first | trivial | omega) 
          · refine X.lload 215 i293_213 rfl rfl rfl ?_
            refine X.goto 220 i293_215 rfl rfl ?_
            refine X.cut [(14, zl v547)] i293_220 rfl ?_
            refine X.lload 222 i293_220 rfl rfl rfl ?_
            refine X.ldivZ 223 i293_222 rfl rfl (by omega) (fun z550 hz550 => ?_)
            refine X.retl i293_223 rfl t293 ?_
            exact hQ z550 (by first | trivial | omega) 
-- WorkMeter$Wave.copyFrom
theorem c173_1 {s : Nat × (Nat → Int32)} {S : zS} {m0 m : zM} {B : Int} {d : Nat} {Q : Option zV → zM → Prop} (g0 g1 : Nat) (hd : 13 ≤ d) (hJ : J S m0 B m) (hB : B + 0 ≤ 1000000000) (hs0 : S.1 g0 19 3) (hs1 : S.1 g0 19 4) (hs2 : S.1 g0 19 5) (hQ : ∀ m', J S m0 (B) m' → (m' g0 19 3 = m g1 19 3 ∧ m' g0 19 4 = m g1 19 4 ∧ m' g0 19 5 = m g1 19 5) → Q none m') : X (EE s) d 173 0 [(0, zr g0 19), (1, zr g1 19)] [] m Q := by
  refine X.aload_n 1 i173_0 rfl rfl rfl ?_
  refine X.getR 4 i173_1 rfl rfl (by decide) rfl rfl ?_
  refine X.iconst 5 i173_4 rfl rfl (by decide) ?_
  refine X.aload_n 6 i173_5 rfl rfl rfl ?_
  refine X.getR 9 i173_6 rfl rfl (by decide) rfl rfl ?_
  refine X.iconst 10 i173_9 rfl rfl (by decide) ?_
  refine X.aload_n 11 i173_10 rfl rfl rfl ?_
  refine X.getR 14 i173_11 rfl rfl (by decide) rfl rfl ?_
  refine X.alen 15 i173_14 rfl rfl (by decide) rfl ?_
  show X (EE s) d 173 15 [(0, zr g0 19), (1, zr g1 19)] [zi 48, zi 0, zr g0 20, zi 0, zr g1 20] m _
  refine X.cpI' 18 i173_15 rfl rfl (by omega) (Nat.le_of_ble_eq_true rfl) (by decide) (by decide) rfl rfl (by omega) (fun m501 hm501 => ?_)
  have hJ502 := J.cpyS hJ hm501 (fun _ => rfl)
  have wt503 : m501 g0 19 3 = (m g0 19 3) := by rw [hm501]; exact z_cpy_o rfl
  have wt504 : m501 g0 19 4 = (m g0 19 4) := by rw [hm501]; exact z_cpy_o rfl
  have wt505 : m501 g0 19 5 = (m g0 19 5) := by rw [hm501]; exact z_cpy_o rfl
  have wt506 : m501 g1 19 3 = (m g1 19 3) := by rw [hm501]; exact z_cpy_o rfl
  have wt507 : m501 g1 19 4 = (m g1 19 4) := by rw [hm501]; exact z_cpy_o rfl
  have wt508 : m501 g1 19 5 = (m g1 19 5) := by rw [hm501]; exact z_cpy_o rfl
  refine X.aload_n 19 i173_18 rfl rfl rfl ?_
  refine X.getR 22 i173_19 rfl rfl (by decide) rfl rfl ?_
  refine X.iconst 23 i173_22 rfl rfl (by decide) ?_
  refine X.aload_n 24 i173_23 rfl rfl rfl ?_
  refine X.getR 27 i173_24 rfl rfl (by decide) rfl rfl ?_
  refine X.iconst 28 i173_27 rfl rfl (by decide) ?_
  refine X.aload_n 29 i173_28 rfl rfl rfl ?_
  refine X.getR 32 i173_29 rfl rfl (by decide) rfl rfl ?_
  refine X.alen 33 i173_32 rfl rfl (by decide) rfl ?_
  show X (EE s) d 173 33 [(0, zr g0 19), (1, zr g1 19)] [zi 48, zi 0, zr g0 21, zi 0, zr g1 21] m501 _
  refine X.cpI' 36 i173_33 rfl rfl (by omega) (Nat.le_of_ble_eq_true rfl) (by decide) (by decide) rfl rfl (by omega) (fun m509 hm509 => ?_)
  have hJ510 := J.cpyS hJ502 hm509 (fun _ => rfl)
  have wt511 : m509 g0 19 3 = (m g0 19 3) := Eq.trans (by rw [hm509]; exact z_cpy_o rfl) wt503
  have wt512 : m509 g0 19 4 = (m g0 19 4) := Eq.trans (by rw [hm509]; exact z_cpy_o rfl) wt504
  have wt513 : m509 g0 19 5 = (m g0 19 5) := Eq.trans (by rw [hm509]; exact z_cpy_o rfl) wt505
  have wt514 : m509 g1 19 3 = (m g1 19 3) := Eq.trans (by rw [hm509]; exact z_cpy_o rfl) wt506
  have wt515 : m509 g1 19 4 = (m g1 19 4) := Eq.trans (by rw [hm509]; exact z_cpy_o rfl) wt507
  have wt516 : m509 g1 19 5 = (m g1 19 5) := Eq.trans (by rw [hm509]; exact z_cpy_o rfl) wt508
  clear wt503 wt504 wt505 wt506 wt507 wt508
  refine X.aload_n 37 i173_36 rfl rfl rfl ?_
  refine X.getR 40 i173_37 rfl rfl (by decide) rfl rfl ?_
  refine X.iconst 41 i173_40 rfl rfl (by decide) ?_
  refine X.aload_n 42 i173_41 rfl rfl rfl ?_
  refine X.getR 45 i173_42 rfl rfl (by decide) rfl rfl ?_
  refine X.iconst 46 i173_45 rfl rfl (by decide) ?_
  refine X.aload_n 47 i173_46 rfl rfl rfl ?_
  refine X.getR 50 i173_47 rfl rfl (by decide) rfl rfl ?_
  refine X.alen 51 i173_50 rfl rfl (by decide) rfl ?_
  show X (EE s) d 173 51 [(0, zr g0 19), (1, zr g1 19)] [zi 16, zi 0, zr g0 22, zi 0, zr g1 22] m509 _
  refine X.cpL' 54 i173_51 rfl rfl (by omega) (Nat.le_of_ble_eq_true rfl) (by decide) (by decide) rfl rfl (by omega) (fun m517 hm517 => ?_)
  have hJ518 := J.cpyS hJ510 hm517 (fun _ => rfl)
  have wt519 : m517 g0 19 3 = (m g0 19 3) := Eq.trans (by rw [hm517]; exact z_cpy_o rfl) wt511
  have wt520 : m517 g0 19 4 = (m g0 19 4) := Eq.trans (by rw [hm517]; exact z_cpy_o rfl) wt512
  have wt521 : m517 g0 19 5 = (m g0 19 5) := Eq.trans (by rw [hm517]; exact z_cpy_o rfl) wt513
  have wt522 : m517 g1 19 3 = (m g1 19 3) := Eq.trans (by rw [hm517]; exact z_cpy_o rfl) wt514
  have wt523 : m517 g1 19 4 = (m g1 19 4) := Eq.trans (by rw [hm517]; exact z_cpy_o rfl) wt515
  have wt524 : m517 g1 19 5 = (m g1 19 5) := Eq.trans (by rw [hm517]; exact z_cpy_o rfl) wt516
  clear wt511 wt512 wt513 wt514 wt515 wt516
  refine X.aload_n 55 i173_54 rfl rfl rfl ?_
  refine X.aload_n 56 i173_55 rfl rfl rfl ?_
  refine X.getI 59 3 i173_56 rfl rfl (by decide) rfl rfl rfl ?_
  have h525 := r19_3 hJ518 g1
  refine X.putI' 62 3 i173_59 rfl rfl (by decide) rfl rfl rfl (fun hrm526 m526 hm526 => ?_)
  have hJ527 := w19_3 hJ518 hm526 (by omega) hs0
  have wt528 : m526 g0 19 3 = (m517 g1 19 3) := by rw [hm526]; exact z_upd_same _ _ _ _ _
  have wt529 : m526 g0 19 4 = (m g0 19 4) := Eq.trans (by rw [hm526]; exact z_upd_o _ _ rfl) wt520
  have wt530 : m526 g0 19 5 = (m g0 19 5) := Eq.trans (by rw [hm526]; exact z_upd_o _ _ rfl) wt521
  have wt531 : m526 g1 19 4 = (m g1 19 4) := Eq.trans (by rw [hm526]; exact z_upd_o _ _ rfl) wt523
  have wt532 : m526 g1 19 5 = (m g1 19 5) := Eq.trans (by rw [hm526]; exact z_upd_o _ _ rfl) wt524
  clear wt519 wt520 wt521 wt523 wt524
  refine X.aload_n 63 i173_62 rfl rfl rfl ?_
  refine X.aload_n 64 i173_63 rfl rfl rfl ?_
  refine X.getI 67 4 i173_64 rfl rfl (by decide) rfl rfl rfl ?_
  have h533 := r19_4 hJ527 g1
  refine X.putI' 70 4 i173_67 rfl rfl (by decide) rfl rfl rfl (fun hrm534 m534 hm534 => ?_)
  have hJ535 := w19_4 hJ527 hm534 (by omega) hs1
  have wt536 : m534 g0 19 3 = (m517 g1 19 3) := Eq.trans (by rw [hm534]; exact z_upd_o _ _ rfl) wt528
  have wt537 : m534 g0 19 4 = (m526 g1 19 4) := by rw [hm534]; exact z_upd_same _ _ _ _ _
  have wt538 : m534 g0 19 5 = (m g0 19 5) := Eq.trans (by rw [hm534]; exact z_upd_o _ _ rfl) wt530
  have wt539 : m534 g1 19 3 = (m526 g1 19 3) := by rw [hm534]; exact z_upd_o _ _ rfl
  have wt540 : m534 g1 19 5 = (m g1 19 5) := Eq.trans (by rw [hm534]; exact z_upd_o _ _ rfl) wt532
  clear wt528 wt529 wt530 wt532
  refine X.aload_n 71 i173_70 rfl rfl rfl ?_
  refine X.aload_n 72 i173_71 rfl rfl rfl ?_
  refine X.getI 75 5 i173_72 rfl rfl (by decide) rfl rfl rfl ?_
  have h541 := r19_5 hJ535 g1
  refine X.putI' 78 5 i173_75 rfl rfl (by decide) rfl rfl rfl (fun hrm542 m542 hm542 => ?_)
  have hJ543 := w19_5 hJ535 hm542 (by omega) hs2
  have wt544 : m542 g0 19 3 = (m517 g1 19 3) := Eq.trans (by rw [hm542]; exact z_upd_o _ _ rfl) wt536
  have wt545 : m542 g0 19 4 = (m526 g1 19 4) := Eq.trans (by rw [hm542]; exact z_upd_o _ _ rfl) wt537
  have wt546 : m542 g0 19 5 = (m534 g1 19 5) := by rw [hm542]; exact z_upd_same _ _ _ _ _
  have wt547 : m542 g1 19 3 = (m526 g1 19 3) := Eq.trans (by rw [hm542]; exact z_upd_o _ _ rfl) wt539
  have wt548 : m542 g1 19 4 = (m534 g1 19 4) := by rw [hm542]; exact z_upd_o _ _ rfl
  clear wt536 wt537 wt538 wt539
  have em542 : m542 g0 19 5 = (m534 g1 19 5) := by rw [hm542]; exact z_upd_same _ _ _ _ _
  refine X.aload_n 79 i173_78 rfl rfl rfl ?_
  refine X.aload_n 80 i173_79 rfl rfl rfl ?_
  refine X.getL 83 6 i173_80 rfl rfl (by decide) rfl rfl rfl ?_
  refine X.putL' 86 6 i173_83 rfl rfl (by decide) rfl rfl rfl (fun hrm549 m549 hm549 => ?_)
  have hJ550 := w19_6 hJ543 hm549 hrm549
  have wt551 : m549 g0 19 3 = (m517 g1 19 3) := Eq.trans (by rw [hm549]; exact z_upd_o _ _ rfl) wt544
  have wt552 : m549 g0 19 4 = (m526 g1 19 4) := Eq.trans (by rw [hm549]; exact z_upd_o _ _ rfl) wt545
  have wt553 : m549 g0 19 5 = (m534 g1 19 5) := Eq.trans (by rw [hm549]; exact z_upd_o _ _ rfl) wt546
  have wt554 : m549 g1 19 3 = (m526 g1 19 3) := Eq.trans (by rw [hm549]; exact z_upd_o _ _ rfl) wt547
  have wt555 : m549 g1 19 4 = (m534 g1 19 4) := Eq.trans (by rw [hm549]; exact z_upd_o _ _ rfl) wt548
  have wt556 : m549 g1 19 5 = (m542 g1 19 5) := by rw [hm549]; exact z_upd_o _ _ rfl
  clear wt544 wt545 wt546 wt547 wt548
  refine X.retv i173_86 rfl t173 ?_
  exact hQ  m549  (hJ550.up (by omega)) (by exact ⟨by omega, by omega, by omega⟩)
-- WorkMeter$Registers.copyFrom
theorem c174_1 {s : Nat × (Nat → Int32)} {S : zS} {m0 m : zM} {B : Int} {d : Nat} {Q : Option zV → zM → Prop} (g0 g1 : Nat) (hd : 13 ≤ d) (hJ : J S m0 B m) (hB : B + 1 ≤ 1000000000) (hs0 : S.1 g0 23 3) (hQ : ∀ m', J S m0 (B + 1) m' → (m' g0 23 3 = m g1 23 3) → Q none m') : X (EE s) d 174 0 [(0, zr g0 23), (1, zr g1 23)] [] m Q := by
  refine X.aload_n 1 i174_0 rfl rfl rfl ?_
  refine X.getR 4 i174_1 rfl rfl (by decide) rfl rfl ?_
  refine X.iconst 5 i174_4 rfl rfl (by decide) ?_
  refine X.aload_n 6 i174_5 rfl rfl rfl ?_
  refine X.getR 9 i174_6 rfl rfl (by decide) rfl rfl ?_
  refine X.iconst 10 i174_9 rfl rfl (by decide) ?_
  refine X.bipush 12 i174_10 rfl rfl (by decide) ?_
  refine X.cpL' 15 i174_12 rfl rfl (by omega) (Nat.le_of_ble_eq_true rfl) (by decide) (by decide) rfl rfl (by omega) (fun m501 hm501 => ?_)
  have hJ502 := J.cpyS hJ hm501 (fun _ => rfl)
  have wt503 : m501 g0 23 3 = (m g0 23 3) := by rw [hm501]; exact z_cpy_o rfl
  have wt504 : m501 g1 23 3 = (m g1 23 3) := by rw [hm501]; exact z_cpy_o rfl
  refine X.aload_n 16 i174_15 rfl rfl rfl ?_
  refine X.getR 19 i174_16 rfl rfl (by decide) rfl rfl ?_
  refine X.iconst 20 i174_19 rfl rfl (by decide) ?_
  refine X.aload_n 21 i174_20 rfl rfl rfl ?_
  refine X.getR 24 i174_21 rfl rfl (by decide) rfl rfl ?_
  refine X.iconst 25 i174_24 rfl rfl (by decide) ?_
  refine X.bipush 27 i174_25 rfl rfl (by decide) ?_
  refine X.cpL' 30 i174_27 rfl rfl (by omega) (Nat.le_of_ble_eq_true rfl) (by decide) (by decide) rfl rfl (by omega) (fun m505 hm505 => ?_)
  have hJ506 := J.cpyS hJ502 hm505 (fun _ => rfl)
  have wt507 : m505 g0 23 3 = (m g0 23 3) := Eq.trans (by rw [hm505]; exact z_cpy_o rfl) wt503
  have wt508 : m505 g1 23 3 = (m g1 23 3) := Eq.trans (by rw [hm505]; exact z_cpy_o rfl) wt504
  clear wt503 wt504
  refine X.aload_n 31 i174_30 rfl rfl rfl ?_
  refine X.getR 34 i174_31 rfl rfl (by decide) rfl rfl ?_
  refine X.iconst 35 i174_34 rfl rfl (by decide) ?_
  refine X.aload_n 36 i174_35 rfl rfl rfl ?_
  refine X.getR 39 i174_36 rfl rfl (by decide) rfl rfl ?_
  refine X.iconst 40 i174_39 rfl rfl (by decide) ?_
  refine X.aload_n 41 i174_40 rfl rfl rfl ?_
  refine X.getR 44 i174_41 rfl rfl (by decide) rfl rfl ?_
  refine X.alen 45 i174_44 rfl rfl (by decide) rfl ?_
  show X (EE s) d 174 45 [(0, zr g0 23), (1, zr g1 23)] [zi 198, zi 0, zr g0 26, zi 0, zr g1 26] m505 _
  refine X.cpL' 48 i174_45 rfl rfl (by omega) (Nat.le_of_ble_eq_true rfl) (by decide) (by decide) rfl rfl (by omega) (fun m509 hm509 => ?_)
  have hJ510 := J.cpyS hJ506 hm509 (fun _ => rfl)
  have wt511 : m509 g0 23 3 = (m g0 23 3) := Eq.trans (by rw [hm509]; exact z_cpy_o rfl) wt507
  have wt512 : m509 g1 23 3 = (m g1 23 3) := Eq.trans (by rw [hm509]; exact z_cpy_o rfl) wt508
  clear wt507 wt508
  refine X.aload_n 49 i174_48 rfl rfl rfl ?_
  refine X.aload_n 50 i174_49 rfl rfl rfl ?_
  refine X.getI 53 3 i174_50 rfl rfl (by decide) rfl rfl rfl ?_
  have h513 := r23_3 hJ510 g1
  refine X.putI' 56 3 i174_53 rfl rfl (by decide) rfl rfl rfl (fun hrm514 m514 hm514 => ?_)
  have hJ515 := w23_3 (hJ510.up (B' := B + 1) (by omega)) hm514 (by omega) hs0
  have wt516 : m514 g0 23 3 = (m509 g1 23 3) := by rw [hm514]; exact z_upd_same _ _ _ _ _
  clear wt511
  refine X.retv i174_56 rfl t174 ?_
  exact hQ  m514  (hJ515.up (by omega)) (by exact (by omega))
-- WorkMeter$Load.copyFrom
theorem c175_1 {s : Nat × (Nat → Int32)} {S : zS} {m0 m : zM} {B : Int} {d : Nat} {Q : Option zV → zM → Prop} (g0 g1 : Nat) (hd : 13 ≤ d) (hJ : J S m0 B m) (hB : B + 1 ≤ 1000000000) (hQ : ∀ m', J S m0 (B + 1) m' → Q none m') : X (EE s) d 175 0 [(0, zr g0 27), (1, zr g1 27)] [] m Q := by
  refine X.aload_n 1 i175_0 rfl rfl rfl ?_
  refine X.getR 4 i175_1 rfl rfl (by decide) rfl rfl ?_
  refine X.iconst 5 i175_4 rfl rfl (by decide) ?_
  refine X.aload_n 6 i175_5 rfl rfl rfl ?_
  refine X.getR 9 i175_6 rfl rfl (by decide) rfl rfl ?_
  refine X.iconst 10 i175_9 rfl rfl (by decide) ?_
  refine X.aload_n 11 i175_10 rfl rfl rfl ?_
  refine X.getR 14 i175_11 rfl rfl (by decide) rfl rfl ?_
  refine X.alen 15 i175_14 rfl rfl (by decide) rfl ?_
  show X (EE s) d 175 15 [(0, zr g0 27), (1, zr g1 27)] [zi 384, zi 0, zr g0 28, zi 0, zr g1 28] m _
  refine X.cpL' 18 i175_15 rfl rfl (by omega) (Nat.le_of_ble_eq_true rfl) (by decide) (by decide) rfl rfl (by omega) (fun m501 hm501 => ?_)
  have hJ502 := J.cpyS hJ hm501 (fun _ => rfl)
  refine X.aload_n 19 i175_18 rfl rfl rfl ?_
  refine X.getR 22 i175_19 rfl rfl (by decide) rfl rfl ?_
  refine X.iconst 23 i175_22 rfl rfl (by decide) ?_
  refine X.aload_n 24 i175_23 rfl rfl rfl ?_
  refine X.getR 27 i175_24 rfl rfl (by decide) rfl rfl ?_
  refine X.iconst 28 i175_27 rfl rfl (by decide) ?_
  refine X.iconst 29 i175_28 rfl rfl (by decide) ?_
  refine X.cpL' 32 i175_29 rfl rfl (by omega) (Nat.le_of_ble_eq_true rfl) (by decide) (by decide) rfl rfl (by omega) (fun m503 hm503 => ?_)
  have hJ504 := J.cpyS hJ502 hm503 (fun _ => rfl)
  refine X.aload_n 33 i175_32 rfl rfl rfl ?_
  refine X.aload_n 34 i175_33 rfl rfl rfl ?_
  refine X.getI 37 2 i175_34 rfl rfl (by decide) rfl rfl rfl ?_
  have h505 := r27_2 hJ504 g1
  refine X.putI' 40 2 i175_37 rfl rfl (by decide) rfl rfl rfl (fun hrm506 m506 hm506 => ?_)
  have hJ507 := w27_2 (hJ504.up (B' := B + 1) (by omega)) hm506 (by omega)
  refine X.aload_n 41 i175_40 rfl rfl rfl ?_
  refine X.aload_n 42 i175_41 rfl rfl rfl ?_
  refine X.getL 45 3 i175_42 rfl rfl (by decide) rfl rfl rfl ?_
  refine X.putL' 48 3 i175_45 rfl rfl (by decide) rfl rfl rfl (fun hrm508 m508 hm508 => ?_)
  have hJ509 := w27_3 hJ507 hm508 (by omega) hrm508
  refine X.aload_n 49 i175_48 rfl rfl rfl ?_
  refine X.aload_n 50 i175_49 rfl rfl rfl ?_
  refine X.getL 53 4 i175_50 rfl rfl (by decide) rfl rfl rfl ?_
  refine X.putL' 56 4 i175_53 rfl rfl (by decide) rfl rfl rfl (fun hrm510 m510 hm510 => ?_)
  have hJ511 := w27_3 hJ509 hm510 (by omega) hrm510
  refine X.aload_n 57 i175_56 rfl rfl rfl ?_
  refine X.aload_n 58 i175_57 rfl rfl rfl ?_
  refine X.getL 61 5 i175_58 rfl rfl (by decide) rfl rfl rfl ?_
  refine X.putL' 64 5 i175_61 rfl rfl (by decide) rfl rfl rfl (fun hrm512 m512 hm512 => ?_)
  have hJ513 := w27_3 hJ511 hm512 (by omega) hrm512
  refine X.aload_n 65 i175_64 rfl rfl rfl ?_
  refine X.aload_n 66 i175_65 rfl rfl rfl ?_
  refine X.getIr 69 6 i175_66 rfl rfl (by decide) rfl rfl rfl (fun h514 => ?_)
  refine X.putI' 72 6 i175_69 rfl rfl (by decide) rfl rfl rfl (fun hrm515 m515 hm515 => ?_)
  have hJ516 := w27_3 hJ513 hm515 (by omega) hrm515
  refine X.aload_n 73 i175_72 rfl rfl rfl ?_
  refine X.aload_n 74 i175_73 rfl rfl rfl ?_
  refine X.getIr 77 7 i175_74 rfl rfl (by decide) rfl rfl rfl (fun h517 => ?_)
  refine X.putI' 80 7 i175_77 rfl rfl (by decide) rfl rfl rfl (fun hrm518 m518 hm518 => ?_)
  have hJ519 := w27_3 hJ516 hm518 (by omega) hrm518
  refine X.aload_n 81 i175_80 rfl rfl rfl ?_
  refine X.aload_n 82 i175_81 rfl rfl rfl ?_
  refine X.getIr 85 8 i175_82 rfl rfl (by decide) rfl rfl rfl (fun h520 => ?_)
  refine X.putI' 88 8 i175_85 rfl rfl (by decide) rfl rfl rfl (fun hrm521 m521 hm521 => ?_)
  have hJ522 := w27_3 hJ519 hm521 (by omega) hrm521
  refine X.aload_n 89 i175_88 rfl rfl rfl ?_
  refine X.aload_n 90 i175_89 rfl rfl rfl ?_
  refine X.getI 93 9 i175_90 rfl rfl (by decide) rfl rfl rfl ?_
  have h523 := r27_9 hJ522 g1
  refine X.putI' 96 9 i175_93 rfl rfl (by decide) rfl rfl rfl (fun hrm524 m524 hm524 => ?_)
  have hJ525 := w27_9 hJ522 hm524 (by omega)
  refine X.retv i175_96 rfl t175 ?_
  exact hQ  m524  (hJ525.up (by omega)) 
-- WorkMeter$Seal.copyFrom
theorem c179_1 {s : Nat × (Nat → Int32)} {S : zS} {m0 m : zM} {B : Int} {d : Nat} {Q : Option zV → zM → Prop} (g0 g1 : Nat) (hd : 13 ≤ d) (hJ : J S m0 B m) (hB : B + 1 ≤ 1000000000) (hs0 : S.1 g0 39 0) (hs1 : S.1 g0 39 1) (hs2 : S.1 g0 39 2) (hs3 : S.1 g0 39 4) (hQ : ∀ m', J S m0 (B + 1) m' → (m' g0 39 0 = m g1 39 0 ∧ m' g0 39 1 = m g1 39 1 ∧ m' g0 39 2 = m g1 39 2 ∧ m' g0 39 4 = m g1 39 4) → Q none m') : X (EE s) d 179 0 [(0, zr g0 39), (1, zr g1 39)] [] m Q := by
  refine X.aload_n 1 i179_0 rfl rfl rfl ?_
  refine X.aload_n 2 i179_1 rfl rfl rfl ?_
  refine X.getZ 5 0 i179_2 rfl rfl (by decide) rfl rfl rfl (fun h501 => ?_)
  refine X.putZ' 8 0 i179_5 rfl rfl (by decide) rfl rfl rfl (by omega) (fun hrm502 m502 hm502 => ?_)
  have hJ503 := w39_0 hJ hm502 (by omega) hs0
  have wt504 : m502 g0 39 0 = (m g1 39 0) := by rw [hm502]; exact z_upd_same _ _ _ _ _
  have wt505 : m502 g0 39 1 = (m g0 39 1) := by rw [hm502]; exact z_upd_o _ _ rfl
  have wt506 : m502 g0 39 2 = (m g0 39 2) := by rw [hm502]; exact z_upd_o _ _ rfl
  have wt507 : m502 g0 39 4 = (m g0 39 4) := by rw [hm502]; exact z_upd_o _ _ rfl
  have wt508 : m502 g1 39 1 = (m g1 39 1) := by rw [hm502]; exact z_upd_o _ _ rfl
  have wt509 : m502 g1 39 2 = (m g1 39 2) := by rw [hm502]; exact z_upd_o _ _ rfl
  have wt510 : m502 g1 39 4 = (m g1 39 4) := by rw [hm502]; exact z_upd_o _ _ rfl
  refine X.aload_n 9 i179_8 rfl rfl rfl ?_
  refine X.aload_n 10 i179_9 rfl rfl rfl ?_
  refine X.getIr 13 1 i179_10 rfl rfl (by decide) rfl rfl rfl (fun h511 => ?_)
  refine X.putI' 16 1 i179_13 rfl rfl (by decide) rfl rfl rfl (fun hrm512 m512 hm512 => ?_)
  have hJ513 := w39_1 hJ503 hm512 hrm512 hs1
  have wt514 : m512 g0 39 0 = (m g1 39 0) := Eq.trans (by rw [hm512]; exact z_upd_o _ _ rfl) wt504
  have wt515 : m512 g0 39 1 = (m502 g1 39 1) := by rw [hm512]; exact z_upd_same _ _ _ _ _
  have wt516 : m512 g0 39 2 = (m g0 39 2) := Eq.trans (by rw [hm512]; exact z_upd_o _ _ rfl) wt506
  have wt517 : m512 g0 39 4 = (m g0 39 4) := Eq.trans (by rw [hm512]; exact z_upd_o _ _ rfl) wt507
  have wt518 : m512 g1 39 0 = (m502 g1 39 0) := by rw [hm512]; exact z_upd_o _ _ rfl
  have wt519 : m512 g1 39 2 = (m g1 39 2) := Eq.trans (by rw [hm512]; exact z_upd_o _ _ rfl) wt509
  have wt520 : m512 g1 39 4 = (m g1 39 4) := Eq.trans (by rw [hm512]; exact z_upd_o _ _ rfl) wt510
  clear wt504 wt505 wt506 wt507 wt509 wt510
  refine X.aload_n 17 i179_16 rfl rfl rfl ?_
  refine X.aload_n 18 i179_17 rfl rfl rfl ?_
  refine X.getI 21 2 i179_18 rfl rfl (by decide) rfl rfl rfl ?_
  have h521 := r39_2 hJ513 g1
  refine X.putI' 24 2 i179_21 rfl rfl (by decide) rfl rfl rfl (fun hrm522 m522 hm522 => ?_)
  have hJ523 := w39_2 (hJ513.up (B' := B + 1) (by omega)) hm522 (by omega) hs2
  have wt524 : m522 g0 39 0 = (m g1 39 0) := Eq.trans (by rw [hm522]; exact z_upd_o _ _ rfl) wt514
  have wt525 : m522 g0 39 1 = (m502 g1 39 1) := Eq.trans (by rw [hm522]; exact z_upd_o _ _ rfl) wt515
  have wt526 : m522 g0 39 2 = (m512 g1 39 2) := by rw [hm522]; exact z_upd_same _ _ _ _ _
  have wt527 : m522 g0 39 4 = (m g0 39 4) := Eq.trans (by rw [hm522]; exact z_upd_o _ _ rfl) wt517
  have wt528 : m522 g1 39 0 = (m502 g1 39 0) := Eq.trans (by rw [hm522]; exact z_upd_o _ _ rfl) wt518
  have wt529 : m522 g1 39 1 = (m512 g1 39 1) := by rw [hm522]; exact z_upd_o _ _ rfl
  have wt530 : m522 g1 39 4 = (m g1 39 4) := Eq.trans (by rw [hm522]; exact z_upd_o _ _ rfl) wt520
  clear wt514 wt515 wt516 wt517 wt518 wt520
  refine X.aload_n 25 i179_24 rfl rfl rfl ?_
  refine X.aload_n 26 i179_25 rfl rfl rfl ?_
  refine X.getIr 29 3 i179_26 rfl rfl (by decide) rfl rfl rfl (fun h531 => ?_)
  refine X.putI' 32 3 i179_29 rfl rfl (by decide) rfl rfl rfl (fun hrm532 m532 hm532 => ?_)
  have hJ533 := w39_3 hJ523 hm532 hrm532
  have wt534 : m532 g0 39 0 = (m g1 39 0) := Eq.trans (by rw [hm532]; exact z_upd_o _ _ rfl) wt524
  have wt535 : m532 g0 39 1 = (m502 g1 39 1) := Eq.trans (by rw [hm532]; exact z_upd_o _ _ rfl) wt525
  have wt536 : m532 g0 39 2 = (m512 g1 39 2) := Eq.trans (by rw [hm532]; exact z_upd_o _ _ rfl) wt526
  have wt537 : m532 g0 39 4 = (m g0 39 4) := Eq.trans (by rw [hm532]; exact z_upd_o _ _ rfl) wt527
  have wt538 : m532 g1 39 0 = (m502 g1 39 0) := Eq.trans (by rw [hm532]; exact z_upd_o _ _ rfl) wt528
  have wt539 : m532 g1 39 1 = (m512 g1 39 1) := Eq.trans (by rw [hm532]; exact z_upd_o _ _ rfl) wt529
  have wt540 : m532 g1 39 2 = (m522 g1 39 2) := by rw [hm532]; exact z_upd_o _ _ rfl
  have wt541 : m532 g1 39 4 = (m g1 39 4) := Eq.trans (by rw [hm532]; exact z_upd_o _ _ rfl) wt530
  clear wt524 wt525 wt526 wt527 wt528 wt529 wt530
  refine X.aload_n 33 i179_32 rfl rfl rfl ?_
  refine X.aload_n 34 i179_33 rfl rfl rfl ?_
  refine X.getI 37 4 i179_34 rfl rfl (by decide) rfl rfl rfl ?_
  have h542 := r39_4 hJ533 g1
  refine X.putI' 40 4 i179_37 rfl rfl (by decide) rfl rfl rfl (fun hrm543 m543 hm543 => ?_)
  have hJ544 := w39_4 hJ533 hm543 (by omega) hs3
  have wt545 : m543 g0 39 0 = (m g1 39 0) := Eq.trans (by rw [hm543]; exact z_upd_o _ _ rfl) wt534
  have wt546 : m543 g0 39 1 = (m502 g1 39 1) := Eq.trans (by rw [hm543]; exact z_upd_o _ _ rfl) wt535
  have wt547 : m543 g0 39 2 = (m512 g1 39 2) := Eq.trans (by rw [hm543]; exact z_upd_o _ _ rfl) wt536
  have wt548 : m543 g0 39 4 = (m532 g1 39 4) := by rw [hm543]; exact z_upd_same _ _ _ _ _
  have wt549 : m543 g1 39 0 = (m502 g1 39 0) := Eq.trans (by rw [hm543]; exact z_upd_o _ _ rfl) wt538
  have wt550 : m543 g1 39 1 = (m512 g1 39 1) := Eq.trans (by rw [hm543]; exact z_upd_o _ _ rfl) wt539
  have wt551 : m543 g1 39 2 = (m522 g1 39 2) := Eq.trans (by rw [hm543]; exact z_upd_o _ _ rfl) wt540
  clear wt534 wt535 wt536 wt537 wt538 wt539 wt540
  refine X.retv i179_40 rfl t179 ?_
  exact hQ  m543  (hJ544.up (by omega)) (by exact ⟨by omega, by omega, by omega, by omega⟩)
-- WorkMeter$Meter.copyFrom
theorem c171_1 {s : Nat × (Nat → Int32)} {S : zS} {m0 m : zM} {B : Int} {d : Nat} {Q : Option zV → zM → Prop} (g0 g1 : Nat) (hd : 14 ≤ d) (hJ : J S m0 B m) (hB : B + 4 ≤ 1000000000) (hs0 : S.1 g0 8 9) (hs1 : S.1 g0 8 11) (hs2 : S.1 g0 8 13) (hs3 : S.1 g0 23 3) (hs4 : S.1 g0 19 3) (hs5 : S.1 g0 19 4) (hs6 : S.1 g0 19 5) (hs7 : S.1 g0 39 0) (hs8 : S.1 g0 39 1) (hs9 : S.1 g0 39 2) (hs10 : S.1 g0 39 4) (hQ : ∀ m', J S m0 (B + 4) m' → (m' g0 8 9 = m g1 8 9 ∧ m' g0 8 11 = m g1 8 11 ∧ m' g0 8 13 = m g1 8 13 ∧ m' g0 23 3 = m g1 23 3 ∧ m' g0 19 3 = m g1 19 3 ∧ m' g0 19 4 = m g1 19 4 ∧ m' g0 19 5 = m g1 19 5 ∧ m' g0 39 0 = m g1 39 0 ∧ m' g0 39 1 = m g1 39 1 ∧ m' g0 39 2 = m g1 39 2 ∧ m' g0 39 4 = m g1 39 4) → Q none m') : X (EE s) d 171 0 [(0, zr g0 8), (1, zr g1 8)] [] m Q := by
  refine X.aload_n 1 i171_0 rfl rfl rfl ?_
  refine X.getR 4 i171_1 rfl rfl (by decide) rfl rfl ?_
  refine X.aload_n 5 i171_4 rfl rfl rfl ?_
  refine X.getR 8 i171_5 rfl rfl (by decide) rfl rfl ?_
  refine X.callv 11 [zr g1 9] [] [(0, zr g0 9), (1, zr g1 9)] i171_8 rfl (by decide) rfl rfl (by omega) rfl rfl (by decide) rfl t172 (Nat.le_of_ble_eq_true rfl) (Nat.le_of_ble_eq_true rfl) rfl ?_
  refine X.aload_n 1 i172_0 rfl rfl rfl ?_
  refine X.getR 4 i172_1 rfl rfl (by decide) rfl rfl ?_
  refine X.iconst 5 i172_4 rfl rfl (by decide) ?_
  refine X.aload_n 6 i172_5 rfl rfl rfl ?_
  refine X.getR 9 i172_6 rfl rfl (by decide) rfl rfl ?_
  refine X.iconst 10 i172_9 rfl rfl (by decide) ?_
  refine X.bipush 12 i172_10 rfl rfl (by decide) ?_
  refine X.cpI' 15 i172_12 rfl rfl (by omega) (Nat.le_of_ble_eq_true rfl) (by decide) (by decide) rfl rfl (by omega) (fun m501 hm501 => ?_)
  have hJ502 := J.cpyS hJ hm501 (fun _ => rfl)
  have wt503 : m501 g0 8 9 = (m g0 8 9) := by rw [hm501]; exact z_cpy_o rfl
  have wt504 : m501 g0 8 11 = (m g0 8 11) := by rw [hm501]; exact z_cpy_o rfl
  have wt505 : m501 g0 8 13 = (m g0 8 13) := by rw [hm501]; exact z_cpy_o rfl
  have wt506 : m501 g0 23 3 = (m g0 23 3) := by rw [hm501]; exact z_cpy_o rfl
  have wt507 : m501 g0 19 3 = (m g0 19 3) := by rw [hm501]; exact z_cpy_o rfl
  have wt508 : m501 g0 19 4 = (m g0 19 4) := by rw [hm501]; exact z_cpy_o rfl
  have wt509 : m501 g0 19 5 = (m g0 19 5) := by rw [hm501]; exact z_cpy_o rfl
  have wt510 : m501 g0 39 0 = (m g0 39 0) := by rw [hm501]; exact z_cpy_o rfl
  have wt511 : m501 g0 39 1 = (m g0 39 1) := by rw [hm501]; exact z_cpy_o rfl
  have wt512 : m501 g0 39 2 = (m g0 39 2) := by rw [hm501]; exact z_cpy_o rfl
  have wt513 : m501 g0 39 4 = (m g0 39 4) := by rw [hm501]; exact z_cpy_o rfl
  have wt514 : m501 g1 8 9 = (m g1 8 9) := by rw [hm501]; exact z_cpy_o rfl
  have wt515 : m501 g1 8 11 = (m g1 8 11) := by rw [hm501]; exact z_cpy_o rfl
  have wt516 : m501 g1 8 13 = (m g1 8 13) := by rw [hm501]; exact z_cpy_o rfl
  have wt517 : m501 g1 23 3 = (m g1 23 3) := by rw [hm501]; exact z_cpy_o rfl
  have wt518 : m501 g1 19 3 = (m g1 19 3) := by rw [hm501]; exact z_cpy_o rfl
  have wt519 : m501 g1 19 4 = (m g1 19 4) := by rw [hm501]; exact z_cpy_o rfl
  have wt520 : m501 g1 19 5 = (m g1 19 5) := by rw [hm501]; exact z_cpy_o rfl
  have wt521 : m501 g1 39 0 = (m g1 39 0) := by rw [hm501]; exact z_cpy_o rfl
  have wt522 : m501 g1 39 1 = (m g1 39 1) := by rw [hm501]; exact z_cpy_o rfl
  have wt523 : m501 g1 39 2 = (m g1 39 2) := by rw [hm501]; exact z_cpy_o rfl
  have wt524 : m501 g1 39 4 = (m g1 39 4) := by rw [hm501]; exact z_cpy_o rfl
  refine X.retv i172_15 rfl t172 ?_
  show X (EE s) d 171 11 [(0, zr g0 8), (1, zr g1 8)] [] m501 _
  refine X.aload_n 12 i171_11 rfl rfl rfl ?_
  refine X.getR 15 i171_12 rfl rfl (by decide) rfl rfl ?_
  refine X.aload_n 16 i171_15 rfl rfl rfl ?_
  refine X.getR 19 i171_16 rfl rfl (by decide) rfl rfl ?_
  refine X.callv 22 [zr g1 11] [] [(0, zr g0 11), (1, zr g1 11)] i171_19 rfl (by decide) rfl rfl (by omega) rfl rfl (by decide) rfl t111 (Nat.le_of_ble_eq_true rfl) (Nat.le_of_ble_eq_true rfl) rfl ?_
  refine c111_1 (S := zfr [] S) (m0 := m501) (B := B) g0 g1  (by omega) (hJ502.ow.up (by omega)) (by omega)  (fun m525 hJ526 => ?_)
  have hJ528 := hJ502.trans hJ526 zi_n
  have wt529 : m525 g0 8 9 = (m g0 8 9) := Eq.trans (hJ526.eq rfl rfl) wt503
  have wt530 : m525 g0 8 11 = (m g0 8 11) := Eq.trans (hJ526.eq rfl rfl) wt504
  have wt531 : m525 g0 8 13 = (m g0 8 13) := Eq.trans (hJ526.eq rfl rfl) wt505
  have wt532 : m525 g0 23 3 = (m g0 23 3) := Eq.trans (hJ526.eq rfl rfl) wt506
  have wt533 : m525 g0 19 3 = (m g0 19 3) := Eq.trans (hJ526.eq rfl rfl) wt507
  have wt534 : m525 g0 19 4 = (m g0 19 4) := Eq.trans (hJ526.eq rfl rfl) wt508
  have wt535 : m525 g0 19 5 = (m g0 19 5) := Eq.trans (hJ526.eq rfl rfl) wt509
  have wt536 : m525 g0 39 0 = (m g0 39 0) := Eq.trans (hJ526.eq rfl rfl) wt510
  have wt537 : m525 g0 39 1 = (m g0 39 1) := Eq.trans (hJ526.eq rfl rfl) wt511
  have wt538 : m525 g0 39 2 = (m g0 39 2) := Eq.trans (hJ526.eq rfl rfl) wt512
  have wt539 : m525 g0 39 4 = (m g0 39 4) := Eq.trans (hJ526.eq rfl rfl) wt513
  have wt540 : m525 g1 8 9 = (m g1 8 9) := Eq.trans (hJ526.eq rfl rfl) wt514
  have wt541 : m525 g1 8 11 = (m g1 8 11) := Eq.trans (hJ526.eq rfl rfl) wt515
  have wt542 : m525 g1 8 13 = (m g1 8 13) := Eq.trans (hJ526.eq rfl rfl) wt516
  have wt543 : m525 g1 23 3 = (m g1 23 3) := Eq.trans (hJ526.eq rfl rfl) wt517
  have wt544 : m525 g1 19 3 = (m g1 19 3) := Eq.trans (hJ526.eq rfl rfl) wt518
  have wt545 : m525 g1 19 4 = (m g1 19 4) := Eq.trans (hJ526.eq rfl rfl) wt519
  have wt546 : m525 g1 19 5 = (m g1 19 5) := Eq.trans (hJ526.eq rfl rfl) wt520
  have wt547 : m525 g1 39 0 = (m g1 39 0) := Eq.trans (hJ526.eq rfl rfl) wt521
  have wt548 : m525 g1 39 1 = (m g1 39 1) := Eq.trans (hJ526.eq rfl rfl) wt522
  have wt549 : m525 g1 39 2 = (m g1 39 2) := Eq.trans (hJ526.eq rfl rfl) wt523
  have wt550 : m525 g1 39 4 = (m g1 39 4) := Eq.trans (hJ526.eq rfl rfl) wt524
  clear wt503 wt504 wt505 wt506 wt507 wt508 wt509 wt510 wt511 wt512 wt513 wt514 wt515 wt516 wt517 wt518 wt519 wt520 wt521 wt522 wt523 wt524
  show X (EE s) d 171 22 [(0, zr g0 8), (1, zr g1 8)] [] m525 _
  refine X.aload_n 23 i171_22 rfl rfl rfl ?_
  refine X.getR 26 i171_23 rfl rfl (by decide) rfl rfl ?_
  refine X.aload_n 27 i171_26 rfl rfl rfl ?_
  refine X.getR 30 i171_27 rfl rfl (by decide) rfl rfl ?_
  refine X.callv 33 [zr g1 19] [] [(0, zr g0 19), (1, zr g1 19)] i171_30 rfl (by decide) rfl rfl (by omega) rfl rfl (by decide) rfl t173 (Nat.le_of_ble_eq_true rfl) (Nat.le_of_ble_eq_true rfl) rfl ?_
  refine c173_1 (S := zfr [(g0, 19, 3), (g0, 19, 4), (g0, 19, 5)] S) (m0 := m525) (B := B) g0 g1  (by omega) (hJ528.ow.up (by omega)) (by omega) zm_z (zm_s zm_z) (zm_s (zm_s zm_z)) (fun m551 hJ552 hqv5530 => ?_)
  have hJ554 := hJ528.trans hJ552 (zi_c hs4 (zi_c hs5 (zi_c hs6 zi_n)))
  have wt555 : m551 g0 8 9 = (m g0 8 9) := Eq.trans (hJ552.eq rfl rfl) wt529
  have wt556 : m551 g0 8 11 = (m g0 8 11) := Eq.trans (hJ552.eq rfl rfl) wt530
  have wt557 : m551 g0 8 13 = (m g0 8 13) := Eq.trans (hJ552.eq rfl rfl) wt531
  have wt558 : m551 g0 23 3 = (m g0 23 3) := Eq.trans (hJ552.eq rfl rfl) wt532
  have wt559 : m551 g0 39 0 = (m g0 39 0) := Eq.trans (hJ552.eq rfl rfl) wt536
  have wt560 : m551 g0 39 1 = (m g0 39 1) := Eq.trans (hJ552.eq rfl rfl) wt537
  have wt561 : m551 g0 39 2 = (m g0 39 2) := Eq.trans (hJ552.eq rfl rfl) wt538
  have wt562 : m551 g0 39 4 = (m g0 39 4) := Eq.trans (hJ552.eq rfl rfl) wt539
  have wt563 : m551 g1 8 9 = (m g1 8 9) := Eq.trans (hJ552.eq rfl rfl) wt540
  have wt564 : m551 g1 8 11 = (m g1 8 11) := Eq.trans (hJ552.eq rfl rfl) wt541
  have wt565 : m551 g1 8 13 = (m g1 8 13) := Eq.trans (hJ552.eq rfl rfl) wt542
  have wt566 : m551 g1 23 3 = (m g1 23 3) := Eq.trans (hJ552.eq rfl rfl) wt543
  have wt567 : m551 g1 39 0 = (m g1 39 0) := Eq.trans (hJ552.eq rfl rfl) wt547
  have wt568 : m551 g1 39 1 = (m g1 39 1) := Eq.trans (hJ552.eq rfl rfl) wt548
  have wt569 : m551 g1 39 2 = (m g1 39 2) := Eq.trans (hJ552.eq rfl rfl) wt549
  have wt570 : m551 g1 39 4 = (m g1 39 4) := Eq.trans (hJ552.eq rfl rfl) wt550
  show X (EE s) d 171 33 [(0, zr g0 8), (1, zr g1 8)] [] m551 _
  refine X.aload_n 34 i171_33 rfl rfl rfl ?_
  refine X.getR 37 i171_34 rfl rfl (by decide) rfl rfl ?_
  refine X.aload_n 38 i171_37 rfl rfl rfl ?_
  refine X.getR 41 i171_38 rfl rfl (by decide) rfl rfl ?_
  refine X.callv 44 [zr g1 23] [] [(0, zr g0 23), (1, zr g1 23)] i171_41 rfl (by decide) rfl rfl (by omega) rfl rfl (by decide) rfl t174 (Nat.le_of_ble_eq_true rfl) (Nat.le_of_ble_eq_true rfl) rfl ?_
  refine c174_1 (S := zfr [(g0, 23, 3)] S) (m0 := m551) (B := B) g0 g1  (by omega) (hJ554.ow.up (by omega)) (by omega) zm_z (fun m571 hJ572 hqv5730 => ?_)
  have hJ574 := hJ554.trans hJ572 (zi_c hs3 zi_n)
  have wt575 : m571 g0 8 9 = (m g0 8 9) := Eq.trans (hJ572.eq rfl rfl) wt555
  have wt576 : m571 g0 8 11 = (m g0 8 11) := Eq.trans (hJ572.eq rfl rfl) wt556
  have wt577 : m571 g0 8 13 = (m g0 8 13) := Eq.trans (hJ572.eq rfl rfl) wt557
  have wt578 : m571 g0 19 3 = (m551 g0 19 3) := hJ572.eq rfl rfl
  have wt579 : m571 g0 19 4 = (m551 g0 19 4) := hJ572.eq rfl rfl
  have wt580 : m571 g0 19 5 = (m551 g0 19 5) := hJ572.eq rfl rfl
  have wt581 : m571 g0 39 0 = (m g0 39 0) := Eq.trans (hJ572.eq rfl rfl) wt559
  have wt582 : m571 g0 39 1 = (m g0 39 1) := Eq.trans (hJ572.eq rfl rfl) wt560
  have wt583 : m571 g0 39 2 = (m g0 39 2) := Eq.trans (hJ572.eq rfl rfl) wt561
  have wt584 : m571 g0 39 4 = (m g0 39 4) := Eq.trans (hJ572.eq rfl rfl) wt562
  have wt585 : m571 g1 8 9 = (m g1 8 9) := Eq.trans (hJ572.eq rfl rfl) wt563
  have wt586 : m571 g1 8 11 = (m g1 8 11) := Eq.trans (hJ572.eq rfl rfl) wt564
  have wt587 : m571 g1 8 13 = (m g1 8 13) := Eq.trans (hJ572.eq rfl rfl) wt565
  have wt588 : m571 g1 19 3 = (m551 g1 19 3) := hJ572.eq rfl rfl
  have wt589 : m571 g1 19 4 = (m551 g1 19 4) := hJ572.eq rfl rfl
  have wt590 : m571 g1 19 5 = (m551 g1 19 5) := hJ572.eq rfl rfl
  have wt591 : m571 g1 39 0 = (m g1 39 0) := Eq.trans (hJ572.eq rfl rfl) wt567
  have wt592 : m571 g1 39 1 = (m g1 39 1) := Eq.trans (hJ572.eq rfl rfl) wt568
  have wt593 : m571 g1 39 2 = (m g1 39 2) := Eq.trans (hJ572.eq rfl rfl) wt569
  have wt594 : m571 g1 39 4 = (m g1 39 4) := Eq.trans (hJ572.eq rfl rfl) wt570
  show X (EE s) d 171 44 [(0, zr g0 8), (1, zr g1 8)] [] m571 _
  refine X.aload_n 45 i171_44 rfl rfl rfl ?_
  refine X.getR 48 i171_45 rfl rfl (by decide) rfl rfl ?_
  refine X.aload_n 49 i171_48 rfl rfl rfl ?_
  refine X.getR 52 i171_49 rfl rfl (by decide) rfl rfl ?_
  refine X.callv 55 [zr g1 27] [] [(0, zr g0 27), (1, zr g1 27)] i171_52 rfl (by decide) rfl rfl (by omega) rfl rfl (by decide) rfl t175 (Nat.le_of_ble_eq_true rfl) (Nat.le_of_ble_eq_true rfl) rfl ?_
  refine c175_1 (S := zfr [] S) (m0 := m571) (B := B + 1) g0 g1  (by omega) (hJ574.ow.up (by omega)) (by omega)  (fun m595 hJ596 => ?_)
  have hJ598 := hJ574.trans hJ596 zi_n
  have wt599 : m595 g0 8 9 = (m g0 8 9) := Eq.trans (hJ596.eq rfl rfl) wt575
  have wt600 : m595 g0 8 11 = (m g0 8 11) := Eq.trans (hJ596.eq rfl rfl) wt576
  have wt601 : m595 g0 8 13 = (m g0 8 13) := Eq.trans (hJ596.eq rfl rfl) wt577
  have wt602 : m595 g0 23 3 = (m571 g0 23 3) := hJ596.eq rfl rfl
  have wt603 : m595 g0 19 3 = (m551 g0 19 3) := Eq.trans (hJ596.eq rfl rfl) wt578
  have wt604 : m595 g0 19 4 = (m551 g0 19 4) := Eq.trans (hJ596.eq rfl rfl) wt579
  have wt605 : m595 g0 19 5 = (m551 g0 19 5) := Eq.trans (hJ596.eq rfl rfl) wt580
  have wt606 : m595 g0 39 0 = (m g0 39 0) := Eq.trans (hJ596.eq rfl rfl) wt581
  have wt607 : m595 g0 39 1 = (m g0 39 1) := Eq.trans (hJ596.eq rfl rfl) wt582
  have wt608 : m595 g0 39 2 = (m g0 39 2) := Eq.trans (hJ596.eq rfl rfl) wt583
  have wt609 : m595 g0 39 4 = (m g0 39 4) := Eq.trans (hJ596.eq rfl rfl) wt584
  have wt610 : m595 g1 8 9 = (m g1 8 9) := Eq.trans (hJ596.eq rfl rfl) wt585
  have wt611 : m595 g1 8 11 = (m g1 8 11) := Eq.trans (hJ596.eq rfl rfl) wt586
  have wt612 : m595 g1 8 13 = (m g1 8 13) := Eq.trans (hJ596.eq rfl rfl) wt587
  have wt613 : m595 g1 23 3 = (m571 g1 23 3) := hJ596.eq rfl rfl
  have wt614 : m595 g1 19 3 = (m551 g1 19 3) := Eq.trans (hJ596.eq rfl rfl) wt588
  have wt615 : m595 g1 19 4 = (m551 g1 19 4) := Eq.trans (hJ596.eq rfl rfl) wt589
  have wt616 : m595 g1 19 5 = (m551 g1 19 5) := Eq.trans (hJ596.eq rfl rfl) wt590
  have wt617 : m595 g1 39 0 = (m g1 39 0) := Eq.trans (hJ596.eq rfl rfl) wt591
  have wt618 : m595 g1 39 1 = (m g1 39 1) := Eq.trans (hJ596.eq rfl rfl) wt592
  have wt619 : m595 g1 39 2 = (m g1 39 2) := Eq.trans (hJ596.eq rfl rfl) wt593
  have wt620 : m595 g1 39 4 = (m g1 39 4) := Eq.trans (hJ596.eq rfl rfl) wt594
  clear wt575 wt576 wt577 wt578 wt579 wt580 wt581 wt582 wt583 wt584 wt585 wt586 wt587 wt588 wt589 wt590 wt591 wt592 wt593 wt594
  show X (EE s) d 171 55 [(0, zr g0 8), (1, zr g1 8)] [] m595 _
  refine X.aload_n 56 i171_55 rfl rfl rfl ?_
  refine X.getR 59 i171_56 rfl rfl (by decide) rfl rfl ?_
  refine X.aload_n 60 i171_59 rfl rfl rfl ?_
  refine X.getR 63 i171_60 rfl rfl (by decide) rfl rfl ?_
  refine X.callv 66 [zr g1 30] [] [(0, zr g0 30), (1, zr g1 30)] i171_63 rfl (by decide) rfl rfl (by omega) rfl rfl (by decide) rfl t176 (Nat.le_of_ble_eq_true rfl) (Nat.le_of_ble_eq_true rfl) rfl ?_
  refine X.aload_n 1 i176_0 rfl rfl rfl ?_
  refine X.getR 4 i176_1 rfl rfl (by decide) rfl rfl ?_
  refine X.iconst 5 i176_4 rfl rfl (by decide) ?_
  refine X.aload_n 6 i176_5 rfl rfl rfl ?_
  refine X.getR 9 i176_6 rfl rfl (by decide) rfl rfl ?_
  refine X.iconst 10 i176_9 rfl rfl (by decide) ?_
  refine X.iconst 11 i176_10 rfl rfl (by decide) ?_
  refine X.cpL' 14 i176_11 rfl rfl (by omega) (Nat.le_of_ble_eq_true rfl) (by decide) (by decide) rfl rfl (by omega) (fun m621 hm621 => ?_)
  have hJ622 := J.cpyS hJ598 hm621 (fun _ => rfl)
  have wt623 : m621 g0 8 9 = (m g0 8 9) := Eq.trans (by rw [hm621]; exact z_cpy_o rfl) wt599
  have wt624 : m621 g0 8 11 = (m g0 8 11) := Eq.trans (by rw [hm621]; exact z_cpy_o rfl) wt600
  have wt625 : m621 g0 8 13 = (m g0 8 13) := Eq.trans (by rw [hm621]; exact z_cpy_o rfl) wt601
  have wt626 : m621 g0 23 3 = (m571 g0 23 3) := Eq.trans (by rw [hm621]; exact z_cpy_o rfl) wt602
  have wt627 : m621 g0 19 3 = (m551 g0 19 3) := Eq.trans (by rw [hm621]; exact z_cpy_o rfl) wt603
  have wt628 : m621 g0 19 4 = (m551 g0 19 4) := Eq.trans (by rw [hm621]; exact z_cpy_o rfl) wt604
  have wt629 : m621 g0 19 5 = (m551 g0 19 5) := Eq.trans (by rw [hm621]; exact z_cpy_o rfl) wt605
  have wt630 : m621 g0 39 0 = (m g0 39 0) := Eq.trans (by rw [hm621]; exact z_cpy_o rfl) wt606
  have wt631 : m621 g0 39 1 = (m g0 39 1) := Eq.trans (by rw [hm621]; exact z_cpy_o rfl) wt607
  have wt632 : m621 g0 39 2 = (m g0 39 2) := Eq.trans (by rw [hm621]; exact z_cpy_o rfl) wt608
  have wt633 : m621 g0 39 4 = (m g0 39 4) := Eq.trans (by rw [hm621]; exact z_cpy_o rfl) wt609
  have wt634 : m621 g1 8 9 = (m g1 8 9) := Eq.trans (by rw [hm621]; exact z_cpy_o rfl) wt610
  have wt635 : m621 g1 8 11 = (m g1 8 11) := Eq.trans (by rw [hm621]; exact z_cpy_o rfl) wt611
  have wt636 : m621 g1 8 13 = (m g1 8 13) := Eq.trans (by rw [hm621]; exact z_cpy_o rfl) wt612
  have wt637 : m621 g1 23 3 = (m571 g1 23 3) := Eq.trans (by rw [hm621]; exact z_cpy_o rfl) wt613
  have wt638 : m621 g1 19 3 = (m551 g1 19 3) := Eq.trans (by rw [hm621]; exact z_cpy_o rfl) wt614
  have wt639 : m621 g1 19 4 = (m551 g1 19 4) := Eq.trans (by rw [hm621]; exact z_cpy_o rfl) wt615
  have wt640 : m621 g1 19 5 = (m551 g1 19 5) := Eq.trans (by rw [hm621]; exact z_cpy_o rfl) wt616
  have wt641 : m621 g1 39 0 = (m g1 39 0) := Eq.trans (by rw [hm621]; exact z_cpy_o rfl) wt617
  have wt642 : m621 g1 39 1 = (m g1 39 1) := Eq.trans (by rw [hm621]; exact z_cpy_o rfl) wt618
  have wt643 : m621 g1 39 2 = (m g1 39 2) := Eq.trans (by rw [hm621]; exact z_cpy_o rfl) wt619
  have wt644 : m621 g1 39 4 = (m g1 39 4) := Eq.trans (by rw [hm621]; exact z_cpy_o rfl) wt620
  clear wt599 wt600 wt601 wt602 wt603 wt604 wt605 wt606 wt607 wt608 wt609 wt610 wt611 wt612 wt613 wt614 wt615 wt616 wt617 wt618 wt619 wt620
  refine X.aload_n 15 i176_14 rfl rfl rfl ?_
  refine X.getR 18 i176_15 rfl rfl (by decide) rfl rfl ?_
  refine X.iconst 19 i176_18 rfl rfl (by decide) ?_
  refine X.aload_n 20 i176_19 rfl rfl rfl ?_
  refine X.getR 23 i176_20 rfl rfl (by decide) rfl rfl ?_
  refine X.iconst 24 i176_23 rfl rfl (by decide) ?_
  refine X.iconst 25 i176_24 rfl rfl (by decide) ?_
  refine X.cpI' 28 i176_25 rfl rfl (by omega) (Nat.le_of_ble_eq_true rfl) (by decide) (by decide) rfl rfl (by omega) (fun m645 hm645 => ?_)
  have hJ646 := J.cpyS hJ622 hm645 (fun _ => rfl)
  have wt647 : m645 g0 8 9 = (m g0 8 9) := Eq.trans (by rw [hm645]; exact z_cpy_o rfl) wt623
  have wt648 : m645 g0 8 11 = (m g0 8 11) := Eq.trans (by rw [hm645]; exact z_cpy_o rfl) wt624
  have wt649 : m645 g0 8 13 = (m g0 8 13) := Eq.trans (by rw [hm645]; exact z_cpy_o rfl) wt625
  have wt650 : m645 g0 23 3 = (m571 g0 23 3) := Eq.trans (by rw [hm645]; exact z_cpy_o rfl) wt626
  have wt651 : m645 g0 19 3 = (m551 g0 19 3) := Eq.trans (by rw [hm645]; exact z_cpy_o rfl) wt627
  have wt652 : m645 g0 19 4 = (m551 g0 19 4) := Eq.trans (by rw [hm645]; exact z_cpy_o rfl) wt628
  have wt653 : m645 g0 19 5 = (m551 g0 19 5) := Eq.trans (by rw [hm645]; exact z_cpy_o rfl) wt629
  have wt654 : m645 g0 39 0 = (m g0 39 0) := Eq.trans (by rw [hm645]; exact z_cpy_o rfl) wt630
  have wt655 : m645 g0 39 1 = (m g0 39 1) := Eq.trans (by rw [hm645]; exact z_cpy_o rfl) wt631
  have wt656 : m645 g0 39 2 = (m g0 39 2) := Eq.trans (by rw [hm645]; exact z_cpy_o rfl) wt632
  have wt657 : m645 g0 39 4 = (m g0 39 4) := Eq.trans (by rw [hm645]; exact z_cpy_o rfl) wt633
  have wt658 : m645 g1 8 9 = (m g1 8 9) := Eq.trans (by rw [hm645]; exact z_cpy_o rfl) wt634
  have wt659 : m645 g1 8 11 = (m g1 8 11) := Eq.trans (by rw [hm645]; exact z_cpy_o rfl) wt635
  have wt660 : m645 g1 8 13 = (m g1 8 13) := Eq.trans (by rw [hm645]; exact z_cpy_o rfl) wt636
  have wt661 : m645 g1 23 3 = (m571 g1 23 3) := Eq.trans (by rw [hm645]; exact z_cpy_o rfl) wt637
  have wt662 : m645 g1 19 3 = (m551 g1 19 3) := Eq.trans (by rw [hm645]; exact z_cpy_o rfl) wt638
  have wt663 : m645 g1 19 4 = (m551 g1 19 4) := Eq.trans (by rw [hm645]; exact z_cpy_o rfl) wt639
  have wt664 : m645 g1 19 5 = (m551 g1 19 5) := Eq.trans (by rw [hm645]; exact z_cpy_o rfl) wt640
  have wt665 : m645 g1 39 0 = (m g1 39 0) := Eq.trans (by rw [hm645]; exact z_cpy_o rfl) wt641
  have wt666 : m645 g1 39 1 = (m g1 39 1) := Eq.trans (by rw [hm645]; exact z_cpy_o rfl) wt642
  have wt667 : m645 g1 39 2 = (m g1 39 2) := Eq.trans (by rw [hm645]; exact z_cpy_o rfl) wt643
  have wt668 : m645 g1 39 4 = (m g1 39 4) := Eq.trans (by rw [hm645]; exact z_cpy_o rfl) wt644
  clear wt623 wt624 wt625 wt626 wt627 wt628 wt629 wt630 wt631 wt632 wt633 wt634 wt635 wt636 wt637 wt638 wt639 wt640 wt641 wt642 wt643 wt644
  refine X.aload_n 29 i176_28 rfl rfl rfl ?_
  refine X.aload_n 30 i176_29 rfl rfl rfl ?_
  refine X.getL 33 2 i176_30 rfl rfl (by decide) rfl rfl rfl ?_
  refine X.putL' 36 2 i176_33 rfl rfl (by decide) rfl rfl rfl (fun hrm669 m669 hm669 => ?_)
  have hJ670 := w30_0 hJ646 hm669 (by omega) hrm669
  have wt671 : m669 g0 8 9 = (m g0 8 9) := Eq.trans (by rw [hm669]; exact z_upd_o _ _ rfl) wt647
  have wt672 : m669 g0 8 11 = (m g0 8 11) := Eq.trans (by rw [hm669]; exact z_upd_o _ _ rfl) wt648
  have wt673 : m669 g0 8 13 = (m g0 8 13) := Eq.trans (by rw [hm669]; exact z_upd_o _ _ rfl) wt649
  have wt674 : m669 g0 23 3 = (m571 g0 23 3) := Eq.trans (by rw [hm669]; exact z_upd_o _ _ rfl) wt650
  have wt675 : m669 g0 19 3 = (m551 g0 19 3) := Eq.trans (by rw [hm669]; exact z_upd_o _ _ rfl) wt651
  have wt676 : m669 g0 19 4 = (m551 g0 19 4) := Eq.trans (by rw [hm669]; exact z_upd_o _ _ rfl) wt652
  have wt677 : m669 g0 19 5 = (m551 g0 19 5) := Eq.trans (by rw [hm669]; exact z_upd_o _ _ rfl) wt653
  have wt678 : m669 g0 39 0 = (m g0 39 0) := Eq.trans (by rw [hm669]; exact z_upd_o _ _ rfl) wt654
  have wt679 : m669 g0 39 1 = (m g0 39 1) := Eq.trans (by rw [hm669]; exact z_upd_o _ _ rfl) wt655
  have wt680 : m669 g0 39 2 = (m g0 39 2) := Eq.trans (by rw [hm669]; exact z_upd_o _ _ rfl) wt656
  have wt681 : m669 g0 39 4 = (m g0 39 4) := Eq.trans (by rw [hm669]; exact z_upd_o _ _ rfl) wt657
  have wt682 : m669 g1 8 9 = (m g1 8 9) := Eq.trans (by rw [hm669]; exact z_upd_o _ _ rfl) wt658
  have wt683 : m669 g1 8 11 = (m g1 8 11) := Eq.trans (by rw [hm669]; exact z_upd_o _ _ rfl) wt659
  have wt684 : m669 g1 8 13 = (m g1 8 13) := Eq.trans (by rw [hm669]; exact z_upd_o _ _ rfl) wt660
  have wt685 : m669 g1 23 3 = (m571 g1 23 3) := Eq.trans (by rw [hm669]; exact z_upd_o _ _ rfl) wt661
  have wt686 : m669 g1 19 3 = (m551 g1 19 3) := Eq.trans (by rw [hm669]; exact z_upd_o _ _ rfl) wt662
  have wt687 : m669 g1 19 4 = (m551 g1 19 4) := Eq.trans (by rw [hm669]; exact z_upd_o _ _ rfl) wt663
  have wt688 : m669 g1 19 5 = (m551 g1 19 5) := Eq.trans (by rw [hm669]; exact z_upd_o _ _ rfl) wt664
  have wt689 : m669 g1 39 0 = (m g1 39 0) := Eq.trans (by rw [hm669]; exact z_upd_o _ _ rfl) wt665
  have wt690 : m669 g1 39 1 = (m g1 39 1) := Eq.trans (by rw [hm669]; exact z_upd_o _ _ rfl) wt666
  have wt691 : m669 g1 39 2 = (m g1 39 2) := Eq.trans (by rw [hm669]; exact z_upd_o _ _ rfl) wt667
  have wt692 : m669 g1 39 4 = (m g1 39 4) := Eq.trans (by rw [hm669]; exact z_upd_o _ _ rfl) wt668
  clear wt647 wt648 wt649 wt650 wt651 wt652 wt653 wt654 wt655 wt656 wt657 wt658 wt659 wt660 wt661 wt662 wt663 wt664 wt665 wt666 wt667 wt668
  refine X.aload_n 37 i176_36 rfl rfl rfl ?_
  refine X.aload_n 38 i176_37 rfl rfl rfl ?_
  refine X.getIr 41 3 i176_38 rfl rfl (by decide) rfl rfl rfl (fun h693 => ?_)
  refine X.putI' 44 3 i176_41 rfl rfl (by decide) rfl rfl rfl (fun hrm694 m694 hm694 => ?_)
  have hJ695 := w30_0 hJ670 hm694 (by omega) hrm694
  have wt696 : m694 g0 8 9 = (m g0 8 9) := Eq.trans (by rw [hm694]; exact z_upd_o _ _ rfl) wt671
  have wt697 : m694 g0 8 11 = (m g0 8 11) := Eq.trans (by rw [hm694]; exact z_upd_o _ _ rfl) wt672
  have wt698 : m694 g0 8 13 = (m g0 8 13) := Eq.trans (by rw [hm694]; exact z_upd_o _ _ rfl) wt673
  have wt699 : m694 g0 23 3 = (m571 g0 23 3) := Eq.trans (by rw [hm694]; exact z_upd_o _ _ rfl) wt674
  have wt700 : m694 g0 19 3 = (m551 g0 19 3) := Eq.trans (by rw [hm694]; exact z_upd_o _ _ rfl) wt675
  have wt701 : m694 g0 19 4 = (m551 g0 19 4) := Eq.trans (by rw [hm694]; exact z_upd_o _ _ rfl) wt676
  have wt702 : m694 g0 19 5 = (m551 g0 19 5) := Eq.trans (by rw [hm694]; exact z_upd_o _ _ rfl) wt677
  have wt703 : m694 g0 39 0 = (m g0 39 0) := Eq.trans (by rw [hm694]; exact z_upd_o _ _ rfl) wt678
  have wt704 : m694 g0 39 1 = (m g0 39 1) := Eq.trans (by rw [hm694]; exact z_upd_o _ _ rfl) wt679
  have wt705 : m694 g0 39 2 = (m g0 39 2) := Eq.trans (by rw [hm694]; exact z_upd_o _ _ rfl) wt680
  have wt706 : m694 g0 39 4 = (m g0 39 4) := Eq.trans (by rw [hm694]; exact z_upd_o _ _ rfl) wt681
  have wt707 : m694 g1 8 9 = (m g1 8 9) := Eq.trans (by rw [hm694]; exact z_upd_o _ _ rfl) wt682
  have wt708 : m694 g1 8 11 = (m g1 8 11) := Eq.trans (by rw [hm694]; exact z_upd_o _ _ rfl) wt683
  have wt709 : m694 g1 8 13 = (m g1 8 13) := Eq.trans (by rw [hm694]; exact z_upd_o _ _ rfl) wt684
  have wt710 : m694 g1 23 3 = (m571 g1 23 3) := Eq.trans (by rw [hm694]; exact z_upd_o _ _ rfl) wt685
  have wt711 : m694 g1 19 3 = (m551 g1 19 3) := Eq.trans (by rw [hm694]; exact z_upd_o _ _ rfl) wt686
  have wt712 : m694 g1 19 4 = (m551 g1 19 4) := Eq.trans (by rw [hm694]; exact z_upd_o _ _ rfl) wt687
  have wt713 : m694 g1 19 5 = (m551 g1 19 5) := Eq.trans (by rw [hm694]; exact z_upd_o _ _ rfl) wt688
  have wt714 : m694 g1 39 0 = (m g1 39 0) := Eq.trans (by rw [hm694]; exact z_upd_o _ _ rfl) wt689
  have wt715 : m694 g1 39 1 = (m g1 39 1) := Eq.trans (by rw [hm694]; exact z_upd_o _ _ rfl) wt690
  have wt716 : m694 g1 39 2 = (m g1 39 2) := Eq.trans (by rw [hm694]; exact z_upd_o _ _ rfl) wt691
  have wt717 : m694 g1 39 4 = (m g1 39 4) := Eq.trans (by rw [hm694]; exact z_upd_o _ _ rfl) wt692
  clear wt671 wt672 wt673 wt674 wt675 wt676 wt677 wt678 wt679 wt680 wt681 wt682 wt683 wt684 wt685 wt686 wt687 wt688 wt689 wt690 wt691 wt692
  refine X.retv i176_44 rfl t176 ?_
  show X (EE s) d 171 66 [(0, zr g0 8), (1, zr g1 8)] [] m694 _
  refine X.aload_n 67 i171_66 rfl rfl rfl ?_
  refine X.getR 70 i171_67 rfl rfl (by decide) rfl rfl ?_
  refine X.aload_n 71 i171_70 rfl rfl rfl ?_
  refine X.getR 74 i171_71 rfl rfl (by decide) rfl rfl ?_
  refine X.callv 77 [zr g1 33] [] [(0, zr g0 33), (1, zr g1 33)] i171_74 rfl (by decide) rfl rfl (by omega) rfl rfl (by decide) rfl t177 (Nat.le_of_ble_eq_true rfl) (Nat.le_of_ble_eq_true rfl) rfl ?_
  refine X.aload_n 1 i177_0 rfl rfl rfl ?_
  refine X.getR 4 i177_1 rfl rfl (by decide) rfl rfl ?_
  refine X.iconst 5 i177_4 rfl rfl (by decide) ?_
  refine X.aload_n 6 i177_5 rfl rfl rfl ?_
  refine X.getR 9 i177_6 rfl rfl (by decide) rfl rfl ?_
  refine X.iconst 10 i177_9 rfl rfl (by decide) ?_
  refine X.iconst 11 i177_10 rfl rfl (by decide) ?_
  refine X.cpI' 14 i177_11 rfl rfl (by omega) (Nat.le_of_ble_eq_true rfl) (by decide) (by decide) rfl rfl (by omega) (fun m718 hm718 => ?_)
  have hJ719 := J.cpyS hJ695 hm718 (fun _ => rfl)
  have wt720 : m718 g0 8 9 = (m g0 8 9) := Eq.trans (by rw [hm718]; exact z_cpy_o rfl) wt696
  have wt721 : m718 g0 8 11 = (m g0 8 11) := Eq.trans (by rw [hm718]; exact z_cpy_o rfl) wt697
  have wt722 : m718 g0 8 13 = (m g0 8 13) := Eq.trans (by rw [hm718]; exact z_cpy_o rfl) wt698
  have wt723 : m718 g0 23 3 = (m571 g0 23 3) := Eq.trans (by rw [hm718]; exact z_cpy_o rfl) wt699
  have wt724 : m718 g0 19 3 = (m551 g0 19 3) := Eq.trans (by rw [hm718]; exact z_cpy_o rfl) wt700
  have wt725 : m718 g0 19 4 = (m551 g0 19 4) := Eq.trans (by rw [hm718]; exact z_cpy_o rfl) wt701
  have wt726 : m718 g0 19 5 = (m551 g0 19 5) := Eq.trans (by rw [hm718]; exact z_cpy_o rfl) wt702
  have wt727 : m718 g0 39 0 = (m g0 39 0) := Eq.trans (by rw [hm718]; exact z_cpy_o rfl) wt703
  have wt728 : m718 g0 39 1 = (m g0 39 1) := Eq.trans (by rw [hm718]; exact z_cpy_o rfl) wt704
  have wt729 : m718 g0 39 2 = (m g0 39 2) := Eq.trans (by rw [hm718]; exact z_cpy_o rfl) wt705
  have wt730 : m718 g0 39 4 = (m g0 39 4) := Eq.trans (by rw [hm718]; exact z_cpy_o rfl) wt706
  have wt731 : m718 g1 8 9 = (m g1 8 9) := Eq.trans (by rw [hm718]; exact z_cpy_o rfl) wt707
  have wt732 : m718 g1 8 11 = (m g1 8 11) := Eq.trans (by rw [hm718]; exact z_cpy_o rfl) wt708
  have wt733 : m718 g1 8 13 = (m g1 8 13) := Eq.trans (by rw [hm718]; exact z_cpy_o rfl) wt709
  have wt734 : m718 g1 23 3 = (m571 g1 23 3) := Eq.trans (by rw [hm718]; exact z_cpy_o rfl) wt710
  have wt735 : m718 g1 19 3 = (m551 g1 19 3) := Eq.trans (by rw [hm718]; exact z_cpy_o rfl) wt711
  have wt736 : m718 g1 19 4 = (m551 g1 19 4) := Eq.trans (by rw [hm718]; exact z_cpy_o rfl) wt712
  have wt737 : m718 g1 19 5 = (m551 g1 19 5) := Eq.trans (by rw [hm718]; exact z_cpy_o rfl) wt713
  have wt738 : m718 g1 39 0 = (m g1 39 0) := Eq.trans (by rw [hm718]; exact z_cpy_o rfl) wt714
  have wt739 : m718 g1 39 1 = (m g1 39 1) := Eq.trans (by rw [hm718]; exact z_cpy_o rfl) wt715
  have wt740 : m718 g1 39 2 = (m g1 39 2) := Eq.trans (by rw [hm718]; exact z_cpy_o rfl) wt716
  have wt741 : m718 g1 39 4 = (m g1 39 4) := Eq.trans (by rw [hm718]; exact z_cpy_o rfl) wt717
  clear wt696 wt697 wt698 wt699 wt700 wt701 wt702 wt703 wt704 wt705 wt706 wt707 wt708 wt709 wt710 wt711 wt712 wt713 wt714 wt715 wt716 wt717
  refine X.aload_n 15 i177_14 rfl rfl rfl ?_
  refine X.getR 18 i177_15 rfl rfl (by decide) rfl rfl ?_
  refine X.iconst 19 i177_18 rfl rfl (by decide) ?_
  refine X.aload_n 20 i177_19 rfl rfl rfl ?_
  refine X.getR 23 i177_20 rfl rfl (by decide) rfl rfl ?_
  refine X.iconst 24 i177_23 rfl rfl (by decide) ?_
  refine X.iconst 25 i177_24 rfl rfl (by decide) ?_
  refine X.cpI' 28 i177_25 rfl rfl (by omega) (Nat.le_of_ble_eq_true rfl) (by decide) (by decide) rfl rfl (by omega) (fun m742 hm742 => ?_)
  have hJ743 := J.cpyS hJ719 hm742 (fun _ => rfl)
  have wt744 : m742 g0 8 9 = (m g0 8 9) := Eq.trans (by rw [hm742]; exact z_cpy_o rfl) wt720
  have wt745 : m742 g0 8 11 = (m g0 8 11) := Eq.trans (by rw [hm742]; exact z_cpy_o rfl) wt721
  have wt746 : m742 g0 8 13 = (m g0 8 13) := Eq.trans (by rw [hm742]; exact z_cpy_o rfl) wt722
  have wt747 : m742 g0 23 3 = (m571 g0 23 3) := Eq.trans (by rw [hm742]; exact z_cpy_o rfl) wt723
  have wt748 : m742 g0 19 3 = (m551 g0 19 3) := Eq.trans (by rw [hm742]; exact z_cpy_o rfl) wt724
  have wt749 : m742 g0 19 4 = (m551 g0 19 4) := Eq.trans (by rw [hm742]; exact z_cpy_o rfl) wt725
  have wt750 : m742 g0 19 5 = (m551 g0 19 5) := Eq.trans (by rw [hm742]; exact z_cpy_o rfl) wt726
  have wt751 : m742 g0 39 0 = (m g0 39 0) := Eq.trans (by rw [hm742]; exact z_cpy_o rfl) wt727
  have wt752 : m742 g0 39 1 = (m g0 39 1) := Eq.trans (by rw [hm742]; exact z_cpy_o rfl) wt728
  have wt753 : m742 g0 39 2 = (m g0 39 2) := Eq.trans (by rw [hm742]; exact z_cpy_o rfl) wt729
  have wt754 : m742 g0 39 4 = (m g0 39 4) := Eq.trans (by rw [hm742]; exact z_cpy_o rfl) wt730
  have wt755 : m742 g1 8 9 = (m g1 8 9) := Eq.trans (by rw [hm742]; exact z_cpy_o rfl) wt731
  have wt756 : m742 g1 8 11 = (m g1 8 11) := Eq.trans (by rw [hm742]; exact z_cpy_o rfl) wt732
  have wt757 : m742 g1 8 13 = (m g1 8 13) := Eq.trans (by rw [hm742]; exact z_cpy_o rfl) wt733
  have wt758 : m742 g1 23 3 = (m571 g1 23 3) := Eq.trans (by rw [hm742]; exact z_cpy_o rfl) wt734
  have wt759 : m742 g1 19 3 = (m551 g1 19 3) := Eq.trans (by rw [hm742]; exact z_cpy_o rfl) wt735
  have wt760 : m742 g1 19 4 = (m551 g1 19 4) := Eq.trans (by rw [hm742]; exact z_cpy_o rfl) wt736
  have wt761 : m742 g1 19 5 = (m551 g1 19 5) := Eq.trans (by rw [hm742]; exact z_cpy_o rfl) wt737
  have wt762 : m742 g1 39 0 = (m g1 39 0) := Eq.trans (by rw [hm742]; exact z_cpy_o rfl) wt738
  have wt763 : m742 g1 39 1 = (m g1 39 1) := Eq.trans (by rw [hm742]; exact z_cpy_o rfl) wt739
  have wt764 : m742 g1 39 2 = (m g1 39 2) := Eq.trans (by rw [hm742]; exact z_cpy_o rfl) wt740
  have wt765 : m742 g1 39 4 = (m g1 39 4) := Eq.trans (by rw [hm742]; exact z_cpy_o rfl) wt741
  clear wt720 wt721 wt722 wt723 wt724 wt725 wt726 wt727 wt728 wt729 wt730 wt731 wt732 wt733 wt734 wt735 wt736 wt737 wt738 wt739 wt740 wt741
  refine X.aload_n 29 i177_28 rfl rfl rfl ?_
  refine X.getR 32 i177_29 rfl rfl (by decide) rfl rfl ?_
  refine X.iconst 33 i177_32 rfl rfl (by decide) ?_
  refine X.aload_n 34 i177_33 rfl rfl rfl ?_
  refine X.getR 37 i177_34 rfl rfl (by decide) rfl rfl ?_
  refine X.iconst 38 i177_37 rfl rfl (by decide) ?_
  refine X.iconst 39 i177_38 rfl rfl (by decide) ?_
  refine X.cpI' 42 i177_39 rfl rfl (by omega) (Nat.le_of_ble_eq_true rfl) (by decide) (by decide) rfl rfl (by omega) (fun m766 hm766 => ?_)
  have hJ767 := J.cpyS hJ743 hm766 (fun _ => rfl)
  have wt768 : m766 g0 8 9 = (m g0 8 9) := Eq.trans (by rw [hm766]; exact z_cpy_o rfl) wt744
  have wt769 : m766 g0 8 11 = (m g0 8 11) := Eq.trans (by rw [hm766]; exact z_cpy_o rfl) wt745
  have wt770 : m766 g0 8 13 = (m g0 8 13) := Eq.trans (by rw [hm766]; exact z_cpy_o rfl) wt746
  have wt771 : m766 g0 23 3 = (m571 g0 23 3) := Eq.trans (by rw [hm766]; exact z_cpy_o rfl) wt747
  have wt772 : m766 g0 19 3 = (m551 g0 19 3) := Eq.trans (by rw [hm766]; exact z_cpy_o rfl) wt748
  have wt773 : m766 g0 19 4 = (m551 g0 19 4) := Eq.trans (by rw [hm766]; exact z_cpy_o rfl) wt749
  have wt774 : m766 g0 19 5 = (m551 g0 19 5) := Eq.trans (by rw [hm766]; exact z_cpy_o rfl) wt750
  have wt775 : m766 g0 39 0 = (m g0 39 0) := Eq.trans (by rw [hm766]; exact z_cpy_o rfl) wt751
  have wt776 : m766 g0 39 1 = (m g0 39 1) := Eq.trans (by rw [hm766]; exact z_cpy_o rfl) wt752
  have wt777 : m766 g0 39 2 = (m g0 39 2) := Eq.trans (by rw [hm766]; exact z_cpy_o rfl) wt753
  have wt778 : m766 g0 39 4 = (m g0 39 4) := Eq.trans (by rw [hm766]; exact z_cpy_o rfl) wt754
  have wt779 : m766 g1 8 9 = (m g1 8 9) := Eq.trans (by rw [hm766]; exact z_cpy_o rfl) wt755
  have wt780 : m766 g1 8 11 = (m g1 8 11) := Eq.trans (by rw [hm766]; exact z_cpy_o rfl) wt756
  have wt781 : m766 g1 8 13 = (m g1 8 13) := Eq.trans (by rw [hm766]; exact z_cpy_o rfl) wt757
  have wt782 : m766 g1 23 3 = (m571 g1 23 3) := Eq.trans (by rw [hm766]; exact z_cpy_o rfl) wt758
  have wt783 : m766 g1 19 3 = (m551 g1 19 3) := Eq.trans (by rw [hm766]; exact z_cpy_o rfl) wt759
  have wt784 : m766 g1 19 4 = (m551 g1 19 4) := Eq.trans (by rw [hm766]; exact z_cpy_o rfl) wt760
  have wt785 : m766 g1 19 5 = (m551 g1 19 5) := Eq.trans (by rw [hm766]; exact z_cpy_o rfl) wt761
  have wt786 : m766 g1 39 0 = (m g1 39 0) := Eq.trans (by rw [hm766]; exact z_cpy_o rfl) wt762
  have wt787 : m766 g1 39 1 = (m g1 39 1) := Eq.trans (by rw [hm766]; exact z_cpy_o rfl) wt763
  have wt788 : m766 g1 39 2 = (m g1 39 2) := Eq.trans (by rw [hm766]; exact z_cpy_o rfl) wt764
  have wt789 : m766 g1 39 4 = (m g1 39 4) := Eq.trans (by rw [hm766]; exact z_cpy_o rfl) wt765
  clear wt744 wt745 wt746 wt747 wt748 wt749 wt750 wt751 wt752 wt753 wt754 wt755 wt756 wt757 wt758 wt759 wt760 wt761 wt762 wt763 wt764 wt765
  refine X.aload_n 43 i177_42 rfl rfl rfl ?_
  refine X.aload_n 44 i177_43 rfl rfl rfl ?_
  refine X.getIr 47 3 i177_44 rfl rfl (by decide) rfl rfl rfl (fun h790 => ?_)
  refine X.putI' 50 3 i177_47 rfl rfl (by decide) rfl rfl rfl (fun hrm791 m791 hm791 => ?_)
  have hJ792 := w33_0 hJ767 hm791 (by omega) hrm791
  have wt793 : m791 g0 8 9 = (m g0 8 9) := Eq.trans (by rw [hm791]; exact z_upd_o _ _ rfl) wt768
  have wt794 : m791 g0 8 11 = (m g0 8 11) := Eq.trans (by rw [hm791]; exact z_upd_o _ _ rfl) wt769
  have wt795 : m791 g0 8 13 = (m g0 8 13) := Eq.trans (by rw [hm791]; exact z_upd_o _ _ rfl) wt770
  have wt796 : m791 g0 23 3 = (m571 g0 23 3) := Eq.trans (by rw [hm791]; exact z_upd_o _ _ rfl) wt771
  have wt797 : m791 g0 19 3 = (m551 g0 19 3) := Eq.trans (by rw [hm791]; exact z_upd_o _ _ rfl) wt772
  have wt798 : m791 g0 19 4 = (m551 g0 19 4) := Eq.trans (by rw [hm791]; exact z_upd_o _ _ rfl) wt773
  have wt799 : m791 g0 19 5 = (m551 g0 19 5) := Eq.trans (by rw [hm791]; exact z_upd_o _ _ rfl) wt774
  have wt800 : m791 g0 39 0 = (m g0 39 0) := Eq.trans (by rw [hm791]; exact z_upd_o _ _ rfl) wt775
  have wt801 : m791 g0 39 1 = (m g0 39 1) := Eq.trans (by rw [hm791]; exact z_upd_o _ _ rfl) wt776
  have wt802 : m791 g0 39 2 = (m g0 39 2) := Eq.trans (by rw [hm791]; exact z_upd_o _ _ rfl) wt777
  have wt803 : m791 g0 39 4 = (m g0 39 4) := Eq.trans (by rw [hm791]; exact z_upd_o _ _ rfl) wt778
  have wt804 : m791 g1 8 9 = (m g1 8 9) := Eq.trans (by rw [hm791]; exact z_upd_o _ _ rfl) wt779
  have wt805 : m791 g1 8 11 = (m g1 8 11) := Eq.trans (by rw [hm791]; exact z_upd_o _ _ rfl) wt780
  have wt806 : m791 g1 8 13 = (m g1 8 13) := Eq.trans (by rw [hm791]; exact z_upd_o _ _ rfl) wt781
  have wt807 : m791 g1 23 3 = (m571 g1 23 3) := Eq.trans (by rw [hm791]; exact z_upd_o _ _ rfl) wt782
  have wt808 : m791 g1 19 3 = (m551 g1 19 3) := Eq.trans (by rw [hm791]; exact z_upd_o _ _ rfl) wt783
  have wt809 : m791 g1 19 4 = (m551 g1 19 4) := Eq.trans (by rw [hm791]; exact z_upd_o _ _ rfl) wt784
  have wt810 : m791 g1 19 5 = (m551 g1 19 5) := Eq.trans (by rw [hm791]; exact z_upd_o _ _ rfl) wt785
  have wt811 : m791 g1 39 0 = (m g1 39 0) := Eq.trans (by rw [hm791]; exact z_upd_o _ _ rfl) wt786
  have wt812 : m791 g1 39 1 = (m g1 39 1) := Eq.trans (by rw [hm791]; exact z_upd_o _ _ rfl) wt787
  have wt813 : m791 g1 39 2 = (m g1 39 2) := Eq.trans (by rw [hm791]; exact z_upd_o _ _ rfl) wt788
  have wt814 : m791 g1 39 4 = (m g1 39 4) := Eq.trans (by rw [hm791]; exact z_upd_o _ _ rfl) wt789
  clear wt768 wt769 wt770 wt771 wt772 wt773 wt774 wt775 wt776 wt777 wt778 wt779 wt780 wt781 wt782 wt783 wt784 wt785 wt786 wt787 wt788 wt789
  refine X.retv i177_50 rfl t177 ?_
  show X (EE s) d 171 77 [(0, zr g0 8), (1, zr g1 8)] [] m791 _
  refine X.aload_n 78 i171_77 rfl rfl rfl ?_
  refine X.getR 81 i171_78 rfl rfl (by decide) rfl rfl ?_
  refine X.aload_n 82 i171_81 rfl rfl rfl ?_
  refine X.getR 85 i171_82 rfl rfl (by decide) rfl rfl ?_
  refine X.callv 88 [zr g1 37] [] [(0, zr g0 37), (1, zr g1 37)] i171_85 rfl (by decide) rfl rfl (by omega) rfl rfl (by decide) rfl t178 (Nat.le_of_ble_eq_true rfl) (Nat.le_of_ble_eq_true rfl) rfl ?_
  refine X.aload_n 1 i178_0 rfl rfl rfl ?_
  refine X.getR 4 i178_1 rfl rfl (by decide) rfl rfl ?_
  refine X.iconst 5 i178_4 rfl rfl (by decide) ?_
  refine X.aload_n 6 i178_5 rfl rfl rfl ?_
  refine X.getR 9 i178_6 rfl rfl (by decide) rfl rfl ?_
  refine X.iconst 10 i178_9 rfl rfl (by decide) ?_
  refine X.aload_n 11 i178_10 rfl rfl rfl ?_
  refine X.getR 14 i178_11 rfl rfl (by decide) rfl rfl ?_
  refine X.alen 15 i178_14 rfl rfl (by decide) rfl ?_
  show X (EE s) (d - 1) 178 15 [(0, zr g0 37), (1, zr g1 37)] [zi 120, zi 0, zr g0 38, zi 0, zr g1 38] m791 _
  refine X.cpI' 18 i178_15 rfl rfl (by omega) (Nat.le_of_ble_eq_true rfl) (by decide) (by decide) rfl rfl (by omega) (fun m815 hm815 => ?_)
  have hJ816 := J.cpyS hJ792 hm815 (fun _ => rfl)
  have wt817 : m815 g0 8 9 = (m g0 8 9) := Eq.trans (by rw [hm815]; exact z_cpy_o rfl) wt793
  have wt818 : m815 g0 8 11 = (m g0 8 11) := Eq.trans (by rw [hm815]; exact z_cpy_o rfl) wt794
  have wt819 : m815 g0 8 13 = (m g0 8 13) := Eq.trans (by rw [hm815]; exact z_cpy_o rfl) wt795
  have wt820 : m815 g0 23 3 = (m571 g0 23 3) := Eq.trans (by rw [hm815]; exact z_cpy_o rfl) wt796
  have wt821 : m815 g0 19 3 = (m551 g0 19 3) := Eq.trans (by rw [hm815]; exact z_cpy_o rfl) wt797
  have wt822 : m815 g0 19 4 = (m551 g0 19 4) := Eq.trans (by rw [hm815]; exact z_cpy_o rfl) wt798
  have wt823 : m815 g0 19 5 = (m551 g0 19 5) := Eq.trans (by rw [hm815]; exact z_cpy_o rfl) wt799
  have wt824 : m815 g0 39 0 = (m g0 39 0) := Eq.trans (by rw [hm815]; exact z_cpy_o rfl) wt800
  have wt825 : m815 g0 39 1 = (m g0 39 1) := Eq.trans (by rw [hm815]; exact z_cpy_o rfl) wt801
  have wt826 : m815 g0 39 2 = (m g0 39 2) := Eq.trans (by rw [hm815]; exact z_cpy_o rfl) wt802
  have wt827 : m815 g0 39 4 = (m g0 39 4) := Eq.trans (by rw [hm815]; exact z_cpy_o rfl) wt803
  have wt828 : m815 g1 8 9 = (m g1 8 9) := Eq.trans (by rw [hm815]; exact z_cpy_o rfl) wt804
  have wt829 : m815 g1 8 11 = (m g1 8 11) := Eq.trans (by rw [hm815]; exact z_cpy_o rfl) wt805
  have wt830 : m815 g1 8 13 = (m g1 8 13) := Eq.trans (by rw [hm815]; exact z_cpy_o rfl) wt806
  have wt831 : m815 g1 23 3 = (m571 g1 23 3) := Eq.trans (by rw [hm815]; exact z_cpy_o rfl) wt807
  have wt832 : m815 g1 19 3 = (m551 g1 19 3) := Eq.trans (by rw [hm815]; exact z_cpy_o rfl) wt808
  have wt833 : m815 g1 19 4 = (m551 g1 19 4) := Eq.trans (by rw [hm815]; exact z_cpy_o rfl) wt809
  have wt834 : m815 g1 19 5 = (m551 g1 19 5) := Eq.trans (by rw [hm815]; exact z_cpy_o rfl) wt810
  have wt835 : m815 g1 39 0 = (m g1 39 0) := Eq.trans (by rw [hm815]; exact z_cpy_o rfl) wt811
  have wt836 : m815 g1 39 1 = (m g1 39 1) := Eq.trans (by rw [hm815]; exact z_cpy_o rfl) wt812
  have wt837 : m815 g1 39 2 = (m g1 39 2) := Eq.trans (by rw [hm815]; exact z_cpy_o rfl) wt813
  have wt838 : m815 g1 39 4 = (m g1 39 4) := Eq.trans (by rw [hm815]; exact z_cpy_o rfl) wt814
  clear wt793 wt794 wt795 wt796 wt797 wt798 wt799 wt800 wt801 wt802 wt803 wt804 wt805 wt806 wt807 wt808 wt809 wt810 wt811 wt812 wt813 wt814
  refine X.aload_n 19 i178_18 rfl rfl rfl ?_
  refine X.aload_n 20 i178_19 rfl rfl rfl ?_
  refine X.getI 23 1 i178_20 rfl rfl (by decide) rfl rfl rfl ?_
  have h839 := r37_1 hJ816 g1
  refine X.putI' 26 1 i178_23 rfl rfl (by decide) rfl rfl rfl (fun hrm840 m840 hm840 => ?_)
  have hJ841 := w37_1 (hJ816.up (B' := B + 3) (by omega)) hm840 (by omega)
  have wt842 : m840 g0 8 9 = (m g0 8 9) := Eq.trans (by rw [hm840]; exact z_upd_o _ _ rfl) wt817
  have wt843 : m840 g0 8 11 = (m g0 8 11) := Eq.trans (by rw [hm840]; exact z_upd_o _ _ rfl) wt818
  have wt844 : m840 g0 8 13 = (m g0 8 13) := Eq.trans (by rw [hm840]; exact z_upd_o _ _ rfl) wt819
  have wt845 : m840 g0 23 3 = (m571 g0 23 3) := Eq.trans (by rw [hm840]; exact z_upd_o _ _ rfl) wt820
  have wt846 : m840 g0 19 3 = (m551 g0 19 3) := Eq.trans (by rw [hm840]; exact z_upd_o _ _ rfl) wt821
  have wt847 : m840 g0 19 4 = (m551 g0 19 4) := Eq.trans (by rw [hm840]; exact z_upd_o _ _ rfl) wt822
  have wt848 : m840 g0 19 5 = (m551 g0 19 5) := Eq.trans (by rw [hm840]; exact z_upd_o _ _ rfl) wt823
  have wt849 : m840 g0 39 0 = (m g0 39 0) := Eq.trans (by rw [hm840]; exact z_upd_o _ _ rfl) wt824
  have wt850 : m840 g0 39 1 = (m g0 39 1) := Eq.trans (by rw [hm840]; exact z_upd_o _ _ rfl) wt825
  have wt851 : m840 g0 39 2 = (m g0 39 2) := Eq.trans (by rw [hm840]; exact z_upd_o _ _ rfl) wt826
  have wt852 : m840 g0 39 4 = (m g0 39 4) := Eq.trans (by rw [hm840]; exact z_upd_o _ _ rfl) wt827
  have wt853 : m840 g1 8 9 = (m g1 8 9) := Eq.trans (by rw [hm840]; exact z_upd_o _ _ rfl) wt828
  have wt854 : m840 g1 8 11 = (m g1 8 11) := Eq.trans (by rw [hm840]; exact z_upd_o _ _ rfl) wt829
  have wt855 : m840 g1 8 13 = (m g1 8 13) := Eq.trans (by rw [hm840]; exact z_upd_o _ _ rfl) wt830
  have wt856 : m840 g1 23 3 = (m571 g1 23 3) := Eq.trans (by rw [hm840]; exact z_upd_o _ _ rfl) wt831
  have wt857 : m840 g1 19 3 = (m551 g1 19 3) := Eq.trans (by rw [hm840]; exact z_upd_o _ _ rfl) wt832
  have wt858 : m840 g1 19 4 = (m551 g1 19 4) := Eq.trans (by rw [hm840]; exact z_upd_o _ _ rfl) wt833
  have wt859 : m840 g1 19 5 = (m551 g1 19 5) := Eq.trans (by rw [hm840]; exact z_upd_o _ _ rfl) wt834
  have wt860 : m840 g1 39 0 = (m g1 39 0) := Eq.trans (by rw [hm840]; exact z_upd_o _ _ rfl) wt835
  have wt861 : m840 g1 39 1 = (m g1 39 1) := Eq.trans (by rw [hm840]; exact z_upd_o _ _ rfl) wt836
  have wt862 : m840 g1 39 2 = (m g1 39 2) := Eq.trans (by rw [hm840]; exact z_upd_o _ _ rfl) wt837
  have wt863 : m840 g1 39 4 = (m g1 39 4) := Eq.trans (by rw [hm840]; exact z_upd_o _ _ rfl) wt838
  clear wt817 wt818 wt819 wt820 wt821 wt822 wt823 wt824 wt825 wt826 wt827 wt828 wt829 wt830 wt831 wt832 wt833 wt834 wt835 wt836 wt837 wt838
  refine X.retv i178_26 rfl t178 ?_
  show X (EE s) d 171 88 [(0, zr g0 8), (1, zr g1 8)] [] m840 _
  refine X.aload_n 89 i171_88 rfl rfl rfl ?_
  refine X.getR 92 i171_89 rfl rfl (by decide) rfl rfl ?_
  refine X.aload_n 93 i171_92 rfl rfl rfl ?_
  refine X.getR 96 i171_93 rfl rfl (by decide) rfl rfl ?_
  refine X.callv 99 [zr g1 39] [] [(0, zr g0 39), (1, zr g1 39)] i171_96 rfl (by decide) rfl rfl (by omega) rfl rfl (by decide) rfl t179 (Nat.le_of_ble_eq_true rfl) (Nat.le_of_ble_eq_true rfl) rfl ?_
  refine c179_1 (S := zfr [(g0, 39, 0), (g0, 39, 1), (g0, 39, 2), (g0, 39, 4)] S) (m0 := m840) (B := B + 3) g0 g1  (by omega) (hJ841.ow.up (by omega)) (by omega) zm_z (zm_s zm_z) (zm_s (zm_s zm_z)) (zm_s (zm_s (zm_s zm_z))) (fun m864 hJ865 hqv8660 => ?_)
  have hJ867 := hJ841.trans hJ865 (zi_c hs7 (zi_c hs8 (zi_c hs9 (zi_c hs10 zi_n))))
  have wt868 : m864 g0 8 9 = (m g0 8 9) := Eq.trans (hJ865.eq rfl rfl) wt842
  have wt869 : m864 g0 8 11 = (m g0 8 11) := Eq.trans (hJ865.eq rfl rfl) wt843
  have wt870 : m864 g0 8 13 = (m g0 8 13) := Eq.trans (hJ865.eq rfl rfl) wt844
  have wt871 : m864 g0 23 3 = (m571 g0 23 3) := Eq.trans (hJ865.eq rfl rfl) wt845
  have wt872 : m864 g0 19 3 = (m551 g0 19 3) := Eq.trans (hJ865.eq rfl rfl) wt846
  have wt873 : m864 g0 19 4 = (m551 g0 19 4) := Eq.trans (hJ865.eq rfl rfl) wt847
  have wt874 : m864 g0 19 5 = (m551 g0 19 5) := Eq.trans (hJ865.eq rfl rfl) wt848
  have wt875 : m864 g1 8 9 = (m g1 8 9) := Eq.trans (hJ865.eq rfl rfl) wt853
  have wt876 : m864 g1 8 11 = (m g1 8 11) := Eq.trans (hJ865.eq rfl rfl) wt854
  have wt877 : m864 g1 8 13 = (m g1 8 13) := Eq.trans (hJ865.eq rfl rfl) wt855
  have wt878 : m864 g1 23 3 = (m571 g1 23 3) := Eq.trans (hJ865.eq rfl rfl) wt856
  have wt879 : m864 g1 19 3 = (m551 g1 19 3) := Eq.trans (hJ865.eq rfl rfl) wt857
  have wt880 : m864 g1 19 4 = (m551 g1 19 4) := Eq.trans (hJ865.eq rfl rfl) wt858
  have wt881 : m864 g1 19 5 = (m551 g1 19 5) := Eq.trans (hJ865.eq rfl rfl) wt859
  show X (EE s) d 171 99 [(0, zr g0 8), (1, zr g1 8)] [] m864 _
  refine X.aload_n 100 i171_99 rfl rfl rfl ?_
  refine X.aload_n 101 i171_100 rfl rfl rfl ?_
  refine X.getI 104 9 i171_101 rfl rfl (by decide) rfl rfl rfl ?_
  have h882 := r8_9 hJ867 g1
  refine X.putI' 107 9 i171_104 rfl rfl (by decide) rfl rfl rfl (fun hrm883 m883 hm883 => ?_)
  have hJ884 := w8_9 hJ867 hm883 (by omega) hs0
  have wt885 : m883 g0 8 9 = (m864 g1 8 9) := by rw [hm883]; exact z_upd_same _ _ _ _ _
  have wt886 : m883 g0 8 11 = (m g0 8 11) := Eq.trans (by rw [hm883]; exact z_upd_o _ _ rfl) wt869
  have wt887 : m883 g0 8 13 = (m g0 8 13) := Eq.trans (by rw [hm883]; exact z_upd_o _ _ rfl) wt870
  have wt888 : m883 g0 23 3 = (m571 g0 23 3) := Eq.trans (by rw [hm883]; exact z_upd_o _ _ rfl) wt871
  have wt889 : m883 g0 19 3 = (m551 g0 19 3) := Eq.trans (by rw [hm883]; exact z_upd_o _ _ rfl) wt872
  have wt890 : m883 g0 19 4 = (m551 g0 19 4) := Eq.trans (by rw [hm883]; exact z_upd_o _ _ rfl) wt873
  have wt891 : m883 g0 19 5 = (m551 g0 19 5) := Eq.trans (by rw [hm883]; exact z_upd_o _ _ rfl) wt874
  have wt892 : m883 g0 39 0 = (m864 g0 39 0) := by rw [hm883]; exact z_upd_o _ _ rfl
  have wt893 : m883 g0 39 1 = (m864 g0 39 1) := by rw [hm883]; exact z_upd_o _ _ rfl
  have wt894 : m883 g0 39 2 = (m864 g0 39 2) := by rw [hm883]; exact z_upd_o _ _ rfl
  have wt895 : m883 g0 39 4 = (m864 g0 39 4) := by rw [hm883]; exact z_upd_o _ _ rfl
  have wt896 : m883 g1 8 11 = (m g1 8 11) := Eq.trans (by rw [hm883]; exact z_upd_o _ _ rfl) wt876
  have wt897 : m883 g1 8 13 = (m g1 8 13) := Eq.trans (by rw [hm883]; exact z_upd_o _ _ rfl) wt877
  have wt898 : m883 g1 23 3 = (m571 g1 23 3) := Eq.trans (by rw [hm883]; exact z_upd_o _ _ rfl) wt878
  have wt899 : m883 g1 19 3 = (m551 g1 19 3) := Eq.trans (by rw [hm883]; exact z_upd_o _ _ rfl) wt879
  have wt900 : m883 g1 19 4 = (m551 g1 19 4) := Eq.trans (by rw [hm883]; exact z_upd_o _ _ rfl) wt880
  have wt901 : m883 g1 19 5 = (m551 g1 19 5) := Eq.trans (by rw [hm883]; exact z_upd_o _ _ rfl) wt881
  have wt902 : m883 g1 39 0 = (m864 g1 39 0) := by rw [hm883]; exact z_upd_o _ _ rfl
  have wt903 : m883 g1 39 1 = (m864 g1 39 1) := by rw [hm883]; exact z_upd_o _ _ rfl
  have wt904 : m883 g1 39 2 = (m864 g1 39 2) := by rw [hm883]; exact z_upd_o _ _ rfl
  have wt905 : m883 g1 39 4 = (m864 g1 39 4) := by rw [hm883]; exact z_upd_o _ _ rfl
  clear wt868 wt869 wt870 wt871 wt872 wt873 wt874 wt876 wt877 wt878 wt879 wt880 wt881
  have em883 : m883 g0 8 9 = (m864 g1 8 9) := by rw [hm883]; exact z_upd_same _ _ _ _ _
  refine X.aload_n 108 i171_107 rfl rfl rfl ?_
  refine X.aload_n 109 i171_108 rfl rfl rfl ?_
  refine X.getL 112 10 i171_109 rfl rfl (by decide) rfl rfl rfl ?_
  refine X.putL' 115 10 i171_112 rfl rfl (by decide) rfl rfl rfl (fun hrm906 m906 hm906 => ?_)
  have hJ907 := w8_10 hJ884 hm906 hrm906
  have wt908 : m906 g0 8 9 = (m864 g1 8 9) := Eq.trans (by rw [hm906]; exact z_upd_o _ _ rfl) wt885
  have wt909 : m906 g0 8 11 = (m g0 8 11) := Eq.trans (by rw [hm906]; exact z_upd_o _ _ rfl) wt886
  have wt910 : m906 g0 8 13 = (m g0 8 13) := Eq.trans (by rw [hm906]; exact z_upd_o _ _ rfl) wt887
  have wt911 : m906 g0 23 3 = (m571 g0 23 3) := Eq.trans (by rw [hm906]; exact z_upd_o _ _ rfl) wt888
  have wt912 : m906 g0 19 3 = (m551 g0 19 3) := Eq.trans (by rw [hm906]; exact z_upd_o _ _ rfl) wt889
  have wt913 : m906 g0 19 4 = (m551 g0 19 4) := Eq.trans (by rw [hm906]; exact z_upd_o _ _ rfl) wt890
  have wt914 : m906 g0 19 5 = (m551 g0 19 5) := Eq.trans (by rw [hm906]; exact z_upd_o _ _ rfl) wt891
  have wt915 : m906 g0 39 0 = (m864 g0 39 0) := Eq.trans (by rw [hm906]; exact z_upd_o _ _ rfl) wt892
  have wt916 : m906 g0 39 1 = (m864 g0 39 1) := Eq.trans (by rw [hm906]; exact z_upd_o _ _ rfl) wt893
  have wt917 : m906 g0 39 2 = (m864 g0 39 2) := Eq.trans (by rw [hm906]; exact z_upd_o _ _ rfl) wt894
  have wt918 : m906 g0 39 4 = (m864 g0 39 4) := Eq.trans (by rw [hm906]; exact z_upd_o _ _ rfl) wt895
  have wt919 : m906 g1 8 9 = (m883 g1 8 9) := by rw [hm906]; exact z_upd_o _ _ rfl
  have wt920 : m906 g1 8 11 = (m g1 8 11) := Eq.trans (by rw [hm906]; exact z_upd_o _ _ rfl) wt896
  have wt921 : m906 g1 8 13 = (m g1 8 13) := Eq.trans (by rw [hm906]; exact z_upd_o _ _ rfl) wt897
  have wt922 : m906 g1 23 3 = (m571 g1 23 3) := Eq.trans (by rw [hm906]; exact z_upd_o _ _ rfl) wt898
  have wt923 : m906 g1 19 3 = (m551 g1 19 3) := Eq.trans (by rw [hm906]; exact z_upd_o _ _ rfl) wt899
  have wt924 : m906 g1 19 4 = (m551 g1 19 4) := Eq.trans (by rw [hm906]; exact z_upd_o _ _ rfl) wt900
  have wt925 : m906 g1 19 5 = (m551 g1 19 5) := Eq.trans (by rw [hm906]; exact z_upd_o _ _ rfl) wt901
  have wt926 : m906 g1 39 0 = (m864 g1 39 0) := Eq.trans (by rw [hm906]; exact z_upd_o _ _ rfl) wt902
  have wt927 : m906 g1 39 1 = (m864 g1 39 1) := Eq.trans (by rw [hm906]; exact z_upd_o _ _ rfl) wt903
  have wt928 : m906 g1 39 2 = (m864 g1 39 2) := Eq.trans (by rw [hm906]; exact z_upd_o _ _ rfl) wt904
  have wt929 : m906 g1 39 4 = (m864 g1 39 4) := Eq.trans (by rw [hm906]; exact z_upd_o _ _ rfl) wt905
  clear wt885 wt886 wt887 wt888 wt889 wt890 wt891 wt892 wt893 wt894 wt895 wt896 wt897 wt898 wt899 wt900 wt901 wt902 wt903 wt904 wt905
  refine X.aload_n 116 i171_115 rfl rfl rfl ?_
  refine X.aload_n 117 i171_116 rfl rfl rfl ?_
  refine X.getZ 120 11 i171_117 rfl rfl (by decide) rfl rfl rfl (fun h930 => ?_)
  refine X.putZ' 123 11 i171_120 rfl rfl (by decide) rfl rfl rfl (by omega) (fun hrm931 m931 hm931 => ?_)
  have hJ932 := w8_11 hJ907 hm931 (by omega) hs1
  have wt933 : m931 g0 8 9 = (m864 g1 8 9) := Eq.trans (by rw [hm931]; exact z_upd_o _ _ rfl) wt908
  have wt934 : m931 g0 8 11 = (m906 g1 8 11) := by rw [hm931]; exact z_upd_same _ _ _ _ _
  have wt935 : m931 g0 8 13 = (m g0 8 13) := Eq.trans (by rw [hm931]; exact z_upd_o _ _ rfl) wt910
  have wt936 : m931 g0 23 3 = (m571 g0 23 3) := Eq.trans (by rw [hm931]; exact z_upd_o _ _ rfl) wt911
  have wt937 : m931 g0 19 3 = (m551 g0 19 3) := Eq.trans (by rw [hm931]; exact z_upd_o _ _ rfl) wt912
  have wt938 : m931 g0 19 4 = (m551 g0 19 4) := Eq.trans (by rw [hm931]; exact z_upd_o _ _ rfl) wt913
  have wt939 : m931 g0 19 5 = (m551 g0 19 5) := Eq.trans (by rw [hm931]; exact z_upd_o _ _ rfl) wt914
  have wt940 : m931 g0 39 0 = (m864 g0 39 0) := Eq.trans (by rw [hm931]; exact z_upd_o _ _ rfl) wt915
  have wt941 : m931 g0 39 1 = (m864 g0 39 1) := Eq.trans (by rw [hm931]; exact z_upd_o _ _ rfl) wt916
  have wt942 : m931 g0 39 2 = (m864 g0 39 2) := Eq.trans (by rw [hm931]; exact z_upd_o _ _ rfl) wt917
  have wt943 : m931 g0 39 4 = (m864 g0 39 4) := Eq.trans (by rw [hm931]; exact z_upd_o _ _ rfl) wt918
  have wt944 : m931 g1 8 9 = (m883 g1 8 9) := Eq.trans (by rw [hm931]; exact z_upd_o _ _ rfl) wt919
  have wt945 : m931 g1 8 13 = (m g1 8 13) := Eq.trans (by rw [hm931]; exact z_upd_o _ _ rfl) wt921
  have wt946 : m931 g1 23 3 = (m571 g1 23 3) := Eq.trans (by rw [hm931]; exact z_upd_o _ _ rfl) wt922
  have wt947 : m931 g1 19 3 = (m551 g1 19 3) := Eq.trans (by rw [hm931]; exact z_upd_o _ _ rfl) wt923
  have wt948 : m931 g1 19 4 = (m551 g1 19 4) := Eq.trans (by rw [hm931]; exact z_upd_o _ _ rfl) wt924
  have wt949 : m931 g1 19 5 = (m551 g1 19 5) := Eq.trans (by rw [hm931]; exact z_upd_o _ _ rfl) wt925
  have wt950 : m931 g1 39 0 = (m864 g1 39 0) := Eq.trans (by rw [hm931]; exact z_upd_o _ _ rfl) wt926
  have wt951 : m931 g1 39 1 = (m864 g1 39 1) := Eq.trans (by rw [hm931]; exact z_upd_o _ _ rfl) wt927
  have wt952 : m931 g1 39 2 = (m864 g1 39 2) := Eq.trans (by rw [hm931]; exact z_upd_o _ _ rfl) wt928
  have wt953 : m931 g1 39 4 = (m864 g1 39 4) := Eq.trans (by rw [hm931]; exact z_upd_o _ _ rfl) wt929
  clear wt908 wt909 wt910 wt911 wt912 wt913 wt914 wt915 wt916 wt917 wt918 wt919 wt921 wt922 wt923 wt924 wt925 wt926 wt927 wt928 wt929
  refine X.aload_n 124 i171_123 rfl rfl rfl ?_
  refine X.aload_n 125 i171_124 rfl rfl rfl ?_
  refine X.getZ 128 12 i171_125 rfl rfl (by decide) rfl rfl rfl (fun h954 => ?_)
  refine X.putZ' 131 12 i171_128 rfl rfl (by decide) rfl rfl rfl (by omega) (fun hrm955 m955 hm955 => ?_)
  have hJ956 := w8_12 hJ932 hm955 (by omega)
  have wt957 : m955 g0 8 9 = (m864 g1 8 9) := Eq.trans (by rw [hm955]; exact z_upd_o _ _ rfl) wt933
  have wt958 : m955 g0 8 11 = (m906 g1 8 11) := Eq.trans (by rw [hm955]; exact z_upd_o _ _ rfl) wt934
  have wt959 : m955 g0 8 13 = (m g0 8 13) := Eq.trans (by rw [hm955]; exact z_upd_o _ _ rfl) wt935
  have wt960 : m955 g0 23 3 = (m571 g0 23 3) := Eq.trans (by rw [hm955]; exact z_upd_o _ _ rfl) wt936
  have wt961 : m955 g0 19 3 = (m551 g0 19 3) := Eq.trans (by rw [hm955]; exact z_upd_o _ _ rfl) wt937
  have wt962 : m955 g0 19 4 = (m551 g0 19 4) := Eq.trans (by rw [hm955]; exact z_upd_o _ _ rfl) wt938
  have wt963 : m955 g0 19 5 = (m551 g0 19 5) := Eq.trans (by rw [hm955]; exact z_upd_o _ _ rfl) wt939
  have wt964 : m955 g0 39 0 = (m864 g0 39 0) := Eq.trans (by rw [hm955]; exact z_upd_o _ _ rfl) wt940
  have wt965 : m955 g0 39 1 = (m864 g0 39 1) := Eq.trans (by rw [hm955]; exact z_upd_o _ _ rfl) wt941
  have wt966 : m955 g0 39 2 = (m864 g0 39 2) := Eq.trans (by rw [hm955]; exact z_upd_o _ _ rfl) wt942
  have wt967 : m955 g0 39 4 = (m864 g0 39 4) := Eq.trans (by rw [hm955]; exact z_upd_o _ _ rfl) wt943
  have wt968 : m955 g1 8 9 = (m883 g1 8 9) := Eq.trans (by rw [hm955]; exact z_upd_o _ _ rfl) wt944
  have wt969 : m955 g1 8 11 = (m931 g1 8 11) := by rw [hm955]; exact z_upd_o _ _ rfl
  have wt970 : m955 g1 8 13 = (m g1 8 13) := Eq.trans (by rw [hm955]; exact z_upd_o _ _ rfl) wt945
  have wt971 : m955 g1 23 3 = (m571 g1 23 3) := Eq.trans (by rw [hm955]; exact z_upd_o _ _ rfl) wt946
  have wt972 : m955 g1 19 3 = (m551 g1 19 3) := Eq.trans (by rw [hm955]; exact z_upd_o _ _ rfl) wt947
  have wt973 : m955 g1 19 4 = (m551 g1 19 4) := Eq.trans (by rw [hm955]; exact z_upd_o _ _ rfl) wt948
  have wt974 : m955 g1 19 5 = (m551 g1 19 5) := Eq.trans (by rw [hm955]; exact z_upd_o _ _ rfl) wt949
  have wt975 : m955 g1 39 0 = (m864 g1 39 0) := Eq.trans (by rw [hm955]; exact z_upd_o _ _ rfl) wt950
  have wt976 : m955 g1 39 1 = (m864 g1 39 1) := Eq.trans (by rw [hm955]; exact z_upd_o _ _ rfl) wt951
  have wt977 : m955 g1 39 2 = (m864 g1 39 2) := Eq.trans (by rw [hm955]; exact z_upd_o _ _ rfl) wt952
  have wt978 : m955 g1 39 4 = (m864 g1 39 4) := Eq.trans (by rw [hm955]; exact z_upd_o _ _ rfl) wt953
  clear wt933 wt934 wt935 wt936 wt937 wt938 wt939 wt940 wt941 wt942 wt943 wt944 wt945 wt946 wt947 wt948 wt949 wt950 wt951 wt952 wt953
  refine X.aload_n 132 i171_131 rfl rfl rfl ?_
  refine X.aload_n 133 i171_132 rfl rfl rfl ?_
  refine X.getI 136 13 i171_133 rfl rfl (by decide) rfl rfl rfl ?_
  have h979 := r8_13 hJ956 g1
  refine X.putI' 139 13 i171_136 rfl rfl (by decide) rfl rfl rfl (fun hrm980 m980 hm980 => ?_)
  have hJ981 := w8_13 hJ956 hm980 (by omega) hs2
  have wt982 : m980 g0 8 9 = (m864 g1 8 9) := Eq.trans (by rw [hm980]; exact z_upd_o _ _ rfl) wt957
  have wt983 : m980 g0 8 11 = (m906 g1 8 11) := Eq.trans (by rw [hm980]; exact z_upd_o _ _ rfl) wt958
  have wt984 : m980 g0 8 13 = (m955 g1 8 13) := by rw [hm980]; exact z_upd_same _ _ _ _ _
  have wt985 : m980 g0 23 3 = (m571 g0 23 3) := Eq.trans (by rw [hm980]; exact z_upd_o _ _ rfl) wt960
  have wt986 : m980 g0 19 3 = (m551 g0 19 3) := Eq.trans (by rw [hm980]; exact z_upd_o _ _ rfl) wt961
  have wt987 : m980 g0 19 4 = (m551 g0 19 4) := Eq.trans (by rw [hm980]; exact z_upd_o _ _ rfl) wt962
  have wt988 : m980 g0 19 5 = (m551 g0 19 5) := Eq.trans (by rw [hm980]; exact z_upd_o _ _ rfl) wt963
  have wt989 : m980 g0 39 0 = (m864 g0 39 0) := Eq.trans (by rw [hm980]; exact z_upd_o _ _ rfl) wt964
  have wt990 : m980 g0 39 1 = (m864 g0 39 1) := Eq.trans (by rw [hm980]; exact z_upd_o _ _ rfl) wt965
  have wt991 : m980 g0 39 2 = (m864 g0 39 2) := Eq.trans (by rw [hm980]; exact z_upd_o _ _ rfl) wt966
  have wt992 : m980 g0 39 4 = (m864 g0 39 4) := Eq.trans (by rw [hm980]; exact z_upd_o _ _ rfl) wt967
  have wt993 : m980 g1 8 9 = (m883 g1 8 9) := Eq.trans (by rw [hm980]; exact z_upd_o _ _ rfl) wt968
  have wt994 : m980 g1 8 11 = (m931 g1 8 11) := Eq.trans (by rw [hm980]; exact z_upd_o _ _ rfl) wt969
  have wt995 : m980 g1 23 3 = (m571 g1 23 3) := Eq.trans (by rw [hm980]; exact z_upd_o _ _ rfl) wt971
  have wt996 : m980 g1 19 3 = (m551 g1 19 3) := Eq.trans (by rw [hm980]; exact z_upd_o _ _ rfl) wt972
  have wt997 : m980 g1 19 4 = (m551 g1 19 4) := Eq.trans (by rw [hm980]; exact z_upd_o _ _ rfl) wt973
  have wt998 : m980 g1 19 5 = (m551 g1 19 5) := Eq.trans (by rw [hm980]; exact z_upd_o _ _ rfl) wt974
  have wt999 : m980 g1 39 0 = (m864 g1 39 0) := Eq.trans (by rw [hm980]; exact z_upd_o _ _ rfl) wt975
  have wt1000 : m980 g1 39 1 = (m864 g1 39 1) := Eq.trans (by rw [hm980]; exact z_upd_o _ _ rfl) wt976
  have wt1001 : m980 g1 39 2 = (m864 g1 39 2) := Eq.trans (by rw [hm980]; exact z_upd_o _ _ rfl) wt977
  have wt1002 : m980 g1 39 4 = (m864 g1 39 4) := Eq.trans (by rw [hm980]; exact z_upd_o _ _ rfl) wt978
  clear wt957 wt958 wt959 wt960 wt961 wt962 wt963 wt964 wt965 wt966 wt967 wt968 wt969 wt971 wt972 wt973 wt974 wt975 wt976 wt977 wt978
  refine X.aload_n 140 i171_139 rfl rfl rfl ?_
  refine X.aload_n 141 i171_140 rfl rfl rfl ?_
  refine X.getIr 144 14 i171_141 rfl rfl (by decide) rfl rfl rfl (fun h1003 => ?_)
  refine X.putI' 147 14 i171_144 rfl rfl (by decide) rfl rfl rfl (fun hrm1004 m1004 hm1004 => ?_)
  have hJ1005 := w8_14 hJ981 hm1004 (by omega) hrm1004
  have wt1006 : m1004 g0 8 9 = (m864 g1 8 9) := Eq.trans (by rw [hm1004]; exact z_upd_i _ _ _ _ (by omega)) wt982
  have wt1007 : m1004 g0 8 11 = (m906 g1 8 11) := Eq.trans (by rw [hm1004]; exact z_upd_i _ _ _ _ (by omega)) wt983
  have wt1008 : m1004 g0 8 13 = (m955 g1 8 13) := Eq.trans (by rw [hm1004]; exact z_upd_i _ _ _ _ (by omega)) wt984
  have wt1009 : m1004 g0 23 3 = (m571 g0 23 3) := Eq.trans (by rw [hm1004]; exact z_upd_o _ _ rfl) wt985
  have wt1010 : m1004 g0 19 3 = (m551 g0 19 3) := Eq.trans (by rw [hm1004]; exact z_upd_o _ _ rfl) wt986
  have wt1011 : m1004 g0 19 4 = (m551 g0 19 4) := Eq.trans (by rw [hm1004]; exact z_upd_o _ _ rfl) wt987
  have wt1012 : m1004 g0 19 5 = (m551 g0 19 5) := Eq.trans (by rw [hm1004]; exact z_upd_o _ _ rfl) wt988
  have wt1013 : m1004 g0 39 0 = (m864 g0 39 0) := Eq.trans (by rw [hm1004]; exact z_upd_o _ _ rfl) wt989
  have wt1014 : m1004 g0 39 1 = (m864 g0 39 1) := Eq.trans (by rw [hm1004]; exact z_upd_o _ _ rfl) wt990
  have wt1015 : m1004 g0 39 2 = (m864 g0 39 2) := Eq.trans (by rw [hm1004]; exact z_upd_o _ _ rfl) wt991
  have wt1016 : m1004 g0 39 4 = (m864 g0 39 4) := Eq.trans (by rw [hm1004]; exact z_upd_o _ _ rfl) wt992
  have wt1017 : m1004 g1 8 9 = (m883 g1 8 9) := Eq.trans (by rw [hm1004]; exact z_upd_o _ _ rfl) wt993
  have wt1018 : m1004 g1 8 11 = (m931 g1 8 11) := Eq.trans (by rw [hm1004]; exact z_upd_o _ _ rfl) wt994
  have wt1019 : m1004 g1 8 13 = (m980 g1 8 13) := by rw [hm1004]; exact z_upd_o _ _ rfl
  have wt1020 : m1004 g1 23 3 = (m571 g1 23 3) := Eq.trans (by rw [hm1004]; exact z_upd_o _ _ rfl) wt995
  have wt1021 : m1004 g1 19 3 = (m551 g1 19 3) := Eq.trans (by rw [hm1004]; exact z_upd_o _ _ rfl) wt996
  have wt1022 : m1004 g1 19 4 = (m551 g1 19 4) := Eq.trans (by rw [hm1004]; exact z_upd_o _ _ rfl) wt997
  have wt1023 : m1004 g1 19 5 = (m551 g1 19 5) := Eq.trans (by rw [hm1004]; exact z_upd_o _ _ rfl) wt998
  have wt1024 : m1004 g1 39 0 = (m864 g1 39 0) := Eq.trans (by rw [hm1004]; exact z_upd_o _ _ rfl) wt999
  have wt1025 : m1004 g1 39 1 = (m864 g1 39 1) := Eq.trans (by rw [hm1004]; exact z_upd_o _ _ rfl) wt1000
  have wt1026 : m1004 g1 39 2 = (m864 g1 39 2) := Eq.trans (by rw [hm1004]; exact z_upd_o _ _ rfl) wt1001
  have wt1027 : m1004 g1 39 4 = (m864 g1 39 4) := Eq.trans (by rw [hm1004]; exact z_upd_o _ _ rfl) wt1002
  clear wt982 wt983 wt984 wt985 wt986 wt987 wt988 wt989 wt990 wt991 wt992 wt993 wt994 wt995 wt996 wt997 wt998 wt999 wt1000 wt1001 wt1002
  refine X.aload_n 148 i171_147 rfl rfl rfl ?_
  refine X.aload_n 149 i171_148 rfl rfl rfl ?_
  refine X.getIr 152 15 i171_149 rfl rfl (by decide) rfl rfl rfl (fun h1028 => ?_)
  refine X.putI' 155 15 i171_152 rfl rfl (by decide) rfl rfl rfl (fun hrm1029 m1029 hm1029 => ?_)
  have hJ1030 := w8_14 hJ1005 hm1029 (by omega) hrm1029
  have wt1031 : m1029 g0 8 9 = (m864 g1 8 9) := Eq.trans (by rw [hm1029]; exact z_upd_i _ _ _ _ (by omega)) wt1006
  have wt1032 : m1029 g0 8 11 = (m906 g1 8 11) := Eq.trans (by rw [hm1029]; exact z_upd_i _ _ _ _ (by omega)) wt1007
  have wt1033 : m1029 g0 8 13 = (m955 g1 8 13) := Eq.trans (by rw [hm1029]; exact z_upd_i _ _ _ _ (by omega)) wt1008
  have wt1034 : m1029 g0 23 3 = (m571 g0 23 3) := Eq.trans (by rw [hm1029]; exact z_upd_o _ _ rfl) wt1009
  have wt1035 : m1029 g0 19 3 = (m551 g0 19 3) := Eq.trans (by rw [hm1029]; exact z_upd_o _ _ rfl) wt1010
  have wt1036 : m1029 g0 19 4 = (m551 g0 19 4) := Eq.trans (by rw [hm1029]; exact z_upd_o _ _ rfl) wt1011
  have wt1037 : m1029 g0 19 5 = (m551 g0 19 5) := Eq.trans (by rw [hm1029]; exact z_upd_o _ _ rfl) wt1012
  have wt1038 : m1029 g0 39 0 = (m864 g0 39 0) := Eq.trans (by rw [hm1029]; exact z_upd_o _ _ rfl) wt1013
  have wt1039 : m1029 g0 39 1 = (m864 g0 39 1) := Eq.trans (by rw [hm1029]; exact z_upd_o _ _ rfl) wt1014
  have wt1040 : m1029 g0 39 2 = (m864 g0 39 2) := Eq.trans (by rw [hm1029]; exact z_upd_o _ _ rfl) wt1015
  have wt1041 : m1029 g0 39 4 = (m864 g0 39 4) := Eq.trans (by rw [hm1029]; exact z_upd_o _ _ rfl) wt1016
  have wt1042 : m1029 g1 8 9 = (m883 g1 8 9) := Eq.trans (by rw [hm1029]; exact z_upd_o _ _ rfl) wt1017
  have wt1043 : m1029 g1 8 11 = (m931 g1 8 11) := Eq.trans (by rw [hm1029]; exact z_upd_o _ _ rfl) wt1018
  have wt1044 : m1029 g1 8 13 = (m980 g1 8 13) := Eq.trans (by rw [hm1029]; exact z_upd_o _ _ rfl) wt1019
  have wt1045 : m1029 g1 23 3 = (m571 g1 23 3) := Eq.trans (by rw [hm1029]; exact z_upd_o _ _ rfl) wt1020
  have wt1046 : m1029 g1 19 3 = (m551 g1 19 3) := Eq.trans (by rw [hm1029]; exact z_upd_o _ _ rfl) wt1021
  have wt1047 : m1029 g1 19 4 = (m551 g1 19 4) := Eq.trans (by rw [hm1029]; exact z_upd_o _ _ rfl) wt1022
  have wt1048 : m1029 g1 19 5 = (m551 g1 19 5) := Eq.trans (by rw [hm1029]; exact z_upd_o _ _ rfl) wt1023
  have wt1049 : m1029 g1 39 0 = (m864 g1 39 0) := Eq.trans (by rw [hm1029]; exact z_upd_o _ _ rfl) wt1024
  have wt1050 : m1029 g1 39 1 = (m864 g1 39 1) := Eq.trans (by rw [hm1029]; exact z_upd_o _ _ rfl) wt1025
  have wt1051 : m1029 g1 39 2 = (m864 g1 39 2) := Eq.trans (by rw [hm1029]; exact z_upd_o _ _ rfl) wt1026
  have wt1052 : m1029 g1 39 4 = (m864 g1 39 4) := Eq.trans (by rw [hm1029]; exact z_upd_o _ _ rfl) wt1027
  clear wt1006 wt1007 wt1008 wt1009 wt1010 wt1011 wt1012 wt1013 wt1014 wt1015 wt1016 wt1017 wt1018 wt1019 wt1020 wt1021 wt1022 wt1023 wt1024 wt1025 wt1026 wt1027
  refine X.retv i171_155 rfl t171 ?_
  exact hQ  m1029  (hJ1030.up (by omega)) (by exact ⟨by omega, by omega, by omega, by omega, by omega, by omega, by omega, by omega, by omega, by omega, by omega⟩)
theorem l180_6_1 {s : Nat × (Nat → Int32)} {S : zS} {m0 m : zM} {B : Int} {d : Nat} {Q : Option zV → zM → Prop} (g0 : Nat) (hd : 13 ≤ d) (hJ : J S m0 B m) (hB9 : B ≤ 1000000000)
    (K28 : ∀ (x1 : Int) , ((-1) ≤ x1) → X (EE s) d 180 28 [(1, zl x1)] [] m Q) :
    ∀ (n : Nat) (y1 y3 : Int) , ((-1) ≤ y1) → (0 ≤ y3 ∧ y3 ≤ 4) → 4 - y3 < (n : Int) → X (EE s) d 180 6 [(0, zr g0 30), (1, zl y1), (3, zi y3)] [] m Q := by
  intro n
  induction n with
  | zero =>
    intro y1 y3 hy1 hy3 hn
    exfalso
    omega
  | succ n ih =>
    intro y1 y3 hy1 hy3 hn
    refine X.iload_n 7 i180_6 rfl rfl rfl ?_
    refine X.iconst 8 i180_7 rfl rfl (by decide) ?_
    refine X.icmpge 28 11 i180_8 rfl rfl rfl (fun h503 => ?_) (fun h503 => ?_)
    · refine X.cut [(1, zl y1)] i180_28 rfl ?_
      exact K28 y1 (by first | trivial | omega)
    · refine X.lload_n 12 i180_11 rfl rfl rfl ?_
      refine X.aload_n 13 i180_12 rfl rfl rfl ?_
      refine X.getR 16 i180_13 rfl rfl (by decide) rfl rfl ?_
      refine X.iload_n 17 i180_16 rfl rfl rfl ?_
      refine X.lald 18 i180_17 rfl rfl (by decide) rfl (by omega) ?_
      refine X.maxL 21 i180_18 rfl rfl (by omega) (Nat.le_of_ble_eq_true rfl) ?_
      refine X.lstore_n 22 [(0, zr g0 30), (1, zl (max y1 (m g0 31 y3))), (3, zi y3)] i180_21 rfl rfl rfl ?_
      refine X.iinc 25 [(0, zr g0 30), (1, zl (max y1 (m g0 31 y3))), (3, zi (y3 + 1))] i180_22 rfl rfl rfl (by omega) rfl ?_
      refine X.goto 6 i180_25 rfl rfl ?_
      exact ih (max y1 (m g0 31 y3)) (y3 + 1) (by omega) (by omega) (by omega)
-- WorkMeter$Demand.mostOfAll
theorem c180_1 {s : Nat × (Nat → Int32)} {S : zS} {m0 m : zM} {B : Int} {d : Nat} {Q : Option zV → zM → Prop} (g0 : Nat) (hd : 13 ≤ d) (hJ : J S m0 B m) (hB : B + 0 ≤ 1000000000) (hQ : ∀ (v : Int), ((-1) ≤ v) → Q (some (zl v)) m) : X (EE s) d 180 0 [(0, zr g0 30)] [] m Q := by
  refine X.ldc2 3 i180_0 rfl rfl (by decide) ?_
  refine X.lstore_n 4 [(0, zr g0 30), (1, zl (-1))] i180_3 rfl rfl rfl ?_
  refine X.iconst 5 i180_4 rfl rfl (by decide) ?_
  refine X.istore_n 6 [(0, zr g0 30), (1, zl (-1)), (3, zi 0)] i180_5 rfl rfl rfl ?_
  refine l180_6_1 (s := s) (S := S) (m0 := m0) (m := m) (B := B) (d := d) g0  (by omega) (hJ.up (by omega)) (by omega) (fun y501 hby501 => ?_) ((4 - 0 : Int).toNat + 1) (-1) 0 (by omega) (by omega) (by omega)
  refine X.lload_n 29 i180_28 rfl rfl rfl ?_
  refine X.retl i180_29 rfl t180 ?_
  exact hQ y501 (by first | trivial | omega) 
-- WorkMeter.would
theorem c170_1 {s : Nat × (Nat → Int32)} {S : zS} {m0 m : zM} {B : Int} {d : Nat} {Q : Option zV → zM → Prop} (a1 a2 : Int) (hd : 19 ≤ d) (hJ : J S m0 B m) (hB : B + 7212 ≤ 1000000000) (ha1 : (-2147483648) ≤ a1 ∧ a1 ≤ 2147483647) (ha2 : (-2147483648) ≤ a2 ∧ a2 ≤ 2147483647) (hp0 : m 0 8 13 ≤ 1000000000) (hs0 : S.1 2 8 9) (hs1 : S.1 2 8 11) (hs2 : S.1 2 8 13) (hs3 : S.1 2 23 3) (hs4 : S.1 2 19 3) (hs5 : S.1 2 19 4) (hs6 : S.1 2 19 5) (hs7 : S.1 2 39 0) (hs8 : S.1 2 39 1) (hs9 : S.1 2 39 2) (hs10 : S.1 2 39 4) (hQ : ∀ (v : Int) m', (True) → J S m0 (B + 7212) m' → Q (some (zl v)) m') : X (EE s) d 170 0 [(0, zr 4 40), (1, zi a1), (2, zi a2)] [] m Q := by
  refine X.iload_n 1 i170_0 rfl rfl rfl ?_
  refine X.iconst 2 i170_1 rfl rfl (by decide) ?_
  refine X.icmplt 22 5 i170_2 rfl rfl rfl (fun h501 => ?_) (fun h501 => ?_)
  · refine X.cut [] i170_22 rfl ?_
    refine X.ldc2 25 i170_22 rfl rfl (by decide) ?_
    refine X.retl i170_25 rfl t170 ?_
    exact hQ (-10000000000) m (by first | trivial | omega) (hJ.up (by omega)) 
  · refine X.iload_n 6 i170_5 rfl rfl rfl ?_
    refine X.sipush 9 i170_6 rfl rfl (by decide) ?_
    refine X.icmpgt 22 12 i170_9 rfl rfl rfl (fun h502 => ?_) (fun h502 => ?_)
    · refine X.cut [] i170_22 rfl ?_
      refine X.ldc2 25 i170_22 rfl rfl (by decide) ?_
      refine X.retl i170_25 rfl t170 ?_
      exact hQ (-10000000000) m (by first | trivial | omega) (hJ.up (by omega)) 
    · refine X.iload_n 13 i170_12 rfl rfl rfl ?_
      refine X.iflt 22 16 i170_13 rfl rfl rfl (fun h503 => ?_) (fun h503 => ?_)
      · refine X.cut [] i170_22 rfl ?_
        refine X.ldc2 25 i170_22 rfl rfl (by decide) ?_
        refine X.retl i170_25 rfl t170 ?_
        exact hQ (-10000000000) m (by first | trivial | omega) (hJ.up (by omega)) 
      · refine X.iload_n 17 i170_16 rfl rfl rfl ?_
        refine X.bipush 19 i170_17 rfl rfl (by decide) ?_
        refine X.icmple 26 22 i170_19 rfl rfl rfl (fun h504 => ?_) (fun h504 => ?_)
        · refine X.aload_n 27 i170_26 rfl rfl rfl ?_
          refine X.getF 30 i170_27 rfl rfl (by decide) rfl rfl ?_
          refine X.aload_n 31 i170_30 rfl rfl rfl ?_
          refine X.getF 34 i170_31 rfl rfl (by decide) rfl rfl ?_
          refine X.callv 37 [zr 0 8] [] [(0, zr 2 8), (1, zr 0 8)] i170_34 rfl (by decide) rfl rfl (by omega) rfl rfl (by decide) rfl t171 (Nat.le_of_ble_eq_true rfl) (Nat.le_of_ble_eq_true rfl) rfl ?_
          refine c171_1 (S := zfr [(2, 8, 9), (2, 8, 11), (2, 8, 13), (2, 23, 3), (2, 19, 3), (2, 19, 4), (2, 19, 5), (2, 39, 0), (2, 39, 1), (2, 39, 2), (2, 39, 4)] S) (m0 := m) (B := B) 2 0  (by omega) (hJ.ow.up (by omega)) (by omega) zm_z (zm_s zm_z) (zm_s (zm_s zm_z)) (zm_s (zm_s (zm_s zm_z))) (zm_s (zm_s (zm_s (zm_s zm_z)))) (zm_s (zm_s (zm_s (zm_s (zm_s zm_z))))) (zm_s (zm_s (zm_s (zm_s (zm_s (zm_s zm_z)))))) (zm_s (zm_s (zm_s (zm_s (zm_s (zm_s (zm_s zm_z))))))) (zm_s (zm_s (zm_s (zm_s (zm_s (zm_s (zm_s (zm_s zm_z)))))))) (zm_s (zm_s (zm_s (zm_s (zm_s (zm_s (zm_s (zm_s (zm_s zm_z))))))))) (zm_s (zm_s (zm_s (zm_s (zm_s (zm_s (zm_s (zm_s (zm_s (zm_s zm_z)))))))))) (fun m505 hJ506 hqv5070 => ?_)
          have hJ508 := hJ.trans hJ506 (zi_c hs0 (zi_c hs1 (zi_c hs2 (zi_c hs3 (zi_c hs4 (zi_c hs5 (zi_c hs6 (zi_c hs7 (zi_c hs8 (zi_c hs9 (zi_c hs10 zi_n)))))))))))
          have wt509 : m505 0 8 13 = (m 0 8 13) := hJ506.eq rfl rfl
          show X (EE s) d 170 37 [(0, zr 4 40), (1, zi a1), (2, zi a2)] [] m505 _
          refine X.aload_n 38 i170_37 rfl rfl rfl ?_
          refine X.getF 41 i170_38 rfl rfl (by decide) rfl rfl ?_
          refine X.iload_n 42 i170_41 rfl rfl rfl ?_
          refine X.callv 45 [zi a1] [] [(0, zr 2 8), (1, zi a1)] i170_42 rfl (by decide) rfl rfl (by omega) rfl rfl (by decide) rfl t25 (Nat.le_of_ble_eq_true rfl) (Nat.le_of_ble_eq_true rfl) rfl ?_
          refine c25_2 (S := zfr [(2, 8, 9), (2, 8, 13)] S) (m0 := m505) (B := B + 4) 2 a1 (by omega) (hJ508.ow.up (by omega)) (by omega) (by omega) (by omega) (by omega) zm_z (zm_s zm_z) (fun m510 hJ511 hqv5120 => ?_)
          have hJ513 := hJ508.trans hJ511 (zi_c hs0 (zi_c hs2 zi_n))
          have wt514 : m510 2 8 11 = (m505 2 8 11) := hJ511.eq rfl rfl
          have wt515 : m510 2 23 3 = (m505 2 23 3) := hJ511.eq rfl rfl
          have wt516 : m510 2 19 3 = (m505 2 19 3) := hJ511.eq rfl rfl
          have wt517 : m510 2 19 4 = (m505 2 19 4) := hJ511.eq rfl rfl
          have wt518 : m510 2 19 5 = (m505 2 19 5) := hJ511.eq rfl rfl
          have wt519 : m510 2 39 0 = (m505 2 39 0) := hJ511.eq rfl rfl
          have wt520 : m510 2 39 1 = (m505 2 39 1) := hJ511.eq rfl rfl
          have wt521 : m510 2 39 2 = (m505 2 39 2) := hJ511.eq rfl rfl
          have wt522 : m510 2 39 4 = (m505 2 39 4) := hJ511.eq rfl rfl
          have wt523 : m510 0 8 13 = (m 0 8 13) := Eq.trans (hJ511.eq rfl rfl) wt509
          show X (EE s) d 170 45 [(0, zr 4 40), (1, zi a1), (2, zi a2)] [] m510 _
          refine X.iload_n 46 i170_45 rfl rfl rfl ?_
          by_cases h524 : a2 = 0
          · refine X.tsIn 84 0 i170_46 rfl (by omega) rfl rfl ?_
            refine X.cut [(0, zr 4 40)] i170_84 rfl ?_
            refine X.aload_n 85 i170_84 rfl rfl rfl ?_
            refine X.getF 88 i170_85 rfl rfl (by decide) rfl rfl ?_
            refine X.iconst 89 i170_88 rfl rfl (by decide) ?_
            refine X.callv 92 [zi 0] [] [(0, zr 2 8), (1, zi 0)] i170_89 rfl (by decide) rfl rfl (by omega) rfl rfl (by decide) rfl t70 (Nat.le_of_ble_eq_true rfl) (Nat.le_of_ble_eq_true rfl) rfl ?_
            refine X.aload_n 1 i70_0 rfl rfl rfl ?_
            refine X.getR 4 i70_1 rfl rfl (by decide) rfl rfl ?_
            refine X.iload_n 5 i70_4 rfl rfl rfl ?_
            refine X.iconst 6 i70_5 rfl rfl (by decide) ?_
            refine X.callv 9 [zi 0, zi (-1)] [] [(0, zr 2 23), (1, zi 0), (2, zi (-1))] i70_6 rfl (by decide) rfl rfl (by omega) rfl rfl (by decide) rfl t71 (Nat.le_of_ble_eq_true rfl) (Nat.le_of_ble_eq_true rfl) rfl ?_
            refine X.aload_n 1 i71_0 rfl rfl rfl ?_
            refine X.getR 4 i71_1 rfl rfl (by decide) rfl rfl ?_
            refine X.iload_n 5 i71_4 rfl rfl rfl ?_
            refine X.iconst 6 i71_5 rfl rfl (by decide) ?_
            refine X.imul 7 i71_6 rfl rfl (by omega) ?_
            refine X.iload_n 8 i71_7 rfl rfl rfl ?_
            refine X.calls 11 [zr 2 24, zi (0 * 4), zi (-1)] [] [(0, zr 2 24), (1, zi (0 * 4)), (2, zi (-1))] i71_8 (by decide) rfl rfl (by omega) rfl rfl t72 (Nat.le_of_ble_eq_true rfl) (Nat.le_of_ble_eq_true rfl) rfl ?_
            refine c72_1 (B := B + 7212) 2 (0 * 4) (-1) (by omega) (hJ513.up (by omega)) (by omega) (by omega) (by omega) (fun v527 hv527 => ?_)
            show X (EE s) ((d - 1) - 1) 71 11 [(0, zr 2 23), (1, zi 0), (2, zi (-1))] [zl v527] m510 _
            refine X.retl i71_11 rfl t71 ?_
            show X (EE s) (d - 1) 70 9 [(0, zr 2 8), (1, zi 0)] [zl v527] m510 _
            refine X.aload_n 10 i70_9 rfl rfl rfl ?_
            refine X.getR 13 i70_10 rfl rfl (by decide) rfl rfl ?_
            refine X.callv 16 [] [zl v527] [(0, zr 2 9)] i70_13 rfl (by decide) rfl rfl (by omega) rfl rfl (by decide) rfl t48 (Nat.le_of_ble_eq_true rfl) (Nat.le_of_ble_eq_true rfl) rfl ?_
            refine X.iconst 1 i48_0 rfl rfl (by decide) ?_
            refine X.aload_n 2 i48_1 rfl rfl rfl ?_
            refine X.getR 5 i48_2 rfl rfl (by decide) rfl rfl ?_
            refine X.iconst 6 i48_5 rfl rfl (by decide) ?_
            refine X.iald 7 i48_6 rfl rfl (by decide) rfl (by omega) ?_
            have h528 := r10_0 hJ513 2 (i := 1) (by omega)
            refine X.maxI 10 i48_7 rfl rfl (by omega) (Nat.le_of_ble_eq_true rfl) ?_
            refine X.reti i48_10 rfl t48 ?_
            show X (EE s) (d - 1) 70 16 [(0, zr 2 8), (1, zi 0)] [zi (max 1 (m510 2 10 1)), zl v527] m510 _
            refine X.i2l 17 i70_16 rfl rfl ?_
            refine X.ldivF 18 i70_17 rfl rfl (by omega) (fun z529 => ?_)
            refine X.retl i70_18 rfl t70 ?_
            show X (EE s) d 170 92 [(0, zr 4 40)] [zl z529] m510 _
            refine X.retl i170_92 rfl t170 ?_
            exact hQ z529 m510 (by first | trivial | omega) (hJ513.up (by omega)) 
          by_cases h530 : a2 = 1
          · refine X.tsIn 93 1 i170_46 rfl (by omega) rfl rfl ?_
            refine X.cut [(0, zr 4 40)] i170_93 rfl ?_
            refine X.aload_n 94 i170_93 rfl rfl rfl ?_
            refine X.getF 97 i170_94 rfl rfl (by decide) rfl rfl ?_
            refine X.iconst 98 i170_97 rfl rfl (by decide) ?_
            refine X.callv 101 [zi 1] [] [(0, zr 2 8), (1, zi 1)] i170_98 rfl (by decide) rfl rfl (by omega) rfl rfl (by decide) rfl t70 (Nat.le_of_ble_eq_true rfl) (Nat.le_of_ble_eq_true rfl) rfl ?_
            refine X.aload_n 1 i70_0 rfl rfl rfl ?_
            refine X.getR 4 i70_1 rfl rfl (by decide) rfl rfl ?_
            refine X.iload_n 5 i70_4 rfl rfl rfl ?_
            refine X.iconst 6 i70_5 rfl rfl (by decide) ?_
            refine X.callv 9 [zi 1, zi (-1)] [] [(0, zr 2 23), (1, zi 1), (2, zi (-1))] i70_6 rfl (by decide) rfl rfl (by omega) rfl rfl (by decide) rfl t71 (Nat.le_of_ble_eq_true rfl) (Nat.le_of_ble_eq_true rfl) rfl ?_
            refine X.aload_n 1 i71_0 rfl rfl rfl ?_
            refine X.getR 4 i71_1 rfl rfl (by decide) rfl rfl ?_
            refine X.iload_n 5 i71_4 rfl rfl rfl ?_
            refine X.iconst 6 i71_5 rfl rfl (by decide) ?_
            refine X.imul 7 i71_6 rfl rfl (by omega) ?_
            refine X.iload_n 8 i71_7 rfl rfl rfl ?_
            refine X.calls 11 [zr 2 24, zi (1 * 4), zi (-1)] [] [(0, zr 2 24), (1, zi (1 * 4)), (2, zi (-1))] i71_8 (by decide) rfl rfl (by omega) rfl rfl t72 (Nat.le_of_ble_eq_true rfl) (Nat.le_of_ble_eq_true rfl) rfl ?_
            refine c72_2 (B := B + 7212) 2 (1 * 4) (-1) (by omega) (hJ513.up (by omega)) (by omega) (by omega) (by omega) (fun v533 hv533 => ?_)
            show X (EE s) ((d - 1) - 1) 71 11 [(0, zr 2 23), (1, zi 1), (2, zi (-1))] [zl v533] m510 _
            refine X.retl i71_11 rfl t71 ?_
            show X (EE s) (d - 1) 70 9 [(0, zr 2 8), (1, zi 1)] [zl v533] m510 _
            refine X.aload_n 10 i70_9 rfl rfl rfl ?_
            refine X.getR 13 i70_10 rfl rfl (by decide) rfl rfl ?_
            refine X.callv 16 [] [zl v533] [(0, zr 2 9)] i70_13 rfl (by decide) rfl rfl (by omega) rfl rfl (by decide) rfl t48 (Nat.le_of_ble_eq_true rfl) (Nat.le_of_ble_eq_true rfl) rfl ?_
            refine X.iconst 1 i48_0 rfl rfl (by decide) ?_
            refine X.aload_n 2 i48_1 rfl rfl rfl ?_
            refine X.getR 5 i48_2 rfl rfl (by decide) rfl rfl ?_
            refine X.iconst 6 i48_5 rfl rfl (by decide) ?_
            refine X.iald 7 i48_6 rfl rfl (by decide) rfl (by omega) ?_
            have h534 := r10_0 hJ513 2 (i := 1) (by omega)
            refine X.maxI 10 i48_7 rfl rfl (by omega) (Nat.le_of_ble_eq_true rfl) ?_
            refine X.reti i48_10 rfl t48 ?_
            show X (EE s) (d - 1) 70 16 [(0, zr 2 8), (1, zi 1)] [zi (max 1 (m510 2 10 1)), zl v533] m510 _
            refine X.i2l 17 i70_16 rfl rfl ?_
            refine X.ldivF 18 i70_17 rfl rfl (by omega) (fun z535 => ?_)
            refine X.retl i70_18 rfl t70 ?_
            show X (EE s) d 170 101 [(0, zr 4 40)] [zl z535] m510 _
            refine X.retl i170_101 rfl t170 ?_
            exact hQ z535 m510 (by first | trivial | omega) (hJ513.up (by omega)) 
          by_cases h536 : a2 = 2
          · refine X.tsIn 102 2 i170_46 rfl (by omega) rfl rfl ?_
            refine X.cut [(0, zr 4 40)] i170_102 rfl ?_
            refine X.aload_n 103 i170_102 rfl rfl rfl ?_
            refine X.getF 106 i170_103 rfl rfl (by decide) rfl rfl ?_
            refine X.getL 109 10 i170_106 rfl rfl (by decide) rfl rfl rfl ?_
            refine X.retl i170_109 rfl t170 ?_
            exact hQ (m510 2 8 10) m510 (by first | trivial | omega) (hJ513.up (by omega)) 
          by_cases h537 : a2 = 3
          · refine X.tsIn 110 3 i170_46 rfl (by omega) rfl rfl ?_
            refine X.cut [(0, zr 4 40)] i170_110 rfl ?_
            refine X.aload_n 111 i170_110 rfl rfl rfl ?_
            refine X.getF 114 i170_111 rfl rfl (by decide) rfl rfl ?_
            refine X.getR 117 i170_114 rfl rfl (by decide) rfl rfl ?_
            refine X.callv 120 [] [] [(0, zr 2 30)] i170_117 rfl (by decide) rfl rfl (by omega) rfl rfl (by decide) rfl t180 (Nat.le_of_ble_eq_true rfl) (Nat.le_of_ble_eq_true rfl) rfl ?_
            refine c180_1 (B := B + 7212) 2  (by omega) (hJ513.up (by omega)) (by omega)  (fun v540 hv540 => ?_)
            show X (EE s) d 170 120 [(0, zr 4 40)] [zl v540] m510 _
            refine X.retl i170_120 rfl t170 ?_
            exact hQ v540 m510 (by first | trivial | omega) (hJ513.up (by omega)) 
          by_cases h541 : a2 = 4
          · refine X.tsIn 121 4 i170_46 rfl (by omega) rfl rfl ?_
            refine X.cut [(0, zr 4 40)] i170_121 rfl ?_
            refine X.aload_n 122 i170_121 rfl rfl rfl ?_
            refine X.getF 125 i170_122 rfl rfl (by decide) rfl rfl ?_
            refine X.getR 128 i170_125 rfl rfl (by decide) rfl rfl ?_
            refine X.getIr 131 3 i170_128 rfl rfl (by decide) rfl rfl rfl (fun h542 => ?_)
            refine X.i2l 132 i170_131 rfl rfl ?_
            refine X.retl i170_132 rfl t170 ?_
            exact hQ (m510 2 33 3) m510 (by first | trivial | omega) (hJ513.up (by omega)) 
          by_cases h543 : a2 = 5
          · refine X.tsIn 133 5 i170_46 rfl (by omega) rfl rfl ?_
            refine X.cut [(0, zr 4 40)] i170_133 rfl ?_
            refine X.aload_n 134 i170_133 rfl rfl rfl ?_
            refine X.getF 137 i170_134 rfl rfl (by decide) rfl rfl ?_
            refine X.getZ 140 12 i170_137 rfl rfl (by decide) rfl rfl rfl (fun h544 => ?_)
            refine X.ifeq 147 143 i170_140 rfl rfl rfl (fun h545 => ?_) (fun h545 => ?_)
            · refine X.cut [] i170_147 rfl ?_
              refine X.lconst (y := 0) 148 i170_147 rfl rfl rfl ?_
              refine X.retl i170_148 rfl t170 ?_
              exact hQ 0 m510 (by first | trivial | omega) (hJ513.up (by omega)) 
            · refine X.lconst (y := 1) 144 i170_143 rfl rfl rfl ?_
              refine X.goto 148 i170_144 rfl rfl ?_
              refine X.cut [] i170_148 rfl ?_
              refine X.retl i170_148 rfl t170 ?_
              exact hQ 1 m510 (by first | trivial | omega) (hJ513.up (by omega)) 
          refine X.tsOut 149 i170_46 rfl (by omega) rfl ?_
          refine X.cut [(0, zr 4 40)] i170_149 rfl ?_
          refine X.aload_n 150 i170_149 rfl rfl rfl ?_
          refine X.getF 153 i170_150 rfl rfl (by decide) rfl rfl ?_
          refine X.getI 156 9 i170_153 rfl rfl (by decide) rfl rfl rfl ?_
          have h546 := r8_9 hJ513 2
          refine X.i2l 157 i170_156 rfl rfl ?_
          refine X.retl i170_157 rfl t170 ?_
          exact hQ (m510 2 8 9) m510 (by first | trivial | omega) (hJ513.up (by omega)) 
        · refine X.cut [] i170_22 rfl ?_
          refine X.ldc2 25 i170_22 rfl rfl (by decide) ?_
          refine X.retl i170_25 rfl t170 ?_
          exact hQ (-10000000000) m (by first | trivial | omega) (hJ.up (by omega)) 
theorem l302_41_1 {s : Nat × (Nat → Int32)} {S : zS} {m0 : zM} {d : Nat} {Q : Option zV → zM → Prop} (y1 y2 : Int) (BE : Int) (hE : BE ≤ 1000000000) (hd : 20 ≤ d) (hy1 : 1 ≤ y1 ∧ y1 ≤ 900) (hy2 : 0 ≤ y2 ∧ y2 ≤ 6) (hs0 : S.1 4 45 0) (hs1 : S.1 4 45 13)
    (K56 : ∀ (m' : zM) (B' : Int), J S m0 B' m' → B' ≤ BE → X (EE s) d 302 56 [(0, zr 4 44), (2, zi y2)] [] m' Q) :
    ∀ (n : Nat) (y3 : Int) (m : zM) (B : Int), J S m0 B m → B + 11 * (n : Int) ≤ BE → (0 ≤ y3 ∧ y3 ≤ 900) → 900 - y3 < (n : Int) → X (EE s) d 302 41 [(0, zr 4 44), (1, zi y1), (2, zi y2), (3, zi y3)] [] m Q := by
  intro n
  induction n with
  | zero =>
    intro y3 m B hJ hB  hy3 hn
    exfalso
    omega
  | succ n ih =>
    intro y3 m B hJ hB  hy3 hn
    refine X.iload_n 42 i302_41 rfl rfl rfl ?_
    refine X.iload_n 43 i302_42 rfl rfl rfl ?_
    refine X.icmpge 56 46 i302_43 rfl rfl rfl (fun h526 => ?_) (fun h526 => ?_)
    · refine X.cut [(0, zr 4 44), (2, zi y2)] i302_56 rfl ?_
      exact K56  m (B) (hJ.up (by omega)) (by omega)  
    · refine X.aload_n 47 i302_46 rfl rfl rfl ?_
      refine X.callv 50 [] [] [(0, zr 4 44)] i302_47 rfl (by decide) rfl rfl (by omega) rfl rfl (by decide) rfl t208 (Nat.le_of_ble_eq_true rfl) (Nat.le_of_ble_eq_true rfl) rfl ?_
      refine c208_1 (S := zfr [(4, 45, 0), (4, 45, 13)] S) (m0 := m) (B := B)   (by omega) (hJ.ow.up (by omega)) (by omega) zm_z (zm_s zm_z) (fun m527 hJ528 hqv5290 => ?_)
      have hJ530 := hJ.trans hJ528 (zi_c hs0 (zi_c hs1 zi_n))
      have wt531 : m527 4 45 1 = (m 4 45 1) := hJ528.eq rfl rfl
      have wt532 : m527 4 45 2 = (m 4 45 2) := hJ528.eq rfl rfl
      have wt533 : m527 4 45 3 = (m 4 45 3) := hJ528.eq rfl rfl
      have wt534 : m527 4 45 11 = (m 4 45 11) := hJ528.eq rfl rfl
      have wt535 : m527 4 45 18 = (m 4 45 18) := hJ528.eq rfl rfl
      have wt536 : m527 4 45 1614 = (m 4 45 1614) := hJ528.eq rfl rfl
      have wt537 : m527 4 45 1615 = (m 4 45 1615) := hJ528.eq rfl rfl
      have wt538 : m527 4 45 1616 = (m 4 45 1616) := hJ528.eq rfl rfl
      have wt539 : m527 4 45 1617 = (m 4 45 1617) := hJ528.eq rfl rfl
      have wt540 : m527 4 46 0 = (m 4 46 0) := hJ528.eq rfl rfl
      have wt541 : m527 4 46 1 = (m 4 46 1) := hJ528.eq rfl rfl
      have wt542 : m527 4 46 2 = (m 4 46 2) := hJ528.eq rfl rfl
      have wt543 : m527 4 46 3 = (m 4 46 3) := hJ528.eq rfl rfl
      have wt544 : m527 4 46 11 = (m 4 46 11) := hJ528.eq rfl rfl
      have wt545 : m527 4 46 13 = (m 4 46 13) := hJ528.eq rfl rfl
      have wt546 : m527 4 46 18 = (m 4 46 18) := hJ528.eq rfl rfl
      have wt547 : m527 4 46 1614 = (m 4 46 1614) := hJ528.eq rfl rfl
      have wt548 : m527 4 46 1615 = (m 4 46 1615) := hJ528.eq rfl rfl
      have wt549 : m527 4 46 1616 = (m 4 46 1616) := hJ528.eq rfl rfl
      have wt550 : m527 4 46 1617 = (m 4 46 1617) := hJ528.eq rfl rfl
      show X (EE s) d 302 50 [(0, zr 4 44), (1, zi y1), (2, zi y2), (3, zi y3)] [] m527 _
      refine X.iinc 53 [(0, zr 4 44), (1, zi y1), (2, zi y2), (3, zi (y3 + 1))] i302_50 rfl rfl rfl (by omega) rfl ?_
      refine X.goto 41 i302_53 rfl rfl ?_
      exact ih (y3 + 1) m527 (B + 11) (hJ530.up (by omega)) (by omega)  (by omega) (by omega)
theorem l304_6_1 {s : Nat × (Nat → Int32)} {S : zS} {m0 m : zM} {B : Int} {d : Nat} {Q : Option zV → zM → Prop} (hd : 13 ≤ d) (hJ : J S m0 B m) (hB9 : B ≤ 1000000000)
    (K45 : ∀ (x1 : Int) , ((-1) ≤ x1) → X (EE s) d 304 45 [(1, zl x1)] [] m Q) :
    ∀ (n : Nat) (y1 y3 : Int) , ((-1) ≤ y1) → (0 ≤ y3 ∧ y3 ≤ 4) → 4 - y3 < (n : Int) → X (EE s) d 304 6 [(0, zr 4 44), (1, zl y1), (3, zi y3)] [] m Q := by
  intro n
  induction n with
  | zero =>
    intro y1 y3 hy1 hy3 hn
    exfalso
    omega
  | succ n ih =>
    intro y1 y3 hy1 hy3 hn
    refine X.iload_n 7 i304_6 rfl rfl rfl ?_
    refine X.iconst 8 i304_7 rfl rfl (by decide) ?_
    refine X.icmpge 45 11 i304_8 rfl rfl rfl (fun h507 => ?_) (fun h507 => ?_)
    · refine X.cut [(1, zl y1)] i304_45 rfl ?_
      exact K45 y1 (by first | trivial | omega)
    · refine X.aload_n 12 i304_11 rfl rfl rfl ?_
      refine X.getF 15 i304_12 rfl rfl (by decide) rfl rfl ?_
      refine X.bipush 17 i304_15 rfl rfl (by decide) ?_
      refine X.iload_n 18 i304_17 rfl rfl rfl ?_
      refine X.iadd 19 i304_18 rfl rfl (by omega) ?_
      refine X.lald 20 i304_19 rfl rfl (by decide) rfl (by omega) ?_
      refine X.lload_n 21 i304_20 rfl rfl rfl ?_
      refine X.lcmp 22 i304_21 rfl rfl (fun z508 hz508 => ?_)
      refine X.ifle 37 25 i304_22 rfl rfl rfl (fun h509 => ?_) (fun h509 => ?_)
      · have h509c : (m 4 45 (32 + y3)) ≤ y1 := by omega
        clear h509 hz508
        refine X.lload_n 38 i304_37 rfl rfl rfl ?_
        refine X.cut [(0, zr 4 44), (3, zi y3)] i304_38 rfl ?_
        refine X.lstore_n 39 [(0, zr 4 44), (1, zl y1), (3, zi y3)] i304_38 rfl rfl rfl ?_
        refine X.iinc 42 [(0, zr 4 44), (1, zl y1), (3, zi (y3 + 1))] i304_39 rfl rfl rfl (by omega) rfl ?_
        refine X.goto 6 i304_42 rfl rfl ?_
        exact ih y1 (y3 + 1) (by omega) (by omega) (by omega)
      · have h509c : (m 4 45 (32 + y3)) > y1 := by omega
        clear h509 hz508
        refine X.aload_n 26 i304_25 rfl rfl rfl ?_
        refine X.getF 29 i304_26 rfl rfl (by decide) rfl rfl ?_
        refine X.bipush 31 i304_29 rfl rfl (by decide) ?_
        refine X.iload_n 32 i304_31 rfl rfl rfl ?_
        refine X.iadd 33 i304_32 rfl rfl (by omega) ?_
        refine X.lald 34 i304_33 rfl rfl (by decide) rfl (by omega) ?_
        refine X.goto 38 i304_34 rfl rfl ?_
        refine X.cut [(0, zr 4 44), (3, zi y3)] i304_38 rfl ?_
        refine X.lstore_n 39 [(0, zr 4 44), (1, zl (m 4 45 (32 + y3))), (3, zi y3)] i304_38 rfl rfl rfl ?_
        refine X.iinc 42 [(0, zr 4 44), (1, zl (m 4 45 (32 + y3))), (3, zi (y3 + 1))] i304_39 rfl rfl rfl (by omega) rfl ?_
        refine X.goto 6 i304_42 rfl rfl ?_
        exact ih (m 4 45 (32 + y3)) (y3 + 1) (by omega) (by omega) (by omega)
-- WorkMeterModel.greatestOfAll
theorem c304_1 {s : Nat × (Nat → Int32)} {S : zS} {m0 m : zM} {B : Int} {d : Nat} {Q : Option zV → zM → Prop} (hd : 13 ≤ d) (hJ : J S m0 B m) (hB : B + 0 ≤ 1000000000) (hQ : ∀ (v : Int), ((-1) ≤ v) → Q (some (zl v)) m) : X (EE s) d 304 0 [(0, zr 4 44)] [] m Q := by
  refine X.ldc2 3 i304_0 rfl rfl (by decide) ?_
  refine X.lstore_n 4 [(0, zr 4 44), (1, zl (-1))] i304_3 rfl rfl rfl ?_
  refine X.iconst 5 i304_4 rfl rfl (by decide) ?_
  refine X.istore_n 6 [(0, zr 4 44), (1, zl (-1)), (3, zi 0)] i304_5 rfl rfl rfl ?_
  refine l304_6_1 (s := s) (S := S) (m0 := m0) (m := m) (B := B) (d := d)   (by omega) (hJ.up (by omega)) (by omega) (fun y501 hby501 => ?_) ((4 - 0 : Int).toNat + 1) (-1) 0 (by omega) (by omega) (by omega)
  refine X.lload_n 46 i304_45 rfl rfl rfl ?_
  refine X.retl i304_46 rfl t304 ?_
  exact hQ y501 (by first | trivial | omega) 
-- WorkMeterModel.seen
theorem c303_1 {s : Nat × (Nat → Int32)} {S : zS} {m0 m : zM} {B : Int} {d : Nat} {Q : Option zV → zM → Prop} (a1 : Int) (hd : 14 ≤ d) (hJ : J S m0 B m) (hB : B + 0 ≤ 1000000000) (ha1 : 0 ≤ a1 ∧ a1 ≤ 6) (hQ : ∀ (v : Int), (True) → Q (some (zl v)) m) : X (EE s) d 303 0 [(0, zr 4 44), (1, zi a1)] [] m Q := by
  refine X.iload_n 1 i303_0 rfl rfl rfl ?_
  by_cases h501 : a1 = 0
  · refine X.tsIn 40 0 i303_1 rfl (by omega) rfl rfl ?_
    refine X.cut [(0, zr 4 44)] i303_40 rfl ?_
    refine X.aload_n 41 i303_40 rfl rfl rfl ?_
    refine X.getF 44 i303_41 rfl rfl (by decide) rfl rfl ?_
    refine X.bipush 46 i303_44 rfl rfl (by decide) ?_
    refine X.lald 47 i303_46 rfl rfl (by decide) rfl (by omega) ?_
    refine X.aload_n 48 i303_47 rfl rfl rfl ?_
    refine X.getF 51 i303_48 rfl rfl (by decide) rfl rfl ?_
    refine X.iconst 52 i303_51 rfl rfl (by decide) ?_
    refine X.lald 53 i303_52 rfl rfl (by decide) rfl (by omega) ?_
    have h502 := r45_5 hJ 4
    refine X.ldivF 54 i303_53 rfl rfl (by omega) (fun z503 => ?_)
    refine X.retl i303_54 rfl t303 ?_
    exact hQ z503 (by first | trivial | omega) 
  by_cases h504 : a1 = 1
  · refine X.tsIn 55 1 i303_1 rfl (by omega) rfl rfl ?_
    refine X.cut [(0, zr 4 44)] i303_55 rfl ?_
    refine X.aload_n 56 i303_55 rfl rfl rfl ?_
    refine X.getF 59 i303_56 rfl rfl (by decide) rfl rfl ?_
    refine X.bipush 61 i303_59 rfl rfl (by decide) ?_
    refine X.lald 62 i303_61 rfl rfl (by decide) rfl (by omega) ?_
    refine X.aload_n 63 i303_62 rfl rfl rfl ?_
    refine X.getF 66 i303_63 rfl rfl (by decide) rfl rfl ?_
    refine X.iconst 67 i303_66 rfl rfl (by decide) ?_
    refine X.lald 68 i303_67 rfl rfl (by decide) rfl (by omega) ?_
    have h505 := r45_5 hJ 4
    refine X.ldivF 69 i303_68 rfl rfl (by omega) (fun z506 => ?_)
    refine X.retl i303_69 rfl t303 ?_
    exact hQ z506 (by first | trivial | omega) 
  by_cases h507 : a1 = 2
  · refine X.tsIn 70 2 i303_1 rfl (by omega) rfl rfl ?_
    refine X.cut [(0, zr 4 44)] i303_70 rfl ?_
    refine X.aload_n 71 i303_70 rfl rfl rfl ?_
    refine X.getF 74 i303_71 rfl rfl (by decide) rfl rfl ?_
    refine X.bipush 76 i303_74 rfl rfl (by decide) ?_
    refine X.lald 77 i303_76 rfl rfl (by decide) rfl (by omega) ?_
    refine X.retl i303_77 rfl t303 ?_
    exact hQ (m 4 45 10) (by first | trivial | omega) 
  by_cases h508 : a1 = 3
  · refine X.tsIn 78 3 i303_1 rfl (by omega) rfl rfl ?_
    refine X.cut [(0, zr 4 44)] i303_78 rfl ?_
    refine X.aload_n 79 i303_78 rfl rfl rfl ?_
    refine X.callv 82 [] [] [(0, zr 4 44)] i303_79 rfl (by decide) rfl rfl (by omega) rfl rfl (by decide) rfl t304 (Nat.le_of_ble_eq_true rfl) (Nat.le_of_ble_eq_true rfl) rfl ?_
    refine c304_1 (B := B)   (by omega) (hJ.up (by omega)) (by omega)  (fun v511 hv511 => ?_)
    show X (EE s) d 303 82 [(0, zr 4 44)] [zl v511] m _
    refine X.retl i303_82 rfl t303 ?_
    exact hQ v511 (by first | trivial | omega) 
  by_cases h512 : a1 = 4
  · refine X.tsIn 83 4 i303_1 rfl (by omega) rfl rfl ?_
    refine X.cut [(0, zr 4 44)] i303_83 rfl ?_
    refine X.aload_n 84 i303_83 rfl rfl rfl ?_
    refine X.callv 87 [] [] [(0, zr 4 44)] i303_84 rfl (by decide) rfl rfl (by omega) rfl rfl (by decide) rfl t231 (Nat.le_of_ble_eq_true rfl) (Nat.le_of_ble_eq_true rfl) rfl ?_
    refine c231_1 (B := B)   (by omega) (hJ.up (by omega)) (by omega)  (fun v515 hv515 => ?_)
    show X (EE s) d 303 87 [(0, zr 4 44)] [zl v515] m _
    refine X.retl i303_87 rfl t303 ?_
    exact hQ v515 (by first | trivial | omega) 
  by_cases h516 : a1 = 5
  · refine X.tsIn 88 5 i303_1 rfl (by omega) rfl rfl ?_
    refine X.cut [(0, zr 4 44)] i303_88 rfl ?_
    refine X.aload_n 89 i303_88 rfl rfl rfl ?_
    refine X.getF 92 i303_89 rfl rfl (by decide) rfl rfl ?_
    refine X.bipush 94 i303_92 rfl rfl (by decide) ?_
    refine X.lald 95 i303_94 rfl rfl (by decide) rfl (by omega) ?_
    have h517 := r45_12 hJ 4
    refine X.retl i303_95 rfl t303 ?_
    exact hQ (m 4 45 12) (by first | trivial | omega) 
  refine X.tsOut 96 i303_1 rfl (by omega) rfl ?_
  refine X.cut [(0, zr 4 44)] i303_96 rfl ?_
  refine X.aload_n 97 i303_96 rfl rfl rfl ?_
  refine X.getF 100 i303_97 rfl rfl (by decide) rfl rfl ?_
  refine X.iconst 101 i303_100 rfl rfl (by decide) ?_
  refine X.lald 102 i303_101 rfl rfl (by decide) rfl (by omega) ?_
  have h518 := r45_0 hJ 4
  refine X.retl i303_102 rfl t303 ?_
  exact hQ (m 4 45 0) (by first | trivial | omega) 
-- WorkMeterModel.would
theorem c302_1 {s : Nat × (Nat → Int32)} {S : zS} {m0 m : zM} {B : Int} {d : Nat} {Q : Option zV → zM → Prop} (a1 a2 : Int) (hd : 20 ≤ d) (hJ : J S m0 B m) (hB : B + 9911 ≤ 1000000000) (ha1 : (-2147483648) ≤ a1 ∧ a1 ≤ 2147483647) (ha2 : (-2147483648) ≤ a2 ∧ a2 ≤ 2147483647) (hs0 : S.1 4 45 0) (hs1 : S.1 4 45 1) (hs2 : S.1 4 45 2) (hs3 : S.1 4 45 3) (hs4 : S.1 4 45 11) (hs5 : S.1 4 45 13) (hs6 : S.1 4 45 18) (hs7 : S.1 4 45 1614) (hs8 : S.1 4 45 1615) (hs9 : S.1 4 45 1616) (hs10 : S.1 4 45 1617) (hs11 : S.1 4 46 0) (hs12 : S.1 4 46 1) (hs13 : S.1 4 46 2) (hs14 : S.1 4 46 3) (hs15 : S.1 4 46 11) (hs16 : S.1 4 46 13) (hs17 : S.1 4 46 18) (hs18 : S.1 4 46 1614) (hs19 : S.1 4 46 1615) (hs20 : S.1 4 46 1616) (hs21 : S.1 4 46 1617) (hQ : ∀ (v : Int) m', (True) → J S m0 (B + 9911) m' → (m' 4 45 0 = m 4 45 0 ∧ m' 4 45 1 = m 4 45 1 ∧ m' 4 45 2 = m 4 45 2 ∧ m' 4 45 3 = m 4 45 3 ∧ m' 4 45 11 = m 4 45 11 ∧ m' 4 45 13 = m 4 45 13 ∧ m' 4 45 18 = m 4 45 18 ∧ m' 4 45 1614 = m 4 45 1614 ∧ m' 4 45 1615 = m 4 45 1615 ∧ m' 4 45 1616 = m 4 45 1616 ∧ m' 4 45 1617 = m 4 45 1617) → Q (some (zl v)) m') : X (EE s) d 302 0 [(0, zr 4 44), (1, zi a1), (2, zi a2)] [] m Q := by
  refine X.iload_n 1 i302_0 rfl rfl rfl ?_
  refine X.i2l 2 i302_1 rfl rfl ?_
  refine X.lconst (y := 1) 3 i302_2 rfl rfl rfl ?_
  refine X.ldc2 6 i302_3 rfl rfl (by decide) ?_
  refine X.calls 9 [zl a1, zl 1, zl 900] [] [(0, zl a1), (2, zl 1), (4, zl 900)] i302_6 (by decide) rfl rfl (by omega) rfl rfl t204 (Nat.le_of_ble_eq_true rfl) (Nat.le_of_ble_eq_true rfl) rfl ?_
  refine X.lload_n 1 i204_0 rfl rfl rfl ?_
  refine X.lload_n 2 i204_1 rfl rfl rfl ?_
  refine X.lcmp 3 i204_2 rfl rfl (fun z501 hz501 => ?_)
  refine X.iflt 17 6 i204_3 rfl rfl rfl (fun h502 => ?_) (fun h502 => ?_)
  · have h502c : a1 < 1 := by omega
    clear h502 hz501
    refine X.cut [] i204_17 rfl ?_
    refine X.iconst 18 i204_17 rfl rfl (by decide) ?_
    refine X.retz i204_18 rfl t204 (by omega) ?_
    show X (EE s) d 302 9 [(0, zr 4 44), (1, zi a1), (2, zi a2)] [zi 0] m _
    refine X.ifeq 24 12 i302_9 rfl rfl rfl (fun h503 => ?_) (fun h503 => (by exfalso; omega))
    refine X.cut [] i302_24 rfl ?_
    refine X.ldc2 27 i302_24 rfl rfl (by decide) ?_
    refine X.retl i302_27 rfl t302 ?_
    exact hQ (-10000000000) m (by first | trivial | omega) (hJ.up (by omega)) (by exact ⟨by omega, by omega, by omega, by omega, by omega, by omega, by omega, by omega, by omega, by omega, by omega⟩)
  · have h502c : a1 ≥ 1 := by omega
    clear h502 hz501
    refine X.lload_n 7 i204_6 rfl rfl rfl ?_
    refine X.lload 9 i204_7 rfl rfl rfl ?_
    refine X.lcmp 10 i204_9 rfl rfl (fun z504 hz504 => ?_)
    refine X.ifgt 17 13 i204_10 rfl rfl rfl (fun h505 => ?_) (fun h505 => ?_)
    · have h505c : a1 > 900 := by omega
      clear h505 hz504
      refine X.cut [] i204_17 rfl ?_
      refine X.iconst 18 i204_17 rfl rfl (by decide) ?_
      refine X.retz i204_18 rfl t204 (by omega) ?_
      show X (EE s) d 302 9 [(0, zr 4 44), (1, zi a1), (2, zi a2)] [zi 0] m _
      refine X.ifeq 24 12 i302_9 rfl rfl rfl (fun h506 => ?_) (fun h506 => (by exfalso; omega))
      refine X.cut [] i302_24 rfl ?_
      refine X.ldc2 27 i302_24 rfl rfl (by decide) ?_
      refine X.retl i302_27 rfl t302 ?_
      exact hQ (-10000000000) m (by first | trivial | omega) (hJ.up (by omega)) (by exact ⟨by omega, by omega, by omega, by omega, by omega, by omega, by omega, by omega, by omega, by omega, by omega⟩)
    · have h505c : a1 ≤ 900 := by omega
      clear h505 hz504
      refine X.iconst 14 i204_13 rfl rfl (by decide) ?_
      refine X.goto 18 i204_14 rfl rfl ?_
      refine X.cut [] i204_18 rfl ?_
      refine X.retz i204_18 rfl t204 (by omega) ?_
      show X (EE s) d 302 9 [(0, zr 4 44), (1, zi a1), (2, zi a2)] [zi 1] m _
      refine X.ifeq 24 12 i302_9 rfl rfl rfl (fun h507 => (by exfalso; omega)) (fun h507 => ?_)
      refine X.iload_n 13 i302_12 rfl rfl rfl ?_
      refine X.i2l 14 i302_13 rfl rfl ?_
      refine X.lconst (y := 0) 15 i302_14 rfl rfl rfl ?_
      refine X.ldc2 18 i302_15 rfl rfl (by decide) ?_
      refine X.calls 21 [zl a2, zl 0, zl 6] [] [(0, zl a2), (2, zl 0), (4, zl 6)] i302_18 (by decide) rfl rfl (by omega) rfl rfl t204 (Nat.le_of_ble_eq_true rfl) (Nat.le_of_ble_eq_true rfl) rfl ?_
      refine X.lload_n 1 i204_0 rfl rfl rfl ?_
      refine X.lload_n 2 i204_1 rfl rfl rfl ?_
      refine X.lcmp 3 i204_2 rfl rfl (fun z508 hz508 => ?_)
      refine X.iflt 17 6 i204_3 rfl rfl rfl (fun h509 => ?_) (fun h509 => ?_)
      · have h509c : a2 < 0 := by omega
        clear h509 hz508
        refine X.cut [] i204_17 rfl ?_
        refine X.iconst 18 i204_17 rfl rfl (by decide) ?_
        refine X.retz i204_18 rfl t204 (by omega) ?_
        show X (EE s) d 302 21 [(0, zr 4 44), (1, zi a1), (2, zi a2)] [zi 0] m _
        refine X.ifne 28 24 i302_21 rfl rfl rfl (fun h510 => (by exfalso; omega)) (fun h510 => ?_)
        refine X.cut [] i302_24 rfl ?_
        refine X.ldc2 27 i302_24 rfl rfl (by decide) ?_
        refine X.retl i302_27 rfl t302 ?_
        exact hQ (-10000000000) m (by first | trivial | omega) (hJ.up (by omega)) (by exact ⟨by omega, by omega, by omega, by omega, by omega, by omega, by omega, by omega, by omega, by omega, by omega⟩)
      · have h509c : a2 ≥ 0 := by omega
        clear h509 hz508
        refine X.lload_n 7 i204_6 rfl rfl rfl ?_
        refine X.lload 9 i204_7 rfl rfl rfl ?_
        refine X.lcmp 10 i204_9 rfl rfl (fun z511 hz511 => ?_)
        refine X.ifgt 17 13 i204_10 rfl rfl rfl (fun h512 => ?_) (fun h512 => ?_)
        · have h512c : a2 > 6 := by omega
          clear h512 hz511
          refine X.cut [] i204_17 rfl ?_
          refine X.iconst 18 i204_17 rfl rfl (by decide) ?_
          refine X.retz i204_18 rfl t204 (by omega) ?_
          show X (EE s) d 302 21 [(0, zr 4 44), (1, zi a1), (2, zi a2)] [zi 0] m _
          refine X.ifne 28 24 i302_21 rfl rfl rfl (fun h513 => (by exfalso; omega)) (fun h513 => ?_)
          refine X.cut [] i302_24 rfl ?_
          refine X.ldc2 27 i302_24 rfl rfl (by decide) ?_
          refine X.retl i302_27 rfl t302 ?_
          exact hQ (-10000000000) m (by first | trivial | omega) (hJ.up (by omega)) (by exact ⟨by omega, by omega, by omega, by omega, by omega, by omega, by omega, by omega, by omega, by omega, by omega⟩)
        · have h512c : a2 ≤ 6 := by omega
          clear h512 hz511
          refine X.iconst 14 i204_13 rfl rfl (by decide) ?_
          refine X.goto 18 i204_14 rfl rfl ?_
          refine X.cut [] i204_18 rfl ?_
          refine X.retz i204_18 rfl t204 (by omega) ?_
          show X (EE s) d 302 21 [(0, zr 4 44), (1, zi a1), (2, zi a2)] [zi 1] m _
          refine X.ifne 28 24 i302_21 rfl rfl rfl (fun h514 => ?_) (fun h514 => (by exfalso; omega))
          refine X.aload_n 29 i302_28 rfl rfl rfl ?_
          refine X.getF 32 i302_29 rfl rfl (by decide) rfl rfl ?_
          refine X.aload_n 33 i302_32 rfl rfl rfl ?_
          refine X.getF 36 i302_33 rfl rfl (by decide) rfl rfl ?_
          refine X.calls 39 [zr 4 45, zr 4 46] [] [(0, zr 4 45), (1, zr 4 46)] i302_36 (by decide) rfl rfl (by omega) rfl rfl t261 (Nat.le_of_ble_eq_true rfl) (Nat.le_of_ble_eq_true rfl) rfl ?_
          refine c_cq_45_46 (B := B)   (by omega) (hJ.up (by omega)) (by omega) hs11 hs12 hs13 hs14 hs15 hs16 hs17 hs18 hs19 hs20 hs21 (fun m515 hJ516 hqv5170 => ?_)
          have wt518 : m515 4 45 0 = (m 4 45 0) := by rw [hqv5170]; exact z_cpy_o rfl
          have wt519 : m515 4 45 1 = (m 4 45 1) := by rw [hqv5170]; exact z_cpy_o rfl
          have wt520 : m515 4 45 2 = (m 4 45 2) := by rw [hqv5170]; exact z_cpy_o rfl
          have wt521 : m515 4 45 3 = (m 4 45 3) := by rw [hqv5170]; exact z_cpy_o rfl
          have wt522 : m515 4 45 11 = (m 4 45 11) := by rw [hqv5170]; exact z_cpy_o rfl
          have wt523 : m515 4 45 13 = (m 4 45 13) := by rw [hqv5170]; exact z_cpy_o rfl
          have wt524 : m515 4 45 18 = (m 4 45 18) := by rw [hqv5170]; exact z_cpy_o rfl
          have wt525 : m515 4 45 1614 = (m 4 45 1614) := by rw [hqv5170]; exact z_cpy_o rfl
          have wt526 : m515 4 45 1615 = (m 4 45 1615) := by rw [hqv5170]; exact z_cpy_o rfl
          have wt527 : m515 4 45 1616 = (m 4 45 1616) := by rw [hqv5170]; exact z_cpy_o rfl
          have wt528 : m515 4 45 1617 = (m 4 45 1617) := by rw [hqv5170]; exact z_cpy_o rfl
          have wt529 : m515 4 46 0 = (m 4 45 0) := by rw [hqv5170]; exact (z_cpy_at (by omega))
          have wt530 : m515 4 46 1 = (m 4 45 1) := by rw [hqv5170]; exact (z_cpy_at (by omega))
          have wt531 : m515 4 46 2 = (m 4 45 2) := by rw [hqv5170]; exact (z_cpy_at (by omega))
          have wt532 : m515 4 46 3 = (m 4 45 3) := by rw [hqv5170]; exact (z_cpy_at (by omega))
          have wt533 : m515 4 46 11 = (m 4 45 11) := by rw [hqv5170]; exact (z_cpy_at (by omega))
          have wt534 : m515 4 46 13 = (m 4 45 13) := by rw [hqv5170]; exact (z_cpy_at (by omega))
          have wt535 : m515 4 46 18 = (m 4 45 18) := by rw [hqv5170]; exact (z_cpy_at (by omega))
          have wt536 : m515 4 46 1614 = (m 4 45 1614) := by rw [hqv5170]; exact (z_cpy_at (by omega))
          have wt537 : m515 4 46 1615 = (m 4 45 1615) := by rw [hqv5170]; exact (z_cpy_at (by omega))
          have wt538 : m515 4 46 1616 = (m 4 45 1616) := by rw [hqv5170]; exact (z_cpy_at (by omega))
          have wt539 : m515 4 46 1617 = (m 4 45 1617) := by rw [hqv5170]; exact (z_cpy_at (by omega))
          show X (EE s) d 302 39 [(0, zr 4 44), (1, zi a1), (2, zi a2)] [] m515 _
          refine X.iconst 40 i302_39 rfl rfl (by decide) ?_
          refine X.istore_n 41 [(0, zr 4 44), (1, zi a1), (2, zi a2), (3, zi 0)] i302_40 rfl rfl rfl ?_
          refine l302_41_1 (s := s) (S := (zfr [(4, 45, 0), (4, 45, 13)] (S.1, True, S.2.2))) (m0 := m515) (d := d)  a1 a2 (BE := B + 9911) (by omega) (by omega) (by omega) (by omega) zm_z (zm_s zm_z) (fun  m540 B541 hJ542 hBB541 => ?_) ((900 - 0 : Int).toNat + 1) 0 m515 (B) (hJ516.ow.up (by omega)) (by omega)  (by omega) (by omega)
          have hJ543 := hJ516.trans hJ542 (zi_c hs0 (zi_c hs5 zi_n))
          have wt544 : m540 4 45 1 = (m 4 45 1) := Eq.trans (hJ542.eq rfl rfl) wt519
          have wt545 : m540 4 45 2 = (m 4 45 2) := Eq.trans (hJ542.eq rfl rfl) wt520
          have wt546 : m540 4 45 3 = (m 4 45 3) := Eq.trans (hJ542.eq rfl rfl) wt521
          have wt547 : m540 4 45 11 = (m 4 45 11) := Eq.trans (hJ542.eq rfl rfl) wt522
          have wt548 : m540 4 45 18 = (m 4 45 18) := Eq.trans (hJ542.eq rfl rfl) wt524
          have wt549 : m540 4 45 1614 = (m 4 45 1614) := Eq.trans (hJ542.eq rfl rfl) wt525
          have wt550 : m540 4 45 1615 = (m 4 45 1615) := Eq.trans (hJ542.eq rfl rfl) wt526
          have wt551 : m540 4 45 1616 = (m 4 45 1616) := Eq.trans (hJ542.eq rfl rfl) wt527
          have wt552 : m540 4 45 1617 = (m 4 45 1617) := Eq.trans (hJ542.eq rfl rfl) wt528
          have wt553 : m540 4 46 0 = (m 4 45 0) := Eq.trans (hJ542.eq rfl rfl) wt529
          have wt554 : m540 4 46 1 = (m 4 45 1) := Eq.trans (hJ542.eq rfl rfl) wt530
          have wt555 : m540 4 46 2 = (m 4 45 2) := Eq.trans (hJ542.eq rfl rfl) wt531
          have wt556 : m540 4 46 3 = (m 4 45 3) := Eq.trans (hJ542.eq rfl rfl) wt532
          have wt557 : m540 4 46 11 = (m 4 45 11) := Eq.trans (hJ542.eq rfl rfl) wt533
          have wt558 : m540 4 46 13 = (m 4 45 13) := Eq.trans (hJ542.eq rfl rfl) wt534
          have wt559 : m540 4 46 18 = (m 4 45 18) := Eq.trans (hJ542.eq rfl rfl) wt535
          have wt560 : m540 4 46 1614 = (m 4 45 1614) := Eq.trans (hJ542.eq rfl rfl) wt536
          have wt561 : m540 4 46 1615 = (m 4 45 1615) := Eq.trans (hJ542.eq rfl rfl) wt537
          have wt562 : m540 4 46 1616 = (m 4 45 1616) := Eq.trans (hJ542.eq rfl rfl) wt538
          have wt563 : m540 4 46 1617 = (m 4 45 1617) := Eq.trans (hJ542.eq rfl rfl) wt539
          refine X.aload_n 57 i302_56 rfl rfl rfl ?_
          refine X.iload_n 58 i302_57 rfl rfl rfl ?_
          refine X.callv 61 [zi a2] [] [(0, zr 4 44), (1, zi a2)] i302_58 rfl (by decide) rfl rfl (by omega) rfl rfl (by decide) rfl t303 (Nat.le_of_ble_eq_true rfl) (Nat.le_of_ble_eq_true rfl) rfl ?_
          refine c303_1 (B := B541)  a2 (by omega) (hJ543.up (by omega)) (by omega) (by omega) (fun v566 hv566 => ?_)
          show X (EE s) d 302 61 [(0, zr 4 44), (2, zi a2)] [zl v566] m540 _
          refine X.lstore_n 62 [(0, zr 4 44), (2, zi a2), (3, zl v566)] i302_61 rfl rfl rfl ?_
          refine X.aload_n 63 i302_62 rfl rfl rfl ?_
          refine X.getF 66 i302_63 rfl rfl (by decide) rfl rfl ?_
          refine X.aload_n 67 i302_66 rfl rfl rfl ?_
          refine X.getF 70 i302_67 rfl rfl (by decide) rfl rfl ?_
          refine X.calls 73 [zr 4 46, zr 4 45] [] [(0, zr 4 46), (1, zr 4 45)] i302_70 (by decide) rfl rfl (by omega) rfl rfl t261 (Nat.le_of_ble_eq_true rfl) (Nat.le_of_ble_eq_true rfl) rfl ?_
          refine c_cq_46_45 (B := B541)   (by omega) (hJ543.up (by omega)) (by omega) trivial hs0 hs1 hs2 hs3 hs4 hs5 hs6 hs7 hs8 hs9 hs10 (fun m567 hJ568 hqv5690 => ?_)
          have wt570 : m567 4 45 0 = (m 4 45 0) := by rw [hqv5690]; exact (z_cpy_at (by omega)).trans wt553
          have wt571 : m567 4 45 1 = (m 4 45 1) := by rw [hqv5690]; exact (z_cpy_at (by omega)).trans wt554
          have wt572 : m567 4 45 2 = (m 4 45 2) := by rw [hqv5690]; exact (z_cpy_at (by omega)).trans wt555
          have wt573 : m567 4 45 3 = (m 4 45 3) := by rw [hqv5690]; exact (z_cpy_at (by omega)).trans wt556
          have wt574 : m567 4 45 11 = (m 4 45 11) := by rw [hqv5690]; exact (z_cpy_at (by omega)).trans wt557
          have wt575 : m567 4 45 13 = (m 4 45 13) := by rw [hqv5690]; exact (z_cpy_at (by omega)).trans wt558
          have wt576 : m567 4 45 18 = (m 4 45 18) := by rw [hqv5690]; exact (z_cpy_at (by omega)).trans wt559
          have wt577 : m567 4 45 1614 = (m 4 45 1614) := by rw [hqv5690]; exact (z_cpy_at (by omega)).trans wt560
          have wt578 : m567 4 45 1615 = (m 4 45 1615) := by rw [hqv5690]; exact (z_cpy_at (by omega)).trans wt561
          have wt579 : m567 4 45 1616 = (m 4 45 1616) := by rw [hqv5690]; exact (z_cpy_at (by omega)).trans wt562
          have wt580 : m567 4 45 1617 = (m 4 45 1617) := by rw [hqv5690]; exact (z_cpy_at (by omega)).trans wt563
          have wt581 : m567 4 46 0 = (m 4 45 0) := Eq.trans (by rw [hqv5690]; exact z_cpy_o rfl) wt553
          have wt582 : m567 4 46 1 = (m 4 45 1) := Eq.trans (by rw [hqv5690]; exact z_cpy_o rfl) wt554
          have wt583 : m567 4 46 2 = (m 4 45 2) := Eq.trans (by rw [hqv5690]; exact z_cpy_o rfl) wt555
          have wt584 : m567 4 46 3 = (m 4 45 3) := Eq.trans (by rw [hqv5690]; exact z_cpy_o rfl) wt556
          have wt585 : m567 4 46 11 = (m 4 45 11) := Eq.trans (by rw [hqv5690]; exact z_cpy_o rfl) wt557
          have wt586 : m567 4 46 13 = (m 4 45 13) := Eq.trans (by rw [hqv5690]; exact z_cpy_o rfl) wt558
          have wt587 : m567 4 46 18 = (m 4 45 18) := Eq.trans (by rw [hqv5690]; exact z_cpy_o rfl) wt559
          have wt588 : m567 4 46 1614 = (m 4 45 1614) := Eq.trans (by rw [hqv5690]; exact z_cpy_o rfl) wt560
          have wt589 : m567 4 46 1615 = (m 4 45 1615) := Eq.trans (by rw [hqv5690]; exact z_cpy_o rfl) wt561
          have wt590 : m567 4 46 1616 = (m 4 45 1616) := Eq.trans (by rw [hqv5690]; exact z_cpy_o rfl) wt562
          have wt591 : m567 4 46 1617 = (m 4 45 1617) := Eq.trans (by rw [hqv5690]; exact z_cpy_o rfl) wt563
          show X (EE s) d 302 73 [(0, zr 4 44), (2, zi a2), (3, zl v566)] [] m567 _
          refine X.lload_n 74 i302_73 rfl rfl rfl ?_
          refine X.retl i302_74 rfl t302 ?_
          exact hQ v566 m567 (by first | trivial | omega) ((hJ568.wk (S := S) (fun h => by first | trivial | exact h) (fun h => by first | trivial | exact h)).up (by omega)) (by exact ⟨by omega, by omega, by omega, by omega, by omega, by omega, by omega, by omega, by omega, by omega, by omega⟩)
theorem l182_14_1 {s : Nat × (Nat → Int32)} {S : zS} {m0 m : zM} {B : Int} {d : Nat} {Q : Option zV → zM → Prop} (g0 g3 : Nat) (y2 y4 : Int) (hd : 16 ≤ d) (hJ : J S m0 B m) (hB9 : B ≤ 1000000000) (hy2 : 1 ≤ y2 ∧ y2 ≤ 100000) (hy4 : 1 ≤ y4 ∧ y4 ≤ 2000100000)
    (K73 : ∀ (x6 : Int) , (True) → X (EE s) d 182 73 [(6, zl x6)] [] m Q) :
    ∀ (n : Nat) (y5 y6 y8 : Int) , (0 ≤ y5 ∧ y5 ≤ 2000100000) → (0 ≤ y8 ∧ y8 ≤ 100000) → 100000 - y8 < (n : Int) → X (EE s) d 182 14 [(0, zr g0 11), (2, zi y2), (3, zr g3 9), (4, zi y4), (5, zi y5), (6, zl y6), (8, zi y8)] [] m Q := by
  intro n
  induction n with
  | zero =>
    intro y5 y6 y8 hy5 hy8 hn
    exfalso
    omega
  | succ n ih =>
    intro y5 y6 y8 hy5 hy8 hn
    refine X.iload 16 i182_14 rfl rfl rfl ?_
    refine X.iload_n 17 i182_16 rfl rfl rfl ?_
    refine X.icmpge 73 20 i182_17 rfl rfl rfl (fun h567 => ?_) (fun h567 => ?_)
    · refine X.cut [(6, zl y6)] i182_73 rfl ?_
      exact K73 y6 (by first | trivial | omega)
    · refine X.iload 22 i182_20 rfl rfl rfl ?_
      refine X.iload 24 i182_22 rfl rfl rfl ?_
      refine X.icmpge 73 27 i182_24 rfl rfl rfl (fun h568 => ?_) (fun h568 => ?_)
      · refine X.cut [(6, zl y6)] i182_73 rfl ?_
        exact K73 y6 (by first | trivial | omega)
      · refine X.aload_n 28 i182_27 rfl rfl rfl ?_
        refine X.iload 30 i182_28 rfl rfl rfl ?_
        refine X.callv 33 [zi y5] [] [(0, zr g0 11), (1, zi y5)] i182_30 rfl (by decide) rfl rfl (by omega) rfl rfl (by decide) rfl t37 (Nat.le_of_ble_eq_true rfl) (Nat.le_of_ble_eq_true rfl) rfl ?_
        refine c37_1 (B := B) g0 y5 (by omega) (hJ.up (by omega)) (by omega) (by omega) (fun v571 hv571 hqv5710 => ?_)
        show X (EE s) d 182 33 [(0, zr g0 11), (2, zi y2), (3, zr g3 9), (4, zi y4), (5, zi y5), (6, zl y6), (8, zi y8)] [zi v571] m _
        refine X.iload 35 i182_33 rfl rfl rfl ?_
        refine X.minI 38 i182_35 rfl rfl (by omega) (Nat.le_of_ble_eq_true rfl) ?_
        refine X.istore 40 [(0, zr g0 11), (2, zi y2), (3, zr g3 9), (4, zi y4), (5, zi y5), (6, zl y6), (8, zi y8), (9, zi (min v571 y4))] i182_38 rfl rfl rfl ?_
        refine X.lload 42 i182_40 rfl rfl rfl ?_
        refine X.aload_n 43 i182_42 rfl rfl rfl ?_
        refine X.aload_n 44 i182_43 rfl rfl rfl ?_
        refine X.iload 46 i182_44 rfl rfl rfl ?_
        refine X.callv 49 [zi y5] [zr g3 9, zl y6] [(0, zr g0 11), (1, zi y5)] i182_46 rfl (by decide) rfl rfl (by omega) rfl rfl (by decide) rfl t27 (Nat.le_of_ble_eq_true rfl) (Nat.le_of_ble_eq_true rfl) rfl ?_
        refine X.aload_n 1 i27_0 rfl rfl rfl ?_
        refine X.aload_n 2 i27_1 rfl rfl rfl ?_
        refine X.iload_n 3 i27_2 rfl rfl rfl ?_
        refine X.ldc 5 i27_3 rfl rfl (by decide) ?_
        refine X.idiv 6 i27_5 rfl rfl (by omega) ?_
        refine X.callv 9 [zi (y5 / 86400)] [zr g0 11] [(0, zr g0 11), (1, zi (y5 / 86400))] i27_6 rfl (by decide) rfl rfl (by omega) rfl rfl (by decide) rfl t28 (Nat.le_of_ble_eq_true rfl) (Nat.le_of_ble_eq_true rfl) rfl ?_
        refine c28_1 (B := B) g0 (y5 / 86400) (by omega) (hJ.up (by omega)) (by omega) (by omega) (fun v574 hv574 => ?_)
        show X (EE s) (d - 1) 27 9 [(0, zr g0 11), (1, zi y5)] [zi v574, zr g0 11] m _
        refine X.iload_n 10 i27_9 rfl rfl rfl ?_
        refine X.ldc 12 i27_10 rfl rfl (by decide) ?_
        refine X.irem 13 i27_12 rfl rfl (by omega) ?_
        refine X.callv 16 [zi v574, zi (y5 % 86400)] [] [(0, zr g0 11), (1, zi v574), (2, zi (y5 % 86400))] i27_13 rfl (by decide) rfl rfl (by omega) rfl rfl (by decide) rfl t31 (Nat.le_of_ble_eq_true rfl) (Nat.le_of_ble_eq_true rfl) rfl ?_
        refine c31_1 (B := B) g0 v574 (y5 % 86400) (by omega) (hJ.up (by omega)) (by omega) (by omega) (by omega) (fun v577 hv577 => ?_)
        show X (EE s) (d - 1) 27 16 [(0, zr g0 11), (1, zi y5)] [zi v577] m _
        refine X.reti i27_16 rfl t27 ?_
        show X (EE s) d 182 49 [(0, zr g0 11), (2, zi y2), (3, zr g3 9), (4, zi y4), (5, zi y5), (6, zl y6), (8, zi y8), (9, zi (min v571 y4))] [zi v577, zr g3 9, zl y6] m _
        refine X.callv 52 [zi v577] [zl y6] [(0, zr g3 9), (1, zi v577)] i182_49 rfl (by decide) rfl rfl (by omega) rfl rfl (by decide) rfl t43 (Nat.le_of_ble_eq_true rfl) (Nat.le_of_ble_eq_true rfl) rfl ?_
        refine X.aload_n 1 i43_0 rfl rfl rfl ?_
        refine X.getR 4 i43_1 rfl rfl (by decide) rfl rfl ?_
        refine X.bipush 6 i43_4 rfl rfl (by decide) ?_
        refine X.iload_n 7 i43_6 rfl rfl rfl ?_
        refine X.iadd 8 i43_7 rfl rfl (by omega) ?_
        refine X.iald 9 i43_8 rfl rfl (by decide) rfl (by omega) ?_
        have h578 := r10_6 hJ g3 (i := (6 + v577)) (by omega)
        refine X.reti i43_9 rfl t43 ?_
        show X (EE s) d 182 52 [(0, zr g0 11), (2, zi y2), (3, zr g3 9), (4, zi y4), (5, zi y5), (6, zl y6), (8, zi y8), (9, zi (min v571 y4))] [zi (m g3 10 (6 + v577)), zl y6] m _
        refine X.i2l 53 i182_52 rfl rfl ?_
        refine X.iload 55 i182_53 rfl rfl rfl ?_
        refine X.iload 57 i182_55 rfl rfl rfl ?_
        refine X.isub 58 i182_57 rfl rfl (by omega) ?_
        refine X.i2l 59 i182_58 rfl rfl ?_
        have hz579 := z_mulr (a := 0) (b := 1000000) (c := (-2000099999)) (e := 2000100000) (x := (m g3 10 (6 + v577))) (y := ((min v571 y4) - y5)) (by omega) (by omega)
        refine X.lmul 60 i182_59 rfl rfl (z_in3 hz579 (by decide) (by decide)) ?_
        obtain ⟨z579, ez579⟩ : ∃ z, z = ((m g3 10 (6 + v577)) * ((min v571 y4) - y5)) := ⟨_, rfl⟩
        rw [← ez579] at hz579 ⊢
        have gz579 : (-2000099999000000) ≤ z579 ∧ z579 ≤ 2000100000000000 := z_in3 hz579 (by decide) (by decide)
        clear hz579
        refine X.llF 61 .ladd (fun x y => x + y) i182_60 rfl rfl rfl (fun _ _ => rfl) (fun z580 hz580 => ?_)
        refine X.lstore 63 [(0, zr g0 11), (2, zi y2), (3, zr g3 9), (4, zi y4), (5, zi y5), (6, zl z580), (8, zi y8), (9, zi (min v571 y4))] i182_61 rfl rfl rfl ?_
        refine X.iload 65 i182_63 rfl rfl rfl ?_
        refine X.istore 67 [(0, zr g0 11), (2, zi y2), (3, zr g3 9), (4, zi y4), (5, zi (min v571 y4)), (6, zl z580), (8, zi y8), (9, zi (min v571 y4))] i182_65 rfl rfl rfl ?_
        refine X.iinc 70 [(0, zr g0 11), (2, zi y2), (3, zr g3 9), (4, zi y4), (5, zi (min v571 y4)), (6, zl z580), (8, zi (y8 + 1)), (9, zi (min v571 y4))] i182_67 rfl rfl rfl (by omega) rfl ?_
        refine X.goto 14 i182_70 rfl rfl ?_
        refine X.cut [(0, zr g0 11), (2, zi y2), (3, zr g3 9), (4, zi y4), (5, zi (min v571 y4)), (6, zl z580), (8, zi (y8 + 1))] i182_14 rfl ?_
        exact ih (min v571 y4) z580 (y8 + 1) (by omega) (by omega) (by omega)
-- WorkMeter$Calendar.costOf
theorem c182_1 {s : Nat × (Nat → Int32)} {S : zS} {m0 m : zM} {B : Int} {d : Nat} {Q : Option zV → zM → Prop} (g0 g3 : Nat) (a1 a2 : Int) (hd : 16 ≤ d) (hJ : J S m0 B m) (hB : B + 0 ≤ 1000000000) (ha1 : 0 ≤ a1 ∧ a1 ≤ 2000000000) (ha2 : 1 ≤ a2 ∧ a2 ≤ 100000) (hQ : ∀ (v : Int), (True) → Q (some (zl v)) m) : X (EE s) d 182 0 [(0, zr g0 11), (1, zi a1), (2, zi a2), (3, zr g3 9)] [] m Q := by
  refine X.iload_n 1 i182_0 rfl rfl rfl ?_
  refine X.iload_n 2 i182_1 rfl rfl rfl ?_
  refine X.iadd 3 i182_2 rfl rfl (by omega) ?_
  refine X.istore 5 [(0, zr g0 11), (1, zi a1), (2, zi a2), (3, zr g3 9), (4, zi (a1 + a2))] i182_3 rfl rfl rfl ?_
  refine X.iload_n 6 i182_5 rfl rfl rfl ?_
  refine X.istore 8 [(0, zr g0 11), (1, zi a1), (2, zi a2), (3, zr g3 9), (4, zi (a1 + a2)), (5, zi a1)] i182_6 rfl rfl rfl ?_
  refine X.lconst (y := 0) 9 i182_8 rfl rfl rfl ?_
  refine X.lstore 11 [(0, zr g0 11), (1, zi a1), (2, zi a2), (3, zr g3 9), (4, zi (a1 + a2)), (5, zi a1), (6, zl 0)] i182_9 rfl rfl rfl ?_
  refine X.iconst 12 i182_11 rfl rfl (by decide) ?_
  refine X.istore 14 [(0, zr g0 11), (1, zi a1), (2, zi a2), (3, zr g3 9), (4, zi (a1 + a2)), (5, zi a1), (6, zl 0), (8, zi 0)] i182_12 rfl rfl rfl ?_
  refine X.cut [(0, zr g0 11), (2, zi a2), (3, zr g3 9), (4, zi (a1 + a2)), (5, zi a1), (6, zl 0), (8, zi 0)] i182_14 rfl ?_
  refine l182_14_1 (s := s) (S := S) (m0 := m0) (m := m) (B := B) (d := d) g0 g3 a2 (a1 + a2) (by omega) (hJ.up (by omega)) (by omega) (by omega) (by omega) (fun y501 hby501 => ?_) ((100000 - 0 : Int).toNat + 1) a1 0 0 (by omega) (by omega) (by omega)
  refine X.lload 75 i182_73 rfl rfl rfl ?_
  refine X.retl i182_75 rfl t182 ?_
  exact hQ y501 (by first | trivial | omega) 
-- WorkMeter.cost
theorem c181_1 {s : Nat × (Nat → Int32)} {S : zS} {m0 m : zM} {B : Int} {d : Nat} {Q : Option zV → zM → Prop} (a1 : Int) (hd : 17 ≤ d) (hJ : J S m0 B m) (hB : B + 0 ≤ 1000000000) (ha1 : (-2147483648) ≤ a1 ∧ a1 ≤ 2147483647) (hQ : ∀ (v : Int), (True) → Q (some (zl v)) m) : X (EE s) d 181 0 [(0, zr 4 40), (1, zi a1)] [] m Q := by
  refine X.iload_n 1 i181_0 rfl rfl rfl ?_
  refine X.iconst 2 i181_1 rfl rfl (by decide) ?_
  refine X.icmplt 27 5 i181_2 rfl rfl rfl (fun h501 => ?_) (fun h501 => ?_)
  · refine X.cut [] i181_27 rfl ?_
    refine X.ldc2 30 i181_27 rfl rfl (by decide) ?_
    refine X.retl i181_30 rfl t181 ?_
    exact hQ (-1) (by first | trivial | omega) 
  · refine X.iload_n 6 i181_5 rfl rfl rfl ?_
    refine X.ldc 8 i181_6 rfl rfl (by decide) ?_
    refine X.icmpgt 27 11 i181_8 rfl rfl rfl (fun h502 => ?_) (fun h502 => ?_)
    · refine X.cut [] i181_27 rfl ?_
      refine X.ldc2 30 i181_27 rfl rfl (by decide) ?_
      refine X.retl i181_30 rfl t181 ?_
      exact hQ (-1) (by first | trivial | omega) 
    · refine X.aload_n 12 i181_11 rfl rfl rfl ?_
      refine X.getF 15 i181_12 rfl rfl (by decide) rfl rfl ?_
      refine X.getI 18 9 i181_15 rfl rfl (by decide) rfl rfl rfl ?_
      have h503 := r8_9 hJ 0
      refine X.iload_n 19 i181_18 rfl rfl rfl ?_
      refine X.iadd 20 i181_19 rfl rfl (by omega) ?_
      refine X.iconst 21 i181_20 rfl rfl (by decide) ?_
      refine X.isub 22 i181_21 rfl rfl (by omega) ?_
      refine X.ldc 24 i181_22 rfl rfl (by decide) ?_
      refine X.icmple 31 27 i181_24 rfl rfl rfl (fun h504 => ?_) (fun h504 => ?_)
      · refine X.aload_n 32 i181_31 rfl rfl rfl ?_
        refine X.getF 35 i181_32 rfl rfl (by decide) rfl rfl ?_
        refine X.getR 38 i181_35 rfl rfl (by decide) rfl rfl ?_
        refine X.aload_n 39 i181_38 rfl rfl rfl ?_
        refine X.getF 42 i181_39 rfl rfl (by decide) rfl rfl ?_
        refine X.getI 45 9 i181_42 rfl rfl (by decide) rfl rfl rfl ?_
        refine X.iload_n 46 i181_45 rfl rfl rfl ?_
        refine X.aload_n 47 i181_46 rfl rfl rfl ?_
        refine X.getF 50 i181_47 rfl rfl (by decide) rfl rfl ?_
        refine X.getR 53 i181_50 rfl rfl (by decide) rfl rfl ?_
        refine X.callv 56 [zi (m 0 8 9), zi a1, zr 0 9] [] [(0, zr 0 11), (1, zi (m 0 8 9)), (2, zi a1), (3, zr 0 9)] i181_53 rfl (by decide) rfl rfl (by omega) rfl rfl (by decide) rfl t182 (Nat.le_of_ble_eq_true rfl) (Nat.le_of_ble_eq_true rfl) rfl ?_
        refine c182_1 (B := B) 0 0 (m 0 8 9) a1 (by omega) (hJ.up (by omega)) (by omega) (by omega) (by omega) (fun v507 hv507 => ?_)
        show X (EE s) d 181 56 [(0, zr 4 40), (1, zi a1)] [zl v507] m _
        refine X.retl i181_56 rfl t181 ?_
        exact hQ v507 (by first | trivial | omega) 
      · refine X.cut [] i181_27 rfl ?_
        refine X.ldc2 30 i181_27 rfl rfl (by decide) ?_
        refine X.retl i181_30 rfl t181 ?_
        exact hQ (-1) (by first | trivial | omega) 
theorem l307_19_1 {s : Nat × (Nat → Int32)} {S : zS} {m0 m : zM} {B : Int} {d : Nat} {Q : Option zV → zM → Prop} (y2 y3 y4 : Int) (hd : 13 ≤ d) (hJ : J S m0 B m) (hB9 : B ≤ 1000000000) (hy2 : 0 ≤ y2 ∧ y2 ≤ 86399) (hy3 : 86400 ≤ y3 ∧ y3 ≤ 86400) (hy4 : 0 ≤ y4 ∧ y4 ≤ 7)
    (K185 : ∀ (x5 : Int) , (True) → X (EE s) d 307 185 [(5, zl x5)] [] m Q) :
    ∀ (n : Nat) (y5 y7 y8 y9 : Int) , (0 ≤ y7 ∧ y7 ≤ 3) → (0 ≤ y8 ∧ y8 ≤ 86400) → (0 ≤ y9 ∧ y9 ≤ 7) → 7 - y9 < (n : Int) → X (EE s) d 307 19 [(0, zr 4 44), (2, zi y2), (3, zi y3), (4, zi y4), (5, zl y5), (7, zi y7), (8, zi y8), (9, zi y9)] [] m Q := by
  intro n
  induction n with
  | zero =>
    intro y5 y7 y8 y9 hy7 hy8 hy9 hn
    exfalso
    omega
  | succ n ih =>
    intro y5 y7 y8 y9 hy7 hy8 hy9 hn
    refine X.iload 21 i307_19 rfl rfl rfl ?_
    refine X.i2l 22 i307_21 rfl rfl ?_
    refine X.aload_n 23 i307_22 rfl rfl rfl ?_
    refine X.getF 26 i307_23 rfl rfl (by decide) rfl rfl ?_
    refine X.sipush 29 i307_26 rfl rfl (by decide) ?_
    refine X.iload 31 i307_29 rfl rfl rfl ?_
    refine X.iadd 32 i307_31 rfl rfl (by omega) ?_
    refine X.lald 33 i307_32 rfl rfl (by decide) rfl (by omega) ?_
    have h571 := r45_287 hJ 4 (i := (287 + y4)) (by omega)
    refine X.lcmp 34 i307_33 rfl rfl (fun z572 hz572 => ?_)
    refine X.ifgt 185 37 i307_34 rfl rfl rfl (fun h573 => ?_) (fun h573 => ?_)
    · have h573c : y9 > (m 4 45 (287 + y4)) := by omega
      clear h573 hz572
      refine X.cut [(5, zl y5)] i307_185 rfl ?_
      exact K185 y5 (by first | trivial | omega)
    · have h573c : y9 ≤ (m 4 45 (287 + y4)) := by omega
      clear h573 hz572
      refine X.iload 39 i307_37 rfl rfl rfl ?_
      refine X.i2l 40 i307_39 rfl rfl ?_
      refine X.aload_n 41 i307_40 rfl rfl rfl ?_
      refine X.getF 44 i307_41 rfl rfl (by decide) rfl rfl ?_
      refine X.sipush 47 i307_44 rfl rfl (by decide) ?_
      refine X.iload 49 i307_47 rfl rfl rfl ?_
      refine X.iadd 50 i307_49 rfl rfl (by omega) ?_
      refine X.lald 51 i307_50 rfl rfl (by decide) rfl (by omega) ?_
      refine X.lcmp 52 i307_51 rfl rfl (fun z574 hz574 => ?_)
      refine X.ifge 76 55 i307_52 rfl rfl rfl (fun h575 => ?_) (fun h575 => ?_)
      · have h575c : y9 ≥ (m 4 45 (287 + y4)) := by omega
        clear h575 hz574
        refine X.ldc 78 i307_76 rfl rfl (by decide) ?_
        refine X.istore 80 [(0, zr 4 44), (2, zi y2), (3, zi y3), (4, zi y4), (5, zl y5), (7, zi y7), (8, zi y8), (9, zi y9), (10, zi 86400)] i307_78 rfl rfl rfl ?_
        refine X.iload 82 i307_80 rfl rfl rfl ?_
        refine X.iload_n 83 i307_82 rfl rfl rfl ?_
        refine X.icmple 91 86 i307_83 rfl rfl rfl (fun h576 => ?_) (fun h576 => ?_)
        · refine X.cut [(0, zr 4 44), (2, zi y2), (3, zi y3), (4, zi y4), (5, zl y5), (7, zi y7), (9, zi y9), (10, zi 86400)] i307_91 rfl ?_
          refine X.iload_n 92 i307_91 rfl rfl rfl ?_
          refine X.istore 94 [(0, zr 4 44), (2, zi y2), (3, zi y3), (4, zi y4), (5, zl y5), (7, zi y7), (9, zi y9), (10, zi 86400), (11, zi y2)] i307_92 rfl rfl rfl ?_
          refine X.iload 96 i307_94 rfl rfl rfl ?_
          refine X.iload_n 97 i307_96 rfl rfl rfl ?_
          refine X.icmpge 105 100 i307_97 rfl rfl rfl (fun h577 => ?_) (fun h577 => (by exfalso; omega))
          refine X.iload_n 106 i307_105 rfl rfl rfl ?_
          refine X.istore 108 [(0, zr 4 44), (2, zi y2), (3, zi y3), (4, zi y4), (5, zl y5), (7, zi y7), (9, zi y9), (10, zi 86400), (11, zi y2), (12, zi y3)] i307_106 rfl rfl rfl ?_
          refine X.iload 110 i307_108 rfl rfl rfl ?_
          refine X.iload 112 i307_110 rfl rfl rfl ?_
          refine X.icmple 137 115 i307_112 rfl rfl rfl (fun h578 => (by exfalso; omega)) (fun h578 => ?_)
          refine X.lload 117 i307_115 rfl rfl rfl ?_
          refine X.iload 119 i307_117 rfl rfl rfl ?_
          refine X.iload 121 i307_119 rfl rfl rfl ?_
          refine X.isub 122 i307_121 rfl rfl (by omega) ?_
          refine X.i2l 123 i307_122 rfl rfl ?_
          refine X.aload_n 124 i307_123 rfl rfl rfl ?_
          refine X.getF 127 i307_124 rfl rfl (by decide) rfl rfl ?_
          refine X.bipush 129 i307_127 rfl rfl (by decide) ?_
          refine X.iload 131 i307_129 rfl rfl rfl ?_
          refine X.iadd 132 i307_131 rfl rfl (by omega) ?_
          refine X.lald 133 i307_132 rfl rfl (by decide) rfl (by omega) ?_
          refine X.llF 134 .lmul (fun x y => x * y) i307_133 rfl rfl rfl (fun _ _ => rfl) (fun z579 hz579 => ?_)
          refine X.llF 135 .ladd (fun x y => x + y) i307_134 rfl rfl rfl (fun _ _ => rfl) (fun z580 hz580 => ?_)
          refine X.lstore 137 [(0, zr 4 44), (2, zi y2), (3, zi y3), (4, zi y4), (5, zl z580), (7, zi y7), (9, zi y9), (10, zi 86400), (11, zi y2), (12, zi y3)] i307_135 rfl rfl rfl ?_
          refine X.cut [(0, zr 4 44), (2, zi y2), (3, zi y3), (4, zi y4), (5, zl z580), (7, zi y7), (9, zi y9), (10, zi 86400)] i307_137 rfl ?_
          refine X.iload 139 i307_137 rfl rfl rfl ?_
          refine X.istore 141 [(0, zr 4 44), (2, zi y2), (3, zi y3), (4, zi y4), (5, zl z580), (7, zi y7), (8, zi 86400), (9, zi y9), (10, zi 86400)] i307_139 rfl rfl rfl ?_
          refine X.iload 143 i307_141 rfl rfl rfl ?_
          refine X.i2l 144 i307_143 rfl rfl ?_
          refine X.aload_n 145 i307_144 rfl rfl rfl ?_
          refine X.getF 148 i307_145 rfl rfl (by decide) rfl rfl ?_
          refine X.sipush 151 i307_148 rfl rfl (by decide) ?_
          refine X.iload 153 i307_151 rfl rfl rfl ?_
          refine X.iadd 154 i307_153 rfl rfl (by omega) ?_
          refine X.lald 155 i307_154 rfl rfl (by decide) rfl (by omega) ?_
          refine X.lcmp 156 i307_155 rfl rfl (fun z581 hz581 => ?_)
          refine X.ifge 179 159 i307_156 rfl rfl rfl (fun h582 => ?_) (fun h582 => ?_)
          · have h582c : y9 ≥ (m 4 45 (287 + y4)) := by omega
            clear h582 hz581
            refine X.cut [(0, zr 4 44), (2, zi y2), (3, zi y3), (4, zi y4), (5, zl z580), (7, zi y7), (8, zi 86400), (9, zi y9)] i307_179 rfl ?_
            refine X.iinc 182 [(0, zr 4 44), (2, zi y2), (3, zi y3), (4, zi y4), (5, zl z580), (7, zi y7), (8, zi 86400), (9, zi (y9 + 1))] i307_179 rfl rfl rfl (by omega) rfl ?_
            refine X.goto 19 i307_182 rfl rfl ?_
            exact ih z580 y7 86400 (y9 + 1) (by omega) (by omega) (by omega) (by omega)
          · have h582c : y9 < (m 4 45 (287 + y4)) := by omega
            clear h582 hz581
            refine X.aload_n 160 i307_159 rfl rfl rfl ?_
            refine X.getF 163 i307_160 rfl rfl (by decide) rfl rfl ?_
            refine X.sipush 166 i307_163 rfl rfl (by decide) ?_
            refine X.bipush 168 i307_166 rfl rfl (by decide) ?_
            refine X.iload 170 i307_168 rfl rfl rfl ?_
            refine X.imul 171 i307_170 rfl rfl (by omega) ?_
            refine X.iadd 172 i307_171 rfl rfl (by omega) ?_
            refine X.iload 174 i307_172 rfl rfl rfl ?_
            refine X.iadd 175 i307_174 rfl rfl (by omega) ?_
            refine X.lald 176 i307_175 rfl rfl (by decide) rfl (by omega) ?_
            have h583 := r45_343 hJ 4 (i := ((343 + (6 * y4)) + y9)) (by omega)
            refine X.l2i 177 i307_176 rfl rfl (by omega) ?_
            refine X.istore 179 [(0, zr 4 44), (2, zi y2), (3, zi y3), (4, zi y4), (5, zl z580), (7, zi (m 4 45 ((343 + (6 * y4)) + y9))), (8, zi 86400), (9, zi y9), (10, zi 86400)] i307_177 rfl rfl rfl ?_
            refine X.cut [(0, zr 4 44), (2, zi y2), (3, zi y3), (4, zi y4), (5, zl z580), (7, zi (m 4 45 ((343 + (6 * y4)) + y9))), (8, zi 86400), (9, zi y9)] i307_179 rfl ?_
            refine X.iinc 182 [(0, zr 4 44), (2, zi y2), (3, zi y3), (4, zi y4), (5, zl z580), (7, zi (m 4 45 ((343 + (6 * y4)) + y9))), (8, zi 86400), (9, zi (y9 + 1))] i307_179 rfl rfl rfl (by omega) rfl ?_
            refine X.goto 19 i307_182 rfl rfl ?_
            exact ih z580 (m 4 45 ((343 + (6 * y4)) + y9)) 86400 (y9 + 1) (by omega) (by omega) (by omega) (by omega)
        · refine X.iload 88 i307_86 rfl rfl rfl ?_
          refine X.goto 92 i307_88 rfl rfl ?_
          refine X.cut [(0, zr 4 44), (2, zi y2), (3, zi y3), (4, zi y4), (5, zl y5), (7, zi y7), (9, zi y9), (10, zi 86400)] i307_92 rfl ?_
          refine X.istore 94 [(0, zr 4 44), (2, zi y2), (3, zi y3), (4, zi y4), (5, zl y5), (7, zi y7), (9, zi y9), (10, zi 86400), (11, zi y8)] i307_92 rfl rfl rfl ?_
          refine X.iload 96 i307_94 rfl rfl rfl ?_
          refine X.iload_n 97 i307_96 rfl rfl rfl ?_
          refine X.icmpge 105 100 i307_97 rfl rfl rfl (fun h584 => ?_) (fun h584 => (by exfalso; omega))
          refine X.iload_n 106 i307_105 rfl rfl rfl ?_
          refine X.istore 108 [(0, zr 4 44), (2, zi y2), (3, zi y3), (4, zi y4), (5, zl y5), (7, zi y7), (9, zi y9), (10, zi 86400), (11, zi y8), (12, zi y3)] i307_106 rfl rfl rfl ?_
          refine X.iload 110 i307_108 rfl rfl rfl ?_
          refine X.iload 112 i307_110 rfl rfl rfl ?_
          refine X.icmple 137 115 i307_112 rfl rfl rfl (fun h585 => ?_) (fun h585 => ?_)
          · refine X.cut [(0, zr 4 44), (2, zi y2), (3, zi y3), (4, zi y4), (5, zl y5), (7, zi y7), (9, zi y9), (10, zi 86400)] i307_137 rfl ?_
            refine X.iload 139 i307_137 rfl rfl rfl ?_
            refine X.istore 141 [(0, zr 4 44), (2, zi y2), (3, zi y3), (4, zi y4), (5, zl y5), (7, zi y7), (8, zi 86400), (9, zi y9), (10, zi 86400)] i307_139 rfl rfl rfl ?_
            refine X.iload 143 i307_141 rfl rfl rfl ?_
            refine X.i2l 144 i307_143 rfl rfl ?_
            refine X.aload_n 145 i307_144 rfl rfl rfl ?_
            refine X.getF 148 i307_145 rfl rfl (by decide) rfl rfl ?_
            refine X.sipush 151 i307_148 rfl rfl (by decide) ?_
            refine X.iload 153 i307_151 rfl rfl rfl ?_
            refine X.iadd 154 i307_153 rfl rfl (by omega) ?_
            refine X.lald 155 i307_154 rfl rfl (by decide) rfl (by omega) ?_
            refine X.lcmp 156 i307_155 rfl rfl (fun z586 hz586 => ?_)
            refine X.ifge 179 159 i307_156 rfl rfl rfl (fun h587 => ?_) (fun h587 => ?_)
            · have h587c : y9 ≥ (m 4 45 (287 + y4)) := by omega
              clear h587 hz586
              refine X.cut [(0, zr 4 44), (2, zi y2), (3, zi y3), (4, zi y4), (5, zl y5), (7, zi y7), (8, zi 86400), (9, zi y9)] i307_179 rfl ?_
              refine X.iinc 182 [(0, zr 4 44), (2, zi y2), (3, zi y3), (4, zi y4), (5, zl y5), (7, zi y7), (8, zi 86400), (9, zi (y9 + 1))] i307_179 rfl rfl rfl (by omega) rfl ?_
              refine X.goto 19 i307_182 rfl rfl ?_
              exact ih y5 y7 86400 (y9 + 1) (by omega) (by omega) (by omega) (by omega)
            · have h587c : y9 < (m 4 45 (287 + y4)) := by omega
              clear h587 hz586
              refine X.aload_n 160 i307_159 rfl rfl rfl ?_
              refine X.getF 163 i307_160 rfl rfl (by decide) rfl rfl ?_
              refine X.sipush 166 i307_163 rfl rfl (by decide) ?_
              refine X.bipush 168 i307_166 rfl rfl (by decide) ?_
              refine X.iload 170 i307_168 rfl rfl rfl ?_
              refine X.imul 171 i307_170 rfl rfl (by omega) ?_
              refine X.iadd 172 i307_171 rfl rfl (by omega) ?_
              refine X.iload 174 i307_172 rfl rfl rfl ?_
              refine X.iadd 175 i307_174 rfl rfl (by omega) ?_
              refine X.lald 176 i307_175 rfl rfl (by decide) rfl (by omega) ?_
              have h588 := r45_343 hJ 4 (i := ((343 + (6 * y4)) + y9)) (by omega)
              refine X.l2i 177 i307_176 rfl rfl (by omega) ?_
              refine X.istore 179 [(0, zr 4 44), (2, zi y2), (3, zi y3), (4, zi y4), (5, zl y5), (7, zi (m 4 45 ((343 + (6 * y4)) + y9))), (8, zi 86400), (9, zi y9), (10, zi 86400)] i307_177 rfl rfl rfl ?_
              refine X.cut [(0, zr 4 44), (2, zi y2), (3, zi y3), (4, zi y4), (5, zl y5), (7, zi (m 4 45 ((343 + (6 * y4)) + y9))), (8, zi 86400), (9, zi y9)] i307_179 rfl ?_
              refine X.iinc 182 [(0, zr 4 44), (2, zi y2), (3, zi y3), (4, zi y4), (5, zl y5), (7, zi (m 4 45 ((343 + (6 * y4)) + y9))), (8, zi 86400), (9, zi (y9 + 1))] i307_179 rfl rfl rfl (by omega) rfl ?_
              refine X.goto 19 i307_182 rfl rfl ?_
              exact ih y5 (m 4 45 ((343 + (6 * y4)) + y9)) 86400 (y9 + 1) (by omega) (by omega) (by omega) (by omega)
          · refine X.lload 117 i307_115 rfl rfl rfl ?_
            refine X.iload 119 i307_117 rfl rfl rfl ?_
            refine X.iload 121 i307_119 rfl rfl rfl ?_
            refine X.isub 122 i307_121 rfl rfl (by omega) ?_
            refine X.i2l 123 i307_122 rfl rfl ?_
            refine X.aload_n 124 i307_123 rfl rfl rfl ?_
            refine X.getF 127 i307_124 rfl rfl (by decide) rfl rfl ?_
            refine X.bipush 129 i307_127 rfl rfl (by decide) ?_
            refine X.iload 131 i307_129 rfl rfl rfl ?_
            refine X.iadd 132 i307_131 rfl rfl (by omega) ?_
            refine X.lald 133 i307_132 rfl rfl (by decide) rfl (by omega) ?_
            refine X.llF 134 .lmul (fun x y => x * y) i307_133 rfl rfl rfl (fun _ _ => rfl) (fun z589 hz589 => ?_)
            refine X.llF 135 .ladd (fun x y => x + y) i307_134 rfl rfl rfl (fun _ _ => rfl) (fun z590 hz590 => ?_)
            refine X.lstore 137 [(0, zr 4 44), (2, zi y2), (3, zi y3), (4, zi y4), (5, zl z590), (7, zi y7), (9, zi y9), (10, zi 86400), (11, zi y8), (12, zi y3)] i307_135 rfl rfl rfl ?_
            refine X.cut [(0, zr 4 44), (2, zi y2), (3, zi y3), (4, zi y4), (5, zl z590), (7, zi y7), (9, zi y9), (10, zi 86400)] i307_137 rfl ?_
            refine X.iload 139 i307_137 rfl rfl rfl ?_
            refine X.istore 141 [(0, zr 4 44), (2, zi y2), (3, zi y3), (4, zi y4), (5, zl z590), (7, zi y7), (8, zi 86400), (9, zi y9), (10, zi 86400)] i307_139 rfl rfl rfl ?_
            refine X.iload 143 i307_141 rfl rfl rfl ?_
            refine X.i2l 144 i307_143 rfl rfl ?_
            refine X.aload_n 145 i307_144 rfl rfl rfl ?_
            refine X.getF 148 i307_145 rfl rfl (by decide) rfl rfl ?_
            refine X.sipush 151 i307_148 rfl rfl (by decide) ?_
            refine X.iload 153 i307_151 rfl rfl rfl ?_
            refine X.iadd 154 i307_153 rfl rfl (by omega) ?_
            refine X.lald 155 i307_154 rfl rfl (by decide) rfl (by omega) ?_
            refine X.lcmp 156 i307_155 rfl rfl (fun z591 hz591 => ?_)
            refine X.ifge 179 159 i307_156 rfl rfl rfl (fun h592 => ?_) (fun h592 => ?_)
            · have h592c : y9 ≥ (m 4 45 (287 + y4)) := by omega
              clear h592 hz591
              refine X.cut [(0, zr 4 44), (2, zi y2), (3, zi y3), (4, zi y4), (5, zl z590), (7, zi y7), (8, zi 86400), (9, zi y9)] i307_179 rfl ?_
              refine X.iinc 182 [(0, zr 4 44), (2, zi y2), (3, zi y3), (4, zi y4), (5, zl z590), (7, zi y7), (8, zi 86400), (9, zi (y9 + 1))] i307_179 rfl rfl rfl (by omega) rfl ?_
              refine X.goto 19 i307_182 rfl rfl ?_
              exact ih z590 y7 86400 (y9 + 1) (by omega) (by omega) (by omega) (by omega)
            · have h592c : y9 < (m 4 45 (287 + y4)) := by omega
              clear h592 hz591
              refine X.aload_n 160 i307_159 rfl rfl rfl ?_
              refine X.getF 163 i307_160 rfl rfl (by decide) rfl rfl ?_
              refine X.sipush 166 i307_163 rfl rfl (by decide) ?_
              refine X.bipush 168 i307_166 rfl rfl (by decide) ?_
              refine X.iload 170 i307_168 rfl rfl rfl ?_
              refine X.imul 171 i307_170 rfl rfl (by omega) ?_
              refine X.iadd 172 i307_171 rfl rfl (by omega) ?_
              refine X.iload 174 i307_172 rfl rfl rfl ?_
              refine X.iadd 175 i307_174 rfl rfl (by omega) ?_
              refine X.lald 176 i307_175 rfl rfl (by decide) rfl (by omega) ?_
              have h593 := r45_343 hJ 4 (i := ((343 + (6 * y4)) + y9)) (by omega)
              refine X.l2i 177 i307_176 rfl rfl (by omega) ?_
              refine X.istore 179 [(0, zr 4 44), (2, zi y2), (3, zi y3), (4, zi y4), (5, zl z590), (7, zi (m 4 45 ((343 + (6 * y4)) + y9))), (8, zi 86400), (9, zi y9), (10, zi 86400)] i307_177 rfl rfl rfl ?_
              refine X.cut [(0, zr 4 44), (2, zi y2), (3, zi y3), (4, zi y4), (5, zl z590), (7, zi (m 4 45 ((343 + (6 * y4)) + y9))), (8, zi 86400), (9, zi y9)] i307_179 rfl ?_
              refine X.iinc 182 [(0, zr 4 44), (2, zi y2), (3, zi y3), (4, zi y4), (5, zl z590), (7, zi (m 4 45 ((343 + (6 * y4)) + y9))), (8, zi 86400), (9, zi (y9 + 1))] i307_179 rfl rfl rfl (by omega) rfl ?_
              refine X.goto 19 i307_182 rfl rfl ?_
              exact ih z590 (m 4 45 ((343 + (6 * y4)) + y9)) 86400 (y9 + 1) (by omega) (by omega) (by omega) (by omega)
      · have h575c : y9 < (m 4 45 (287 + y4)) := by omega
        clear h575 hz574
        refine X.aload_n 56 i307_55 rfl rfl rfl ?_
        refine X.getF 59 i307_56 rfl rfl (by decide) rfl rfl ?_
        refine X.sipush 62 i307_59 rfl rfl (by decide) ?_
        refine X.bipush 64 i307_62 rfl rfl (by decide) ?_
        refine X.iload 66 i307_64 rfl rfl rfl ?_
        refine X.imul 67 i307_66 rfl rfl (by omega) ?_
        refine X.iadd 68 i307_67 rfl rfl (by omega) ?_
        refine X.iload 70 i307_68 rfl rfl rfl ?_
        refine X.iadd 71 i307_70 rfl rfl (by omega) ?_
        refine X.lald 72 i307_71 rfl rfl (by decide) rfl (by omega) ?_
        have h594 := r45_295 hJ 4 (i := ((295 + (6 * y4)) + y9)) (by omega)
        refine X.l2i 73 i307_72 rfl rfl (by omega) ?_
        refine X.goto 78 i307_73 rfl rfl ?_
        refine X.istore 80 [(0, zr 4 44), (2, zi y2), (3, zi y3), (4, zi y4), (5, zl y5), (7, zi y7), (8, zi y8), (9, zi y9), (10, zi (m 4 45 ((295 + (6 * y4)) + y9)))] i307_78 rfl rfl rfl ?_
        refine X.iload 82 i307_80 rfl rfl rfl ?_
        refine X.iload_n 83 i307_82 rfl rfl rfl ?_
        refine X.icmple 91 86 i307_83 rfl rfl rfl (fun h595 => ?_) (fun h595 => ?_)
        · refine X.cut [(0, zr 4 44), (2, zi y2), (3, zi y3), (4, zi y4), (5, zl y5), (7, zi y7), (9, zi y9), (10, zi (m 4 45 ((295 + (6 * y4)) + y9)))] i307_91 rfl ?_
          refine X.iload_n 92 i307_91 rfl rfl rfl ?_
          refine X.istore 94 [(0, zr 4 44), (2, zi y2), (3, zi y3), (4, zi y4), (5, zl y5), (7, zi y7), (9, zi y9), (10, zi (m 4 45 ((295 + (6 * y4)) + y9))), (11, zi y2)] i307_92 rfl rfl rfl ?_
          refine X.iload 96 i307_94 rfl rfl rfl ?_
          refine X.iload_n 97 i307_96 rfl rfl rfl ?_
          refine X.icmpge 105 100 i307_97 rfl rfl rfl (fun h596 => (by exfalso; omega)) (fun h596 => ?_)
          refine X.iload 102 i307_100 rfl rfl rfl ?_
          refine X.goto 106 i307_102 rfl rfl ?_
          refine X.istore 108 [(0, zr 4 44), (2, zi y2), (3, zi y3), (4, zi y4), (5, zl y5), (7, zi y7), (9, zi y9), (10, zi (m 4 45 ((295 + (6 * y4)) + y9))), (11, zi y2), (12, zi (m 4 45 ((295 + (6 * y4)) + y9)))] i307_106 rfl rfl rfl ?_
          refine X.iload 110 i307_108 rfl rfl rfl ?_
          refine X.iload 112 i307_110 rfl rfl rfl ?_
          refine X.icmple 137 115 i307_112 rfl rfl rfl (fun h597 => ?_) (fun h597 => ?_)
          · refine X.cut [(0, zr 4 44), (2, zi y2), (3, zi y3), (4, zi y4), (5, zl y5), (7, zi y7), (9, zi y9), (10, zi (m 4 45 ((295 + (6 * y4)) + y9)))] i307_137 rfl ?_
            refine X.iload 139 i307_137 rfl rfl rfl ?_
            refine X.istore 141 [(0, zr 4 44), (2, zi y2), (3, zi y3), (4, zi y4), (5, zl y5), (7, zi y7), (8, zi (m 4 45 ((295 + (6 * y4)) + y9))), (9, zi y9), (10, zi (m 4 45 ((295 + (6 * y4)) + y9)))] i307_139 rfl rfl rfl ?_
            refine X.iload 143 i307_141 rfl rfl rfl ?_
            refine X.i2l 144 i307_143 rfl rfl ?_
            refine X.aload_n 145 i307_144 rfl rfl rfl ?_
            refine X.getF 148 i307_145 rfl rfl (by decide) rfl rfl ?_
            refine X.sipush 151 i307_148 rfl rfl (by decide) ?_
            refine X.iload 153 i307_151 rfl rfl rfl ?_
            refine X.iadd 154 i307_153 rfl rfl (by omega) ?_
            refine X.lald 155 i307_154 rfl rfl (by decide) rfl (by omega) ?_
            refine X.lcmp 156 i307_155 rfl rfl (fun z598 hz598 => ?_)
            refine X.ifge 179 159 i307_156 rfl rfl rfl (fun h599 => ?_) (fun h599 => ?_)
            · have h599c : y9 ≥ (m 4 45 (287 + y4)) := by omega
              clear h599 hz598
              refine X.cut [(0, zr 4 44), (2, zi y2), (3, zi y3), (4, zi y4), (5, zl y5), (7, zi y7), (8, zi (m 4 45 ((295 + (6 * y4)) + y9))), (9, zi y9)] i307_179 rfl ?_
              refine X.iinc 182 [(0, zr 4 44), (2, zi y2), (3, zi y3), (4, zi y4), (5, zl y5), (7, zi y7), (8, zi (m 4 45 ((295 + (6 * y4)) + y9))), (9, zi (y9 + 1))] i307_179 rfl rfl rfl (by omega) rfl ?_
              refine X.goto 19 i307_182 rfl rfl ?_
              exact ih y5 y7 (m 4 45 ((295 + (6 * y4)) + y9)) (y9 + 1) (by omega) (by omega) (by omega) (by omega)
            · have h599c : y9 < (m 4 45 (287 + y4)) := by omega
              clear h599 hz598
              refine X.aload_n 160 i307_159 rfl rfl rfl ?_
              refine X.getF 163 i307_160 rfl rfl (by decide) rfl rfl ?_
              refine X.sipush 166 i307_163 rfl rfl (by decide) ?_
              refine X.bipush 168 i307_166 rfl rfl (by decide) ?_
              refine X.iload 170 i307_168 rfl rfl rfl ?_
              refine X.imul 171 i307_170 rfl rfl (by omega) ?_
              refine X.iadd 172 i307_171 rfl rfl (by omega) ?_
              refine X.iload 174 i307_172 rfl rfl rfl ?_
              refine X.iadd 175 i307_174 rfl rfl (by omega) ?_
              refine X.lald 176 i307_175 rfl rfl (by decide) rfl (by omega) ?_
              have h600 := r45_343 hJ 4 (i := ((343 + (6 * y4)) + y9)) (by omega)
              refine X.l2i 177 i307_176 rfl rfl (by omega) ?_
              refine X.istore 179 [(0, zr 4 44), (2, zi y2), (3, zi y3), (4, zi y4), (5, zl y5), (7, zi (m 4 45 ((343 + (6 * y4)) + y9))), (8, zi (m 4 45 ((295 + (6 * y4)) + y9))), (9, zi y9), (10, zi (m 4 45 ((295 + (6 * y4)) + y9)))] i307_177 rfl rfl rfl ?_
              refine X.cut [(0, zr 4 44), (2, zi y2), (3, zi y3), (4, zi y4), (5, zl y5), (7, zi (m 4 45 ((343 + (6 * y4)) + y9))), (8, zi (m 4 45 ((295 + (6 * y4)) + y9))), (9, zi y9)] i307_179 rfl ?_
              refine X.iinc 182 [(0, zr 4 44), (2, zi y2), (3, zi y3), (4, zi y4), (5, zl y5), (7, zi (m 4 45 ((343 + (6 * y4)) + y9))), (8, zi (m 4 45 ((295 + (6 * y4)) + y9))), (9, zi (y9 + 1))] i307_179 rfl rfl rfl (by omega) rfl ?_
              refine X.goto 19 i307_182 rfl rfl ?_
              exact ih y5 (m 4 45 ((343 + (6 * y4)) + y9)) (m 4 45 ((295 + (6 * y4)) + y9)) (y9 + 1) (by omega) (by omega) (by omega) (by omega)
          · refine X.lload 117 i307_115 rfl rfl rfl ?_
            refine X.iload 119 i307_117 rfl rfl rfl ?_
            refine X.iload 121 i307_119 rfl rfl rfl ?_
            refine X.isub 122 i307_121 rfl rfl (by omega) ?_
            refine X.i2l 123 i307_122 rfl rfl ?_
            refine X.aload_n 124 i307_123 rfl rfl rfl ?_
            refine X.getF 127 i307_124 rfl rfl (by decide) rfl rfl ?_
            refine X.bipush 129 i307_127 rfl rfl (by decide) ?_
            refine X.iload 131 i307_129 rfl rfl rfl ?_
            refine X.iadd 132 i307_131 rfl rfl (by omega) ?_
            refine X.lald 133 i307_132 rfl rfl (by decide) rfl (by omega) ?_
            refine X.llF 134 .lmul (fun x y => x * y) i307_133 rfl rfl rfl (fun _ _ => rfl) (fun z601 hz601 => ?_)
            refine X.llF 135 .ladd (fun x y => x + y) i307_134 rfl rfl rfl (fun _ _ => rfl) (fun z602 hz602 => ?_)
            refine X.lstore 137 [(0, zr 4 44), (2, zi y2), (3, zi y3), (4, zi y4), (5, zl z602), (7, zi y7), (9, zi y9), (10, zi (m 4 45 ((295 + (6 * y4)) + y9))), (11, zi y2), (12, zi (m 4 45 ((295 + (6 * y4)) + y9)))] i307_135 rfl rfl rfl ?_
            refine X.cut [(0, zr 4 44), (2, zi y2), (3, zi y3), (4, zi y4), (5, zl z602), (7, zi y7), (9, zi y9), (10, zi (m 4 45 ((295 + (6 * y4)) + y9)))] i307_137 rfl ?_
            refine X.iload 139 i307_137 rfl rfl rfl ?_
            refine X.istore 141 [(0, zr 4 44), (2, zi y2), (3, zi y3), (4, zi y4), (5, zl z602), (7, zi y7), (8, zi (m 4 45 ((295 + (6 * y4)) + y9))), (9, zi y9), (10, zi (m 4 45 ((295 + (6 * y4)) + y9)))] i307_139 rfl rfl rfl ?_
            refine X.iload 143 i307_141 rfl rfl rfl ?_
            refine X.i2l 144 i307_143 rfl rfl ?_
            refine X.aload_n 145 i307_144 rfl rfl rfl ?_
            refine X.getF 148 i307_145 rfl rfl (by decide) rfl rfl ?_
            refine X.sipush 151 i307_148 rfl rfl (by decide) ?_
            refine X.iload 153 i307_151 rfl rfl rfl ?_
            refine X.iadd 154 i307_153 rfl rfl (by omega) ?_
            refine X.lald 155 i307_154 rfl rfl (by decide) rfl (by omega) ?_
            refine X.lcmp 156 i307_155 rfl rfl (fun z603 hz603 => ?_)
            refine X.ifge 179 159 i307_156 rfl rfl rfl (fun h604 => ?_) (fun h604 => ?_)
            · have h604c : y9 ≥ (m 4 45 (287 + y4)) := by omega
              clear h604 hz603
              refine X.cut [(0, zr 4 44), (2, zi y2), (3, zi y3), (4, zi y4), (5, zl z602), (7, zi y7), (8, zi (m 4 45 ((295 + (6 * y4)) + y9))), (9, zi y9)] i307_179 rfl ?_
              refine X.iinc 182 [(0, zr 4 44), (2, zi y2), (3, zi y3), (4, zi y4), (5, zl z602), (7, zi y7), (8, zi (m 4 45 ((295 + (6 * y4)) + y9))), (9, zi (y9 + 1))] i307_179 rfl rfl rfl (by omega) rfl ?_
              refine X.goto 19 i307_182 rfl rfl ?_
              exact ih z602 y7 (m 4 45 ((295 + (6 * y4)) + y9)) (y9 + 1) (by omega) (by omega) (by omega) (by omega)
            · have h604c : y9 < (m 4 45 (287 + y4)) := by omega
              clear h604 hz603
              refine X.aload_n 160 i307_159 rfl rfl rfl ?_
              refine X.getF 163 i307_160 rfl rfl (by decide) rfl rfl ?_
              refine X.sipush 166 i307_163 rfl rfl (by decide) ?_
              refine X.bipush 168 i307_166 rfl rfl (by decide) ?_
              refine X.iload 170 i307_168 rfl rfl rfl ?_
              refine X.imul 171 i307_170 rfl rfl (by omega) ?_
              refine X.iadd 172 i307_171 rfl rfl (by omega) ?_
              refine X.iload 174 i307_172 rfl rfl rfl ?_
              refine X.iadd 175 i307_174 rfl rfl (by omega) ?_
              refine X.lald 176 i307_175 rfl rfl (by decide) rfl (by omega) ?_
              have h605 := r45_343 hJ 4 (i := ((343 + (6 * y4)) + y9)) (by omega)
              refine X.l2i 177 i307_176 rfl rfl (by omega) ?_
              refine X.istore 179 [(0, zr 4 44), (2, zi y2), (3, zi y3), (4, zi y4), (5, zl z602), (7, zi (m 4 45 ((343 + (6 * y4)) + y9))), (8, zi (m 4 45 ((295 + (6 * y4)) + y9))), (9, zi y9), (10, zi (m 4 45 ((295 + (6 * y4)) + y9)))] i307_177 rfl rfl rfl ?_
              refine X.cut [(0, zr 4 44), (2, zi y2), (3, zi y3), (4, zi y4), (5, zl z602), (7, zi (m 4 45 ((343 + (6 * y4)) + y9))), (8, zi (m 4 45 ((295 + (6 * y4)) + y9))), (9, zi y9)] i307_179 rfl ?_
              refine X.iinc 182 [(0, zr 4 44), (2, zi y2), (3, zi y3), (4, zi y4), (5, zl z602), (7, zi (m 4 45 ((343 + (6 * y4)) + y9))), (8, zi (m 4 45 ((295 + (6 * y4)) + y9))), (9, zi (y9 + 1))] i307_179 rfl rfl rfl (by omega) rfl ?_
              refine X.goto 19 i307_182 rfl rfl ?_
              exact ih z602 (m 4 45 ((343 + (6 * y4)) + y9)) (m 4 45 ((295 + (6 * y4)) + y9)) (y9 + 1) (by omega) (by omega) (by omega) (by omega)
        · refine X.iload 88 i307_86 rfl rfl rfl ?_
          refine X.goto 92 i307_88 rfl rfl ?_
          refine X.cut [(0, zr 4 44), (2, zi y2), (3, zi y3), (4, zi y4), (5, zl y5), (7, zi y7), (9, zi y9), (10, zi (m 4 45 ((295 + (6 * y4)) + y9)))] i307_92 rfl ?_
          refine X.istore 94 [(0, zr 4 44), (2, zi y2), (3, zi y3), (4, zi y4), (5, zl y5), (7, zi y7), (9, zi y9), (10, zi (m 4 45 ((295 + (6 * y4)) + y9))), (11, zi y8)] i307_92 rfl rfl rfl ?_
          refine X.iload 96 i307_94 rfl rfl rfl ?_
          refine X.iload_n 97 i307_96 rfl rfl rfl ?_
          refine X.icmpge 105 100 i307_97 rfl rfl rfl (fun h606 => (by exfalso; omega)) (fun h606 => ?_)
          refine X.iload 102 i307_100 rfl rfl rfl ?_
          refine X.goto 106 i307_102 rfl rfl ?_
          refine X.istore 108 [(0, zr 4 44), (2, zi y2), (3, zi y3), (4, zi y4), (5, zl y5), (7, zi y7), (9, zi y9), (10, zi (m 4 45 ((295 + (6 * y4)) + y9))), (11, zi y8), (12, zi (m 4 45 ((295 + (6 * y4)) + y9)))] i307_106 rfl rfl rfl ?_
          refine X.iload 110 i307_108 rfl rfl rfl ?_
          refine X.iload 112 i307_110 rfl rfl rfl ?_
          refine X.icmple 137 115 i307_112 rfl rfl rfl (fun h607 => ?_) (fun h607 => ?_)
          · refine X.cut [(0, zr 4 44), (2, zi y2), (3, zi y3), (4, zi y4), (5, zl y5), (7, zi y7), (9, zi y9), (10, zi (m 4 45 ((295 + (6 * y4)) + y9)))] i307_137 rfl ?_
            refine X.iload 139 i307_137 rfl rfl rfl ?_
            refine X.istore 141 [(0, zr 4 44), (2, zi y2), (3, zi y3), (4, zi y4), (5, zl y5), (7, zi y7), (8, zi (m 4 45 ((295 + (6 * y4)) + y9))), (9, zi y9), (10, zi (m 4 45 ((295 + (6 * y4)) + y9)))] i307_139 rfl rfl rfl ?_
            refine X.iload 143 i307_141 rfl rfl rfl ?_
            refine X.i2l 144 i307_143 rfl rfl ?_
            refine X.aload_n 145 i307_144 rfl rfl rfl ?_
            refine X.getF 148 i307_145 rfl rfl (by decide) rfl rfl ?_
            refine X.sipush 151 i307_148 rfl rfl (by decide) ?_
            refine X.iload 153 i307_151 rfl rfl rfl ?_
            refine X.iadd 154 i307_153 rfl rfl (by omega) ?_
            refine X.lald 155 i307_154 rfl rfl (by decide) rfl (by omega) ?_
            refine X.lcmp 156 i307_155 rfl rfl (fun z608 hz608 => ?_)
            refine X.ifge 179 159 i307_156 rfl rfl rfl (fun h609 => ?_) (fun h609 => ?_)
            · have h609c : y9 ≥ (m 4 45 (287 + y4)) := by omega
              clear h609 hz608
              refine X.cut [(0, zr 4 44), (2, zi y2), (3, zi y3), (4, zi y4), (5, zl y5), (7, zi y7), (8, zi (m 4 45 ((295 + (6 * y4)) + y9))), (9, zi y9)] i307_179 rfl ?_
              refine X.iinc 182 [(0, zr 4 44), (2, zi y2), (3, zi y3), (4, zi y4), (5, zl y5), (7, zi y7), (8, zi (m 4 45 ((295 + (6 * y4)) + y9))), (9, zi (y9 + 1))] i307_179 rfl rfl rfl (by omega) rfl ?_
              refine X.goto 19 i307_182 rfl rfl ?_
              exact ih y5 y7 (m 4 45 ((295 + (6 * y4)) + y9)) (y9 + 1) (by omega) (by omega) (by omega) (by omega)
            · have h609c : y9 < (m 4 45 (287 + y4)) := by omega
              clear h609 hz608
              refine X.aload_n 160 i307_159 rfl rfl rfl ?_
              refine X.getF 163 i307_160 rfl rfl (by decide) rfl rfl ?_
              refine X.sipush 166 i307_163 rfl rfl (by decide) ?_
              refine X.bipush 168 i307_166 rfl rfl (by decide) ?_
              refine X.iload 170 i307_168 rfl rfl rfl ?_
              refine X.imul 171 i307_170 rfl rfl (by omega) ?_
              refine X.iadd 172 i307_171 rfl rfl (by omega) ?_
              refine X.iload 174 i307_172 rfl rfl rfl ?_
              refine X.iadd 175 i307_174 rfl rfl (by omega) ?_
              refine X.lald 176 i307_175 rfl rfl (by decide) rfl (by omega) ?_
              have h610 := r45_343 hJ 4 (i := ((343 + (6 * y4)) + y9)) (by omega)
              refine X.l2i 177 i307_176 rfl rfl (by omega) ?_
              refine X.istore 179 [(0, zr 4 44), (2, zi y2), (3, zi y3), (4, zi y4), (5, zl y5), (7, zi (m 4 45 ((343 + (6 * y4)) + y9))), (8, zi (m 4 45 ((295 + (6 * y4)) + y9))), (9, zi y9), (10, zi (m 4 45 ((295 + (6 * y4)) + y9)))] i307_177 rfl rfl rfl ?_
              refine X.cut [(0, zr 4 44), (2, zi y2), (3, zi y3), (4, zi y4), (5, zl y5), (7, zi (m 4 45 ((343 + (6 * y4)) + y9))), (8, zi (m 4 45 ((295 + (6 * y4)) + y9))), (9, zi y9)] i307_179 rfl ?_
              refine X.iinc 182 [(0, zr 4 44), (2, zi y2), (3, zi y3), (4, zi y4), (5, zl y5), (7, zi (m 4 45 ((343 + (6 * y4)) + y9))), (8, zi (m 4 45 ((295 + (6 * y4)) + y9))), (9, zi (y9 + 1))] i307_179 rfl rfl rfl (by omega) rfl ?_
              refine X.goto 19 i307_182 rfl rfl ?_
              exact ih y5 (m 4 45 ((343 + (6 * y4)) + y9)) (m 4 45 ((295 + (6 * y4)) + y9)) (y9 + 1) (by omega) (by omega) (by omega) (by omega)
          · refine X.lload 117 i307_115 rfl rfl rfl ?_
            refine X.iload 119 i307_117 rfl rfl rfl ?_
            refine X.iload 121 i307_119 rfl rfl rfl ?_
            refine X.isub 122 i307_121 rfl rfl (by omega) ?_
            refine X.i2l 123 i307_122 rfl rfl ?_
            refine X.aload_n 124 i307_123 rfl rfl rfl ?_
            refine X.getF 127 i307_124 rfl rfl (by decide) rfl rfl ?_
            refine X.bipush 129 i307_127 rfl rfl (by decide) ?_
            refine X.iload 131 i307_129 rfl rfl rfl ?_
            refine X.iadd 132 i307_131 rfl rfl (by omega) ?_
            refine X.lald 133 i307_132 rfl rfl (by decide) rfl (by omega) ?_
            refine X.llF 134 .lmul (fun x y => x * y) i307_133 rfl rfl rfl (fun _ _ => rfl) (fun z611 hz611 => ?_)
            refine X.llF 135 .ladd (fun x y => x + y) i307_134 rfl rfl rfl (fun _ _ => rfl) (fun z612 hz612 => ?_)
            refine X.lstore 137 [(0, zr 4 44), (2, zi y2), (3, zi y3), (4, zi y4), (5, zl z612), (7, zi y7), (9, zi y9), (10, zi (m 4 45 ((295 + (6 * y4)) + y9))), (11, zi y8), (12, zi (m 4 45 ((295 + (6 * y4)) + y9)))] i307_135 rfl rfl rfl ?_
            refine X.cut [(0, zr 4 44), (2, zi y2), (3, zi y3), (4, zi y4), (5, zl z612), (7, zi y7), (9, zi y9), (10, zi (m 4 45 ((295 + (6 * y4)) + y9)))] i307_137 rfl ?_
            refine X.iload 139 i307_137 rfl rfl rfl ?_
            refine X.istore 141 [(0, zr 4 44), (2, zi y2), (3, zi y3), (4, zi y4), (5, zl z612), (7, zi y7), (8, zi (m 4 45 ((295 + (6 * y4)) + y9))), (9, zi y9), (10, zi (m 4 45 ((295 + (6 * y4)) + y9)))] i307_139 rfl rfl rfl ?_
            refine X.iload 143 i307_141 rfl rfl rfl ?_
            refine X.i2l 144 i307_143 rfl rfl ?_
            refine X.aload_n 145 i307_144 rfl rfl rfl ?_
            refine X.getF 148 i307_145 rfl rfl (by decide) rfl rfl ?_
            refine X.sipush 151 i307_148 rfl rfl (by decide) ?_
            refine X.iload 153 i307_151 rfl rfl rfl ?_
            refine X.iadd 154 i307_153 rfl rfl (by omega) ?_
            refine X.lald 155 i307_154 rfl rfl (by decide) rfl (by omega) ?_
            refine X.lcmp 156 i307_155 rfl rfl (fun z613 hz613 => ?_)
            refine X.ifge 179 159 i307_156 rfl rfl rfl (fun h614 => ?_) (fun h614 => ?_)
            · have h614c : y9 ≥ (m 4 45 (287 + y4)) := by omega
              clear h614 hz613
              refine X.cut [(0, zr 4 44), (2, zi y2), (3, zi y3), (4, zi y4), (5, zl z612), (7, zi y7), (8, zi (m 4 45 ((295 + (6 * y4)) + y9))), (9, zi y9)] i307_179 rfl ?_
              refine X.iinc 182 [(0, zr 4 44), (2, zi y2), (3, zi y3), (4, zi y4), (5, zl z612), (7, zi y7), (8, zi (m 4 45 ((295 + (6 * y4)) + y9))), (9, zi (y9 + 1))] i307_179 rfl rfl rfl (by omega) rfl ?_
              refine X.goto 19 i307_182 rfl rfl ?_
              exact ih z612 y7 (m 4 45 ((295 + (6 * y4)) + y9)) (y9 + 1) (by omega) (by omega) (by omega) (by omega)
            · have h614c : y9 < (m 4 45 (287 + y4)) := by omega
              clear h614 hz613
              refine X.aload_n 160 i307_159 rfl rfl rfl ?_
              refine X.getF 163 i307_160 rfl rfl (by decide) rfl rfl ?_
              refine X.sipush 166 i307_163 rfl rfl (by decide) ?_
              refine X.bipush 168 i307_166 rfl rfl (by decide) ?_
              refine X.iload 170 i307_168 rfl rfl rfl ?_
              refine X.imul 171 i307_170 rfl rfl (by omega) ?_
              refine X.iadd 172 i307_171 rfl rfl (by omega) ?_
              refine X.iload 174 i307_172 rfl rfl rfl ?_
              refine X.iadd 175 i307_174 rfl rfl (by omega) ?_
              refine X.lald 176 i307_175 rfl rfl (by decide) rfl (by omega) ?_
              have h615 := r45_343 hJ 4 (i := ((343 + (6 * y4)) + y9)) (by omega)
              refine X.l2i 177 i307_176 rfl rfl (by omega) ?_
              refine X.istore 179 [(0, zr 4 44), (2, zi y2), (3, zi y3), (4, zi y4), (5, zl z612), (7, zi (m 4 45 ((343 + (6 * y4)) + y9))), (8, zi (m 4 45 ((295 + (6 * y4)) + y9))), (9, zi y9), (10, zi (m 4 45 ((295 + (6 * y4)) + y9)))] i307_177 rfl rfl rfl ?_
              refine X.cut [(0, zr 4 44), (2, zi y2), (3, zi y3), (4, zi y4), (5, zl z612), (7, zi (m 4 45 ((343 + (6 * y4)) + y9))), (8, zi (m 4 45 ((295 + (6 * y4)) + y9))), (9, zi y9)] i307_179 rfl ?_
              refine X.iinc 182 [(0, zr 4 44), (2, zi y2), (3, zi y3), (4, zi y4), (5, zl z612), (7, zi (m 4 45 ((343 + (6 * y4)) + y9))), (8, zi (m 4 45 ((295 + (6 * y4)) + y9))), (9, zi (y9 + 1))] i307_179 rfl rfl rfl (by omega) rfl ?_
              refine X.goto 19 i307_182 rfl rfl ?_
              exact ih z612 (m 4 45 ((343 + (6 * y4)) + y9)) (m 4 45 ((295 + (6 * y4)) + y9)) (y9 + 1) (by omega) (by omega) (by omega) (by omega)
-- WorkMeterModel.costOfDay
theorem c307_1 {s : Nat × (Nat → Int32)} {S : zS} {m0 m : zM} {B : Int} {d : Nat} {Q : Option zV → zM → Prop} (a1 a2 a3 : Int) (hd : 15 ≤ d) (hJ : J S m0 B m) (hB : B + 0 ≤ 1000000000) (ha1 : 0 ≤ a1 ∧ a1 ≤ 23149) (ha2 : 0 ≤ a2 ∧ a2 ≤ 86399) (ha3 : 86400 ≤ a3 ∧ a3 ≤ 86400) (hQ : ∀ (v : Int), (True) → Q (some (zl v)) m) : X (EE s) d 307 0 [(0, zr 4 44), (1, zi a1), (2, zi a2), (3, zi a3)] [] m Q := by
  refine X.aload_n 1 i307_0 rfl rfl rfl ?_
  refine X.iload_n 2 i307_1 rfl rfl rfl ?_
  refine X.callv 5 [zi a1] [] [(0, zr 4 44), (1, zi a1)] i307_2 rfl (by decide) rfl rfl (by omega) rfl rfl (by decide) rfl t218 (Nat.le_of_ble_eq_true rfl) (Nat.le_of_ble_eq_true rfl) rfl ?_
  refine c218_1 (B := B)  a1 (by omega) (hJ.up (by omega)) (by omega) (by omega) (fun v503 hv503 => ?_)
  show X (EE s) d 307 5 [(0, zr 4 44), (1, zi a1), (2, zi a2), (3, zi a3)] [zi v503] m _
  refine X.istore 7 [(0, zr 4 44), (1, zi a1), (2, zi a2), (3, zi a3), (4, zi v503)] i307_5 rfl rfl rfl ?_
  refine X.lconst (y := 0) 8 i307_7 rfl rfl rfl ?_
  refine X.lstore 10 [(0, zr 4 44), (1, zi a1), (2, zi a2), (3, zi a3), (4, zi v503), (5, zl 0)] i307_8 rfl rfl rfl ?_
  refine X.iconst 11 i307_10 rfl rfl (by decide) ?_
  refine X.istore 13 [(0, zr 4 44), (1, zi a1), (2, zi a2), (3, zi a3), (4, zi v503), (5, zl 0), (7, zi 0)] i307_11 rfl rfl rfl ?_
  refine X.iconst 14 i307_13 rfl rfl (by decide) ?_
  refine X.istore 16 [(0, zr 4 44), (1, zi a1), (2, zi a2), (3, zi a3), (4, zi v503), (5, zl 0), (7, zi 0), (8, zi 0)] i307_14 rfl rfl rfl ?_
  refine X.iconst 17 i307_16 rfl rfl (by decide) ?_
  refine X.istore 19 [(0, zr 4 44), (1, zi a1), (2, zi a2), (3, zi a3), (4, zi v503), (5, zl 0), (7, zi 0), (8, zi 0), (9, zi 0)] i307_17 rfl rfl rfl ?_
  refine X.cut [(0, zr 4 44), (2, zi a2), (3, zi a3), (4, zi v503), (5, zl 0), (7, zi 0), (8, zi 0), (9, zi 0)] i307_19 rfl ?_
  refine l307_19_1 (s := s) (S := S) (m0 := m0) (m := m) (B := B) (d := d)  a2 a3 v503 (by omega) (hJ.up (by omega)) (by omega) (by omega) (by omega) (by omega) (fun y504 hby504 => ?_) ((7 - 0 : Int).toNat + 1) 0 0 0 0 (by omega) (by omega) (by omega) (by omega)
  refine X.lload 187 i307_185 rfl rfl rfl ?_
  refine X.retl i307_187 rfl t307 ?_
  exact hQ y504 (by first | trivial | omega) 
theorem l307_19_2 {s : Nat × (Nat → Int32)} {S : zS} {m0 m : zM} {B : Int} {d : Nat} {Q : Option zV → zM → Prop} (y2 y3 y4 : Int) (hd : 13 ≤ d) (hJ : J S m0 B m) (hB9 : B ≤ 1000000000) (hy2 : 0 ≤ y2 ∧ y2 ≤ 86399) (hy3 : (-2000073599) ≤ y3 ∧ y3 ≤ 86399) (hy4 : 0 ≤ y4 ∧ y4 ≤ 7)
    (K185 : ∀ (x5 : Int) , (True) → X (EE s) d 307 185 [(5, zl x5)] [] m Q) :
    ∀ (n : Nat) (y5 y7 y8 y9 : Int) , (0 ≤ y7 ∧ y7 ≤ 3) → (0 ≤ y8 ∧ y8 ≤ 86400) → (0 ≤ y9 ∧ y9 ≤ 7) → 7 - y9 < (n : Int) → X (EE s) d 307 19 [(0, zr 4 44), (2, zi y2), (3, zi y3), (4, zi y4), (5, zl y5), (7, zi y7), (8, zi y8), (9, zi y9)] [] m Q := by
  intro n
  induction n with
  | zero =>
    intro y5 y7 y8 y9 hy7 hy8 hy9 hn
    exfalso
    omega
  | succ n ih =>
    intro y5 y7 y8 y9 hy7 hy8 hy9 hn
    refine X.iload 21 i307_19 rfl rfl rfl ?_
    refine X.i2l 22 i307_21 rfl rfl ?_
    refine X.aload_n 23 i307_22 rfl rfl rfl ?_
    refine X.getF 26 i307_23 rfl rfl (by decide) rfl rfl ?_
    refine X.sipush 29 i307_26 rfl rfl (by decide) ?_
    refine X.iload 31 i307_29 rfl rfl rfl ?_
    refine X.iadd 32 i307_31 rfl rfl (by omega) ?_
    refine X.lald 33 i307_32 rfl rfl (by decide) rfl (by omega) ?_
    have h603 := r45_287 hJ 4 (i := (287 + y4)) (by omega)
    refine X.lcmp 34 i307_33 rfl rfl (fun z604 hz604 => ?_)
    refine X.ifgt 185 37 i307_34 rfl rfl rfl (fun h605 => ?_) (fun h605 => ?_)
    · have h605c : y9 > (m 4 45 (287 + y4)) := by omega
      clear h605 hz604
      refine X.cut [(5, zl y5)] i307_185 rfl ?_
      exact K185 y5 (by first | trivial | omega)
    · have h605c : y9 ≤ (m 4 45 (287 + y4)) := by omega
      clear h605 hz604
      refine X.iload 39 i307_37 rfl rfl rfl ?_
      refine X.i2l 40 i307_39 rfl rfl ?_
      refine X.aload_n 41 i307_40 rfl rfl rfl ?_
      refine X.getF 44 i307_41 rfl rfl (by decide) rfl rfl ?_
      refine X.sipush 47 i307_44 rfl rfl (by decide) ?_
      refine X.iload 49 i307_47 rfl rfl rfl ?_
      refine X.iadd 50 i307_49 rfl rfl (by omega) ?_
      refine X.lald 51 i307_50 rfl rfl (by decide) rfl (by omega) ?_
      refine X.lcmp 52 i307_51 rfl rfl (fun z606 hz606 => ?_)
      refine X.ifge 76 55 i307_52 rfl rfl rfl (fun h607 => ?_) (fun h607 => ?_)
      · have h607c : y9 ≥ (m 4 45 (287 + y4)) := by omega
        clear h607 hz606
        refine X.ldc 78 i307_76 rfl rfl (by decide) ?_
        refine X.istore 80 [(0, zr 4 44), (2, zi y2), (3, zi y3), (4, zi y4), (5, zl y5), (7, zi y7), (8, zi y8), (9, zi y9), (10, zi 86400)] i307_78 rfl rfl rfl ?_
        refine X.iload 82 i307_80 rfl rfl rfl ?_
        refine X.iload_n 83 i307_82 rfl rfl rfl ?_
        refine X.icmple 91 86 i307_83 rfl rfl rfl (fun h608 => ?_) (fun h608 => ?_)
        · refine X.cut [(0, zr 4 44), (2, zi y2), (3, zi y3), (4, zi y4), (5, zl y5), (7, zi y7), (9, zi y9), (10, zi 86400)] i307_91 rfl ?_
          refine X.iload_n 92 i307_91 rfl rfl rfl ?_
          refine X.istore 94 [(0, zr 4 44), (2, zi y2), (3, zi y3), (4, zi y4), (5, zl y5), (7, zi y7), (9, zi y9), (10, zi 86400), (11, zi y2)] i307_92 rfl rfl rfl ?_
          refine X.iload 96 i307_94 rfl rfl rfl ?_
          refine X.iload_n 97 i307_96 rfl rfl rfl ?_
          refine X.icmpge 105 100 i307_97 rfl rfl rfl (fun h609 => ?_) (fun h609 => (by exfalso; omega))
          refine X.iload_n 106 i307_105 rfl rfl rfl ?_
          refine X.istore 108 [(0, zr 4 44), (2, zi y2), (3, zi y3), (4, zi y4), (5, zl y5), (7, zi y7), (9, zi y9), (10, zi 86400), (11, zi y2), (12, zi y3)] i307_106 rfl rfl rfl ?_
          refine X.iload 110 i307_108 rfl rfl rfl ?_
          refine X.iload 112 i307_110 rfl rfl rfl ?_
          refine X.icmple 137 115 i307_112 rfl rfl rfl (fun h610 => ?_) (fun h610 => ?_)
          · refine X.cut [(0, zr 4 44), (2, zi y2), (3, zi y3), (4, zi y4), (5, zl y5), (7, zi y7), (9, zi y9), (10, zi 86400)] i307_137 rfl ?_
            refine X.iload 139 i307_137 rfl rfl rfl ?_
            refine X.istore 141 [(0, zr 4 44), (2, zi y2), (3, zi y3), (4, zi y4), (5, zl y5), (7, zi y7), (8, zi 86400), (9, zi y9), (10, zi 86400)] i307_139 rfl rfl rfl ?_
            refine X.iload 143 i307_141 rfl rfl rfl ?_
            refine X.i2l 144 i307_143 rfl rfl ?_
            refine X.aload_n 145 i307_144 rfl rfl rfl ?_
            refine X.getF 148 i307_145 rfl rfl (by decide) rfl rfl ?_
            refine X.sipush 151 i307_148 rfl rfl (by decide) ?_
            refine X.iload 153 i307_151 rfl rfl rfl ?_
            refine X.iadd 154 i307_153 rfl rfl (by omega) ?_
            refine X.lald 155 i307_154 rfl rfl (by decide) rfl (by omega) ?_
            refine X.lcmp 156 i307_155 rfl rfl (fun z611 hz611 => ?_)
            refine X.ifge 179 159 i307_156 rfl rfl rfl (fun h612 => ?_) (fun h612 => ?_)
            · have h612c : y9 ≥ (m 4 45 (287 + y4)) := by omega
              clear h612 hz611
              refine X.cut [(0, zr 4 44), (2, zi y2), (3, zi y3), (4, zi y4), (5, zl y5), (7, zi y7), (8, zi 86400), (9, zi y9)] i307_179 rfl ?_
              refine X.iinc 182 [(0, zr 4 44), (2, zi y2), (3, zi y3), (4, zi y4), (5, zl y5), (7, zi y7), (8, zi 86400), (9, zi (y9 + 1))] i307_179 rfl rfl rfl (by omega) rfl ?_
              refine X.goto 19 i307_182 rfl rfl ?_
              exact ih y5 y7 86400 (y9 + 1) (by omega) (by omega) (by omega) (by omega)
            · have h612c : y9 < (m 4 45 (287 + y4)) := by omega
              clear h612 hz611
              refine X.aload_n 160 i307_159 rfl rfl rfl ?_
              refine X.getF 163 i307_160 rfl rfl (by decide) rfl rfl ?_
              refine X.sipush 166 i307_163 rfl rfl (by decide) ?_
              refine X.bipush 168 i307_166 rfl rfl (by decide) ?_
              refine X.iload 170 i307_168 rfl rfl rfl ?_
              refine X.imul 171 i307_170 rfl rfl (by omega) ?_
              refine X.iadd 172 i307_171 rfl rfl (by omega) ?_
              refine X.iload 174 i307_172 rfl rfl rfl ?_
              refine X.iadd 175 i307_174 rfl rfl (by omega) ?_
              refine X.lald 176 i307_175 rfl rfl (by decide) rfl (by omega) ?_
              have h613 := r45_343 hJ 4 (i := ((343 + (6 * y4)) + y9)) (by omega)
              refine X.l2i 177 i307_176 rfl rfl (by omega) ?_
              refine X.istore 179 [(0, zr 4 44), (2, zi y2), (3, zi y3), (4, zi y4), (5, zl y5), (7, zi (m 4 45 ((343 + (6 * y4)) + y9))), (8, zi 86400), (9, zi y9), (10, zi 86400)] i307_177 rfl rfl rfl ?_
              refine X.cut [(0, zr 4 44), (2, zi y2), (3, zi y3), (4, zi y4), (5, zl y5), (7, zi (m 4 45 ((343 + (6 * y4)) + y9))), (8, zi 86400), (9, zi y9)] i307_179 rfl ?_
              refine X.iinc 182 [(0, zr 4 44), (2, zi y2), (3, zi y3), (4, zi y4), (5, zl y5), (7, zi (m 4 45 ((343 + (6 * y4)) + y9))), (8, zi 86400), (9, zi (y9 + 1))] i307_179 rfl rfl rfl (by omega) rfl ?_
              refine X.goto 19 i307_182 rfl rfl ?_
              exact ih y5 (m 4 45 ((343 + (6 * y4)) + y9)) 86400 (y9 + 1) (by omega) (by omega) (by omega) (by omega)
          · refine X.lload 117 i307_115 rfl rfl rfl ?_
            refine X.iload 119 i307_117 rfl rfl rfl ?_
            refine X.iload 121 i307_119 rfl rfl rfl ?_
            refine X.isub 122 i307_121 rfl rfl (by omega) ?_
            refine X.i2l 123 i307_122 rfl rfl ?_
            refine X.aload_n 124 i307_123 rfl rfl rfl ?_
            refine X.getF 127 i307_124 rfl rfl (by decide) rfl rfl ?_
            refine X.bipush 129 i307_127 rfl rfl (by decide) ?_
            refine X.iload 131 i307_129 rfl rfl rfl ?_
            refine X.iadd 132 i307_131 rfl rfl (by omega) ?_
            refine X.lald 133 i307_132 rfl rfl (by decide) rfl (by omega) ?_
            refine X.llF 134 .lmul (fun x y => x * y) i307_133 rfl rfl rfl (fun _ _ => rfl) (fun z614 hz614 => ?_)
            refine X.llF 135 .ladd (fun x y => x + y) i307_134 rfl rfl rfl (fun _ _ => rfl) (fun z615 hz615 => ?_)
            refine X.lstore 137 [(0, zr 4 44), (2, zi y2), (3, zi y3), (4, zi y4), (5, zl z615), (7, zi y7), (9, zi y9), (10, zi 86400), (11, zi y2), (12, zi y3)] i307_135 rfl rfl rfl ?_
            refine X.cut [(0, zr 4 44), (2, zi y2), (3, zi y3), (4, zi y4), (5, zl z615), (7, zi y7), (9, zi y9), (10, zi 86400)] i307_137 rfl ?_
            refine X.iload 139 i307_137 rfl rfl rfl ?_
            refine X.istore 141 [(0, zr 4 44), (2, zi y2), (3, zi y3), (4, zi y4), (5, zl z615), (7, zi y7), (8, zi 86400), (9, zi y9), (10, zi 86400)] i307_139 rfl rfl rfl ?_
            refine X.iload 143 i307_141 rfl rfl rfl ?_
            refine X.i2l 144 i307_143 rfl rfl ?_
            refine X.aload_n 145 i307_144 rfl rfl rfl ?_
            refine X.getF 148 i307_145 rfl rfl (by decide) rfl rfl ?_
            refine X.sipush 151 i307_148 rfl rfl (by decide) ?_
            refine X.iload 153 i307_151 rfl rfl rfl ?_
            refine X.iadd 154 i307_153 rfl rfl (by omega) ?_
            refine X.lald 155 i307_154 rfl rfl (by decide) rfl (by omega) ?_
            refine X.lcmp 156 i307_155 rfl rfl (fun z616 hz616 => ?_)
            refine X.ifge 179 159 i307_156 rfl rfl rfl (fun h617 => ?_) (fun h617 => ?_)
            · have h617c : y9 ≥ (m 4 45 (287 + y4)) := by omega
              clear h617 hz616
              refine X.cut [(0, zr 4 44), (2, zi y2), (3, zi y3), (4, zi y4), (5, zl z615), (7, zi y7), (8, zi 86400), (9, zi y9)] i307_179 rfl ?_
              refine X.iinc 182 [(0, zr 4 44), (2, zi y2), (3, zi y3), (4, zi y4), (5, zl z615), (7, zi y7), (8, zi 86400), (9, zi (y9 + 1))] i307_179 rfl rfl rfl (by omega) rfl ?_
              refine X.goto 19 i307_182 rfl rfl ?_
              exact ih z615 y7 86400 (y9 + 1) (by omega) (by omega) (by omega) (by omega)
            · have h617c : y9 < (m 4 45 (287 + y4)) := by omega
              clear h617 hz616
              refine X.aload_n 160 i307_159 rfl rfl rfl ?_
              refine X.getF 163 i307_160 rfl rfl (by decide) rfl rfl ?_
              refine X.sipush 166 i307_163 rfl rfl (by decide) ?_
              refine X.bipush 168 i307_166 rfl rfl (by decide) ?_
              refine X.iload 170 i307_168 rfl rfl rfl ?_
              refine X.imul 171 i307_170 rfl rfl (by omega) ?_
              refine X.iadd 172 i307_171 rfl rfl (by omega) ?_
              refine X.iload 174 i307_172 rfl rfl rfl ?_
              refine X.iadd 175 i307_174 rfl rfl (by omega) ?_
              refine X.lald 176 i307_175 rfl rfl (by decide) rfl (by omega) ?_
              have h618 := r45_343 hJ 4 (i := ((343 + (6 * y4)) + y9)) (by omega)
              refine X.l2i 177 i307_176 rfl rfl (by omega) ?_
              refine X.istore 179 [(0, zr 4 44), (2, zi y2), (3, zi y3), (4, zi y4), (5, zl z615), (7, zi (m 4 45 ((343 + (6 * y4)) + y9))), (8, zi 86400), (9, zi y9), (10, zi 86400)] i307_177 rfl rfl rfl ?_
              refine X.cut [(0, zr 4 44), (2, zi y2), (3, zi y3), (4, zi y4), (5, zl z615), (7, zi (m 4 45 ((343 + (6 * y4)) + y9))), (8, zi 86400), (9, zi y9)] i307_179 rfl ?_
              refine X.iinc 182 [(0, zr 4 44), (2, zi y2), (3, zi y3), (4, zi y4), (5, zl z615), (7, zi (m 4 45 ((343 + (6 * y4)) + y9))), (8, zi 86400), (9, zi (y9 + 1))] i307_179 rfl rfl rfl (by omega) rfl ?_
              refine X.goto 19 i307_182 rfl rfl ?_
              exact ih z615 (m 4 45 ((343 + (6 * y4)) + y9)) 86400 (y9 + 1) (by omega) (by omega) (by omega) (by omega)
        · refine X.iload 88 i307_86 rfl rfl rfl ?_
          refine X.goto 92 i307_88 rfl rfl ?_
          refine X.cut [(0, zr 4 44), (2, zi y2), (3, zi y3), (4, zi y4), (5, zl y5), (7, zi y7), (9, zi y9), (10, zi 86400)] i307_92 rfl ?_
          refine X.istore 94 [(0, zr 4 44), (2, zi y2), (3, zi y3), (4, zi y4), (5, zl y5), (7, zi y7), (9, zi y9), (10, zi 86400), (11, zi y8)] i307_92 rfl rfl rfl ?_
          refine X.iload 96 i307_94 rfl rfl rfl ?_
          refine X.iload_n 97 i307_96 rfl rfl rfl ?_
          refine X.icmpge 105 100 i307_97 rfl rfl rfl (fun h619 => ?_) (fun h619 => (by exfalso; omega))
          refine X.iload_n 106 i307_105 rfl rfl rfl ?_
          refine X.istore 108 [(0, zr 4 44), (2, zi y2), (3, zi y3), (4, zi y4), (5, zl y5), (7, zi y7), (9, zi y9), (10, zi 86400), (11, zi y8), (12, zi y3)] i307_106 rfl rfl rfl ?_
          refine X.iload 110 i307_108 rfl rfl rfl ?_
          refine X.iload 112 i307_110 rfl rfl rfl ?_
          refine X.icmple 137 115 i307_112 rfl rfl rfl (fun h620 => ?_) (fun h620 => ?_)
          · refine X.cut [(0, zr 4 44), (2, zi y2), (3, zi y3), (4, zi y4), (5, zl y5), (7, zi y7), (9, zi y9), (10, zi 86400)] i307_137 rfl ?_
            refine X.iload 139 i307_137 rfl rfl rfl ?_
            refine X.istore 141 [(0, zr 4 44), (2, zi y2), (3, zi y3), (4, zi y4), (5, zl y5), (7, zi y7), (8, zi 86400), (9, zi y9), (10, zi 86400)] i307_139 rfl rfl rfl ?_
            refine X.iload 143 i307_141 rfl rfl rfl ?_
            refine X.i2l 144 i307_143 rfl rfl ?_
            refine X.aload_n 145 i307_144 rfl rfl rfl ?_
            refine X.getF 148 i307_145 rfl rfl (by decide) rfl rfl ?_
            refine X.sipush 151 i307_148 rfl rfl (by decide) ?_
            refine X.iload 153 i307_151 rfl rfl rfl ?_
            refine X.iadd 154 i307_153 rfl rfl (by omega) ?_
            refine X.lald 155 i307_154 rfl rfl (by decide) rfl (by omega) ?_
            refine X.lcmp 156 i307_155 rfl rfl (fun z621 hz621 => ?_)
            refine X.ifge 179 159 i307_156 rfl rfl rfl (fun h622 => ?_) (fun h622 => ?_)
            · have h622c : y9 ≥ (m 4 45 (287 + y4)) := by omega
              clear h622 hz621
              refine X.cut [(0, zr 4 44), (2, zi y2), (3, zi y3), (4, zi y4), (5, zl y5), (7, zi y7), (8, zi 86400), (9, zi y9)] i307_179 rfl ?_
              refine X.iinc 182 [(0, zr 4 44), (2, zi y2), (3, zi y3), (4, zi y4), (5, zl y5), (7, zi y7), (8, zi 86400), (9, zi (y9 + 1))] i307_179 rfl rfl rfl (by omega) rfl ?_
              refine X.goto 19 i307_182 rfl rfl ?_
              exact ih y5 y7 86400 (y9 + 1) (by omega) (by omega) (by omega) (by omega)
            · have h622c : y9 < (m 4 45 (287 + y4)) := by omega
              clear h622 hz621
              refine X.aload_n 160 i307_159 rfl rfl rfl ?_
              refine X.getF 163 i307_160 rfl rfl (by decide) rfl rfl ?_
              refine X.sipush 166 i307_163 rfl rfl (by decide) ?_
              refine X.bipush 168 i307_166 rfl rfl (by decide) ?_
              refine X.iload 170 i307_168 rfl rfl rfl ?_
              refine X.imul 171 i307_170 rfl rfl (by omega) ?_
              refine X.iadd 172 i307_171 rfl rfl (by omega) ?_
              refine X.iload 174 i307_172 rfl rfl rfl ?_
              refine X.iadd 175 i307_174 rfl rfl (by omega) ?_
              refine X.lald 176 i307_175 rfl rfl (by decide) rfl (by omega) ?_
              have h623 := r45_343 hJ 4 (i := ((343 + (6 * y4)) + y9)) (by omega)
              refine X.l2i 177 i307_176 rfl rfl (by omega) ?_
              refine X.istore 179 [(0, zr 4 44), (2, zi y2), (3, zi y3), (4, zi y4), (5, zl y5), (7, zi (m 4 45 ((343 + (6 * y4)) + y9))), (8, zi 86400), (9, zi y9), (10, zi 86400)] i307_177 rfl rfl rfl ?_
              refine X.cut [(0, zr 4 44), (2, zi y2), (3, zi y3), (4, zi y4), (5, zl y5), (7, zi (m 4 45 ((343 + (6 * y4)) + y9))), (8, zi 86400), (9, zi y9)] i307_179 rfl ?_
              refine X.iinc 182 [(0, zr 4 44), (2, zi y2), (3, zi y3), (4, zi y4), (5, zl y5), (7, zi (m 4 45 ((343 + (6 * y4)) + y9))), (8, zi 86400), (9, zi (y9 + 1))] i307_179 rfl rfl rfl (by omega) rfl ?_
              refine X.goto 19 i307_182 rfl rfl ?_
              exact ih y5 (m 4 45 ((343 + (6 * y4)) + y9)) 86400 (y9 + 1) (by omega) (by omega) (by omega) (by omega)
          · refine X.lload 117 i307_115 rfl rfl rfl ?_
            refine X.iload 119 i307_117 rfl rfl rfl ?_
            refine X.iload 121 i307_119 rfl rfl rfl ?_
            refine X.isub 122 i307_121 rfl rfl (by omega) ?_
            refine X.i2l 123 i307_122 rfl rfl ?_
            refine X.aload_n 124 i307_123 rfl rfl rfl ?_
            refine X.getF 127 i307_124 rfl rfl (by decide) rfl rfl ?_
            refine X.bipush 129 i307_127 rfl rfl (by decide) ?_
            refine X.iload 131 i307_129 rfl rfl rfl ?_
            refine X.iadd 132 i307_131 rfl rfl (by omega) ?_
            refine X.lald 133 i307_132 rfl rfl (by decide) rfl (by omega) ?_
            refine X.llF 134 .lmul (fun x y => x * y) i307_133 rfl rfl rfl (fun _ _ => rfl) (fun z624 hz624 => ?_)
            refine X.llF 135 .ladd (fun x y => x + y) i307_134 rfl rfl rfl (fun _ _ => rfl) (fun z625 hz625 => ?_)
            refine X.lstore 137 [(0, zr 4 44), (2, zi y2), (3, zi y3), (4, zi y4), (5, zl z625), (7, zi y7), (9, zi y9), (10, zi 86400), (11, zi y8), (12, zi y3)] i307_135 rfl rfl rfl ?_
            refine X.cut [(0, zr 4 44), (2, zi y2), (3, zi y3), (4, zi y4), (5, zl z625), (7, zi y7), (9, zi y9), (10, zi 86400)] i307_137 rfl ?_
            refine X.iload 139 i307_137 rfl rfl rfl ?_
            refine X.istore 141 [(0, zr 4 44), (2, zi y2), (3, zi y3), (4, zi y4), (5, zl z625), (7, zi y7), (8, zi 86400), (9, zi y9), (10, zi 86400)] i307_139 rfl rfl rfl ?_
            refine X.iload 143 i307_141 rfl rfl rfl ?_
            refine X.i2l 144 i307_143 rfl rfl ?_
            refine X.aload_n 145 i307_144 rfl rfl rfl ?_
            refine X.getF 148 i307_145 rfl rfl (by decide) rfl rfl ?_
            refine X.sipush 151 i307_148 rfl rfl (by decide) ?_
            refine X.iload 153 i307_151 rfl rfl rfl ?_
            refine X.iadd 154 i307_153 rfl rfl (by omega) ?_
            refine X.lald 155 i307_154 rfl rfl (by decide) rfl (by omega) ?_
            refine X.lcmp 156 i307_155 rfl rfl (fun z626 hz626 => ?_)
            refine X.ifge 179 159 i307_156 rfl rfl rfl (fun h627 => ?_) (fun h627 => ?_)
            · have h627c : y9 ≥ (m 4 45 (287 + y4)) := by omega
              clear h627 hz626
              refine X.cut [(0, zr 4 44), (2, zi y2), (3, zi y3), (4, zi y4), (5, zl z625), (7, zi y7), (8, zi 86400), (9, zi y9)] i307_179 rfl ?_
              refine X.iinc 182 [(0, zr 4 44), (2, zi y2), (3, zi y3), (4, zi y4), (5, zl z625), (7, zi y7), (8, zi 86400), (9, zi (y9 + 1))] i307_179 rfl rfl rfl (by omega) rfl ?_
              refine X.goto 19 i307_182 rfl rfl ?_
              exact ih z625 y7 86400 (y9 + 1) (by omega) (by omega) (by omega) (by omega)
            · have h627c : y9 < (m 4 45 (287 + y4)) := by omega
              clear h627 hz626
              refine X.aload_n 160 i307_159 rfl rfl rfl ?_
              refine X.getF 163 i307_160 rfl rfl (by decide) rfl rfl ?_
              refine X.sipush 166 i307_163 rfl rfl (by decide) ?_
              refine X.bipush 168 i307_166 rfl rfl (by decide) ?_
              refine X.iload 170 i307_168 rfl rfl rfl ?_
              refine X.imul 171 i307_170 rfl rfl (by omega) ?_
              refine X.iadd 172 i307_171 rfl rfl (by omega) ?_
              refine X.iload 174 i307_172 rfl rfl rfl ?_
              refine X.iadd 175 i307_174 rfl rfl (by omega) ?_
              refine X.lald 176 i307_175 rfl rfl (by decide) rfl (by omega) ?_
              have h628 := r45_343 hJ 4 (i := ((343 + (6 * y4)) + y9)) (by omega)
              refine X.l2i 177 i307_176 rfl rfl (by omega) ?_
              refine X.istore 179 [(0, zr 4 44), (2, zi y2), (3, zi y3), (4, zi y4), (5, zl z625), (7, zi (m 4 45 ((343 + (6 * y4)) + y9))), (8, zi 86400), (9, zi y9), (10, zi 86400)] i307_177 rfl rfl rfl ?_
              refine X.cut [(0, zr 4 44), (2, zi y2), (3, zi y3), (4, zi y4), (5, zl z625), (7, zi (m 4 45 ((343 + (6 * y4)) + y9))), (8, zi 86400), (9, zi y9)] i307_179 rfl ?_
              refine X.iinc 182 [(0, zr 4 44), (2, zi y2), (3, zi y3), (4, zi y4), (5, zl z625), (7, zi (m 4 45 ((343 + (6 * y4)) + y9))), (8, zi 86400), (9, zi (y9 + 1))] i307_179 rfl rfl rfl (by omega) rfl ?_
              refine X.goto 19 i307_182 rfl rfl ?_
              exact ih z625 (m 4 45 ((343 + (6 * y4)) + y9)) 86400 (y9 + 1) (by omega) (by omega) (by omega) (by omega)
      · have h607c : y9 < (m 4 45 (287 + y4)) := by omega
        clear h607 hz606
        refine X.aload_n 56 i307_55 rfl rfl rfl ?_
        refine X.getF 59 i307_56 rfl rfl (by decide) rfl rfl ?_
        refine X.sipush 62 i307_59 rfl rfl (by decide) ?_
        refine X.bipush 64 i307_62 rfl rfl (by decide) ?_
        refine X.iload 66 i307_64 rfl rfl rfl ?_
        refine X.imul 67 i307_66 rfl rfl (by omega) ?_
        refine X.iadd 68 i307_67 rfl rfl (by omega) ?_
        refine X.iload 70 i307_68 rfl rfl rfl ?_
        refine X.iadd 71 i307_70 rfl rfl (by omega) ?_
        refine X.lald 72 i307_71 rfl rfl (by decide) rfl (by omega) ?_
        have h629 := r45_295 hJ 4 (i := ((295 + (6 * y4)) + y9)) (by omega)
        refine X.l2i 73 i307_72 rfl rfl (by omega) ?_
        refine X.goto 78 i307_73 rfl rfl ?_
        refine X.istore 80 [(0, zr 4 44), (2, zi y2), (3, zi y3), (4, zi y4), (5, zl y5), (7, zi y7), (8, zi y8), (9, zi y9), (10, zi (m 4 45 ((295 + (6 * y4)) + y9)))] i307_78 rfl rfl rfl ?_
        refine X.iload 82 i307_80 rfl rfl rfl ?_
        refine X.iload_n 83 i307_82 rfl rfl rfl ?_
        refine X.icmple 91 86 i307_83 rfl rfl rfl (fun h630 => ?_) (fun h630 => ?_)
        · refine X.cut [(0, zr 4 44), (2, zi y2), (3, zi y3), (4, zi y4), (5, zl y5), (7, zi y7), (9, zi y9), (10, zi (m 4 45 ((295 + (6 * y4)) + y9)))] i307_91 rfl ?_
          refine X.iload_n 92 i307_91 rfl rfl rfl ?_
          refine X.istore 94 [(0, zr 4 44), (2, zi y2), (3, zi y3), (4, zi y4), (5, zl y5), (7, zi y7), (9, zi y9), (10, zi (m 4 45 ((295 + (6 * y4)) + y9))), (11, zi y2)] i307_92 rfl rfl rfl ?_
          refine X.iload 96 i307_94 rfl rfl rfl ?_
          refine X.iload_n 97 i307_96 rfl rfl rfl ?_
          refine X.icmpge 105 100 i307_97 rfl rfl rfl (fun h631 => ?_) (fun h631 => ?_)
          · refine X.iload_n 106 i307_105 rfl rfl rfl ?_
            refine X.istore 108 [(0, zr 4 44), (2, zi y2), (3, zi y3), (4, zi y4), (5, zl y5), (7, zi y7), (9, zi y9), (10, zi (m 4 45 ((295 + (6 * y4)) + y9))), (11, zi y2), (12, zi y3)] i307_106 rfl rfl rfl ?_
            refine X.iload 110 i307_108 rfl rfl rfl ?_
            refine X.iload 112 i307_110 rfl rfl rfl ?_
            refine X.icmple 137 115 i307_112 rfl rfl rfl (fun h632 => ?_) (fun h632 => ?_)
            · refine X.cut [(0, zr 4 44), (2, zi y2), (3, zi y3), (4, zi y4), (5, zl y5), (7, zi y7), (9, zi y9), (10, zi (m 4 45 ((295 + (6 * y4)) + y9)))] i307_137 rfl ?_
              refine X.iload 139 i307_137 rfl rfl rfl ?_
              refine X.istore 141 [(0, zr 4 44), (2, zi y2), (3, zi y3), (4, zi y4), (5, zl y5), (7, zi y7), (8, zi (m 4 45 ((295 + (6 * y4)) + y9))), (9, zi y9), (10, zi (m 4 45 ((295 + (6 * y4)) + y9)))] i307_139 rfl rfl rfl ?_
              refine X.iload 143 i307_141 rfl rfl rfl ?_
              refine X.i2l 144 i307_143 rfl rfl ?_
              refine X.aload_n 145 i307_144 rfl rfl rfl ?_
              refine X.getF 148 i307_145 rfl rfl (by decide) rfl rfl ?_
              refine X.sipush 151 i307_148 rfl rfl (by decide) ?_
              refine X.iload 153 i307_151 rfl rfl rfl ?_
              refine X.iadd 154 i307_153 rfl rfl (by omega) ?_
              refine X.lald 155 i307_154 rfl rfl (by decide) rfl (by omega) ?_
              refine X.lcmp 156 i307_155 rfl rfl (fun z633 hz633 => ?_)
              refine X.ifge 179 159 i307_156 rfl rfl rfl (fun h634 => ?_) (fun h634 => ?_)
              · have h634c : y9 ≥ (m 4 45 (287 + y4)) := by omega
                clear h634 hz633
                refine X.cut [(0, zr 4 44), (2, zi y2), (3, zi y3), (4, zi y4), (5, zl y5), (7, zi y7), (8, zi (m 4 45 ((295 + (6 * y4)) + y9))), (9, zi y9)] i307_179 rfl ?_
                refine X.iinc 182 [(0, zr 4 44), (2, zi y2), (3, zi y3), (4, zi y4), (5, zl y5), (7, zi y7), (8, zi (m 4 45 ((295 + (6 * y4)) + y9))), (9, zi (y9 + 1))] i307_179 rfl rfl rfl (by omega) rfl ?_
                refine X.goto 19 i307_182 rfl rfl ?_
                exact ih y5 y7 (m 4 45 ((295 + (6 * y4)) + y9)) (y9 + 1) (by omega) (by omega) (by omega) (by omega)
              · have h634c : y9 < (m 4 45 (287 + y4)) := by omega
                clear h634 hz633
                refine X.aload_n 160 i307_159 rfl rfl rfl ?_
                refine X.getF 163 i307_160 rfl rfl (by decide) rfl rfl ?_
                refine X.sipush 166 i307_163 rfl rfl (by decide) ?_
                refine X.bipush 168 i307_166 rfl rfl (by decide) ?_
                refine X.iload 170 i307_168 rfl rfl rfl ?_
                refine X.imul 171 i307_170 rfl rfl (by omega) ?_
                refine X.iadd 172 i307_171 rfl rfl (by omega) ?_
                refine X.iload 174 i307_172 rfl rfl rfl ?_
                refine X.iadd 175 i307_174 rfl rfl (by omega) ?_
                refine X.lald 176 i307_175 rfl rfl (by decide) rfl (by omega) ?_
                have h635 := r45_343 hJ 4 (i := ((343 + (6 * y4)) + y9)) (by omega)
                refine X.l2i 177 i307_176 rfl rfl (by omega) ?_
                refine X.istore 179 [(0, zr 4 44), (2, zi y2), (3, zi y3), (4, zi y4), (5, zl y5), (7, zi (m 4 45 ((343 + (6 * y4)) + y9))), (8, zi (m 4 45 ((295 + (6 * y4)) + y9))), (9, zi y9), (10, zi (m 4 45 ((295 + (6 * y4)) + y9)))] i307_177 rfl rfl rfl ?_
                refine X.cut [(0, zr 4 44), (2, zi y2), (3, zi y3), (4, zi y4), (5, zl y5), (7, zi (m 4 45 ((343 + (6 * y4)) + y9))), (8, zi (m 4 45 ((295 + (6 * y4)) + y9))), (9, zi y9)] i307_179 rfl ?_
                refine X.iinc 182 [(0, zr 4 44), (2, zi y2), (3, zi y3), (4, zi y4), (5, zl y5), (7, zi (m 4 45 ((343 + (6 * y4)) + y9))), (8, zi (m 4 45 ((295 + (6 * y4)) + y9))), (9, zi (y9 + 1))] i307_179 rfl rfl rfl (by omega) rfl ?_
                refine X.goto 19 i307_182 rfl rfl ?_
                exact ih y5 (m 4 45 ((343 + (6 * y4)) + y9)) (m 4 45 ((295 + (6 * y4)) + y9)) (y9 + 1) (by omega) (by omega) (by omega) (by omega)
            · refine X.lload 117 i307_115 rfl rfl rfl ?_
              refine X.iload 119 i307_117 rfl rfl rfl ?_
              refine X.iload 121 i307_119 rfl rfl rfl ?_
              refine X.isub 122 i307_121 rfl rfl (by omega) ?_
              refine X.i2l 123 i307_122 rfl rfl ?_
              refine X.aload_n 124 i307_123 rfl rfl rfl ?_
              refine X.getF 127 i307_124 rfl rfl (by decide) rfl rfl ?_
              refine X.bipush 129 i307_127 rfl rfl (by decide) ?_
              refine X.iload 131 i307_129 rfl rfl rfl ?_
              refine X.iadd 132 i307_131 rfl rfl (by omega) ?_
              refine X.lald 133 i307_132 rfl rfl (by decide) rfl (by omega) ?_
              refine X.llF 134 .lmul (fun x y => x * y) i307_133 rfl rfl rfl (fun _ _ => rfl) (fun z636 hz636 => ?_)
              refine X.llF 135 .ladd (fun x y => x + y) i307_134 rfl rfl rfl (fun _ _ => rfl) (fun z637 hz637 => ?_)
              refine X.lstore 137 [(0, zr 4 44), (2, zi y2), (3, zi y3), (4, zi y4), (5, zl z637), (7, zi y7), (9, zi y9), (10, zi (m 4 45 ((295 + (6 * y4)) + y9))), (11, zi y2), (12, zi y3)] i307_135 rfl rfl rfl ?_
              refine X.cut [(0, zr 4 44), (2, zi y2), (3, zi y3), (4, zi y4), (5, zl z637), (7, zi y7), (9, zi y9), (10, zi (m 4 45 ((295 + (6 * y4)) + y9)))] i307_137 rfl ?_
              refine X.iload 139 i307_137 rfl rfl rfl ?_
              refine X.istore 141 [(0, zr 4 44), (2, zi y2), (3, zi y3), (4, zi y4), (5, zl z637), (7, zi y7), (8, zi (m 4 45 ((295 + (6 * y4)) + y9))), (9, zi y9), (10, zi (m 4 45 ((295 + (6 * y4)) + y9)))] i307_139 rfl rfl rfl ?_
              refine X.iload 143 i307_141 rfl rfl rfl ?_
              refine X.i2l 144 i307_143 rfl rfl ?_
              refine X.aload_n 145 i307_144 rfl rfl rfl ?_
              refine X.getF 148 i307_145 rfl rfl (by decide) rfl rfl ?_
              refine X.sipush 151 i307_148 rfl rfl (by decide) ?_
              refine X.iload 153 i307_151 rfl rfl rfl ?_
              refine X.iadd 154 i307_153 rfl rfl (by omega) ?_
              refine X.lald 155 i307_154 rfl rfl (by decide) rfl (by omega) ?_
              refine X.lcmp 156 i307_155 rfl rfl (fun z638 hz638 => ?_)
              refine X.ifge 179 159 i307_156 rfl rfl rfl (fun h639 => ?_) (fun h639 => ?_)
              · have h639c : y9 ≥ (m 4 45 (287 + y4)) := by omega
                clear h639 hz638
                refine X.cut [(0, zr 4 44), (2, zi y2), (3, zi y3), (4, zi y4), (5, zl z637), (7, zi y7), (8, zi (m 4 45 ((295 + (6 * y4)) + y9))), (9, zi y9)] i307_179 rfl ?_
                refine X.iinc 182 [(0, zr 4 44), (2, zi y2), (3, zi y3), (4, zi y4), (5, zl z637), (7, zi y7), (8, zi (m 4 45 ((295 + (6 * y4)) + y9))), (9, zi (y9 + 1))] i307_179 rfl rfl rfl (by omega) rfl ?_
                refine X.goto 19 i307_182 rfl rfl ?_
                exact ih z637 y7 (m 4 45 ((295 + (6 * y4)) + y9)) (y9 + 1) (by omega) (by omega) (by omega) (by omega)
              · have h639c : y9 < (m 4 45 (287 + y4)) := by omega
                clear h639 hz638
                refine X.aload_n 160 i307_159 rfl rfl rfl ?_
                refine X.getF 163 i307_160 rfl rfl (by decide) rfl rfl ?_
                refine X.sipush 166 i307_163 rfl rfl (by decide) ?_
                refine X.bipush 168 i307_166 rfl rfl (by decide) ?_
                refine X.iload 170 i307_168 rfl rfl rfl ?_
                refine X.imul 171 i307_170 rfl rfl (by omega) ?_
                refine X.iadd 172 i307_171 rfl rfl (by omega) ?_
                refine X.iload 174 i307_172 rfl rfl rfl ?_
                refine X.iadd 175 i307_174 rfl rfl (by omega) ?_
                refine X.lald 176 i307_175 rfl rfl (by decide) rfl (by omega) ?_
                have h640 := r45_343 hJ 4 (i := ((343 + (6 * y4)) + y9)) (by omega)
                refine X.l2i 177 i307_176 rfl rfl (by omega) ?_
                refine X.istore 179 [(0, zr 4 44), (2, zi y2), (3, zi y3), (4, zi y4), (5, zl z637), (7, zi (m 4 45 ((343 + (6 * y4)) + y9))), (8, zi (m 4 45 ((295 + (6 * y4)) + y9))), (9, zi y9), (10, zi (m 4 45 ((295 + (6 * y4)) + y9)))] i307_177 rfl rfl rfl ?_
                refine X.cut [(0, zr 4 44), (2, zi y2), (3, zi y3), (4, zi y4), (5, zl z637), (7, zi (m 4 45 ((343 + (6 * y4)) + y9))), (8, zi (m 4 45 ((295 + (6 * y4)) + y9))), (9, zi y9)] i307_179 rfl ?_
                refine X.iinc 182 [(0, zr 4 44), (2, zi y2), (3, zi y3), (4, zi y4), (5, zl z637), (7, zi (m 4 45 ((343 + (6 * y4)) + y9))), (8, zi (m 4 45 ((295 + (6 * y4)) + y9))), (9, zi (y9 + 1))] i307_179 rfl rfl rfl (by omega) rfl ?_
                refine X.goto 19 i307_182 rfl rfl ?_
                exact ih z637 (m 4 45 ((343 + (6 * y4)) + y9)) (m 4 45 ((295 + (6 * y4)) + y9)) (y9 + 1) (by omega) (by omega) (by omega) (by omega)
          · refine X.iload 102 i307_100 rfl rfl rfl ?_
            refine X.goto 106 i307_102 rfl rfl ?_
            refine X.istore 108 [(0, zr 4 44), (2, zi y2), (3, zi y3), (4, zi y4), (5, zl y5), (7, zi y7), (9, zi y9), (10, zi (m 4 45 ((295 + (6 * y4)) + y9))), (11, zi y2), (12, zi (m 4 45 ((295 + (6 * y4)) + y9)))] i307_106 rfl rfl rfl ?_
            refine X.iload 110 i307_108 rfl rfl rfl ?_
            refine X.iload 112 i307_110 rfl rfl rfl ?_
            refine X.icmple 137 115 i307_112 rfl rfl rfl (fun h641 => ?_) (fun h641 => ?_)
            · refine X.cut [(0, zr 4 44), (2, zi y2), (3, zi y3), (4, zi y4), (5, zl y5), (7, zi y7), (9, zi y9), (10, zi (m 4 45 ((295 + (6 * y4)) + y9)))] i307_137 rfl ?_
              refine X.iload 139 i307_137 rfl rfl rfl ?_
              refine X.istore 141 [(0, zr 4 44), (2, zi y2), (3, zi y3), (4, zi y4), (5, zl y5), (7, zi y7), (8, zi (m 4 45 ((295 + (6 * y4)) + y9))), (9, zi y9), (10, zi (m 4 45 ((295 + (6 * y4)) + y9)))] i307_139 rfl rfl rfl ?_
              refine X.iload 143 i307_141 rfl rfl rfl ?_
              refine X.i2l 144 i307_143 rfl rfl ?_
              refine X.aload_n 145 i307_144 rfl rfl rfl ?_
              refine X.getF 148 i307_145 rfl rfl (by decide) rfl rfl ?_
              refine X.sipush 151 i307_148 rfl rfl (by decide) ?_
              refine X.iload 153 i307_151 rfl rfl rfl ?_
              refine X.iadd 154 i307_153 rfl rfl (by omega) ?_
              refine X.lald 155 i307_154 rfl rfl (by decide) rfl (by omega) ?_
              refine X.lcmp 156 i307_155 rfl rfl (fun z642 hz642 => ?_)
              refine X.ifge 179 159 i307_156 rfl rfl rfl (fun h643 => ?_) (fun h643 => ?_)
              · have h643c : y9 ≥ (m 4 45 (287 + y4)) := by omega
                clear h643 hz642
                refine X.cut [(0, zr 4 44), (2, zi y2), (3, zi y3), (4, zi y4), (5, zl y5), (7, zi y7), (8, zi (m 4 45 ((295 + (6 * y4)) + y9))), (9, zi y9)] i307_179 rfl ?_
                refine X.iinc 182 [(0, zr 4 44), (2, zi y2), (3, zi y3), (4, zi y4), (5, zl y5), (7, zi y7), (8, zi (m 4 45 ((295 + (6 * y4)) + y9))), (9, zi (y9 + 1))] i307_179 rfl rfl rfl (by omega) rfl ?_
                refine X.goto 19 i307_182 rfl rfl ?_
                exact ih y5 y7 (m 4 45 ((295 + (6 * y4)) + y9)) (y9 + 1) (by omega) (by omega) (by omega) (by omega)
              · have h643c : y9 < (m 4 45 (287 + y4)) := by omega
                clear h643 hz642
                refine X.aload_n 160 i307_159 rfl rfl rfl ?_
                refine X.getF 163 i307_160 rfl rfl (by decide) rfl rfl ?_
                refine X.sipush 166 i307_163 rfl rfl (by decide) ?_
                refine X.bipush 168 i307_166 rfl rfl (by decide) ?_
                refine X.iload 170 i307_168 rfl rfl rfl ?_
                refine X.imul 171 i307_170 rfl rfl (by omega) ?_
                refine X.iadd 172 i307_171 rfl rfl (by omega) ?_
                refine X.iload 174 i307_172 rfl rfl rfl ?_
                refine X.iadd 175 i307_174 rfl rfl (by omega) ?_
                refine X.lald 176 i307_175 rfl rfl (by decide) rfl (by omega) ?_
                have h644 := r45_343 hJ 4 (i := ((343 + (6 * y4)) + y9)) (by omega)
                refine X.l2i 177 i307_176 rfl rfl (by omega) ?_
                refine X.istore 179 [(0, zr 4 44), (2, zi y2), (3, zi y3), (4, zi y4), (5, zl y5), (7, zi (m 4 45 ((343 + (6 * y4)) + y9))), (8, zi (m 4 45 ((295 + (6 * y4)) + y9))), (9, zi y9), (10, zi (m 4 45 ((295 + (6 * y4)) + y9)))] i307_177 rfl rfl rfl ?_
                refine X.cut [(0, zr 4 44), (2, zi y2), (3, zi y3), (4, zi y4), (5, zl y5), (7, zi (m 4 45 ((343 + (6 * y4)) + y9))), (8, zi (m 4 45 ((295 + (6 * y4)) + y9))), (9, zi y9)] i307_179 rfl ?_
                refine X.iinc 182 [(0, zr 4 44), (2, zi y2), (3, zi y3), (4, zi y4), (5, zl y5), (7, zi (m 4 45 ((343 + (6 * y4)) + y9))), (8, zi (m 4 45 ((295 + (6 * y4)) + y9))), (9, zi (y9 + 1))] i307_179 rfl rfl rfl (by omega) rfl ?_
                refine X.goto 19 i307_182 rfl rfl ?_
                exact ih y5 (m 4 45 ((343 + (6 * y4)) + y9)) (m 4 45 ((295 + (6 * y4)) + y9)) (y9 + 1) (by omega) (by omega) (by omega) (by omega)
            · refine X.lload 117 i307_115 rfl rfl rfl ?_
              refine X.iload 119 i307_117 rfl rfl rfl ?_
              refine X.iload 121 i307_119 rfl rfl rfl ?_
              refine X.isub 122 i307_121 rfl rfl (by omega) ?_
              refine X.i2l 123 i307_122 rfl rfl ?_
              refine X.aload_n 124 i307_123 rfl rfl rfl ?_
              refine X.getF 127 i307_124 rfl rfl (by decide) rfl rfl ?_
              refine X.bipush 129 i307_127 rfl rfl (by decide) ?_
              refine X.iload 131 i307_129 rfl rfl rfl ?_
              refine X.iadd 132 i307_131 rfl rfl (by omega) ?_
              refine X.lald 133 i307_132 rfl rfl (by decide) rfl (by omega) ?_
              refine X.llF 134 .lmul (fun x y => x * y) i307_133 rfl rfl rfl (fun _ _ => rfl) (fun z645 hz645 => ?_)
              refine X.llF 135 .ladd (fun x y => x + y) i307_134 rfl rfl rfl (fun _ _ => rfl) (fun z646 hz646 => ?_)
              refine X.lstore 137 [(0, zr 4 44), (2, zi y2), (3, zi y3), (4, zi y4), (5, zl z646), (7, zi y7), (9, zi y9), (10, zi (m 4 45 ((295 + (6 * y4)) + y9))), (11, zi y2), (12, zi (m 4 45 ((295 + (6 * y4)) + y9)))] i307_135 rfl rfl rfl ?_
              refine X.cut [(0, zr 4 44), (2, zi y2), (3, zi y3), (4, zi y4), (5, zl z646), (7, zi y7), (9, zi y9), (10, zi (m 4 45 ((295 + (6 * y4)) + y9)))] i307_137 rfl ?_
              refine X.iload 139 i307_137 rfl rfl rfl ?_
              refine X.istore 141 [(0, zr 4 44), (2, zi y2), (3, zi y3), (4, zi y4), (5, zl z646), (7, zi y7), (8, zi (m 4 45 ((295 + (6 * y4)) + y9))), (9, zi y9), (10, zi (m 4 45 ((295 + (6 * y4)) + y9)))] i307_139 rfl rfl rfl ?_
              refine X.iload 143 i307_141 rfl rfl rfl ?_
              refine X.i2l 144 i307_143 rfl rfl ?_
              refine X.aload_n 145 i307_144 rfl rfl rfl ?_
              refine X.getF 148 i307_145 rfl rfl (by decide) rfl rfl ?_
              refine X.sipush 151 i307_148 rfl rfl (by decide) ?_
              refine X.iload 153 i307_151 rfl rfl rfl ?_
              refine X.iadd 154 i307_153 rfl rfl (by omega) ?_
              refine X.lald 155 i307_154 rfl rfl (by decide) rfl (by omega) ?_
              refine X.lcmp 156 i307_155 rfl rfl (fun z647 hz647 => ?_)
              refine X.ifge 179 159 i307_156 rfl rfl rfl (fun h648 => ?_) (fun h648 => ?_)
              · have h648c : y9 ≥ (m 4 45 (287 + y4)) := by omega
                clear h648 hz647
                refine X.cut [(0, zr 4 44), (2, zi y2), (3, zi y3), (4, zi y4), (5, zl z646), (7, zi y7), (8, zi (m 4 45 ((295 + (6 * y4)) + y9))), (9, zi y9)] i307_179 rfl ?_
                refine X.iinc 182 [(0, zr 4 44), (2, zi y2), (3, zi y3), (4, zi y4), (5, zl z646), (7, zi y7), (8, zi (m 4 45 ((295 + (6 * y4)) + y9))), (9, zi (y9 + 1))] i307_179 rfl rfl rfl (by omega) rfl ?_
                refine X.goto 19 i307_182 rfl rfl ?_
                exact ih z646 y7 (m 4 45 ((295 + (6 * y4)) + y9)) (y9 + 1) (by omega) (by omega) (by omega) (by omega)
              · have h648c : y9 < (m 4 45 (287 + y4)) := by omega
                clear h648 hz647
                refine X.aload_n 160 i307_159 rfl rfl rfl ?_
                refine X.getF 163 i307_160 rfl rfl (by decide) rfl rfl ?_
                refine X.sipush 166 i307_163 rfl rfl (by decide) ?_
                refine X.bipush 168 i307_166 rfl rfl (by decide) ?_
                refine X.iload 170 i307_168 rfl rfl rfl ?_
                refine X.imul 171 i307_170 rfl rfl (by omega) ?_
                refine X.iadd 172 i307_171 rfl rfl (by omega) ?_
                refine X.iload 174 i307_172 rfl rfl rfl ?_
                refine X.iadd 175 i307_174 rfl rfl (by omega) ?_
                refine X.lald 176 i307_175 rfl rfl (by decide) rfl (by omega) ?_
                have h649 := r45_343 hJ 4 (i := ((343 + (6 * y4)) + y9)) (by omega)
                refine X.l2i 177 i307_176 rfl rfl (by omega) ?_
                refine X.istore 179 [(0, zr 4 44), (2, zi y2), (3, zi y3), (4, zi y4), (5, zl z646), (7, zi (m 4 45 ((343 + (6 * y4)) + y9))), (8, zi (m 4 45 ((295 + (6 * y4)) + y9))), (9, zi y9), (10, zi (m 4 45 ((295 + (6 * y4)) + y9)))] i307_177 rfl rfl rfl ?_
                refine X.cut [(0, zr 4 44), (2, zi y2), (3, zi y3), (4, zi y4), (5, zl z646), (7, zi (m 4 45 ((343 + (6 * y4)) + y9))), (8, zi (m 4 45 ((295 + (6 * y4)) + y9))), (9, zi y9)] i307_179 rfl ?_
                refine X.iinc 182 [(0, zr 4 44), (2, zi y2), (3, zi y3), (4, zi y4), (5, zl z646), (7, zi (m 4 45 ((343 + (6 * y4)) + y9))), (8, zi (m 4 45 ((295 + (6 * y4)) + y9))), (9, zi (y9 + 1))] i307_179 rfl rfl rfl (by omega) rfl ?_
                refine X.goto 19 i307_182 rfl rfl ?_
                exact ih z646 (m 4 45 ((343 + (6 * y4)) + y9)) (m 4 45 ((295 + (6 * y4)) + y9)) (y9 + 1) (by omega) (by omega) (by omega) (by omega)
        · refine X.iload 88 i307_86 rfl rfl rfl ?_
          refine X.goto 92 i307_88 rfl rfl ?_
          refine X.cut [(0, zr 4 44), (2, zi y2), (3, zi y3), (4, zi y4), (5, zl y5), (7, zi y7), (9, zi y9), (10, zi (m 4 45 ((295 + (6 * y4)) + y9)))] i307_92 rfl ?_
          refine X.istore 94 [(0, zr 4 44), (2, zi y2), (3, zi y3), (4, zi y4), (5, zl y5), (7, zi y7), (9, zi y9), (10, zi (m 4 45 ((295 + (6 * y4)) + y9))), (11, zi y8)] i307_92 rfl rfl rfl ?_
          refine X.iload 96 i307_94 rfl rfl rfl ?_
          refine X.iload_n 97 i307_96 rfl rfl rfl ?_
          refine X.icmpge 105 100 i307_97 rfl rfl rfl (fun h650 => ?_) (fun h650 => ?_)
          · refine X.iload_n 106 i307_105 rfl rfl rfl ?_
            refine X.istore 108 [(0, zr 4 44), (2, zi y2), (3, zi y3), (4, zi y4), (5, zl y5), (7, zi y7), (9, zi y9), (10, zi (m 4 45 ((295 + (6 * y4)) + y9))), (11, zi y8), (12, zi y3)] i307_106 rfl rfl rfl ?_
            refine X.iload 110 i307_108 rfl rfl rfl ?_
            refine X.iload 112 i307_110 rfl rfl rfl ?_
            refine X.icmple 137 115 i307_112 rfl rfl rfl (fun h651 => ?_) (fun h651 => ?_)
            · refine X.cut [(0, zr 4 44), (2, zi y2), (3, zi y3), (4, zi y4), (5, zl y5), (7, zi y7), (9, zi y9), (10, zi (m 4 45 ((295 + (6 * y4)) + y9)))] i307_137 rfl ?_
              refine X.iload 139 i307_137 rfl rfl rfl ?_
              refine X.istore 141 [(0, zr 4 44), (2, zi y2), (3, zi y3), (4, zi y4), (5, zl y5), (7, zi y7), (8, zi (m 4 45 ((295 + (6 * y4)) + y9))), (9, zi y9), (10, zi (m 4 45 ((295 + (6 * y4)) + y9)))] i307_139 rfl rfl rfl ?_
              refine X.iload 143 i307_141 rfl rfl rfl ?_
              refine X.i2l 144 i307_143 rfl rfl ?_
              refine X.aload_n 145 i307_144 rfl rfl rfl ?_
              refine X.getF 148 i307_145 rfl rfl (by decide) rfl rfl ?_
              refine X.sipush 151 i307_148 rfl rfl (by decide) ?_
              refine X.iload 153 i307_151 rfl rfl rfl ?_
              refine X.iadd 154 i307_153 rfl rfl (by omega) ?_
              refine X.lald 155 i307_154 rfl rfl (by decide) rfl (by omega) ?_
              refine X.lcmp 156 i307_155 rfl rfl (fun z652 hz652 => ?_)
              refine X.ifge 179 159 i307_156 rfl rfl rfl (fun h653 => ?_) (fun h653 => ?_)
              · have h653c : y9 ≥ (m 4 45 (287 + y4)) := by omega
                clear h653 hz652
                refine X.cut [(0, zr 4 44), (2, zi y2), (3, zi y3), (4, zi y4), (5, zl y5), (7, zi y7), (8, zi (m 4 45 ((295 + (6 * y4)) + y9))), (9, zi y9)] i307_179 rfl ?_
                refine X.iinc 182 [(0, zr 4 44), (2, zi y2), (3, zi y3), (4, zi y4), (5, zl y5), (7, zi y7), (8, zi (m 4 45 ((295 + (6 * y4)) + y9))), (9, zi (y9 + 1))] i307_179 rfl rfl rfl (by omega) rfl ?_
                refine X.goto 19 i307_182 rfl rfl ?_
                exact ih y5 y7 (m 4 45 ((295 + (6 * y4)) + y9)) (y9 + 1) (by omega) (by omega) (by omega) (by omega)
              · have h653c : y9 < (m 4 45 (287 + y4)) := by omega
                clear h653 hz652
                refine X.aload_n 160 i307_159 rfl rfl rfl ?_
                refine X.getF 163 i307_160 rfl rfl (by decide) rfl rfl ?_
                refine X.sipush 166 i307_163 rfl rfl (by decide) ?_
                refine X.bipush 168 i307_166 rfl rfl (by decide) ?_
                refine X.iload 170 i307_168 rfl rfl rfl ?_
                refine X.imul 171 i307_170 rfl rfl (by omega) ?_
                refine X.iadd 172 i307_171 rfl rfl (by omega) ?_
                refine X.iload 174 i307_172 rfl rfl rfl ?_
                refine X.iadd 175 i307_174 rfl rfl (by omega) ?_
                refine X.lald 176 i307_175 rfl rfl (by decide) rfl (by omega) ?_
                have h654 := r45_343 hJ 4 (i := ((343 + (6 * y4)) + y9)) (by omega)
                refine X.l2i 177 i307_176 rfl rfl (by omega) ?_
                refine X.istore 179 [(0, zr 4 44), (2, zi y2), (3, zi y3), (4, zi y4), (5, zl y5), (7, zi (m 4 45 ((343 + (6 * y4)) + y9))), (8, zi (m 4 45 ((295 + (6 * y4)) + y9))), (9, zi y9), (10, zi (m 4 45 ((295 + (6 * y4)) + y9)))] i307_177 rfl rfl rfl ?_
                refine X.cut [(0, zr 4 44), (2, zi y2), (3, zi y3), (4, zi y4), (5, zl y5), (7, zi (m 4 45 ((343 + (6 * y4)) + y9))), (8, zi (m 4 45 ((295 + (6 * y4)) + y9))), (9, zi y9)] i307_179 rfl ?_
                refine X.iinc 182 [(0, zr 4 44), (2, zi y2), (3, zi y3), (4, zi y4), (5, zl y5), (7, zi (m 4 45 ((343 + (6 * y4)) + y9))), (8, zi (m 4 45 ((295 + (6 * y4)) + y9))), (9, zi (y9 + 1))] i307_179 rfl rfl rfl (by omega) rfl ?_
                refine X.goto 19 i307_182 rfl rfl ?_
                exact ih y5 (m 4 45 ((343 + (6 * y4)) + y9)) (m 4 45 ((295 + (6 * y4)) + y9)) (y9 + 1) (by omega) (by omega) (by omega) (by omega)
            · refine X.lload 117 i307_115 rfl rfl rfl ?_
              refine X.iload 119 i307_117 rfl rfl rfl ?_
              refine X.iload 121 i307_119 rfl rfl rfl ?_
              refine X.isub 122 i307_121 rfl rfl (by omega) ?_
              refine X.i2l 123 i307_122 rfl rfl ?_
              refine X.aload_n 124 i307_123 rfl rfl rfl ?_
              refine X.getF 127 i307_124 rfl rfl (by decide) rfl rfl ?_
              refine X.bipush 129 i307_127 rfl rfl (by decide) ?_
              refine X.iload 131 i307_129 rfl rfl rfl ?_
              refine X.iadd 132 i307_131 rfl rfl (by omega) ?_
              refine X.lald 133 i307_132 rfl rfl (by decide) rfl (by omega) ?_
              refine X.llF 134 .lmul (fun x y => x * y) i307_133 rfl rfl rfl (fun _ _ => rfl) (fun z655 hz655 => ?_)
              refine X.llF 135 .ladd (fun x y => x + y) i307_134 rfl rfl rfl (fun _ _ => rfl) (fun z656 hz656 => ?_)
              refine X.lstore 137 [(0, zr 4 44), (2, zi y2), (3, zi y3), (4, zi y4), (5, zl z656), (7, zi y7), (9, zi y9), (10, zi (m 4 45 ((295 + (6 * y4)) + y9))), (11, zi y8), (12, zi y3)] i307_135 rfl rfl rfl ?_
              refine X.cut [(0, zr 4 44), (2, zi y2), (3, zi y3), (4, zi y4), (5, zl z656), (7, zi y7), (9, zi y9), (10, zi (m 4 45 ((295 + (6 * y4)) + y9)))] i307_137 rfl ?_
              refine X.iload 139 i307_137 rfl rfl rfl ?_
              refine X.istore 141 [(0, zr 4 44), (2, zi y2), (3, zi y3), (4, zi y4), (5, zl z656), (7, zi y7), (8, zi (m 4 45 ((295 + (6 * y4)) + y9))), (9, zi y9), (10, zi (m 4 45 ((295 + (6 * y4)) + y9)))] i307_139 rfl rfl rfl ?_
              refine X.iload 143 i307_141 rfl rfl rfl ?_
              refine X.i2l 144 i307_143 rfl rfl ?_
              refine X.aload_n 145 i307_144 rfl rfl rfl ?_
              refine X.getF 148 i307_145 rfl rfl (by decide) rfl rfl ?_
              refine X.sipush 151 i307_148 rfl rfl (by decide) ?_
              refine X.iload 153 i307_151 rfl rfl rfl ?_
              refine X.iadd 154 i307_153 rfl rfl (by omega) ?_
              refine X.lald 155 i307_154 rfl rfl (by decide) rfl (by omega) ?_
              refine X.lcmp 156 i307_155 rfl rfl (fun z657 hz657 => ?_)
              refine X.ifge 179 159 i307_156 rfl rfl rfl (fun h658 => ?_) (fun h658 => ?_)
              · have h658c : y9 ≥ (m 4 45 (287 + y4)) := by omega
                clear h658 hz657
                refine X.cut [(0, zr 4 44), (2, zi y2), (3, zi y3), (4, zi y4), (5, zl z656), (7, zi y7), (8, zi (m 4 45 ((295 + (6 * y4)) + y9))), (9, zi y9)] i307_179 rfl ?_
                refine X.iinc 182 [(0, zr 4 44), (2, zi y2), (3, zi y3), (4, zi y4), (5, zl z656), (7, zi y7), (8, zi (m 4 45 ((295 + (6 * y4)) + y9))), (9, zi (y9 + 1))] i307_179 rfl rfl rfl (by omega) rfl ?_
                refine X.goto 19 i307_182 rfl rfl ?_
                exact ih z656 y7 (m 4 45 ((295 + (6 * y4)) + y9)) (y9 + 1) (by omega) (by omega) (by omega) (by omega)
              · have h658c : y9 < (m 4 45 (287 + y4)) := by omega
                clear h658 hz657
                refine X.aload_n 160 i307_159 rfl rfl rfl ?_
                refine X.getF 163 i307_160 rfl rfl (by decide) rfl rfl ?_
                refine X.sipush 166 i307_163 rfl rfl (by decide) ?_
                refine X.bipush 168 i307_166 rfl rfl (by decide) ?_
                refine X.iload 170 i307_168 rfl rfl rfl ?_
                refine X.imul 171 i307_170 rfl rfl (by omega) ?_
                refine X.iadd 172 i307_171 rfl rfl (by omega) ?_
                refine X.iload 174 i307_172 rfl rfl rfl ?_
                refine X.iadd 175 i307_174 rfl rfl (by omega) ?_
                refine X.lald 176 i307_175 rfl rfl (by decide) rfl (by omega) ?_
                have h659 := r45_343 hJ 4 (i := ((343 + (6 * y4)) + y9)) (by omega)
                refine X.l2i 177 i307_176 rfl rfl (by omega) ?_
                refine X.istore 179 [(0, zr 4 44), (2, zi y2), (3, zi y3), (4, zi y4), (5, zl z656), (7, zi (m 4 45 ((343 + (6 * y4)) + y9))), (8, zi (m 4 45 ((295 + (6 * y4)) + y9))), (9, zi y9), (10, zi (m 4 45 ((295 + (6 * y4)) + y9)))] i307_177 rfl rfl rfl ?_
                refine X.cut [(0, zr 4 44), (2, zi y2), (3, zi y3), (4, zi y4), (5, zl z656), (7, zi (m 4 45 ((343 + (6 * y4)) + y9))), (8, zi (m 4 45 ((295 + (6 * y4)) + y9))), (9, zi y9)] i307_179 rfl ?_
                refine X.iinc 182 [(0, zr 4 44), (2, zi y2), (3, zi y3), (4, zi y4), (5, zl z656), (7, zi (m 4 45 ((343 + (6 * y4)) + y9))), (8, zi (m 4 45 ((295 + (6 * y4)) + y9))), (9, zi (y9 + 1))] i307_179 rfl rfl rfl (by omega) rfl ?_
                refine X.goto 19 i307_182 rfl rfl ?_
                exact ih z656 (m 4 45 ((343 + (6 * y4)) + y9)) (m 4 45 ((295 + (6 * y4)) + y9)) (y9 + 1) (by omega) (by omega) (by omega) (by omega)
          · refine X.iload 102 i307_100 rfl rfl rfl ?_
            refine X.goto 106 i307_102 rfl rfl ?_
            refine X.istore 108 [(0, zr 4 44), (2, zi y2), (3, zi y3), (4, zi y4), (5, zl y5), (7, zi y7), (9, zi y9), (10, zi (m 4 45 ((295 + (6 * y4)) + y9))), (11, zi y8), (12, zi (m 4 45 ((295 + (6 * y4)) + y9)))] i307_106 rfl rfl rfl ?_
            refine X.iload 110 i307_108 rfl rfl rfl ?_
            refine X.iload 112 i307_110 rfl rfl rfl ?_
            refine X.icmple 137 115 i307_112 rfl rfl rfl (fun h660 => ?_) (fun h660 => ?_)
            · refine X.cut [(0, zr 4 44), (2, zi y2), (3, zi y3), (4, zi y4), (5, zl y5), (7, zi y7), (9, zi y9), (10, zi (m 4 45 ((295 + (6 * y4)) + y9)))] i307_137 rfl ?_
              refine X.iload 139 i307_137 rfl rfl rfl ?_
              refine X.istore 141 [(0, zr 4 44), (2, zi y2), (3, zi y3), (4, zi y4), (5, zl y5), (7, zi y7), (8, zi (m 4 45 ((295 + (6 * y4)) + y9))), (9, zi y9), (10, zi (m 4 45 ((295 + (6 * y4)) + y9)))] i307_139 rfl rfl rfl ?_
              refine X.iload 143 i307_141 rfl rfl rfl ?_
              refine X.i2l 144 i307_143 rfl rfl ?_
              refine X.aload_n 145 i307_144 rfl rfl rfl ?_
              refine X.getF 148 i307_145 rfl rfl (by decide) rfl rfl ?_
              refine X.sipush 151 i307_148 rfl rfl (by decide) ?_
              refine X.iload 153 i307_151 rfl rfl rfl ?_
              refine X.iadd 154 i307_153 rfl rfl (by omega) ?_
              refine X.lald 155 i307_154 rfl rfl (by decide) rfl (by omega) ?_
              refine X.lcmp 156 i307_155 rfl rfl (fun z661 hz661 => ?_)
              refine X.ifge 179 159 i307_156 rfl rfl rfl (fun h662 => ?_) (fun h662 => ?_)
              · have h662c : y9 ≥ (m 4 45 (287 + y4)) := by omega
                clear h662 hz661
                refine X.cut [(0, zr 4 44), (2, zi y2), (3, zi y3), (4, zi y4), (5, zl y5), (7, zi y7), (8, zi (m 4 45 ((295 + (6 * y4)) + y9))), (9, zi y9)] i307_179 rfl ?_
                refine X.iinc 182 [(0, zr 4 44), (2, zi y2), (3, zi y3), (4, zi y4), (5, zl y5), (7, zi y7), (8, zi (m 4 45 ((295 + (6 * y4)) + y9))), (9, zi (y9 + 1))] i307_179 rfl rfl rfl (by omega) rfl ?_
                refine X.goto 19 i307_182 rfl rfl ?_
                exact ih y5 y7 (m 4 45 ((295 + (6 * y4)) + y9)) (y9 + 1) (by omega) (by omega) (by omega) (by omega)
              · have h662c : y9 < (m 4 45 (287 + y4)) := by omega
                clear h662 hz661
                refine X.aload_n 160 i307_159 rfl rfl rfl ?_
                refine X.getF 163 i307_160 rfl rfl (by decide) rfl rfl ?_
                refine X.sipush 166 i307_163 rfl rfl (by decide) ?_
                refine X.bipush 168 i307_166 rfl rfl (by decide) ?_
                refine X.iload 170 i307_168 rfl rfl rfl ?_
                refine X.imul 171 i307_170 rfl rfl (by omega) ?_
                refine X.iadd 172 i307_171 rfl rfl (by omega) ?_
                refine X.iload 174 i307_172 rfl rfl rfl ?_
                refine X.iadd 175 i307_174 rfl rfl (by omega) ?_
                refine X.lald 176 i307_175 rfl rfl (by decide) rfl (by omega) ?_
                have h663 := r45_343 hJ 4 (i := ((343 + (6 * y4)) + y9)) (by omega)
                refine X.l2i 177 i307_176 rfl rfl (by omega) ?_
                refine X.istore 179 [(0, zr 4 44), (2, zi y2), (3, zi y3), (4, zi y4), (5, zl y5), (7, zi (m 4 45 ((343 + (6 * y4)) + y9))), (8, zi (m 4 45 ((295 + (6 * y4)) + y9))), (9, zi y9), (10, zi (m 4 45 ((295 + (6 * y4)) + y9)))] i307_177 rfl rfl rfl ?_
                refine X.cut [(0, zr 4 44), (2, zi y2), (3, zi y3), (4, zi y4), (5, zl y5), (7, zi (m 4 45 ((343 + (6 * y4)) + y9))), (8, zi (m 4 45 ((295 + (6 * y4)) + y9))), (9, zi y9)] i307_179 rfl ?_
                refine X.iinc 182 [(0, zr 4 44), (2, zi y2), (3, zi y3), (4, zi y4), (5, zl y5), (7, zi (m 4 45 ((343 + (6 * y4)) + y9))), (8, zi (m 4 45 ((295 + (6 * y4)) + y9))), (9, zi (y9 + 1))] i307_179 rfl rfl rfl (by omega) rfl ?_
                refine X.goto 19 i307_182 rfl rfl ?_
                exact ih y5 (m 4 45 ((343 + (6 * y4)) + y9)) (m 4 45 ((295 + (6 * y4)) + y9)) (y9 + 1) (by omega) (by omega) (by omega) (by omega)
            · refine X.lload 117 i307_115 rfl rfl rfl ?_
              refine X.iload 119 i307_117 rfl rfl rfl ?_
              refine X.iload 121 i307_119 rfl rfl rfl ?_
              refine X.isub 122 i307_121 rfl rfl (by omega) ?_
              refine X.i2l 123 i307_122 rfl rfl ?_
              refine X.aload_n 124 i307_123 rfl rfl rfl ?_
              refine X.getF 127 i307_124 rfl rfl (by decide) rfl rfl ?_
              refine X.bipush 129 i307_127 rfl rfl (by decide) ?_
              refine X.iload 131 i307_129 rfl rfl rfl ?_
              refine X.iadd 132 i307_131 rfl rfl (by omega) ?_
              refine X.lald 133 i307_132 rfl rfl (by decide) rfl (by omega) ?_
              refine X.llF 134 .lmul (fun x y => x * y) i307_133 rfl rfl rfl (fun _ _ => rfl) (fun z664 hz664 => ?_)
              refine X.llF 135 .ladd (fun x y => x + y) i307_134 rfl rfl rfl (fun _ _ => rfl) (fun z665 hz665 => ?_)
              refine X.lstore 137 [(0, zr 4 44), (2, zi y2), (3, zi y3), (4, zi y4), (5, zl z665), (7, zi y7), (9, zi y9), (10, zi (m 4 45 ((295 + (6 * y4)) + y9))), (11, zi y8), (12, zi (m 4 45 ((295 + (6 * y4)) + y9)))] i307_135 rfl rfl rfl ?_
              refine X.cut [(0, zr 4 44), (2, zi y2), (3, zi y3), (4, zi y4), (5, zl z665), (7, zi y7), (9, zi y9), (10, zi (m 4 45 ((295 + (6 * y4)) + y9)))] i307_137 rfl ?_
              refine X.iload 139 i307_137 rfl rfl rfl ?_
              refine X.istore 141 [(0, zr 4 44), (2, zi y2), (3, zi y3), (4, zi y4), (5, zl z665), (7, zi y7), (8, zi (m 4 45 ((295 + (6 * y4)) + y9))), (9, zi y9), (10, zi (m 4 45 ((295 + (6 * y4)) + y9)))] i307_139 rfl rfl rfl ?_
              refine X.iload 143 i307_141 rfl rfl rfl ?_
              refine X.i2l 144 i307_143 rfl rfl ?_
              refine X.aload_n 145 i307_144 rfl rfl rfl ?_
              refine X.getF 148 i307_145 rfl rfl (by decide) rfl rfl ?_
              refine X.sipush 151 i307_148 rfl rfl (by decide) ?_
              refine X.iload 153 i307_151 rfl rfl rfl ?_
              refine X.iadd 154 i307_153 rfl rfl (by omega) ?_
              refine X.lald 155 i307_154 rfl rfl (by decide) rfl (by omega) ?_
              refine X.lcmp 156 i307_155 rfl rfl (fun z666 hz666 => ?_)
              refine X.ifge 179 159 i307_156 rfl rfl rfl (fun h667 => ?_) (fun h667 => ?_)
              · have h667c : y9 ≥ (m 4 45 (287 + y4)) := by omega
                clear h667 hz666
                refine X.cut [(0, zr 4 44), (2, zi y2), (3, zi y3), (4, zi y4), (5, zl z665), (7, zi y7), (8, zi (m 4 45 ((295 + (6 * y4)) + y9))), (9, zi y9)] i307_179 rfl ?_
                refine X.iinc 182 [(0, zr 4 44), (2, zi y2), (3, zi y3), (4, zi y4), (5, zl z665), (7, zi y7), (8, zi (m 4 45 ((295 + (6 * y4)) + y9))), (9, zi (y9 + 1))] i307_179 rfl rfl rfl (by omega) rfl ?_
                refine X.goto 19 i307_182 rfl rfl ?_
                exact ih z665 y7 (m 4 45 ((295 + (6 * y4)) + y9)) (y9 + 1) (by omega) (by omega) (by omega) (by omega)
              · have h667c : y9 < (m 4 45 (287 + y4)) := by omega
                clear h667 hz666
                refine X.aload_n 160 i307_159 rfl rfl rfl ?_
                refine X.getF 163 i307_160 rfl rfl (by decide) rfl rfl ?_
                refine X.sipush 166 i307_163 rfl rfl (by decide) ?_
                refine X.bipush 168 i307_166 rfl rfl (by decide) ?_
                refine X.iload 170 i307_168 rfl rfl rfl ?_
                refine X.imul 171 i307_170 rfl rfl (by omega) ?_
                refine X.iadd 172 i307_171 rfl rfl (by omega) ?_
                refine X.iload 174 i307_172 rfl rfl rfl ?_
                refine X.iadd 175 i307_174 rfl rfl (by omega) ?_
                refine X.lald 176 i307_175 rfl rfl (by decide) rfl (by omega) ?_
                have h668 := r45_343 hJ 4 (i := ((343 + (6 * y4)) + y9)) (by omega)
                refine X.l2i 177 i307_176 rfl rfl (by omega) ?_
                refine X.istore 179 [(0, zr 4 44), (2, zi y2), (3, zi y3), (4, zi y4), (5, zl z665), (7, zi (m 4 45 ((343 + (6 * y4)) + y9))), (8, zi (m 4 45 ((295 + (6 * y4)) + y9))), (9, zi y9), (10, zi (m 4 45 ((295 + (6 * y4)) + y9)))] i307_177 rfl rfl rfl ?_
                refine X.cut [(0, zr 4 44), (2, zi y2), (3, zi y3), (4, zi y4), (5, zl z665), (7, zi (m 4 45 ((343 + (6 * y4)) + y9))), (8, zi (m 4 45 ((295 + (6 * y4)) + y9))), (9, zi y9)] i307_179 rfl ?_
                refine X.iinc 182 [(0, zr 4 44), (2, zi y2), (3, zi y3), (4, zi y4), (5, zl z665), (7, zi (m 4 45 ((343 + (6 * y4)) + y9))), (8, zi (m 4 45 ((295 + (6 * y4)) + y9))), (9, zi (y9 + 1))] i307_179 rfl rfl rfl (by omega) rfl ?_
                refine X.goto 19 i307_182 rfl rfl ?_
                exact ih z665 (m 4 45 ((343 + (6 * y4)) + y9)) (m 4 45 ((295 + (6 * y4)) + y9)) (y9 + 1) (by omega) (by omega) (by omega) (by omega)
-- WorkMeterModel.costOfDay
theorem c307_2 {s : Nat × (Nat → Int32)} {S : zS} {m0 m : zM} {B : Int} {d : Nat} {Q : Option zV → zM → Prop} (a1 a2 a3 : Int) (hd : 15 ≤ d) (hJ : J S m0 B m) (hB : B + 0 ≤ 1000000000) (ha1 : 0 ≤ a1 ∧ a1 ≤ 23149) (ha2 : 0 ≤ a2 ∧ a2 ≤ 86399) (ha3 : (-2000073599) ≤ a3 ∧ a3 ≤ 86399) (hQ : ∀ (v : Int), (True) → Q (some (zl v)) m) : X (EE s) d 307 0 [(0, zr 4 44), (1, zi a1), (2, zi a2), (3, zi a3)] [] m Q := by
  refine X.aload_n 1 i307_0 rfl rfl rfl ?_
  refine X.iload_n 2 i307_1 rfl rfl rfl ?_
  refine X.callv 5 [zi a1] [] [(0, zr 4 44), (1, zi a1)] i307_2 rfl (by decide) rfl rfl (by omega) rfl rfl (by decide) rfl t218 (Nat.le_of_ble_eq_true rfl) (Nat.le_of_ble_eq_true rfl) rfl ?_
  refine c218_1 (B := B)  a1 (by omega) (hJ.up (by omega)) (by omega) (by omega) (fun v503 hv503 => ?_)
  show X (EE s) d 307 5 [(0, zr 4 44), (1, zi a1), (2, zi a2), (3, zi a3)] [zi v503] m _
  refine X.istore 7 [(0, zr 4 44), (1, zi a1), (2, zi a2), (3, zi a3), (4, zi v503)] i307_5 rfl rfl rfl ?_
  refine X.lconst (y := 0) 8 i307_7 rfl rfl rfl ?_
  refine X.lstore 10 [(0, zr 4 44), (1, zi a1), (2, zi a2), (3, zi a3), (4, zi v503), (5, zl 0)] i307_8 rfl rfl rfl ?_
  refine X.iconst 11 i307_10 rfl rfl (by decide) ?_
  refine X.istore 13 [(0, zr 4 44), (1, zi a1), (2, zi a2), (3, zi a3), (4, zi v503), (5, zl 0), (7, zi 0)] i307_11 rfl rfl rfl ?_
  refine X.iconst 14 i307_13 rfl rfl (by decide) ?_
  refine X.istore 16 [(0, zr 4 44), (1, zi a1), (2, zi a2), (3, zi a3), (4, zi v503), (5, zl 0), (7, zi 0), (8, zi 0)] i307_14 rfl rfl rfl ?_
  refine X.iconst 17 i307_16 rfl rfl (by decide) ?_
  refine X.istore 19 [(0, zr 4 44), (1, zi a1), (2, zi a2), (3, zi a3), (4, zi v503), (5, zl 0), (7, zi 0), (8, zi 0), (9, zi 0)] i307_17 rfl rfl rfl ?_
  refine X.cut [(0, zr 4 44), (2, zi a2), (3, zi a3), (4, zi v503), (5, zl 0), (7, zi 0), (8, zi 0), (9, zi 0)] i307_19 rfl ?_
  refine l307_19_2 (s := s) (S := S) (m0 := m0) (m := m) (B := B) (d := d)  a2 a3 v503 (by omega) (hJ.up (by omega)) (by omega) (by omega) (by omega) (by omega) (fun y504 hby504 => ?_) ((7 - 0 : Int).toNat + 1) 0 0 0 0 (by omega) (by omega) (by omega) (by omega)
  refine X.lload 187 i307_185 rfl rfl rfl ?_
  refine X.retl i307_187 rfl t307 ?_
  exact hQ y504 (by first | trivial | omega) 
