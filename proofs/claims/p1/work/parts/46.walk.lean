-- WorkMeterModel.best
theorem c311_1 {s : Nat × (Nat → Int32)} {m0 m : zM} {B : Int} {d : Nat} {Q : Option zV → zM → Prop} (g0 : Nat) (a1 a2 : Int) (hd : 13 ≤ d) (hJ : J m0 B m) (hB : B + 0 ≤ 1000000000) (ha1 : (-2147483648) ≤ a1 ∧ a1 ≤ 2147483647) (ha2 : (-2147483648) ≤ a2 ∧ a2 ≤ 2147483647) (hQ : ∀ (v : Int), (True) → Q (some (zl v)) m) : X (EE s) d 311 0 [(0, zr g0 44), (1, zi a1), (2, zi a2)] [] m Q := by
  refine X.iload_n 1 i311_0 rfl rfl rfl ?_
  refine X.i2l 2 i311_1 rfl rfl ?_
  refine X.lconst (y := 1) 3 i311_2 rfl rfl rfl ?_
  refine X.aload_n 4 i311_3 rfl rfl rfl ?_
  refine X.callv 7 [] [zl 1, zl a1] [(0, zr g0 44)] i311_4 rfl (by decide) rfl rfl (by omega) rfl rfl (by decide) rfl t235 (Nat.le_of_ble_eq_true rfl) (Nat.le_of_ble_eq_true rfl) rfl ?_
  refine X.aload_n 1 i235_0 rfl rfl rfl ?_
  refine X.getF 4 i235_1 rfl rfl (by decide) rfl rfl ?_
  refine X.bipush 6 i235_4 rfl rfl (by decide) ?_
  refine X.lald 7 i235_6 rfl rfl (by decide) rfl (by omega) ?_
  have h501 := r45_17 hJ 4
  refine X.ldc2 10 i235_7 rfl rfl (by decide) ?_
  refine X.lcmp 11 i235_10 rfl rfl (fun z502 hz502 => ?_)
  refine X.ifge 24 14 i235_11 rfl rfl rfl (fun h503 => ?_) (fun h503 => ?_)
  · have h503c : (m 4 45 17) ≥ 64 := by omega
    clear h503 hz502
    refine X.cut [] i235_24 rfl ?_
    refine X.ldc2 27 i235_24 rfl rfl (by decide) ?_
    refine X.l2i 28 i235_27 rfl rfl (by omega) ?_
    refine X.reti i235_28 rfl t235 ?_
    show X (EE s) d 311 7 [(0, zr g0 44), (1, zi a1), (2, zi a2)] [zi 64, zl 1, zl a1] m _
    refine X.i2l 8 i311_7 rfl rfl ?_
    refine X.calls 11 [zl a1, zl 1, zl 64] [] [(0, zl a1), (2, zl 1), (4, zl 64)] i311_8 (by decide) rfl rfl (by omega) rfl rfl t204 (Nat.le_of_ble_eq_true rfl) (Nat.le_of_ble_eq_true rfl) rfl ?_
    refine X.lload_n 1 i204_0 rfl rfl rfl ?_
    refine X.lload_n 2 i204_1 rfl rfl rfl ?_
    refine X.lcmp 3 i204_2 rfl rfl (fun z504 hz504 => ?_)
    refine X.iflt 17 6 i204_3 rfl rfl rfl (fun h505 => ?_) (fun h505 => ?_)
    · have h505c : a1 < 1 := by omega
      clear h505 hz504
      refine X.cut [] i204_17 rfl ?_
      refine X.iconst 18 i204_17 rfl rfl (by decide) ?_
      refine X.retz i204_18 rfl t204 (by omega) ?_
      show X (EE s) d 311 11 [(0, zr g0 44), (1, zi a1), (2, zi a2)] [zi 0] m _
      refine X.ifeq 24 14 i311_11 rfl rfl rfl (fun h506 => ?_) (fun h506 => (by exfalso; omega))
      refine X.cut [] i311_24 rfl ?_
      refine X.ldc2 27 i311_24 rfl rfl (by decide) ?_
      refine X.retl i311_27 rfl t311 ?_
      exact hQ (-1) (by first | trivial | omega) 
    · have h505c : a1 ≥ 1 := by omega
      clear h505 hz504
      refine X.lload_n 7 i204_6 rfl rfl rfl ?_
      refine X.lload 9 i204_7 rfl rfl rfl ?_
      refine X.lcmp 10 i204_9 rfl rfl (fun z507 hz507 => ?_)
      refine X.ifgt 17 13 i204_10 rfl rfl rfl (fun h508 => ?_) (fun h508 => ?_)
      · have h508c : a1 > 64 := by omega
        clear h508 hz507
        refine X.cut [] i204_17 rfl ?_
        refine X.iconst 18 i204_17 rfl rfl (by decide) ?_
        refine X.retz i204_18 rfl t204 (by omega) ?_
        show X (EE s) d 311 11 [(0, zr g0 44), (1, zi a1), (2, zi a2)] [zi 0] m _
        refine X.ifeq 24 14 i311_11 rfl rfl rfl (fun h509 => ?_) (fun h509 => (by exfalso; omega))
        refine X.cut [] i311_24 rfl ?_
        refine X.ldc2 27 i311_24 rfl rfl (by decide) ?_
        refine X.retl i311_27 rfl t311 ?_
        exact hQ (-1) (by first | trivial | omega) 
      · have h508c : a1 ≤ 64 := by omega
        clear h508 hz507
        refine X.iconst 14 i204_13 rfl rfl (by decide) ?_
        refine X.goto 18 i204_14 rfl rfl ?_
        refine X.cut [] i204_18 rfl ?_
        refine X.retz i204_18 rfl t204 (by omega) ?_
        show X (EE s) d 311 11 [(0, zr g0 44), (1, zi a1), (2, zi a2)] [zi 1] m _
        refine X.ifeq 24 14 i311_11 rfl rfl rfl (fun h510 => (by exfalso; omega)) (fun h510 => ?_)
        refine X.iload_n 15 i311_14 rfl rfl rfl ?_
        refine X.i2l 16 i311_15 rfl rfl ?_
        refine X.lconst (y := 0) 17 i311_16 rfl rfl rfl ?_
        refine X.lconst (y := 1) 18 i311_17 rfl rfl rfl ?_
        refine X.calls 21 [zl a2, zl 0, zl 1] [] [(0, zl a2), (2, zl 0), (4, zl 1)] i311_18 (by decide) rfl rfl (by omega) rfl rfl t204 (Nat.le_of_ble_eq_true rfl) (Nat.le_of_ble_eq_true rfl) rfl ?_
        refine X.lload_n 1 i204_0 rfl rfl rfl ?_
        refine X.lload_n 2 i204_1 rfl rfl rfl ?_
        refine X.lcmp 3 i204_2 rfl rfl (fun z511 hz511 => ?_)
        refine X.iflt 17 6 i204_3 rfl rfl rfl (fun h512 => ?_) (fun h512 => ?_)
        · have h512c : a2 < 0 := by omega
          clear h512 hz511
          refine X.cut [] i204_17 rfl ?_
          refine X.iconst 18 i204_17 rfl rfl (by decide) ?_
          refine X.retz i204_18 rfl t204 (by omega) ?_
          show X (EE s) d 311 21 [(0, zr g0 44), (1, zi a1), (2, zi a2)] [zi 0] m _
          refine X.ifne 28 24 i311_21 rfl rfl rfl (fun h513 => (by exfalso; omega)) (fun h513 => ?_)
          refine X.cut [] i311_24 rfl ?_
          refine X.ldc2 27 i311_24 rfl rfl (by decide) ?_
          refine X.retl i311_27 rfl t311 ?_
          exact hQ (-1) (by first | trivial | omega) 
        · have h512c : a2 ≥ 0 := by omega
          clear h512 hz511
          refine X.lload_n 7 i204_6 rfl rfl rfl ?_
          refine X.lload 9 i204_7 rfl rfl rfl ?_
          refine X.lcmp 10 i204_9 rfl rfl (fun z514 hz514 => ?_)
          refine X.ifgt 17 13 i204_10 rfl rfl rfl (fun h515 => ?_) (fun h515 => ?_)
          · have h515c : a2 > 1 := by omega
            clear h515 hz514
            refine X.cut [] i204_17 rfl ?_
            refine X.iconst 18 i204_17 rfl rfl (by decide) ?_
            refine X.retz i204_18 rfl t204 (by omega) ?_
            show X (EE s) d 311 21 [(0, zr g0 44), (1, zi a1), (2, zi a2)] [zi 0] m _
            refine X.ifne 28 24 i311_21 rfl rfl rfl (fun h516 => (by exfalso; omega)) (fun h516 => ?_)
            refine X.cut [] i311_24 rfl ?_
            refine X.ldc2 27 i311_24 rfl rfl (by decide) ?_
            refine X.retl i311_27 rfl t311 ?_
            exact hQ (-1) (by first | trivial | omega) 
          · have h515c : a2 ≤ 1 := by omega
            clear h515 hz514
            refine X.iconst 14 i204_13 rfl rfl (by decide) ?_
            refine X.goto 18 i204_14 rfl rfl ?_
            refine X.cut [] i204_18 rfl ?_
            refine X.retz i204_18 rfl t204 (by omega) ?_
            show X (EE s) d 311 21 [(0, zr g0 44), (1, zi a1), (2, zi a2)] [zi 1] m _
            refine X.ifne 28 24 i311_21 rfl rfl rfl (fun h517 => ?_) (fun h517 => (by exfalso; omega))
            refine X.ldc2 31 i311_28 rfl rfl (by decide) ?_
            refine X.lstore_n 32 [(0, zr g0 44), (1, zi a1), (2, zi a2), (3, zl (-1))] i311_31 rfl rfl rfl ?_
            refine X.iconst 33 i311_32 rfl rfl (by decide) ?_
            refine X.istore 35 [(0, zr g0 44), (1, zi a1), (2, zi a2), (3, zl (-1)), (5, zi 0)] i311_33 rfl rfl rfl ?_
            refine X.iconst 36 i311_35 rfl rfl (by decide) ?_
            refine X.istore 38 [(0, zr g0 44), (1, zi a1), (2, zi a2), (3, zl (-1)), (5, zi 0), (6, zi 0)] i311_36 rfl rfl rfl ?_
            refine l311_38_1 (s := s) (m0 := m0) (m := m) (B := B) (d := d) g0 a1 a2 (by omega) (hJ.up (by omega)) (by omega) (by omega) (by omega) (fun y518 y519 hby518 hby519 => ?_) ((64 - 0 : Int).toNat + 1) (-1) 0 0 (by omega) (by omega) (by omega) (by omega)
            refine X.iload_n 110 i311_109 rfl rfl rfl ?_
            refine X.ifne 117 113 i311_110 rfl rfl rfl (fun h523 => ?_) (fun h523 => ?_)
            · refine X.cut [(0, zr g0 44), (5, zi y519)] i311_117 rfl ?_
              refine X.aload_n 118 i311_117 rfl rfl rfl ?_
              refine X.iload 120 i311_118 rfl rfl rfl ?_
              refine X.iconst 121 i311_120 rfl rfl (by decide) ?_
              refine X.callv 124 [zi y519, zi 0] [] [(0, zr g0 44), (1, zi y519), (2, zi 0)] i311_121 rfl (by decide) rfl rfl (by omega) rfl rfl (by decide) rfl t234 (Nat.le_of_ble_eq_true rfl) (Nat.le_of_ble_eq_true rfl) rfl ?_
              refine X.aload_n 1 i234_0 rfl rfl rfl ?_
              refine X.getF 4 i234_1 rfl rfl (by decide) rfl rfl ?_
              refine X.sipush 7 i234_4 rfl rfl (by decide) ?_
              refine X.bipush 9 i234_7 rfl rfl (by decide) ?_
              refine X.iload_n 10 i234_9 rfl rfl rfl ?_
              refine X.imul 11 i234_10 rfl rfl (by omega) ?_
              refine X.iadd 12 i234_11 rfl rfl (by omega) ?_
              refine X.iload_n 13 i234_12 rfl rfl rfl ?_
              refine X.iadd 14 i234_13 rfl rfl (by omega) ?_
              refine X.lald 15 i234_14 rfl rfl (by decide) rfl (by omega) ?_
              refine X.retl i234_15 rfl t234 ?_
              show X (EE s) d 311 124 [(0, zr g0 44), (5, zi y519)] [zl (m 4 45 ((788 + (6 * y519)) + 0))] m _
              refine X.cut [] i311_124 rfl ?_
              refine X.retl i311_124 rfl t311 ?_
              exact hQ (m 4 45 ((788 + (6 * y519)) + 0)) (by first | trivial | omega) 
            · refine X.lload_n 114 i311_113 rfl rfl rfl ?_
              refine X.goto 124 i311_114 rfl rfl ?_
              refine X.cut [] i311_124 rfl ?_
              refine X.retl i311_124 rfl t311 ?_
              exact hQ y518 (by first | trivial | omega) 
  · have h503c : (m 4 45 17) < 64 := by omega
    clear h503 hz502
    refine X.aload_n 15 i235_14 rfl rfl rfl ?_
    refine X.getF 18 i235_15 rfl rfl (by decide) rfl rfl ?_
    refine X.bipush 20 i235_18 rfl rfl (by decide) ?_
    refine X.lald 21 i235_20 rfl rfl (by decide) rfl (by omega) ?_
    refine X.goto 27 i235_21 rfl rfl ?_
    refine X.cut [] i235_27 rfl ?_
    refine X.l2i 28 i235_27 rfl rfl (by omega) ?_
    refine X.reti i235_28 rfl t235 ?_
    show X (EE s) d 311 7 [(0, zr g0 44), (1, zi a1), (2, zi a2)] [zi (m 4 45 17), zl 1, zl a1] m _
    refine X.i2l 8 i311_7 rfl rfl ?_
    refine X.calls 11 [zl a1, zl 1, zl (m 4 45 17)] [] [(0, zl a1), (2, zl 1), (4, zl (m 4 45 17))] i311_8 (by decide) rfl rfl (by omega) rfl rfl t204 (Nat.le_of_ble_eq_true rfl) (Nat.le_of_ble_eq_true rfl) rfl ?_
    refine X.lload_n 1 i204_0 rfl rfl rfl ?_
    refine X.lload_n 2 i204_1 rfl rfl rfl ?_
    refine X.lcmp 3 i204_2 rfl rfl (fun z524 hz524 => ?_)
    refine X.iflt 17 6 i204_3 rfl rfl rfl (fun h525 => ?_) (fun h525 => ?_)
    · have h525c : a1 < 1 := by omega
      clear h525 hz524
      refine X.cut [] i204_17 rfl ?_
      refine X.iconst 18 i204_17 rfl rfl (by decide) ?_
      refine X.retz i204_18 rfl t204 (by omega) ?_
      show X (EE s) d 311 11 [(0, zr g0 44), (1, zi a1), (2, zi a2)] [zi 0] m _
      refine X.ifeq 24 14 i311_11 rfl rfl rfl (fun h526 => ?_) (fun h526 => (by exfalso; omega))
      refine X.cut [] i311_24 rfl ?_
      refine X.ldc2 27 i311_24 rfl rfl (by decide) ?_
      refine X.retl i311_27 rfl t311 ?_
      exact hQ (-1) (by first | trivial | omega) 
    · have h525c : a1 ≥ 1 := by omega
      clear h525 hz524
      refine X.lload_n 7 i204_6 rfl rfl rfl ?_
      refine X.lload 9 i204_7 rfl rfl rfl ?_
      refine X.lcmp 10 i204_9 rfl rfl (fun z527 hz527 => ?_)
      refine X.ifgt 17 13 i204_10 rfl rfl rfl (fun h528 => ?_) (fun h528 => ?_)
      · have h528c : a1 > (m 4 45 17) := by omega
        clear h528 hz527
        refine X.cut [] i204_17 rfl ?_
        refine X.iconst 18 i204_17 rfl rfl (by decide) ?_
        refine X.retz i204_18 rfl t204 (by omega) ?_
        show X (EE s) d 311 11 [(0, zr g0 44), (1, zi a1), (2, zi a2)] [zi 0] m _
        refine X.ifeq 24 14 i311_11 rfl rfl rfl (fun h529 => ?_) (fun h529 => (by exfalso; omega))
        refine X.cut [] i311_24 rfl ?_
        refine X.ldc2 27 i311_24 rfl rfl (by decide) ?_
        refine X.retl i311_27 rfl t311 ?_
        exact hQ (-1) (by first | trivial | omega) 
      · have h528c : a1 ≤ (m 4 45 17) := by omega
        clear h528 hz527
        refine X.iconst 14 i204_13 rfl rfl (by decide) ?_
        refine X.goto 18 i204_14 rfl rfl ?_
        refine X.cut [] i204_18 rfl ?_
        refine X.retz i204_18 rfl t204 (by omega) ?_
        show X (EE s) d 311 11 [(0, zr g0 44), (1, zi a1), (2, zi a2)] [zi 1] m _
        refine X.ifeq 24 14 i311_11 rfl rfl rfl (fun h530 => (by exfalso; omega)) (fun h530 => ?_)
        refine X.iload_n 15 i311_14 rfl rfl rfl ?_
        refine X.i2l 16 i311_15 rfl rfl ?_
        refine X.lconst (y := 0) 17 i311_16 rfl rfl rfl ?_
        refine X.lconst (y := 1) 18 i311_17 rfl rfl rfl ?_
        refine X.calls 21 [zl a2, zl 0, zl 1] [] [(0, zl a2), (2, zl 0), (4, zl 1)] i311_18 (by decide) rfl rfl (by omega) rfl rfl t204 (Nat.le_of_ble_eq_true rfl) (Nat.le_of_ble_eq_true rfl) rfl ?_
        refine X.lload_n 1 i204_0 rfl rfl rfl ?_
        refine X.lload_n 2 i204_1 rfl rfl rfl ?_
        refine X.lcmp 3 i204_2 rfl rfl (fun z531 hz531 => ?_)
        refine X.iflt 17 6 i204_3 rfl rfl rfl (fun h532 => ?_) (fun h532 => ?_)
        · have h532c : a2 < 0 := by omega
          clear h532 hz531
          refine X.cut [] i204_17 rfl ?_
          refine X.iconst 18 i204_17 rfl rfl (by decide) ?_
          refine X.retz i204_18 rfl t204 (by omega) ?_
          show X (EE s) d 311 21 [(0, zr g0 44), (1, zi a1), (2, zi a2)] [zi 0] m _
          refine X.ifne 28 24 i311_21 rfl rfl rfl (fun h533 => (by exfalso; omega)) (fun h533 => ?_)
          refine X.cut [] i311_24 rfl ?_
          refine X.ldc2 27 i311_24 rfl rfl (by decide) ?_
          refine X.retl i311_27 rfl t311 ?_
          exact hQ (-1) (by first | trivial | omega) 
        · have h532c : a2 ≥ 0 := by omega
          clear h532 hz531
          refine X.lload_n 7 i204_6 rfl rfl rfl ?_
          refine X.lload 9 i204_7 rfl rfl rfl ?_
          refine X.lcmp 10 i204_9 rfl rfl (fun z534 hz534 => ?_)
          refine X.ifgt 17 13 i204_10 rfl rfl rfl (fun h535 => ?_) (fun h535 => ?_)
          · have h535c : a2 > 1 := by omega
            clear h535 hz534
            refine X.cut [] i204_17 rfl ?_
            refine X.iconst 18 i204_17 rfl rfl (by decide) ?_
            refine X.retz i204_18 rfl t204 (by omega) ?_
            show X (EE s) d 311 21 [(0, zr g0 44), (1, zi a1), (2, zi a2)] [zi 0] m _
            refine X.ifne 28 24 i311_21 rfl rfl rfl (fun h536 => (by exfalso; omega)) (fun h536 => ?_)
            refine X.cut [] i311_24 rfl ?_
            refine X.ldc2 27 i311_24 rfl rfl (by decide) ?_
            refine X.retl i311_27 rfl t311 ?_
            exact hQ (-1) (by first | trivial | omega) 
          · have h535c : a2 ≤ 1 := by omega
            clear h535 hz534
            refine X.iconst 14 i204_13 rfl rfl (by decide) ?_
            refine X.goto 18 i204_14 rfl rfl ?_
            refine X.cut [] i204_18 rfl ?_
            refine X.retz i204_18 rfl t204 (by omega) ?_
            show X (EE s) d 311 21 [(0, zr g0 44), (1, zi a1), (2, zi a2)] [zi 1] m _
            refine X.ifne 28 24 i311_21 rfl rfl rfl (fun h537 => ?_) (fun h537 => (by exfalso; omega))
            refine X.ldc2 31 i311_28 rfl rfl (by decide) ?_
            refine X.lstore_n 32 [(0, zr g0 44), (1, zi a1), (2, zi a2), (3, zl (-1))] i311_31 rfl rfl rfl ?_
            refine X.iconst 33 i311_32 rfl rfl (by decide) ?_
            refine X.istore 35 [(0, zr g0 44), (1, zi a1), (2, zi a2), (3, zl (-1)), (5, zi 0)] i311_33 rfl rfl rfl ?_
            refine X.iconst 36 i311_35 rfl rfl (by decide) ?_
            refine X.istore 38 [(0, zr g0 44), (1, zi a1), (2, zi a2), (3, zl (-1)), (5, zi 0), (6, zi 0)] i311_36 rfl rfl rfl ?_
            refine l311_38_1 (s := s) (m0 := m0) (m := m) (B := B) (d := d) g0 a1 a2 (by omega) (hJ.up (by omega)) (by omega) (by omega) (by omega) (fun y538 y539 hby538 hby539 => ?_) ((64 - 0 : Int).toNat + 1) (-1) 0 0 (by omega) (by omega) (by omega) (by omega)
            refine X.iload_n 110 i311_109 rfl rfl rfl ?_
            refine X.ifne 117 113 i311_110 rfl rfl rfl (fun h543 => ?_) (fun h543 => ?_)
            · refine X.cut [(0, zr g0 44), (5, zi y539)] i311_117 rfl ?_
              refine X.aload_n 118 i311_117 rfl rfl rfl ?_
              refine X.iload 120 i311_118 rfl rfl rfl ?_
              refine X.iconst 121 i311_120 rfl rfl (by decide) ?_
              refine X.callv 124 [zi y539, zi 0] [] [(0, zr g0 44), (1, zi y539), (2, zi 0)] i311_121 rfl (by decide) rfl rfl (by omega) rfl rfl (by decide) rfl t234 (Nat.le_of_ble_eq_true rfl) (Nat.le_of_ble_eq_true rfl) rfl ?_
              refine X.aload_n 1 i234_0 rfl rfl rfl ?_
              refine X.getF 4 i234_1 rfl rfl (by decide) rfl rfl ?_
              refine X.sipush 7 i234_4 rfl rfl (by decide) ?_
              refine X.bipush 9 i234_7 rfl rfl (by decide) ?_
              refine X.iload_n 10 i234_9 rfl rfl rfl ?_
              refine X.imul 11 i234_10 rfl rfl (by omega) ?_
              refine X.iadd 12 i234_11 rfl rfl (by omega) ?_
              refine X.iload_n 13 i234_12 rfl rfl rfl ?_
              refine X.iadd 14 i234_13 rfl rfl (by omega) ?_
              refine X.lald 15 i234_14 rfl rfl (by decide) rfl (by omega) ?_
              refine X.retl i234_15 rfl t234 ?_
              show X (EE s) d 311 124 [(0, zr g0 44), (5, zi y539)] [zl (m 4 45 ((788 + (6 * y539)) + 0))] m _
              refine X.cut [] i311_124 rfl ?_
              refine X.retl i311_124 rfl t311 ?_
              exact hQ (m 4 45 ((788 + (6 * y539)) + 0)) (by first | trivial | omega) 
            · refine X.lload_n 114 i311_113 rfl rfl rfl ?_
              refine X.goto 124 i311_114 rfl rfl ?_
              refine X.cut [] i311_124 rfl ?_
              refine X.retl i311_124 rfl t311 ?_
              exact hQ y538 (by first | trivial | omega) 
theorem l189_17_1 {s : Nat × (Nat → Int32)} {m0 m : zM} {B : Int} {d : Nat} {Q : Option zV → zM → Prop} (g0 : Nat) (y1 y2 y5 : Int) (hd : 13 ≤ d) (hJ : J m0 B m) (hB9 : B ≤ 1000000000) (hy1 : (-2147483648) ≤ y1 ∧ y1 ≤ 2147483647) (hy2 : (-2147483648) ≤ y2 ∧ y2 ≤ 2147483647) (hy5 : 0 ≤ y5 ∧ y5 ≤ 64)
    (K77 : ∀ (x3 : Int) , (True) → (y5 ≤ m 0 27 2) → X (EE s) d 189 77 [(3, zl x3)] [] m Q) :
    ∀ (n : Nat) (y3 y6 : Int) , (0 ≤ y6 ∧ y6 ≤ 64) → (y5 ≤ m 0 27 2) → 64 - y6 < (n : Int) → X (EE s) d 189 17 [(0, zr g0 40), (1, zi y1), (2, zi y2), (3, zl y3), (5, zi y5), (6, zi y6)] [] m Q := by
  intro n
  induction n with
  | zero =>
    intro y3 y6 hy6 hr0 hn
    exfalso
    omega
  | succ n ih =>
    intro y3 y6 hy6 hr0 hn
    refine X.iload 19 i189_17 rfl rfl rfl ?_
    refine X.iload 21 i189_19 rfl rfl rfl ?_
    refine X.icmpge 77 24 i189_21 rfl rfl rfl (fun h515 => ?_) (fun h515 => ?_)
    · refine X.cut [(3, zl y3)] i189_77 rfl ?_
      exact K77 y3 (by first | trivial | omega) (by omega)
    · refine X.aload_n 25 i189_24 rfl rfl rfl ?_
      refine X.getF 28 i189_25 rfl rfl (by decide) rfl rfl ?_
      refine X.getR 31 i189_28 rfl rfl (by decide) rfl rfl ?_
      refine X.iload 33 i189_31 rfl rfl rfl ?_
      refine X.iconst 34 i189_33 rfl rfl (by decide) ?_
      refine X.callv 37 [zi y6, zi 0] [] [(0, zr 0 27), (1, zi y6), (2, zi 0)] i189_34 rfl (by decide) rfl rfl (by omega) rfl rfl (by decide) rfl t67 (Nat.le_of_ble_eq_true rfl) (Nat.le_of_ble_eq_true rfl) rfl ?_
      refine X.aload_n 1 i67_0 rfl rfl rfl ?_
      refine X.getR 4 i67_1 rfl rfl (by decide) rfl rfl ?_
      refine X.aload_n 5 i67_4 rfl rfl rfl ?_
      refine X.getI 8 2 i67_5 rfl rfl (by decide) rfl rfl rfl ?_
      have h516 := r27_2 hJ 0
      refine X.iconst 9 i67_8 rfl rfl (by decide) ?_
      refine X.isub 10 i67_9 rfl rfl (by omega) ?_
      refine X.iload_n 11 i67_10 rfl rfl rfl ?_
      refine X.isub 12 i67_11 rfl rfl (by omega) ?_
      refine X.bipush 14 i67_12 rfl rfl (by decide) ?_
      refine X.irem 15 i67_14 rfl rfl (by omega) ?_
      refine X.bipush 17 i67_15 rfl rfl (by decide) ?_
      refine X.imul 18 i67_17 rfl rfl (by omega) ?_
      refine X.iload_n 19 i67_18 rfl rfl rfl ?_
      refine X.iadd 20 i67_19 rfl rfl (by omega) ?_
      refine X.lald 21 i67_20 rfl rfl (by decide) rfl (by omega) ?_
      refine X.retl i67_21 rfl t67 ?_
      show X (EE s) d 189 37 [(0, zr g0 40), (1, zi y1), (2, zi y2), (3, zl y3), (5, zi y5), (6, zi y6)] [zl (m 0 28 ((((((m 0 27 2) - 1) - y6) % 64) * 6) + 0))] m _
      refine X.lstore 39 [(0, zr g0 40), (1, zi y1), (2, zi y2), (3, zl y3), (5, zi y5), (6, zi y6), (7, zl (m 0 28 ((((((m 0 27 2) - 1) - y6) % 64) * 6) + 0)))] i189_37 rfl rfl rfl ?_
      refine X.lload 41 i189_39 rfl rfl rfl ?_
      refine X.iload_n 42 i189_41 rfl rfl rfl ?_
      refine X.i2l 43 i189_42 rfl rfl ?_
      refine X.lcmp 44 i189_43 rfl rfl (fun z517 hz517 => ?_)
      refine X.ifle 71 47 i189_44 rfl rfl rfl (fun h518 => ?_) (fun h518 => ?_)
      · have h518c : (m 0 28 ((((((m 0 27 2) - 1) - y6) % 64) * 6) + 0)) ≤ y1 := by omega
        clear h518 hz517
        refine X.cut [(0, zr g0 40), (1, zi y1), (2, zi y2), (3, zl y3), (5, zi y5), (6, zi y6)] i189_71 rfl ?_
        refine X.iinc 74 [(0, zr g0 40), (1, zi y1), (2, zi y2), (3, zl y3), (5, zi y5), (6, zi (y6 + 1))] i189_71 rfl rfl rfl (by omega) rfl ?_
        refine X.goto 17 i189_74 rfl rfl ?_
        exact ih y3 (y6 + 1) (by omega) (by omega) (by omega)
      · have h518c : (m 0 28 ((((((m 0 27 2) - 1) - y6) % 64) * 6) + 0)) > y1 := by omega
        clear h518 hz517
        refine X.lload 49 i189_47 rfl rfl rfl ?_
        refine X.iload_n 50 i189_49 rfl rfl rfl ?_
        refine X.i2l 51 i189_50 rfl rfl ?_
        refine X.lcmp 52 i189_51 rfl rfl (fun z519 hz519 => ?_)
        refine X.ifgt 71 55 i189_52 rfl rfl rfl (fun h520 => ?_) (fun h520 => ?_)
        · have h520c : (m 0 28 ((((((m 0 27 2) - 1) - y6) % 64) * 6) + 0)) > y2 := by omega
          clear h520 hz519
          refine X.cut [(0, zr g0 40), (1, zi y1), (2, zi y2), (3, zl y3), (5, zi y5), (6, zi y6)] i189_71 rfl ?_
          refine X.iinc 74 [(0, zr g0 40), (1, zi y1), (2, zi y2), (3, zl y3), (5, zi y5), (6, zi (y6 + 1))] i189_71 rfl rfl rfl (by omega) rfl ?_
          refine X.goto 17 i189_74 rfl rfl ?_
          exact ih y3 (y6 + 1) (by omega) (by omega) (by omega)
        · have h520c : (m 0 28 ((((((m 0 27 2) - 1) - y6) % 64) * 6) + 0)) ≤ y2 := by omega
          clear h520 hz519
          refine X.lload_n 56 i189_55 rfl rfl rfl ?_
          refine X.aload_n 57 i189_56 rfl rfl rfl ?_
          refine X.getF 60 i189_57 rfl rfl (by decide) rfl rfl ?_
          refine X.getR 63 i189_60 rfl rfl (by decide) rfl rfl ?_
          refine X.iload 65 i189_63 rfl rfl rfl ?_
          refine X.iconst 66 i189_65 rfl rfl (by decide) ?_
          refine X.callv 69 [zi y6, zi 1] [zl y3] [(0, zr 0 27), (1, zi y6), (2, zi 1)] i189_66 rfl (by decide) rfl rfl (by omega) rfl rfl (by decide) rfl t67 (Nat.le_of_ble_eq_true rfl) (Nat.le_of_ble_eq_true rfl) rfl ?_
          refine X.aload_n 1 i67_0 rfl rfl rfl ?_
          refine X.getR 4 i67_1 rfl rfl (by decide) rfl rfl ?_
          refine X.aload_n 5 i67_4 rfl rfl rfl ?_
          refine X.getI 8 2 i67_5 rfl rfl (by decide) rfl rfl rfl ?_
          refine X.iconst 9 i67_8 rfl rfl (by decide) ?_
          refine X.isub 10 i67_9 rfl rfl (by omega) ?_
          refine X.iload_n 11 i67_10 rfl rfl rfl ?_
          refine X.isub 12 i67_11 rfl rfl (by omega) ?_
          refine X.bipush 14 i67_12 rfl rfl (by decide) ?_
          refine X.irem 15 i67_14 rfl rfl (by omega) ?_
          refine X.bipush 17 i67_15 rfl rfl (by decide) ?_
          refine X.imul 18 i67_17 rfl rfl (by omega) ?_
          refine X.iload_n 19 i67_18 rfl rfl rfl ?_
          refine X.iadd 20 i67_19 rfl rfl (by omega) ?_
          refine X.lald 21 i67_20 rfl rfl (by decide) rfl (by omega) ?_
          refine X.retl i67_21 rfl t67 ?_
          show X (EE s) d 189 69 [(0, zr g0 40), (1, zi y1), (2, zi y2), (3, zl y3), (5, zi y5), (6, zi y6), (7, zl (m 0 28 ((((((m 0 27 2) - 1) - y6) % 64) * 6) + 0)))] [zl (m 0 28 ((((((m 0 27 2) - 1) - y6) % 64) * 6) + 1)), zl y3] m _
          refine X.llF 70 .ladd (fun x y => x + y) i189_69 rfl rfl rfl (fun _ _ => rfl) (fun z521 hz521 => ?_)
          refine X.lstore_n 71 [(0, zr g0 40), (1, zi y1), (2, zi y2), (3, zl z521), (5, zi y5), (6, zi y6), (7, zl (m 0 28 ((((((m 0 27 2) - 1) - y6) % 64) * 6) + 0)))] i189_70 rfl rfl rfl ?_
          refine X.cut [(0, zr g0 40), (1, zi y1), (2, zi y2), (3, zl z521), (5, zi y5), (6, zi y6)] i189_71 rfl ?_
          refine X.iinc 74 [(0, zr g0 40), (1, zi y1), (2, zi y2), (3, zl z521), (5, zi y5), (6, zi (y6 + 1))] i189_71 rfl rfl rfl (by omega) rfl ?_
          refine X.goto 17 i189_74 rfl rfl ?_
          exact ih z521 (y6 + 1) (by omega) (by omega) (by omega)
-- WorkMeter.between
theorem c189_1 {s : Nat × (Nat → Int32)} {m0 m : zM} {B : Int} {d : Nat} {Q : Option zV → zM → Prop} (g0 : Nat) (a1 a2 : Int) (hd : 14 ≤ d) (hJ : J m0 B m) (hB : B + 0 ≤ 1000000000) (ha1 : (-2147483648) ≤ a1 ∧ a1 ≤ 2147483647) (ha2 : (-2147483648) ≤ a2 ∧ a2 ≤ 2147483647) (hQ : ∀ (v : Int), (True) → Q (some (zl v)) m) : X (EE s) d 189 0 [(0, zr g0 40), (1, zi a1), (2, zi a2)] [] m Q := by
  refine X.lconst (y := 0) 1 i189_0 rfl rfl rfl ?_
  refine X.lstore_n 2 [(0, zr g0 40), (1, zi a1), (2, zi a2), (3, zl 0)] i189_1 rfl rfl rfl ?_
  refine X.aload_n 3 i189_2 rfl rfl rfl ?_
  refine X.getF 6 i189_3 rfl rfl (by decide) rfl rfl ?_
  refine X.getR 9 i189_6 rfl rfl (by decide) rfl rfl ?_
  refine X.callv 12 [] [] [(0, zr 0 27)] i189_9 rfl (by decide) rfl rfl (by omega) rfl rfl (by decide) rfl t66 (Nat.le_of_ble_eq_true rfl) (Nat.le_of_ble_eq_true rfl) rfl ?_
  refine X.aload_n 1 i66_0 rfl rfl rfl ?_
  refine X.getI 4 2 i66_1 rfl rfl (by decide) rfl rfl rfl ?_
  have h501 := r27_2 hJ 0
  refine X.bipush 6 i66_4 rfl rfl (by decide) ?_
  refine X.minI 9 i66_6 rfl rfl (by omega) (Nat.le_of_ble_eq_true rfl) ?_
  refine X.reti i66_9 rfl t66 ?_
  show X (EE s) d 189 12 [(0, zr g0 40), (1, zi a1), (2, zi a2), (3, zl 0)] [zi (min (m 0 27 2) 64)] m _
  refine X.istore 14 [(0, zr g0 40), (1, zi a1), (2, zi a2), (3, zl 0), (5, zi (min (m 0 27 2) 64))] i189_12 rfl rfl rfl ?_
  refine X.iconst 15 i189_14 rfl rfl (by decide) ?_
  refine X.istore 17 [(0, zr g0 40), (1, zi a1), (2, zi a2), (3, zl 0), (5, zi (min (m 0 27 2) 64)), (6, zi 0)] i189_15 rfl rfl rfl ?_
  refine l189_17_1 (s := s) (m0 := m0) (m := m) (B := B) (d := d) g0 a1 a2 (min (m 0 27 2) 64) (by omega) (hJ.up (by omega)) (by omega) (by omega) (by omega) (by omega) (fun y502 hby502 hrlm5030 => ?_) ((64 - 0 : Int).toNat + 1) 0 0 (by omega) (by omega) (by omega)
  refine X.lload_n 78 i189_77 rfl rfl rfl ?_
  refine X.retl i189_78 rfl t189 ?_
  exact hQ y502 (by first | trivial | omega) 
theorem l312_5_1 {s : Nat × (Nat → Int32)} {m0 m : zM} {B : Int} {d : Nat} {Q : Option zV → zM → Prop} (g0 : Nat) (y1 y2 : Int) (hd : 13 ≤ d) (hJ : J m0 B m) (hB9 : B ≤ 1000000000) (hy1 : (-2147483648) ≤ y1 ∧ y1 ≤ 2147483647) (hy2 : (-2147483648) ≤ y2 ∧ y2 ≤ 2147483647)
    (K60 : ∀ (x3 : Int) , (True) → X (EE s) d 312 60 [(3, zl x3)] [] m Q) :
    ∀ (n : Nat) (y3 y5 : Int) , (0 ≤ y5 ∧ y5 ≤ 64) → 64 - y5 < (n : Int) → X (EE s) d 312 5 [(0, zr g0 44), (1, zi y1), (2, zi y2), (3, zl y3), (5, zi y5)] [] m Q := by
  intro n
  induction n with
  | zero =>
    intro y3 y5 hy5 hn
    exfalso
    omega
  | succ n ih =>
    intro y3 y5 hy5 hn
    refine X.iload 7 i312_5 rfl rfl rfl ?_
    refine X.aload_n 8 i312_7 rfl rfl rfl ?_
    refine X.callv 11 [] [zi y5] [(0, zr g0 44)] i312_8 rfl (by decide) rfl rfl (by omega) rfl rfl (by decide) rfl t235 (Nat.le_of_ble_eq_true rfl) (Nat.le_of_ble_eq_true rfl) rfl ?_
    refine X.aload_n 1 i235_0 rfl rfl rfl ?_
    refine X.getF 4 i235_1 rfl rfl (by decide) rfl rfl ?_
    refine X.bipush 6 i235_4 rfl rfl (by decide) ?_
    refine X.lald 7 i235_6 rfl rfl (by decide) rfl (by omega) ?_
    have h538 := r45_17 hJ 4
    refine X.ldc2 10 i235_7 rfl rfl (by decide) ?_
    refine X.lcmp 11 i235_10 rfl rfl (fun z539 hz539 => ?_)
    refine X.ifge 24 14 i235_11 rfl rfl rfl (fun h540 => ?_) (fun h540 => ?_)
    · have h540c : (m 4 45 17) ≥ 64 := by omega
      clear h540 hz539
      refine X.cut [] i235_24 rfl ?_
      refine X.ldc2 27 i235_24 rfl rfl (by decide) ?_
      refine X.l2i 28 i235_27 rfl rfl (by omega) ?_
      refine X.reti i235_28 rfl t235 ?_
      show X (EE s) d 312 11 [(0, zr g0 44), (1, zi y1), (2, zi y2), (3, zl y3), (5, zi y5)] [zi 64, zi y5] m _
      refine X.icmpge 60 14 i312_11 rfl rfl rfl (fun h541 => ?_) (fun h541 => ?_)
      · refine X.cut [(3, zl y3)] i312_60 rfl ?_
        exact K60 y3 (by first | trivial | omega)
      · refine X.lload_n 15 i312_14 rfl rfl rfl ?_
        refine X.aload_n 16 i312_15 rfl rfl rfl ?_
        refine X.iload 18 i312_16 rfl rfl rfl ?_
        refine X.iconst 19 i312_18 rfl rfl (by decide) ?_
        refine X.callv 22 [zi y5, zi 0] [zl y3] [(0, zr g0 44), (1, zi y5), (2, zi 0)] i312_19 rfl (by decide) rfl rfl (by omega) rfl rfl (by decide) rfl t234 (Nat.le_of_ble_eq_true rfl) (Nat.le_of_ble_eq_true rfl) rfl ?_
        refine X.aload_n 1 i234_0 rfl rfl rfl ?_
        refine X.getF 4 i234_1 rfl rfl (by decide) rfl rfl ?_
        refine X.sipush 7 i234_4 rfl rfl (by decide) ?_
        refine X.bipush 9 i234_7 rfl rfl (by decide) ?_
        refine X.iload_n 10 i234_9 rfl rfl rfl ?_
        refine X.imul 11 i234_10 rfl rfl (by omega) ?_
        refine X.iadd 12 i234_11 rfl rfl (by omega) ?_
        refine X.iload_n 13 i234_12 rfl rfl rfl ?_
        refine X.iadd 14 i234_13 rfl rfl (by omega) ?_
        refine X.lald 15 i234_14 rfl rfl (by decide) rfl (by omega) ?_
        refine X.retl i234_15 rfl t234 ?_
        show X (EE s) d 312 22 [(0, zr g0 44), (1, zi y1), (2, zi y2), (3, zl y3), (5, zi y5)] [zl (m 4 45 ((788 + (6 * y5)) + 0)), zl y3] m _
        refine X.iload_n 23 i312_22 rfl rfl rfl ?_
        refine X.i2l 24 i312_23 rfl rfl ?_
        refine X.lcmp 25 i312_24 rfl rfl (fun z542 hz542 => ?_)
        refine X.ifle 51 28 i312_25 rfl rfl rfl (fun h543 => ?_) (fun h543 => ?_)
        · have h543c : (m 4 45 ((788 + (6 * y5)) + 0)) ≤ y1 := by omega
          clear h543 hz542
          refine X.cut [(0, zr g0 44), (1, zi y1), (2, zi y2), (5, zi y5)] i312_51 rfl ?_
          refine X.lconst (y := 0) 52 i312_51 rfl rfl rfl ?_
          refine X.llF 53 .ladd (fun x y => x + y) i312_52 rfl rfl rfl (fun _ _ => rfl) (fun z544 hz544 => ?_)
          refine X.lstore_n 54 [(0, zr g0 44), (1, zi y1), (2, zi y2), (3, zl z544), (5, zi y5)] i312_53 rfl rfl rfl ?_
          refine X.iinc 57 [(0, zr g0 44), (1, zi y1), (2, zi y2), (3, zl z544), (5, zi (y5 + 1))] i312_54 rfl rfl rfl (by omega) rfl ?_
          refine X.goto 5 i312_57 rfl rfl ?_
          exact ih z544 (y5 + 1) (by omega) (by omega)
        · have h543c : (m 4 45 ((788 + (6 * y5)) + 0)) > y1 := by omega
          clear h543 hz542
          refine X.aload_n 29 i312_28 rfl rfl rfl ?_
          refine X.iload 31 i312_29 rfl rfl rfl ?_
          refine X.iconst 32 i312_31 rfl rfl (by decide) ?_
          refine X.callv 35 [zi y5, zi 0] [zl y3] [(0, zr g0 44), (1, zi y5), (2, zi 0)] i312_32 rfl (by decide) rfl rfl (by omega) rfl rfl (by decide) rfl t234 (Nat.le_of_ble_eq_true rfl) (Nat.le_of_ble_eq_true rfl) rfl ?_
          refine X.aload_n 1 i234_0 rfl rfl rfl ?_
          refine X.getF 4 i234_1 rfl rfl (by decide) rfl rfl ?_
          refine X.sipush 7 i234_4 rfl rfl (by decide) ?_
          refine X.bipush 9 i234_7 rfl rfl (by decide) ?_
          refine X.iload_n 10 i234_9 rfl rfl rfl ?_
          refine X.imul 11 i234_10 rfl rfl (by omega) ?_
          refine X.iadd 12 i234_11 rfl rfl (by omega) ?_
          refine X.iload_n 13 i234_12 rfl rfl rfl ?_
          refine X.iadd 14 i234_13 rfl rfl (by omega) ?_
          refine X.lald 15 i234_14 rfl rfl (by decide) rfl (by omega) ?_
          refine X.retl i234_15 rfl t234 ?_
          show X (EE s) d 312 35 [(0, zr g0 44), (1, zi y1), (2, zi y2), (3, zl y3), (5, zi y5)] [zl (m 4 45 ((788 + (6 * y5)) + 0)), zl y3] m _
          refine X.iload_n 36 i312_35 rfl rfl rfl ?_
          refine X.i2l 37 i312_36 rfl rfl ?_
          refine X.lcmp 38 i312_37 rfl rfl (fun z545 hz545 => ?_)
          refine X.ifgt 51 41 i312_38 rfl rfl rfl (fun h546 => ?_) (fun h546 => ?_)
          · have h546c : (m 4 45 ((788 + (6 * y5)) + 0)) > y2 := by omega
            clear h546 hz545
            refine X.cut [(0, zr g0 44), (1, zi y1), (2, zi y2), (5, zi y5)] i312_51 rfl ?_
            refine X.lconst (y := 0) 52 i312_51 rfl rfl rfl ?_
            refine X.llF 53 .ladd (fun x y => x + y) i312_52 rfl rfl rfl (fun _ _ => rfl) (fun z547 hz547 => ?_)
            refine X.lstore_n 54 [(0, zr g0 44), (1, zi y1), (2, zi y2), (3, zl z547), (5, zi y5)] i312_53 rfl rfl rfl ?_
            refine X.iinc 57 [(0, zr g0 44), (1, zi y1), (2, zi y2), (3, zl z547), (5, zi (y5 + 1))] i312_54 rfl rfl rfl (by omega) rfl ?_
            refine X.goto 5 i312_57 rfl rfl ?_
            exact ih z547 (y5 + 1) (by omega) (by omega)
          · have h546c : (m 4 45 ((788 + (6 * y5)) + 0)) ≤ y2 := by omega
            clear h546 hz545
            refine X.aload_n 42 i312_41 rfl rfl rfl ?_
            refine X.iload 44 i312_42 rfl rfl rfl ?_
            refine X.iconst 45 i312_44 rfl rfl (by decide) ?_
            refine X.callv 48 [zi y5, zi 1] [zl y3] [(0, zr g0 44), (1, zi y5), (2, zi 1)] i312_45 rfl (by decide) rfl rfl (by omega) rfl rfl (by decide) rfl t234 (Nat.le_of_ble_eq_true rfl) (Nat.le_of_ble_eq_true rfl) rfl ?_
            refine X.aload_n 1 i234_0 rfl rfl rfl ?_
            refine X.getF 4 i234_1 rfl rfl (by decide) rfl rfl ?_
            refine X.sipush 7 i234_4 rfl rfl (by decide) ?_
            refine X.bipush 9 i234_7 rfl rfl (by decide) ?_
            refine X.iload_n 10 i234_9 rfl rfl rfl ?_
            refine X.imul 11 i234_10 rfl rfl (by omega) ?_
            refine X.iadd 12 i234_11 rfl rfl (by omega) ?_
            refine X.iload_n 13 i234_12 rfl rfl rfl ?_
            refine X.iadd 14 i234_13 rfl rfl (by omega) ?_
            refine X.lald 15 i234_14 rfl rfl (by decide) rfl (by omega) ?_
            refine X.retl i234_15 rfl t234 ?_
            show X (EE s) d 312 48 [(0, zr g0 44), (1, zi y1), (2, zi y2), (3, zl y3), (5, zi y5)] [zl (m 4 45 ((788 + (6 * y5)) + 1)), zl y3] m _
            refine X.goto 52 i312_48 rfl rfl ?_
            refine X.cut [(0, zr g0 44), (1, zi y1), (2, zi y2), (5, zi y5)] i312_52 rfl ?_
            refine X.llF 53 .ladd (fun x y => x + y) i312_52 rfl rfl rfl (fun _ _ => rfl) (fun z548 hz548 => ?_)
            refine X.lstore_n 54 [(0, zr g0 44), (1, zi y1), (2, zi y2), (3, zl z548), (5, zi y5)] i312_53 rfl rfl rfl ?_
            refine X.iinc 57 [(0, zr g0 44), (1, zi y1), (2, zi y2), (3, zl z548), (5, zi (y5 + 1))] i312_54 rfl rfl rfl (by omega) rfl ?_
            refine X.goto 5 i312_57 rfl rfl ?_
            exact ih z548 (y5 + 1) (by omega) (by omega)
    · have h540c : (m 4 45 17) < 64 := by omega
      clear h540 hz539
      refine X.aload_n 15 i235_14 rfl rfl rfl ?_
      refine X.getF 18 i235_15 rfl rfl (by decide) rfl rfl ?_
      refine X.bipush 20 i235_18 rfl rfl (by decide) ?_
      refine X.lald 21 i235_20 rfl rfl (by decide) rfl (by omega) ?_
      refine X.goto 27 i235_21 rfl rfl ?_
      refine X.cut [] i235_27 rfl ?_
      refine X.l2i 28 i235_27 rfl rfl (by omega) ?_
      refine X.reti i235_28 rfl t235 ?_
      show X (EE s) d 312 11 [(0, zr g0 44), (1, zi y1), (2, zi y2), (3, zl y3), (5, zi y5)] [zi (m 4 45 17), zi y5] m _
      refine X.icmpge 60 14 i312_11 rfl rfl rfl (fun h549 => ?_) (fun h549 => ?_)
      · refine X.cut [(3, zl y3)] i312_60 rfl ?_
        exact K60 y3 (by first | trivial | omega)
      · refine X.lload_n 15 i312_14 rfl rfl rfl ?_
        refine X.aload_n 16 i312_15 rfl rfl rfl ?_
        refine X.iload 18 i312_16 rfl rfl rfl ?_
        refine X.iconst 19 i312_18 rfl rfl (by decide) ?_
        refine X.callv 22 [zi y5, zi 0] [zl y3] [(0, zr g0 44), (1, zi y5), (2, zi 0)] i312_19 rfl (by decide) rfl rfl (by omega) rfl rfl (by decide) rfl t234 (Nat.le_of_ble_eq_true rfl) (Nat.le_of_ble_eq_true rfl) rfl ?_
        refine X.aload_n 1 i234_0 rfl rfl rfl ?_
        refine X.getF 4 i234_1 rfl rfl (by decide) rfl rfl ?_
        refine X.sipush 7 i234_4 rfl rfl (by decide) ?_
        refine X.bipush 9 i234_7 rfl rfl (by decide) ?_
        refine X.iload_n 10 i234_9 rfl rfl rfl ?_
        refine X.imul 11 i234_10 rfl rfl (by omega) ?_
        refine X.iadd 12 i234_11 rfl rfl (by omega) ?_
        refine X.iload_n 13 i234_12 rfl rfl rfl ?_
        refine X.iadd 14 i234_13 rfl rfl (by omega) ?_
        refine X.lald 15 i234_14 rfl rfl (by decide) rfl (by omega) ?_
        refine X.retl i234_15 rfl t234 ?_
        show X (EE s) d 312 22 [(0, zr g0 44), (1, zi y1), (2, zi y2), (3, zl y3), (5, zi y5)] [zl (m 4 45 ((788 + (6 * y5)) + 0)), zl y3] m _
        refine X.iload_n 23 i312_22 rfl rfl rfl ?_
        refine X.i2l 24 i312_23 rfl rfl ?_
        refine X.lcmp 25 i312_24 rfl rfl (fun z550 hz550 => ?_)
        refine X.ifle 51 28 i312_25 rfl rfl rfl (fun h551 => ?_) (fun h551 => ?_)
        · have h551c : (m 4 45 ((788 + (6 * y5)) + 0)) ≤ y1 := by omega
          clear h551 hz550
          refine X.cut [(0, zr g0 44), (1, zi y1), (2, zi y2), (5, zi y5)] i312_51 rfl ?_
          refine X.lconst (y := 0) 52 i312_51 rfl rfl rfl ?_
          refine X.llF 53 .ladd (fun x y => x + y) i312_52 rfl rfl rfl (fun _ _ => rfl) (fun z552 hz552 => ?_)
          refine X.lstore_n 54 [(0, zr g0 44), (1, zi y1), (2, zi y2), (3, zl z552), (5, zi y5)] i312_53 rfl rfl rfl ?_
          refine X.iinc 57 [(0, zr g0 44), (1, zi y1), (2, zi y2), (3, zl z552), (5, zi (y5 + 1))] i312_54 rfl rfl rfl (by omega) rfl ?_
          refine X.goto 5 i312_57 rfl rfl ?_
          exact ih z552 (y5 + 1) (by omega) (by omega)
        · have h551c : (m 4 45 ((788 + (6 * y5)) + 0)) > y1 := by omega
          clear h551 hz550
          refine X.aload_n 29 i312_28 rfl rfl rfl ?_
          refine X.iload 31 i312_29 rfl rfl rfl ?_
          refine X.iconst 32 i312_31 rfl rfl (by decide) ?_
          refine X.callv 35 [zi y5, zi 0] [zl y3] [(0, zr g0 44), (1, zi y5), (2, zi 0)] i312_32 rfl (by decide) rfl rfl (by omega) rfl rfl (by decide) rfl t234 (Nat.le_of_ble_eq_true rfl) (Nat.le_of_ble_eq_true rfl) rfl ?_
          refine X.aload_n 1 i234_0 rfl rfl rfl ?_
          refine X.getF 4 i234_1 rfl rfl (by decide) rfl rfl ?_
          refine X.sipush 7 i234_4 rfl rfl (by decide) ?_
          refine X.bipush 9 i234_7 rfl rfl (by decide) ?_
          refine X.iload_n 10 i234_9 rfl rfl rfl ?_
          refine X.imul 11 i234_10 rfl rfl (by omega) ?_
          refine X.iadd 12 i234_11 rfl rfl (by omega) ?_
          refine X.iload_n 13 i234_12 rfl rfl rfl ?_
          refine X.iadd 14 i234_13 rfl rfl (by omega) ?_
          refine X.lald 15 i234_14 rfl rfl (by decide) rfl (by omega) ?_
          refine X.retl i234_15 rfl t234 ?_
          show X (EE s) d 312 35 [(0, zr g0 44), (1, zi y1), (2, zi y2), (3, zl y3), (5, zi y5)] [zl (m 4 45 ((788 + (6 * y5)) + 0)), zl y3] m _
          refine X.iload_n 36 i312_35 rfl rfl rfl ?_
          refine X.i2l 37 i312_36 rfl rfl ?_
          refine X.lcmp 38 i312_37 rfl rfl (fun z553 hz553 => ?_)
          refine X.ifgt 51 41 i312_38 rfl rfl rfl (fun h554 => ?_) (fun h554 => ?_)
          · have h554c : (m 4 45 ((788 + (6 * y5)) + 0)) > y2 := by omega
            clear h554 hz553
            refine X.cut [(0, zr g0 44), (1, zi y1), (2, zi y2), (5, zi y5)] i312_51 rfl ?_
            refine X.lconst (y := 0) 52 i312_51 rfl rfl rfl ?_
            refine X.llF 53 .ladd (fun x y => x + y) i312_52 rfl rfl rfl (fun _ _ => rfl) (fun z555 hz555 => ?_)
            refine X.lstore_n 54 [(0, zr g0 44), (1, zi y1), (2, zi y2), (3, zl z555), (5, zi y5)] i312_53 rfl rfl rfl ?_
            refine X.iinc 57 [(0, zr g0 44), (1, zi y1), (2, zi y2), (3, zl z555), (5, zi (y5 + 1))] i312_54 rfl rfl rfl (by omega) rfl ?_
            refine X.goto 5 i312_57 rfl rfl ?_
            exact ih z555 (y5 + 1) (by omega) (by omega)
          · have h554c : (m 4 45 ((788 + (6 * y5)) + 0)) ≤ y2 := by omega
            clear h554 hz553
            refine X.aload_n 42 i312_41 rfl rfl rfl ?_
            refine X.iload 44 i312_42 rfl rfl rfl ?_
            refine X.iconst 45 i312_44 rfl rfl (by decide) ?_
            refine X.callv 48 [zi y5, zi 1] [zl y3] [(0, zr g0 44), (1, zi y5), (2, zi 1)] i312_45 rfl (by decide) rfl rfl (by omega) rfl rfl (by decide) rfl t234 (Nat.le_of_ble_eq_true rfl) (Nat.le_of_ble_eq_true rfl) rfl ?_
            refine X.aload_n 1 i234_0 rfl rfl rfl ?_
            refine X.getF 4 i234_1 rfl rfl (by decide) rfl rfl ?_
            refine X.sipush 7 i234_4 rfl rfl (by decide) ?_
            refine X.bipush 9 i234_7 rfl rfl (by decide) ?_
            refine X.iload_n 10 i234_9 rfl rfl rfl ?_
            refine X.imul 11 i234_10 rfl rfl (by omega) ?_
            refine X.iadd 12 i234_11 rfl rfl (by omega) ?_
            refine X.iload_n 13 i234_12 rfl rfl rfl ?_
            refine X.iadd 14 i234_13 rfl rfl (by omega) ?_
            refine X.lald 15 i234_14 rfl rfl (by decide) rfl (by omega) ?_
            refine X.retl i234_15 rfl t234 ?_
            show X (EE s) d 312 48 [(0, zr g0 44), (1, zi y1), (2, zi y2), (3, zl y3), (5, zi y5)] [zl (m 4 45 ((788 + (6 * y5)) + 1)), zl y3] m _
            refine X.goto 52 i312_48 rfl rfl ?_
            refine X.cut [(0, zr g0 44), (1, zi y1), (2, zi y2), (5, zi y5)] i312_52 rfl ?_
            refine X.llF 53 .ladd (fun x y => x + y) i312_52 rfl rfl rfl (fun _ _ => rfl) (fun z556 hz556 => ?_)
            refine X.lstore_n 54 [(0, zr g0 44), (1, zi y1), (2, zi y2), (3, zl z556), (5, zi y5)] i312_53 rfl rfl rfl ?_
            refine X.iinc 57 [(0, zr g0 44), (1, zi y1), (2, zi y2), (3, zl z556), (5, zi (y5 + 1))] i312_54 rfl rfl rfl (by omega) rfl ?_
            refine X.goto 5 i312_57 rfl rfl ?_
            exact ih z556 (y5 + 1) (by omega) (by omega)
-- WorkMeterModel.between
theorem c312_1 {s : Nat × (Nat → Int32)} {m0 m : zM} {B : Int} {d : Nat} {Q : Option zV → zM → Prop} (g0 : Nat) (a1 a2 : Int) (hd : 13 ≤ d) (hJ : J m0 B m) (hB : B + 0 ≤ 1000000000) (ha1 : (-2147483648) ≤ a1 ∧ a1 ≤ 2147483647) (ha2 : (-2147483648) ≤ a2 ∧ a2 ≤ 2147483647) (hQ : ∀ (v : Int), (True) → Q (some (zl v)) m) : X (EE s) d 312 0 [(0, zr g0 44), (1, zi a1), (2, zi a2)] [] m Q := by
  refine X.lconst (y := 0) 1 i312_0 rfl rfl rfl ?_
  refine X.lstore_n 2 [(0, zr g0 44), (1, zi a1), (2, zi a2), (3, zl 0)] i312_1 rfl rfl rfl ?_
  refine X.iconst 3 i312_2 rfl rfl (by decide) ?_
  refine X.istore 5 [(0, zr g0 44), (1, zi a1), (2, zi a2), (3, zl 0), (5, zi 0)] i312_3 rfl rfl rfl ?_
  refine l312_5_1 (s := s) (m0 := m0) (m := m) (B := B) (d := d) g0 a1 a2 (by omega) (hJ.up (by omega)) (by omega) (by omega) (by omega) (fun y501 hby501 => ?_) ((64 - 0 : Int).toNat + 1) 0 0 (by omega) (by omega)
  refine X.lload_n 61 i312_60 rfl rfl rfl ?_
  refine X.retl i312_61 rfl t312 ?_
  exact hQ y501 (by first | trivial | omega) 
-- WorkMeter.log
theorem c190_1 {s : Nat × (Nat → Int32)} {m0 m : zM} {B : Int} {d : Nat} {Q : Option zV → zM → Prop} (g0 : Nat) (a1 a2 : Int) (hd : 14 ≤ d) (hJ : J m0 B m) (hB : B + 0 ≤ 1000000000) (ha1 : (-2147483648) ≤ a1 ∧ a1 ≤ 2147483647) (ha2 : (-2147483648) ≤ a2 ∧ a2 ≤ 2147483647) (hQ : ∀ (v : Int), ((-2147483648) ≤ v ∧ v ≤ 2147483647) → Q (some (zi v)) m) : X (EE s) d 190 0 [(0, zr g0 40), (1, zi a1), (2, zi a2)] [] m Q := by
  refine X.iload_n 1 i190_0 rfl rfl rfl ?_
  refine X.iflt 27 4 i190_1 rfl rfl rfl (fun h501 => ?_) (fun h501 => ?_)
  · refine X.cut [] i190_27 rfl ?_
    refine X.iconst 28 i190_27 rfl rfl (by decide) ?_
    refine X.reti i190_28 rfl t190 ?_
    exact hQ (-1) (by first | trivial | omega) 
  · refine X.iload_n 5 i190_4 rfl rfl rfl ?_
    refine X.aload_n 6 i190_5 rfl rfl rfl ?_
    refine X.getF 9 i190_6 rfl rfl (by decide) rfl rfl ?_
    refine X.getR 12 i190_9 rfl rfl (by decide) rfl rfl ?_
    refine X.callv 15 [] [zi a1] [(0, zr 0 37)] i190_12 rfl (by decide) rfl rfl (by omega) rfl rfl (by decide) rfl t191 (Nat.le_of_ble_eq_true rfl) (Nat.le_of_ble_eq_true rfl) rfl ?_
    refine X.aload_n 1 i191_0 rfl rfl rfl ?_
    refine X.getI 4 1 i191_1 rfl rfl (by decide) rfl rfl rfl ?_
    have h502 := r37_1 hJ 0
    refine X.bipush 6 i191_4 rfl rfl (by decide) ?_
    refine X.minI 9 i191_6 rfl rfl (by omega) (Nat.le_of_ble_eq_true rfl) ?_
    refine X.reti i191_9 rfl t191 ?_
    show X (EE s) d 190 15 [(0, zr g0 40), (1, zi a1), (2, zi a2)] [zi (min (m 0 37 1) 40), zi a1] m _
    refine X.icmpge 27 18 i190_15 rfl rfl rfl (fun h503 => ?_) (fun h503 => ?_)
    · refine X.cut [] i190_27 rfl ?_
      refine X.iconst 28 i190_27 rfl rfl (by decide) ?_
      refine X.reti i190_28 rfl t190 ?_
      exact hQ (-1) (by first | trivial | omega) 
    · refine X.iload_n 19 i190_18 rfl rfl rfl ?_
      refine X.iflt 27 22 i190_19 rfl rfl rfl (fun h504 => ?_) (fun h504 => ?_)
      · refine X.cut [] i190_27 rfl ?_
        refine X.iconst 28 i190_27 rfl rfl (by decide) ?_
        refine X.reti i190_28 rfl t190 ?_
        exact hQ (-1) (by first | trivial | omega) 
      · refine X.iload_n 23 i190_22 rfl rfl rfl ?_
        refine X.iconst 24 i190_23 rfl rfl (by decide) ?_
        refine X.icmplt 29 27 i190_24 rfl rfl rfl (fun h505 => ?_) (fun h505 => ?_)
        · refine X.aload_n 30 i190_29 rfl rfl rfl ?_
          refine X.getF 33 i190_30 rfl rfl (by decide) rfl rfl ?_
          refine X.getR 36 i190_33 rfl rfl (by decide) rfl rfl ?_
          refine X.iload_n 37 i190_36 rfl rfl rfl ?_
          refine X.iload_n 38 i190_37 rfl rfl rfl ?_
          refine X.callv 41 [zi a1, zi a2] [] [(0, zr 0 37), (1, zi a1), (2, zi a2)] i190_38 rfl (by decide) rfl rfl (by omega) rfl rfl (by decide) rfl t192 (Nat.le_of_ble_eq_true rfl) (Nat.le_of_ble_eq_true rfl) rfl ?_
          refine X.aload_n 1 i192_0 rfl rfl rfl ?_
          refine X.getR 4 i192_1 rfl rfl (by decide) rfl rfl ?_
          refine X.aload_n 5 i192_4 rfl rfl rfl ?_
          refine X.getI 8 1 i192_5 rfl rfl (by decide) rfl rfl rfl ?_
          refine X.iconst 9 i192_8 rfl rfl (by decide) ?_
          refine X.isub 10 i192_9 rfl rfl (by omega) ?_
          refine X.iload_n 11 i192_10 rfl rfl rfl ?_
          refine X.isub 12 i192_11 rfl rfl (by omega) ?_
          refine X.bipush 14 i192_12 rfl rfl (by decide) ?_
          refine X.irem 15 i192_14 rfl rfl (by omega) ?_
          refine X.iconst 16 i192_15 rfl rfl (by decide) ?_
          refine X.imul 17 i192_16 rfl rfl (by omega) ?_
          refine X.iload_n 18 i192_17 rfl rfl rfl ?_
          refine X.iadd 19 i192_18 rfl rfl (by omega) ?_
          refine X.ialdr 20 i192_19 rfl rfl (by decide) rfl (by omega) (fun h506 => ?_)
          refine X.reti i192_20 rfl t192 ?_
          show X (EE s) d 190 41 [(0, zr g0 40), (1, zi a1), (2, zi a2)] [zi (m 0 38 ((((((m 0 37 1) - 1) - a1) % 40) * 3) + a2))] m _
          refine X.reti i190_41 rfl t190 ?_
          exact hQ (m 0 38 ((((((m 0 37 1) - 1) - a1) % 40) * 3) + a2)) (by first | trivial | omega) 
        · refine X.cut [] i190_27 rfl ?_
          refine X.iconst 28 i190_27 rfl rfl (by decide) ?_
          refine X.reti i190_28 rfl t190 ?_
          exact hQ (-1) (by first | trivial | omega) 
-- WorkMeterModel.log
theorem c313_1 {s : Nat × (Nat → Int32)} {m0 m : zM} {B : Int} {d : Nat} {Q : Option zV → zM → Prop} (g0 : Nat) (a1 a2 : Int) (hd : 13 ≤ d) (hJ : J m0 B m) (hB : B + 0 ≤ 1000000000) (ha1 : (-2147483648) ≤ a1 ∧ a1 ≤ 2147483647) (ha2 : (-2147483648) ≤ a2 ∧ a2 ≤ 2147483647) (hQ : ∀ (v : Int), ((-2147483648) ≤ v ∧ v ≤ 2147483647) → Q (some (zi v)) m) : X (EE s) d 313 0 [(0, zr g0 44), (1, zi a1), (2, zi a2)] [] m Q := by
  refine X.aload_n 1 i313_0 rfl rfl rfl ?_
  refine X.getF 4 i313_1 rfl rfl (by decide) rfl rfl ?_
  refine X.bipush 6 i313_4 rfl rfl (by decide) ?_
  refine X.lald 7 i313_6 rfl rfl (by decide) rfl (by omega) ?_
  have h501 := r45_16 hJ 4
  refine X.ldc2 10 i313_7 rfl rfl (by decide) ?_
  refine X.lcmp 11 i313_10 rfl rfl (fun z502 hz502 => ?_)
  refine X.ifge 24 14 i313_11 rfl rfl rfl (fun h503 => ?_) (fun h503 => ?_)
  · have h503c : (m 4 45 16) ≥ 40 := by omega
    clear h503 hz502
    refine X.ldc2 27 i313_24 rfl rfl (by decide) ?_
    refine X.l2i 28 i313_27 rfl rfl (by omega) ?_
    refine X.istore_n 29 [(0, zr g0 44), (1, zi a1), (2, zi a2), (3, zi 40)] i313_28 rfl rfl rfl ?_
    refine X.iload_n 30 i313_29 rfl rfl rfl ?_
    refine X.i2l 31 i313_30 rfl rfl ?_
    refine X.lconst (y := 0) 32 i313_31 rfl rfl rfl ?_
    refine X.iload_n 33 i313_32 rfl rfl rfl ?_
    refine X.iconst 34 i313_33 rfl rfl (by decide) ?_
    refine X.isub 35 i313_34 rfl rfl (by omega) ?_
    refine X.i2l 36 i313_35 rfl rfl ?_
    refine X.calls 39 [zl a1, zl 0, zl (40 - 1)] [] [(0, zl a1), (2, zl 0), (4, zl (40 - 1))] i313_36 (by decide) rfl rfl (by omega) rfl rfl t204 (Nat.le_of_ble_eq_true rfl) (Nat.le_of_ble_eq_true rfl) rfl ?_
    refine X.lload_n 1 i204_0 rfl rfl rfl ?_
    refine X.lload_n 2 i204_1 rfl rfl rfl ?_
    refine X.lcmp 3 i204_2 rfl rfl (fun z504 hz504 => ?_)
    refine X.iflt 17 6 i204_3 rfl rfl rfl (fun h505 => ?_) (fun h505 => ?_)
    · have h505c : a1 < 0 := by omega
      clear h505 hz504
      refine X.cut [] i204_17 rfl ?_
      refine X.iconst 18 i204_17 rfl rfl (by decide) ?_
      refine X.retz i204_18 rfl t204 (by omega) ?_
      show X (EE s) d 313 39 [(0, zr g0 44), (1, zi a1), (2, zi a2), (3, zi 40)] [zi 0] m _
      refine X.ifeq 76 42 i313_39 rfl rfl rfl (fun h506 => ?_) (fun h506 => (by exfalso; omega))
      refine X.cut [] i313_76 rfl ?_
      refine X.iconst 77 i313_76 rfl rfl (by decide) ?_
      refine X.reti i313_77 rfl t313 ?_
      exact hQ (-1) (by first | trivial | omega) 
    · have h505c : a1 ≥ 0 := by omega
      clear h505 hz504
      refine X.lload_n 7 i204_6 rfl rfl rfl ?_
      refine X.lload 9 i204_7 rfl rfl rfl ?_
      refine X.lcmp 10 i204_9 rfl rfl (fun z507 hz507 => ?_)
      refine X.ifgt 17 13 i204_10 rfl rfl rfl (fun h508 => ?_) (fun h508 => ?_)
      · have h508c : a1 > (40 - 1) := by omega
        clear h508 hz507
        refine X.cut [] i204_17 rfl ?_
        refine X.iconst 18 i204_17 rfl rfl (by decide) ?_
        refine X.retz i204_18 rfl t204 (by omega) ?_
        show X (EE s) d 313 39 [(0, zr g0 44), (1, zi a1), (2, zi a2), (3, zi 40)] [zi 0] m _
        refine X.ifeq 76 42 i313_39 rfl rfl rfl (fun h509 => ?_) (fun h509 => (by exfalso; omega))
        refine X.cut [] i313_76 rfl ?_
        refine X.iconst 77 i313_76 rfl rfl (by decide) ?_
        refine X.reti i313_77 rfl t313 ?_
        exact hQ (-1) (by first | trivial | omega) 
      · have h508c : a1 ≤ (40 - 1) := by omega
        clear h508 hz507
        refine X.iconst 14 i204_13 rfl rfl (by decide) ?_
        refine X.goto 18 i204_14 rfl rfl ?_
        refine X.cut [] i204_18 rfl ?_
        refine X.retz i204_18 rfl t204 (by omega) ?_
        show X (EE s) d 313 39 [(0, zr g0 44), (1, zi a1), (2, zi a2), (3, zi 40)] [zi 1] m _
        refine X.ifeq 76 42 i313_39 rfl rfl rfl (fun h510 => (by exfalso; omega)) (fun h510 => ?_)
        refine X.iload_n 43 i313_42 rfl rfl rfl ?_
        refine X.i2l 44 i313_43 rfl rfl ?_
        refine X.lconst (y := 0) 45 i313_44 rfl rfl rfl ?_
        refine X.ldc2 48 i313_45 rfl rfl (by decide) ?_
        refine X.calls 51 [zl a2, zl 0, zl 2] [] [(0, zl a2), (2, zl 0), (4, zl 2)] i313_48 (by decide) rfl rfl (by omega) rfl rfl t204 (Nat.le_of_ble_eq_true rfl) (Nat.le_of_ble_eq_true rfl) rfl ?_
        refine X.lload_n 1 i204_0 rfl rfl rfl ?_
        refine X.lload_n 2 i204_1 rfl rfl rfl ?_
        refine X.lcmp 3 i204_2 rfl rfl (fun z511 hz511 => ?_)
        refine X.iflt 17 6 i204_3 rfl rfl rfl (fun h512 => ?_) (fun h512 => ?_)
        · have h512c : a2 < 0 := by omega
          clear h512 hz511
          refine X.cut [] i204_17 rfl ?_
          refine X.iconst 18 i204_17 rfl rfl (by decide) ?_
          refine X.retz i204_18 rfl t204 (by omega) ?_
          show X (EE s) d 313 51 [(0, zr g0 44), (1, zi a1), (2, zi a2), (3, zi 40)] [zi 0] m _
          refine X.ifeq 76 54 i313_51 rfl rfl rfl (fun h513 => ?_) (fun h513 => (by exfalso; omega))
          refine X.cut [] i313_76 rfl ?_
          refine X.iconst 77 i313_76 rfl rfl (by decide) ?_
          refine X.reti i313_77 rfl t313 ?_
          exact hQ (-1) (by first | trivial | omega) 
        · have h512c : a2 ≥ 0 := by omega
          clear h512 hz511
          refine X.lload_n 7 i204_6 rfl rfl rfl ?_
          refine X.lload 9 i204_7 rfl rfl rfl ?_
          refine X.lcmp 10 i204_9 rfl rfl (fun z514 hz514 => ?_)
          refine X.ifgt 17 13 i204_10 rfl rfl rfl (fun h515 => ?_) (fun h515 => ?_)
          · have h515c : a2 > 2 := by omega
            clear h515 hz514
            refine X.cut [] i204_17 rfl ?_
            refine X.iconst 18 i204_17 rfl rfl (by decide) ?_
            refine X.retz i204_18 rfl t204 (by omega) ?_
            show X (EE s) d 313 51 [(0, zr g0 44), (1, zi a1), (2, zi a2), (3, zi 40)] [zi 0] m _
            refine X.ifeq 76 54 i313_51 rfl rfl rfl (fun h516 => ?_) (fun h516 => (by exfalso; omega))
            refine X.cut [] i313_76 rfl ?_
            refine X.iconst 77 i313_76 rfl rfl (by decide) ?_
            refine X.reti i313_77 rfl t313 ?_
            exact hQ (-1) (by first | trivial | omega) 
          · have h515c : a2 ≤ 2 := by omega
            clear h515 hz514
            refine X.iconst 14 i204_13 rfl rfl (by decide) ?_
            refine X.goto 18 i204_14 rfl rfl ?_
            refine X.cut [] i204_18 rfl ?_
            refine X.retz i204_18 rfl t204 (by omega) ?_
            show X (EE s) d 313 51 [(0, zr g0 44), (1, zi a1), (2, zi a2), (3, zi 40)] [zi 1] m _
            refine X.ifeq 76 54 i313_51 rfl rfl rfl (fun h517 => (by exfalso; omega)) (fun h517 => ?_)
            refine X.aload_n 55 i313_54 rfl rfl rfl ?_
            refine X.getF 58 i313_55 rfl rfl (by decide) rfl rfl ?_
            refine X.sipush 61 i313_58 rfl rfl (by decide) ?_
            refine X.iconst 62 i313_61 rfl rfl (by decide) ?_
            refine X.iload_n 63 i313_62 rfl rfl rfl ?_
            refine X.iconst 64 i313_63 rfl rfl (by decide) ?_
            refine X.isub 65 i313_64 rfl rfl (by omega) ?_
            refine X.iload_n 66 i313_65 rfl rfl rfl ?_
            refine X.isub 67 i313_66 rfl rfl (by omega) ?_
            refine X.imul 68 i313_67 rfl rfl (by omega) ?_
            refine X.iadd 69 i313_68 rfl rfl (by omega) ?_
            refine X.iload_n 70 i313_69 rfl rfl rfl ?_
            refine X.iadd 71 i313_70 rfl rfl (by omega) ?_
            refine X.lald 72 i313_71 rfl rfl (by decide) rfl (by omega) ?_
            refine X.l2iF 73 i313_72 rfl rfl (fun z518 hz518 => ?_)
            refine X.goto 77 i313_73 rfl rfl ?_
            refine X.cut [] i313_77 rfl ?_
            refine X.reti i313_77 rfl t313 ?_
            exact hQ z518 (by first | trivial | omega) 
  · have h503c : (m 4 45 16) < 40 := by omega
    clear h503 hz502
    refine X.aload_n 15 i313_14 rfl rfl rfl ?_
    refine X.getF 18 i313_15 rfl rfl (by decide) rfl rfl ?_
    refine X.bipush 20 i313_18 rfl rfl (by decide) ?_
    refine X.lald 21 i313_20 rfl rfl (by decide) rfl (by omega) ?_
    refine X.goto 27 i313_21 rfl rfl ?_
    refine X.l2i 28 i313_27 rfl rfl (by omega) ?_
    refine X.istore_n 29 [(0, zr g0 44), (1, zi a1), (2, zi a2), (3, zi (m 4 45 16))] i313_28 rfl rfl rfl ?_
    refine X.iload_n 30 i313_29 rfl rfl rfl ?_
    refine X.i2l 31 i313_30 rfl rfl ?_
    refine X.lconst (y := 0) 32 i313_31 rfl rfl rfl ?_
    refine X.iload_n 33 i313_32 rfl rfl rfl ?_
    refine X.iconst 34 i313_33 rfl rfl (by decide) ?_
    refine X.isub 35 i313_34 rfl rfl (by omega) ?_
    refine X.i2l 36 i313_35 rfl rfl ?_
    refine X.calls 39 [zl a1, zl 0, zl ((m 4 45 16) - 1)] [] [(0, zl a1), (2, zl 0), (4, zl ((m 4 45 16) - 1))] i313_36 (by decide) rfl rfl (by omega) rfl rfl t204 (Nat.le_of_ble_eq_true rfl) (Nat.le_of_ble_eq_true rfl) rfl ?_
    refine X.lload_n 1 i204_0 rfl rfl rfl ?_
    refine X.lload_n 2 i204_1 rfl rfl rfl ?_
    refine X.lcmp 3 i204_2 rfl rfl (fun z519 hz519 => ?_)
    refine X.iflt 17 6 i204_3 rfl rfl rfl (fun h520 => ?_) (fun h520 => ?_)
    · have h520c : a1 < 0 := by omega
      clear h520 hz519
      refine X.cut [] i204_17 rfl ?_
      refine X.iconst 18 i204_17 rfl rfl (by decide) ?_
      refine X.retz i204_18 rfl t204 (by omega) ?_
      show X (EE s) d 313 39 [(0, zr g0 44), (1, zi a1), (2, zi a2), (3, zi (m 4 45 16))] [zi 0] m _
      refine X.ifeq 76 42 i313_39 rfl rfl rfl (fun h521 => ?_) (fun h521 => (by exfalso; omega))
      refine X.cut [] i313_76 rfl ?_
      refine X.iconst 77 i313_76 rfl rfl (by decide) ?_
      refine X.reti i313_77 rfl t313 ?_
      exact hQ (-1) (by first | trivial | omega) 
    · have h520c : a1 ≥ 0 := by omega
      clear h520 hz519
      refine X.lload_n 7 i204_6 rfl rfl rfl ?_
      refine X.lload 9 i204_7 rfl rfl rfl ?_
      refine X.lcmp 10 i204_9 rfl rfl (fun z522 hz522 => ?_)
      refine X.ifgt 17 13 i204_10 rfl rfl rfl (fun h523 => ?_) (fun h523 => ?_)
      · have h523c : a1 > ((m 4 45 16) - 1) := by omega
        clear h523 hz522
        refine X.cut [] i204_17 rfl ?_
        refine X.iconst 18 i204_17 rfl rfl (by decide) ?_
        refine X.retz i204_18 rfl t204 (by omega) ?_
        show X (EE s) d 313 39 [(0, zr g0 44), (1, zi a1), (2, zi a2), (3, zi (m 4 45 16))] [zi 0] m _
        refine X.ifeq 76 42 i313_39 rfl rfl rfl (fun h524 => ?_) (fun h524 => (by exfalso; omega))
        refine X.cut [] i313_76 rfl ?_
        refine X.iconst 77 i313_76 rfl rfl (by decide) ?_
        refine X.reti i313_77 rfl t313 ?_
        exact hQ (-1) (by first | trivial | omega) 
      · have h523c : a1 ≤ ((m 4 45 16) - 1) := by omega
        clear h523 hz522
        refine X.iconst 14 i204_13 rfl rfl (by decide) ?_
        refine X.goto 18 i204_14 rfl rfl ?_
        refine X.cut [] i204_18 rfl ?_
        refine X.retz i204_18 rfl t204 (by omega) ?_
        show X (EE s) d 313 39 [(0, zr g0 44), (1, zi a1), (2, zi a2), (3, zi (m 4 45 16))] [zi 1] m _
        refine X.ifeq 76 42 i313_39 rfl rfl rfl (fun h525 => (by exfalso; omega)) (fun h525 => ?_)
        refine X.iload_n 43 i313_42 rfl rfl rfl ?_
        refine X.i2l 44 i313_43 rfl rfl ?_
        refine X.lconst (y := 0) 45 i313_44 rfl rfl rfl ?_
        refine X.ldc2 48 i313_45 rfl rfl (by decide) ?_
        refine X.calls 51 [zl a2, zl 0, zl 2] [] [(0, zl a2), (2, zl 0), (4, zl 2)] i313_48 (by decide) rfl rfl (by omega) rfl rfl t204 (Nat.le_of_ble_eq_true rfl) (Nat.le_of_ble_eq_true rfl) rfl ?_
        refine X.lload_n 1 i204_0 rfl rfl rfl ?_
        refine X.lload_n 2 i204_1 rfl rfl rfl ?_
        refine X.lcmp 3 i204_2 rfl rfl (fun z526 hz526 => ?_)
        refine X.iflt 17 6 i204_3 rfl rfl rfl (fun h527 => ?_) (fun h527 => ?_)
        · have h527c : a2 < 0 := by omega
          clear h527 hz526
          refine X.cut [] i204_17 rfl ?_
          refine X.iconst 18 i204_17 rfl rfl (by decide) ?_
          refine X.retz i204_18 rfl t204 (by omega) ?_
          show X (EE s) d 313 51 [(0, zr g0 44), (1, zi a1), (2, zi a2), (3, zi (m 4 45 16))] [zi 0] m _
          refine X.ifeq 76 54 i313_51 rfl rfl rfl (fun h528 => ?_) (fun h528 => (by exfalso; omega))
          refine X.cut [] i313_76 rfl ?_
          refine X.iconst 77 i313_76 rfl rfl (by decide) ?_
          refine X.reti i313_77 rfl t313 ?_
          exact hQ (-1) (by first | trivial | omega) 
        · have h527c : a2 ≥ 0 := by omega
          clear h527 hz526
          refine X.lload_n 7 i204_6 rfl rfl rfl ?_
          refine X.lload 9 i204_7 rfl rfl rfl ?_
          refine X.lcmp 10 i204_9 rfl rfl (fun z529 hz529 => ?_)
          refine X.ifgt 17 13 i204_10 rfl rfl rfl (fun h530 => ?_) (fun h530 => ?_)
          · have h530c : a2 > 2 := by omega
            clear h530 hz529
            refine X.cut [] i204_17 rfl ?_
            refine X.iconst 18 i204_17 rfl rfl (by decide) ?_
            refine X.retz i204_18 rfl t204 (by omega) ?_
            show X (EE s) d 313 51 [(0, zr g0 44), (1, zi a1), (2, zi a2), (3, zi (m 4 45 16))] [zi 0] m _
            refine X.ifeq 76 54 i313_51 rfl rfl rfl (fun h531 => ?_) (fun h531 => (by exfalso; omega))
            refine X.cut [] i313_76 rfl ?_
            refine X.iconst 77 i313_76 rfl rfl (by decide) ?_
            refine X.reti i313_77 rfl t313 ?_
            exact hQ (-1) (by first | trivial | omega) 
          · have h530c : a2 ≤ 2 := by omega
            clear h530 hz529
            refine X.iconst 14 i204_13 rfl rfl (by decide) ?_
            refine X.goto 18 i204_14 rfl rfl ?_
            refine X.cut [] i204_18 rfl ?_
            refine X.retz i204_18 rfl t204 (by omega) ?_
            show X (EE s) d 313 51 [(0, zr g0 44), (1, zi a1), (2, zi a2), (3, zi (m 4 45 16))] [zi 1] m _
            refine X.ifeq 76 54 i313_51 rfl rfl rfl (fun h532 => (by exfalso; omega)) (fun h532 => ?_)
            refine X.aload_n 55 i313_54 rfl rfl rfl ?_
            refine X.getF 58 i313_55 rfl rfl (by decide) rfl rfl ?_
            refine X.sipush 61 i313_58 rfl rfl (by decide) ?_
            refine X.iconst 62 i313_61 rfl rfl (by decide) ?_
            refine X.iload_n 63 i313_62 rfl rfl rfl ?_
            refine X.iconst 64 i313_63 rfl rfl (by decide) ?_
            refine X.isub 65 i313_64 rfl rfl (by omega) ?_
            refine X.iload_n 66 i313_65 rfl rfl rfl ?_
            refine X.isub 67 i313_66 rfl rfl (by omega) ?_
            refine X.imul 68 i313_67 rfl rfl (by omega) ?_
            refine X.iadd 69 i313_68 rfl rfl (by omega) ?_
            refine X.iload_n 70 i313_69 rfl rfl rfl ?_
            refine X.iadd 71 i313_70 rfl rfl (by omega) ?_
            refine X.lald 72 i313_71 rfl rfl (by decide) rfl (by omega) ?_
            refine X.l2iF 73 i313_72 rfl rfl (fun z533 hz533 => ?_)
            refine X.goto 77 i313_73 rfl rfl ?_
            refine X.cut [] i313_77 rfl ?_
            refine X.reti i313_77 rfl t313 ?_
            exact hQ z533 (by first | trivial | omega) 
theorem l194_17_1 {s : Nat × (Nat → Int32)} {m0 m : zM} {B : Int} {d : Nat} {Q : Option zV → zM → Prop} (g0 : Nat) (y1 y2 y3 : Int) (hd : 13 ≤ d) (hJ : J m0 B m) (hB9 : B ≤ 1000000000) (hy1 : 0 ≤ y1 ∧ y1 ≤ 7) (hy2 : 0 ≤ y2 ∧ y2 ≤ 3) (hy3 : 0 ≤ y3 ∧ y3 ≤ 42)
    (K75 : ∀ (x4 x5 x6 : Int) , ((-2147483648) ≤ x4 ∧ x4 ≤ 2147483647) → (0 ≤ x5 ∧ x5 ≤ 86399) → (0 ≤ x6 ∧ x6 ≤ 3) → X (EE s) d 194 75 [(2, zi y2), (4, zi x4), (5, zi x5), (6, zi x6)] [] m Q) :
    ∀ (n : Nat) (y4 y5 y6 y7 : Int) , ((-2147483648) ≤ y4 ∧ y4 ≤ 2147483647) → (0 ≤ y5 ∧ y5 ≤ 86399) → (0 ≤ y6 ∧ y6 ≤ 3) → (0 ≤ y7 ∧ y7 ≤ 48) → 48 - y7 < (n : Int) → X (EE s) d 194 17 [(0, zr g0 11), (1, zi y1), (2, zi y2), (3, zi y3), (4, zi y4), (5, zi y5), (6, zi y6), (7, zi y7)] [] m Q := by
  intro n
  induction n with
  | zero =>
    intro y4 y5 y6 y7 hy4 hy5 hy6 hy7 hn
    exfalso
    omega
  | succ n ih =>
    intro y4 y5 y6 y7 hy4 hy5 hy6 hy7 hn
    refine X.iload 19 i194_17 rfl rfl rfl ?_
    refine X.iload_n 20 i194_19 rfl rfl rfl ?_
    refine X.aload_n 21 i194_20 rfl rfl rfl ?_
    refine X.getR 24 i194_21 rfl rfl (by decide) rfl rfl ?_
    refine X.iload_n 25 i194_24 rfl rfl rfl ?_
    refine X.iald 26 i194_25 rfl rfl (by decide) rfl (by omega) ?_
    have h538 := r12_0 hJ g0 (i := y1) (by omega)
    refine X.iadd 27 i194_26 rfl rfl (by omega) ?_
    refine X.icmpge 75 30 i194_27 rfl rfl rfl (fun h539 => ?_) (fun h539 => ?_)
    · refine X.cut [(2, zi y2), (4, zi y4), (5, zi y5), (6, zi y6)] i194_75 rfl ?_
      exact K75 y4 y5 y6 (by first | trivial | omega) (by first | trivial | omega) (by first | trivial | omega)
    · refine X.iload 32 i194_30 rfl rfl rfl ?_
      refine X.iload_n 33 i194_32 rfl rfl rfl ?_
      refine X.icmpne 51 36 i194_33 rfl rfl rfl (fun h540 => ?_) (fun h540 => ?_)
      · refine X.cut [(0, zr g0 11), (1, zi y1), (2, zi y2), (3, zi y3), (4, zi y4), (7, zi y7)] i194_51 rfl ?_
        refine X.aload_n 52 i194_51 rfl rfl rfl ?_
        refine X.getR 55 i194_52 rfl rfl (by decide) rfl rfl ?_
        refine X.iload 57 i194_55 rfl rfl rfl ?_
        refine X.iald 58 i194_57 rfl rfl (by decide) rfl (by omega) ?_
        have h541 := r13_0 hJ g0 (i := y7) (by omega)
        refine X.istore 60 [(0, zr g0 11), (1, zi y1), (2, zi y2), (3, zi y3), (4, zi y4), (5, zi (m g0 13 y7)), (7, zi y7)] i194_58 rfl rfl rfl ?_
        refine X.aload_n 61 i194_60 rfl rfl rfl ?_
        refine X.getR 64 i194_61 rfl rfl (by decide) rfl rfl ?_
        refine X.iload 66 i194_64 rfl rfl rfl ?_
        refine X.iald 67 i194_66 rfl rfl (by decide) rfl (by omega) ?_
        have h542 := r14_0 hJ g0 (i := y7) (by omega)
        refine X.istore 69 [(0, zr g0 11), (1, zi y1), (2, zi y2), (3, zi y3), (4, zi y4), (5, zi (m g0 13 y7)), (6, zi (m g0 14 y7)), (7, zi y7)] i194_67 rfl rfl rfl ?_
        refine X.iinc 72 [(0, zr g0 11), (1, zi y1), (2, zi y2), (3, zi y3), (4, zi y4), (5, zi (m g0 13 y7)), (6, zi (m g0 14 y7)), (7, zi (y7 + 1))] i194_69 rfl rfl rfl (by omega) rfl ?_
        refine X.goto 17 i194_72 rfl rfl ?_
        exact ih y4 (m g0 13 y7) (m g0 14 y7) (y7 + 1) (by omega) (by omega) (by omega) (by omega) (by omega)
      · refine X.iload 38 i194_36 rfl rfl rfl ?_
        refine X.aload_n 39 i194_38 rfl rfl rfl ?_
        refine X.getR 42 i194_39 rfl rfl (by decide) rfl rfl ?_
        refine X.iload 44 i194_42 rfl rfl rfl ?_
        refine X.iald 45 i194_44 rfl rfl (by decide) rfl (by omega) ?_
        have h543 := r13_0 hJ g0 (i := y7) (by omega)
        refine X.iload 47 i194_45 rfl rfl rfl ?_
        refine X.isub 48 i194_47 rfl rfl (by omega) ?_
        refine X.iiF 49 .iadd (fun x y => x + y) i194_48 rfl rfl rfl (fun _ _ => rfl) (fun z544 hz544 => ?_)
        refine X.istore 51 [(0, zr g0 11), (1, zi y1), (2, zi y2), (3, zi y3), (4, zi z544), (5, zi y5), (6, zi y6), (7, zi y7)] i194_49 rfl rfl rfl ?_
        refine X.cut [(0, zr g0 11), (1, zi y1), (2, zi y2), (3, zi y3), (4, zi z544), (7, zi y7)] i194_51 rfl ?_
        refine X.aload_n 52 i194_51 rfl rfl rfl ?_
        refine X.getR 55 i194_52 rfl rfl (by decide) rfl rfl ?_
        refine X.iload 57 i194_55 rfl rfl rfl ?_
        refine X.iald 58 i194_57 rfl rfl (by decide) rfl (by omega) ?_
        refine X.istore 60 [(0, zr g0 11), (1, zi y1), (2, zi y2), (3, zi y3), (4, zi z544), (5, zi (m g0 13 y7)), (7, zi y7)] i194_58 rfl rfl rfl ?_
        refine X.aload_n 61 i194_60 rfl rfl rfl ?_
        refine X.getR 64 i194_61 rfl rfl (by decide) rfl rfl ?_
        refine X.iload 66 i194_64 rfl rfl rfl ?_
        refine X.iald 67 i194_66 rfl rfl (by decide) rfl (by omega) ?_
        have h545 := r14_0 hJ g0 (i := y7) (by omega)
        refine X.istore 69 [(0, zr g0 11), (1, zi y1), (2, zi y2), (3, zi y3), (4, zi z544), (5, zi (m g0 13 y7)), (6, zi (m g0 14 y7)), (7, zi y7)] i194_67 rfl rfl rfl ?_
        refine X.iinc 72 [(0, zr g0 11), (1, zi y1), (2, zi y2), (3, zi y3), (4, zi z544), (5, zi (m g0 13 y7)), (6, zi (m g0 14 y7)), (7, zi (y7 + 1))] i194_69 rfl rfl rfl (by omega) rfl ?_
        refine X.goto 17 i194_72 rfl rfl ?_
        exact ih z544 (m g0 13 y7) (m g0 14 y7) (y7 + 1) (by omega) (by omega) (by omega) (by omega) (by omega)
-- WorkMeter$Calendar.secondsHeld
theorem c194_1 {s : Nat × (Nat → Int32)} {m0 m : zM} {B : Int} {d : Nat} {Q : Option zV → zM → Prop} (g0 : Nat) (a1 a2 : Int) (hd : 13 ≤ d) (hJ : J m0 B m) (hB : B + 0 ≤ 1000000000) (ha1 : 0 ≤ a1 ∧ a1 ≤ 7) (ha2 : 0 ≤ a2 ∧ a2 ≤ 3) (hQ : ∀ (v : Int), ((-2147483648) ≤ v ∧ v ≤ 2147483647) → Q (some (zi v)) m) : X (EE s) d 194 0 [(0, zr g0 11), (1, zi a1), (2, zi a2)] [] m Q := by
  refine X.iload_n 1 i194_0 rfl rfl rfl ?_
  refine X.bipush 3 i194_1 rfl rfl (by decide) ?_
  refine X.imul 4 i194_3 rfl rfl (by omega) ?_
  refine X.istore_n 5 [(0, zr g0 11), (1, zi a1), (2, zi a2), (3, zi (a1 * 6))] i194_4 rfl rfl rfl ?_
  refine X.iconst 6 i194_5 rfl rfl (by decide) ?_
  refine X.istore 8 [(0, zr g0 11), (1, zi a1), (2, zi a2), (3, zi (a1 * 6)), (4, zi 0)] i194_6 rfl rfl rfl ?_
  refine X.iconst 9 i194_8 rfl rfl (by decide) ?_
  refine X.istore 11 [(0, zr g0 11), (1, zi a1), (2, zi a2), (3, zi (a1 * 6)), (4, zi 0), (5, zi 0)] i194_9 rfl rfl rfl ?_
  refine X.iconst 12 i194_11 rfl rfl (by decide) ?_
  refine X.istore 14 [(0, zr g0 11), (1, zi a1), (2, zi a2), (3, zi (a1 * 6)), (4, zi 0), (5, zi 0), (6, zi 0)] i194_12 rfl rfl rfl ?_
  refine X.iload_n 15 i194_14 rfl rfl rfl ?_
  refine X.istore 17 [(0, zr g0 11), (1, zi a1), (2, zi a2), (3, zi (a1 * 6)), (4, zi 0), (5, zi 0), (6, zi 0), (7, zi (a1 * 6))] i194_15 rfl rfl rfl ?_
  refine l194_17_1 (s := s) (m0 := m0) (m := m) (B := B) (d := d) g0 a1 a2 (a1 * 6) (by omega) (hJ.up (by omega)) (by omega) (by omega) (by omega) (by omega) (fun y501 y502 y503 hby501 hby502 hby503 => ?_) ((48 - (a1 * 6) : Int).toNat + 1) 0 0 0 (a1 * 6) (by omega) (by omega) (by omega) (by omega) (by omega)
  refine X.iload 77 i194_75 rfl rfl rfl ?_
  refine X.iload_n 78 i194_77 rfl rfl rfl ?_
  refine X.icmpne 92 81 i194_78 rfl rfl rfl (fun h507 => ?_) (fun h507 => ?_)
  · refine X.cut [(4, zi y501)] i194_92 rfl ?_
    refine X.iload 94 i194_92 rfl rfl rfl ?_
    refine X.cut [] i194_94 rfl ?_
    refine X.reti i194_94 rfl t194 ?_
    exact hQ y501 (by first | trivial | omega) 
  · refine X.iload 83 i194_81 rfl rfl rfl ?_
    refine X.ldc 85 i194_83 rfl rfl (by decide) ?_
    refine X.iiF 86 .iadd (fun x y => x + y) i194_85 rfl rfl rfl (fun _ _ => rfl) (fun z508 hz508 => ?_)
    refine X.iload 88 i194_86 rfl rfl rfl ?_
    refine X.iiF 89 .isub (fun x y => x - y) i194_88 rfl rfl rfl (fun _ _ => rfl) (fun z509 hz509 => ?_)
    refine X.goto 94 i194_89 rfl rfl ?_
    refine X.cut [] i194_94 rfl ?_
    refine X.reti i194_94 rfl t194 ?_
    exact hQ z509 (by first | trivial | omega) 
-- WorkMeter.holds
theorem c193_1 {s : Nat × (Nat → Int32)} {m0 m : zM} {B : Int} {d : Nat} {Q : Option zV → zM → Prop} (g0 : Nat) (a1 a2 : Int) (hd : 15 ≤ d) (hJ : J m0 B m) (hB : B + 0 ≤ 1000000000) (ha1 : (-2147483648) ≤ a1 ∧ a1 ≤ 2147483647) (ha2 : (-2147483648) ≤ a2 ∧ a2 ≤ 2147483647) (hQ : ∀ (v : Int), ((-2147483648) ≤ v ∧ v ≤ 2147483647) → Q (some (zi v)) m) : X (EE s) d 193 0 [(0, zr g0 40), (1, zi a1), (2, zi a2)] [] m Q := by
  refine X.iload_n 1 i193_0 rfl rfl rfl ?_
  refine X.calls 4 [zi a1] [] [(0, zi a1)] i193_1 (by decide) rfl rfl (by omega) rfl rfl t150 (Nat.le_of_ble_eq_true rfl) (Nat.le_of_ble_eq_true rfl) rfl ?_
  refine X.iload_n 1 i150_0 rfl rfl rfl ?_
  refine X.iflt 15 4 i150_1 rfl rfl rfl (fun h501 => ?_) (fun h501 => ?_)
  · refine X.cut [] i150_15 rfl ?_
    refine X.iconst 16 i150_15 rfl rfl (by decide) ?_
    refine X.retz i150_16 rfl t150 (by omega) ?_
    show X (EE s) d 193 4 [(0, zr g0 40), (1, zi a1), (2, zi a2)] [zi 0] m _
    refine X.ifeq 14 7 i193_4 rfl rfl rfl (fun h502 => ?_) (fun h502 => (by exfalso; omega))
    refine X.cut [] i193_14 rfl ?_
    refine X.iconst 15 i193_14 rfl rfl (by decide) ?_
    refine X.reti i193_15 rfl t193 ?_
    exact hQ (-1) (by first | trivial | omega) 
  · refine X.iload_n 5 i150_4 rfl rfl rfl ?_
    refine X.sipush 8 i150_5 rfl rfl (by decide) ?_
    refine X.icmpgt 15 11 i150_8 rfl rfl rfl (fun h503 => ?_) (fun h503 => ?_)
    · refine X.cut [] i150_15 rfl ?_
      refine X.iconst 16 i150_15 rfl rfl (by decide) ?_
      refine X.retz i150_16 rfl t150 (by omega) ?_
      show X (EE s) d 193 4 [(0, zr g0 40), (1, zi a1), (2, zi a2)] [zi 0] m _
      refine X.ifeq 14 7 i193_4 rfl rfl rfl (fun h504 => ?_) (fun h504 => (by exfalso; omega))
      refine X.cut [] i193_14 rfl ?_
      refine X.iconst 15 i193_14 rfl rfl (by decide) ?_
      refine X.reti i193_15 rfl t193 ?_
      exact hQ (-1) (by first | trivial | omega) 
    · refine X.iconst 12 i150_11 rfl rfl (by decide) ?_
      refine X.goto 16 i150_12 rfl rfl ?_
      refine X.cut [] i150_16 rfl ?_
      refine X.retz i150_16 rfl t150 (by omega) ?_
      show X (EE s) d 193 4 [(0, zr g0 40), (1, zi a1), (2, zi a2)] [zi 1] m _
      refine X.ifeq 14 7 i193_4 rfl rfl rfl (fun h505 => (by exfalso; omega)) (fun h505 => ?_)
      refine X.iload_n 8 i193_7 rfl rfl rfl ?_
      refine X.calls 11 [zi a2] [] [(0, zi a2)] i193_8 (by decide) rfl rfl (by omega) rfl rfl t80 (Nat.le_of_ble_eq_true rfl) (Nat.le_of_ble_eq_true rfl) rfl ?_
      refine X.iload_n 1 i80_0 rfl rfl rfl ?_
      refine X.iflt 13 4 i80_1 rfl rfl rfl (fun h506 => ?_) (fun h506 => ?_)
      · refine X.cut [] i80_13 rfl ?_
        refine X.iconst 14 i80_13 rfl rfl (by decide) ?_
        refine X.retz i80_14 rfl t80 (by omega) ?_
        show X (EE s) d 193 11 [(0, zr g0 40), (1, zi a1), (2, zi a2)] [zi 0] m _
        refine X.ifne 16 14 i193_11 rfl rfl rfl (fun h507 => (by exfalso; omega)) (fun h507 => ?_)
        refine X.cut [] i193_14 rfl ?_
        refine X.iconst 15 i193_14 rfl rfl (by decide) ?_
        refine X.reti i193_15 rfl t193 ?_
        exact hQ (-1) (by first | trivial | omega) 
      · refine X.iload_n 5 i80_4 rfl rfl rfl ?_
        refine X.iconst 6 i80_5 rfl rfl (by decide) ?_
        refine X.icmpge 13 9 i80_6 rfl rfl rfl (fun h508 => ?_) (fun h508 => ?_)
        · refine X.cut [] i80_13 rfl ?_
          refine X.iconst 14 i80_13 rfl rfl (by decide) ?_
          refine X.retz i80_14 rfl t80 (by omega) ?_
          show X (EE s) d 193 11 [(0, zr g0 40), (1, zi a1), (2, zi a2)] [zi 0] m _
          refine X.ifne 16 14 i193_11 rfl rfl rfl (fun h509 => (by exfalso; omega)) (fun h509 => ?_)
          refine X.cut [] i193_14 rfl ?_
          refine X.iconst 15 i193_14 rfl rfl (by decide) ?_
          refine X.reti i193_15 rfl t193 ?_
          exact hQ (-1) (by first | trivial | omega) 
        · refine X.iconst 10 i80_9 rfl rfl (by decide) ?_
          refine X.goto 14 i80_10 rfl rfl ?_
          refine X.cut [] i80_14 rfl ?_
          refine X.retz i80_14 rfl t80 (by omega) ?_
          show X (EE s) d 193 11 [(0, zr g0 40), (1, zi a1), (2, zi a2)] [zi 1] m _
          refine X.ifne 16 14 i193_11 rfl rfl rfl (fun h510 => ?_) (fun h510 => (by exfalso; omega))
          refine X.aload_n 17 i193_16 rfl rfl rfl ?_
          refine X.getF 20 i193_17 rfl rfl (by decide) rfl rfl ?_
          refine X.getR 23 i193_20 rfl rfl (by decide) rfl rfl ?_
          refine X.aload_n 24 i193_23 rfl rfl rfl ?_
          refine X.getF 27 i193_24 rfl rfl (by decide) rfl rfl ?_
          refine X.getR 30 i193_27 rfl rfl (by decide) rfl rfl ?_
          refine X.iload_n 31 i193_30 rfl rfl rfl ?_
          refine X.callv 34 [zi a1] [zr 0 11] [(0, zr 0 11), (1, zi a1)] i193_31 rfl (by decide) rfl rfl (by omega) rfl rfl (by decide) rfl t28 (Nat.le_of_ble_eq_true rfl) (Nat.le_of_ble_eq_true rfl) rfl ?_
          refine c28_1 (B := B) 0 a1 (by omega) (hJ.up (by omega)) (by omega) (by omega) (fun v513 hv513 => ?_)
          show X (EE s) d 193 34 [(0, zr g0 40), (1, zi a1), (2, zi a2)] [zi v513, zr 0 11] m _
          refine X.iload_n 35 i193_34 rfl rfl rfl ?_
          refine X.callv 38 [zi v513, zi a2] [] [(0, zr 0 11), (1, zi v513), (2, zi a2)] i193_35 rfl (by decide) rfl rfl (by omega) rfl rfl (by decide) rfl t194 (Nat.le_of_ble_eq_true rfl) (Nat.le_of_ble_eq_true rfl) rfl ?_
          refine c194_1 (B := B) 0 v513 a2 (by omega) (hJ.up (by omega)) (by omega) (by omega) (by omega) (fun v516 hv516 => ?_)
          show X (EE s) d 193 38 [(0, zr g0 40), (1, zi a1), (2, zi a2)] [zi v516] m _
          refine X.reti i193_38 rfl t193 ?_
          exact hQ v516 (by first | trivial | omega) 
theorem l253_52_1 {s : Nat × (Nat → Int32)} {m0 m : zM} {B : Int} {d : Nat} {Q : Option zV → zM → Prop} (g0 : Nat) (y2 y3 y4 : Int) (hd : 13 ≤ d) (hJ : J m0 B m) (hB9 : B ≤ 1000000000) (hy2 : 0 ≤ y2 ∧ y2 ≤ 3) (hy3 : 0 ≤ y3 ∧ y3 ≤ 7) (hy4 : 0 ≤ y4 ∧ y4 ≤ 6)
    (K146 : ∀ (x5 : Int) , ((-2147483648) ≤ x5 ∧ x5 ≤ 2147483647) → X (EE s) d 253 146 [(5, zi x5)] [] m Q) :
    ∀ (n : Nat) (y5 y6 y7 y8 : Int) , ((-2147483648) ≤ y5 ∧ y5 ≤ 2147483647) → (0 ≤ y6 ∧ y6 ≤ 3) → (0 ≤ y7 ∧ y7 ≤ 86400) → (0 ≤ y8 ∧ y8 ≤ 7) → 7 - y8 < (n : Int) → X (EE s) d 253 52 [(0, zr g0 44), (2, zi y2), (3, zi y3), (4, zi y4), (5, zi y5), (6, zi y6), (7, zi y7), (8, zi y8)] [] m Q := by
  intro n
  induction n with
  | zero =>
    intro y5 y6 y7 y8 hy5 hy6 hy7 hy8 hn
    exfalso
    omega
  | succ n ih =>
    intro y5 y6 y7 y8 hy5 hy6 hy7 hy8 hn
    refine X.iload 54 i253_52 rfl rfl rfl ?_
    refine X.iload 56 i253_54 rfl rfl rfl ?_
    refine X.icmpgt 146 59 i253_56 rfl rfl rfl (fun h568 => ?_) (fun h568 => ?_)
    · refine X.cut [(5, zi y5)] i253_146 rfl ?_
      exact K146 y5 (by first | trivial | omega)
    · refine X.iload 61 i253_59 rfl rfl rfl ?_
      refine X.iload 63 i253_61 rfl rfl rfl ?_
      refine X.icmpge 86 66 i253_63 rfl rfl rfl (fun h569 => ?_) (fun h569 => ?_)
      · refine X.ldc 88 i253_86 rfl rfl (by decide) ?_
        refine X.istore 90 [(0, zr g0 44), (2, zi y2), (3, zi y3), (4, zi y4), (5, zi y5), (6, zi y6), (7, zi y7), (8, zi y8), (9, zi 86400)] i253_88 rfl rfl rfl ?_
        refine X.iload 92 i253_90 rfl rfl rfl ?_
        refine X.iload 94 i253_92 rfl rfl rfl ?_
        refine X.iload_n 95 i253_94 rfl rfl rfl ?_
        refine X.icmpne 106 98 i253_95 rfl rfl rfl (fun h570 => ?_) (fun h570 => ?_)
        · refine X.cut [(0, zr g0 44), (2, zi y2), (3, zi y3), (4, zi y4), (6, zi y6), (8, zi y8), (9, zi 86400)] i253_106 rfl ?_
          refine X.iconst 107 i253_106 rfl rfl (by decide) ?_
          refine X.iadd 108 i253_107 rfl rfl (by omega) ?_
          refine X.istore 110 [(0, zr g0 44), (2, zi y2), (3, zi y3), (4, zi y4), (5, zi (y5 + 0)), (6, zi y6), (8, zi y8), (9, zi 86400)] i253_108 rfl rfl rfl ?_
          refine X.iload 112 i253_110 rfl rfl rfl ?_
          refine X.istore 114 [(0, zr g0 44), (2, zi y2), (3, zi y3), (4, zi y4), (5, zi (y5 + 0)), (6, zi y6), (7, zi 86400), (8, zi y8), (9, zi 86400)] i253_112 rfl rfl rfl ?_
          refine X.iload 116 i253_114 rfl rfl rfl ?_
          refine X.iload 118 i253_116 rfl rfl rfl ?_
          refine X.icmpge 140 121 i253_118 rfl rfl rfl (fun h571 => ?_) (fun h571 => ?_)
          · refine X.cut [(0, zr g0 44), (2, zi y2), (3, zi y3), (4, zi y4), (5, zi (y5 + 0)), (6, zi y6), (7, zi 86400), (8, zi y8)] i253_140 rfl ?_
            refine X.iinc 143 [(0, zr g0 44), (2, zi y2), (3, zi y3), (4, zi y4), (5, zi (y5 + 0)), (6, zi y6), (7, zi 86400), (8, zi (y8 + 1))] i253_140 rfl rfl rfl (by omega) rfl ?_
            refine X.goto 52 i253_143 rfl rfl ?_
            exact ih (y5 + 0) y6 86400 (y8 + 1) (by omega) (by omega) (by omega) (by omega) (by omega)
          · refine X.aload_n 122 i253_121 rfl rfl rfl ?_
            refine X.getF 125 i253_122 rfl rfl (by decide) rfl rfl ?_
            refine X.sipush 128 i253_125 rfl rfl (by decide) ?_
            refine X.bipush 130 i253_128 rfl rfl (by decide) ?_
            refine X.iload_n 131 i253_130 rfl rfl rfl ?_
            refine X.imul 132 i253_131 rfl rfl (by omega) ?_
            refine X.iadd 133 i253_132 rfl rfl (by omega) ?_
            refine X.iload 135 i253_133 rfl rfl rfl ?_
            refine X.iadd 136 i253_135 rfl rfl (by omega) ?_
            refine X.lald 137 i253_136 rfl rfl (by decide) rfl (by omega) ?_
            have h572 := r45_343 hJ 4 (i := ((343 + (6 * y3)) + y8)) (by omega)
            refine X.l2i 138 i253_137 rfl rfl (by omega) ?_
            refine X.istore 140 [(0, zr g0 44), (2, zi y2), (3, zi y3), (4, zi y4), (5, zi (y5 + 0)), (6, zi (m 4 45 ((343 + (6 * y3)) + y8))), (7, zi 86400), (8, zi y8), (9, zi 86400)] i253_138 rfl rfl rfl ?_
            refine X.cut [(0, zr g0 44), (2, zi y2), (3, zi y3), (4, zi y4), (5, zi (y5 + 0)), (6, zi (m 4 45 ((343 + (6 * y3)) + y8))), (7, zi 86400), (8, zi y8)] i253_140 rfl ?_
            refine X.iinc 143 [(0, zr g0 44), (2, zi y2), (3, zi y3), (4, zi y4), (5, zi (y5 + 0)), (6, zi (m 4 45 ((343 + (6 * y3)) + y8))), (7, zi 86400), (8, zi (y8 + 1))] i253_140 rfl rfl rfl (by omega) rfl ?_
            refine X.goto 52 i253_143 rfl rfl ?_
            exact ih (y5 + 0) (m 4 45 ((343 + (6 * y3)) + y8)) 86400 (y8 + 1) (by omega) (by omega) (by omega) (by omega) (by omega)
        · refine X.iload 100 i253_98 rfl rfl rfl ?_
          refine X.iload 102 i253_100 rfl rfl rfl ?_
          refine X.isub 103 i253_102 rfl rfl (by omega) ?_
          refine X.goto 107 i253_103 rfl rfl ?_
          refine X.cut [(0, zr g0 44), (2, zi y2), (3, zi y3), (4, zi y4), (6, zi y6), (8, zi y8), (9, zi 86400)] i253_107 rfl ?_
          refine X.iiF 108 .iadd (fun x y => x + y) i253_107 rfl rfl rfl (fun _ _ => rfl) (fun z573 hz573 => ?_)
          refine X.istore 110 [(0, zr g0 44), (2, zi y2), (3, zi y3), (4, zi y4), (5, zi z573), (6, zi y6), (8, zi y8), (9, zi 86400)] i253_108 rfl rfl rfl ?_
          refine X.iload 112 i253_110 rfl rfl rfl ?_
          refine X.istore 114 [(0, zr g0 44), (2, zi y2), (3, zi y3), (4, zi y4), (5, zi z573), (6, zi y6), (7, zi 86400), (8, zi y8), (9, zi 86400)] i253_112 rfl rfl rfl ?_
          refine X.iload 116 i253_114 rfl rfl rfl ?_
          refine X.iload 118 i253_116 rfl rfl rfl ?_
          refine X.icmpge 140 121 i253_118 rfl rfl rfl (fun h574 => ?_) (fun h574 => ?_)
          · refine X.cut [(0, zr g0 44), (2, zi y2), (3, zi y3), (4, zi y4), (5, zi z573), (6, zi y6), (7, zi 86400), (8, zi y8)] i253_140 rfl ?_
            refine X.iinc 143 [(0, zr g0 44), (2, zi y2), (3, zi y3), (4, zi y4), (5, zi z573), (6, zi y6), (7, zi 86400), (8, zi (y8 + 1))] i253_140 rfl rfl rfl (by omega) rfl ?_
            refine X.goto 52 i253_143 rfl rfl ?_
            exact ih z573 y6 86400 (y8 + 1) (by omega) (by omega) (by omega) (by omega) (by omega)
          · refine X.aload_n 122 i253_121 rfl rfl rfl ?_
            refine X.getF 125 i253_122 rfl rfl (by decide) rfl rfl ?_
            refine X.sipush 128 i253_125 rfl rfl (by decide) ?_
            refine X.bipush 130 i253_128 rfl rfl (by decide) ?_
            refine X.iload_n 131 i253_130 rfl rfl rfl ?_
            refine X.imul 132 i253_131 rfl rfl (by omega) ?_
            refine X.iadd 133 i253_132 rfl rfl (by omega) ?_
            refine X.iload 135 i253_133 rfl rfl rfl ?_
            refine X.iadd 136 i253_135 rfl rfl (by omega) ?_
            refine X.lald 137 i253_136 rfl rfl (by decide) rfl (by omega) ?_
            have h575 := r45_343 hJ 4 (i := ((343 + (6 * y3)) + y8)) (by omega)
            refine X.l2i 138 i253_137 rfl rfl (by omega) ?_
            refine X.istore 140 [(0, zr g0 44), (2, zi y2), (3, zi y3), (4, zi y4), (5, zi z573), (6, zi (m 4 45 ((343 + (6 * y3)) + y8))), (7, zi 86400), (8, zi y8), (9, zi 86400)] i253_138 rfl rfl rfl ?_
            refine X.cut [(0, zr g0 44), (2, zi y2), (3, zi y3), (4, zi y4), (5, zi z573), (6, zi (m 4 45 ((343 + (6 * y3)) + y8))), (7, zi 86400), (8, zi y8)] i253_140 rfl ?_
            refine X.iinc 143 [(0, zr g0 44), (2, zi y2), (3, zi y3), (4, zi y4), (5, zi z573), (6, zi (m 4 45 ((343 + (6 * y3)) + y8))), (7, zi 86400), (8, zi (y8 + 1))] i253_140 rfl rfl rfl (by omega) rfl ?_
            refine X.goto 52 i253_143 rfl rfl ?_
            exact ih z573 (m 4 45 ((343 + (6 * y3)) + y8)) 86400 (y8 + 1) (by omega) (by omega) (by omega) (by omega) (by omega)
      · refine X.aload_n 67 i253_66 rfl rfl rfl ?_
        refine X.getF 70 i253_67 rfl rfl (by decide) rfl rfl ?_
        refine X.sipush 73 i253_70 rfl rfl (by decide) ?_
        refine X.bipush 75 i253_73 rfl rfl (by decide) ?_
        refine X.iload_n 76 i253_75 rfl rfl rfl ?_
        refine X.imul 77 i253_76 rfl rfl (by omega) ?_
        refine X.iadd 78 i253_77 rfl rfl (by omega) ?_
        refine X.iload 80 i253_78 rfl rfl rfl ?_
        refine X.iadd 81 i253_80 rfl rfl (by omega) ?_
        refine X.lald 82 i253_81 rfl rfl (by decide) rfl (by omega) ?_
        have h576 := r45_295 hJ 4 (i := ((295 + (6 * y3)) + y8)) (by omega)
        refine X.l2i 83 i253_82 rfl rfl (by omega) ?_
        refine X.goto 88 i253_83 rfl rfl ?_
        refine X.istore 90 [(0, zr g0 44), (2, zi y2), (3, zi y3), (4, zi y4), (5, zi y5), (6, zi y6), (7, zi y7), (8, zi y8), (9, zi (m 4 45 ((295 + (6 * y3)) + y8)))] i253_88 rfl rfl rfl ?_
        refine X.iload 92 i253_90 rfl rfl rfl ?_
        refine X.iload 94 i253_92 rfl rfl rfl ?_
        refine X.iload_n 95 i253_94 rfl rfl rfl ?_
        refine X.icmpne 106 98 i253_95 rfl rfl rfl (fun h577 => ?_) (fun h577 => ?_)
        · refine X.cut [(0, zr g0 44), (2, zi y2), (3, zi y3), (4, zi y4), (6, zi y6), (8, zi y8), (9, zi (m 4 45 ((295 + (6 * y3)) + y8)))] i253_106 rfl ?_
          refine X.iconst 107 i253_106 rfl rfl (by decide) ?_
          refine X.iadd 108 i253_107 rfl rfl (by omega) ?_
          refine X.istore 110 [(0, zr g0 44), (2, zi y2), (3, zi y3), (4, zi y4), (5, zi (y5 + 0)), (6, zi y6), (8, zi y8), (9, zi (m 4 45 ((295 + (6 * y3)) + y8)))] i253_108 rfl rfl rfl ?_
          refine X.iload 112 i253_110 rfl rfl rfl ?_
          refine X.istore 114 [(0, zr g0 44), (2, zi y2), (3, zi y3), (4, zi y4), (5, zi (y5 + 0)), (6, zi y6), (7, zi (m 4 45 ((295 + (6 * y3)) + y8))), (8, zi y8), (9, zi (m 4 45 ((295 + (6 * y3)) + y8)))] i253_112 rfl rfl rfl ?_
          refine X.iload 116 i253_114 rfl rfl rfl ?_
          refine X.iload 118 i253_116 rfl rfl rfl ?_
          refine X.icmpge 140 121 i253_118 rfl rfl rfl (fun h578 => ?_) (fun h578 => ?_)
          · refine X.cut [(0, zr g0 44), (2, zi y2), (3, zi y3), (4, zi y4), (5, zi (y5 + 0)), (6, zi y6), (7, zi (m 4 45 ((295 + (6 * y3)) + y8))), (8, zi y8)] i253_140 rfl ?_
            refine X.iinc 143 [(0, zr g0 44), (2, zi y2), (3, zi y3), (4, zi y4), (5, zi (y5 + 0)), (6, zi y6), (7, zi (m 4 45 ((295 + (6 * y3)) + y8))), (8, zi (y8 + 1))] i253_140 rfl rfl rfl (by omega) rfl ?_
            refine X.goto 52 i253_143 rfl rfl ?_
            exact ih (y5 + 0) y6 (m 4 45 ((295 + (6 * y3)) + y8)) (y8 + 1) (by omega) (by omega) (by omega) (by omega) (by omega)
          · refine X.aload_n 122 i253_121 rfl rfl rfl ?_
            refine X.getF 125 i253_122 rfl rfl (by decide) rfl rfl ?_
            refine X.sipush 128 i253_125 rfl rfl (by decide) ?_
            refine X.bipush 130 i253_128 rfl rfl (by decide) ?_
            refine X.iload_n 131 i253_130 rfl rfl rfl ?_
            refine X.imul 132 i253_131 rfl rfl (by omega) ?_
            refine X.iadd 133 i253_132 rfl rfl (by omega) ?_
            refine X.iload 135 i253_133 rfl rfl rfl ?_
            refine X.iadd 136 i253_135 rfl rfl (by omega) ?_
            refine X.lald 137 i253_136 rfl rfl (by decide) rfl (by omega) ?_
            have h579 := r45_343 hJ 4 (i := ((343 + (6 * y3)) + y8)) (by omega)
            refine X.l2i 138 i253_137 rfl rfl (by omega) ?_
            refine X.istore 140 [(0, zr g0 44), (2, zi y2), (3, zi y3), (4, zi y4), (5, zi (y5 + 0)), (6, zi (m 4 45 ((343 + (6 * y3)) + y8))), (7, zi (m 4 45 ((295 + (6 * y3)) + y8))), (8, zi y8), (9, zi (m 4 45 ((295 + (6 * y3)) + y8)))] i253_138 rfl rfl rfl ?_
            refine X.cut [(0, zr g0 44), (2, zi y2), (3, zi y3), (4, zi y4), (5, zi (y5 + 0)), (6, zi (m 4 45 ((343 + (6 * y3)) + y8))), (7, zi (m 4 45 ((295 + (6 * y3)) + y8))), (8, zi y8)] i253_140 rfl ?_
            refine X.iinc 143 [(0, zr g0 44), (2, zi y2), (3, zi y3), (4, zi y4), (5, zi (y5 + 0)), (6, zi (m 4 45 ((343 + (6 * y3)) + y8))), (7, zi (m 4 45 ((295 + (6 * y3)) + y8))), (8, zi (y8 + 1))] i253_140 rfl rfl rfl (by omega) rfl ?_
            refine X.goto 52 i253_143 rfl rfl ?_
            exact ih (y5 + 0) (m 4 45 ((343 + (6 * y3)) + y8)) (m 4 45 ((295 + (6 * y3)) + y8)) (y8 + 1) (by omega) (by omega) (by omega) (by omega) (by omega)
        · refine X.iload 100 i253_98 rfl rfl rfl ?_
          refine X.iload 102 i253_100 rfl rfl rfl ?_
          refine X.isub 103 i253_102 rfl rfl (by omega) ?_
          refine X.goto 107 i253_103 rfl rfl ?_
          refine X.cut [(0, zr g0 44), (2, zi y2), (3, zi y3), (4, zi y4), (6, zi y6), (8, zi y8), (9, zi (m 4 45 ((295 + (6 * y3)) + y8)))] i253_107 rfl ?_
          refine X.iiF 108 .iadd (fun x y => x + y) i253_107 rfl rfl rfl (fun _ _ => rfl) (fun z580 hz580 => ?_)
          refine X.istore 110 [(0, zr g0 44), (2, zi y2), (3, zi y3), (4, zi y4), (5, zi z580), (6, zi y6), (8, zi y8), (9, zi (m 4 45 ((295 + (6 * y3)) + y8)))] i253_108 rfl rfl rfl ?_
          refine X.iload 112 i253_110 rfl rfl rfl ?_
          refine X.istore 114 [(0, zr g0 44), (2, zi y2), (3, zi y3), (4, zi y4), (5, zi z580), (6, zi y6), (7, zi (m 4 45 ((295 + (6 * y3)) + y8))), (8, zi y8), (9, zi (m 4 45 ((295 + (6 * y3)) + y8)))] i253_112 rfl rfl rfl ?_
          refine X.iload 116 i253_114 rfl rfl rfl ?_
          refine X.iload 118 i253_116 rfl rfl rfl ?_
          refine X.icmpge 140 121 i253_118 rfl rfl rfl (fun h581 => ?_) (fun h581 => ?_)
          · refine X.cut [(0, zr g0 44), (2, zi y2), (3, zi y3), (4, zi y4), (5, zi z580), (6, zi y6), (7, zi (m 4 45 ((295 + (6 * y3)) + y8))), (8, zi y8)] i253_140 rfl ?_
            refine X.iinc 143 [(0, zr g0 44), (2, zi y2), (3, zi y3), (4, zi y4), (5, zi z580), (6, zi y6), (7, zi (m 4 45 ((295 + (6 * y3)) + y8))), (8, zi (y8 + 1))] i253_140 rfl rfl rfl (by omega) rfl ?_
            refine X.goto 52 i253_143 rfl rfl ?_
            exact ih z580 y6 (m 4 45 ((295 + (6 * y3)) + y8)) (y8 + 1) (by omega) (by omega) (by omega) (by omega) (by omega)
          · refine X.aload_n 122 i253_121 rfl rfl rfl ?_
            refine X.getF 125 i253_122 rfl rfl (by decide) rfl rfl ?_
            refine X.sipush 128 i253_125 rfl rfl (by decide) ?_
            refine X.bipush 130 i253_128 rfl rfl (by decide) ?_
            refine X.iload_n 131 i253_130 rfl rfl rfl ?_
            refine X.imul 132 i253_131 rfl rfl (by omega) ?_
            refine X.iadd 133 i253_132 rfl rfl (by omega) ?_
            refine X.iload 135 i253_133 rfl rfl rfl ?_
            refine X.iadd 136 i253_135 rfl rfl (by omega) ?_
            refine X.lald 137 i253_136 rfl rfl (by decide) rfl (by omega) ?_
            have h582 := r45_343 hJ 4 (i := ((343 + (6 * y3)) + y8)) (by omega)
            refine X.l2i 138 i253_137 rfl rfl (by omega) ?_
            refine X.istore 140 [(0, zr g0 44), (2, zi y2), (3, zi y3), (4, zi y4), (5, zi z580), (6, zi (m 4 45 ((343 + (6 * y3)) + y8))), (7, zi (m 4 45 ((295 + (6 * y3)) + y8))), (8, zi y8), (9, zi (m 4 45 ((295 + (6 * y3)) + y8)))] i253_138 rfl rfl rfl ?_
            refine X.cut [(0, zr g0 44), (2, zi y2), (3, zi y3), (4, zi y4), (5, zi z580), (6, zi (m 4 45 ((343 + (6 * y3)) + y8))), (7, zi (m 4 45 ((295 + (6 * y3)) + y8))), (8, zi y8)] i253_140 rfl ?_
            refine X.iinc 143 [(0, zr g0 44), (2, zi y2), (3, zi y3), (4, zi y4), (5, zi z580), (6, zi (m 4 45 ((343 + (6 * y3)) + y8))), (7, zi (m 4 45 ((295 + (6 * y3)) + y8))), (8, zi (y8 + 1))] i253_140 rfl rfl rfl (by omega) rfl ?_
            refine X.goto 52 i253_143 rfl rfl ?_
            exact ih z580 (m 4 45 ((343 + (6 * y3)) + y8)) (m 4 45 ((295 + (6 * y3)) + y8)) (y8 + 1) (by omega) (by omega) (by omega) (by omega) (by omega)
-- WorkMeterModel.holds
theorem c253_1 {s : Nat × (Nat → Int32)} {m0 m : zM} {B : Int} {d : Nat} {Q : Option zV → zM → Prop} (g0 : Nat) (a1 a2 : Int) (hd : 15 ≤ d) (hJ : J m0 B m) (hB : B + 0 ≤ 1000000000) (ha1 : (-2147483648) ≤ a1 ∧ a1 ≤ 2147483647) (ha2 : (-2147483648) ≤ a2 ∧ a2 ≤ 2147483647) (hQ : ∀ (v : Int), ((-2147483648) ≤ v ∧ v ≤ 2147483647) → Q (some (zi v)) m) : X (EE s) d 253 0 [(0, zr g0 44), (1, zi a1), (2, zi a2)] [] m Q := by
  refine X.iload_n 1 i253_0 rfl rfl rfl ?_
  refine X.i2l 2 i253_1 rfl rfl ?_
  refine X.lconst (y := 0) 3 i253_2 rfl rfl rfl ?_
  refine X.ldc2 6 i253_3 rfl rfl (by decide) ?_
  refine X.calls 9 [zl a1, zl 0, zl 23148] [] [(0, zl a1), (2, zl 0), (4, zl 23148)] i253_6 (by decide) rfl rfl (by omega) rfl rfl t204 (Nat.le_of_ble_eq_true rfl) (Nat.le_of_ble_eq_true rfl) rfl ?_
  refine X.lload_n 1 i204_0 rfl rfl rfl ?_
  refine X.lload_n 2 i204_1 rfl rfl rfl ?_
  refine X.lcmp 3 i204_2 rfl rfl (fun z501 hz501 => ?_)
  refine X.iflt 17 6 i204_3 rfl rfl rfl (fun h502 => ?_) (fun h502 => ?_)
  · have h502c : a1 < 0 := by omega
    clear h502 hz501
    refine X.cut [] i204_17 rfl ?_
    refine X.iconst 18 i204_17 rfl rfl (by decide) ?_
    refine X.retz i204_18 rfl t204 (by omega) ?_
    show X (EE s) d 253 9 [(0, zr g0 44), (1, zi a1), (2, zi a2)] [zi 0] m _
    refine X.ifeq 19 12 i253_9 rfl rfl rfl (fun h503 => ?_) (fun h503 => (by exfalso; omega))
    refine X.cut [] i253_19 rfl ?_
    refine X.iconst 20 i253_19 rfl rfl (by decide) ?_
    refine X.reti i253_20 rfl t253 ?_
    exact hQ (-1) (by first | trivial | omega) 
  · have h502c : a1 ≥ 0 := by omega
    clear h502 hz501
    refine X.lload_n 7 i204_6 rfl rfl rfl ?_
    refine X.lload 9 i204_7 rfl rfl rfl ?_
    refine X.lcmp 10 i204_9 rfl rfl (fun z504 hz504 => ?_)
    refine X.ifgt 17 13 i204_10 rfl rfl rfl (fun h505 => ?_) (fun h505 => ?_)
    · have h505c : a1 > 23148 := by omega
      clear h505 hz504
      refine X.cut [] i204_17 rfl ?_
      refine X.iconst 18 i204_17 rfl rfl (by decide) ?_
      refine X.retz i204_18 rfl t204 (by omega) ?_
      show X (EE s) d 253 9 [(0, zr g0 44), (1, zi a1), (2, zi a2)] [zi 0] m _
      refine X.ifeq 19 12 i253_9 rfl rfl rfl (fun h506 => ?_) (fun h506 => (by exfalso; omega))
      refine X.cut [] i253_19 rfl ?_
      refine X.iconst 20 i253_19 rfl rfl (by decide) ?_
      refine X.reti i253_20 rfl t253 ?_
      exact hQ (-1) (by first | trivial | omega) 
    · have h505c : a1 ≤ 23148 := by omega
      clear h505 hz504
      refine X.iconst 14 i204_13 rfl rfl (by decide) ?_
      refine X.goto 18 i204_14 rfl rfl ?_
      refine X.cut [] i204_18 rfl ?_
      refine X.retz i204_18 rfl t204 (by omega) ?_
      show X (EE s) d 253 9 [(0, zr g0 44), (1, zi a1), (2, zi a2)] [zi 1] m _
      refine X.ifeq 19 12 i253_9 rfl rfl rfl (fun h507 => (by exfalso; omega)) (fun h507 => ?_)
      refine X.iload_n 13 i253_12 rfl rfl rfl ?_
      refine X.calls 16 [zi a2] [] [(0, zi a2)] i253_13 (by decide) rfl rfl (by omega) rfl rfl t242 (Nat.le_of_ble_eq_true rfl) (Nat.le_of_ble_eq_true rfl) rfl ?_
      refine X.iload_n 1 i242_0 rfl rfl rfl ?_
      refine X.i2l 2 i242_1 rfl rfl ?_
      refine X.lconst (y := 0) 3 i242_2 rfl rfl rfl ?_
      refine X.ldc2 6 i242_3 rfl rfl (by decide) ?_
      refine X.calls 9 [zl a2, zl 0, zl 3] [] [(0, zl a2), (2, zl 0), (4, zl 3)] i242_6 (by decide) rfl rfl (by omega) rfl rfl t204 (Nat.le_of_ble_eq_true rfl) (Nat.le_of_ble_eq_true rfl) rfl ?_
      refine X.lload_n 1 i204_0 rfl rfl rfl ?_
      refine X.lload_n 2 i204_1 rfl rfl rfl ?_
      refine X.lcmp 3 i204_2 rfl rfl (fun z508 hz508 => ?_)
      refine X.iflt 17 6 i204_3 rfl rfl rfl (fun h509 => ?_) (fun h509 => ?_)
      · have h509c : a2 < 0 := by omega
        clear h509 hz508
        refine X.cut [] i204_17 rfl ?_
        refine X.iconst 18 i204_17 rfl rfl (by decide) ?_
        refine X.retz i204_18 rfl t204 (by omega) ?_
        show X (EE s) (d - 1) 242 9 [(0, zi a2)] [zi 0] m _
        refine X.retz i242_9 rfl t242 (by omega) ?_
        show X (EE s) d 253 16 [(0, zr g0 44), (1, zi a1), (2, zi a2)] [zi 0] m _
        refine X.ifne 21 19 i253_16 rfl rfl rfl (fun h510 => (by exfalso; omega)) (fun h510 => ?_)
        refine X.cut [] i253_19 rfl ?_
        refine X.iconst 20 i253_19 rfl rfl (by decide) ?_
        refine X.reti i253_20 rfl t253 ?_
        exact hQ (-1) (by first | trivial | omega) 
      · have h509c : a2 ≥ 0 := by omega
        clear h509 hz508
        refine X.lload_n 7 i204_6 rfl rfl rfl ?_
        refine X.lload 9 i204_7 rfl rfl rfl ?_
        refine X.lcmp 10 i204_9 rfl rfl (fun z511 hz511 => ?_)
        refine X.ifgt 17 13 i204_10 rfl rfl rfl (fun h512 => ?_) (fun h512 => ?_)
        · have h512c : a2 > 3 := by omega
          clear h512 hz511
          refine X.cut [] i204_17 rfl ?_
          refine X.iconst 18 i204_17 rfl rfl (by decide) ?_
          refine X.retz i204_18 rfl t204 (by omega) ?_
          show X (EE s) (d - 1) 242 9 [(0, zi a2)] [zi 0] m _
          refine X.retz i242_9 rfl t242 (by omega) ?_
          show X (EE s) d 253 16 [(0, zr g0 44), (1, zi a1), (2, zi a2)] [zi 0] m _
          refine X.ifne 21 19 i253_16 rfl rfl rfl (fun h513 => (by exfalso; omega)) (fun h513 => ?_)
          refine X.cut [] i253_19 rfl ?_
          refine X.iconst 20 i253_19 rfl rfl (by decide) ?_
          refine X.reti i253_20 rfl t253 ?_
          exact hQ (-1) (by first | trivial | omega) 
        · have h512c : a2 ≤ 3 := by omega
          clear h512 hz511
          refine X.iconst 14 i204_13 rfl rfl (by decide) ?_
          refine X.goto 18 i204_14 rfl rfl ?_
          refine X.cut [] i204_18 rfl ?_
          refine X.retz i204_18 rfl t204 (by omega) ?_
          show X (EE s) (d - 1) 242 9 [(0, zi a2)] [zi 1] m _
          refine X.retz i242_9 rfl t242 (by omega) ?_
          show X (EE s) d 253 16 [(0, zr g0 44), (1, zi a1), (2, zi a2)] [zi 1] m _
          refine X.ifne 21 19 i253_16 rfl rfl rfl (fun h514 => ?_) (fun h514 => (by exfalso; omega))
          refine X.aload_n 22 i253_21 rfl rfl rfl ?_
          refine X.iload_n 23 i253_22 rfl rfl rfl ?_
          refine X.callv 26 [zi a1] [] [(0, zr g0 44), (1, zi a1)] i253_23 rfl (by decide) rfl rfl (by omega) rfl rfl (by decide) rfl t218 (Nat.le_of_ble_eq_true rfl) (Nat.le_of_ble_eq_true rfl) rfl ?_
          refine c218_1 (B := B) g0 a1 (by omega) (hJ.up (by omega)) (by omega) (by omega) (fun v517 hv517 => ?_)
          show X (EE s) d 253 26 [(0, zr g0 44), (1, zi a1), (2, zi a2)] [zi v517] m _
          refine X.istore_n 27 [(0, zr g0 44), (1, zi a1), (2, zi a2), (3, zi v517)] i253_26 rfl rfl rfl ?_
          refine X.aload_n 28 i253_27 rfl rfl rfl ?_
          refine X.getF 31 i253_28 rfl rfl (by decide) rfl rfl ?_
          refine X.sipush 34 i253_31 rfl rfl (by decide) ?_
          refine X.iload_n 35 i253_34 rfl rfl rfl ?_
          refine X.iadd 36 i253_35 rfl rfl (by omega) ?_
          refine X.lald 37 i253_36 rfl rfl (by decide) rfl (by omega) ?_
          have h518 := r45_287 hJ 4 (i := (287 + v517)) (by omega)
          refine X.l2i 38 i253_37 rfl rfl (by omega) ?_
          refine X.istore 40 [(0, zr g0 44), (1, zi a1), (2, zi a2), (3, zi v517), (4, zi (m 4 45 (287 + v517)))] i253_38 rfl rfl rfl ?_
          refine X.iconst 41 i253_40 rfl rfl (by decide) ?_
          refine X.istore 43 [(0, zr g0 44), (1, zi a1), (2, zi a2), (3, zi v517), (4, zi (m 4 45 (287 + v517))), (5, zi 0)] i253_41 rfl rfl rfl ?_
          refine X.iconst 44 i253_43 rfl rfl (by decide) ?_
          refine X.istore 46 [(0, zr g0 44), (1, zi a1), (2, zi a2), (3, zi v517), (4, zi (m 4 45 (287 + v517))), (5, zi 0), (6, zi 0)] i253_44 rfl rfl rfl ?_
          refine X.iconst 47 i253_46 rfl rfl (by decide) ?_
          refine X.istore 49 [(0, zr g0 44), (1, zi a1), (2, zi a2), (3, zi v517), (4, zi (m 4 45 (287 + v517))), (5, zi 0), (6, zi 0), (7, zi 0)] i253_47 rfl rfl rfl ?_
          refine X.iconst 50 i253_49 rfl rfl (by decide) ?_
          refine X.istore 52 [(0, zr g0 44), (1, zi a1), (2, zi a2), (3, zi v517), (4, zi (m 4 45 (287 + v517))), (5, zi 0), (6, zi 0), (7, zi 0), (8, zi 0)] i253_50 rfl rfl rfl ?_
          refine X.cut [(0, zr g0 44), (2, zi a2), (3, zi v517), (4, zi (m 4 45 (287 + v517))), (5, zi 0), (6, zi 0), (7, zi 0), (8, zi 0)] i253_52 rfl ?_
          refine l253_52_1 (s := s) (m0 := m0) (m := m) (B := B) (d := d) g0 a2 v517 (m 4 45 (287 + v517)) (by omega) (hJ.up (by omega)) (by omega) (by omega) (by omega) (by omega) (fun y519 hby519 => ?_) ((7 - 0 : Int).toNat + 1) 0 0 0 0 (by omega) (by omega) (by omega) (by omega) (by omega)
          refine X.iload 148 i253_146 rfl rfl rfl ?_
          refine X.reti i253_148 rfl t253 ?_
          exact hQ y519 (by first | trivial | omega) 
-- WorkMeter.image
theorem c195_1 {s : Nat × (Nat → Int32)} {m0 m : zM} {B : Int} {d : Nat} {Q : Option zV → zM → Prop} (g0 : Nat) (a1 : Int) (hd : 15 ≤ d) (hJ : J m0 B m) (hB : B + 3 ≤ 1000000000) (ha1 : 0 ≤ a1 ∧ a1 ≤ 1) (hp0 : g0 = 4) (hQ : ∀ (n0 : zM) (v : Int) m', (0 ≤ v ∧ v ≤ 1) → J n0 (B + 3) m' → ((a1 = 1 ∧ v = 1 ∧ n0 = z_upd (z_upd (z_upd m0 1 23 3 (m0 0 23 3)) 1 8 11 (m0 0 8 11)) g0 40 4 1) ∨ (a1 = 0 ∧ m0 g0 40 4 = 1 ∧ v = 1 ∧ n0 = z_upd (z_upd m0 0 23 3 (m0 1 23 3)) 0 8 11 (m0 1 8 11)) ∨ (a1 = 0 ∧ m0 g0 40 4 = 0 ∧ v = 0 ∧ n0 = m0)) → Q (some (zi v)) m') : X (EE s) d 195 0 [(0, zr g0 40), (1, zi a1)] [] m Q := by
  have f0 := hJ.2 g0 40 4 (by rw [hp0]; rfl)
  refine X.iload_n 1 i195_0 rfl rfl rfl ?_
  refine X.ifeq 23 4 i195_1 rfl rfl rfl (fun h501 => ?_) (fun h501 => ?_)
  · refine X.cut [(0, zr g0 40)] i195_23 rfl ?_
    refine X.aload_n 24 i195_23 rfl rfl rfl ?_
    refine X.getZ 27 4 i195_24 rfl rfl (by decide) rfl rfl rfl (fun h502 => ?_)
    have t503 := hJ.2 g0 40 4 (by rw [hp0]; rfl)
    refine X.ifeq 41 30 i195_27 rfl rfl rfl (fun h504 => ?_) (fun h504 => ?_)
    · refine X.aload_n 42 i195_41 rfl rfl rfl ?_
      refine X.getZ 45 4 i195_42 rfl rfl (by decide) rfl rfl rfl (fun h505 => ?_)
      have t506 := hJ.2 g0 40 4 (by rw [hp0]; rfl)
      refine X.retz i195_45 rfl t195 (by omega) ?_
      exact hQ m0 (m g0 40 4) m (by first | trivial | omega) (hJ.up (by omega))  (by first | exact .inl ⟨by omega, by omega, by subst_vars; rfl⟩ | exact .inr (.inl ⟨by omega, by omega, by omega, by subst_vars; rfl⟩) | exact .inr (.inr ⟨by omega, by omega, by omega, rfl⟩)) 
    · refine X.aload_n 31 i195_30 rfl rfl rfl ?_
      refine X.getF 34 i195_31 rfl rfl (by decide) rfl rfl ?_
      refine X.aload_n 35 i195_34 rfl rfl rfl ?_
      refine X.getF 38 i195_35 rfl rfl (by decide) rfl rfl ?_
      refine X.callv 41 [zr 1 8] [] [(0, zr 0 8), (1, zr 1 8)] i195_38 rfl (by decide) rfl rfl (by omega) rfl rfl (by decide) rfl t171 (Nat.le_of_ble_eq_true rfl) (Nat.le_of_ble_eq_true rfl) rfl ?_
      refine c171_1 (B := B) 0 1  (by omega) (hJ.up (by omega)) (by omega) (by omega) (fun n0510 m507 hJ508 pn0510 => ?_)
      have q511 := hJ508.2 g0 40 4 (by rw [hp0]; rfl)
      rw [pn0510, z_upd_o _ _ rfl, z_upd_o _ _ rfl] at q511
      show X (EE s) d 195 41 [(0, zr g0 40)] [] m507 _
      refine X.aload_n 42 i195_41 rfl rfl rfl ?_
      refine X.getZ 45 4 i195_42 rfl rfl (by decide) rfl rfl rfl (fun h512 => ?_)
      have t513 := hJ508.2 g0 40 4 (by rw [hp0]; rfl)
      rw [pn0510] at t513
      try simp only [z_upd_same] at t513
      try rw [z_upd_o _ _ rfl] at t513
      refine X.retz i195_45 rfl t195 (by omega) ?_
      exact hQ n0510 (m507 g0 40 4) m507 (by first | trivial | omega) (hJ508.up (by omega))  (by first | exact .inl ⟨by omega, by omega, by subst_vars; rfl⟩ | exact .inr (.inl ⟨by omega, by omega, by omega, by subst_vars; rfl⟩) | exact .inr (.inr ⟨by omega, by omega, by omega, rfl⟩)) 
  · refine X.aload_n 5 i195_4 rfl rfl rfl ?_
    refine X.getF 8 i195_5 rfl rfl (by decide) rfl rfl ?_
    refine X.aload_n 9 i195_8 rfl rfl rfl ?_
    refine X.getF 12 i195_9 rfl rfl (by decide) rfl rfl ?_
    refine X.callv 15 [zr 0 8] [] [(0, zr 1 8), (1, zr 0 8)] i195_12 rfl (by decide) rfl rfl (by omega) rfl rfl (by decide) rfl t171 (Nat.le_of_ble_eq_true rfl) (Nat.le_of_ble_eq_true rfl) rfl ?_
    refine c171_1 (B := B) 1 0  (by omega) (hJ.up (by omega)) (by omega) (by omega) (fun n0517 m514 hJ515 pn0517 => ?_)
    have q518 := hJ515.2 g0 40 4 (by rw [hp0]; rfl)
    rw [pn0517, z_upd_o _ _ rfl, z_upd_o _ _ rfl] at q518
    show X (EE s) d 195 15 [(0, zr g0 40), (1, zi a1)] [] m514 _
    refine X.aload_n 16 i195_15 rfl rfl rfl ?_
    refine X.iconst 17 i195_16 rfl rfl (by decide) ?_
    refine X.putZ' 20 4 i195_17 rfl rfl (by decide) rfl rfl rfl (by omega) (fun hrm519 m519 hm519 => ?_)
    have hJ520 := v40_4 hJ515 hm519 (by omega)
    have em519 : m519 g0 40 4 = 1 := by rw [hm519]; exact z_upd_same _ _ _ _ _
    refine X.goto 41 i195_20 rfl rfl ?_
    refine X.cut [(0, zr g0 40)] i195_41 rfl ?_
    refine X.aload_n 42 i195_41 rfl rfl rfl ?_
    refine X.getZ 45 4 i195_42 rfl rfl (by decide) rfl rfl rfl (fun h521 => ?_)
    have t522 := hJ520.2 g0 40 4 (by rw [hp0]; rfl)
    try simp only [z_upd_same] at t522
    try rw [z_upd_o _ _ rfl] at t522
    refine X.retz i195_45 rfl t195 (by omega) ?_
    exact hQ (z_upd n0517 g0 40 4 1) (m519 g0 40 4) m519 (by first | trivial | omega) (hJ520.up (by omega))  (by first | exact .inl ⟨by omega, by omega, by subst_vars; rfl⟩ | exact .inr (.inl ⟨by omega, by omega, by omega, by subst_vars; rfl⟩) | exact .inr (.inr ⟨by omega, by omega, by omega, rfl⟩)) 
-- WorkMeterModel.image
theorem c314_1 {s : Nat × (Nat → Int32)} {m0 m : zM} {B : Int} {d : Nat} {Q : Option zV → zM → Prop} (g0 : Nat) (a1 : Int) (hd : 14 ≤ d) (hJ : J m0 B m) (hB : B + 0 ≤ 1000000000) (ha1 : 0 ≤ a1 ∧ a1 ≤ 1) (hp0 : g0 = 4) (hQ : ∀ (n0 : zM) (v : Int) m', (0 ≤ v ∧ v ≤ 1) → J n0 (B) m' → (∀ g, m' g 8 9 = m g 8 9) → ((v = 0 ∧ a1 = 0 ∧ m0 g0 44 3 = 0 ∧ n0 = m0) ∨ (v = 1 ∧ a1 = 1 ∧ n0 = z_upd (z_cpy m0 4 47 4 45 0 0 1619) g0 44 3 1) ∨ (v = 1 ∧ a1 = 0 ∧ m0 g0 44 3 = 1 ∧ n0 = z_upd (z_cpy m0 4 45 4 47 0 0 1619) g0 44 3 1)) → Q (some (zi v)) m') : X (EE s) d 314 0 [(0, zr g0 44), (1, zi a1)] [] m Q := by
  have f0 := hJ.2 g0 44 3 (by rw [hp0]; rfl)
  refine X.iload_n 1 i314_0 rfl rfl rfl ?_
  refine X.ifne 13 4 i314_1 rfl rfl rfl (fun h501 => ?_) (fun h501 => ?_)
  · refine X.iload_n 14 i314_13 rfl rfl rfl ?_
    refine X.ifeq 31 17 i314_14 rfl rfl rfl (fun h502 => (by exfalso; omega)) (fun h502 => ?_)
    refine X.aload_n 18 i314_17 rfl rfl rfl ?_
    refine X.getF 21 i314_18 rfl rfl (by decide) rfl rfl ?_
    refine X.aload_n 22 i314_21 rfl rfl rfl ?_
    refine X.getF 25 i314_22 rfl rfl (by decide) rfl rfl ?_
    refine X.calls 28 [zr 4 45, zr 4 47] [] [(0, zr 4 45), (1, zr 4 47)] i314_25 (by decide) rfl rfl (by omega) rfl rfl t261 (Nat.le_of_ble_eq_true rfl) (Nat.le_of_ble_eq_true rfl) rfl ?_
    refine c_cq_45_47 (B := B) 4 4  (by omega) (hJ.up (by omega)) (by omega)  (fun n0506 m503 hJ504 km503 pn0506 hqv5050 => ?_)
    show X (EE s) d 314 28 [(0, zr g0 44), (1, zi a1)] [] m503 _
    refine X.goto 42 i314_28 rfl rfl ?_
    refine X.cut [(0, zr g0 44)] i314_42 rfl ?_
    refine X.aload_n 43 i314_42 rfl rfl rfl ?_
    refine X.iconst 44 i314_43 rfl rfl (by decide) ?_
    refine X.putZ' 47 3 i314_44 rfl rfl (by decide) rfl rfl rfl (by omega) (fun hrm507 m507 hm507 => ?_)
    have hJ508 := v44_3 hJ504 hm507 (by omega)
    have em507 : m507 g0 44 3 = 1 := by rw [hm507]; exact z_upd_same _ _ _ _ _
    have km507 : ∀ g, m507 g 8 9 = m503 g 8 9 := fun g9 => by rw [hm507]; exact z_upd_o _ _ rfl
    refine X.iconst 48 i314_47 rfl rfl (by decide) ?_
    refine X.retz i314_48 rfl t314 (by omega) ?_
    exact hQ (z_upd n0506 g0 44 3 1) 1 m507 (by first | trivial | omega) (hJ508.up (by omega)) (fun g => by simp only [km503, km507]) (by first | exact .inl ⟨rfl, by omega, by omega, rfl⟩ | exact .inr (.inl ⟨rfl, by omega, by subst_vars; rfl⟩) | exact .inr (.inr ⟨rfl, by omega, by omega, by subst_vars; rfl⟩)) 
  · refine X.aload_n 5 i314_4 rfl rfl rfl ?_
    refine X.getZ 8 3 i314_5 rfl rfl (by decide) rfl rfl rfl (fun h509 => ?_)
    have t510 := hJ.2 g0 44 3 (by rw [hp0]; rfl)
    refine X.ifne 13 11 i314_8 rfl rfl rfl (fun h511 => ?_) (fun h511 => ?_)
    · refine X.iload_n 14 i314_13 rfl rfl rfl ?_
      refine X.ifeq 31 17 i314_14 rfl rfl rfl (fun h512 => ?_) (fun h512 => (by exfalso; omega))
      refine X.cut [(0, zr g0 44)] i314_31 rfl ?_
      refine X.aload_n 32 i314_31 rfl rfl rfl ?_
      refine X.getF 35 i314_32 rfl rfl (by decide) rfl rfl ?_
      refine X.aload_n 36 i314_35 rfl rfl rfl ?_
      refine X.getF 39 i314_36 rfl rfl (by decide) rfl rfl ?_
      refine X.calls 42 [zr 4 47, zr 4 45] [] [(0, zr 4 47), (1, zr 4 45)] i314_39 (by decide) rfl rfl (by omega) rfl rfl t261 (Nat.le_of_ble_eq_true rfl) (Nat.le_of_ble_eq_true rfl) rfl ?_
      refine c_cq_47_45 (B := B) 4 4  (by omega) (hJ.up (by omega)) (by omega)  (fun n0516 m513 hJ514 km513 pn0516 hqv5150 => ?_)
      show X (EE s) d 314 42 [(0, zr g0 44)] [] m513 _
      refine X.aload_n 43 i314_42 rfl rfl rfl ?_
      refine X.iconst 44 i314_43 rfl rfl (by decide) ?_
      refine X.putZ' 47 3 i314_44 rfl rfl (by decide) rfl rfl rfl (by omega) (fun hrm517 m517 hm517 => ?_)
      have hJ518 := v44_3 hJ514 hm517 (by omega)
      have em517 : m517 g0 44 3 = 1 := by rw [hm517]; exact z_upd_same _ _ _ _ _
      have km517 : ∀ g, m517 g 8 9 = m513 g 8 9 := fun g9 => by rw [hm517]; exact z_upd_o _ _ rfl
      refine X.iconst 48 i314_47 rfl rfl (by decide) ?_
      refine X.retz i314_48 rfl t314 (by omega) ?_
      exact hQ (z_upd n0516 g0 44 3 1) 1 m517 (by first | trivial | omega) (hJ518.up (by omega)) (fun g => by simp only [km513, km517]) (by first | exact .inl ⟨rfl, by omega, by omega, rfl⟩ | exact .inr (.inl ⟨rfl, by omega, by subst_vars; rfl⟩) | exact .inr (.inr ⟨rfl, by omega, by omega, by subst_vars; rfl⟩)) 
    · refine X.iconst 12 i314_11 rfl rfl (by decide) ?_
      refine X.retz i314_12 rfl t314 (by omega) ?_
      exact hQ m0 0 m (by first | trivial | omega) (hJ.up (by omega)) (fun g => rfl) (by first | exact .inl ⟨rfl, by omega, by omega, rfl⟩ | exact .inr (.inl ⟨rfl, by omega, by subst_vars; rfl⟩) | exact .inr (.inr ⟨rfl, by omega, by omega, by subst_vars; rfl⟩)) 
-- WorkMeter.settingLookedAt
theorem c200_1 {s : Nat × (Nat → Int32)} {m0 m : zM} {B : Int} {d : Nat} {Q : Option zV → zM → Prop} (a0 : Int) (hd : 13 ≤ d) (hJ : J m0 B m) (hB : B + 0 ≤ 1000000000) (ha0 : 16 ≤ a0 ∧ a0 ≤ 39) (hQ : ∀ (v : Int), ((-1) ≤ v ∧ v ≤ 13) → Q (some (zi v)) m) : X (EE s) d 200 0 [(0, zi a0)] [] m Q := by
  refine X.iload_n 1 i200_0 rfl rfl rfl ?_
  refine X.bipush 3 i200_1 rfl rfl (by decide) ?_
  refine X.icmplt 19 6 i200_3 rfl rfl rfl (fun h501 => ?_) (fun h501 => ?_)
  · refine X.iload_n 20 i200_19 rfl rfl rfl ?_
    refine X.bipush 22 i200_20 rfl rfl (by decide) ?_
    refine X.icmplt 39 25 i200_22 rfl rfl rfl (fun h502 => ?_) (fun h502 => (by exfalso; omega))
    refine X.iload_n 40 i200_39 rfl rfl rfl ?_
    refine X.bipush 42 i200_40 rfl rfl (by decide) ?_
    refine X.icmplt 59 45 i200_42 rfl rfl rfl (fun h503 => ?_) (fun h503 => (by exfalso; omega))
    refine X.cut [] i200_59 rfl ?_
    refine X.iconst 60 i200_59 rfl rfl (by decide) ?_
    refine X.reti i200_60 rfl t200 ?_
    exact hQ (-1) (by first | trivial | omega) 
  · refine X.iload_n 7 i200_6 rfl rfl rfl ?_
    refine X.bipush 9 i200_7 rfl rfl (by decide) ?_
    refine X.icmpgt 19 12 i200_9 rfl rfl rfl (fun h504 => ?_) (fun h504 => ?_)
    · refine X.iload_n 20 i200_19 rfl rfl rfl ?_
      refine X.bipush 22 i200_20 rfl rfl (by decide) ?_
      refine X.icmplt 39 25 i200_22 rfl rfl rfl (fun h505 => ?_) (fun h505 => ?_)
      · refine X.iload_n 40 i200_39 rfl rfl rfl ?_
        refine X.bipush 42 i200_40 rfl rfl (by decide) ?_
        refine X.icmplt 59 45 i200_42 rfl rfl rfl (fun h506 => ?_) (fun h506 => (by exfalso; omega))
        refine X.cut [] i200_59 rfl ?_
        refine X.iconst 60 i200_59 rfl rfl (by decide) ?_
        refine X.reti i200_60 rfl t200 ?_
        exact hQ (-1) (by first | trivial | omega) 
      · refine X.iload_n 26 i200_25 rfl rfl rfl ?_
        refine X.bipush 28 i200_26 rfl rfl (by decide) ?_
        refine X.icmpgt 39 31 i200_28 rfl rfl rfl (fun h507 => ?_) (fun h507 => ?_)
        · refine X.iload_n 40 i200_39 rfl rfl rfl ?_
          refine X.bipush 42 i200_40 rfl rfl (by decide) ?_
          refine X.icmplt 59 45 i200_42 rfl rfl rfl (fun h508 => ?_) (fun h508 => (by exfalso; omega))
          refine X.cut [] i200_59 rfl ?_
          refine X.iconst 60 i200_59 rfl rfl (by decide) ?_
          refine X.reti i200_60 rfl t200 ?_
          exact hQ (-1) (by first | trivial | omega) 
        · refine X.iload_n 32 i200_31 rfl rfl rfl ?_
          refine X.bipush 34 i200_32 rfl rfl (by decide) ?_
          refine X.isub 35 i200_34 rfl rfl (by omega) ?_
          refine X.bipush 37 i200_35 rfl rfl (by decide) ?_
          refine X.iadd 38 i200_37 rfl rfl (by omega) ?_
          refine X.reti i200_38 rfl t200 ?_
          exact hQ ((a0 - 30) + 10) (by first | trivial | omega) 
    · refine X.iload_n 13 i200_12 rfl rfl rfl ?_
      refine X.bipush 15 i200_13 rfl rfl (by decide) ?_
      refine X.isub 16 i200_15 rfl rfl (by omega) ?_
      refine X.iconst 17 i200_16 rfl rfl (by decide) ?_
      refine X.iadd 18 i200_17 rfl rfl (by omega) ?_
      refine X.reti i200_18 rfl t200 ?_
      exact hQ ((a0 - 20) + 0) (by first | trivial | omega) 
-- WorkMeter.settingLookedAt
theorem c200_2 {s : Nat × (Nat → Int32)} {m0 m : zM} {B : Int} {d : Nat} {Q : Option zV → zM → Prop} (a0 : Int) (hd : 13 ≤ d) (hJ : J m0 B m) (hB : B + 0 ≤ 1000000000) (ha0 : 44 ≤ a0 ∧ a0 ≤ 52) (hQ : ∀ (v : Int), ((-1) ≤ v ∧ v ≤ 22) → Q (some (zi v)) m) : X (EE s) d 200 0 [(0, zi a0)] [] m Q := by
  refine X.iload_n 1 i200_0 rfl rfl rfl ?_
  refine X.bipush 3 i200_1 rfl rfl (by decide) ?_
  refine X.icmplt 19 6 i200_3 rfl rfl rfl (fun h501 => (by exfalso; omega)) (fun h501 => ?_)
  refine X.iload_n 7 i200_6 rfl rfl rfl ?_
  refine X.bipush 9 i200_7 rfl rfl (by decide) ?_
  refine X.icmpgt 19 12 i200_9 rfl rfl rfl (fun h502 => ?_) (fun h502 => (by exfalso; omega))
  refine X.iload_n 20 i200_19 rfl rfl rfl ?_
  refine X.bipush 22 i200_20 rfl rfl (by decide) ?_
  refine X.icmplt 39 25 i200_22 rfl rfl rfl (fun h503 => (by exfalso; omega)) (fun h503 => ?_)
  refine X.iload_n 26 i200_25 rfl rfl rfl ?_
  refine X.bipush 28 i200_26 rfl rfl (by decide) ?_
  refine X.icmpgt 39 31 i200_28 rfl rfl rfl (fun h504 => ?_) (fun h504 => (by exfalso; omega))
  refine X.iload_n 40 i200_39 rfl rfl rfl ?_
  refine X.bipush 42 i200_40 rfl rfl (by decide) ?_
  refine X.icmplt 59 45 i200_42 rfl rfl rfl (fun h505 => ?_) (fun h505 => ?_)
  · refine X.cut [] i200_59 rfl ?_
    refine X.iconst 60 i200_59 rfl rfl (by decide) ?_
    refine X.reti i200_60 rfl t200 ?_
    exact hQ (-1) (by first | trivial | omega) 
  · refine X.iload_n 46 i200_45 rfl rfl rfl ?_
    refine X.bipush 48 i200_46 rfl rfl (by decide) ?_
    refine X.icmpgt 59 51 i200_48 rfl rfl rfl (fun h506 => (by exfalso; omega)) (fun h506 => ?_)
    refine X.iload_n 52 i200_51 rfl rfl rfl ?_
    refine X.bipush 54 i200_52 rfl rfl (by decide) ?_
    refine X.isub 55 i200_54 rfl rfl (by omega) ?_
    refine X.bipush 57 i200_55 rfl rfl (by decide) ?_
    refine X.iadd 58 i200_57 rfl rfl (by omega) ?_
    refine X.reti i200_58 rfl t200 ?_
    exact hQ ((a0 - 50) + 20) (by first | trivial | omega) 
-- WorkMeter.lookAtSeal
theorem c199_1 {s : Nat × (Nat → Int32)} {m0 m : zM} {B : Int} {d : Nat} {Q : Option zV → zM → Prop} (g0 : Nat) (a1 : Int) (hd : 14 ≤ d) (hJ : J m0 B m) (hB : B + 0 ≤ 1000000000) (ha1 : 53 ≤ a1 ∧ a1 ≤ 2147483647) (hQ : ∀ (v : Int), ((-10000000000) ≤ v ∧ v ≤ 2147483647) → Q (some (zl v)) m) : X (EE s) d 199 0 [(0, zr g0 40), (1, zi a1)] [] m Q := by
  refine X.iload_n 1 i199_0 rfl rfl rfl ?_
  by_cases h501 : a1 = 53
  · refine X.tsIn 36 0 i199_1 rfl (by omega) rfl rfl ?_
    refine X.cut [(0, zr g0 40)] i199_36 rfl ?_
    refine X.aload_n 37 i199_36 rfl rfl rfl ?_
    refine X.getF 40 i199_37 rfl rfl (by decide) rfl rfl ?_
    refine X.getR 43 i199_40 rfl rfl (by decide) rfl rfl ?_
    refine X.getZ 46 0 i199_43 rfl rfl (by decide) rfl rfl rfl (fun h502 => ?_)
    refine X.ifeq 53 49 i199_46 rfl rfl rfl (fun h503 => ?_) (fun h503 => ?_)
    · refine X.cut [] i199_53 rfl ?_
      refine X.lconst (y := 0) 54 i199_53 rfl rfl rfl ?_
      refine X.retl i199_54 rfl t199 ?_
      exact hQ 0 (by first | trivial | omega) 
    · refine X.lconst (y := 1) 50 i199_49 rfl rfl rfl ?_
      refine X.goto 54 i199_50 rfl rfl ?_
      refine X.cut [] i199_54 rfl ?_
      refine X.retl i199_54 rfl t199 ?_
      exact hQ 1 (by first | trivial | omega) 
  by_cases h504 : a1 = 54
  · refine X.tsIn 55 1 i199_1 rfl (by omega) rfl rfl ?_
    refine X.cut [(0, zr g0 40)] i199_55 rfl ?_
    refine X.aload_n 56 i199_55 rfl rfl rfl ?_
    refine X.getF 59 i199_56 rfl rfl (by decide) rfl rfl ?_
    refine X.getR 62 i199_59 rfl rfl (by decide) rfl rfl ?_
    refine X.getIr 65 2 i199_62 rfl rfl (by decide) rfl rfl rfl (fun h505 => ?_)
    refine X.i2l 66 i199_65 rfl rfl ?_
    refine X.retl i199_66 rfl t199 ?_
    exact hQ (m 0 39 2) (by first | trivial | omega) 
  by_cases h506 : a1 = 55
  · refine X.tsIn 67 2 i199_1 rfl (by omega) rfl rfl ?_
    refine X.cut [(0, zr g0 40)] i199_67 rfl ?_
    refine X.aload_n 68 i199_67 rfl rfl rfl ?_
    refine X.getF 71 i199_68 rfl rfl (by decide) rfl rfl ?_
    refine X.getR 74 i199_71 rfl rfl (by decide) rfl rfl ?_
    refine X.aload_n 75 i199_74 rfl rfl rfl ?_
    refine X.getF 78 i199_75 rfl rfl (by decide) rfl rfl ?_
    refine X.getI 81 9 i199_78 rfl rfl (by decide) rfl rfl rfl ?_
    have h507 := r8_9 hJ 0
    refine X.callv 84 [zi (m 0 8 9)] [] [(0, zr 0 39), (1, zi (m 0 8 9))] i199_81 rfl (by decide) rfl rfl (by omega) rfl rfl (by decide) rfl t118 (Nat.le_of_ble_eq_true rfl) (Nat.le_of_ble_eq_true rfl) rfl ?_
    refine X.iconst 1 i118_0 rfl rfl (by decide) ?_
    refine X.aload_n 2 i118_1 rfl rfl rfl ?_
    refine X.getIr 5 4 i118_2 rfl rfl (by decide) rfl rfl rfl (fun h508 => ?_)
    refine X.iload_n 6 i118_5 rfl rfl rfl ?_
    refine X.iiF 7 .isub (fun x y => x - y) i118_6 rfl rfl rfl (fun _ _ => rfl) (fun z509 hz509 => ?_)
    refine X.maxI 10 i118_7 rfl rfl (by omega) (Nat.le_of_ble_eq_true rfl) ?_
    refine X.reti i118_10 rfl t118 ?_
    show X (EE s) d 199 84 [(0, zr g0 40)] [zi (max 0 z509)] m _
    refine X.i2l 85 i199_84 rfl rfl ?_
    refine X.retl i199_85 rfl t199 ?_
    exact hQ (max 0 z509) (by first | trivial | omega) 
  by_cases h510 : a1 = 56
  · refine X.tsIn 86 3 i199_1 rfl (by omega) rfl rfl ?_
    refine X.cut [(0, zr g0 40)] i199_86 rfl ?_
    refine X.aload_n 87 i199_86 rfl rfl rfl ?_
    refine X.getF 90 i199_87 rfl rfl (by decide) rfl rfl ?_
    refine X.getR 93 i199_90 rfl rfl (by decide) rfl rfl ?_
    refine X.getIr 96 3 i199_93 rfl rfl (by decide) rfl rfl rfl (fun h511 => ?_)
    refine X.i2l 97 i199_96 rfl rfl ?_
    refine X.retl i199_97 rfl t199 ?_
    exact hQ (m 0 39 3) (by first | trivial | omega) 
  by_cases h512 : a1 = 57
  · refine X.tsIn 98 4 i199_1 rfl (by omega) rfl rfl ?_
    refine X.cut [(0, zr g0 40)] i199_98 rfl ?_
    refine X.aload_n 99 i199_98 rfl rfl rfl ?_
    refine X.getF 102 i199_99 rfl rfl (by decide) rfl rfl ?_
    refine X.getI 105 3 i199_102 rfl rfl (by decide) rfl rfl rfl ?_
    have h513 := r41_3 hJ 4
    refine X.i2l 106 i199_105 rfl rfl ?_
    refine X.retl i199_106 rfl t199 ?_
    exact hQ (m 4 41 3) (by first | trivial | omega) 
  refine X.tsOut 107 i199_1 rfl (by omega) rfl ?_
  refine X.cut [] i199_107 rfl ?_
  refine X.ldc2 110 i199_107 rfl rfl (by decide) ?_
  refine X.retl i199_110 rfl t199 ?_
  exact hQ (-10000000000) (by first | trivial | omega) 
-- WorkMeter.lookAtCounts
theorem c198_1 {s : Nat × (Nat → Int32)} {m0 m : zM} {B : Int} {d : Nat} {Q : Option zV → zM → Prop} (g0 : Nat) (a1 : Int) (hd : 13 ≤ d) (hJ : J m0 B m) (hB : B + 0 ≤ 1000000000) (ha1 : 8 ≤ a1 ∧ a1 ≤ 15) (hQ : ∀ (v : Int), ((-2147483648) ≤ v ∧ v ≤ 2147483647) → Q (some (zl v)) m) : X (EE s) d 198 0 [(0, zr g0 40), (1, zi a1)] [] m Q := by
  refine X.iload_n 1 i198_0 rfl rfl rfl ?_
  by_cases h501 : a1 = 8
  · refine X.tsIn 48 0 i198_1 rfl (by omega) rfl rfl ?_
    refine X.cut [(0, zr g0 40)] i198_48 rfl ?_
    refine X.aload_n 49 i198_48 rfl rfl rfl ?_
    refine X.getF 52 i198_49 rfl rfl (by decide) rfl rfl ?_
    refine X.getR 55 i198_52 rfl rfl (by decide) rfl rfl ?_
    refine X.getIr 58 3 i198_55 rfl rfl (by decide) rfl rfl rfl (fun h502 => ?_)
    refine X.i2l 59 i198_58 rfl rfl ?_
    refine X.retl i198_59 rfl t198 ?_
    exact hQ (m 0 33 3) (by first | trivial | omega) 
  by_cases h503 : a1 = 9
  · refine X.tsIn 60 1 i198_1 rfl (by omega) rfl rfl ?_
    refine X.cut [(0, zr g0 40)] i198_60 rfl ?_
    refine X.aload_n 61 i198_60 rfl rfl rfl ?_
    refine X.getF 64 i198_61 rfl rfl (by decide) rfl rfl ?_
    refine X.getR 67 i198_64 rfl rfl (by decide) rfl rfl ?_
    refine X.getI 70 1 i198_67 rfl rfl (by decide) rfl rfl rfl ?_
    have h504 := r37_1 hJ 0
    refine X.i2l 71 i198_70 rfl rfl ?_
    refine X.retl i198_71 rfl t198 ?_
    exact hQ (m 0 37 1) (by first | trivial | omega) 
  by_cases h505 : a1 = 10
  · refine X.tsIn 72 2 i198_1 rfl (by omega) rfl rfl ?_
    refine X.cut [(0, zr g0 40)] i198_72 rfl ?_
    refine X.aload_n 73 i198_72 rfl rfl rfl ?_
    refine X.getF 76 i198_73 rfl rfl (by decide) rfl rfl ?_
    refine X.getR 79 i198_76 rfl rfl (by decide) rfl rfl ?_
    refine X.getI 82 2 i198_79 rfl rfl (by decide) rfl rfl rfl ?_
    have h506 := r27_2 hJ 0
    refine X.i2l 83 i198_82 rfl rfl ?_
    refine X.retl i198_83 rfl t198 ?_
    exact hQ (m 0 27 2) (by first | trivial | omega) 
  by_cases h507 : a1 = 11
  · refine X.tsIn 84 3 i198_1 rfl (by omega) rfl rfl ?_
    refine X.cut [(0, zr g0 40)] i198_84 rfl ?_
    refine X.aload_n 85 i198_84 rfl rfl rfl ?_
    refine X.getF 88 i198_85 rfl rfl (by decide) rfl rfl ?_
    refine X.getR 91 i198_88 rfl rfl (by decide) rfl rfl ?_
    refine X.getI 94 3 i198_91 rfl rfl (by decide) rfl rfl rfl ?_
    have h508 := r23_3 hJ 0
    refine X.i2l 95 i198_94 rfl rfl ?_
    refine X.retl i198_95 rfl t198 ?_
    exact hQ (m 0 23 3) (by first | trivial | omega) 
  by_cases h509 : a1 = 12
  · refine X.tsIn 96 4 i198_1 rfl (by omega) rfl rfl ?_
    refine X.cut [(0, zr g0 40)] i198_96 rfl ?_
    refine X.aload_n 97 i198_96 rfl rfl rfl ?_
    refine X.getF 100 i198_97 rfl rfl (by decide) rfl rfl ?_
    refine X.getR 103 i198_100 rfl rfl (by decide) rfl rfl ?_
    refine X.getI 106 3 i198_103 rfl rfl (by decide) rfl rfl rfl ?_
    have h510 := r19_3 hJ 0
    refine X.i2l 107 i198_106 rfl rfl ?_
    refine X.retl i198_107 rfl t198 ?_
    exact hQ (m 0 19 3) (by first | trivial | omega) 
  by_cases h511 : a1 = 13
  · refine X.tsIn 108 5 i198_1 rfl (by omega) rfl rfl ?_
    refine X.cut [(0, zr g0 40)] i198_108 rfl ?_
    refine X.aload_n 109 i198_108 rfl rfl rfl ?_
    refine X.getF 112 i198_109 rfl rfl (by decide) rfl rfl ?_
    refine X.getR 115 i198_112 rfl rfl (by decide) rfl rfl ?_
    refine X.getI 118 4 i198_115 rfl rfl (by decide) rfl rfl rfl ?_
    have h512 := r19_4 hJ 0
    refine X.i2l 119 i198_118 rfl rfl ?_
    refine X.retl i198_119 rfl t198 ?_
    exact hQ (m 0 19 4) (by first | trivial | omega) 
  by_cases h513 : a1 = 14
  · refine X.tsIn 120 6 i198_1 rfl (by omega) rfl rfl ?_
    refine X.cut [(0, zr g0 40)] i198_120 rfl ?_
    refine X.aload_n 121 i198_120 rfl rfl rfl ?_
    refine X.getF 124 i198_121 rfl rfl (by decide) rfl rfl ?_
    refine X.getR 127 i198_124 rfl rfl (by decide) rfl rfl ?_
    refine X.getI 130 5 i198_127 rfl rfl (by decide) rfl rfl rfl ?_
    have h514 := r19_5 hJ 0
    refine X.i2l 131 i198_130 rfl rfl ?_
    refine X.retl i198_131 rfl t198 ?_
    exact hQ (m 0 19 5) (by first | trivial | omega) 
  by_cases h515 : a1 = 15
  · refine X.tsIn 132 7 i198_1 rfl (by omega) rfl rfl ?_
    refine X.cut [(0, zr g0 40)] i198_132 rfl ?_
    refine X.aload_n 133 i198_132 rfl rfl rfl ?_
    refine X.getF 136 i198_133 rfl rfl (by decide) rfl rfl ?_
    refine X.getR 139 i198_136 rfl rfl (by decide) rfl rfl ?_
    refine X.getI 142 7 i198_139 rfl rfl (by decide) rfl rfl rfl ?_
    have h516 := r11_7 hJ 0
    refine X.i2l 143 i198_142 rfl rfl ?_
    refine X.retl i198_143 rfl t198 ?_
    exact hQ (m 0 11 7) (by first | trivial | omega) 
  exfalso
  omega
-- WorkMeter.lookAtMeter
theorem c197_1 {s : Nat × (Nat → Int32)} {m0 m : zM} {B : Int} {d : Nat} {Q : Option zV → zM → Prop} (g0 : Nat) (a1 : Int) (hd : 16 ≤ d) (hJ : J m0 B m) (hB : B + 0 ≤ 1000000000) (ha1 : 0 ≤ a1 ∧ a1 ≤ 7) (hQ : ∀ (v : Int), (True) → Q (some (zl v)) m) : X (EE s) d 197 0 [(0, zr g0 40), (1, zi a1)] [] m Q := by
  refine X.iload_n 1 i197_0 rfl rfl rfl ?_
  by_cases h501 : a1 = 0
  · refine X.tsIn 48 0 i197_1 rfl (by omega) rfl rfl ?_
    refine X.cut [(0, zr g0 40)] i197_48 rfl ?_
    refine X.aload_n 49 i197_48 rfl rfl rfl ?_
    refine X.getF 52 i197_49 rfl rfl (by decide) rfl rfl ?_
    refine X.getI 55 9 i197_52 rfl rfl (by decide) rfl rfl rfl ?_
    have h502 := r8_9 hJ 0
    refine X.i2l 56 i197_55 rfl rfl ?_
    refine X.retl i197_56 rfl t197 ?_
    exact hQ (m 0 8 9) (by first | trivial | omega) 
  by_cases h503 : a1 = 1
  · refine X.tsIn 57 1 i197_1 rfl (by omega) rfl rfl ?_
    refine X.cut [(0, zr g0 40)] i197_57 rfl ?_
    refine X.aload_n 58 i197_57 rfl rfl rfl ?_
    refine X.getF 61 i197_58 rfl rfl (by decide) rfl rfl ?_
    refine X.getR 64 i197_61 rfl rfl (by decide) rfl rfl ?_
    refine X.aload_n 65 i197_64 rfl rfl rfl ?_
    refine X.getF 68 i197_65 rfl rfl (by decide) rfl rfl ?_
    refine X.getI 71 9 i197_68 rfl rfl (by decide) rfl rfl rfl ?_
    have h504 := r8_9 hJ 0
    refine X.callv 74 [zi (m 0 8 9)] [] [(0, zr 0 11), (1, zi (m 0 8 9))] i197_71 rfl (by decide) rfl rfl (by omega) rfl rfl (by decide) rfl t27 (Nat.le_of_ble_eq_true rfl) (Nat.le_of_ble_eq_true rfl) rfl ?_
    refine X.aload_n 1 i27_0 rfl rfl rfl ?_
    refine X.aload_n 2 i27_1 rfl rfl rfl ?_
    refine X.iload_n 3 i27_2 rfl rfl rfl ?_
    refine X.ldc 5 i27_3 rfl rfl (by decide) ?_
    refine X.idiv 6 i27_5 rfl rfl (by omega) ?_
    refine X.callv 9 [zi ((m 0 8 9) / 86400)] [zr 0 11] [(0, zr 0 11), (1, zi ((m 0 8 9) / 86400))] i27_6 rfl (by decide) rfl rfl (by omega) rfl rfl (by decide) rfl t28 (Nat.le_of_ble_eq_true rfl) (Nat.le_of_ble_eq_true rfl) rfl ?_
    refine c28_1 (B := B) 0 ((m 0 8 9) / 86400) (by omega) (hJ.up (by omega)) (by omega) (by omega) (fun v507 hv507 => ?_)
    show X (EE s) (d - 1) 27 9 [(0, zr 0 11), (1, zi (m 0 8 9))] [zi v507, zr 0 11] m _
    refine X.iload_n 10 i27_9 rfl rfl rfl ?_
    refine X.ldc 12 i27_10 rfl rfl (by decide) ?_
    refine X.irem 13 i27_12 rfl rfl (by omega) ?_
    refine X.callv 16 [zi v507, zi ((m 0 8 9) % 86400)] [] [(0, zr 0 11), (1, zi v507), (2, zi ((m 0 8 9) % 86400))] i27_13 rfl (by decide) rfl rfl (by omega) rfl rfl (by decide) rfl t31 (Nat.le_of_ble_eq_true rfl) (Nat.le_of_ble_eq_true rfl) rfl ?_
    refine c31_1 (B := B) 0 v507 ((m 0 8 9) % 86400) (by omega) (hJ.up (by omega)) (by omega) (by omega) (by omega) (fun v510 hv510 => ?_)
    show X (EE s) (d - 1) 27 16 [(0, zr 0 11), (1, zi (m 0 8 9))] [zi v510] m _
    refine X.reti i27_16 rfl t27 ?_
    show X (EE s) d 197 74 [(0, zr g0 40)] [zi v510] m _
    refine X.i2l 75 i197_74 rfl rfl ?_
    refine X.retl i197_75 rfl t197 ?_
    exact hQ v510 (by first | trivial | omega) 
  by_cases h511 : a1 = 2
  · refine X.tsIn 76 2 i197_1 rfl (by omega) rfl rfl ?_
    refine X.cut [(0, zr g0 40)] i197_76 rfl ?_
    refine X.aload_n 77 i197_76 rfl rfl rfl ?_
    refine X.getF 80 i197_77 rfl rfl (by decide) rfl rfl ?_
    refine X.getL 83 10 i197_80 rfl rfl (by decide) rfl rfl rfl ?_
    refine X.retl i197_83 rfl t197 ?_
    exact hQ (m 0 8 10) (by first | trivial | omega) 
  by_cases h512 : a1 = 3
  · refine X.tsIn 84 3 i197_1 rfl (by omega) rfl rfl ?_
    refine X.cut [(0, zr g0 40)] i197_84 rfl ?_
    refine X.aload_n 85 i197_84 rfl rfl rfl ?_
    refine X.getF 88 i197_85 rfl rfl (by decide) rfl rfl ?_
    refine X.getZ 91 11 i197_88 rfl rfl (by decide) rfl rfl rfl (fun h513 => ?_)
    refine X.ifeq 98 94 i197_91 rfl rfl rfl (fun h514 => ?_) (fun h514 => ?_)
    · refine X.cut [] i197_98 rfl ?_
      refine X.lconst (y := 0) 99 i197_98 rfl rfl rfl ?_
      refine X.retl i197_99 rfl t197 ?_
      exact hQ 0 (by first | trivial | omega) 
    · refine X.lconst (y := 1) 95 i197_94 rfl rfl rfl ?_
      refine X.goto 99 i197_95 rfl rfl ?_
      refine X.cut [] i197_99 rfl ?_
      refine X.retl i197_99 rfl t197 ?_
      exact hQ 1 (by first | trivial | omega) 
  by_cases h515 : a1 = 4
  · refine X.tsIn 100 4 i197_1 rfl (by omega) rfl rfl ?_
    refine X.cut [(0, zr g0 40)] i197_100 rfl ?_
    refine X.aload_n 101 i197_100 rfl rfl rfl ?_
    refine X.getF 104 i197_101 rfl rfl (by decide) rfl rfl ?_
    refine X.getZ 107 12 i197_104 rfl rfl (by decide) rfl rfl rfl (fun h516 => ?_)
    refine X.ifeq 114 110 i197_107 rfl rfl rfl (fun h517 => ?_) (fun h517 => ?_)
    · refine X.cut [] i197_114 rfl ?_
      refine X.lconst (y := 0) 115 i197_114 rfl rfl rfl ?_
      refine X.retl i197_115 rfl t197 ?_
      exact hQ 0 (by first | trivial | omega) 
    · refine X.lconst (y := 1) 111 i197_110 rfl rfl rfl ?_
      refine X.goto 115 i197_111 rfl rfl ?_
      refine X.cut [] i197_115 rfl ?_
      refine X.retl i197_115 rfl t197 ?_
      exact hQ 1 (by first | trivial | omega) 
  by_cases h518 : a1 = 5
  · refine X.tsIn 116 5 i197_1 rfl (by omega) rfl rfl ?_
    refine X.cut [(0, zr g0 40)] i197_116 rfl ?_
    refine X.aload_n 117 i197_116 rfl rfl rfl ?_
    refine X.getF 120 i197_117 rfl rfl (by decide) rfl rfl ?_
    refine X.getIr 123 13 i197_120 rfl rfl (by decide) rfl rfl rfl (fun h519 => ?_)
    refine X.i2l 124 i197_123 rfl rfl ?_
    refine X.retl i197_124 rfl t197 ?_
    exact hQ (m 0 8 13) (by first | trivial | omega) 
  by_cases h520 : a1 = 6
  · refine X.tsIn 125 6 i197_1 rfl (by omega) rfl rfl ?_
    refine X.cut [(0, zr g0 40)] i197_125 rfl ?_
    refine X.aload_n 126 i197_125 rfl rfl rfl ?_
    refine X.getF 129 i197_126 rfl rfl (by decide) rfl rfl ?_
    refine X.getIr 132 14 i197_129 rfl rfl (by decide) rfl rfl rfl (fun h521 => ?_)
    refine X.i2l 133 i197_132 rfl rfl ?_
    refine X.retl i197_133 rfl t197 ?_
    exact hQ (m 0 8 14) (by first | trivial | omega) 
  by_cases h522 : a1 = 7
  · refine X.tsIn 134 7 i197_1 rfl (by omega) rfl rfl ?_
    refine X.cut [(0, zr g0 40)] i197_134 rfl ?_
    refine X.aload_n 135 i197_134 rfl rfl rfl ?_
    refine X.getF 138 i197_135 rfl rfl (by decide) rfl rfl ?_
    refine X.getIr 141 15 i197_138 rfl rfl (by decide) rfl rfl rfl (fun h523 => ?_)
    refine X.i2l 142 i197_141 rfl rfl ?_
    refine X.retl i197_142 rfl t197 ?_
    exact hQ (m 0 8 15) (by first | trivial | omega) 
  exfalso
  omega
-- WorkMeter.look
theorem c196_1 {s : Nat × (Nat → Int32)} {m0 m : zM} {B : Int} {d : Nat} {Q : Option zV → zM → Prop} (g0 : Nat) (a1 : Int) (hd : 17 ≤ d) (hJ : J m0 B m) (hB : B + 0 ≤ 1000000000) (ha1 : (-2147483648) ≤ a1 ∧ a1 ≤ 2147483647) (hQ : ∀ (v : Int), (True) → Q (some (zl v)) m) : X (EE s) d 196 0 [(0, zr g0 40), (1, zi a1)] [] m Q := by
  refine X.iload_n 1 i196_0 rfl rfl rfl ?_
  refine X.ifge 8 4 i196_1 rfl rfl rfl (fun h501 => ?_) (fun h501 => ?_)
  · refine X.iload_n 9 i196_8 rfl rfl rfl ?_
    refine X.bipush 11 i196_9 rfl rfl (by decide) ?_
    refine X.icmpgt 20 14 i196_11 rfl rfl rfl (fun h502 => ?_) (fun h502 => ?_)
    · refine X.iload_n 21 i196_20 rfl rfl rfl ?_
      refine X.bipush 23 i196_21 rfl rfl (by decide) ?_
      refine X.icmpgt 32 26 i196_23 rfl rfl rfl (fun h503 => ?_) (fun h503 => ?_)
      · refine X.iload_n 33 i196_32 rfl rfl rfl ?_
        refine X.bipush 35 i196_33 rfl rfl (by decide) ?_
        refine X.icmplt 61 38 i196_35 rfl rfl rfl (fun h504 => ?_) (fun h504 => ?_)
        · refine X.iload_n 62 i196_61 rfl rfl rfl ?_
          refine X.bipush 64 i196_62 rfl rfl (by decide) ?_
          refine X.icmplt 73 67 i196_64 rfl rfl rfl (fun h505 => ?_) (fun h505 => (by exfalso; omega))
          refine X.iload_n 74 i196_73 rfl rfl rfl ?_
          refine X.calls 77 [zi a1] [] [(0, zi a1)] i196_74 (by decide) rfl rfl (by omega) rfl rfl t200 (Nat.le_of_ble_eq_true rfl) (Nat.le_of_ble_eq_true rfl) rfl ?_
          refine c200_1 (B := B)  a1 (by omega) (hJ.up (by omega)) (by omega) (by omega) (fun v508 hv508 => ?_)
          show X (EE s) d 196 77 [(0, zr g0 40), (1, zi a1)] [zi v508] m _
          refine X.istore_n 78 [(0, zr g0 40), (1, zi a1), (2, zi v508)] i196_77 rfl rfl rfl ?_
          refine X.iload_n 79 i196_78 rfl rfl rfl ?_
          refine X.iconst 80 i196_79 rfl rfl (by decide) ?_
          refine X.icmpne 89 83 i196_80 rfl rfl rfl (fun h509 => ?_) (fun h509 => ?_)
          · refine X.cut [(0, zr g0 40), (2, zi v508)] i196_89 rfl ?_
            refine X.aload_n 90 i196_89 rfl rfl rfl ?_
            refine X.getF 93 i196_90 rfl rfl (by decide) rfl rfl ?_
            refine X.getR 96 i196_93 rfl rfl (by decide) rfl rfl ?_
            refine X.iload_n 97 i196_96 rfl rfl rfl ?_
            refine X.callv 100 [zi v508] [] [(0, zr 0 9), (1, zi v508)] i196_97 rfl (by decide) rfl rfl (by omega) rfl rfl (by decide) rfl t168 (Nat.le_of_ble_eq_true rfl) (Nat.le_of_ble_eq_true rfl) rfl ?_
            refine X.iload_n 1 i168_0 rfl rfl rfl ?_
            refine X.calls 4 [zi v508] [] [(0, zi v508)] i168_1 (by decide) rfl rfl (by omega) rfl rfl t76 (Nat.le_of_ble_eq_true rfl) (Nat.le_of_ble_eq_true rfl) rfl ?_
            refine X.iload_n 1 i76_0 rfl rfl rfl ?_
            refine X.iflt 11 4 i76_1 rfl rfl rfl (fun h510 => (by exfalso; omega)) (fun h510 => ?_)
            refine X.iload_n 5 i76_4 rfl rfl rfl ?_
            refine X.iconst 6 i76_5 rfl rfl (by decide) ?_
            refine X.icmpgt 11 9 i76_6 rfl rfl rfl (fun h511 => ?_) (fun h511 => ?_)
            · refine X.iload_n 12 i76_11 rfl rfl rfl ?_
              refine X.bipush 14 i76_12 rfl rfl (by decide) ?_
              refine X.icmplt 31 17 i76_14 rfl rfl rfl (fun h512 => ?_) (fun h512 => ?_)
              · refine X.iload_n 32 i76_31 rfl rfl rfl ?_
                refine X.bipush 34 i76_32 rfl rfl (by decide) ?_
                refine X.icmplt 51 37 i76_34 rfl rfl rfl (fun h513 => ?_) (fun h513 => (by exfalso; omega))
                refine X.cut [] i76_51 rfl ?_
                refine X.iconst 52 i76_51 rfl rfl (by decide) ?_
                refine X.reti i76_52 rfl t76 ?_
                show X (EE s) (d - 1) 168 4 [(0, zr 0 9), (1, zi v508)] [zi (-1)] m _
                refine X.istore_n 5 [(0, zr 0 9), (1, zi v508), (2, zi (-1))] i168_4 rfl rfl rfl ?_
                refine X.iload_n 6 i168_5 rfl rfl rfl ?_
                refine X.iconst 7 i168_6 rfl rfl (by decide) ?_
                refine X.icmpne 14 10 i168_7 rfl rfl rfl (fun h514 => (by exfalso; omega)) (fun h514 => ?_)
                refine X.iconst 11 i168_10 rfl rfl (by decide) ?_
                refine X.goto 20 i168_11 rfl rfl ?_
                refine X.cut [] i168_20 rfl ?_
                refine X.reti i168_20 rfl t168 ?_
                show X (EE s) d 196 100 [(0, zr g0 40), (2, zi v508)] [zi (-1)] m _
                refine X.i2l 101 i196_100 rfl rfl ?_
                refine X.cut [] i196_101 rfl ?_
                refine X.retl i196_101 rfl t196 ?_
                exact hQ (-1) (by first | trivial | omega) 
              · refine X.iload_n 18 i76_17 rfl rfl rfl ?_
                refine X.bipush 20 i76_18 rfl rfl (by decide) ?_
                refine X.icmpge 31 23 i76_20 rfl rfl rfl (fun h515 => (by exfalso; omega)) (fun h515 => ?_)
                refine X.iload_n 24 i76_23 rfl rfl rfl ?_
                refine X.bipush 26 i76_24 rfl rfl (by decide) ?_
                refine X.isub 27 i76_26 rfl rfl (by omega) ?_
                refine X.bipush 29 i76_27 rfl rfl (by decide) ?_
                refine X.iadd 30 i76_29 rfl rfl (by omega) ?_
                refine X.reti i76_30 rfl t76 ?_
                show X (EE s) (d - 1) 168 4 [(0, zr 0 9), (1, zi v508)] [zi ((v508 - 10) + 6)] m _
                refine X.istore_n 5 [(0, zr 0 9), (1, zi v508), (2, zi ((v508 - 10) + 6))] i168_4 rfl rfl rfl ?_
                refine X.iload_n 6 i168_5 rfl rfl rfl ?_
                refine X.iconst 7 i168_6 rfl rfl (by decide) ?_
                refine X.icmpne 14 10 i168_7 rfl rfl rfl (fun h516 => ?_) (fun h516 => (by exfalso; omega))
                refine X.cut [(0, zr 0 9), (2, zi ((v508 - 10) + 6))] i168_14 rfl ?_
                refine X.aload_n 15 i168_14 rfl rfl rfl ?_
                refine X.getR 18 i168_15 rfl rfl (by decide) rfl rfl ?_
                refine X.iload_n 19 i168_18 rfl rfl rfl ?_
                refine X.iald 20 i168_19 rfl rfl (by decide) rfl (by omega) ?_
                have h517 := r10_6 hJ 0 (i := ((v508 - 10) + 6)) (by omega)
                refine X.cut [] i168_20 rfl ?_
                refine X.reti i168_20 rfl t168 ?_
                show X (EE s) d 196 100 [(0, zr g0 40), (2, zi v508)] [zi (m 0 10 ((v508 - 10) + 6))] m _
                refine X.i2l 101 i196_100 rfl rfl ?_
                refine X.cut [] i196_101 rfl ?_
                refine X.retl i196_101 rfl t196 ?_
                exact hQ (m 0 10 ((v508 - 10) + 6)) (by first | trivial | omega) 
            · refine X.iload_n 10 i76_9 rfl rfl rfl ?_
              refine X.reti i76_10 rfl t76 ?_
              show X (EE s) (d - 1) 168 4 [(0, zr 0 9), (1, zi v508)] [zi v508] m _
              refine X.istore_n 5 [(0, zr 0 9), (1, zi v508), (2, zi v508)] i168_4 rfl rfl rfl ?_
              refine X.iload_n 6 i168_5 rfl rfl rfl ?_
              refine X.iconst 7 i168_6 rfl rfl (by decide) ?_
              refine X.icmpne 14 10 i168_7 rfl rfl rfl (fun h518 => ?_) (fun h518 => (by exfalso; omega))
              refine X.cut [(0, zr 0 9), (2, zi v508)] i168_14 rfl ?_
              refine X.aload_n 15 i168_14 rfl rfl rfl ?_
              refine X.getR 18 i168_15 rfl rfl (by decide) rfl rfl ?_
              refine X.iload_n 19 i168_18 rfl rfl rfl ?_
              refine X.iald 20 i168_19 rfl rfl (by decide) rfl (by omega) ?_
              have h519 := r10_all hJ 0 (i := v508) (by omega)
              refine X.cut [] i168_20 rfl ?_
              refine X.reti i168_20 rfl t168 ?_
              show X (EE s) d 196 100 [(0, zr g0 40), (2, zi v508)] [zi (m 0 10 v508)] m _
              refine X.i2l 101 i196_100 rfl rfl ?_
              refine X.cut [] i196_101 rfl ?_
              refine X.retl i196_101 rfl t196 ?_
              exact hQ (m 0 10 v508) (by first | trivial | omega) 
          · refine X.ldc2 86 i196_83 rfl rfl (by decide) ?_
            refine X.goto 101 i196_86 rfl rfl ?_
            refine X.cut [] i196_101 rfl ?_
            refine X.retl i196_101 rfl t196 ?_
            exact hQ (-10000000000) (by first | trivial | omega) 
        · refine X.iload_n 39 i196_38 rfl rfl rfl ?_
          refine X.bipush 41 i196_39 rfl rfl (by decide) ?_
          refine X.icmpgt 61 44 i196_41 rfl rfl rfl (fun h520 => ?_) (fun h520 => ?_)
          · refine X.iload_n 62 i196_61 rfl rfl rfl ?_
            refine X.bipush 64 i196_62 rfl rfl (by decide) ?_
            refine X.icmplt 73 67 i196_64 rfl rfl rfl (fun h521 => ?_) (fun h521 => ?_)
            · refine X.iload_n 74 i196_73 rfl rfl rfl ?_
              refine X.calls 77 [zi a1] [] [(0, zi a1)] i196_74 (by decide) rfl rfl (by omega) rfl rfl t200 (Nat.le_of_ble_eq_true rfl) (Nat.le_of_ble_eq_true rfl) rfl ?_
              refine c200_2 (B := B)  a1 (by omega) (hJ.up (by omega)) (by omega) (by omega) (fun v524 hv524 => ?_)
              show X (EE s) d 196 77 [(0, zr g0 40), (1, zi a1)] [zi v524] m _
              refine X.istore_n 78 [(0, zr g0 40), (1, zi a1), (2, zi v524)] i196_77 rfl rfl rfl ?_
              refine X.iload_n 79 i196_78 rfl rfl rfl ?_
              refine X.iconst 80 i196_79 rfl rfl (by decide) ?_
              refine X.icmpne 89 83 i196_80 rfl rfl rfl (fun h525 => ?_) (fun h525 => ?_)
              · refine X.cut [(0, zr g0 40), (2, zi v524)] i196_89 rfl ?_
                refine X.aload_n 90 i196_89 rfl rfl rfl ?_
                refine X.getF 93 i196_90 rfl rfl (by decide) rfl rfl ?_
                refine X.getR 96 i196_93 rfl rfl (by decide) rfl rfl ?_
                refine X.iload_n 97 i196_96 rfl rfl rfl ?_
                refine X.callv 100 [zi v524] [] [(0, zr 0 9), (1, zi v524)] i196_97 rfl (by decide) rfl rfl (by omega) rfl rfl (by decide) rfl t168 (Nat.le_of_ble_eq_true rfl) (Nat.le_of_ble_eq_true rfl) rfl ?_
                refine X.iload_n 1 i168_0 rfl rfl rfl ?_
                refine X.calls 4 [zi v524] [] [(0, zi v524)] i168_1 (by decide) rfl rfl (by omega) rfl rfl t76 (Nat.le_of_ble_eq_true rfl) (Nat.le_of_ble_eq_true rfl) rfl ?_
                refine X.iload_n 1 i76_0 rfl rfl rfl ?_
                refine X.iflt 11 4 i76_1 rfl rfl rfl (fun h526 => (by exfalso; omega)) (fun h526 => ?_)
                refine X.iload_n 5 i76_4 rfl rfl rfl ?_
                refine X.iconst 6 i76_5 rfl rfl (by decide) ?_
                refine X.icmpgt 11 9 i76_6 rfl rfl rfl (fun h527 => ?_) (fun h527 => ?_)
                · refine X.iload_n 12 i76_11 rfl rfl rfl ?_
                  refine X.bipush 14 i76_12 rfl rfl (by decide) ?_
                  refine X.icmplt 31 17 i76_14 rfl rfl rfl (fun h528 => ?_) (fun h528 => ?_)
                  · refine X.iload_n 32 i76_31 rfl rfl rfl ?_
                    refine X.bipush 34 i76_32 rfl rfl (by decide) ?_
                    refine X.icmplt 51 37 i76_34 rfl rfl rfl (fun h529 => ?_) (fun h529 => (by exfalso; omega))
                    refine X.cut [] i76_51 rfl ?_
                    refine X.iconst 52 i76_51 rfl rfl (by decide) ?_
                    refine X.reti i76_52 rfl t76 ?_
                    show X (EE s) (d - 1) 168 4 [(0, zr 0 9), (1, zi v524)] [zi (-1)] m _
                    refine X.istore_n 5 [(0, zr 0 9), (1, zi v524), (2, zi (-1))] i168_4 rfl rfl rfl ?_
                    refine X.iload_n 6 i168_5 rfl rfl rfl ?_
                    refine X.iconst 7 i168_6 rfl rfl (by decide) ?_
                    refine X.icmpne 14 10 i168_7 rfl rfl rfl (fun h530 => (by exfalso; omega)) (fun h530 => ?_)
                    refine X.iconst 11 i168_10 rfl rfl (by decide) ?_
                    refine X.goto 20 i168_11 rfl rfl ?_
                    refine X.cut [] i168_20 rfl ?_
                    refine X.reti i168_20 rfl t168 ?_
                    show X (EE s) d 196 100 [(0, zr g0 40), (2, zi v524)] [zi (-1)] m _
                    refine X.i2l 101 i196_100 rfl rfl ?_
                    refine X.cut [] i196_101 rfl ?_
                    refine X.retl i196_101 rfl t196 ?_
                    exact hQ (-1) (by first | trivial | omega) 
                  · refine X.iload_n 18 i76_17 rfl rfl rfl ?_
                    refine X.bipush 20 i76_18 rfl rfl (by decide) ?_
                    refine X.icmpge 31 23 i76_20 rfl rfl rfl (fun h531 => ?_) (fun h531 => ?_)
                    · refine X.iload_n 32 i76_31 rfl rfl rfl ?_
                      refine X.bipush 34 i76_32 rfl rfl (by decide) ?_
                      refine X.icmplt 51 37 i76_34 rfl rfl rfl (fun h532 => ?_) (fun h532 => ?_)
                      · refine X.cut [] i76_51 rfl ?_
                        refine X.iconst 52 i76_51 rfl rfl (by decide) ?_
                        refine X.reti i76_52 rfl t76 ?_
                        show X (EE s) (d - 1) 168 4 [(0, zr 0 9), (1, zi v524)] [zi (-1)] m _
                        refine X.istore_n 5 [(0, zr 0 9), (1, zi v524), (2, zi (-1))] i168_4 rfl rfl rfl ?_
                        refine X.iload_n 6 i168_5 rfl rfl rfl ?_
                        refine X.iconst 7 i168_6 rfl rfl (by decide) ?_
                        refine X.icmpne 14 10 i168_7 rfl rfl rfl (fun h533 => (by exfalso; omega)) (fun h533 => ?_)
                        refine X.iconst 11 i168_10 rfl rfl (by decide) ?_
                        refine X.goto 20 i168_11 rfl rfl ?_
                        refine X.cut [] i168_20 rfl ?_
                        refine X.reti i168_20 rfl t168 ?_
                        show X (EE s) d 196 100 [(0, zr g0 40), (2, zi v524)] [zi (-1)] m _
                        refine X.i2l 101 i196_100 rfl rfl ?_
                        refine X.cut [] i196_101 rfl ?_
                        refine X.retl i196_101 rfl t196 ?_
                        exact hQ (-1) (by first | trivial | omega) 
                      · refine X.iload_n 38 i76_37 rfl rfl rfl ?_
                        refine X.bipush 40 i76_38 rfl rfl (by decide) ?_
                        refine X.icmpgt 51 43 i76_40 rfl rfl rfl (fun h534 => (by exfalso; omega)) (fun h534 => ?_)
                        refine X.iload_n 44 i76_43 rfl rfl rfl ?_
                        refine X.bipush 46 i76_44 rfl rfl (by decide) ?_
                        refine X.isub 47 i76_46 rfl rfl (by omega) ?_
                        refine X.bipush 49 i76_47 rfl rfl (by decide) ?_
                        refine X.iadd 50 i76_49 rfl rfl (by omega) ?_
                        refine X.reti i76_50 rfl t76 ?_
                        show X (EE s) (d - 1) 168 4 [(0, zr 0 9), (1, zi v524)] [zi ((v524 - 20) + 10)] m _
                        refine X.istore_n 5 [(0, zr 0 9), (1, zi v524), (2, zi ((v524 - 20) + 10))] i168_4 rfl rfl rfl ?_
                        refine X.iload_n 6 i168_5 rfl rfl rfl ?_
                        refine X.iconst 7 i168_6 rfl rfl (by decide) ?_
                        refine X.icmpne 14 10 i168_7 rfl rfl rfl (fun h535 => ?_) (fun h535 => (by exfalso; omega))
                        refine X.cut [(0, zr 0 9), (2, zi ((v524 - 20) + 10))] i168_14 rfl ?_
                        refine X.aload_n 15 i168_14 rfl rfl rfl ?_
                        refine X.getR 18 i168_15 rfl rfl (by decide) rfl rfl ?_
                        refine X.iload_n 19 i168_18 rfl rfl rfl ?_
                        refine X.iald 20 i168_19 rfl rfl (by decide) rfl (by omega) ?_
                        have h536 := r10_6 hJ 0 (i := ((v524 - 20) + 10)) (by omega)
                        refine X.cut [] i168_20 rfl ?_
                        refine X.reti i168_20 rfl t168 ?_
                        show X (EE s) d 196 100 [(0, zr g0 40), (2, zi v524)] [zi (m 0 10 ((v524 - 20) + 10))] m _
                        refine X.i2l 101 i196_100 rfl rfl ?_
                        refine X.cut [] i196_101 rfl ?_
                        refine X.retl i196_101 rfl t196 ?_
                        exact hQ (m 0 10 ((v524 - 20) + 10)) (by first | trivial | omega) 
                    · refine X.iload_n 24 i76_23 rfl rfl rfl ?_
                      refine X.bipush 26 i76_24 rfl rfl (by decide) ?_
                      refine X.isub 27 i76_26 rfl rfl (by omega) ?_
                      refine X.bipush 29 i76_27 rfl rfl (by decide) ?_
                      refine X.iadd 30 i76_29 rfl rfl (by omega) ?_
                      refine X.reti i76_30 rfl t76 ?_
                      show X (EE s) (d - 1) 168 4 [(0, zr 0 9), (1, zi v524)] [zi ((v524 - 10) + 6)] m _
                      refine X.istore_n 5 [(0, zr 0 9), (1, zi v524), (2, zi ((v524 - 10) + 6))] i168_4 rfl rfl rfl ?_
                      refine X.iload_n 6 i168_5 rfl rfl rfl ?_
                      refine X.iconst 7 i168_6 rfl rfl (by decide) ?_
                      refine X.icmpne 14 10 i168_7 rfl rfl rfl (fun h537 => ?_) (fun h537 => (by exfalso; omega))
                      refine X.cut [(0, zr 0 9), (2, zi ((v524 - 10) + 6))] i168_14 rfl ?_
                      refine X.aload_n 15 i168_14 rfl rfl rfl ?_
                      refine X.getR 18 i168_15 rfl rfl (by decide) rfl rfl ?_
                      refine X.iload_n 19 i168_18 rfl rfl rfl ?_
                      refine X.iald 20 i168_19 rfl rfl (by decide) rfl (by omega) ?_
                      have h538 := r10_6 hJ 0 (i := ((v524 - 10) + 6)) (by omega)
                      refine X.cut [] i168_20 rfl ?_
                      refine X.reti i168_20 rfl t168 ?_
                      show X (EE s) d 196 100 [(0, zr g0 40), (2, zi v524)] [zi (m 0 10 ((v524 - 10) + 6))] m _
                      refine X.i2l 101 i196_100 rfl rfl ?_
                      refine X.cut [] i196_101 rfl ?_
                      refine X.retl i196_101 rfl t196 ?_
                      exact hQ (m 0 10 ((v524 - 10) + 6)) (by first | trivial | omega) 
                · refine X.iload_n 10 i76_9 rfl rfl rfl ?_
                  refine X.reti i76_10 rfl t76 ?_
                  show X (EE s) (d - 1) 168 4 [(0, zr 0 9), (1, zi v524)] [zi v524] m _
                  refine X.istore_n 5 [(0, zr 0 9), (1, zi v524), (2, zi v524)] i168_4 rfl rfl rfl ?_
                  refine X.iload_n 6 i168_5 rfl rfl rfl ?_
                  refine X.iconst 7 i168_6 rfl rfl (by decide) ?_
                  refine X.icmpne 14 10 i168_7 rfl rfl rfl (fun h539 => ?_) (fun h539 => (by exfalso; omega))
                  refine X.cut [(0, zr 0 9), (2, zi v524)] i168_14 rfl ?_
                  refine X.aload_n 15 i168_14 rfl rfl rfl ?_
                  refine X.getR 18 i168_15 rfl rfl (by decide) rfl rfl ?_
                  refine X.iload_n 19 i168_18 rfl rfl rfl ?_
                  refine X.iald 20 i168_19 rfl rfl (by decide) rfl (by omega) ?_
                  have h540 := r10_all hJ 0 (i := v524) (by omega)
                  refine X.cut [] i168_20 rfl ?_
                  refine X.reti i168_20 rfl t168 ?_
                  show X (EE s) d 196 100 [(0, zr g0 40), (2, zi v524)] [zi (m 0 10 v524)] m _
                  refine X.i2l 101 i196_100 rfl rfl ?_
                  refine X.cut [] i196_101 rfl ?_
                  refine X.retl i196_101 rfl t196 ?_
                  exact hQ (m 0 10 v524) (by first | trivial | omega) 
              · refine X.ldc2 86 i196_83 rfl rfl (by decide) ?_
                refine X.goto 101 i196_86 rfl rfl ?_
                refine X.cut [] i196_101 rfl ?_
                refine X.retl i196_101 rfl t196 ?_
                exact hQ (-10000000000) (by first | trivial | omega) 
            · refine X.aload_n 68 i196_67 rfl rfl rfl ?_
              refine X.iload_n 69 i196_68 rfl rfl rfl ?_
              refine X.callv 72 [zi a1] [] [(0, zr g0 40), (1, zi a1)] i196_69 rfl (by decide) rfl rfl (by omega) rfl rfl (by decide) rfl t199 (Nat.le_of_ble_eq_true rfl) (Nat.le_of_ble_eq_true rfl) rfl ?_
              refine c199_1 (B := B) g0 a1 (by omega) (hJ.up (by omega)) (by omega) (by omega) (fun v543 hv543 => ?_)
              show X (EE s) d 196 72 [(0, zr g0 40), (1, zi a1)] [zl v543] m _
              refine X.retl i196_72 rfl t196 ?_
              exact hQ v543 (by first | trivial | omega) 
          · refine X.aload_n 45 i196_44 rfl rfl rfl ?_
            refine X.getF 48 i196_45 rfl rfl (by decide) rfl rfl ?_
            refine X.getR 51 i196_48 rfl rfl (by decide) rfl rfl ?_
            refine X.getR 54 i196_51 rfl rfl (by decide) rfl rfl ?_
            refine X.iload_n 55 i196_54 rfl rfl rfl ?_
            refine X.bipush 57 i196_55 rfl rfl (by decide) ?_
            refine X.isub 58 i196_57 rfl rfl (by omega) ?_
            refine X.iald 59 i196_58 rfl rfl (by decide) rfl (by omega) ?_
            have h544 := r15_0 hJ 0 (i := (a1 - 40)) (by omega)
            refine X.i2l 60 i196_59 rfl rfl ?_
            refine X.retl i196_60 rfl t196 ?_
            exact hQ (m 0 15 (a1 - 40)) (by first | trivial | omega) 
      · refine X.aload_n 27 i196_26 rfl rfl rfl ?_
        refine X.iload_n 28 i196_27 rfl rfl rfl ?_
        refine X.callv 31 [zi a1] [] [(0, zr g0 40), (1, zi a1)] i196_28 rfl (by decide) rfl rfl (by omega) rfl rfl (by decide) rfl t198 (Nat.le_of_ble_eq_true rfl) (Nat.le_of_ble_eq_true rfl) rfl ?_
        refine c198_1 (B := B) g0 a1 (by omega) (hJ.up (by omega)) (by omega) (by omega) (fun v547 hv547 => ?_)
        show X (EE s) d 196 31 [(0, zr g0 40), (1, zi a1)] [zl v547] m _
        refine X.retl i196_31 rfl t196 ?_
        exact hQ v547 (by first | trivial | omega) 
    · refine X.aload_n 15 i196_14 rfl rfl rfl ?_
      refine X.iload_n 16 i196_15 rfl rfl rfl ?_
      refine X.callv 19 [zi a1] [] [(0, zr g0 40), (1, zi a1)] i196_16 rfl (by decide) rfl rfl (by omega) rfl rfl (by decide) rfl t197 (Nat.le_of_ble_eq_true rfl) (Nat.le_of_ble_eq_true rfl) rfl ?_
      refine c197_1 (B := B) g0 a1 (by omega) (hJ.up (by omega)) (by omega) (by omega) (fun v550 hv550 => ?_)
      show X (EE s) d 196 19 [(0, zr g0 40), (1, zi a1)] [zl v550] m _
      refine X.retl i196_19 rfl t196 ?_
      exact hQ v550 (by first | trivial | omega) 
  · refine X.ldc2 7 i196_4 rfl rfl (by decide) ?_
    refine X.retl i196_7 rfl t196 ?_
    exact hQ (-10000000000) (by first | trivial | omega) 
-- WorkMeterModel.look
theorem c315_1 {s : Nat × (Nat → Int32)} {m0 m : zM} {B : Int} {d : Nat} {Q : Option zV → zM → Prop} (g0 : Nat) (a1 : Int) (hd : 16 ≤ d) (hJ : J m0 B m) (hB : B + 0 ≤ 1000000000) (ha1 : (-2147483648) ≤ a1 ∧ a1 ≤ 2147483647) (hQ : ∀ (v : Int), (True) → Q (some (zl v)) m) : X (EE s) d 315 0 [(0, zr g0 44), (1, zi a1)] [] m Q := by
  refine X.iload_n 1 i315_0 rfl rfl rfl ?_
  refine X.i2l 2 i315_1 rfl rfl ?_
  refine X.ldc2 5 i315_2 rfl rfl (by decide) ?_
  refine X.ldc2 8 i315_5 rfl rfl (by decide) ?_
  refine X.calls 11 [zl a1, zl 30, zl 33] [] [(0, zl a1), (2, zl 30), (4, zl 33)] i315_8 (by decide) rfl rfl (by omega) rfl rfl t204 (Nat.le_of_ble_eq_true rfl) (Nat.le_of_ble_eq_true rfl) rfl ?_
  refine X.lload_n 1 i204_0 rfl rfl rfl ?_
  refine X.lload_n 2 i204_1 rfl rfl rfl ?_
  refine X.lcmp 3 i204_2 rfl rfl (fun z501 hz501 => ?_)
  refine X.iflt 17 6 i204_3 rfl rfl rfl (fun h502 => ?_) (fun h502 => ?_)
  · have h502c : a1 < 30 := by omega
    clear h502 hz501
    refine X.cut [] i204_17 rfl ?_
    refine X.iconst 18 i204_17 rfl rfl (by decide) ?_
    refine X.retz i204_18 rfl t204 (by omega) ?_
    show X (EE s) d 315 11 [(0, zr g0 44), (1, zi a1)] [zi 0] m _
    refine X.ifeq 27 14 i315_11 rfl rfl rfl (fun h503 => ?_) (fun h503 => (by exfalso; omega))
    refine X.iload_n 28 i315_27 rfl rfl rfl ?_
    refine X.i2l 29 i315_28 rfl rfl ?_
    refine X.ldc2 32 i315_29 rfl rfl (by decide) ?_
    refine X.ldc2 35 i315_32 rfl rfl (by decide) ?_
    refine X.calls 38 [zl a1, zl 40, zl 43] [] [(0, zl a1), (2, zl 40), (4, zl 43)] i315_35 (by decide) rfl rfl (by omega) rfl rfl t204 (Nat.le_of_ble_eq_true rfl) (Nat.le_of_ble_eq_true rfl) rfl ?_
    refine X.lload_n 1 i204_0 rfl rfl rfl ?_
    refine X.lload_n 2 i204_1 rfl rfl rfl ?_
    refine X.lcmp 3 i204_2 rfl rfl (fun z504 hz504 => ?_)
    refine X.iflt 17 6 i204_3 rfl rfl rfl (fun h505 => ?_) (fun h505 => (by exfalso; omega))
    have h505c : a1 < 40 := by omega
    clear h505 hz504
    refine X.cut [] i204_17 rfl ?_
    refine X.iconst 18 i204_17 rfl rfl (by decide) ?_
    refine X.retz i204_18 rfl t204 (by omega) ?_
    show X (EE s) d 315 38 [(0, zr g0 44), (1, zi a1)] [zi 0] m _
    refine X.ifeq 55 41 i315_38 rfl rfl rfl (fun h506 => ?_) (fun h506 => (by exfalso; omega))
    refine X.iload_n 56 i315_55 rfl rfl rfl ?_
    refine X.i2l 57 i315_56 rfl rfl ?_
    refine X.ldc2 60 i315_57 rfl rfl (by decide) ?_
    refine X.ldc2 63 i315_60 rfl rfl (by decide) ?_
    refine X.calls 66 [zl a1, zl 20, zl 25] [] [(0, zl a1), (2, zl 20), (4, zl 25)] i315_63 (by decide) rfl rfl (by omega) rfl rfl t204 (Nat.le_of_ble_eq_true rfl) (Nat.le_of_ble_eq_true rfl) rfl ?_
    refine X.lload_n 1 i204_0 rfl rfl rfl ?_
    refine X.lload_n 2 i204_1 rfl rfl rfl ?_
    refine X.lcmp 3 i204_2 rfl rfl (fun z507 hz507 => ?_)
    refine X.iflt 17 6 i204_3 rfl rfl rfl (fun h508 => ?_) (fun h508 => ?_)
    · have h508c : a1 < 20 := by omega
      clear h508 hz507
      refine X.cut [] i204_17 rfl ?_
      refine X.iconst 18 i204_17 rfl rfl (by decide) ?_
      refine X.retz i204_18 rfl t204 (by omega) ?_
      show X (EE s) d 315 66 [(0, zr g0 44), (1, zi a1)] [zi 0] m _
      refine X.ifeq 81 69 i315_66 rfl rfl rfl (fun h509 => ?_) (fun h509 => (by exfalso; omega))
      refine X.iload_n 82 i315_81 rfl rfl rfl ?_
      refine X.i2l 83 i315_82 rfl rfl ?_
      refine X.ldc2 86 i315_83 rfl rfl (by decide) ?_
      refine X.ldc2 89 i315_86 rfl rfl (by decide) ?_
      refine X.calls 92 [zl a1, zl 50, zl 52] [] [(0, zl a1), (2, zl 50), (4, zl 52)] i315_89 (by decide) rfl rfl (by omega) rfl rfl t204 (Nat.le_of_ble_eq_true rfl) (Nat.le_of_ble_eq_true rfl) rfl ?_
      refine X.lload_n 1 i204_0 rfl rfl rfl ?_
      refine X.lload_n 2 i204_1 rfl rfl rfl ?_
      refine X.lcmp 3 i204_2 rfl rfl (fun z510 hz510 => ?_)
      refine X.iflt 17 6 i204_3 rfl rfl rfl (fun h511 => ?_) (fun h511 => (by exfalso; omega))
      have h511c : a1 < 50 := by omega
      clear h511 hz510
      refine X.cut [] i204_17 rfl ?_
      refine X.iconst 18 i204_17 rfl rfl (by decide) ?_
      refine X.retz i204_18 rfl t204 (by omega) ?_
      show X (EE s) d 315 92 [(0, zr g0 44), (1, zi a1)] [zi 0] m _
      refine X.ifeq 109 95 i315_92 rfl rfl rfl (fun h512 => ?_) (fun h512 => (by exfalso; omega))
      refine X.iload_n 110 i315_109 rfl rfl rfl ?_
      by_cases h513 : a1 = 0
      · refine X.tsIn 356 0 i315_110 rfl (by omega) rfl rfl ?_
        refine X.cut [(0, zr g0 44)] i315_356 rfl ?_
        refine X.aload_n 357 i315_356 rfl rfl rfl ?_
        refine X.getF 360 i315_357 rfl rfl (by decide) rfl rfl ?_
        refine X.iconst 361 i315_360 rfl rfl (by decide) ?_
        refine X.lald 362 i315_361 rfl rfl (by decide) rfl (by omega) ?_
        have h514 := r45_0 hJ 4
        refine X.retl i315_362 rfl t315 ?_
        exact hQ (m 4 45 0) (by first | trivial | omega) 
      by_cases h515 : a1 = 1
      · refine X.tsIn 363 1 i315_110 rfl (by omega) rfl rfl ?_
        refine X.cut [(0, zr g0 44)] i315_363 rfl ?_
        refine X.aload_n 364 i315_363 rfl rfl rfl ?_
        refine X.aload_n 365 i315_364 rfl rfl rfl ?_
        refine X.getF 368 i315_365 rfl rfl (by decide) rfl rfl ?_
        refine X.iconst 369 i315_368 rfl rfl (by decide) ?_
        refine X.lald 370 i315_369 rfl rfl (by decide) rfl (by omega) ?_
        have h516 := r45_0 hJ 4
        refine X.l2i 371 i315_370 rfl rfl (by omega) ?_
        refine X.callv 374 [zi (m 4 45 0)] [] [(0, zr g0 44), (1, zi (m 4 45 0))] i315_371 rfl (by decide) rfl rfl (by omega) rfl rfl (by decide) rfl t217 (Nat.le_of_ble_eq_true rfl) (Nat.le_of_ble_eq_true rfl) rfl ?_
        refine c217_1 (B := B) g0 (m 4 45 0) (by omega) (hJ.up (by omega)) (by omega) (by omega) (fun v519 hv519 => ?_)
        show X (EE s) d 315 374 [(0, zr g0 44)] [zi v519] m _
        refine X.i2l 375 i315_374 rfl rfl ?_
        refine X.retl i315_375 rfl t315 ?_
        exact hQ v519 (by first | trivial | omega) 
      by_cases h520 : a1 = 2
      · refine X.tsIn 376 2 i315_110 rfl (by omega) rfl rfl ?_
        refine X.cut [(0, zr g0 44)] i315_376 rfl ?_
        refine X.aload_n 377 i315_376 rfl rfl rfl ?_
        refine X.getF 380 i315_377 rfl rfl (by decide) rfl rfl ?_
        refine X.bipush 382 i315_380 rfl rfl (by decide) ?_
        refine X.lald 383 i315_382 rfl rfl (by decide) rfl (by omega) ?_
        refine X.retl i315_383 rfl t315 ?_
        exact hQ (m 4 45 10) (by first | trivial | omega) 
      by_cases h521 : a1 = 3
      · refine X.tsIn 384 3 i315_110 rfl (by omega) rfl rfl ?_
        refine X.cut [(0, zr g0 44)] i315_384 rfl ?_
        refine X.aload_n 385 i315_384 rfl rfl rfl ?_
        refine X.getF 388 i315_385 rfl rfl (by decide) rfl rfl ?_
        refine X.bipush 390 i315_388 rfl rfl (by decide) ?_
        refine X.lald 391 i315_390 rfl rfl (by decide) rfl (by omega) ?_
        have h522 := r45_11 hJ 4
        refine X.retl i315_391 rfl t315 ?_
        exact hQ (m 4 45 11) (by first | trivial | omega) 
      by_cases h523 : a1 = 4
      · refine X.tsIn 392 4 i315_110 rfl (by omega) rfl rfl ?_
        refine X.cut [(0, zr g0 44)] i315_392 rfl ?_
        refine X.aload_n 393 i315_392 rfl rfl rfl ?_
        refine X.getF 396 i315_393 rfl rfl (by decide) rfl rfl ?_
        refine X.bipush 398 i315_396 rfl rfl (by decide) ?_
        refine X.lald 399 i315_398 rfl rfl (by decide) rfl (by omega) ?_
        have h524 := r45_12 hJ 4
        refine X.retl i315_399 rfl t315 ?_
        exact hQ (m 4 45 12) (by first | trivial | omega) 
      by_cases h525 : a1 = 5
      · refine X.tsIn 400 5 i315_110 rfl (by omega) rfl rfl ?_
        refine X.cut [(0, zr g0 44)] i315_400 rfl ?_
        refine X.aload_n 401 i315_400 rfl rfl rfl ?_
        refine X.getF 404 i315_401 rfl rfl (by decide) rfl rfl ?_
        refine X.bipush 406 i315_404 rfl rfl (by decide) ?_
        refine X.lald 407 i315_406 rfl rfl (by decide) rfl (by omega) ?_
        refine X.retl i315_407 rfl t315 ?_
        exact hQ (m 4 45 13) (by first | trivial | omega) 
      by_cases h526 : a1 = 6
      · refine X.tsIn 408 6 i315_110 rfl (by omega) rfl rfl ?_
        refine X.cut [(0, zr g0 44)] i315_408 rfl ?_
        refine X.aload_n 409 i315_408 rfl rfl rfl ?_
        refine X.getF 412 i315_409 rfl rfl (by decide) rfl rfl ?_
        refine X.bipush 414 i315_412 rfl rfl (by decide) ?_
        refine X.lald 415 i315_414 rfl rfl (by decide) rfl (by omega) ?_
        refine X.retl i315_415 rfl t315 ?_
        exact hQ (m 4 45 14) (by first | trivial | omega) 
      by_cases h527 : a1 = 7
      · refine X.tsIn 416 7 i315_110 rfl (by omega) rfl rfl ?_
        refine X.cut [(0, zr g0 44)] i315_416 rfl ?_
        refine X.aload_n 417 i315_416 rfl rfl rfl ?_
        refine X.getF 420 i315_417 rfl rfl (by decide) rfl rfl ?_
        refine X.bipush 422 i315_420 rfl rfl (by decide) ?_
        refine X.lald 423 i315_422 rfl rfl (by decide) rfl (by omega) ?_
        refine X.retl i315_423 rfl t315 ?_
        exact hQ (m 4 45 15) (by first | trivial | omega) 
      by_cases h528 : a1 = 8
      · refine X.tsIn 424 8 i315_110 rfl (by omega) rfl rfl ?_
        refine X.cut [(0, zr g0 44)] i315_424 rfl ?_
        refine X.aload_n 425 i315_424 rfl rfl rfl ?_
        refine X.callv 428 [] [] [(0, zr g0 44)] i315_425 rfl (by decide) rfl rfl (by omega) rfl rfl (by decide) rfl t231 (Nat.le_of_ble_eq_true rfl) (Nat.le_of_ble_eq_true rfl) rfl ?_
        refine c231_1 (B := B) g0  (by omega) (hJ.up (by omega)) (by omega)  (fun v531 hv531 => ?_)
        show X (EE s) d 315 428 [(0, zr g0 44)] [zl v531] m _
        refine X.retl i315_428 rfl t315 ?_
        exact hQ v531 (by first | trivial | omega) 
      by_cases h532 : a1 = 9
      · refine X.tsIn 429 9 i315_110 rfl (by omega) rfl rfl ?_
        refine X.cut [(0, zr g0 44)] i315_429 rfl ?_
        refine X.aload_n 430 i315_429 rfl rfl rfl ?_
        refine X.getF 433 i315_430 rfl rfl (by decide) rfl rfl ?_
        refine X.bipush 435 i315_433 rfl rfl (by decide) ?_
        refine X.lald 436 i315_435 rfl rfl (by decide) rfl (by omega) ?_
        have h533 := r45_16 hJ 4
        refine X.retl i315_436 rfl t315 ?_
        exact hQ (m 4 45 16) (by first | trivial | omega) 
      by_cases h534 : a1 = 10
      · refine X.tsIn 437 10 i315_110 rfl (by omega) rfl rfl ?_
        refine X.cut [(0, zr g0 44)] i315_437 rfl ?_
        refine X.aload_n 438 i315_437 rfl rfl rfl ?_
        refine X.getF 441 i315_438 rfl rfl (by decide) rfl rfl ?_
        refine X.bipush 443 i315_441 rfl rfl (by decide) ?_
        refine X.lald 444 i315_443 rfl rfl (by decide) rfl (by omega) ?_
        have h535 := r45_17 hJ 4
        refine X.retl i315_444 rfl t315 ?_
        exact hQ (m 4 45 17) (by first | trivial | omega) 
      by_cases h536 : a1 = 11
      · refine X.tsIn 445 11 i315_110 rfl (by omega) rfl rfl ?_
        refine X.cut [(0, zr g0 44)] i315_445 rfl ?_
        refine X.aload_n 446 i315_445 rfl rfl rfl ?_
        refine X.getF 449 i315_446 rfl rfl (by decide) rfl rfl ?_
        refine X.bipush 451 i315_449 rfl rfl (by decide) ?_
        refine X.lald 452 i315_451 rfl rfl (by decide) rfl (by omega) ?_
        have h537 := r45_18 hJ 4
        refine X.retl i315_452 rfl t315 ?_
        exact hQ (m 4 45 18) (by first | trivial | omega) 
      by_cases h538 : a1 = 12
      · refine X.tsIn 453 12 i315_110 rfl (by omega) rfl rfl ?_
        refine X.cut [(0, zr g0 44)] i315_453 rfl ?_
        refine X.aload_n 454 i315_453 rfl rfl rfl ?_
        refine X.getF 457 i315_454 rfl rfl (by decide) rfl rfl ?_
        refine X.iconst 458 i315_457 rfl rfl (by decide) ?_
        refine X.lald 459 i315_458 rfl rfl (by decide) rfl (by omega) ?_
        have h539 := r45_1 hJ 4
        refine X.retl i315_459 rfl t315 ?_
        exact hQ (m 4 45 1) (by first | trivial | omega) 
      by_cases h540 : a1 = 13
      · refine X.tsIn 460 13 i315_110 rfl (by omega) rfl rfl ?_
        refine X.cut [(0, zr g0 44)] i315_460 rfl ?_
        refine X.aload_n 461 i315_460 rfl rfl rfl ?_
        refine X.getF 464 i315_461 rfl rfl (by decide) rfl rfl ?_
        refine X.iconst 465 i315_464 rfl rfl (by decide) ?_
        refine X.lald 466 i315_465 rfl rfl (by decide) rfl (by omega) ?_
        have h541 := r45_2 hJ 4
        refine X.retl i315_466 rfl t315 ?_
        exact hQ (m 4 45 2) (by first | trivial | omega) 
      by_cases h542 : a1 = 14
      · refine X.tsIn 467 14 i315_110 rfl (by omega) rfl rfl ?_
        refine X.cut [(0, zr g0 44)] i315_467 rfl ?_
        refine X.aload_n 468 i315_467 rfl rfl rfl ?_
        refine X.getF 471 i315_468 rfl rfl (by decide) rfl rfl ?_
        refine X.iconst 472 i315_471 rfl rfl (by decide) ?_
        refine X.lald 473 i315_472 rfl rfl (by decide) rfl (by omega) ?_
        have h543 := r45_3 hJ 4
        refine X.retl i315_473 rfl t315 ?_
        exact hQ (m 4 45 3) (by first | trivial | omega) 
      by_cases h544 : a1 = 15
      · refine X.tsIn 474 15 i315_110 rfl (by omega) rfl rfl ?_
        refine X.cut [(0, zr g0 44)] i315_474 rfl ?_
        refine X.aload_n 475 i315_474 rfl rfl rfl ?_
        refine X.callv 478 [] [] [(0, zr g0 44)] i315_475 rfl (by decide) rfl rfl (by omega) rfl rfl (by decide) rfl t249 (Nat.le_of_ble_eq_true rfl) (Nat.le_of_ble_eq_true rfl) rfl ?_
        refine c249_1 (B := B) g0  (by omega) (hJ.up (by omega)) (by omega)  (fun v547 hv547 => ?_)
        show X (EE s) d 315 478 [(0, zr g0 44)] [zi v547] m _
        refine X.i2l 479 i315_478 rfl rfl ?_
        refine X.retl i315_479 rfl t315 ?_
        exact hQ v547 (by first | trivial | omega) 
      by_cases h548 : a1 = 16
      · refine X.tsIn 518 16 i315_110 rfl (by omega) rfl rfl ?_
        refine X.cut [] i315_518 rfl ?_
        refine X.ldc2 521 i315_518 rfl rfl (by decide) ?_
        refine X.retl i315_521 rfl t315 ?_
        exact hQ (-10000000000) (by first | trivial | omega) 
      by_cases h549 : a1 = 17
      · refine X.tsIn 518 17 i315_110 rfl (by omega) rfl rfl ?_
        refine X.cut [] i315_518 rfl ?_
        refine X.ldc2 521 i315_518 rfl rfl (by decide) ?_
        refine X.retl i315_521 rfl t315 ?_
        exact hQ (-10000000000) (by first | trivial | omega) 
      by_cases h550 : a1 = 18
      · refine X.tsIn 518 18 i315_110 rfl (by omega) rfl rfl ?_
        refine X.cut [] i315_518 rfl ?_
        refine X.ldc2 521 i315_518 rfl rfl (by decide) ?_
        refine X.retl i315_521 rfl t315 ?_
        exact hQ (-10000000000) (by first | trivial | omega) 
      by_cases h551 : a1 = 19
      · refine X.tsIn 518 19 i315_110 rfl (by omega) rfl rfl ?_
        refine X.cut [] i315_518 rfl ?_
        refine X.ldc2 521 i315_518 rfl rfl (by decide) ?_
        refine X.retl i315_521 rfl t315 ?_
        exact hQ (-10000000000) (by first | trivial | omega) 
      refine X.tsOut 518 i315_110 rfl (by omega) rfl ?_
      refine X.cut [] i315_518 rfl ?_
      refine X.ldc2 521 i315_518 rfl rfl (by decide) ?_
      refine X.retl i315_521 rfl t315 ?_
      exact hQ (-10000000000) (by first | trivial | omega) 
    · have h508c : a1 ≥ 20 := by omega
      clear h508 hz507
      refine X.lload_n 7 i204_6 rfl rfl rfl ?_
      refine X.lload 9 i204_7 rfl rfl rfl ?_
      refine X.lcmp 10 i204_9 rfl rfl (fun z552 hz552 => ?_)
      refine X.ifgt 17 13 i204_10 rfl rfl rfl (fun h553 => ?_) (fun h553 => ?_)
      · have h553c : a1 > 25 := by omega
        clear h553 hz552
        refine X.cut [] i204_17 rfl ?_
        refine X.iconst 18 i204_17 rfl rfl (by decide) ?_
        refine X.retz i204_18 rfl t204 (by omega) ?_
        show X (EE s) d 315 66 [(0, zr g0 44), (1, zi a1)] [zi 0] m _
        refine X.ifeq 81 69 i315_66 rfl rfl rfl (fun h554 => ?_) (fun h554 => (by exfalso; omega))
        refine X.iload_n 82 i315_81 rfl rfl rfl ?_
        refine X.i2l 83 i315_82 rfl rfl ?_
        refine X.ldc2 86 i315_83 rfl rfl (by decide) ?_
        refine X.ldc2 89 i315_86 rfl rfl (by decide) ?_
        refine X.calls 92 [zl a1, zl 50, zl 52] [] [(0, zl a1), (2, zl 50), (4, zl 52)] i315_89 (by decide) rfl rfl (by omega) rfl rfl t204 (Nat.le_of_ble_eq_true rfl) (Nat.le_of_ble_eq_true rfl) rfl ?_
        refine X.lload_n 1 i204_0 rfl rfl rfl ?_
        refine X.lload_n 2 i204_1 rfl rfl rfl ?_
        refine X.lcmp 3 i204_2 rfl rfl (fun z555 hz555 => ?_)
        refine X.iflt 17 6 i204_3 rfl rfl rfl (fun h556 => ?_) (fun h556 => (by exfalso; omega))
        have h556c : a1 < 50 := by omega
        clear h556 hz555
        refine X.cut [] i204_17 rfl ?_
        refine X.iconst 18 i204_17 rfl rfl (by decide) ?_
        refine X.retz i204_18 rfl t204 (by omega) ?_
        show X (EE s) d 315 92 [(0, zr g0 44), (1, zi a1)] [zi 0] m _
        refine X.ifeq 109 95 i315_92 rfl rfl rfl (fun h557 => ?_) (fun h557 => (by exfalso; omega))
        refine X.iload_n 110 i315_109 rfl rfl rfl ?_
        by_cases h558 : a1 = 26
        · refine X.tsIn 518 26 i315_110 rfl (by omega) rfl rfl ?_
          refine X.cut [] i315_518 rfl ?_
          refine X.ldc2 521 i315_518 rfl rfl (by decide) ?_
          refine X.retl i315_521 rfl t315 ?_
          exact hQ (-10000000000) (by first | trivial | omega) 
        by_cases h559 : a1 = 27
        · refine X.tsIn 518 27 i315_110 rfl (by omega) rfl rfl ?_
          refine X.cut [] i315_518 rfl ?_
          refine X.ldc2 521 i315_518 rfl rfl (by decide) ?_
          refine X.retl i315_521 rfl t315 ?_
          exact hQ (-10000000000) (by first | trivial | omega) 
        by_cases h560 : a1 = 28
        · refine X.tsIn 518 28 i315_110 rfl (by omega) rfl rfl ?_
          refine X.cut [] i315_518 rfl ?_
          refine X.ldc2 521 i315_518 rfl rfl (by decide) ?_
          refine X.retl i315_521 rfl t315 ?_
          exact hQ (-10000000000) (by first | trivial | omega) 
        by_cases h561 : a1 = 29
        · refine X.tsIn 518 29 i315_110 rfl (by omega) rfl rfl ?_
          refine X.cut [] i315_518 rfl ?_
          refine X.ldc2 521 i315_518 rfl rfl (by decide) ?_
          refine X.retl i315_521 rfl t315 ?_
          exact hQ (-10000000000) (by first | trivial | omega) 
        exfalso
        omega
      · have h553c : a1 ≤ 25 := by omega
        clear h553 hz552
        refine X.iconst 14 i204_13 rfl rfl (by decide) ?_
        refine X.goto 18 i204_14 rfl rfl ?_
        refine X.cut [] i204_18 rfl ?_
        refine X.retz i204_18 rfl t204 (by omega) ?_
        show X (EE s) d 315 66 [(0, zr g0 44), (1, zi a1)] [zi 1] m _
        refine X.ifeq 81 69 i315_66 rfl rfl rfl (fun h562 => (by exfalso; omega)) (fun h562 => ?_)
        refine X.aload_n 70 i315_69 rfl rfl rfl ?_
        refine X.getF 73 i315_70 rfl rfl (by decide) rfl rfl ?_
        refine X.iconst 74 i315_73 rfl rfl (by decide) ?_
        refine X.iload_n 75 i315_74 rfl rfl rfl ?_
        refine X.iadd 76 i315_75 rfl rfl (by omega) ?_
        refine X.bipush 78 i315_76 rfl rfl (by decide) ?_
        refine X.isub 79 i315_78 rfl rfl (by omega) ?_
        refine X.lald 80 i315_79 rfl rfl (by decide) rfl (by omega) ?_
        refine X.retl i315_80 rfl t315 ?_
        exact hQ (m 4 45 ((4 + a1) - 20)) (by first | trivial | omega) 
  · have h502c : a1 ≥ 30 := by omega
    clear h502 hz501
    refine X.lload_n 7 i204_6 rfl rfl rfl ?_
    refine X.lload 9 i204_7 rfl rfl rfl ?_
    refine X.lcmp 10 i204_9 rfl rfl (fun z563 hz563 => ?_)
    refine X.ifgt 17 13 i204_10 rfl rfl rfl (fun h564 => ?_) (fun h564 => ?_)
    · have h564c : a1 > 33 := by omega
      clear h564 hz563
      refine X.cut [] i204_17 rfl ?_
      refine X.iconst 18 i204_17 rfl rfl (by decide) ?_
      refine X.retz i204_18 rfl t204 (by omega) ?_
      show X (EE s) d 315 11 [(0, zr g0 44), (1, zi a1)] [zi 0] m _
      refine X.ifeq 27 14 i315_11 rfl rfl rfl (fun h565 => ?_) (fun h565 => (by exfalso; omega))
      refine X.iload_n 28 i315_27 rfl rfl rfl ?_
      refine X.i2l 29 i315_28 rfl rfl ?_
      refine X.ldc2 32 i315_29 rfl rfl (by decide) ?_
      refine X.ldc2 35 i315_32 rfl rfl (by decide) ?_
      refine X.calls 38 [zl a1, zl 40, zl 43] [] [(0, zl a1), (2, zl 40), (4, zl 43)] i315_35 (by decide) rfl rfl (by omega) rfl rfl t204 (Nat.le_of_ble_eq_true rfl) (Nat.le_of_ble_eq_true rfl) rfl ?_
      refine X.lload_n 1 i204_0 rfl rfl rfl ?_
      refine X.lload_n 2 i204_1 rfl rfl rfl ?_
      refine X.lcmp 3 i204_2 rfl rfl (fun z566 hz566 => ?_)
      refine X.iflt 17 6 i204_3 rfl rfl rfl (fun h567 => ?_) (fun h567 => ?_)
      · have h567c : a1 < 40 := by omega
        clear h567 hz566
        refine X.cut [] i204_17 rfl ?_
        refine X.iconst 18 i204_17 rfl rfl (by decide) ?_
        refine X.retz i204_18 rfl t204 (by omega) ?_
        show X (EE s) d 315 38 [(0, zr g0 44), (1, zi a1)] [zi 0] m _
        refine X.ifeq 55 41 i315_38 rfl rfl rfl (fun h568 => ?_) (fun h568 => (by exfalso; omega))
        refine X.iload_n 56 i315_55 rfl rfl rfl ?_
        refine X.i2l 57 i315_56 rfl rfl ?_
        refine X.ldc2 60 i315_57 rfl rfl (by decide) ?_
        refine X.ldc2 63 i315_60 rfl rfl (by decide) ?_
        refine X.calls 66 [zl a1, zl 20, zl 25] [] [(0, zl a1), (2, zl 20), (4, zl 25)] i315_63 (by decide) rfl rfl (by omega) rfl rfl t204 (Nat.le_of_ble_eq_true rfl) (Nat.le_of_ble_eq_true rfl) rfl ?_
        refine X.lload_n 1 i204_0 rfl rfl rfl ?_
        refine X.lload_n 2 i204_1 rfl rfl rfl ?_
        refine X.lcmp 3 i204_2 rfl rfl (fun z569 hz569 => ?_)
        refine X.iflt 17 6 i204_3 rfl rfl rfl (fun h570 => (by exfalso; omega)) (fun h570 => ?_)
        have h570c : a1 ≥ 20 := by omega
        clear h570 hz569
        refine X.lload_n 7 i204_6 rfl rfl rfl ?_
        refine X.lload 9 i204_7 rfl rfl rfl ?_
        refine X.lcmp 10 i204_9 rfl rfl (fun z571 hz571 => ?_)
        refine X.ifgt 17 13 i204_10 rfl rfl rfl (fun h572 => ?_) (fun h572 => (by exfalso; omega))
        have h572c : a1 > 25 := by omega
        clear h572 hz571
        refine X.cut [] i204_17 rfl ?_
        refine X.iconst 18 i204_17 rfl rfl (by decide) ?_
        refine X.retz i204_18 rfl t204 (by omega) ?_
        show X (EE s) d 315 66 [(0, zr g0 44), (1, zi a1)] [zi 0] m _
        refine X.ifeq 81 69 i315_66 rfl rfl rfl (fun h573 => ?_) (fun h573 => (by exfalso; omega))
        refine X.iload_n 82 i315_81 rfl rfl rfl ?_
        refine X.i2l 83 i315_82 rfl rfl ?_
        refine X.ldc2 86 i315_83 rfl rfl (by decide) ?_
        refine X.ldc2 89 i315_86 rfl rfl (by decide) ?_
        refine X.calls 92 [zl a1, zl 50, zl 52] [] [(0, zl a1), (2, zl 50), (4, zl 52)] i315_89 (by decide) rfl rfl (by omega) rfl rfl t204 (Nat.le_of_ble_eq_true rfl) (Nat.le_of_ble_eq_true rfl) rfl ?_
        refine X.lload_n 1 i204_0 rfl rfl rfl ?_
        refine X.lload_n 2 i204_1 rfl rfl rfl ?_
        refine X.lcmp 3 i204_2 rfl rfl (fun z574 hz574 => ?_)
        refine X.iflt 17 6 i204_3 rfl rfl rfl (fun h575 => ?_) (fun h575 => (by exfalso; omega))
        have h575c : a1 < 50 := by omega
        clear h575 hz574
        refine X.cut [] i204_17 rfl ?_
        refine X.iconst 18 i204_17 rfl rfl (by decide) ?_
        refine X.retz i204_18 rfl t204 (by omega) ?_
        show X (EE s) d 315 92 [(0, zr g0 44), (1, zi a1)] [zi 0] m _
        refine X.ifeq 109 95 i315_92 rfl rfl rfl (fun h576 => ?_) (fun h576 => (by exfalso; omega))
        refine X.iload_n 110 i315_109 rfl rfl rfl ?_
        by_cases h577 : a1 = 34
        · refine X.tsIn 518 34 i315_110 rfl (by omega) rfl rfl ?_
          refine X.cut [] i315_518 rfl ?_
          refine X.ldc2 521 i315_518 rfl rfl (by decide) ?_
          refine X.retl i315_521 rfl t315 ?_
          exact hQ (-10000000000) (by first | trivial | omega) 
        by_cases h578 : a1 = 35
        · refine X.tsIn 518 35 i315_110 rfl (by omega) rfl rfl ?_
          refine X.cut [] i315_518 rfl ?_
          refine X.ldc2 521 i315_518 rfl rfl (by decide) ?_
          refine X.retl i315_521 rfl t315 ?_
          exact hQ (-10000000000) (by first | trivial | omega) 
        by_cases h579 : a1 = 36
        · refine X.tsIn 518 36 i315_110 rfl (by omega) rfl rfl ?_
          refine X.cut [] i315_518 rfl ?_
          refine X.ldc2 521 i315_518 rfl rfl (by decide) ?_
          refine X.retl i315_521 rfl t315 ?_
          exact hQ (-10000000000) (by first | trivial | omega) 
        by_cases h580 : a1 = 37
        · refine X.tsIn 518 37 i315_110 rfl (by omega) rfl rfl ?_
          refine X.cut [] i315_518 rfl ?_
          refine X.ldc2 521 i315_518 rfl rfl (by decide) ?_
          refine X.retl i315_521 rfl t315 ?_
          exact hQ (-10000000000) (by first | trivial | omega) 
        by_cases h581 : a1 = 38
        · refine X.tsIn 518 38 i315_110 rfl (by omega) rfl rfl ?_
          refine X.cut [] i315_518 rfl ?_
          refine X.ldc2 521 i315_518 rfl rfl (by decide) ?_
          refine X.retl i315_521 rfl t315 ?_
          exact hQ (-10000000000) (by first | trivial | omega) 
        by_cases h582 : a1 = 39
        · refine X.tsIn 518 39 i315_110 rfl (by omega) rfl rfl ?_
          refine X.cut [] i315_518 rfl ?_
          refine X.ldc2 521 i315_518 rfl rfl (by decide) ?_
          refine X.retl i315_521 rfl t315 ?_
          exact hQ (-10000000000) (by first | trivial | omega) 
        exfalso
        omega
      · have h567c : a1 ≥ 40 := by omega
        clear h567 hz566
        refine X.lload_n 7 i204_6 rfl rfl rfl ?_
        refine X.lload 9 i204_7 rfl rfl rfl ?_
        refine X.lcmp 10 i204_9 rfl rfl (fun z583 hz583 => ?_)
        refine X.ifgt 17 13 i204_10 rfl rfl rfl (fun h584 => ?_) (fun h584 => ?_)
        · have h584c : a1 > 43 := by omega
          clear h584 hz583
          refine X.cut [] i204_17 rfl ?_
          refine X.iconst 18 i204_17 rfl rfl (by decide) ?_
          refine X.retz i204_18 rfl t204 (by omega) ?_
          show X (EE s) d 315 38 [(0, zr g0 44), (1, zi a1)] [zi 0] m _
          refine X.ifeq 55 41 i315_38 rfl rfl rfl (fun h585 => ?_) (fun h585 => (by exfalso; omega))
          refine X.iload_n 56 i315_55 rfl rfl rfl ?_
          refine X.i2l 57 i315_56 rfl rfl ?_
          refine X.ldc2 60 i315_57 rfl rfl (by decide) ?_
          refine X.ldc2 63 i315_60 rfl rfl (by decide) ?_
          refine X.calls 66 [zl a1, zl 20, zl 25] [] [(0, zl a1), (2, zl 20), (4, zl 25)] i315_63 (by decide) rfl rfl (by omega) rfl rfl t204 (Nat.le_of_ble_eq_true rfl) (Nat.le_of_ble_eq_true rfl) rfl ?_
          refine X.lload_n 1 i204_0 rfl rfl rfl ?_
          refine X.lload_n 2 i204_1 rfl rfl rfl ?_
          refine X.lcmp 3 i204_2 rfl rfl (fun z586 hz586 => ?_)
          refine X.iflt 17 6 i204_3 rfl rfl rfl (fun h587 => (by exfalso; omega)) (fun h587 => ?_)
          have h587c : a1 ≥ 20 := by omega
          clear h587 hz586
          refine X.lload_n 7 i204_6 rfl rfl rfl ?_
          refine X.lload 9 i204_7 rfl rfl rfl ?_
          refine X.lcmp 10 i204_9 rfl rfl (fun z588 hz588 => ?_)
          refine X.ifgt 17 13 i204_10 rfl rfl rfl (fun h589 => ?_) (fun h589 => (by exfalso; omega))
          have h589c : a1 > 25 := by omega
          clear h589 hz588
          refine X.cut [] i204_17 rfl ?_
          refine X.iconst 18 i204_17 rfl rfl (by decide) ?_
          refine X.retz i204_18 rfl t204 (by omega) ?_
          show X (EE s) d 315 66 [(0, zr g0 44), (1, zi a1)] [zi 0] m _
          refine X.ifeq 81 69 i315_66 rfl rfl rfl (fun h590 => ?_) (fun h590 => (by exfalso; omega))
          refine X.iload_n 82 i315_81 rfl rfl rfl ?_
          refine X.i2l 83 i315_82 rfl rfl ?_
          refine X.ldc2 86 i315_83 rfl rfl (by decide) ?_
          refine X.ldc2 89 i315_86 rfl rfl (by decide) ?_
          refine X.calls 92 [zl a1, zl 50, zl 52] [] [(0, zl a1), (2, zl 50), (4, zl 52)] i315_89 (by decide) rfl rfl (by omega) rfl rfl t204 (Nat.le_of_ble_eq_true rfl) (Nat.le_of_ble_eq_true rfl) rfl ?_
          refine X.lload_n 1 i204_0 rfl rfl rfl ?_
          refine X.lload_n 2 i204_1 rfl rfl rfl ?_
          refine X.lcmp 3 i204_2 rfl rfl (fun z591 hz591 => ?_)
          refine X.iflt 17 6 i204_3 rfl rfl rfl (fun h592 => ?_) (fun h592 => ?_)
          · have h592c : a1 < 50 := by omega
            clear h592 hz591
            refine X.cut [] i204_17 rfl ?_
            refine X.iconst 18 i204_17 rfl rfl (by decide) ?_
            refine X.retz i204_18 rfl t204 (by omega) ?_
            show X (EE s) d 315 92 [(0, zr g0 44), (1, zi a1)] [zi 0] m _
            refine X.ifeq 109 95 i315_92 rfl rfl rfl (fun h593 => ?_) (fun h593 => (by exfalso; omega))
            refine X.iload_n 110 i315_109 rfl rfl rfl ?_
            by_cases h594 : a1 = 44
            · refine X.tsIn 518 44 i315_110 rfl (by omega) rfl rfl ?_
              refine X.cut [] i315_518 rfl ?_
              refine X.ldc2 521 i315_518 rfl rfl (by decide) ?_
              refine X.retl i315_521 rfl t315 ?_
              exact hQ (-10000000000) (by first | trivial | omega) 
            by_cases h595 : a1 = 45
            · refine X.tsIn 518 45 i315_110 rfl (by omega) rfl rfl ?_
              refine X.cut [] i315_518 rfl ?_
              refine X.ldc2 521 i315_518 rfl rfl (by decide) ?_
              refine X.retl i315_521 rfl t315 ?_
              exact hQ (-10000000000) (by first | trivial | omega) 
            by_cases h596 : a1 = 46
            · refine X.tsIn 518 46 i315_110 rfl (by omega) rfl rfl ?_
              refine X.cut [] i315_518 rfl ?_
              refine X.ldc2 521 i315_518 rfl rfl (by decide) ?_
              refine X.retl i315_521 rfl t315 ?_
              exact hQ (-10000000000) (by first | trivial | omega) 
            by_cases h597 : a1 = 47
            · refine X.tsIn 518 47 i315_110 rfl (by omega) rfl rfl ?_
              refine X.cut [] i315_518 rfl ?_
              refine X.ldc2 521 i315_518 rfl rfl (by decide) ?_
              refine X.retl i315_521 rfl t315 ?_
              exact hQ (-10000000000) (by first | trivial | omega) 
            by_cases h598 : a1 = 48
            · refine X.tsIn 518 48 i315_110 rfl (by omega) rfl rfl ?_
              refine X.cut [] i315_518 rfl ?_
              refine X.ldc2 521 i315_518 rfl rfl (by decide) ?_
              refine X.retl i315_521 rfl t315 ?_
              exact hQ (-10000000000) (by first | trivial | omega) 
            by_cases h599 : a1 = 49
            · refine X.tsIn 518 49 i315_110 rfl (by omega) rfl rfl ?_
              refine X.cut [] i315_518 rfl ?_
              refine X.ldc2 521 i315_518 rfl rfl (by decide) ?_
              refine X.retl i315_521 rfl t315 ?_
              exact hQ (-10000000000) (by first | trivial | omega) 
            exfalso
            omega
          · have h592c : a1 ≥ 50 := by omega
            clear h592 hz591
            refine X.lload_n 7 i204_6 rfl rfl rfl ?_
            refine X.lload 9 i204_7 rfl rfl rfl ?_
            refine X.lcmp 10 i204_9 rfl rfl (fun z600 hz600 => ?_)
            refine X.ifgt 17 13 i204_10 rfl rfl rfl (fun h601 => ?_) (fun h601 => ?_)
            · have h601c : a1 > 52 := by omega
              clear h601 hz600
              refine X.cut [] i204_17 rfl ?_
              refine X.iconst 18 i204_17 rfl rfl (by decide) ?_
              refine X.retz i204_18 rfl t204 (by omega) ?_
              show X (EE s) d 315 92 [(0, zr g0 44), (1, zi a1)] [zi 0] m _
              refine X.ifeq 109 95 i315_92 rfl rfl rfl (fun h602 => ?_) (fun h602 => (by exfalso; omega))
              refine X.iload_n 110 i315_109 rfl rfl rfl ?_
              by_cases h603 : a1 = 53
              · refine X.tsIn 480 53 i315_110 rfl (by omega) rfl rfl ?_
                refine X.cut [(0, zr g0 44)] i315_480 rfl ?_
                refine X.aload_n 481 i315_480 rfl rfl rfl ?_
                refine X.getF 484 i315_481 rfl rfl (by decide) rfl rfl ?_
                refine X.sipush 487 i315_484 rfl rfl (by decide) ?_
                refine X.lald 488 i315_487 rfl rfl (by decide) rfl (by omega) ?_
                have h604 := r45_1614 hJ 4
                refine X.retl i315_488 rfl t315 ?_
                exact hQ (m 4 45 1614) (by first | trivial | omega) 
              by_cases h605 : a1 = 54
              · refine X.tsIn 489 54 i315_110 rfl (by omega) rfl rfl ?_
                refine X.cut [(0, zr g0 44)] i315_489 rfl ?_
                refine X.aload_n 490 i315_489 rfl rfl rfl ?_
                refine X.getF 493 i315_490 rfl rfl (by decide) rfl rfl ?_
                refine X.sipush 496 i315_493 rfl rfl (by decide) ?_
                refine X.lald 497 i315_496 rfl rfl (by decide) rfl (by omega) ?_
                refine X.retl i315_497 rfl t315 ?_
                exact hQ (m 4 45 1616) (by first | trivial | omega) 
              by_cases h606 : a1 = 55
              · refine X.tsIn 498 55 i315_110 rfl (by omega) rfl rfl ?_
                refine X.cut [(0, zr g0 44)] i315_498 rfl ?_
                refine X.aload_n 499 i315_498 rfl rfl rfl ?_
                refine X.callv 502 [] [] [(0, zr g0 44)] i315_499 rfl (by decide) rfl rfl (by omega) rfl rfl (by decide) rfl t278 (Nat.le_of_ble_eq_true rfl) (Nat.le_of_ble_eq_true rfl) rfl ?_
                refine X.aload_n 1 i278_0 rfl rfl rfl ?_
                refine X.getF 4 i278_1 rfl rfl (by decide) rfl rfl ?_
                refine X.sipush 7 i278_4 rfl rfl (by decide) ?_
                refine X.lald 8 i278_7 rfl rfl (by decide) rfl (by omega) ?_
                refine X.aload_n 9 i278_8 rfl rfl rfl ?_
                refine X.getF 12 i278_9 rfl rfl (by decide) rfl rfl ?_
                refine X.iconst 13 i278_12 rfl rfl (by decide) ?_
                refine X.lald 14 i278_13 rfl rfl (by decide) rfl (by omega) ?_
                have h607 := r45_0 hJ 4
                refine X.lcmp 15 i278_14 rfl rfl (fun z608 hz608 => ?_)
                refine X.ifle 36 18 i278_15 rfl rfl rfl (fun h609 => ?_) (fun h609 => ?_)
                · have h609c : (m 4 45 1617) ≤ (m 4 45 0) := by omega
                  clear h609 hz608
                  refine X.cut [] i278_36 rfl ?_
                  refine X.lconst (y := 0) 37 i278_36 rfl rfl rfl ?_
                  refine X.retl i278_37 rfl t278 ?_
                  show X (EE s) d 315 502 [(0, zr g0 44)] [zl 0] m _
                  refine X.retl i315_502 rfl t315 ?_
                  exact hQ 0 (by first | trivial | omega) 
                · have h609c : (m 4 45 1617) > (m 4 45 0) := by omega
                  clear h609 hz608
                  refine X.aload_n 19 i278_18 rfl rfl rfl ?_
                  refine X.getF 22 i278_19 rfl rfl (by decide) rfl rfl ?_
                  refine X.sipush 25 i278_22 rfl rfl (by decide) ?_
                  refine X.lald 26 i278_25 rfl rfl (by decide) rfl (by omega) ?_
                  refine X.aload_n 27 i278_26 rfl rfl rfl ?_
                  refine X.getF 30 i278_27 rfl rfl (by decide) rfl rfl ?_
                  refine X.iconst 31 i278_30 rfl rfl (by decide) ?_
                  refine X.lald 32 i278_31 rfl rfl (by decide) rfl (by omega) ?_
                  refine X.llF 33 .lsub (fun x y => x - y) i278_32 rfl rfl rfl (fun _ _ => rfl) (fun z610 hz610 => ?_)
                  refine X.goto 37 i278_33 rfl rfl ?_
                  refine X.cut [] i278_37 rfl ?_
                  refine X.retl i278_37 rfl t278 ?_
                  show X (EE s) d 315 502 [(0, zr g0 44)] [zl z610] m _
                  refine X.retl i315_502 rfl t315 ?_
                  exact hQ z610 (by first | trivial | omega) 
              by_cases h611 : a1 = 56
              · refine X.tsIn 503 56 i315_110 rfl (by omega) rfl rfl ?_
                refine X.cut [(0, zr g0 44)] i315_503 rfl ?_
                refine X.aload_n 504 i315_503 rfl rfl rfl ?_
                refine X.getF 507 i315_504 rfl rfl (by decide) rfl rfl ?_
                refine X.sipush 510 i315_507 rfl rfl (by decide) ?_
                refine X.lald 511 i315_510 rfl rfl (by decide) rfl (by omega) ?_
                refine X.retl i315_511 rfl t315 ?_
                exact hQ (m 4 45 1618) (by first | trivial | omega) 
              by_cases h612 : a1 = 57
              · refine X.tsIn 512 57 i315_110 rfl (by omega) rfl rfl ?_
                refine X.cut [(0, zr g0 44)] i315_512 rfl ?_
                refine X.aload_n 513 i315_512 rfl rfl rfl ?_
                refine X.getI 516 5 i315_513 rfl rfl (by decide) rfl rfl rfl ?_
                have h613 := r44_5 hJ g0
                refine X.i2l 517 i315_516 rfl rfl ?_
                refine X.retl i315_517 rfl t315 ?_
                exact hQ (m g0 44 5) (by first | trivial | omega) 
              refine X.tsOut 518 i315_110 rfl (by omega) rfl ?_
              refine X.cut [] i315_518 rfl ?_
              refine X.ldc2 521 i315_518 rfl rfl (by decide) ?_
              refine X.retl i315_521 rfl t315 ?_
              exact hQ (-10000000000) (by first | trivial | omega) 
            · have h601c : a1 ≤ 52 := by omega
              clear h601 hz600
              refine X.iconst 14 i204_13 rfl rfl (by decide) ?_
              refine X.goto 18 i204_14 rfl rfl ?_
              refine X.cut [] i204_18 rfl ?_
              refine X.retz i204_18 rfl t204 (by omega) ?_
              show X (EE s) d 315 92 [(0, zr g0 44), (1, zi a1)] [zi 1] m _
              refine X.ifeq 109 95 i315_92 rfl rfl rfl (fun h614 => (by exfalso; omega)) (fun h614 => ?_)
              refine X.aload_n 96 i315_95 rfl rfl rfl ?_
              refine X.getF 99 i315_96 rfl rfl (by decide) rfl rfl ?_
              refine X.sipush 102 i315_99 rfl rfl (by decide) ?_
              refine X.iload_n 103 i315_102 rfl rfl rfl ?_
              refine X.iadd 104 i315_103 rfl rfl (by omega) ?_
              refine X.bipush 106 i315_104 rfl rfl (by decide) ?_
              refine X.isub 107 i315_106 rfl rfl (by omega) ?_
              refine X.lald 108 i315_107 rfl rfl (by decide) rfl (by omega) ?_
              refine X.retl i315_108 rfl t315 ?_
              exact hQ (m 4 45 ((1611 + a1) - 50)) (by first | trivial | omega) 
        · have h584c : a1 ≤ 43 := by omega
          clear h584 hz583
          refine X.iconst 14 i204_13 rfl rfl (by decide) ?_
          refine X.goto 18 i204_14 rfl rfl ?_
          refine X.cut [] i204_18 rfl ?_
          refine X.retz i204_18 rfl t204 (by omega) ?_
          show X (EE s) d 315 38 [(0, zr g0 44), (1, zi a1)] [zi 1] m _
          refine X.ifeq 55 41 i315_38 rfl rfl rfl (fun h615 => (by exfalso; omega)) (fun h615 => ?_)
          refine X.aload_n 42 i315_41 rfl rfl rfl ?_
          refine X.getF 45 i315_42 rfl rfl (by decide) rfl rfl ?_
          refine X.sipush 48 i315_45 rfl rfl (by decide) ?_
          refine X.iload_n 49 i315_48 rfl rfl rfl ?_
          refine X.iadd 50 i315_49 rfl rfl (by omega) ?_
          refine X.bipush 52 i315_50 rfl rfl (by decide) ?_
          refine X.isub 53 i315_52 rfl rfl (by omega) ?_
          refine X.lald 54 i315_53 rfl rfl (by decide) rfl (by omega) ?_
          have h616 := r45_391 hJ 4 (i := ((391 + a1) - 40)) (by omega)
          refine X.retl i315_54 rfl t315 ?_
          exact hQ (m 4 45 ((391 + a1) - 40)) (by first | trivial | omega) 
    · have h564c : a1 ≤ 33 := by omega
      clear h564 hz563
      refine X.iconst 14 i204_13 rfl rfl (by decide) ?_
      refine X.goto 18 i204_14 rfl rfl ?_
      refine X.cut [] i204_18 rfl ?_
      refine X.retz i204_18 rfl t204 (by omega) ?_
      show X (EE s) d 315 11 [(0, zr g0 44), (1, zi a1)] [zi 1] m _
      refine X.ifeq 27 14 i315_11 rfl rfl rfl (fun h617 => (by exfalso; omega)) (fun h617 => ?_)
      refine X.aload_n 15 i315_14 rfl rfl rfl ?_
      refine X.getF 18 i315_15 rfl rfl (by decide) rfl rfl ?_
      refine X.bipush 20 i315_18 rfl rfl (by decide) ?_
      refine X.iload_n 21 i315_20 rfl rfl rfl ?_
      refine X.iadd 22 i315_21 rfl rfl (by omega) ?_
      refine X.bipush 24 i315_22 rfl rfl (by decide) ?_
      refine X.isub 25 i315_24 rfl rfl (by omega) ?_
      refine X.lald 26 i315_25 rfl rfl (by decide) rfl (by omega) ?_
      refine X.retl i315_26 rfl t315 ?_
      exact hQ (m 4 45 ((28 + a1) - 30)) (by first | trivial | omega) 
