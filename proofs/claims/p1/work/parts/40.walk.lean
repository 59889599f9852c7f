theorem l202_67_1 {s : Nat × (Nat → Int32)} {m0 : zM} {d : Nat} {Q : Option zV → zM → Prop} (g0 : Nat) (BE : Int) (hE : BE ≤ 1000000000) (hd : 13 ≤ d)
    (K87 : ∀ (m' : zM) (B' : Int), J m0 B' m' → B' ≤ BE → X (EE s) d 202 87 [] [] m' Q) :
    ∀ (n : Nat) (y3 : Int) (m : zM) (B : Int), J m0 B m → B + 1 * (n : Int) ≤ BE → (95 ≤ y3 ∧ y3 ≤ 191) → 191 - y3 < (n : Int) → X (EE s) d 202 67 [(0, zr g0 44), (3, zi y3)] [] m Q := by
  intro n
  induction n with
  | zero =>
    intro y3 m B hJ hB hy3 hn
    exfalso
    omega
  | succ n ih =>
    intro y3 m B hJ hB hy3 hn
    refine X.iload_n 68 i202_67 rfl rfl rfl ?_
    refine X.sipush 71 i202_68 rfl rfl (by decide) ?_
    refine X.icmpge 87 74 i202_71 rfl rfl rfl (fun h33 => ?_) (fun h33 => ?_)
    · refine X.cut [] i202_87 rfl ?_
      exact K87  m (B) hJ (by omega) 
    · refine X.aload_n 75 i202_74 rfl rfl rfl ?_
      refine X.getF 78 i202_75 rfl rfl (by decide) rfl rfl ?_
      refine X.iload_n 79 i202_78 rfl rfl rfl ?_
      refine X.lconst (y := 0) 80 i202_79 rfl rfl rfl ?_
      refine X.last' 81 i202_80 rfl rfl (by decide) rfl (by omega) (fun hrm34 m34 hm34 => ?_)
      have hJ35 := w45_19 hJ hm34 (by omega) hrm34
      refine X.iinc 84 [(0, zr g0 44), (3, zi (y3 + 1))] i202_81 rfl rfl rfl (by omega) rfl ?_
      refine X.goto 67 i202_84 rfl rfl ?_
      exact ih (y3 + 1) m34 (B) hJ35 (by omega) (by omega) (by omega)
-- WorkMeterModel.phases
theorem c202_1 {s : Nat × (Nat → Int32)} {m0 m : zM} {B : Int} {d : Nat} {Q : Option zV → zM → Prop} (g0 : Nat) (a1 a2 : Int) (hd : 13 ≤ d) (hJ : J m0 B m) (hB : B + 97 ≤ 1000000000) (ha1 : (-2147483648) ≤ a1 ∧ a1 ≤ 2147483647) (ha2 : (-2147483648) ≤ a2 ∧ a2 ≤ 2147483647) (hQ : ∀ (v : Int) m', (0 ≤ v ∧ v ≤ 1) → J m0 (B + 97) m' → Q (some (zi v)) m') : X (EE s) d 202 0 [(0, zr g0 44), (1, zi a1), (2, zi a2)] [] m Q := by
  refine X.aload_n 1 i202_0 rfl rfl rfl ?_
  refine X.callv 4 [] [] [(0, zr g0 44)] i202_1 rfl (by decide) rfl rfl (by omega) rfl rfl (by decide) rfl t203 (Nat.le_of_ble_eq_true rfl) (Nat.le_of_ble_eq_true rfl) rfl ?_
  refine X.aload_n 1 i203_0 rfl rfl rfl ?_
  refine X.getF 4 i203_1 rfl rfl (by decide) rfl rfl ?_
  refine X.sipush 7 i203_4 rfl rfl (by decide) ?_
  refine X.dup2 8 i203_7 rfl rfl ?_
  refine X.lald 9 i203_8 rfl rfl (by decide) rfl (by omega) ?_
  refine X.aload_n 10 i203_9 rfl rfl rfl ?_
  refine X.getF 13 i203_10 rfl rfl (by decide) rfl rfl ?_
  refine X.sipush 16 i203_13 rfl rfl (by decide) ?_
  refine X.lald 17 i203_16 rfl rfl (by decide) rfl (by omega) ?_
  have h1 := r45_1614 hJ 4
  refine X.llF 18 .ladd (fun x y => x + y) i203_17 rfl rfl rfl (fun _ _ => rfl) (fun z2 hz2 => ?_)
  refine X.last' 19 i203_18 rfl rfl (by decide) rfl (by omega) (fun hrm3 m3 hm3 => ?_)
  have hJ4 := w45_1615 hJ hm3 (by omega) hrm3
  refine X.aload_n 20 i203_19 rfl rfl rfl ?_
  refine X.getF 23 i203_20 rfl rfl (by decide) rfl rfl ?_
  refine X.sipush 26 i203_23 rfl rfl (by decide) ?_
  refine X.lald 27 i203_26 rfl rfl (by decide) rfl (by omega) ?_
  have h5 := r45_1614 hJ4 4
  refine X.lconst (y := 1) 28 i203_27 rfl rfl rfl ?_
  refine X.lcmp 29 i203_28 rfl rfl (fun z6 hz6 => ?_)
  refine X.ifne 36 32 i203_29 rfl rfl rfl (fun h7 => ?_) (fun h7 => ?_)
  · have h7c : (m3 4 45 1614) ≠ 1 := by omega
    clear h7 hz6
    refine X.cut [] i203_36 rfl ?_
    refine X.iconst 37 i203_36 rfl rfl (by decide) ?_
    refine X.retz i203_37 rfl t203 (by omega) ?_
    show X (EE s) d 202 4 [(0, zr g0 44), (1, zi a1), (2, zi a2)] [zi 0] m3 _
    refine X.ifne 39 7 i202_4 rfl rfl rfl (fun h8 => (by exfalso; omega)) (fun h8 => ?_)
    refine X.iload_n 8 i202_7 rfl rfl rfl ?_
    refine X.i2l 9 i202_8 rfl rfl ?_
    refine X.lconst (y := 1) 10 i202_9 rfl rfl rfl ?_
    refine X.ldc2 13 i202_10 rfl rfl (by decide) ?_
    refine X.calls 16 [zl a1, zl 1, zl 3] [] [(0, zl a1), (2, zl 1), (4, zl 3)] i202_13 (by decide) rfl rfl (by omega) rfl rfl t204 (Nat.le_of_ble_eq_true rfl) (Nat.le_of_ble_eq_true rfl) rfl ?_
    refine X.lload_n 1 i204_0 rfl rfl rfl ?_
    refine X.lload_n 2 i204_1 rfl rfl rfl ?_
    refine X.lcmp 3 i204_2 rfl rfl (fun z9 hz9 => ?_)
    refine X.iflt 17 6 i204_3 rfl rfl rfl (fun h10 => ?_) (fun h10 => ?_)
    · have h10c : a1 < 1 := by omega
      clear h10 hz9
      refine X.cut [] i204_17 rfl ?_
      refine X.iconst 18 i204_17 rfl rfl (by decide) ?_
      refine X.retz i204_18 rfl t204 (by omega) ?_
      show X (EE s) d 202 16 [(0, zr g0 44), (1, zi a1), (2, zi a2)] [zi 0] m3 _
      refine X.ifeq 39 19 i202_16 rfl rfl rfl (fun h11 => ?_) (fun h11 => (by exfalso; omega))
      refine X.cut [] i202_39 rfl ?_
      refine X.iconst 40 i202_39 rfl rfl (by decide) ?_
      refine X.retz i202_40 rfl t202 (by omega) ?_
      exact hQ 0 m3 (by omega) (hJ4.up (by omega))
    · have h10c : a1 ≥ 1 := by omega
      clear h10 hz9
      refine X.lload_n 7 i204_6 rfl rfl rfl ?_
      refine X.lload 9 i204_7 rfl rfl rfl ?_
      refine X.lcmp 10 i204_9 rfl rfl (fun z12 hz12 => ?_)
      refine X.ifgt 17 13 i204_10 rfl rfl rfl (fun h13 => ?_) (fun h13 => ?_)
      · have h13c : a1 > 3 := by omega
        clear h13 hz12
        refine X.cut [] i204_17 rfl ?_
        refine X.iconst 18 i204_17 rfl rfl (by decide) ?_
        refine X.retz i204_18 rfl t204 (by omega) ?_
        show X (EE s) d 202 16 [(0, zr g0 44), (1, zi a1), (2, zi a2)] [zi 0] m3 _
        refine X.ifeq 39 19 i202_16 rfl rfl rfl (fun h14 => ?_) (fun h14 => (by exfalso; omega))
        refine X.cut [] i202_39 rfl ?_
        refine X.iconst 40 i202_39 rfl rfl (by decide) ?_
        refine X.retz i202_40 rfl t202 (by omega) ?_
        exact hQ 0 m3 (by omega) (hJ4.up (by omega))
      · have h13c : a1 ≤ 3 := by omega
        clear h13 hz12
        refine X.iconst 14 i204_13 rfl rfl (by decide) ?_
        refine X.goto 18 i204_14 rfl rfl ?_
        refine X.cut [] i204_18 rfl ?_
        refine X.retz i204_18 rfl t204 (by omega) ?_
        show X (EE s) d 202 16 [(0, zr g0 44), (1, zi a1), (2, zi a2)] [zi 1] m3 _
        refine X.ifeq 39 19 i202_16 rfl rfl rfl (fun h15 => (by exfalso; omega)) (fun h15 => ?_)
        refine X.iload_n 20 i202_19 rfl rfl rfl ?_
        refine X.i2l 21 i202_20 rfl rfl ?_
        refine X.ldc2 24 i202_21 rfl rfl (by decide) ?_
        refine X.ldc2 27 i202_24 rfl rfl (by decide) ?_
        refine X.calls 30 [zl a2, zl 4, zl 16] [] [(0, zl a2), (2, zl 4), (4, zl 16)] i202_27 (by decide) rfl rfl (by omega) rfl rfl t204 (Nat.le_of_ble_eq_true rfl) (Nat.le_of_ble_eq_true rfl) rfl ?_
        refine X.lload_n 1 i204_0 rfl rfl rfl ?_
        refine X.lload_n 2 i204_1 rfl rfl rfl ?_
        refine X.lcmp 3 i204_2 rfl rfl (fun z16 hz16 => ?_)
        refine X.iflt 17 6 i204_3 rfl rfl rfl (fun h17 => ?_) (fun h17 => ?_)
        · have h17c : a2 < 4 := by omega
          clear h17 hz16
          refine X.cut [] i204_17 rfl ?_
          refine X.iconst 18 i204_17 rfl rfl (by decide) ?_
          refine X.retz i204_18 rfl t204 (by omega) ?_
          show X (EE s) d 202 30 [(0, zr g0 44), (1, zi a1), (2, zi a2)] [zi 0] m3 _
          refine X.ifeq 39 33 i202_30 rfl rfl rfl (fun h18 => ?_) (fun h18 => (by exfalso; omega))
          refine X.cut [] i202_39 rfl ?_
          refine X.iconst 40 i202_39 rfl rfl (by decide) ?_
          refine X.retz i202_40 rfl t202 (by omega) ?_
          exact hQ 0 m3 (by omega) (hJ4.up (by omega))
        · have h17c : a2 ≥ 4 := by omega
          clear h17 hz16
          refine X.lload_n 7 i204_6 rfl rfl rfl ?_
          refine X.lload 9 i204_7 rfl rfl rfl ?_
          refine X.lcmp 10 i204_9 rfl rfl (fun z19 hz19 => ?_)
          refine X.ifgt 17 13 i204_10 rfl rfl rfl (fun h20 => ?_) (fun h20 => ?_)
          · have h20c : a2 > 16 := by omega
            clear h20 hz19
            refine X.cut [] i204_17 rfl ?_
            refine X.iconst 18 i204_17 rfl rfl (by decide) ?_
            refine X.retz i204_18 rfl t204 (by omega) ?_
            show X (EE s) d 202 30 [(0, zr g0 44), (1, zi a1), (2, zi a2)] [zi 0] m3 _
            refine X.ifeq 39 33 i202_30 rfl rfl rfl (fun h21 => ?_) (fun h21 => (by exfalso; omega))
            refine X.cut [] i202_39 rfl ?_
            refine X.iconst 40 i202_39 rfl rfl (by decide) ?_
            refine X.retz i202_40 rfl t202 (by omega) ?_
            exact hQ 0 m3 (by omega) (hJ4.up (by omega))
          · have h20c : a2 ≤ 16 := by omega
            clear h20 hz19
            refine X.iconst 14 i204_13 rfl rfl (by decide) ?_
            refine X.goto 18 i204_14 rfl rfl ?_
            refine X.cut [] i204_18 rfl ?_
            refine X.retz i204_18 rfl t204 (by omega) ?_
            show X (EE s) d 202 30 [(0, zr g0 44), (1, zi a1), (2, zi a2)] [zi 1] m3 _
            refine X.ifeq 39 33 i202_30 rfl rfl rfl (fun h22 => (by exfalso; omega)) (fun h22 => ?_)
            refine X.iload_n 34 i202_33 rfl rfl rfl ?_
            refine X.iconst 35 i202_34 rfl rfl (by decide) ?_
            refine X.irem 36 i202_35 rfl rfl (by omega) ?_
            refine X.ifeq 41 39 i202_36 rfl rfl rfl (fun h23 => ?_) (fun h23 => ?_)
            · refine X.aload_n 42 i202_41 rfl rfl rfl ?_
              refine X.getF 45 i202_42 rfl rfl (by decide) rfl rfl ?_
              refine X.iconst 46 i202_45 rfl rfl (by decide) ?_
              refine X.iload_n 47 i202_46 rfl rfl rfl ?_
              refine X.i2l 48 i202_47 rfl rfl ?_
              refine X.last' 49 i202_48 rfl rfl (by decide) rfl (by omega) (fun hrm24 m24 hm24 => ?_)
              have hJ25 := w45_1 hJ4 hm24 (by omega)
              refine X.aload_n 50 i202_49 rfl rfl rfl ?_
              refine X.getF 53 i202_50 rfl rfl (by decide) rfl rfl ?_
              refine X.iconst 54 i202_53 rfl rfl (by decide) ?_
              refine X.iload_n 55 i202_54 rfl rfl rfl ?_
              refine X.i2l 56 i202_55 rfl rfl ?_
              refine X.last' 57 i202_56 rfl rfl (by decide) rfl (by omega) (fun hrm26 m26 hm26 => ?_)
              have hJ27 := w45_2 hJ25 hm26 (by omega)
              refine X.aload_n 58 i202_57 rfl rfl rfl ?_
              refine X.getF 61 i202_58 rfl rfl (by decide) rfl rfl ?_
              refine X.iconst 62 i202_61 rfl rfl (by decide) ?_
              refine X.lconst (y := 0) 63 i202_62 rfl rfl rfl ?_
              refine X.last' 64 i202_63 rfl rfl (by decide) rfl (by omega) (fun hrm28 m28 hm28 => ?_)
              have hJ29 := w45_3 hJ27 hm28 (by omega)
              refine X.bipush 66 i202_64 rfl rfl (by decide) ?_
              refine X.istore_n 67 [(0, zr g0 44), (1, zi a1), (2, zi a2), (3, zi 95)] i202_66 rfl rfl rfl ?_
              refine X.cut [(0, zr g0 44), (3, zi 95)] i202_67 rfl ?_
              refine l202_67_1 (s := s) (m0 := m0) (d := d) g0  (BE := B + 97) (by omega) (by omega) (fun  m36 B37 hJ38 hBB37 => ?_) ((191 - 95).toNat + 1) 95 m28 (B) hJ29 (by omega) (by omega) (by omega)
              refine X.iconst 88 i202_87 rfl rfl (by decide) ?_
              refine X.retz i202_88 rfl t202 (by omega) ?_
              exact hQ 1 m36 (by omega) (hJ38.up (by omega))
            · refine X.cut [] i202_39 rfl ?_
              refine X.iconst 40 i202_39 rfl rfl (by decide) ?_
              refine X.retz i202_40 rfl t202 (by omega) ?_
              exact hQ 0 m3 (by omega) (hJ4.up (by omega))
  · have h7c : (m3 4 45 1614) = 1 := by omega
    clear h7 hz6
    refine X.iconst 33 i203_32 rfl rfl (by decide) ?_
    refine X.goto 37 i203_33 rfl rfl ?_
    refine X.cut [] i203_37 rfl ?_
    refine X.retz i203_37 rfl t203 (by omega) ?_
    show X (EE s) d 202 4 [(0, zr g0 44), (1, zi a1), (2, zi a2)] [zi 1] m3 _
    refine X.ifne 39 7 i202_4 rfl rfl rfl (fun h39 => ?_) (fun h39 => (by exfalso; omega))
    refine X.cut [] i202_39 rfl ?_
    refine X.iconst 40 i202_39 rfl rfl (by decide) ?_
    refine X.retz i202_40 rfl t202 (by omega) ?_
    exact hQ 0 m3 (by omega) (hJ4.up (by omega))
-- WorkMeter.fault
theorem c113_2 {s : Nat × (Nat → Int32)} {m0 m : zM} {B : Int} {d : Nat} {Q : Option zV → zM → Prop} (g0 : Nat) (a1 : Int) (hd : 13 ≤ d) (hJ : J m0 B m) (hB : B + 0 ≤ 1000000000) (ha1 : (-2147483648) ≤ a1 ∧ a1 ≤ 2147483647) (hQ : ∀ (v : Int) m', ((-2147483648) ≤ v ∧ v ≤ 2147483647) → J m0 (B + 0) m' → Q (some (zi v)) m') : X (EE s) d 113 0 [(0, zr g0 40), (1, zi a1)] [] m Q := by
  refine X.iload_n 1 i113_0 rfl rfl rfl ?_
  refine X.ifne 12 4 i113_1 rfl rfl rfl (fun h40 => ?_) (fun h40 => ?_)
  · refine X.iload_n 13 i113_12 rfl rfl rfl ?_
    refine X.iconst 14 i113_13 rfl rfl (by decide) ?_
    refine X.icmpne 27 17 i113_14 rfl rfl rfl (fun h41 => ?_) (fun h41 => ?_)
    · refine X.cut [] i113_27 rfl ?_
      refine X.iconst 28 i113_27 rfl rfl (by decide) ?_
      refine X.reti i113_28 rfl t113 ?_
      exact hQ (-1) m (by omega) (hJ.up (by omega))
    · refine X.aload_n 18 i113_17 rfl rfl rfl ?_
      refine X.getF 21 i113_18 rfl rfl (by decide) rfl rfl ?_
      refine X.getIr 24 5 i113_21 rfl rfl (by decide) rfl rfl rfl (fun h42 => ?_)
      refine X.goto 28 i113_24 rfl rfl ?_
      refine X.cut [] i113_28 rfl ?_
      refine X.reti i113_28 rfl t113 ?_
      exact hQ (m 4 41 5) m (by omega) (hJ.up (by omega))
  · refine X.aload_n 5 i113_4 rfl rfl rfl ?_
    refine X.getF 8 i113_5 rfl rfl (by decide) rfl rfl ?_
    refine X.getIr 11 4 i113_8 rfl rfl (by decide) rfl rfl rfl (fun h43 => ?_)
    refine X.reti i113_11 rfl t113 ?_
    exact hQ (m 4 41 4) m (by omega) (hJ.up (by omega))
-- WorkMeterModel.fault
theorem c259_3 {s : Nat × (Nat → Int32)} {m0 m : zM} {B : Int} {d : Nat} {Q : Option zV → zM → Prop} (g0 : Nat) (a1 : Int) (hd : 13 ≤ d) (hJ : J m0 B m) (hB : B + 0 ≤ 1000000000) (ha1 : (-2147483648) ≤ a1 ∧ a1 ≤ 2147483647) (hQ : ∀ (v : Int) m', ((-2147483648) ≤ v ∧ v ≤ 2147483647) → J m0 (B + 0) m' → Q (some (zi v)) m') : X (EE s) d 259 0 [(0, zr g0 44), (1, zi a1)] [] m Q := by
  refine X.iload_n 1 i259_0 rfl rfl rfl ?_
  refine X.ifne 11 4 i259_1 rfl rfl rfl (fun h44 => ?_) (fun h44 => ?_)
  · refine X.iload_n 12 i259_11 rfl rfl rfl ?_
    refine X.iconst 13 i259_12 rfl rfl (by decide) ?_
    refine X.icmpne 23 16 i259_13 rfl rfl rfl (fun h45 => ?_) (fun h45 => ?_)
    · refine X.cut [] i259_23 rfl ?_
      refine X.iconst 24 i259_23 rfl rfl (by decide) ?_
      refine X.reti i259_24 rfl t259 ?_
      exact hQ (-1) m (by omega) (hJ.up (by omega))
    · refine X.aload_n 17 i259_16 rfl rfl rfl ?_
      refine X.getIr 20 7 i259_17 rfl rfl (by decide) rfl rfl rfl (fun h46 => ?_)
      refine X.goto 24 i259_20 rfl rfl ?_
      refine X.cut [] i259_24 rfl ?_
      refine X.reti i259_24 rfl t259 ?_
      exact hQ (m g0 44 7) m (by omega) (hJ.up (by omega))
  · refine X.aload_n 5 i259_4 rfl rfl rfl ?_
    refine X.getIr 8 6 i259_5 rfl rfl (by decide) rfl rfl rfl (fun h47 => ?_)
    refine X.goto 24 i259_8 rfl rfl ?_
    refine X.cut [] i259_24 rfl ?_
    refine X.reti i259_24 rfl t259 ?_
    exact hQ (m g0 44 6) m (by omega) (hJ.up (by omega))
-- WorkMeter.seal
theorem c114_4 {s : Nat × (Nat → Int32)} {m0 m : zM} {B : Int} {d : Nat} {Q : Option zV → zM → Prop} (g0 : Nat) (a1 : Int) (hd : 13 ≤ d) (hJ : J m0 B m) (hB : B + 1 ≤ 1000000000) (ha1 : (-2147483648) ≤ a1 ∧ a1 ≤ 2147483647) (hQ : ∀ (v : Int) m', (0 ≤ v ∧ v ≤ 1) → J m0 (B + 1) m' → Q (some (zi v)) m') : X (EE s) d 114 0 [(0, zr g0 40), (1, zi a1)] [] m Q := by
  refine X.aload_n 1 i114_0 rfl rfl rfl ?_
  refine X.getF 4 i114_1 rfl rfl (by decide) rfl rfl ?_
  refine X.getR 7 i114_4 rfl rfl (by decide) rfl rfl ?_
  refine X.iload_n 8 i114_7 rfl rfl rfl ?_
  refine X.callv 11 [zi a1] [] [(0, zr 0 39), (1, zi a1)] i114_8 rfl (by decide) rfl rfl (by omega) rfl rfl (by decide) rfl t115 (Nat.le_of_ble_eq_true rfl) (Nat.le_of_ble_eq_true rfl) rfl ?_
  refine X.aload_n 1 i115_0 rfl rfl rfl ?_
  refine X.getZ 4 0 i115_1 rfl rfl (by decide) rfl rfl rfl (fun h48 => ?_)
  refine X.ifne 18 7 i115_4 rfl rfl rfl (fun h49 => ?_) (fun h49 => ?_)
  · refine X.cut [] i115_18 rfl ?_
    refine X.iconst 19 i115_18 rfl rfl (by decide) ?_
    refine X.retz i115_19 rfl t115 (by omega) ?_
    show X (EE s) d 114 11 [(0, zr g0 40), (1, zi a1)] [zi 0] m _
    refine X.ifne 16 14 i114_11 rfl rfl rfl (fun h50 => (by exfalso; omega)) (fun h50 => ?_)
    refine X.iconst 15 i114_14 rfl rfl (by decide) ?_
    refine X.retz i114_15 rfl t114 (by omega) ?_
    exact hQ 0 m (by omega) (hJ.up (by omega))
  · refine X.iload_n 8 i115_7 rfl rfl rfl ?_
    refine X.iflt 18 11 i115_8 rfl rfl rfl (fun h51 => ?_) (fun h51 => ?_)
    · refine X.cut [] i115_18 rfl ?_
      refine X.iconst 19 i115_18 rfl rfl (by decide) ?_
      refine X.retz i115_19 rfl t115 (by omega) ?_
      show X (EE s) d 114 11 [(0, zr g0 40), (1, zi a1)] [zi 0] m _
      refine X.ifne 16 14 i114_11 rfl rfl rfl (fun h52 => (by exfalso; omega)) (fun h52 => ?_)
      refine X.iconst 15 i114_14 rfl rfl (by decide) ?_
      refine X.retz i114_15 rfl t114 (by omega) ?_
      exact hQ 0 m (by omega) (hJ.up (by omega))
    · refine X.iload_n 12 i115_11 rfl rfl rfl ?_
      refine X.sipush 15 i115_12 rfl rfl (by decide) ?_
      refine X.icmple 20 18 i115_15 rfl rfl rfl (fun h53 => ?_) (fun h53 => ?_)
      · refine X.aload_n 21 i115_20 rfl rfl rfl ?_
        refine X.iconst 22 i115_21 rfl rfl (by decide) ?_
        refine X.putZ' 25 0 i115_22 rfl rfl (by decide) rfl rfl rfl (by omega) (fun hrm54 m54 hm54 => ?_)
        have hJ55 := w39_0 hJ hm54 (by omega)
        refine X.aload_n 26 i115_25 rfl rfl rfl ?_
        refine X.iload_n 27 i115_26 rfl rfl rfl ?_
        refine X.putI' 30 1 i115_27 rfl rfl (by decide) rfl rfl rfl (fun hrm56 m56 hm56 => ?_)
        have hJ57 := w39_1 hJ55 hm56 (by omega) hrm56
        refine X.iconst 31 i115_30 rfl rfl (by decide) ?_
        refine X.retz i115_31 rfl t115 (by omega) ?_
        show X (EE s) d 114 11 [(0, zr g0 40), (1, zi a1)] [zi 1] m56 _
        refine X.ifne 16 14 i114_11 rfl rfl rfl (fun h58 => ?_) (fun h58 => (by exfalso; omega))
        refine X.cut [(0, zr g0 40)] i114_16 rfl ?_
        refine X.aload_n 17 i114_16 rfl rfl rfl ?_
        refine X.getF 20 i114_17 rfl rfl (by decide) rfl rfl ?_
        refine X.bipush 22 i114_20 rfl rfl (by decide) ?_
        refine X.iconst 23 i114_22 rfl rfl (by decide) ?_
        refine X.callv 26 [zi 30, zi 0] [] [(0, zr 0 8), (1, zi 30), (2, zi 0)] i114_23 rfl (by decide) rfl rfl (by omega) rfl rfl (by decide) rfl t54 (Nat.le_of_ble_eq_true rfl) (Nat.le_of_ble_eq_true rfl) rfl ?_
        refine X.aload_n 1 i54_0 rfl rfl rfl ?_
        refine X.getR 4 i54_1 rfl rfl (by decide) rfl rfl ?_
        refine X.aload_n 5 i54_4 rfl rfl rfl ?_
        refine X.getI 8 9 i54_5 rfl rfl (by decide) rfl rfl rfl ?_
        have h59 := r8_9 hJ57 0
        refine X.iload_n 9 i54_8 rfl rfl rfl ?_
        refine X.iload_n 10 i54_9 rfl rfl rfl ?_
        refine X.callv 13 [zi (m56 0 8 9), zi 30, zi 0] [] [(0, zr 0 37), (1, zi (m56 0 8 9)), (2, zi 30), (3, zi 0)] i54_10 rfl (by decide) rfl rfl (by omega) rfl rfl (by decide) rfl t55 (Nat.le_of_ble_eq_true rfl) (Nat.le_of_ble_eq_true rfl) rfl ?_
        refine X.aload_n 1 i55_0 rfl rfl rfl ?_
        refine X.getI 4 1 i55_1 rfl rfl (by decide) rfl rfl rfl ?_
        have h60 := r37_1 hJ57 0
        refine X.bipush 6 i55_4 rfl rfl (by decide) ?_
        refine X.irem 7 i55_6 rfl rfl (by omega) ?_
        refine X.iconst 8 i55_7 rfl rfl (by decide) ?_
        refine X.imul 9 i55_8 rfl rfl (by omega) ?_
        refine X.istore 11 [(0, zr 0 37), (1, zi (m56 0 8 9)), (2, zi 30), (3, zi 0), (4, zi (((m56 0 37 1) % 40) * 3))] i55_9 rfl rfl rfl ?_
        refine X.aload_n 12 i55_11 rfl rfl rfl ?_
        refine X.getR 15 i55_12 rfl rfl (by decide) rfl rfl ?_
        refine X.iload 17 i55_15 rfl rfl rfl ?_
        refine X.iload_n 18 i55_17 rfl rfl rfl ?_
        refine X.iast' 19 i55_18 rfl rfl (by decide) rfl (by omega) (fun hrm61 m61 hm61 => ?_)
        have hJ62 := w38_0 hJ57 hm61 (by omega) hrm61
        refine X.aload_n 20 i55_19 rfl rfl rfl ?_
        refine X.getR 23 i55_20 rfl rfl (by decide) rfl rfl ?_
        refine X.iload 25 i55_23 rfl rfl rfl ?_
        refine X.iconst 26 i55_25 rfl rfl (by decide) ?_
        refine X.iadd 27 i55_26 rfl rfl (by omega) ?_
        refine X.iload_n 28 i55_27 rfl rfl rfl ?_
        refine X.iast' 29 i55_28 rfl rfl (by decide) rfl (by omega) (fun hrm63 m63 hm63 => ?_)
        have hJ64 := w38_0 hJ62 hm63 (by omega) hrm63
        refine X.aload_n 30 i55_29 rfl rfl rfl ?_
        refine X.getR 33 i55_30 rfl rfl (by decide) rfl rfl ?_
        refine X.iload 35 i55_33 rfl rfl rfl ?_
        refine X.iconst 36 i55_35 rfl rfl (by decide) ?_
        refine X.iadd 37 i55_36 rfl rfl (by omega) ?_
        refine X.iload_n 38 i55_37 rfl rfl rfl ?_
        refine X.iast' 39 i55_38 rfl rfl (by decide) rfl (by omega) (fun hrm65 m65 hm65 => ?_)
        have hJ66 := w38_0 hJ64 hm65 (by omega) hrm65
        refine X.aload_n 40 i55_39 rfl rfl rfl ?_
        refine X.dup 41 i55_40 rfl rfl rfl ?_
        refine X.getI 44 1 i55_41 rfl rfl (by decide) rfl rfl rfl ?_
        have h67 := r37_1 hJ66 0
        refine X.iconst 45 i55_44 rfl rfl (by decide) ?_
        refine X.iadd 46 i55_45 rfl rfl (by omega) ?_
        refine X.putI' 49 1 i55_46 rfl rfl (by decide) rfl rfl rfl (fun hrm68 m68 hm68 => ?_)
        have hJ69 := w37_1 (hJ66.up (B' := B + 1) (by omega)) hm68 (by omega)
        refine X.retv i55_49 rfl t55 ?_
        show X (EE s) (d - 1) 54 13 [(0, zr 0 8), (1, zi 30), (2, zi 0)] [] m68 _
        refine X.retv i54_13 rfl t54 ?_
        show X (EE s) d 114 26 [(0, zr g0 40)] [] m68 _
        refine X.iconst 27 i114_26 rfl rfl (by decide) ?_
        refine X.retz i114_27 rfl t114 (by omega) ?_
        exact hQ 1 m68 (by omega) (hJ69.up (by omega))
      · refine X.cut [] i115_18 rfl ?_
        refine X.iconst 19 i115_18 rfl rfl (by decide) ?_
        refine X.retz i115_19 rfl t115 (by omega) ?_
        show X (EE s) d 114 11 [(0, zr g0 40), (1, zi a1)] [zi 0] m _
        refine X.ifne 16 14 i114_11 rfl rfl rfl (fun h70 => (by exfalso; omega)) (fun h70 => ?_)
        refine X.iconst 15 i114_14 rfl rfl (by decide) ?_
        refine X.retz i114_15 rfl t114 (by omega) ?_
        exact hQ 0 m (by omega) (hJ.up (by omega))
theorem l223_17_2 {s : Nat × (Nat → Int32)} {m0 : zM} {d : Nat} {Q : Option zV → zM → Prop} (g0 : Nat) (y1 y2 : Int) (BE : Int) (hE : BE ≤ 1000000000) (hd : 13 ≤ d) (hy1 : 30 ≤ y1 ∧ y1 ≤ 30) (hy2 : 0 ≤ y2 ∧ y2 ≤ 0)
    (K54 : ∀ (m' : zM) (B' : Int), J m0 B' m' → B' ≤ BE → X (EE s) d 223 54 [(0, zr g0 44), (1, zi y1), (2, zl y2)] [] m' Q) :
    ∀ (n : Nat) (y4 : Int) (m : zM) (B : Int), J m0 B m → B + 1 * (n : Int) ≤ BE → (3 ≤ y4 ∧ y4 ≤ 120) → 120 - y4 < (n : Int) → X (EE s) d 223 17 [(0, zr g0 44), (1, zi y1), (2, zl y2), (4, zi y4)] [] m Q := by
  intro n
  induction n with
  | zero =>
    intro y4 m B hJ hB hy4 hn
    exfalso
    omega
  | succ n ih =>
    intro y4 m B hJ hB hy4 hn
    refine X.iload 19 i223_17 rfl rfl rfl ?_
    refine X.bipush 21 i223_19 rfl rfl (by decide) ?_
    refine X.icmpge 54 24 i223_21 rfl rfl rfl (fun h103 => ?_) (fun h103 => ?_)
    · refine X.cut [(0, zr g0 44), (1, zi y1), (2, zl y2)] i223_54 rfl ?_
      exact K54  m (B) hJ (by omega) 
    · refine X.aload_n 25 i223_24 rfl rfl rfl ?_
      refine X.getF 28 i223_25 rfl rfl (by decide) rfl rfl ?_
      refine X.sipush 31 i223_28 rfl rfl (by decide) ?_
      refine X.iload 33 i223_31 rfl rfl rfl ?_
      refine X.iadd 34 i223_33 rfl rfl (by omega) ?_
      refine X.iconst 35 i223_34 rfl rfl (by decide) ?_
      refine X.isub 36 i223_35 rfl rfl (by omega) ?_
      refine X.aload_n 37 i223_36 rfl rfl rfl ?_
      refine X.getF 40 i223_37 rfl rfl (by decide) rfl rfl ?_
      refine X.sipush 43 i223_40 rfl rfl (by decide) ?_
      refine X.iload 45 i223_43 rfl rfl rfl ?_
      refine X.iadd 46 i223_45 rfl rfl (by omega) ?_
      refine X.lald 47 i223_46 rfl rfl (by decide) rfl (by omega) ?_
      refine X.last' 48 i223_47 rfl rfl (by decide) rfl (by omega) (fun hrm104 m104 hm104 => ?_)
      have hJ105 := w45_788 hJ hm104 (by omega) hrm104
      refine X.iinc 51 [(0, zr g0 44), (1, zi y1), (2, zl y2), (4, zi (y4 + 1))] i223_48 rfl rfl rfl (by omega) rfl ?_
      refine X.goto 17 i223_51 rfl rfl ?_
      exact ih (y4 + 1) m104 (B) hJ105 (by omega) (by omega) (by omega)
-- WorkMeterModel.logs
theorem c223_5 {s : Nat × (Nat → Int32)} {m0 m : zM} {B : Int} {d : Nat} {Q : Option zV → zM → Prop} (g0 : Nat) (a1 a2 : Int) (hd : 13 ≤ d) (hJ : J m0 B m) (hB : B + 119 ≤ 1000000000) (ha1 : 30 ≤ a1 ∧ a1 ≤ 30) (ha2 : 0 ≤ a2 ∧ a2 ≤ 0) (hQ : ∀ m', J m0 (B + 119) m' → Q none m') : X (EE s) d 223 0 [(0, zr g0 44), (1, zi a1), (2, zl a2)] [] m Q := by
  refine X.aload_n 1 i223_0 rfl rfl rfl ?_
  refine X.getF 4 i223_1 rfl rfl (by decide) rfl rfl ?_
  refine X.bipush 6 i223_4 rfl rfl (by decide) ?_
  refine X.lald 7 i223_6 rfl rfl (by decide) rfl (by omega) ?_
  have h85 := r45_16 hJ 4
  refine X.ldc2 10 i223_7 rfl rfl (by decide) ?_
  refine X.lcmp 11 i223_10 rfl rfl (fun z86 hz86 => ?_)
  refine X.iflt 54 14 i223_11 rfl rfl rfl (fun h87 => ?_) (fun h87 => ?_)
  · have h87c : (m 4 45 16) < 40 := by omega
    clear h87 hz86
    refine X.sipush 57 i223_54 rfl rfl (by decide) ?_
    refine X.iconst 58 i223_57 rfl rfl (by decide) ?_
    refine X.aload_n 59 i223_58 rfl rfl rfl ?_
    refine X.getF 62 i223_59 rfl rfl (by decide) rfl rfl ?_
    refine X.bipush 64 i223_62 rfl rfl (by decide) ?_
    refine X.lald 65 i223_64 rfl rfl (by decide) rfl (by omega) ?_
    refine X.ldc2 68 i223_65 rfl rfl (by decide) ?_
    refine X.lcmp 69 i223_68 rfl rfl (fun z88 hz88 => ?_)
    refine X.ifge 82 72 i223_69 rfl rfl rfl (fun h89 => (by exfalso; omega)) (fun h89 => ?_)
    have h89c : (m 4 45 16) < 40 := by omega
    clear h89 hz88
    refine X.aload_n 73 i223_72 rfl rfl rfl ?_
    refine X.getF 76 i223_73 rfl rfl (by decide) rfl rfl ?_
    refine X.bipush 78 i223_76 rfl rfl (by decide) ?_
    refine X.lald 79 i223_78 rfl rfl (by decide) rfl (by omega) ?_
    refine X.goto 85 i223_79 rfl rfl ?_
    refine X.l2i 86 i223_85 rfl rfl (by omega) ?_
    refine X.imul 87 i223_86 rfl rfl (by omega) ?_
    refine X.iadd 88 i223_87 rfl rfl (by omega) ?_
    refine X.istore 90 [(0, zr g0 44), (1, zi a1), (2, zl a2), (4, zi (1487 + (3 * (m 4 45 16))))] i223_88 rfl rfl rfl ?_
    refine X.aload_n 91 i223_90 rfl rfl rfl ?_
    refine X.getF 94 i223_91 rfl rfl (by decide) rfl rfl ?_
    refine X.iload 96 i223_94 rfl rfl rfl ?_
    refine X.aload_n 97 i223_96 rfl rfl rfl ?_
    refine X.getF 100 i223_97 rfl rfl (by decide) rfl rfl ?_
    refine X.iconst 101 i223_100 rfl rfl (by decide) ?_
    refine X.lald 102 i223_101 rfl rfl (by decide) rfl (by omega) ?_
    have h90 := r45_0 hJ 4
    refine X.last' 103 i223_102 rfl rfl (by decide) rfl (by omega) (fun hrm91 m91 hm91 => ?_)
    have hJ92 := w45_788 hJ hm91 (by omega) hrm91
    refine X.aload_n 104 i223_103 rfl rfl rfl ?_
    refine X.getF 107 i223_104 rfl rfl (by decide) rfl rfl ?_
    refine X.iload 109 i223_107 rfl rfl rfl ?_
    refine X.iconst 110 i223_109 rfl rfl (by decide) ?_
    refine X.iadd 111 i223_110 rfl rfl (by omega) ?_
    refine X.iload_n 112 i223_111 rfl rfl rfl ?_
    refine X.i2l 113 i223_112 rfl rfl ?_
    refine X.last' 114 i223_113 rfl rfl (by decide) rfl (by omega) (fun hrm93 m93 hm93 => ?_)
    have hJ94 := w45_788 hJ92 hm93 (by omega) hrm93
    refine X.aload_n 115 i223_114 rfl rfl rfl ?_
    refine X.getF 118 i223_115 rfl rfl (by decide) rfl rfl ?_
    refine X.iload 120 i223_118 rfl rfl rfl ?_
    refine X.iconst 121 i223_120 rfl rfl (by decide) ?_
    refine X.iadd 122 i223_121 rfl rfl (by omega) ?_
    refine X.lload_n 123 i223_122 rfl rfl rfl ?_
    refine X.last' 124 i223_123 rfl rfl (by decide) rfl (by omega) (fun hrm95 m95 hm95 => ?_)
    have hJ96 := w45_788 hJ94 hm95 (by omega) hrm95
    refine X.aload_n 125 i223_124 rfl rfl rfl ?_
    refine X.getF 128 i223_125 rfl rfl (by decide) rfl rfl ?_
    refine X.bipush 130 i223_128 rfl rfl (by decide) ?_
    refine X.dup2 131 i223_130 rfl rfl ?_
    refine X.lald 132 i223_131 rfl rfl (by decide) rfl (by omega) ?_
    have h97 := r45_16 hJ96 4
    refine X.lconst (y := 1) 133 i223_132 rfl rfl rfl ?_
    refine X.ladd 134 i223_133 rfl rfl (by omega) ?_
    refine X.last' 135 i223_134 rfl rfl (by decide) rfl (by omega) (fun hrm98 m98 hm98 => ?_)
    have hJ99 := w45_16 (hJ96.up (B' := B + 1) (by omega)) hm98 (by omega)
    refine X.retv i223_135 rfl t223 ?_
    exact hQ m98 (hJ99.up (by omega))
  · have h87c : (m 4 45 16) ≥ 40 := by omega
    clear h87 hz86
    refine X.iconst 15 i223_14 rfl rfl (by decide) ?_
    refine X.istore 17 [(0, zr g0 44), (1, zi a1), (2, zl a2), (4, zi 3)] i223_15 rfl rfl rfl ?_
    refine l223_17_2 (s := s) (m0 := m0) (d := d) g0 a1 a2 (BE := B + 118) (by omega) (by omega) (by omega) (by omega) (fun  m106 B107 hJ108 hBB107 => ?_) ((120 - 3).toNat + 1) 3 m (B) hJ (by omega) (by omega) (by omega)
    refine X.sipush 57 i223_54 rfl rfl (by decide) ?_
    refine X.iconst 58 i223_57 rfl rfl (by decide) ?_
    refine X.aload_n 59 i223_58 rfl rfl rfl ?_
    refine X.getF 62 i223_59 rfl rfl (by decide) rfl rfl ?_
    refine X.bipush 64 i223_62 rfl rfl (by decide) ?_
    refine X.lald 65 i223_64 rfl rfl (by decide) rfl (by omega) ?_
    have h109 := r45_16 hJ108 4
    refine X.ldc2 68 i223_65 rfl rfl (by decide) ?_
    refine X.lcmp 69 i223_68 rfl rfl (fun z110 hz110 => ?_)
    refine X.ifge 82 72 i223_69 rfl rfl rfl (fun h111 => ?_) (fun h111 => ?_)
    · have h111c : (m106 4 45 16) ≥ 40 := by omega
      clear h111 hz110
      refine X.ldc2 85 i223_82 rfl rfl (by decide) ?_
      refine X.l2i 86 i223_85 rfl rfl (by omega) ?_
      refine X.imul 87 i223_86 rfl rfl (by omega) ?_
      refine X.iadd 88 i223_87 rfl rfl (by omega) ?_
      refine X.istore 90 [(0, zr g0 44), (1, zi a1), (2, zl a2), (4, zi (1487 + (3 * 39)))] i223_88 rfl rfl rfl ?_
      refine X.aload_n 91 i223_90 rfl rfl rfl ?_
      refine X.getF 94 i223_91 rfl rfl (by decide) rfl rfl ?_
      refine X.iload 96 i223_94 rfl rfl rfl ?_
      refine X.aload_n 97 i223_96 rfl rfl rfl ?_
      refine X.getF 100 i223_97 rfl rfl (by decide) rfl rfl ?_
      refine X.iconst 101 i223_100 rfl rfl (by decide) ?_
      refine X.lald 102 i223_101 rfl rfl (by decide) rfl (by omega) ?_
      have h112 := r45_0 hJ108 4
      refine X.last' 103 i223_102 rfl rfl (by decide) rfl (by omega) (fun hrm113 m113 hm113 => ?_)
      have hJ114 := w45_788 hJ108 hm113 (by omega) hrm113
      refine X.aload_n 104 i223_103 rfl rfl rfl ?_
      refine X.getF 107 i223_104 rfl rfl (by decide) rfl rfl ?_
      refine X.iload 109 i223_107 rfl rfl rfl ?_
      refine X.iconst 110 i223_109 rfl rfl (by decide) ?_
      refine X.iadd 111 i223_110 rfl rfl (by omega) ?_
      refine X.iload_n 112 i223_111 rfl rfl rfl ?_
      refine X.i2l 113 i223_112 rfl rfl ?_
      refine X.last' 114 i223_113 rfl rfl (by decide) rfl (by omega) (fun hrm115 m115 hm115 => ?_)
      have hJ116 := w45_788 hJ114 hm115 (by omega) hrm115
      refine X.aload_n 115 i223_114 rfl rfl rfl ?_
      refine X.getF 118 i223_115 rfl rfl (by decide) rfl rfl ?_
      refine X.iload 120 i223_118 rfl rfl rfl ?_
      refine X.iconst 121 i223_120 rfl rfl (by decide) ?_
      refine X.iadd 122 i223_121 rfl rfl (by omega) ?_
      refine X.lload_n 123 i223_122 rfl rfl rfl ?_
      refine X.last' 124 i223_123 rfl rfl (by decide) rfl (by omega) (fun hrm117 m117 hm117 => ?_)
      have hJ118 := w45_788 hJ116 hm117 (by omega) hrm117
      refine X.aload_n 125 i223_124 rfl rfl rfl ?_
      refine X.getF 128 i223_125 rfl rfl (by decide) rfl rfl ?_
      refine X.bipush 130 i223_128 rfl rfl (by decide) ?_
      refine X.dup2 131 i223_130 rfl rfl ?_
      refine X.lald 132 i223_131 rfl rfl (by decide) rfl (by omega) ?_
      have h119 := r45_16 hJ118 4
      refine X.lconst (y := 1) 133 i223_132 rfl rfl rfl ?_
      refine X.ladd 134 i223_133 rfl rfl (by omega) ?_
      refine X.last' 135 i223_134 rfl rfl (by decide) rfl (by omega) (fun hrm120 m120 hm120 => ?_)
      have hJ121 := w45_16 (hJ118.up (B' := B107 + 1) (by omega)) hm120 (by omega)
      refine X.retv i223_135 rfl t223 ?_
      exact hQ m120 (hJ121.up (by omega))
    · have h111c : (m106 4 45 16) < 40 := by omega
      clear h111 hz110
      refine X.aload_n 73 i223_72 rfl rfl rfl ?_
      refine X.getF 76 i223_73 rfl rfl (by decide) rfl rfl ?_
      refine X.bipush 78 i223_76 rfl rfl (by decide) ?_
      refine X.lald 79 i223_78 rfl rfl (by decide) rfl (by omega) ?_
      refine X.goto 85 i223_79 rfl rfl ?_
      refine X.l2i 86 i223_85 rfl rfl (by omega) ?_
      refine X.imul 87 i223_86 rfl rfl (by omega) ?_
      refine X.iadd 88 i223_87 rfl rfl (by omega) ?_
      refine X.istore 90 [(0, zr g0 44), (1, zi a1), (2, zl a2), (4, zi (1487 + (3 * (m106 4 45 16))))] i223_88 rfl rfl rfl ?_
      refine X.aload_n 91 i223_90 rfl rfl rfl ?_
      refine X.getF 94 i223_91 rfl rfl (by decide) rfl rfl ?_
      refine X.iload 96 i223_94 rfl rfl rfl ?_
      refine X.aload_n 97 i223_96 rfl rfl rfl ?_
      refine X.getF 100 i223_97 rfl rfl (by decide) rfl rfl ?_
      refine X.iconst 101 i223_100 rfl rfl (by decide) ?_
      refine X.lald 102 i223_101 rfl rfl (by decide) rfl (by omega) ?_
      have h122 := r45_0 hJ108 4
      refine X.last' 103 i223_102 rfl rfl (by decide) rfl (by omega) (fun hrm123 m123 hm123 => ?_)
      have hJ124 := w45_788 hJ108 hm123 (by omega) hrm123
      refine X.aload_n 104 i223_103 rfl rfl rfl ?_
      refine X.getF 107 i223_104 rfl rfl (by decide) rfl rfl ?_
      refine X.iload 109 i223_107 rfl rfl rfl ?_
      refine X.iconst 110 i223_109 rfl rfl (by decide) ?_
      refine X.iadd 111 i223_110 rfl rfl (by omega) ?_
      refine X.iload_n 112 i223_111 rfl rfl rfl ?_
      refine X.i2l 113 i223_112 rfl rfl ?_
      refine X.last' 114 i223_113 rfl rfl (by decide) rfl (by omega) (fun hrm125 m125 hm125 => ?_)
      have hJ126 := w45_788 hJ124 hm125 (by omega) hrm125
      refine X.aload_n 115 i223_114 rfl rfl rfl ?_
      refine X.getF 118 i223_115 rfl rfl (by decide) rfl rfl ?_
      refine X.iload 120 i223_118 rfl rfl rfl ?_
      refine X.iconst 121 i223_120 rfl rfl (by decide) ?_
      refine X.iadd 122 i223_121 rfl rfl (by omega) ?_
      refine X.lload_n 123 i223_122 rfl rfl rfl ?_
      refine X.last' 124 i223_123 rfl rfl (by decide) rfl (by omega) (fun hrm127 m127 hm127 => ?_)
      have hJ128 := w45_788 hJ126 hm127 (by omega) hrm127
      refine X.aload_n 125 i223_124 rfl rfl rfl ?_
      refine X.getF 128 i223_125 rfl rfl (by decide) rfl rfl ?_
      refine X.bipush 130 i223_128 rfl rfl (by decide) ?_
      refine X.dup2 131 i223_130 rfl rfl ?_
      refine X.lald 132 i223_131 rfl rfl (by decide) rfl (by omega) ?_
      have h129 := r45_16 hJ128 4
      refine X.lconst (y := 1) 133 i223_132 rfl rfl rfl ?_
      refine X.ladd 134 i223_133 rfl rfl (by omega) ?_
      refine X.last' 135 i223_134 rfl rfl (by decide) rfl (by omega) (fun hrm130 m130 hm130 => ?_)
      have hJ131 := w45_16 (hJ128.up (B' := B107 + 1) (by omega)) hm130 (by omega)
      refine X.retv i223_135 rfl t223 ?_
      exact hQ m130 (hJ131.up (by omega))
-- WorkMeterModel.seal
theorem c276_6 {s : Nat × (Nat → Int32)} {m0 m : zM} {B : Int} {d : Nat} {Q : Option zV → zM → Prop} (g0 : Nat) (a1 : Int) (hd : 14 ≤ d) (hJ : J m0 B m) (hB : B + 119 ≤ 1000000000) (ha1 : (-2147483648) ≤ a1 ∧ a1 ≤ 2147483647) (hQ : ∀ (v : Int) m', (0 ≤ v ∧ v ≤ 1) → J m0 (B + 119) m' → Q (some (zi v)) m') : X (EE s) d 276 0 [(0, zr g0 44), (1, zi a1)] [] m Q := by
  refine X.aload_n 1 i276_0 rfl rfl rfl ?_
  refine X.getF 4 i276_1 rfl rfl (by decide) rfl rfl ?_
  refine X.sipush 7 i276_4 rfl rfl (by decide) ?_
  refine X.lald 8 i276_7 rfl rfl (by decide) rfl (by omega) ?_
  have h71 := r45_1614 hJ 4
  refine X.lconst (y := 1) 9 i276_8 rfl rfl rfl ?_
  refine X.lcmp 10 i276_9 rfl rfl (fun z72 hz72 => ?_)
  refine X.ifeq 25 13 i276_10 rfl rfl rfl (fun h73 => ?_) (fun h73 => ?_)
  · have h73c : (m 4 45 1614) = 1 := by omega
    clear h73 hz72
    refine X.cut [] i276_25 rfl ?_
    refine X.iconst 26 i276_25 rfl rfl (by decide) ?_
    refine X.retz i276_26 rfl t276 (by omega) ?_
    exact hQ 0 m (by omega) (hJ.up (by omega))
  · have h73c : (m 4 45 1614) ≠ 1 := by omega
    clear h73 hz72
    refine X.iload_n 14 i276_13 rfl rfl rfl ?_
    refine X.i2l 15 i276_14 rfl rfl ?_
    refine X.lconst (y := 0) 16 i276_15 rfl rfl rfl ?_
    refine X.ldc2 19 i276_16 rfl rfl (by decide) ?_
    refine X.calls 22 [zl a1, zl 0, zl 9999] [] [(0, zl a1), (2, zl 0), (4, zl 9999)] i276_19 (by decide) rfl rfl (by omega) rfl rfl t204 (Nat.le_of_ble_eq_true rfl) (Nat.le_of_ble_eq_true rfl) rfl ?_
    refine X.lload_n 1 i204_0 rfl rfl rfl ?_
    refine X.lload_n 2 i204_1 rfl rfl rfl ?_
    refine X.lcmp 3 i204_2 rfl rfl (fun z74 hz74 => ?_)
    refine X.iflt 17 6 i204_3 rfl rfl rfl (fun h75 => ?_) (fun h75 => ?_)
    · have h75c : a1 < 0 := by omega
      clear h75 hz74
      refine X.cut [] i204_17 rfl ?_
      refine X.iconst 18 i204_17 rfl rfl (by decide) ?_
      refine X.retz i204_18 rfl t204 (by omega) ?_
      show X (EE s) d 276 22 [(0, zr g0 44), (1, zi a1)] [zi 0] m _
      refine X.ifne 27 25 i276_22 rfl rfl rfl (fun h76 => (by exfalso; omega)) (fun h76 => ?_)
      refine X.cut [] i276_25 rfl ?_
      refine X.iconst 26 i276_25 rfl rfl (by decide) ?_
      refine X.retz i276_26 rfl t276 (by omega) ?_
      exact hQ 0 m (by omega) (hJ.up (by omega))
    · have h75c : a1 ≥ 0 := by omega
      clear h75 hz74
      refine X.lload_n 7 i204_6 rfl rfl rfl ?_
      refine X.lload 9 i204_7 rfl rfl rfl ?_
      refine X.lcmp 10 i204_9 rfl rfl (fun z77 hz77 => ?_)
      refine X.ifgt 17 13 i204_10 rfl rfl rfl (fun h78 => ?_) (fun h78 => ?_)
      · have h78c : a1 > 9999 := by omega
        clear h78 hz77
        refine X.cut [] i204_17 rfl ?_
        refine X.iconst 18 i204_17 rfl rfl (by decide) ?_
        refine X.retz i204_18 rfl t204 (by omega) ?_
        show X (EE s) d 276 22 [(0, zr g0 44), (1, zi a1)] [zi 0] m _
        refine X.ifne 27 25 i276_22 rfl rfl rfl (fun h79 => (by exfalso; omega)) (fun h79 => ?_)
        refine X.cut [] i276_25 rfl ?_
        refine X.iconst 26 i276_25 rfl rfl (by decide) ?_
        refine X.retz i276_26 rfl t276 (by omega) ?_
        exact hQ 0 m (by omega) (hJ.up (by omega))
      · have h78c : a1 ≤ 9999 := by omega
        clear h78 hz77
        refine X.iconst 14 i204_13 rfl rfl (by decide) ?_
        refine X.goto 18 i204_14 rfl rfl ?_
        refine X.cut [] i204_18 rfl ?_
        refine X.retz i204_18 rfl t204 (by omega) ?_
        show X (EE s) d 276 22 [(0, zr g0 44), (1, zi a1)] [zi 1] m _
        refine X.ifne 27 25 i276_22 rfl rfl rfl (fun h80 => ?_) (fun h80 => (by exfalso; omega))
        refine X.aload_n 28 i276_27 rfl rfl rfl ?_
        refine X.getF 31 i276_28 rfl rfl (by decide) rfl rfl ?_
        refine X.sipush 34 i276_31 rfl rfl (by decide) ?_
        refine X.lconst (y := 1) 35 i276_34 rfl rfl rfl ?_
        refine X.last' 36 i276_35 rfl rfl (by decide) rfl (by omega) (fun hrm81 m81 hm81 => ?_)
        have hJ82 := w45_1614 hJ hm81 (by omega)
        refine X.aload_n 37 i276_36 rfl rfl rfl ?_
        refine X.getF 40 i276_37 rfl rfl (by decide) rfl rfl ?_
        refine X.sipush 43 i276_40 rfl rfl (by decide) ?_
        refine X.iload_n 44 i276_43 rfl rfl rfl ?_
        refine X.i2l 45 i276_44 rfl rfl ?_
        refine X.last' 46 i276_45 rfl rfl (by decide) rfl (by omega) (fun hrm83 m83 hm83 => ?_)
        have hJ84 := w45_1615 hJ82 hm83 (by omega) hrm83
        refine X.aload_n 47 i276_46 rfl rfl rfl ?_
        refine X.bipush 49 i276_47 rfl rfl (by decide) ?_
        refine X.lconst (y := 0) 50 i276_49 rfl rfl rfl ?_
        refine X.callv 53 [zi 30, zl 0] [] [(0, zr g0 44), (1, zi 30), (2, zl 0)] i276_50 rfl (by decide) rfl rfl (by omega) rfl rfl (by decide) rfl t223 (Nat.le_of_ble_eq_true rfl) (Nat.le_of_ble_eq_true rfl) rfl ?_
        refine c223_5 (B := B) g0 30 0 (by omega) hJ84 (by omega) (by omega) (by omega) (fun m132 hJ133 => ?_)
        show X (EE s) d 276 53 [(0, zr g0 44), (1, zi a1)] [] m132 _
        refine X.iconst 54 i276_53 rfl rfl (by decide) ?_
        refine X.retz i276_54 rfl t276 (by omega) ?_
        exact hQ 1 m132 (by omega) (hJ133.up (by omega))
-- WorkMeter$Meter.tryCode
theorem c117_7 {s : Nat × (Nat → Int32)} {m0 m : zM} {B : Int} {d : Nat} {Q : Option zV → zM → Prop} (g0 : Nat) (a1 : Int) (hd : 14 ≤ d) (hJ : J m0 B m) (hB : B + 2 ≤ 1000000000) (ha1 : (-2147483648) ≤ a1 ∧ a1 ≤ 2147483647) (hQ : ∀ (v : Int) m', (0 ≤ v ∧ v ≤ 1) → J m0 (B + 2) m' → Q (some (zi v)) m') : X (EE s) d 117 0 [(0, zr g0 8), (1, zi a1)] [] m Q := by
  refine X.aload_n 1 i117_0 rfl rfl rfl ?_
  refine X.getR 4 i117_1 rfl rfl (by decide) rfl rfl ?_
  refine X.getZ 7 0 i117_4 rfl rfl (by decide) rfl rfl rfl (fun h134 => ?_)
  refine X.ifeq 24 10 i117_7 rfl rfl rfl (fun h135 => ?_) (fun h135 => ?_)
  · refine X.cut [] i117_24 rfl ?_
    refine X.iconst 25 i117_24 rfl rfl (by decide) ?_
    refine X.retz i117_25 rfl t117 (by omega) ?_
    exact hQ 0 m (by omega) (hJ.up (by omega))
  · refine X.aload_n 11 i117_10 rfl rfl rfl ?_
    refine X.getR 14 i117_11 rfl rfl (by decide) rfl rfl ?_
    refine X.aload_n 15 i117_14 rfl rfl rfl ?_
    refine X.getI 18 9 i117_15 rfl rfl (by decide) rfl rfl rfl ?_
    have h136 := r8_9 hJ g0
    refine X.callv 21 [zi (m g0 8 9)] [] [(0, zr g0 39), (1, zi (m g0 8 9))] i117_18 rfl (by decide) rfl rfl (by omega) rfl rfl (by decide) rfl t118 (Nat.le_of_ble_eq_true rfl) (Nat.le_of_ble_eq_true rfl) rfl ?_
    refine X.iconst 1 i118_0 rfl rfl (by decide) ?_
    refine X.aload_n 2 i118_1 rfl rfl rfl ?_
    refine X.getIr 5 4 i118_2 rfl rfl (by decide) rfl rfl rfl (fun h137 => ?_)
    refine X.iload_n 6 i118_5 rfl rfl rfl ?_
    refine X.iiF 7 .isub (fun x y => x - y) i118_6 rfl rfl rfl (fun _ _ => rfl) (fun z138 hz138 => ?_)
    refine X.maxI 10 i118_7 rfl rfl (by omega) (Nat.le_of_ble_eq_true rfl) ?_
    refine X.reti i118_10 rfl t118 ?_
    show X (EE s) d 117 21 [(0, zr g0 8), (1, zi a1)] [zi (max 0 z138)] m _
    refine X.ifle 26 24 i117_21 rfl rfl rfl (fun h139 => ?_) (fun h139 => ?_)
    · refine X.iload_n 27 i117_26 rfl rfl rfl ?_
      refine X.aload_n 28 i117_27 rfl rfl rfl ?_
      refine X.getR 31 i117_28 rfl rfl (by decide) rfl rfl ?_
      refine X.getIr 34 1 i117_31 rfl rfl (by decide) rfl rfl rfl (fun h140 => ?_)
      refine X.icmpne 53 37 i117_34 rfl rfl rfl (fun h141 => ?_) (fun h141 => ?_)
      · refine X.cut [(0, zr g0 8)] i117_53 rfl ?_
        refine X.aload_n 54 i117_53 rfl rfl rfl ?_
        refine X.getR 57 i117_54 rfl rfl (by decide) rfl rfl ?_
        refine X.dup 58 i117_57 rfl rfl rfl ?_
        refine X.getIr 61 2 i117_58 rfl rfl (by decide) rfl rfl rfl (fun h142 => ?_)
        refine X.iconst 62 i117_61 rfl rfl (by decide) ?_
        refine X.iiF 63 .iadd (fun x y => x + y) i117_62 rfl rfl rfl (fun _ _ => rfl) (fun z143 hz143 => ?_)
        refine X.putI' 66 2 i117_63 rfl rfl (by decide) rfl rfl rfl (fun hrm144 m144 hm144 => ?_)
        have hJ145 := w39_1 hJ hm144 (by omega) hrm144
        refine X.aload_n 67 i117_66 rfl rfl rfl ?_
        refine X.bipush 69 i117_67 rfl rfl (by decide) ?_
        refine X.aload_n 70 i117_69 rfl rfl rfl ?_
        refine X.getR 73 i117_70 rfl rfl (by decide) rfl rfl ?_
        refine X.getIr 76 2 i117_73 rfl rfl (by decide) rfl rfl rfl (fun h146 => ?_)
        refine X.callv 79 [zi 32, zi (m144 g0 39 2)] [] [(0, zr g0 8), (1, zi 32), (2, zi (m144 g0 39 2))] i117_76 rfl (by decide) rfl rfl (by omega) rfl rfl (by decide) rfl t54 (Nat.le_of_ble_eq_true rfl) (Nat.le_of_ble_eq_true rfl) rfl ?_
        refine X.aload_n 1 i54_0 rfl rfl rfl ?_
        refine X.getR 4 i54_1 rfl rfl (by decide) rfl rfl ?_
        refine X.aload_n 5 i54_4 rfl rfl rfl ?_
        refine X.getI 8 9 i54_5 rfl rfl (by decide) rfl rfl rfl ?_
        have h147 := r8_9 hJ145 g0
        refine X.iload_n 9 i54_8 rfl rfl rfl ?_
        refine X.iload_n 10 i54_9 rfl rfl rfl ?_
        refine X.callv 13 [zi (m144 g0 8 9), zi 32, zi (m144 g0 39 2)] [] [(0, zr g0 37), (1, zi (m144 g0 8 9)), (2, zi 32), (3, zi (m144 g0 39 2))] i54_10 rfl (by decide) rfl rfl (by omega) rfl rfl (by decide) rfl t55 (Nat.le_of_ble_eq_true rfl) (Nat.le_of_ble_eq_true rfl) rfl ?_
        refine X.aload_n 1 i55_0 rfl rfl rfl ?_
        refine X.getI 4 1 i55_1 rfl rfl (by decide) rfl rfl rfl ?_
        have h148 := r37_1 hJ145 g0
        refine X.bipush 6 i55_4 rfl rfl (by decide) ?_
        refine X.irem 7 i55_6 rfl rfl (by omega) ?_
        refine X.iconst 8 i55_7 rfl rfl (by decide) ?_
        refine X.imul 9 i55_8 rfl rfl (by omega) ?_
        refine X.istore 11 [(0, zr g0 37), (1, zi (m144 g0 8 9)), (2, zi 32), (3, zi (m144 g0 39 2)), (4, zi (((m144 g0 37 1) % 40) * 3))] i55_9 rfl rfl rfl ?_
        refine X.aload_n 12 i55_11 rfl rfl rfl ?_
        refine X.getR 15 i55_12 rfl rfl (by decide) rfl rfl ?_
        refine X.iload 17 i55_15 rfl rfl rfl ?_
        refine X.iload_n 18 i55_17 rfl rfl rfl ?_
        refine X.iast' 19 i55_18 rfl rfl (by decide) rfl (by omega) (fun hrm149 m149 hm149 => ?_)
        have hJ150 := w38_0 hJ145 hm149 (by omega) hrm149
        refine X.aload_n 20 i55_19 rfl rfl rfl ?_
        refine X.getR 23 i55_20 rfl rfl (by decide) rfl rfl ?_
        refine X.iload 25 i55_23 rfl rfl rfl ?_
        refine X.iconst 26 i55_25 rfl rfl (by decide) ?_
        refine X.iadd 27 i55_26 rfl rfl (by omega) ?_
        refine X.iload_n 28 i55_27 rfl rfl rfl ?_
        refine X.iast' 29 i55_28 rfl rfl (by decide) rfl (by omega) (fun hrm151 m151 hm151 => ?_)
        have hJ152 := w38_0 hJ150 hm151 (by omega) hrm151
        refine X.aload_n 30 i55_29 rfl rfl rfl ?_
        refine X.getR 33 i55_30 rfl rfl (by decide) rfl rfl ?_
        refine X.iload 35 i55_33 rfl rfl rfl ?_
        refine X.iconst 36 i55_35 rfl rfl (by decide) ?_
        refine X.iadd 37 i55_36 rfl rfl (by omega) ?_
        refine X.iload_n 38 i55_37 rfl rfl rfl ?_
        refine X.iast' 39 i55_38 rfl rfl (by decide) rfl (by omega) (fun hrm153 m153 hm153 => ?_)
        have hJ154 := w38_0 hJ152 hm153 (by omega) hrm153
        refine X.aload_n 40 i55_39 rfl rfl rfl ?_
        refine X.dup 41 i55_40 rfl rfl rfl ?_
        refine X.getI 44 1 i55_41 rfl rfl (by decide) rfl rfl rfl ?_
        have h155 := r37_1 hJ154 g0
        refine X.iconst 45 i55_44 rfl rfl (by decide) ?_
        refine X.iadd 46 i55_45 rfl rfl (by omega) ?_
        refine X.putI' 49 1 i55_46 rfl rfl (by decide) rfl rfl rfl (fun hrm156 m156 hm156 => ?_)
        have hJ157 := w37_1 (hJ154.up (B' := B + 1) (by omega)) hm156 (by omega)
        refine X.retv i55_49 rfl t55 ?_
        show X (EE s) (d - 1) 54 13 [(0, zr g0 8), (1, zi 32), (2, zi (m144 g0 39 2))] [] m156 _
        refine X.retv i54_13 rfl t54 ?_
        show X (EE s) d 117 79 [(0, zr g0 8)] [] m156 _
        refine X.aload_n 80 i117_79 rfl rfl rfl ?_
        refine X.getR 83 i117_80 rfl rfl (by decide) rfl rfl ?_
        refine X.callv 86 [] [] [(0, zr g0 39)] i117_83 rfl (by decide) rfl rfl (by omega) rfl rfl (by decide) rfl t120 (Nat.le_of_ble_eq_true rfl) (Nat.le_of_ble_eq_true rfl) rfl ?_
        refine X.aload_n 1 i120_0 rfl rfl rfl ?_
        refine X.getIr 4 2 i120_1 rfl rfl (by decide) rfl rfl rfl (fun h158 => ?_)
        refine X.iconst 5 i120_4 rfl rfl (by decide) ?_
        refine X.icmplt 12 8 i120_5 rfl rfl rfl (fun h159 => ?_) (fun h159 => ?_)
        · refine X.cut [] i120_12 rfl ?_
          refine X.iconst 13 i120_12 rfl rfl (by decide) ?_
          refine X.retz i120_13 rfl t120 (by omega) ?_
          show X (EE s) d 117 86 [(0, zr g0 8)] [zi 0] m156 _
          refine X.ifeq 107 89 i117_86 rfl rfl rfl (fun h160 => ?_) (fun h160 => (by exfalso; omega))
          refine X.cut [] i117_107 rfl ?_
          refine X.iconst 108 i117_107 rfl rfl (by decide) ?_
          refine X.retz i117_108 rfl t117 (by omega) ?_
          exact hQ 0 m156 (by omega) (hJ157.up (by omega))
        · refine X.iconst 9 i120_8 rfl rfl (by decide) ?_
          refine X.goto 13 i120_9 rfl rfl ?_
          refine X.cut [] i120_13 rfl ?_
          refine X.retz i120_13 rfl t120 (by omega) ?_
          show X (EE s) d 117 86 [(0, zr g0 8)] [zi 1] m156 _
          refine X.ifeq 107 89 i117_86 rfl rfl rfl (fun h161 => (by exfalso; omega)) (fun h161 => ?_)
          refine X.aload_n 90 i117_89 rfl rfl rfl ?_
          refine X.getR 93 i117_90 rfl rfl (by decide) rfl rfl ?_
          refine X.aload_n 94 i117_93 rfl rfl rfl ?_
          refine X.getI 97 9 i117_94 rfl rfl (by decide) rfl rfl rfl ?_
          have h162 := r8_9 hJ157 g0
          refine X.callv 100 [zi (m156 g0 8 9)] [] [(0, zr g0 39), (1, zi (m156 g0 8 9))] i117_97 rfl (by decide) rfl rfl (by omega) rfl rfl (by decide) rfl t121 (Nat.le_of_ble_eq_true rfl) (Nat.le_of_ble_eq_true rfl) rfl ?_
          refine X.aload_n 1 i121_0 rfl rfl rfl ?_
          refine X.iconst 2 i121_1 rfl rfl (by decide) ?_
          refine X.putI' 5 2 i121_2 rfl rfl (by decide) rfl rfl rfl (fun hrm163 m163 hm163 => ?_)
          have hJ164 := w39_1 hJ157 hm163 (by omega) hrm163
          refine X.aload_n 6 i121_5 rfl rfl rfl ?_
          refine X.iload_n 7 i121_6 rfl rfl rfl ?_
          refine X.sipush 10 i121_7 rfl rfl (by decide) ?_
          refine X.iadd 11 i121_10 rfl rfl (by omega) ?_
          refine X.putI' 14 4 i121_11 rfl rfl (by decide) rfl rfl rfl (fun hrm165 m165 hm165 => ?_)
          have hJ166 := w39_1 hJ164 hm165 (by omega) hrm165
          refine X.retv i121_14 rfl t121 ?_
          show X (EE s) d 117 100 [(0, zr g0 8)] [] m165 _
          refine X.aload_n 101 i117_100 rfl rfl rfl ?_
          refine X.bipush 103 i117_101 rfl rfl (by decide) ?_
          refine X.iconst 104 i117_103 rfl rfl (by decide) ?_
          refine X.callv 107 [zi 33, zi 0] [] [(0, zr g0 8), (1, zi 33), (2, zi 0)] i117_104 rfl (by decide) rfl rfl (by omega) rfl rfl (by decide) rfl t54 (Nat.le_of_ble_eq_true rfl) (Nat.le_of_ble_eq_true rfl) rfl ?_
          refine X.aload_n 1 i54_0 rfl rfl rfl ?_
          refine X.getR 4 i54_1 rfl rfl (by decide) rfl rfl ?_
          refine X.aload_n 5 i54_4 rfl rfl rfl ?_
          refine X.getI 8 9 i54_5 rfl rfl (by decide) rfl rfl rfl ?_
          have h167 := r8_9 hJ166 g0
          refine X.iload_n 9 i54_8 rfl rfl rfl ?_
          refine X.iload_n 10 i54_9 rfl rfl rfl ?_
          refine X.callv 13 [zi (m165 g0 8 9), zi 33, zi 0] [] [(0, zr g0 37), (1, zi (m165 g0 8 9)), (2, zi 33), (3, zi 0)] i54_10 rfl (by decide) rfl rfl (by omega) rfl rfl (by decide) rfl t55 (Nat.le_of_ble_eq_true rfl) (Nat.le_of_ble_eq_true rfl) rfl ?_
          refine X.aload_n 1 i55_0 rfl rfl rfl ?_
          refine X.getI 4 1 i55_1 rfl rfl (by decide) rfl rfl rfl ?_
          have h168 := r37_1 hJ166 g0
          refine X.bipush 6 i55_4 rfl rfl (by decide) ?_
          refine X.irem 7 i55_6 rfl rfl (by omega) ?_
          refine X.iconst 8 i55_7 rfl rfl (by decide) ?_
          refine X.imul 9 i55_8 rfl rfl (by omega) ?_
          refine X.istore 11 [(0, zr g0 37), (1, zi (m165 g0 8 9)), (2, zi 33), (3, zi 0), (4, zi (((m165 g0 37 1) % 40) * 3))] i55_9 rfl rfl rfl ?_
          refine X.aload_n 12 i55_11 rfl rfl rfl ?_
          refine X.getR 15 i55_12 rfl rfl (by decide) rfl rfl ?_
          refine X.iload 17 i55_15 rfl rfl rfl ?_
          refine X.iload_n 18 i55_17 rfl rfl rfl ?_
          refine X.iast' 19 i55_18 rfl rfl (by decide) rfl (by omega) (fun hrm169 m169 hm169 => ?_)
          have hJ170 := w38_0 hJ166 hm169 (by omega) hrm169
          refine X.aload_n 20 i55_19 rfl rfl rfl ?_
          refine X.getR 23 i55_20 rfl rfl (by decide) rfl rfl ?_
          refine X.iload 25 i55_23 rfl rfl rfl ?_
          refine X.iconst 26 i55_25 rfl rfl (by decide) ?_
          refine X.iadd 27 i55_26 rfl rfl (by omega) ?_
          refine X.iload_n 28 i55_27 rfl rfl rfl ?_
          refine X.iast' 29 i55_28 rfl rfl (by decide) rfl (by omega) (fun hrm171 m171 hm171 => ?_)
          have hJ172 := w38_0 hJ170 hm171 (by omega) hrm171
          refine X.aload_n 30 i55_29 rfl rfl rfl ?_
          refine X.getR 33 i55_30 rfl rfl (by decide) rfl rfl ?_
          refine X.iload 35 i55_33 rfl rfl rfl ?_
          refine X.iconst 36 i55_35 rfl rfl (by decide) ?_
          refine X.iadd 37 i55_36 rfl rfl (by omega) ?_
          refine X.iload_n 38 i55_37 rfl rfl rfl ?_
          refine X.iast' 39 i55_38 rfl rfl (by decide) rfl (by omega) (fun hrm173 m173 hm173 => ?_)
          have hJ174 := w38_0 hJ172 hm173 (by omega) hrm173
          refine X.aload_n 40 i55_39 rfl rfl rfl ?_
          refine X.dup 41 i55_40 rfl rfl rfl ?_
          refine X.getI 44 1 i55_41 rfl rfl (by decide) rfl rfl rfl ?_
          have h175 := r37_1 hJ174 g0
          refine X.iconst 45 i55_44 rfl rfl (by decide) ?_
          refine X.iadd 46 i55_45 rfl rfl (by omega) ?_
          refine X.putI' 49 1 i55_46 rfl rfl (by decide) rfl rfl rfl (fun hrm176 m176 hm176 => ?_)
          have hJ177 := w37_1 (hJ174.up (B' := B + 2) (by omega)) hm176 (by omega)
          refine X.retv i55_49 rfl t55 ?_
          show X (EE s) (d - 1) 54 13 [(0, zr g0 8), (1, zi 33), (2, zi 0)] [] m176 _
          refine X.retv i54_13 rfl t54 ?_
          show X (EE s) d 117 107 [(0, zr g0 8)] [] m176 _
          refine X.cut [] i117_107 rfl ?_
          refine X.iconst 108 i117_107 rfl rfl (by decide) ?_
          refine X.retz i117_108 rfl t117 (by omega) ?_
          exact hQ 0 m176 (by omega) (hJ177.up (by omega))
      · refine X.aload_n 38 i117_37 rfl rfl rfl ?_
        refine X.getR 41 i117_38 rfl rfl (by decide) rfl rfl ?_
        refine X.callv 44 [] [] [(0, zr g0 39)] i117_41 rfl (by decide) rfl rfl (by omega) rfl rfl (by decide) rfl t119 (Nat.le_of_ble_eq_true rfl) (Nat.le_of_ble_eq_true rfl) rfl ?_
        refine X.aload_n 1 i119_0 rfl rfl rfl ?_
        refine X.iconst 2 i119_1 rfl rfl (by decide) ?_
        refine X.putZ' 5 0 i119_2 rfl rfl (by decide) rfl rfl rfl (by omega) (fun hrm178 m178 hm178 => ?_)
        have hJ179 := w39_0 hJ hm178 (by omega)
        refine X.aload_n 6 i119_5 rfl rfl rfl ?_
        refine X.iconst 7 i119_6 rfl rfl (by decide) ?_
        refine X.putI' 10 2 i119_7 rfl rfl (by decide) rfl rfl rfl (fun hrm180 m180 hm180 => ?_)
        have hJ181 := w39_1 hJ179 hm180 (by omega) hrm180
        refine X.aload_n 11 i119_10 rfl rfl rfl ?_
        refine X.iconst 12 i119_11 rfl rfl (by decide) ?_
        refine X.putI' 15 4 i119_12 rfl rfl (by decide) rfl rfl rfl (fun hrm182 m182 hm182 => ?_)
        have hJ183 := w39_1 hJ181 hm182 (by omega) hrm182
        refine X.retv i119_15 rfl t119 ?_
        show X (EE s) d 117 44 [(0, zr g0 8), (1, zi a1)] [] m182 _
        refine X.aload_n 45 i117_44 rfl rfl rfl ?_
        refine X.bipush 47 i117_45 rfl rfl (by decide) ?_
        refine X.iconst 48 i117_47 rfl rfl (by decide) ?_
        refine X.callv 51 [zi 31, zi 0] [] [(0, zr g0 8), (1, zi 31), (2, zi 0)] i117_48 rfl (by decide) rfl rfl (by omega) rfl rfl (by decide) rfl t54 (Nat.le_of_ble_eq_true rfl) (Nat.le_of_ble_eq_true rfl) rfl ?_
        refine X.aload_n 1 i54_0 rfl rfl rfl ?_
        refine X.getR 4 i54_1 rfl rfl (by decide) rfl rfl ?_
        refine X.aload_n 5 i54_4 rfl rfl rfl ?_
        refine X.getI 8 9 i54_5 rfl rfl (by decide) rfl rfl rfl ?_
        have h184 := r8_9 hJ183 g0
        refine X.iload_n 9 i54_8 rfl rfl rfl ?_
        refine X.iload_n 10 i54_9 rfl rfl rfl ?_
        refine X.callv 13 [zi (m182 g0 8 9), zi 31, zi 0] [] [(0, zr g0 37), (1, zi (m182 g0 8 9)), (2, zi 31), (3, zi 0)] i54_10 rfl (by decide) rfl rfl (by omega) rfl rfl (by decide) rfl t55 (Nat.le_of_ble_eq_true rfl) (Nat.le_of_ble_eq_true rfl) rfl ?_
        refine X.aload_n 1 i55_0 rfl rfl rfl ?_
        refine X.getI 4 1 i55_1 rfl rfl (by decide) rfl rfl rfl ?_
        have h185 := r37_1 hJ183 g0
        refine X.bipush 6 i55_4 rfl rfl (by decide) ?_
        refine X.irem 7 i55_6 rfl rfl (by omega) ?_
        refine X.iconst 8 i55_7 rfl rfl (by decide) ?_
        refine X.imul 9 i55_8 rfl rfl (by omega) ?_
        refine X.istore 11 [(0, zr g0 37), (1, zi (m182 g0 8 9)), (2, zi 31), (3, zi 0), (4, zi (((m182 g0 37 1) % 40) * 3))] i55_9 rfl rfl rfl ?_
        refine X.aload_n 12 i55_11 rfl rfl rfl ?_
        refine X.getR 15 i55_12 rfl rfl (by decide) rfl rfl ?_
        refine X.iload 17 i55_15 rfl rfl rfl ?_
        refine X.iload_n 18 i55_17 rfl rfl rfl ?_
        refine X.iast' 19 i55_18 rfl rfl (by decide) rfl (by omega) (fun hrm186 m186 hm186 => ?_)
        have hJ187 := w38_0 hJ183 hm186 (by omega) hrm186
        refine X.aload_n 20 i55_19 rfl rfl rfl ?_
        refine X.getR 23 i55_20 rfl rfl (by decide) rfl rfl ?_
        refine X.iload 25 i55_23 rfl rfl rfl ?_
        refine X.iconst 26 i55_25 rfl rfl (by decide) ?_
        refine X.iadd 27 i55_26 rfl rfl (by omega) ?_
        refine X.iload_n 28 i55_27 rfl rfl rfl ?_
        refine X.iast' 29 i55_28 rfl rfl (by decide) rfl (by omega) (fun hrm188 m188 hm188 => ?_)
        have hJ189 := w38_0 hJ187 hm188 (by omega) hrm188
        refine X.aload_n 30 i55_29 rfl rfl rfl ?_
        refine X.getR 33 i55_30 rfl rfl (by decide) rfl rfl ?_
        refine X.iload 35 i55_33 rfl rfl rfl ?_
        refine X.iconst 36 i55_35 rfl rfl (by decide) ?_
        refine X.iadd 37 i55_36 rfl rfl (by omega) ?_
        refine X.iload_n 38 i55_37 rfl rfl rfl ?_
        refine X.iast' 39 i55_38 rfl rfl (by decide) rfl (by omega) (fun hrm190 m190 hm190 => ?_)
        have hJ191 := w38_0 hJ189 hm190 (by omega) hrm190
        refine X.aload_n 40 i55_39 rfl rfl rfl ?_
        refine X.dup 41 i55_40 rfl rfl rfl ?_
        refine X.getI 44 1 i55_41 rfl rfl (by decide) rfl rfl rfl ?_
        have h192 := r37_1 hJ191 g0
        refine X.iconst 45 i55_44 rfl rfl (by decide) ?_
        refine X.iadd 46 i55_45 rfl rfl (by omega) ?_
        refine X.putI' 49 1 i55_46 rfl rfl (by decide) rfl rfl rfl (fun hrm193 m193 hm193 => ?_)
        have hJ194 := w37_1 (hJ191.up (B' := B + 1) (by omega)) hm193 (by omega)
        refine X.retv i55_49 rfl t55 ?_
        show X (EE s) (d - 1) 54 13 [(0, zr g0 8), (1, zi 31), (2, zi 0)] [] m193 _
        refine X.retv i54_13 rfl t54 ?_
        show X (EE s) d 117 51 [(0, zr g0 8), (1, zi a1)] [] m193 _
        refine X.iconst 52 i117_51 rfl rfl (by decide) ?_
        refine X.retz i117_52 rfl t117 (by omega) ?_
        exact hQ 1 m193 (by omega) (hJ194.up (by omega))
    · refine X.cut [] i117_24 rfl ?_
      refine X.iconst 25 i117_24 rfl rfl (by decide) ?_
      refine X.retz i117_25 rfl t117 (by omega) ?_
      exact hQ 0 m (by omega) (hJ.up (by omega))
-- WorkMeter.open
theorem c116_8 {s : Nat × (Nat → Int32)} {m0 m : zM} {B : Int} {d : Nat} {Q : Option zV → zM → Prop} (g0 : Nat) (a1 : Int) (hd : 15 ≤ d) (hJ : J m0 B m) (hB : B + 2 ≤ 1000000000) (ha1 : (-2147483648) ≤ a1 ∧ a1 ≤ 2147483647) (hQ : ∀ (v : Int) m', (0 ≤ v ∧ v ≤ 1) → J m0 (B + 2) m' → Q (some (zi v)) m') : X (EE s) d 116 0 [(0, zr g0 40), (1, zi a1)] [] m Q := by
  refine X.aload_n 1 i116_0 rfl rfl rfl ?_
  refine X.getF 4 i116_1 rfl rfl (by decide) rfl rfl ?_
  refine X.iload_n 5 i116_4 rfl rfl rfl ?_
  refine X.callv 8 [zi a1] [] [(0, zr 0 8), (1, zi a1)] i116_5 rfl (by decide) rfl rfl (by omega) rfl rfl (by decide) rfl t117 (Nat.le_of_ble_eq_true rfl) (Nat.le_of_ble_eq_true rfl) rfl ?_
  refine c117_7 (B := B) 0 a1 (by omega) hJ (by omega) (by omega) (fun v197 m195 hv197 hJ196 => ?_)
  show X (EE s) d 116 8 [(0, zr g0 40), (1, zi a1)] [zi v197] m195 _
  refine X.retz i116_8 rfl t116 (by omega) ?_
  exact hQ v197 m195 (by omega) (hJ196.up (by omega))
theorem l223_17_3 {s : Nat × (Nat → Int32)} {m0 : zM} {d : Nat} {Q : Option zV → zM → Prop} (g0 : Nat) (y1 y2 : Int) (BE : Int) (hE : BE ≤ 1000000000) (hd : 13 ≤ d) (hy1 : 32 ≤ y1 ∧ y1 ≤ 32) (hy2 : (-9223372036854775808) ≤ y2 ∧ y2 ≤ 9223372036854775807)
    (K54 : ∀ (m' : zM) (B' : Int), J m0 B' m' → B' ≤ BE → X (EE s) d 223 54 [(0, zr g0 44), (1, zi y1), (2, zl y2)] [] m' Q) :
    ∀ (n : Nat) (y4 : Int) (m : zM) (B : Int), J m0 B m → B + 1 * (n : Int) ≤ BE → (3 ≤ y4 ∧ y4 ≤ 120) → 120 - y4 < (n : Int) → X (EE s) d 223 17 [(0, zr g0 44), (1, zi y1), (2, zl y2), (4, zi y4)] [] m Q := by
  intro n
  induction n with
  | zero =>
    intro y4 m B hJ hB hy4 hn
    exfalso
    omega
  | succ n ih =>
    intro y4 m B hJ hB hy4 hn
    refine X.iload 19 i223_17 rfl rfl rfl ?_
    refine X.bipush 21 i223_19 rfl rfl (by decide) ?_
    refine X.icmpge 54 24 i223_21 rfl rfl rfl (fun h229 => ?_) (fun h229 => ?_)
    · refine X.cut [(0, zr g0 44), (1, zi y1), (2, zl y2)] i223_54 rfl ?_
      exact K54  m (B) hJ (by omega) 
    · refine X.aload_n 25 i223_24 rfl rfl rfl ?_
      refine X.getF 28 i223_25 rfl rfl (by decide) rfl rfl ?_
      refine X.sipush 31 i223_28 rfl rfl (by decide) ?_
      refine X.iload 33 i223_31 rfl rfl rfl ?_
      refine X.iadd 34 i223_33 rfl rfl (by omega) ?_
      refine X.iconst 35 i223_34 rfl rfl (by decide) ?_
      refine X.isub 36 i223_35 rfl rfl (by omega) ?_
      refine X.aload_n 37 i223_36 rfl rfl rfl ?_
      refine X.getF 40 i223_37 rfl rfl (by decide) rfl rfl ?_
      refine X.sipush 43 i223_40 rfl rfl (by decide) ?_
      refine X.iload 45 i223_43 rfl rfl rfl ?_
      refine X.iadd 46 i223_45 rfl rfl (by omega) ?_
      refine X.lald 47 i223_46 rfl rfl (by decide) rfl (by omega) ?_
      refine X.last' 48 i223_47 rfl rfl (by decide) rfl (by omega) (fun hrm230 m230 hm230 => ?_)
      have hJ231 := w45_788 hJ hm230 (by omega) hrm230
      refine X.iinc 51 [(0, zr g0 44), (1, zi y1), (2, zl y2), (4, zi (y4 + 1))] i223_48 rfl rfl rfl (by omega) rfl ?_
      refine X.goto 17 i223_51 rfl rfl ?_
      exact ih (y4 + 1) m230 (B) hJ231 (by omega) (by omega) (by omega)
-- WorkMeterModel.logs
theorem c223_9 {s : Nat × (Nat → Int32)} {m0 m : zM} {B : Int} {d : Nat} {Q : Option zV → zM → Prop} (g0 : Nat) (a1 a2 : Int) (hd : 13 ≤ d) (hJ : J m0 B m) (hB : B + 119 ≤ 1000000000) (ha1 : 32 ≤ a1 ∧ a1 ≤ 32) (ha2 : (-9223372036854775808) ≤ a2 ∧ a2 ≤ 9223372036854775807) (hQ : ∀ m', J m0 (B + 119) m' → Q none m') : X (EE s) d 223 0 [(0, zr g0 44), (1, zi a1), (2, zl a2)] [] m Q := by
  refine X.aload_n 1 i223_0 rfl rfl rfl ?_
  refine X.getF 4 i223_1 rfl rfl (by decide) rfl rfl ?_
  refine X.bipush 6 i223_4 rfl rfl (by decide) ?_
  refine X.lald 7 i223_6 rfl rfl (by decide) rfl (by omega) ?_
  have h211 := r45_16 hJ 4
  refine X.ldc2 10 i223_7 rfl rfl (by decide) ?_
  refine X.lcmp 11 i223_10 rfl rfl (fun z212 hz212 => ?_)
  refine X.iflt 54 14 i223_11 rfl rfl rfl (fun h213 => ?_) (fun h213 => ?_)
  · have h213c : (m 4 45 16) < 40 := by omega
    clear h213 hz212
    refine X.sipush 57 i223_54 rfl rfl (by decide) ?_
    refine X.iconst 58 i223_57 rfl rfl (by decide) ?_
    refine X.aload_n 59 i223_58 rfl rfl rfl ?_
    refine X.getF 62 i223_59 rfl rfl (by decide) rfl rfl ?_
    refine X.bipush 64 i223_62 rfl rfl (by decide) ?_
    refine X.lald 65 i223_64 rfl rfl (by decide) rfl (by omega) ?_
    refine X.ldc2 68 i223_65 rfl rfl (by decide) ?_
    refine X.lcmp 69 i223_68 rfl rfl (fun z214 hz214 => ?_)
    refine X.ifge 82 72 i223_69 rfl rfl rfl (fun h215 => (by exfalso; omega)) (fun h215 => ?_)
    have h215c : (m 4 45 16) < 40 := by omega
    clear h215 hz214
    refine X.aload_n 73 i223_72 rfl rfl rfl ?_
    refine X.getF 76 i223_73 rfl rfl (by decide) rfl rfl ?_
    refine X.bipush 78 i223_76 rfl rfl (by decide) ?_
    refine X.lald 79 i223_78 rfl rfl (by decide) rfl (by omega) ?_
    refine X.goto 85 i223_79 rfl rfl ?_
    refine X.l2i 86 i223_85 rfl rfl (by omega) ?_
    refine X.imul 87 i223_86 rfl rfl (by omega) ?_
    refine X.iadd 88 i223_87 rfl rfl (by omega) ?_
    refine X.istore 90 [(0, zr g0 44), (1, zi a1), (2, zl a2), (4, zi (1487 + (3 * (m 4 45 16))))] i223_88 rfl rfl rfl ?_
    refine X.aload_n 91 i223_90 rfl rfl rfl ?_
    refine X.getF 94 i223_91 rfl rfl (by decide) rfl rfl ?_
    refine X.iload 96 i223_94 rfl rfl rfl ?_
    refine X.aload_n 97 i223_96 rfl rfl rfl ?_
    refine X.getF 100 i223_97 rfl rfl (by decide) rfl rfl ?_
    refine X.iconst 101 i223_100 rfl rfl (by decide) ?_
    refine X.lald 102 i223_101 rfl rfl (by decide) rfl (by omega) ?_
    have h216 := r45_0 hJ 4
    refine X.last' 103 i223_102 rfl rfl (by decide) rfl (by omega) (fun hrm217 m217 hm217 => ?_)
    have hJ218 := w45_788 hJ hm217 (by omega) hrm217
    refine X.aload_n 104 i223_103 rfl rfl rfl ?_
    refine X.getF 107 i223_104 rfl rfl (by decide) rfl rfl ?_
    refine X.iload 109 i223_107 rfl rfl rfl ?_
    refine X.iconst 110 i223_109 rfl rfl (by decide) ?_
    refine X.iadd 111 i223_110 rfl rfl (by omega) ?_
    refine X.iload_n 112 i223_111 rfl rfl rfl ?_
    refine X.i2l 113 i223_112 rfl rfl ?_
    refine X.last' 114 i223_113 rfl rfl (by decide) rfl (by omega) (fun hrm219 m219 hm219 => ?_)
    have hJ220 := w45_788 hJ218 hm219 (by omega) hrm219
    refine X.aload_n 115 i223_114 rfl rfl rfl ?_
    refine X.getF 118 i223_115 rfl rfl (by decide) rfl rfl ?_
    refine X.iload 120 i223_118 rfl rfl rfl ?_
    refine X.iconst 121 i223_120 rfl rfl (by decide) ?_
    refine X.iadd 122 i223_121 rfl rfl (by omega) ?_
    refine X.lload_n 123 i223_122 rfl rfl rfl ?_
    refine X.last' 124 i223_123 rfl rfl (by decide) rfl (by omega) (fun hrm221 m221 hm221 => ?_)
    have hJ222 := w45_788 hJ220 hm221 (by omega) hrm221
    refine X.aload_n 125 i223_124 rfl rfl rfl ?_
    refine X.getF 128 i223_125 rfl rfl (by decide) rfl rfl ?_
    refine X.bipush 130 i223_128 rfl rfl (by decide) ?_
    refine X.dup2 131 i223_130 rfl rfl ?_
    refine X.lald 132 i223_131 rfl rfl (by decide) rfl (by omega) ?_
    have h223 := r45_16 hJ222 4
    refine X.lconst (y := 1) 133 i223_132 rfl rfl rfl ?_
    refine X.ladd 134 i223_133 rfl rfl (by omega) ?_
    refine X.last' 135 i223_134 rfl rfl (by decide) rfl (by omega) (fun hrm224 m224 hm224 => ?_)
    have hJ225 := w45_16 (hJ222.up (B' := B + 1) (by omega)) hm224 (by omega)
    refine X.retv i223_135 rfl t223 ?_
    exact hQ m224 (hJ225.up (by omega))
  · have h213c : (m 4 45 16) ≥ 40 := by omega
    clear h213 hz212
    refine X.iconst 15 i223_14 rfl rfl (by decide) ?_
    refine X.istore 17 [(0, zr g0 44), (1, zi a1), (2, zl a2), (4, zi 3)] i223_15 rfl rfl rfl ?_
    refine l223_17_3 (s := s) (m0 := m0) (d := d) g0 a1 a2 (BE := B + 118) (by omega) (by omega) (by omega) (by omega) (fun  m232 B233 hJ234 hBB233 => ?_) ((120 - 3).toNat + 1) 3 m (B) hJ (by omega) (by omega) (by omega)
    refine X.sipush 57 i223_54 rfl rfl (by decide) ?_
    refine X.iconst 58 i223_57 rfl rfl (by decide) ?_
    refine X.aload_n 59 i223_58 rfl rfl rfl ?_
    refine X.getF 62 i223_59 rfl rfl (by decide) rfl rfl ?_
    refine X.bipush 64 i223_62 rfl rfl (by decide) ?_
    refine X.lald 65 i223_64 rfl rfl (by decide) rfl (by omega) ?_
    have h235 := r45_16 hJ234 4
    refine X.ldc2 68 i223_65 rfl rfl (by decide) ?_
    refine X.lcmp 69 i223_68 rfl rfl (fun z236 hz236 => ?_)
    refine X.ifge 82 72 i223_69 rfl rfl rfl (fun h237 => ?_) (fun h237 => ?_)
    · have h237c : (m232 4 45 16) ≥ 40 := by omega
      clear h237 hz236
      refine X.ldc2 85 i223_82 rfl rfl (by decide) ?_
      refine X.l2i 86 i223_85 rfl rfl (by omega) ?_
      refine X.imul 87 i223_86 rfl rfl (by omega) ?_
      refine X.iadd 88 i223_87 rfl rfl (by omega) ?_
      refine X.istore 90 [(0, zr g0 44), (1, zi a1), (2, zl a2), (4, zi (1487 + (3 * 39)))] i223_88 rfl rfl rfl ?_
      refine X.aload_n 91 i223_90 rfl rfl rfl ?_
      refine X.getF 94 i223_91 rfl rfl (by decide) rfl rfl ?_
      refine X.iload 96 i223_94 rfl rfl rfl ?_
      refine X.aload_n 97 i223_96 rfl rfl rfl ?_
      refine X.getF 100 i223_97 rfl rfl (by decide) rfl rfl ?_
      refine X.iconst 101 i223_100 rfl rfl (by decide) ?_
      refine X.lald 102 i223_101 rfl rfl (by decide) rfl (by omega) ?_
      have h238 := r45_0 hJ234 4
      refine X.last' 103 i223_102 rfl rfl (by decide) rfl (by omega) (fun hrm239 m239 hm239 => ?_)
      have hJ240 := w45_788 hJ234 hm239 (by omega) hrm239
      refine X.aload_n 104 i223_103 rfl rfl rfl ?_
      refine X.getF 107 i223_104 rfl rfl (by decide) rfl rfl ?_
      refine X.iload 109 i223_107 rfl rfl rfl ?_
      refine X.iconst 110 i223_109 rfl rfl (by decide) ?_
      refine X.iadd 111 i223_110 rfl rfl (by omega) ?_
      refine X.iload_n 112 i223_111 rfl rfl rfl ?_
      refine X.i2l 113 i223_112 rfl rfl ?_
      refine X.last' 114 i223_113 rfl rfl (by decide) rfl (by omega) (fun hrm241 m241 hm241 => ?_)
      have hJ242 := w45_788 hJ240 hm241 (by omega) hrm241
      refine X.aload_n 115 i223_114 rfl rfl rfl ?_
      refine X.getF 118 i223_115 rfl rfl (by decide) rfl rfl ?_
      refine X.iload 120 i223_118 rfl rfl rfl ?_
      refine X.iconst 121 i223_120 rfl rfl (by decide) ?_
      refine X.iadd 122 i223_121 rfl rfl (by omega) ?_
      refine X.lload_n 123 i223_122 rfl rfl rfl ?_
      refine X.last' 124 i223_123 rfl rfl (by decide) rfl (by omega) (fun hrm243 m243 hm243 => ?_)
      have hJ244 := w45_788 hJ242 hm243 (by omega) hrm243
      refine X.aload_n 125 i223_124 rfl rfl rfl ?_
      refine X.getF 128 i223_125 rfl rfl (by decide) rfl rfl ?_
      refine X.bipush 130 i223_128 rfl rfl (by decide) ?_
      refine X.dup2 131 i223_130 rfl rfl ?_
      refine X.lald 132 i223_131 rfl rfl (by decide) rfl (by omega) ?_
      have h245 := r45_16 hJ244 4
      refine X.lconst (y := 1) 133 i223_132 rfl rfl rfl ?_
      refine X.ladd 134 i223_133 rfl rfl (by omega) ?_
      refine X.last' 135 i223_134 rfl rfl (by decide) rfl (by omega) (fun hrm246 m246 hm246 => ?_)
      have hJ247 := w45_16 (hJ244.up (B' := B233 + 1) (by omega)) hm246 (by omega)
      refine X.retv i223_135 rfl t223 ?_
      exact hQ m246 (hJ247.up (by omega))
    · have h237c : (m232 4 45 16) < 40 := by omega
      clear h237 hz236
      refine X.aload_n 73 i223_72 rfl rfl rfl ?_
      refine X.getF 76 i223_73 rfl rfl (by decide) rfl rfl ?_
      refine X.bipush 78 i223_76 rfl rfl (by decide) ?_
      refine X.lald 79 i223_78 rfl rfl (by decide) rfl (by omega) ?_
      refine X.goto 85 i223_79 rfl rfl ?_
      refine X.l2i 86 i223_85 rfl rfl (by omega) ?_
      refine X.imul 87 i223_86 rfl rfl (by omega) ?_
      refine X.iadd 88 i223_87 rfl rfl (by omega) ?_
      refine X.istore 90 [(0, zr g0 44), (1, zi a1), (2, zl a2), (4, zi (1487 + (3 * (m232 4 45 16))))] i223_88 rfl rfl rfl ?_
      refine X.aload_n 91 i223_90 rfl rfl rfl ?_
      refine X.getF 94 i223_91 rfl rfl (by decide) rfl rfl ?_
      refine X.iload 96 i223_94 rfl rfl rfl ?_
      refine X.aload_n 97 i223_96 rfl rfl rfl ?_
      refine X.getF 100 i223_97 rfl rfl (by decide) rfl rfl ?_
      refine X.iconst 101 i223_100 rfl rfl (by decide) ?_
      refine X.lald 102 i223_101 rfl rfl (by decide) rfl (by omega) ?_
      have h248 := r45_0 hJ234 4
      refine X.last' 103 i223_102 rfl rfl (by decide) rfl (by omega) (fun hrm249 m249 hm249 => ?_)
      have hJ250 := w45_788 hJ234 hm249 (by omega) hrm249
      refine X.aload_n 104 i223_103 rfl rfl rfl ?_
      refine X.getF 107 i223_104 rfl rfl (by decide) rfl rfl ?_
      refine X.iload 109 i223_107 rfl rfl rfl ?_
      refine X.iconst 110 i223_109 rfl rfl (by decide) ?_
      refine X.iadd 111 i223_110 rfl rfl (by omega) ?_
      refine X.iload_n 112 i223_111 rfl rfl rfl ?_
      refine X.i2l 113 i223_112 rfl rfl ?_
      refine X.last' 114 i223_113 rfl rfl (by decide) rfl (by omega) (fun hrm251 m251 hm251 => ?_)
      have hJ252 := w45_788 hJ250 hm251 (by omega) hrm251
      refine X.aload_n 115 i223_114 rfl rfl rfl ?_
      refine X.getF 118 i223_115 rfl rfl (by decide) rfl rfl ?_
      refine X.iload 120 i223_118 rfl rfl rfl ?_
      refine X.iconst 121 i223_120 rfl rfl (by decide) ?_
      refine X.iadd 122 i223_121 rfl rfl (by omega) ?_
      refine X.lload_n 123 i223_122 rfl rfl rfl ?_
      refine X.last' 124 i223_123 rfl rfl (by decide) rfl (by omega) (fun hrm253 m253 hm253 => ?_)
      have hJ254 := w45_788 hJ252 hm253 (by omega) hrm253
      refine X.aload_n 125 i223_124 rfl rfl rfl ?_
      refine X.getF 128 i223_125 rfl rfl (by decide) rfl rfl ?_
      refine X.bipush 130 i223_128 rfl rfl (by decide) ?_
      refine X.dup2 131 i223_130 rfl rfl ?_
      refine X.lald 132 i223_131 rfl rfl (by decide) rfl (by omega) ?_
      have h255 := r45_16 hJ254 4
      refine X.lconst (y := 1) 133 i223_132 rfl rfl rfl ?_
      refine X.ladd 134 i223_133 rfl rfl (by omega) ?_
      refine X.last' 135 i223_134 rfl rfl (by decide) rfl (by omega) (fun hrm256 m256 hm256 => ?_)
      have hJ257 := w45_16 (hJ254.up (B' := B233 + 1) (by omega)) hm256 (by omega)
      refine X.retv i223_135 rfl t223 ?_
      exact hQ m256 (hJ257.up (by omega))
theorem l223_17_4 {s : Nat × (Nat → Int32)} {m0 : zM} {d : Nat} {Q : Option zV → zM → Prop} (g0 : Nat) (y1 y2 : Int) (BE : Int) (hE : BE ≤ 1000000000) (hd : 13 ≤ d) (hy1 : 33 ≤ y1 ∧ y1 ≤ 33) (hy2 : 0 ≤ y2 ∧ y2 ≤ 0)
    (K54 : ∀ (m' : zM) (B' : Int), J m0 B' m' → B' ≤ BE → X (EE s) d 223 54 [(0, zr g0 44), (1, zi y1), (2, zl y2)] [] m' Q) :
    ∀ (n : Nat) (y4 : Int) (m : zM) (B : Int), J m0 B m → B + 1 * (n : Int) ≤ BE → (3 ≤ y4 ∧ y4 ≤ 120) → 120 - y4 < (n : Int) → X (EE s) d 223 17 [(0, zr g0 44), (1, zi y1), (2, zl y2), (4, zi y4)] [] m Q := by
  intro n
  induction n with
  | zero =>
    intro y4 m B hJ hB hy4 hn
    exfalso
    omega
  | succ n ih =>
    intro y4 m B hJ hB hy4 hn
    refine X.iload 19 i223_17 rfl rfl rfl ?_
    refine X.bipush 21 i223_19 rfl rfl (by decide) ?_
    refine X.icmpge 54 24 i223_21 rfl rfl rfl (fun h285 => ?_) (fun h285 => ?_)
    · refine X.cut [(0, zr g0 44), (1, zi y1), (2, zl y2)] i223_54 rfl ?_
      exact K54  m (B) hJ (by omega) 
    · refine X.aload_n 25 i223_24 rfl rfl rfl ?_
      refine X.getF 28 i223_25 rfl rfl (by decide) rfl rfl ?_
      refine X.sipush 31 i223_28 rfl rfl (by decide) ?_
      refine X.iload 33 i223_31 rfl rfl rfl ?_
      refine X.iadd 34 i223_33 rfl rfl (by omega) ?_
      refine X.iconst 35 i223_34 rfl rfl (by decide) ?_
      refine X.isub 36 i223_35 rfl rfl (by omega) ?_
      refine X.aload_n 37 i223_36 rfl rfl rfl ?_
      refine X.getF 40 i223_37 rfl rfl (by decide) rfl rfl ?_
      refine X.sipush 43 i223_40 rfl rfl (by decide) ?_
      refine X.iload 45 i223_43 rfl rfl rfl ?_
      refine X.iadd 46 i223_45 rfl rfl (by omega) ?_
      refine X.lald 47 i223_46 rfl rfl (by decide) rfl (by omega) ?_
      refine X.last' 48 i223_47 rfl rfl (by decide) rfl (by omega) (fun hrm286 m286 hm286 => ?_)
      have hJ287 := w45_788 hJ hm286 (by omega) hrm286
      refine X.iinc 51 [(0, zr g0 44), (1, zi y1), (2, zl y2), (4, zi (y4 + 1))] i223_48 rfl rfl rfl (by omega) rfl ?_
      refine X.goto 17 i223_51 rfl rfl ?_
      exact ih (y4 + 1) m286 (B) hJ287 (by omega) (by omega) (by omega)
-- WorkMeterModel.logs
theorem c223_10 {s : Nat × (Nat → Int32)} {m0 m : zM} {B : Int} {d : Nat} {Q : Option zV → zM → Prop} (g0 : Nat) (a1 a2 : Int) (hd : 13 ≤ d) (hJ : J m0 B m) (hB : B + 119 ≤ 1000000000) (ha1 : 33 ≤ a1 ∧ a1 ≤ 33) (ha2 : 0 ≤ a2 ∧ a2 ≤ 0) (hQ : ∀ m', J m0 (B + 119) m' → Q none m') : X (EE s) d 223 0 [(0, zr g0 44), (1, zi a1), (2, zl a2)] [] m Q := by
  refine X.aload_n 1 i223_0 rfl rfl rfl ?_
  refine X.getF 4 i223_1 rfl rfl (by decide) rfl rfl ?_
  refine X.bipush 6 i223_4 rfl rfl (by decide) ?_
  refine X.lald 7 i223_6 rfl rfl (by decide) rfl (by omega) ?_
  have h267 := r45_16 hJ 4
  refine X.ldc2 10 i223_7 rfl rfl (by decide) ?_
  refine X.lcmp 11 i223_10 rfl rfl (fun z268 hz268 => ?_)
  refine X.iflt 54 14 i223_11 rfl rfl rfl (fun h269 => ?_) (fun h269 => ?_)
  · have h269c : (m 4 45 16) < 40 := by omega
    clear h269 hz268
    refine X.sipush 57 i223_54 rfl rfl (by decide) ?_
    refine X.iconst 58 i223_57 rfl rfl (by decide) ?_
    refine X.aload_n 59 i223_58 rfl rfl rfl ?_
    refine X.getF 62 i223_59 rfl rfl (by decide) rfl rfl ?_
    refine X.bipush 64 i223_62 rfl rfl (by decide) ?_
    refine X.lald 65 i223_64 rfl rfl (by decide) rfl (by omega) ?_
    refine X.ldc2 68 i223_65 rfl rfl (by decide) ?_
    refine X.lcmp 69 i223_68 rfl rfl (fun z270 hz270 => ?_)
    refine X.ifge 82 72 i223_69 rfl rfl rfl (fun h271 => (by exfalso; omega)) (fun h271 => ?_)
    have h271c : (m 4 45 16) < 40 := by omega
    clear h271 hz270
    refine X.aload_n 73 i223_72 rfl rfl rfl ?_
    refine X.getF 76 i223_73 rfl rfl (by decide) rfl rfl ?_
    refine X.bipush 78 i223_76 rfl rfl (by decide) ?_
    refine X.lald 79 i223_78 rfl rfl (by decide) rfl (by omega) ?_
    refine X.goto 85 i223_79 rfl rfl ?_
    refine X.l2i 86 i223_85 rfl rfl (by omega) ?_
    refine X.imul 87 i223_86 rfl rfl (by omega) ?_
    refine X.iadd 88 i223_87 rfl rfl (by omega) ?_
    refine X.istore 90 [(0, zr g0 44), (1, zi a1), (2, zl a2), (4, zi (1487 + (3 * (m 4 45 16))))] i223_88 rfl rfl rfl ?_
    refine X.aload_n 91 i223_90 rfl rfl rfl ?_
    refine X.getF 94 i223_91 rfl rfl (by decide) rfl rfl ?_
    refine X.iload 96 i223_94 rfl rfl rfl ?_
    refine X.aload_n 97 i223_96 rfl rfl rfl ?_
    refine X.getF 100 i223_97 rfl rfl (by decide) rfl rfl ?_
    refine X.iconst 101 i223_100 rfl rfl (by decide) ?_
    refine X.lald 102 i223_101 rfl rfl (by decide) rfl (by omega) ?_
    have h272 := r45_0 hJ 4
    refine X.last' 103 i223_102 rfl rfl (by decide) rfl (by omega) (fun hrm273 m273 hm273 => ?_)
    have hJ274 := w45_788 hJ hm273 (by omega) hrm273
    refine X.aload_n 104 i223_103 rfl rfl rfl ?_
    refine X.getF 107 i223_104 rfl rfl (by decide) rfl rfl ?_
    refine X.iload 109 i223_107 rfl rfl rfl ?_
    refine X.iconst 110 i223_109 rfl rfl (by decide) ?_
    refine X.iadd 111 i223_110 rfl rfl (by omega) ?_
    refine X.iload_n 112 i223_111 rfl rfl rfl ?_
    refine X.i2l 113 i223_112 rfl rfl ?_
    refine X.last' 114 i223_113 rfl rfl (by decide) rfl (by omega) (fun hrm275 m275 hm275 => ?_)
    have hJ276 := w45_788 hJ274 hm275 (by omega) hrm275
    refine X.aload_n 115 i223_114 rfl rfl rfl ?_
    refine X.getF 118 i223_115 rfl rfl (by decide) rfl rfl ?_
    refine X.iload 120 i223_118 rfl rfl rfl ?_
    refine X.iconst 121 i223_120 rfl rfl (by decide) ?_
    refine X.iadd 122 i223_121 rfl rfl (by omega) ?_
    refine X.lload_n 123 i223_122 rfl rfl rfl ?_
    refine X.last' 124 i223_123 rfl rfl (by decide) rfl (by omega) (fun hrm277 m277 hm277 => ?_)
    have hJ278 := w45_788 hJ276 hm277 (by omega) hrm277
    refine X.aload_n 125 i223_124 rfl rfl rfl ?_
    refine X.getF 128 i223_125 rfl rfl (by decide) rfl rfl ?_
    refine X.bipush 130 i223_128 rfl rfl (by decide) ?_
    refine X.dup2 131 i223_130 rfl rfl ?_
    refine X.lald 132 i223_131 rfl rfl (by decide) rfl (by omega) ?_
    have h279 := r45_16 hJ278 4
    refine X.lconst (y := 1) 133 i223_132 rfl rfl rfl ?_
    refine X.ladd 134 i223_133 rfl rfl (by omega) ?_
    refine X.last' 135 i223_134 rfl rfl (by decide) rfl (by omega) (fun hrm280 m280 hm280 => ?_)
    have hJ281 := w45_16 (hJ278.up (B' := B + 1) (by omega)) hm280 (by omega)
    refine X.retv i223_135 rfl t223 ?_
    exact hQ m280 (hJ281.up (by omega))
  · have h269c : (m 4 45 16) ≥ 40 := by omega
    clear h269 hz268
    refine X.iconst 15 i223_14 rfl rfl (by decide) ?_
    refine X.istore 17 [(0, zr g0 44), (1, zi a1), (2, zl a2), (4, zi 3)] i223_15 rfl rfl rfl ?_
    refine l223_17_4 (s := s) (m0 := m0) (d := d) g0 a1 a2 (BE := B + 118) (by omega) (by omega) (by omega) (by omega) (fun  m288 B289 hJ290 hBB289 => ?_) ((120 - 3).toNat + 1) 3 m (B) hJ (by omega) (by omega) (by omega)
    refine X.sipush 57 i223_54 rfl rfl (by decide) ?_
    refine X.iconst 58 i223_57 rfl rfl (by decide) ?_
    refine X.aload_n 59 i223_58 rfl rfl rfl ?_
    refine X.getF 62 i223_59 rfl rfl (by decide) rfl rfl ?_
    refine X.bipush 64 i223_62 rfl rfl (by decide) ?_
    refine X.lald 65 i223_64 rfl rfl (by decide) rfl (by omega) ?_
    have h291 := r45_16 hJ290 4
    refine X.ldc2 68 i223_65 rfl rfl (by decide) ?_
    refine X.lcmp 69 i223_68 rfl rfl (fun z292 hz292 => ?_)
    refine X.ifge 82 72 i223_69 rfl rfl rfl (fun h293 => ?_) (fun h293 => ?_)
    · have h293c : (m288 4 45 16) ≥ 40 := by omega
      clear h293 hz292
      refine X.ldc2 85 i223_82 rfl rfl (by decide) ?_
      refine X.l2i 86 i223_85 rfl rfl (by omega) ?_
      refine X.imul 87 i223_86 rfl rfl (by omega) ?_
      refine X.iadd 88 i223_87 rfl rfl (by omega) ?_
      refine X.istore 90 [(0, zr g0 44), (1, zi a1), (2, zl a2), (4, zi (1487 + (3 * 39)))] i223_88 rfl rfl rfl ?_
      refine X.aload_n 91 i223_90 rfl rfl rfl ?_
      refine X.getF 94 i223_91 rfl rfl (by decide) rfl rfl ?_
      refine X.iload 96 i223_94 rfl rfl rfl ?_
      refine X.aload_n 97 i223_96 rfl rfl rfl ?_
      refine X.getF 100 i223_97 rfl rfl (by decide) rfl rfl ?_
      refine X.iconst 101 i223_100 rfl rfl (by decide) ?_
      refine X.lald 102 i223_101 rfl rfl (by decide) rfl (by omega) ?_
      have h294 := r45_0 hJ290 4
      refine X.last' 103 i223_102 rfl rfl (by decide) rfl (by omega) (fun hrm295 m295 hm295 => ?_)
      have hJ296 := w45_788 hJ290 hm295 (by omega) hrm295
      refine X.aload_n 104 i223_103 rfl rfl rfl ?_
      refine X.getF 107 i223_104 rfl rfl (by decide) rfl rfl ?_
      refine X.iload 109 i223_107 rfl rfl rfl ?_
      refine X.iconst 110 i223_109 rfl rfl (by decide) ?_
      refine X.iadd 111 i223_110 rfl rfl (by omega) ?_
      refine X.iload_n 112 i223_111 rfl rfl rfl ?_
      refine X.i2l 113 i223_112 rfl rfl ?_
      refine X.last' 114 i223_113 rfl rfl (by decide) rfl (by omega) (fun hrm297 m297 hm297 => ?_)
      have hJ298 := w45_788 hJ296 hm297 (by omega) hrm297
      refine X.aload_n 115 i223_114 rfl rfl rfl ?_
      refine X.getF 118 i223_115 rfl rfl (by decide) rfl rfl ?_
      refine X.iload 120 i223_118 rfl rfl rfl ?_
      refine X.iconst 121 i223_120 rfl rfl (by decide) ?_
      refine X.iadd 122 i223_121 rfl rfl (by omega) ?_
      refine X.lload_n 123 i223_122 rfl rfl rfl ?_
      refine X.last' 124 i223_123 rfl rfl (by decide) rfl (by omega) (fun hrm299 m299 hm299 => ?_)
      have hJ300 := w45_788 hJ298 hm299 (by omega) hrm299
      refine X.aload_n 125 i223_124 rfl rfl rfl ?_
      refine X.getF 128 i223_125 rfl rfl (by decide) rfl rfl ?_
      refine X.bipush 130 i223_128 rfl rfl (by decide) ?_
      refine X.dup2 131 i223_130 rfl rfl ?_
      refine X.lald 132 i223_131 rfl rfl (by decide) rfl (by omega) ?_
      have h301 := r45_16 hJ300 4
      refine X.lconst (y := 1) 133 i223_132 rfl rfl rfl ?_
      refine X.ladd 134 i223_133 rfl rfl (by omega) ?_
      refine X.last' 135 i223_134 rfl rfl (by decide) rfl (by omega) (fun hrm302 m302 hm302 => ?_)
      have hJ303 := w45_16 (hJ300.up (B' := B289 + 1) (by omega)) hm302 (by omega)
      refine X.retv i223_135 rfl t223 ?_
      exact hQ m302 (hJ303.up (by omega))
    · have h293c : (m288 4 45 16) < 40 := by omega
      clear h293 hz292
      refine X.aload_n 73 i223_72 rfl rfl rfl ?_
      refine X.getF 76 i223_73 rfl rfl (by decide) rfl rfl ?_
      refine X.bipush 78 i223_76 rfl rfl (by decide) ?_
      refine X.lald 79 i223_78 rfl rfl (by decide) rfl (by omega) ?_
      refine X.goto 85 i223_79 rfl rfl ?_
      refine X.l2i 86 i223_85 rfl rfl (by omega) ?_
      refine X.imul 87 i223_86 rfl rfl (by omega) ?_
      refine X.iadd 88 i223_87 rfl rfl (by omega) ?_
      refine X.istore 90 [(0, zr g0 44), (1, zi a1), (2, zl a2), (4, zi (1487 + (3 * (m288 4 45 16))))] i223_88 rfl rfl rfl ?_
      refine X.aload_n 91 i223_90 rfl rfl rfl ?_
      refine X.getF 94 i223_91 rfl rfl (by decide) rfl rfl ?_
      refine X.iload 96 i223_94 rfl rfl rfl ?_
      refine X.aload_n 97 i223_96 rfl rfl rfl ?_
      refine X.getF 100 i223_97 rfl rfl (by decide) rfl rfl ?_
      refine X.iconst 101 i223_100 rfl rfl (by decide) ?_
      refine X.lald 102 i223_101 rfl rfl (by decide) rfl (by omega) ?_
      have h304 := r45_0 hJ290 4
      refine X.last' 103 i223_102 rfl rfl (by decide) rfl (by omega) (fun hrm305 m305 hm305 => ?_)
      have hJ306 := w45_788 hJ290 hm305 (by omega) hrm305
      refine X.aload_n 104 i223_103 rfl rfl rfl ?_
      refine X.getF 107 i223_104 rfl rfl (by decide) rfl rfl ?_
      refine X.iload 109 i223_107 rfl rfl rfl ?_
      refine X.iconst 110 i223_109 rfl rfl (by decide) ?_
      refine X.iadd 111 i223_110 rfl rfl (by omega) ?_
      refine X.iload_n 112 i223_111 rfl rfl rfl ?_
      refine X.i2l 113 i223_112 rfl rfl ?_
      refine X.last' 114 i223_113 rfl rfl (by decide) rfl (by omega) (fun hrm307 m307 hm307 => ?_)
      have hJ308 := w45_788 hJ306 hm307 (by omega) hrm307
      refine X.aload_n 115 i223_114 rfl rfl rfl ?_
      refine X.getF 118 i223_115 rfl rfl (by decide) rfl rfl ?_
      refine X.iload 120 i223_118 rfl rfl rfl ?_
      refine X.iconst 121 i223_120 rfl rfl (by decide) ?_
      refine X.iadd 122 i223_121 rfl rfl (by omega) ?_
      refine X.lload_n 123 i223_122 rfl rfl rfl ?_
      refine X.last' 124 i223_123 rfl rfl (by decide) rfl (by omega) (fun hrm309 m309 hm309 => ?_)
      have hJ310 := w45_788 hJ308 hm309 (by omega) hrm309
      refine X.aload_n 125 i223_124 rfl rfl rfl ?_
      refine X.getF 128 i223_125 rfl rfl (by decide) rfl rfl ?_
      refine X.bipush 130 i223_128 rfl rfl (by decide) ?_
      refine X.dup2 131 i223_130 rfl rfl ?_
      refine X.lald 132 i223_131 rfl rfl (by decide) rfl (by omega) ?_
      have h311 := r45_16 hJ310 4
      refine X.lconst (y := 1) 133 i223_132 rfl rfl rfl ?_
      refine X.ladd 134 i223_133 rfl rfl (by omega) ?_
      refine X.last' 135 i223_134 rfl rfl (by decide) rfl (by omega) (fun hrm312 m312 hm312 => ?_)
      have hJ313 := w45_16 (hJ310.up (B' := B289 + 1) (by omega)) hm312 (by omega)
      refine X.retv i223_135 rfl t223 ?_
      exact hQ m312 (hJ313.up (by omega))
theorem l223_17_5 {s : Nat × (Nat → Int32)} {m0 : zM} {d : Nat} {Q : Option zV → zM → Prop} (g0 : Nat) (y1 y2 : Int) (BE : Int) (hE : BE ≤ 1000000000) (hd : 13 ≤ d) (hy1 : 31 ≤ y1 ∧ y1 ≤ 31) (hy2 : 0 ≤ y2 ∧ y2 ≤ 0)
    (K54 : ∀ (m' : zM) (B' : Int), J m0 B' m' → B' ≤ BE → X (EE s) d 223 54 [(0, zr g0 44), (1, zi y1), (2, zl y2)] [] m' Q) :
    ∀ (n : Nat) (y4 : Int) (m : zM) (B : Int), J m0 B m → B + 1 * (n : Int) ≤ BE → (3 ≤ y4 ∧ y4 ≤ 120) → 120 - y4 < (n : Int) → X (EE s) d 223 17 [(0, zr g0 44), (1, zi y1), (2, zl y2), (4, zi y4)] [] m Q := by
  intro n
  induction n with
  | zero =>
    intro y4 m B hJ hB hy4 hn
    exfalso
    omega
  | succ n ih =>
    intro y4 m B hJ hB hy4 hn
    refine X.iload 19 i223_17 rfl rfl rfl ?_
    refine X.bipush 21 i223_19 rfl rfl (by decide) ?_
    refine X.icmpge 54 24 i223_21 rfl rfl rfl (fun h340 => ?_) (fun h340 => ?_)
    · refine X.cut [(0, zr g0 44), (1, zi y1), (2, zl y2)] i223_54 rfl ?_
      exact K54  m (B) hJ (by omega) 
    · refine X.aload_n 25 i223_24 rfl rfl rfl ?_
      refine X.getF 28 i223_25 rfl rfl (by decide) rfl rfl ?_
      refine X.sipush 31 i223_28 rfl rfl (by decide) ?_
      refine X.iload 33 i223_31 rfl rfl rfl ?_
      refine X.iadd 34 i223_33 rfl rfl (by omega) ?_
      refine X.iconst 35 i223_34 rfl rfl (by decide) ?_
      refine X.isub 36 i223_35 rfl rfl (by omega) ?_
      refine X.aload_n 37 i223_36 rfl rfl rfl ?_
      refine X.getF 40 i223_37 rfl rfl (by decide) rfl rfl ?_
      refine X.sipush 43 i223_40 rfl rfl (by decide) ?_
      refine X.iload 45 i223_43 rfl rfl rfl ?_
      refine X.iadd 46 i223_45 rfl rfl (by omega) ?_
      refine X.lald 47 i223_46 rfl rfl (by decide) rfl (by omega) ?_
      refine X.last' 48 i223_47 rfl rfl (by decide) rfl (by omega) (fun hrm341 m341 hm341 => ?_)
      have hJ342 := w45_788 hJ hm341 (by omega) hrm341
      refine X.iinc 51 [(0, zr g0 44), (1, zi y1), (2, zl y2), (4, zi (y4 + 1))] i223_48 rfl rfl rfl (by omega) rfl ?_
      refine X.goto 17 i223_51 rfl rfl ?_
      exact ih (y4 + 1) m341 (B) hJ342 (by omega) (by omega) (by omega)
-- WorkMeterModel.logs
theorem c223_11 {s : Nat × (Nat → Int32)} {m0 m : zM} {B : Int} {d : Nat} {Q : Option zV → zM → Prop} (g0 : Nat) (a1 a2 : Int) (hd : 13 ≤ d) (hJ : J m0 B m) (hB : B + 119 ≤ 1000000000) (ha1 : 31 ≤ a1 ∧ a1 ≤ 31) (ha2 : 0 ≤ a2 ∧ a2 ≤ 0) (hQ : ∀ m', J m0 (B + 119) m' → Q none m') : X (EE s) d 223 0 [(0, zr g0 44), (1, zi a1), (2, zl a2)] [] m Q := by
  refine X.aload_n 1 i223_0 rfl rfl rfl ?_
  refine X.getF 4 i223_1 rfl rfl (by decide) rfl rfl ?_
  refine X.bipush 6 i223_4 rfl rfl (by decide) ?_
  refine X.lald 7 i223_6 rfl rfl (by decide) rfl (by omega) ?_
  have h322 := r45_16 hJ 4
  refine X.ldc2 10 i223_7 rfl rfl (by decide) ?_
  refine X.lcmp 11 i223_10 rfl rfl (fun z323 hz323 => ?_)
  refine X.iflt 54 14 i223_11 rfl rfl rfl (fun h324 => ?_) (fun h324 => ?_)
  · have h324c : (m 4 45 16) < 40 := by omega
    clear h324 hz323
    refine X.sipush 57 i223_54 rfl rfl (by decide) ?_
    refine X.iconst 58 i223_57 rfl rfl (by decide) ?_
    refine X.aload_n 59 i223_58 rfl rfl rfl ?_
    refine X.getF 62 i223_59 rfl rfl (by decide) rfl rfl ?_
    refine X.bipush 64 i223_62 rfl rfl (by decide) ?_
    refine X.lald 65 i223_64 rfl rfl (by decide) rfl (by omega) ?_
    refine X.ldc2 68 i223_65 rfl rfl (by decide) ?_
    refine X.lcmp 69 i223_68 rfl rfl (fun z325 hz325 => ?_)
    refine X.ifge 82 72 i223_69 rfl rfl rfl (fun h326 => (by exfalso; omega)) (fun h326 => ?_)
    have h326c : (m 4 45 16) < 40 := by omega
    clear h326 hz325
    refine X.aload_n 73 i223_72 rfl rfl rfl ?_
    refine X.getF 76 i223_73 rfl rfl (by decide) rfl rfl ?_
    refine X.bipush 78 i223_76 rfl rfl (by decide) ?_
    refine X.lald 79 i223_78 rfl rfl (by decide) rfl (by omega) ?_
    refine X.goto 85 i223_79 rfl rfl ?_
    refine X.l2i 86 i223_85 rfl rfl (by omega) ?_
    refine X.imul 87 i223_86 rfl rfl (by omega) ?_
    refine X.iadd 88 i223_87 rfl rfl (by omega) ?_
    refine X.istore 90 [(0, zr g0 44), (1, zi a1), (2, zl a2), (4, zi (1487 + (3 * (m 4 45 16))))] i223_88 rfl rfl rfl ?_
    refine X.aload_n 91 i223_90 rfl rfl rfl ?_
    refine X.getF 94 i223_91 rfl rfl (by decide) rfl rfl ?_
    refine X.iload 96 i223_94 rfl rfl rfl ?_
    refine X.aload_n 97 i223_96 rfl rfl rfl ?_
    refine X.getF 100 i223_97 rfl rfl (by decide) rfl rfl ?_
    refine X.iconst 101 i223_100 rfl rfl (by decide) ?_
    refine X.lald 102 i223_101 rfl rfl (by decide) rfl (by omega) ?_
    have h327 := r45_0 hJ 4
    refine X.last' 103 i223_102 rfl rfl (by decide) rfl (by omega) (fun hrm328 m328 hm328 => ?_)
    have hJ329 := w45_788 hJ hm328 (by omega) hrm328
    refine X.aload_n 104 i223_103 rfl rfl rfl ?_
    refine X.getF 107 i223_104 rfl rfl (by decide) rfl rfl ?_
    refine X.iload 109 i223_107 rfl rfl rfl ?_
    refine X.iconst 110 i223_109 rfl rfl (by decide) ?_
    refine X.iadd 111 i223_110 rfl rfl (by omega) ?_
    refine X.iload_n 112 i223_111 rfl rfl rfl ?_
    refine X.i2l 113 i223_112 rfl rfl ?_
    refine X.last' 114 i223_113 rfl rfl (by decide) rfl (by omega) (fun hrm330 m330 hm330 => ?_)
    have hJ331 := w45_788 hJ329 hm330 (by omega) hrm330
    refine X.aload_n 115 i223_114 rfl rfl rfl ?_
    refine X.getF 118 i223_115 rfl rfl (by decide) rfl rfl ?_
    refine X.iload 120 i223_118 rfl rfl rfl ?_
    refine X.iconst 121 i223_120 rfl rfl (by decide) ?_
    refine X.iadd 122 i223_121 rfl rfl (by omega) ?_
    refine X.lload_n 123 i223_122 rfl rfl rfl ?_
    refine X.last' 124 i223_123 rfl rfl (by decide) rfl (by omega) (fun hrm332 m332 hm332 => ?_)
    have hJ333 := w45_788 hJ331 hm332 (by omega) hrm332
    refine X.aload_n 125 i223_124 rfl rfl rfl ?_
    refine X.getF 128 i223_125 rfl rfl (by decide) rfl rfl ?_
    refine X.bipush 130 i223_128 rfl rfl (by decide) ?_
    refine X.dup2 131 i223_130 rfl rfl ?_
    refine X.lald 132 i223_131 rfl rfl (by decide) rfl (by omega) ?_
    have h334 := r45_16 hJ333 4
    refine X.lconst (y := 1) 133 i223_132 rfl rfl rfl ?_
    refine X.ladd 134 i223_133 rfl rfl (by omega) ?_
    refine X.last' 135 i223_134 rfl rfl (by decide) rfl (by omega) (fun hrm335 m335 hm335 => ?_)
    have hJ336 := w45_16 (hJ333.up (B' := B + 1) (by omega)) hm335 (by omega)
    refine X.retv i223_135 rfl t223 ?_
    exact hQ m335 (hJ336.up (by omega))
  · have h324c : (m 4 45 16) ≥ 40 := by omega
    clear h324 hz323
    refine X.iconst 15 i223_14 rfl rfl (by decide) ?_
    refine X.istore 17 [(0, zr g0 44), (1, zi a1), (2, zl a2), (4, zi 3)] i223_15 rfl rfl rfl ?_
    refine l223_17_5 (s := s) (m0 := m0) (d := d) g0 a1 a2 (BE := B + 118) (by omega) (by omega) (by omega) (by omega) (fun  m343 B344 hJ345 hBB344 => ?_) ((120 - 3).toNat + 1) 3 m (B) hJ (by omega) (by omega) (by omega)
    refine X.sipush 57 i223_54 rfl rfl (by decide) ?_
    refine X.iconst 58 i223_57 rfl rfl (by decide) ?_
    refine X.aload_n 59 i223_58 rfl rfl rfl ?_
    refine X.getF 62 i223_59 rfl rfl (by decide) rfl rfl ?_
    refine X.bipush 64 i223_62 rfl rfl (by decide) ?_
    refine X.lald 65 i223_64 rfl rfl (by decide) rfl (by omega) ?_
    have h346 := r45_16 hJ345 4
    refine X.ldc2 68 i223_65 rfl rfl (by decide) ?_
    refine X.lcmp 69 i223_68 rfl rfl (fun z347 hz347 => ?_)
    refine X.ifge 82 72 i223_69 rfl rfl rfl (fun h348 => ?_) (fun h348 => ?_)
    · have h348c : (m343 4 45 16) ≥ 40 := by omega
      clear h348 hz347
      refine X.ldc2 85 i223_82 rfl rfl (by decide) ?_
      refine X.l2i 86 i223_85 rfl rfl (by omega) ?_
      refine X.imul 87 i223_86 rfl rfl (by omega) ?_
      refine X.iadd 88 i223_87 rfl rfl (by omega) ?_
      refine X.istore 90 [(0, zr g0 44), (1, zi a1), (2, zl a2), (4, zi (1487 + (3 * 39)))] i223_88 rfl rfl rfl ?_
      refine X.aload_n 91 i223_90 rfl rfl rfl ?_
      refine X.getF 94 i223_91 rfl rfl (by decide) rfl rfl ?_
      refine X.iload 96 i223_94 rfl rfl rfl ?_
      refine X.aload_n 97 i223_96 rfl rfl rfl ?_
      refine X.getF 100 i223_97 rfl rfl (by decide) rfl rfl ?_
      refine X.iconst 101 i223_100 rfl rfl (by decide) ?_
      refine X.lald 102 i223_101 rfl rfl (by decide) rfl (by omega) ?_
      have h349 := r45_0 hJ345 4
      refine X.last' 103 i223_102 rfl rfl (by decide) rfl (by omega) (fun hrm350 m350 hm350 => ?_)
      have hJ351 := w45_788 hJ345 hm350 (by omega) hrm350
      refine X.aload_n 104 i223_103 rfl rfl rfl ?_
      refine X.getF 107 i223_104 rfl rfl (by decide) rfl rfl ?_
      refine X.iload 109 i223_107 rfl rfl rfl ?_
      refine X.iconst 110 i223_109 rfl rfl (by decide) ?_
      refine X.iadd 111 i223_110 rfl rfl (by omega) ?_
      refine X.iload_n 112 i223_111 rfl rfl rfl ?_
      refine X.i2l 113 i223_112 rfl rfl ?_
      refine X.last' 114 i223_113 rfl rfl (by decide) rfl (by omega) (fun hrm352 m352 hm352 => ?_)
      have hJ353 := w45_788 hJ351 hm352 (by omega) hrm352
      refine X.aload_n 115 i223_114 rfl rfl rfl ?_
      refine X.getF 118 i223_115 rfl rfl (by decide) rfl rfl ?_
      refine X.iload 120 i223_118 rfl rfl rfl ?_
      refine X.iconst 121 i223_120 rfl rfl (by decide) ?_
      refine X.iadd 122 i223_121 rfl rfl (by omega) ?_
      refine X.lload_n 123 i223_122 rfl rfl rfl ?_
      refine X.last' 124 i223_123 rfl rfl (by decide) rfl (by omega) (fun hrm354 m354 hm354 => ?_)
      have hJ355 := w45_788 hJ353 hm354 (by omega) hrm354
      refine X.aload_n 125 i223_124 rfl rfl rfl ?_
      refine X.getF 128 i223_125 rfl rfl (by decide) rfl rfl ?_
      refine X.bipush 130 i223_128 rfl rfl (by decide) ?_
      refine X.dup2 131 i223_130 rfl rfl ?_
      refine X.lald 132 i223_131 rfl rfl (by decide) rfl (by omega) ?_
      have h356 := r45_16 hJ355 4
      refine X.lconst (y := 1) 133 i223_132 rfl rfl rfl ?_
      refine X.ladd 134 i223_133 rfl rfl (by omega) ?_
      refine X.last' 135 i223_134 rfl rfl (by decide) rfl (by omega) (fun hrm357 m357 hm357 => ?_)
      have hJ358 := w45_16 (hJ355.up (B' := B344 + 1) (by omega)) hm357 (by omega)
      refine X.retv i223_135 rfl t223 ?_
      exact hQ m357 (hJ358.up (by omega))
    · have h348c : (m343 4 45 16) < 40 := by omega
      clear h348 hz347
      refine X.aload_n 73 i223_72 rfl rfl rfl ?_
      refine X.getF 76 i223_73 rfl rfl (by decide) rfl rfl ?_
      refine X.bipush 78 i223_76 rfl rfl (by decide) ?_
      refine X.lald 79 i223_78 rfl rfl (by decide) rfl (by omega) ?_
      refine X.goto 85 i223_79 rfl rfl ?_
      refine X.l2i 86 i223_85 rfl rfl (by omega) ?_
      refine X.imul 87 i223_86 rfl rfl (by omega) ?_
      refine X.iadd 88 i223_87 rfl rfl (by omega) ?_
      refine X.istore 90 [(0, zr g0 44), (1, zi a1), (2, zl a2), (4, zi (1487 + (3 * (m343 4 45 16))))] i223_88 rfl rfl rfl ?_
      refine X.aload_n 91 i223_90 rfl rfl rfl ?_
      refine X.getF 94 i223_91 rfl rfl (by decide) rfl rfl ?_
      refine X.iload 96 i223_94 rfl rfl rfl ?_
      refine X.aload_n 97 i223_96 rfl rfl rfl ?_
      refine X.getF 100 i223_97 rfl rfl (by decide) rfl rfl ?_
      refine X.iconst 101 i223_100 rfl rfl (by decide) ?_
      refine X.lald 102 i223_101 rfl rfl (by decide) rfl (by omega) ?_
      have h359 := r45_0 hJ345 4
      refine X.last' 103 i223_102 rfl rfl (by decide) rfl (by omega) (fun hrm360 m360 hm360 => ?_)
      have hJ361 := w45_788 hJ345 hm360 (by omega) hrm360
      refine X.aload_n 104 i223_103 rfl rfl rfl ?_
      refine X.getF 107 i223_104 rfl rfl (by decide) rfl rfl ?_
      refine X.iload 109 i223_107 rfl rfl rfl ?_
      refine X.iconst 110 i223_109 rfl rfl (by decide) ?_
      refine X.iadd 111 i223_110 rfl rfl (by omega) ?_
      refine X.iload_n 112 i223_111 rfl rfl rfl ?_
      refine X.i2l 113 i223_112 rfl rfl ?_
      refine X.last' 114 i223_113 rfl rfl (by decide) rfl (by omega) (fun hrm362 m362 hm362 => ?_)
      have hJ363 := w45_788 hJ361 hm362 (by omega) hrm362
      refine X.aload_n 115 i223_114 rfl rfl rfl ?_
      refine X.getF 118 i223_115 rfl rfl (by decide) rfl rfl ?_
      refine X.iload 120 i223_118 rfl rfl rfl ?_
      refine X.iconst 121 i223_120 rfl rfl (by decide) ?_
      refine X.iadd 122 i223_121 rfl rfl (by omega) ?_
      refine X.lload_n 123 i223_122 rfl rfl rfl ?_
      refine X.last' 124 i223_123 rfl rfl (by decide) rfl (by omega) (fun hrm364 m364 hm364 => ?_)
      have hJ365 := w45_788 hJ363 hm364 (by omega) hrm364
      refine X.aload_n 125 i223_124 rfl rfl rfl ?_
      refine X.getF 128 i223_125 rfl rfl (by decide) rfl rfl ?_
      refine X.bipush 130 i223_128 rfl rfl (by decide) ?_
      refine X.dup2 131 i223_130 rfl rfl ?_
      refine X.lald 132 i223_131 rfl rfl (by decide) rfl (by omega) ?_
      have h366 := r45_16 hJ365 4
      refine X.lconst (y := 1) 133 i223_132 rfl rfl rfl ?_
      refine X.ladd 134 i223_133 rfl rfl (by omega) ?_
      refine X.last' 135 i223_134 rfl rfl (by decide) rfl (by omega) (fun hrm367 m367 hm367 => ?_)
      have hJ368 := w45_16 (hJ365.up (B' := B344 + 1) (by omega)) hm367 (by omega)
      refine X.retv i223_135 rfl t223 ?_
      exact hQ m367 (hJ368.up (by omega))
-- WorkMeterModel.open
theorem c277_12 {s : Nat × (Nat → Int32)} {m0 m : zM} {B : Int} {d : Nat} {Q : Option zV → zM → Prop} (g0 : Nat) (a1 : Int) (hd : 14 ≤ d) (hJ : J m0 B m) (hB : B + 238 ≤ 1000000000) (ha1 : (-2147483648) ≤ a1 ∧ a1 ≤ 2147483647) (hQ : ∀ (v : Int) m', (0 ≤ v ∧ v ≤ 1) → J m0 (B + 238) m' → Q (some (zi v)) m') : X (EE s) d 277 0 [(0, zr g0 44), (1, zi a1)] [] m Q := by
  refine X.aload_n 1 i277_0 rfl rfl rfl ?_
  refine X.getF 4 i277_1 rfl rfl (by decide) rfl rfl ?_
  refine X.sipush 7 i277_4 rfl rfl (by decide) ?_
  refine X.lald 8 i277_7 rfl rfl (by decide) rfl (by omega) ?_
  have h198 := r45_1614 hJ 4
  refine X.lconst (y := 0) 9 i277_8 rfl rfl rfl ?_
  refine X.lcmp 10 i277_9 rfl rfl (fun z199 hz199 => ?_)
  refine X.ifeq 22 13 i277_10 rfl rfl rfl (fun h200 => ?_) (fun h200 => ?_)
  · have h200c : (m 4 45 1614) = 0 := by omega
    clear h200 hz199
    refine X.cut [] i277_22 rfl ?_
    refine X.iconst 23 i277_22 rfl rfl (by decide) ?_
    refine X.retz i277_23 rfl t277 (by omega) ?_
    exact hQ 0 m (by omega) (hJ.up (by omega))
  · have h200c : (m 4 45 1614) ≠ 0 := by omega
    clear h200 hz199
    refine X.aload_n 14 i277_13 rfl rfl rfl ?_
    refine X.callv 17 [] [] [(0, zr g0 44)] i277_14 rfl (by decide) rfl rfl (by omega) rfl rfl (by decide) rfl t278 (Nat.le_of_ble_eq_true rfl) (Nat.le_of_ble_eq_true rfl) rfl ?_
    refine X.aload_n 1 i278_0 rfl rfl rfl ?_
    refine X.getF 4 i278_1 rfl rfl (by decide) rfl rfl ?_
    refine X.sipush 7 i278_4 rfl rfl (by decide) ?_
    refine X.lald 8 i278_7 rfl rfl (by decide) rfl (by omega) ?_
    refine X.aload_n 9 i278_8 rfl rfl rfl ?_
    refine X.getF 12 i278_9 rfl rfl (by decide) rfl rfl ?_
    refine X.iconst 13 i278_12 rfl rfl (by decide) ?_
    refine X.lald 14 i278_13 rfl rfl (by decide) rfl (by omega) ?_
    have h201 := r45_0 hJ 4
    refine X.lcmp 15 i278_14 rfl rfl (fun z202 hz202 => ?_)
    refine X.ifle 36 18 i278_15 rfl rfl rfl (fun h203 => ?_) (fun h203 => ?_)
    · have h203c : (m 4 45 1617) ≤ (m 4 45 0) := by omega
      clear h203 hz202
      refine X.cut [] i278_36 rfl ?_
      refine X.lconst (y := 0) 37 i278_36 rfl rfl rfl ?_
      refine X.retl i278_37 rfl t278 ?_
      show X (EE s) d 277 17 [(0, zr g0 44), (1, zi a1)] [zl 0] m _
      refine X.lconst (y := 0) 18 i277_17 rfl rfl rfl ?_
      refine X.lcmp 19 i277_18 rfl rfl (fun z204 hz204 => ?_)
      refine X.ifle 24 22 i277_19 rfl rfl rfl (fun h205 => ?_) (fun h205 => (by exfalso; omega))
      have h205c : 0 ≤ 0 := by omega
      clear h205 hz204
      refine X.iload_n 25 i277_24 rfl rfl rfl ?_
      refine X.i2l 26 i277_25 rfl rfl ?_
      refine X.aload_n 27 i277_26 rfl rfl rfl ?_
      refine X.getF 30 i277_27 rfl rfl (by decide) rfl rfl ?_
      refine X.sipush 33 i277_30 rfl rfl (by decide) ?_
      refine X.lald 34 i277_33 rfl rfl (by decide) rfl (by omega) ?_
      refine X.lcmp 35 i277_34 rfl rfl (fun z206 hz206 => ?_)
      refine X.ifne 74 38 i277_35 rfl rfl rfl (fun h207 => ?_) (fun h207 => ?_)
      · have h207c : a1 ≠ (m 4 45 1615) := by omega
        clear h207 hz206
        refine X.cut [(0, zr g0 44)] i277_74 rfl ?_
        refine X.aload_n 75 i277_74 rfl rfl rfl ?_
        refine X.getF 78 i277_75 rfl rfl (by decide) rfl rfl ?_
        refine X.sipush 81 i277_78 rfl rfl (by decide) ?_
        refine X.dup2 82 i277_81 rfl rfl ?_
        refine X.lald 83 i277_82 rfl rfl (by decide) rfl (by omega) ?_
        refine X.lconst (y := 1) 84 i277_83 rfl rfl rfl ?_
        refine X.llF 85 .ladd (fun x y => x + y) i277_84 rfl rfl rfl (fun _ _ => rfl) (fun z208 hz208 => ?_)
        refine X.last' 86 i277_85 rfl rfl (by decide) rfl (by omega) (fun hrm209 m209 hm209 => ?_)
        have hJ210 := w45_1615 hJ hm209 (by omega) hrm209
        refine X.aload_n 87 i277_86 rfl rfl rfl ?_
        refine X.bipush 89 i277_87 rfl rfl (by decide) ?_
        refine X.aload_n 90 i277_89 rfl rfl rfl ?_
        refine X.getF 93 i277_90 rfl rfl (by decide) rfl rfl ?_
        refine X.sipush 96 i277_93 rfl rfl (by decide) ?_
        refine X.lald 97 i277_96 rfl rfl (by decide) rfl (by omega) ?_
        refine X.callv 100 [zi 32, zl (m209 4 45 1616)] [] [(0, zr g0 44), (1, zi 32), (2, zl (m209 4 45 1616))] i277_97 rfl (by decide) rfl rfl (by omega) rfl rfl (by decide) rfl t223 (Nat.le_of_ble_eq_true rfl) (Nat.le_of_ble_eq_true rfl) rfl ?_
        refine c223_9 (B := B) g0 32 (m209 4 45 1616) (by omega) hJ210 (by omega) (by omega) (by omega) (fun m258 hJ259 => ?_)
        show X (EE s) d 277 100 [(0, zr g0 44)] [] m258 _
        refine X.aload_n 101 i277_100 rfl rfl rfl ?_
        refine X.getF 104 i277_101 rfl rfl (by decide) rfl rfl ?_
        refine X.sipush 107 i277_104 rfl rfl (by decide) ?_
        refine X.lald 108 i277_107 rfl rfl (by decide) rfl (by omega) ?_
        refine X.ldc2 111 i277_108 rfl rfl (by decide) ?_
        refine X.lcmp 112 i277_111 rfl rfl (fun z260 hz260 => ?_)
        refine X.ifge 117 115 i277_112 rfl rfl rfl (fun h261 => ?_) (fun h261 => ?_)
        · have h261c : (m258 4 45 1616) ≥ 3 := by omega
          clear h261 hz260
          refine X.aload_n 118 i277_117 rfl rfl rfl ?_
          refine X.getF 121 i277_118 rfl rfl (by decide) rfl rfl ?_
          refine X.sipush 124 i277_121 rfl rfl (by decide) ?_
          refine X.lconst (y := 0) 125 i277_124 rfl rfl rfl ?_
          refine X.last' 126 i277_125 rfl rfl (by decide) rfl (by omega) (fun hrm262 m262 hm262 => ?_)
          have hJ263 := w45_1615 hJ259 hm262 (by omega) hrm262
          refine X.aload_n 127 i277_126 rfl rfl rfl ?_
          refine X.getF 130 i277_127 rfl rfl (by decide) rfl rfl ?_
          refine X.sipush 133 i277_130 rfl rfl (by decide) ?_
          refine X.aload_n 134 i277_133 rfl rfl rfl ?_
          refine X.getF 137 i277_134 rfl rfl (by decide) rfl rfl ?_
          refine X.iconst 138 i277_137 rfl rfl (by decide) ?_
          refine X.lald 139 i277_138 rfl rfl (by decide) rfl (by omega) ?_
          have h264 := r45_0 hJ263 4
          refine X.ldc2 142 i277_139 rfl rfl (by decide) ?_
          refine X.ladd 143 i277_142 rfl rfl (by omega) ?_
          refine X.last' 144 i277_143 rfl rfl (by decide) rfl (by omega) (fun hrm265 m265 hm265 => ?_)
          have hJ266 := w45_1615 hJ263 hm265 (by omega) hrm265
          refine X.aload_n 145 i277_144 rfl rfl rfl ?_
          refine X.bipush 147 i277_145 rfl rfl (by decide) ?_
          refine X.lconst (y := 0) 148 i277_147 rfl rfl rfl ?_
          refine X.callv 151 [zi 33, zl 0] [] [(0, zr g0 44), (1, zi 33), (2, zl 0)] i277_148 rfl (by decide) rfl rfl (by omega) rfl rfl (by decide) rfl t223 (Nat.le_of_ble_eq_true rfl) (Nat.le_of_ble_eq_true rfl) rfl ?_
          refine c223_10 (B := B + 119) g0 33 0 (by omega) hJ266 (by omega) (by omega) (by omega) (fun m314 hJ315 => ?_)
          show X (EE s) d 277 151 [(0, zr g0 44)] [] m314 _
          refine X.iconst 152 i277_151 rfl rfl (by decide) ?_
          refine X.retz i277_152 rfl t277 (by omega) ?_
          exact hQ 0 m314 (by omega) (hJ315.up (by omega))
        · have h261c : (m258 4 45 1616) < 3 := by omega
          clear h261 hz260
          refine X.iconst 116 i277_115 rfl rfl (by decide) ?_
          refine X.retz i277_116 rfl t277 (by omega) ?_
          exact hQ 0 m258 (by omega) (hJ259.up (by omega))
      · have h207c : a1 = (m 4 45 1615) := by omega
        clear h207 hz206
        refine X.aload_n 39 i277_38 rfl rfl rfl ?_
        refine X.getF 42 i277_39 rfl rfl (by decide) rfl rfl ?_
        refine X.sipush 45 i277_42 rfl rfl (by decide) ?_
        refine X.lconst (y := 0) 46 i277_45 rfl rfl rfl ?_
        refine X.last' 47 i277_46 rfl rfl (by decide) rfl (by omega) (fun hrm316 m316 hm316 => ?_)
        have hJ317 := w45_1614 hJ hm316 (by omega)
        refine X.aload_n 48 i277_47 rfl rfl rfl ?_
        refine X.getF 51 i277_48 rfl rfl (by decide) rfl rfl ?_
        refine X.sipush 54 i277_51 rfl rfl (by decide) ?_
        refine X.lconst (y := 0) 55 i277_54 rfl rfl rfl ?_
        refine X.last' 56 i277_55 rfl rfl (by decide) rfl (by omega) (fun hrm318 m318 hm318 => ?_)
        have hJ319 := w45_1615 hJ317 hm318 (by omega) hrm318
        refine X.aload_n 57 i277_56 rfl rfl rfl ?_
        refine X.getF 60 i277_57 rfl rfl (by decide) rfl rfl ?_
        refine X.sipush 63 i277_60 rfl rfl (by decide) ?_
        refine X.lconst (y := 0) 64 i277_63 rfl rfl rfl ?_
        refine X.last' 65 i277_64 rfl rfl (by decide) rfl (by omega) (fun hrm320 m320 hm320 => ?_)
        have hJ321 := w45_1615 hJ319 hm320 (by omega) hrm320
        refine X.aload_n 66 i277_65 rfl rfl rfl ?_
        refine X.bipush 68 i277_66 rfl rfl (by decide) ?_
        refine X.lconst (y := 0) 69 i277_68 rfl rfl rfl ?_
        refine X.callv 72 [zi 31, zl 0] [] [(0, zr g0 44), (1, zi 31), (2, zl 0)] i277_69 rfl (by decide) rfl rfl (by omega) rfl rfl (by decide) rfl t223 (Nat.le_of_ble_eq_true rfl) (Nat.le_of_ble_eq_true rfl) rfl ?_
        refine c223_11 (B := B) g0 31 0 (by omega) hJ321 (by omega) (by omega) (by omega) (fun m369 hJ370 => ?_)
        show X (EE s) d 277 72 [(0, zr g0 44), (1, zi a1)] [] m369 _
        refine X.iconst 73 i277_72 rfl rfl (by decide) ?_
        refine X.retz i277_73 rfl t277 (by omega) ?_
        exact hQ 1 m369 (by omega) (hJ370.up (by omega))
    · have h203c : (m 4 45 1617) > (m 4 45 0) := by omega
      clear h203 hz202
      refine X.aload_n 19 i278_18 rfl rfl rfl ?_
      refine X.getF 22 i278_19 rfl rfl (by decide) rfl rfl ?_
      refine X.sipush 25 i278_22 rfl rfl (by decide) ?_
      refine X.lald 26 i278_25 rfl rfl (by decide) rfl (by omega) ?_
      refine X.aload_n 27 i278_26 rfl rfl rfl ?_
      refine X.getF 30 i278_27 rfl rfl (by decide) rfl rfl ?_
      refine X.iconst 31 i278_30 rfl rfl (by decide) ?_
      refine X.lald 32 i278_31 rfl rfl (by decide) rfl (by omega) ?_
      refine X.lsub 33 i278_32 rfl rfl (by omega) ?_
      refine X.goto 37 i278_33 rfl rfl ?_
      refine X.cut [] i278_37 rfl ?_
      refine X.retl i278_37 rfl t278 ?_
      show X (EE s) d 277 17 [(0, zr g0 44), (1, zi a1)] [zl ((m 4 45 1617) - (m 4 45 0))] m _
      refine X.lconst (y := 0) 18 i277_17 rfl rfl rfl ?_
      refine X.lcmp 19 i277_18 rfl rfl (fun z371 hz371 => ?_)
      refine X.ifle 24 22 i277_19 rfl rfl rfl (fun h372 => ?_) (fun h372 => ?_)
      · have h372c : ((m 4 45 1617) - (m 4 45 0)) ≤ 0 := by omega
        clear h372 hz371
        refine X.iload_n 25 i277_24 rfl rfl rfl ?_
        refine X.i2l 26 i277_25 rfl rfl ?_
        refine X.aload_n 27 i277_26 rfl rfl rfl ?_
        refine X.getF 30 i277_27 rfl rfl (by decide) rfl rfl ?_
        refine X.sipush 33 i277_30 rfl rfl (by decide) ?_
        refine X.lald 34 i277_33 rfl rfl (by decide) rfl (by omega) ?_
        refine X.lcmp 35 i277_34 rfl rfl (fun z373 hz373 => ?_)
        refine X.ifne 74 38 i277_35 rfl rfl rfl (fun h374 => ?_) (fun h374 => ?_)
        · have h374c : a1 ≠ (m 4 45 1615) := by omega
          clear h374 hz373
          refine X.cut [(0, zr g0 44)] i277_74 rfl ?_
          refine X.aload_n 75 i277_74 rfl rfl rfl ?_
          refine X.getF 78 i277_75 rfl rfl (by decide) rfl rfl ?_
          refine X.sipush 81 i277_78 rfl rfl (by decide) ?_
          refine X.dup2 82 i277_81 rfl rfl ?_
          refine X.lald 83 i277_82 rfl rfl (by decide) rfl (by omega) ?_
          refine X.lconst (y := 1) 84 i277_83 rfl rfl rfl ?_
          refine X.llF 85 .ladd (fun x y => x + y) i277_84 rfl rfl rfl (fun _ _ => rfl) (fun z375 hz375 => ?_)
          refine X.last' 86 i277_85 rfl rfl (by decide) rfl (by omega) (fun hrm376 m376 hm376 => ?_)
          have hJ377 := w45_1615 hJ hm376 (by omega) hrm376
          refine X.aload_n 87 i277_86 rfl rfl rfl ?_
          refine X.bipush 89 i277_87 rfl rfl (by decide) ?_
          refine X.aload_n 90 i277_89 rfl rfl rfl ?_
          refine X.getF 93 i277_90 rfl rfl (by decide) rfl rfl ?_
          refine X.sipush 96 i277_93 rfl rfl (by decide) ?_
          refine X.lald 97 i277_96 rfl rfl (by decide) rfl (by omega) ?_
          refine X.callv 100 [zi 32, zl (m376 4 45 1616)] [] [(0, zr g0 44), (1, zi 32), (2, zl (m376 4 45 1616))] i277_97 rfl (by decide) rfl rfl (by omega) rfl rfl (by decide) rfl t223 (Nat.le_of_ble_eq_true rfl) (Nat.le_of_ble_eq_true rfl) rfl ?_
          refine c223_9 (B := B) g0 32 (m376 4 45 1616) (by omega) hJ377 (by omega) (by omega) (by omega) (fun m378 hJ379 => ?_)
          show X (EE s) d 277 100 [(0, zr g0 44)] [] m378 _
          refine X.aload_n 101 i277_100 rfl rfl rfl ?_
          refine X.getF 104 i277_101 rfl rfl (by decide) rfl rfl ?_
          refine X.sipush 107 i277_104 rfl rfl (by decide) ?_
          refine X.lald 108 i277_107 rfl rfl (by decide) rfl (by omega) ?_
          refine X.ldc2 111 i277_108 rfl rfl (by decide) ?_
          refine X.lcmp 112 i277_111 rfl rfl (fun z380 hz380 => ?_)
          refine X.ifge 117 115 i277_112 rfl rfl rfl (fun h381 => ?_) (fun h381 => ?_)
          · have h381c : (m378 4 45 1616) ≥ 3 := by omega
            clear h381 hz380
            refine X.aload_n 118 i277_117 rfl rfl rfl ?_
            refine X.getF 121 i277_118 rfl rfl (by decide) rfl rfl ?_
            refine X.sipush 124 i277_121 rfl rfl (by decide) ?_
            refine X.lconst (y := 0) 125 i277_124 rfl rfl rfl ?_
            refine X.last' 126 i277_125 rfl rfl (by decide) rfl (by omega) (fun hrm382 m382 hm382 => ?_)
            have hJ383 := w45_1615 hJ379 hm382 (by omega) hrm382
            refine X.aload_n 127 i277_126 rfl rfl rfl ?_
            refine X.getF 130 i277_127 rfl rfl (by decide) rfl rfl ?_
            refine X.sipush 133 i277_130 rfl rfl (by decide) ?_
            refine X.aload_n 134 i277_133 rfl rfl rfl ?_
            refine X.getF 137 i277_134 rfl rfl (by decide) rfl rfl ?_
            refine X.iconst 138 i277_137 rfl rfl (by decide) ?_
            refine X.lald 139 i277_138 rfl rfl (by decide) rfl (by omega) ?_
            have h384 := r45_0 hJ383 4
            refine X.ldc2 142 i277_139 rfl rfl (by decide) ?_
            refine X.ladd 143 i277_142 rfl rfl (by omega) ?_
            refine X.last' 144 i277_143 rfl rfl (by decide) rfl (by omega) (fun hrm385 m385 hm385 => ?_)
            have hJ386 := w45_1615 hJ383 hm385 (by omega) hrm385
            refine X.aload_n 145 i277_144 rfl rfl rfl ?_
            refine X.bipush 147 i277_145 rfl rfl (by decide) ?_
            refine X.lconst (y := 0) 148 i277_147 rfl rfl rfl ?_
            refine X.callv 151 [zi 33, zl 0] [] [(0, zr g0 44), (1, zi 33), (2, zl 0)] i277_148 rfl (by decide) rfl rfl (by omega) rfl rfl (by decide) rfl t223 (Nat.le_of_ble_eq_true rfl) (Nat.le_of_ble_eq_true rfl) rfl ?_
            refine c223_10 (B := B + 119) g0 33 0 (by omega) hJ386 (by omega) (by omega) (by omega) (fun m387 hJ388 => ?_)
            show X (EE s) d 277 151 [(0, zr g0 44)] [] m387 _
            refine X.iconst 152 i277_151 rfl rfl (by decide) ?_
            refine X.retz i277_152 rfl t277 (by omega) ?_
            exact hQ 0 m387 (by omega) (hJ388.up (by omega))
          · have h381c : (m378 4 45 1616) < 3 := by omega
            clear h381 hz380
            refine X.iconst 116 i277_115 rfl rfl (by decide) ?_
            refine X.retz i277_116 rfl t277 (by omega) ?_
            exact hQ 0 m378 (by omega) (hJ379.up (by omega))
        · have h374c : a1 = (m 4 45 1615) := by omega
          clear h374 hz373
          refine X.aload_n 39 i277_38 rfl rfl rfl ?_
          refine X.getF 42 i277_39 rfl rfl (by decide) rfl rfl ?_
          refine X.sipush 45 i277_42 rfl rfl (by decide) ?_
          refine X.lconst (y := 0) 46 i277_45 rfl rfl rfl ?_
          refine X.last' 47 i277_46 rfl rfl (by decide) rfl (by omega) (fun hrm389 m389 hm389 => ?_)
          have hJ390 := w45_1614 hJ hm389 (by omega)
          refine X.aload_n 48 i277_47 rfl rfl rfl ?_
          refine X.getF 51 i277_48 rfl rfl (by decide) rfl rfl ?_
          refine X.sipush 54 i277_51 rfl rfl (by decide) ?_
          refine X.lconst (y := 0) 55 i277_54 rfl rfl rfl ?_
          refine X.last' 56 i277_55 rfl rfl (by decide) rfl (by omega) (fun hrm391 m391 hm391 => ?_)
          have hJ392 := w45_1615 hJ390 hm391 (by omega) hrm391
          refine X.aload_n 57 i277_56 rfl rfl rfl ?_
          refine X.getF 60 i277_57 rfl rfl (by decide) rfl rfl ?_
          refine X.sipush 63 i277_60 rfl rfl (by decide) ?_
          refine X.lconst (y := 0) 64 i277_63 rfl rfl rfl ?_
          refine X.last' 65 i277_64 rfl rfl (by decide) rfl (by omega) (fun hrm393 m393 hm393 => ?_)
          have hJ394 := w45_1615 hJ392 hm393 (by omega) hrm393
          refine X.aload_n 66 i277_65 rfl rfl rfl ?_
          refine X.bipush 68 i277_66 rfl rfl (by decide) ?_
          refine X.lconst (y := 0) 69 i277_68 rfl rfl rfl ?_
          refine X.callv 72 [zi 31, zl 0] [] [(0, zr g0 44), (1, zi 31), (2, zl 0)] i277_69 rfl (by decide) rfl rfl (by omega) rfl rfl (by decide) rfl t223 (Nat.le_of_ble_eq_true rfl) (Nat.le_of_ble_eq_true rfl) rfl ?_
          refine c223_11 (B := B) g0 31 0 (by omega) hJ394 (by omega) (by omega) (by omega) (fun m395 hJ396 => ?_)
          show X (EE s) d 277 72 [(0, zr g0 44), (1, zi a1)] [] m395 _
          refine X.iconst 73 i277_72 rfl rfl (by decide) ?_
          refine X.retz i277_73 rfl t277 (by omega) ?_
          exact hQ 1 m395 (by omega) (hJ396.up (by omega))
      · have h372c : ((m 4 45 1617) - (m 4 45 0)) > 0 := by omega
        clear h372 hz371
        refine X.cut [] i277_22 rfl ?_
        refine X.iconst 23 i277_22 rfl rfl (by decide) ?_
        refine X.retz i277_23 rfl t277 (by omega) ?_
        exact hQ 0 m (by omega) (hJ.up (by omega))
-- WorkMeter.season
theorem c122_13 {s : Nat × (Nat → Int32)} {m0 m : zM} {B : Int} {d : Nat} {Q : Option zV → zM → Prop} (g0 : Nat) (a1 a2 : Int) (hd : 13 ≤ d) (hJ : J m0 B m) (hB : B + 0 ≤ 1000000000) (ha1 : (-2147483648) ≤ a1 ∧ a1 ≤ 2147483647) (ha2 : (-2147483648) ≤ a2 ∧ a2 ≤ 2147483647) (hQ : ∀ (v : Int) m', (0 ≤ v ∧ v ≤ 1) → J m0 (B + 0) m' → Q (some (zi v)) m') : X (EE s) d 122 0 [(0, zr g0 40), (1, zi a1), (2, zi a2)] [] m Q := by
  refine X.aload_n 1 i122_0 rfl rfl rfl ?_
  refine X.getF 4 i122_1 rfl rfl (by decide) rfl rfl ?_
  refine X.getR 7 i122_4 rfl rfl (by decide) rfl rfl ?_
  refine X.callv 10 [] [] [(0, zr 0 39)] i122_7 rfl (by decide) rfl rfl (by omega) rfl rfl (by decide) rfl t17 (Nat.le_of_ble_eq_true rfl) (Nat.le_of_ble_eq_true rfl) rfl ?_
  refine X.aload_n 1 i17_0 rfl rfl rfl ?_
  refine X.getZ 4 0 i17_1 rfl rfl (by decide) rfl rfl rfl (fun h397 => ?_)
  refine X.ifeq 17 7 i17_4 rfl rfl rfl (fun h398 => ?_) (fun h398 => ?_)
  · refine X.aload_n 18 i17_17 rfl rfl rfl ?_
    refine X.getZ 21 0 i17_18 rfl rfl (by decide) rfl rfl rfl (fun h399 => ?_)
    refine X.retz i17_21 rfl t17 (by omega) ?_
    show X (EE s) d 122 10 [(0, zr g0 40), (1, zi a1), (2, zi a2)] [zi (m 0 39 0)] m _
    refine X.ifne 32 13 i122_10 rfl rfl rfl (fun h400 => ?_) (fun h400 => ?_)
    · refine X.cut [] i122_32 rfl ?_
      refine X.iconst 33 i122_32 rfl rfl (by decide) ?_
      refine X.retz i122_33 rfl t122 (by omega) ?_
      exact hQ 0 m (by omega) (hJ.up (by omega))
    · refine X.iload_n 14 i122_13 rfl rfl rfl ?_
      refine X.calls 17 [zi a1] [] [(0, zi a1)] i122_14 (by decide) rfl rfl (by omega) rfl rfl t123 (Nat.le_of_ble_eq_true rfl) (Nat.le_of_ble_eq_true rfl) rfl ?_
      refine X.iload_n 1 i123_0 rfl rfl rfl ?_
      refine X.iflt 13 4 i123_1 rfl rfl rfl (fun h401 => ?_) (fun h401 => ?_)
      · refine X.cut [] i123_13 rfl ?_
        refine X.iconst 14 i123_13 rfl rfl (by decide) ?_
        refine X.retz i123_14 rfl t123 (by omega) ?_
        show X (EE s) d 122 17 [(0, zr g0 40), (1, zi a1), (2, zi a2)] [zi 0] m _
        refine X.ifeq 32 20 i122_17 rfl rfl rfl (fun h402 => ?_) (fun h402 => (by exfalso; omega))
        refine X.cut [] i122_32 rfl ?_
        refine X.iconst 33 i122_32 rfl rfl (by decide) ?_
        refine X.retz i122_33 rfl t122 (by omega) ?_
        exact hQ 0 m (by omega) (hJ.up (by omega))
      · refine X.iload_n 5 i123_4 rfl rfl rfl ?_
        refine X.iconst 6 i123_5 rfl rfl (by decide) ?_
        refine X.icmpge 13 9 i123_6 rfl rfl rfl (fun h403 => ?_) (fun h403 => ?_)
        · refine X.cut [] i123_13 rfl ?_
          refine X.iconst 14 i123_13 rfl rfl (by decide) ?_
          refine X.retz i123_14 rfl t123 (by omega) ?_
          show X (EE s) d 122 17 [(0, zr g0 40), (1, zi a1), (2, zi a2)] [zi 0] m _
          refine X.ifeq 32 20 i122_17 rfl rfl rfl (fun h404 => ?_) (fun h404 => (by exfalso; omega))
          refine X.cut [] i122_32 rfl ?_
          refine X.iconst 33 i122_32 rfl rfl (by decide) ?_
          refine X.retz i122_33 rfl t122 (by omega) ?_
          exact hQ 0 m (by omega) (hJ.up (by omega))
        · refine X.iconst 10 i123_9 rfl rfl (by decide) ?_
          refine X.goto 14 i123_10 rfl rfl ?_
          refine X.cut [] i123_14 rfl ?_
          refine X.retz i123_14 rfl t123 (by omega) ?_
          show X (EE s) d 122 17 [(0, zr g0 40), (1, zi a1), (2, zi a2)] [zi 1] m _
          refine X.ifeq 32 20 i122_17 rfl rfl rfl (fun h405 => (by exfalso; omega)) (fun h405 => ?_)
          refine X.iload_n 21 i122_20 rfl rfl rfl ?_
          refine X.iconst 22 i122_21 rfl rfl (by decide) ?_
          refine X.icmplt 32 25 i122_22 rfl rfl rfl (fun h406 => ?_) (fun h406 => ?_)
          · refine X.cut [] i122_32 rfl ?_
            refine X.iconst 33 i122_32 rfl rfl (by decide) ?_
            refine X.retz i122_33 rfl t122 (by omega) ?_
            exact hQ 0 m (by omega) (hJ.up (by omega))
          · refine X.iload_n 26 i122_25 rfl rfl rfl ?_
            refine X.sipush 29 i122_26 rfl rfl (by decide) ?_
            refine X.icmplt 34 32 i122_29 rfl rfl rfl (fun h407 => ?_) (fun h407 => ?_)
            · refine X.iload_n 35 i122_34 rfl rfl rfl ?_
              refine X.ifne 45 38 i122_35 rfl rfl rfl (fun h408 => ?_) (fun h408 => ?_)
              · refine X.aload_n 46 i122_45 rfl rfl rfl ?_
                refine X.getF 49 i122_46 rfl rfl (by decide) rfl rfl ?_
                refine X.getR 52 i122_49 rfl rfl (by decide) rfl rfl ?_
                refine X.getR 55 i122_52 rfl rfl (by decide) rfl rfl ?_
                refine X.iload_n 56 i122_55 rfl rfl rfl ?_
                refine X.iload_n 57 i122_56 rfl rfl rfl ?_
                refine X.iast' 58 i122_57 rfl rfl (by decide) rfl (by omega) (fun hrm409 m409 hm409 => ?_)
                have hJ410 := w15_0 hJ hm409 (by omega) (by omega)
                refine X.iconst 59 i122_58 rfl rfl (by decide) ?_
                refine X.retz i122_59 rfl t122 (by omega) ?_
                exact hQ 1 m409 (by omega) (hJ410.up (by omega))
              · refine X.iload_n 39 i122_38 rfl rfl rfl ?_
                refine X.iconst 40 i122_39 rfl rfl (by decide) ?_
                refine X.icmpne 45 43 i122_40 rfl rfl rfl (fun h411 => ?_) (fun h411 => ?_)
                · refine X.aload_n 46 i122_45 rfl rfl rfl ?_
                  refine X.getF 49 i122_46 rfl rfl (by decide) rfl rfl ?_
                  refine X.getR 52 i122_49 rfl rfl (by decide) rfl rfl ?_
                  refine X.getR 55 i122_52 rfl rfl (by decide) rfl rfl ?_
                  refine X.iload_n 56 i122_55 rfl rfl rfl ?_
                  refine X.iload_n 57 i122_56 rfl rfl rfl ?_
                  refine X.iast' 58 i122_57 rfl rfl (by decide) rfl (by omega) (fun hrm412 m412 hm412 => ?_)
                  have hJ413 := w15_0 hJ hm412 (by omega) (by omega)
                  refine X.iconst 59 i122_58 rfl rfl (by decide) ?_
                  refine X.retz i122_59 rfl t122 (by omega) ?_
                  exact hQ 1 m412 (by omega) (hJ413.up (by omega))
                · refine X.iconst 44 i122_43 rfl rfl (by decide) ?_
                  refine X.retz i122_44 rfl t122 (by omega) ?_
                  exact hQ 0 m (by omega) (hJ.up (by omega))
            · refine X.cut [] i122_32 rfl ?_
              refine X.iconst 33 i122_32 rfl rfl (by decide) ?_
              refine X.retz i122_33 rfl t122 (by omega) ?_
              exact hQ 0 m (by omega) (hJ.up (by omega))
  · refine X.aload_n 8 i17_7 rfl rfl rfl ?_
    refine X.dup 9 i17_8 rfl rfl rfl ?_
    refine X.getIr 12 3 i17_9 rfl rfl (by decide) rfl rfl rfl (fun h414 => ?_)
    refine X.iconst 13 i17_12 rfl rfl (by decide) ?_
    refine X.iiF 14 .iadd (fun x y => x + y) i17_13 rfl rfl rfl (fun _ _ => rfl) (fun z415 hz415 => ?_)
    refine X.putI' 17 3 i17_14 rfl rfl (by decide) rfl rfl rfl (fun hrm416 m416 hm416 => ?_)
    have hJ417 := w39_1 hJ hm416 (by omega) hrm416
    refine X.aload_n 18 i17_17 rfl rfl rfl ?_
    refine X.getZ 21 0 i17_18 rfl rfl (by decide) rfl rfl rfl (fun h418 => ?_)
    refine X.retz i17_21 rfl t17 (by omega) ?_
    show X (EE s) d 122 10 [(0, zr g0 40), (1, zi a1), (2, zi a2)] [zi (m416 0 39 0)] m416 _
    refine X.ifne 32 13 i122_10 rfl rfl rfl (fun h419 => ?_) (fun h419 => ?_)
    · refine X.cut [] i122_32 rfl ?_
      refine X.iconst 33 i122_32 rfl rfl (by decide) ?_
      refine X.retz i122_33 rfl t122 (by omega) ?_
      exact hQ 0 m416 (by omega) (hJ417.up (by omega))
    · refine X.iload_n 14 i122_13 rfl rfl rfl ?_
      refine X.calls 17 [zi a1] [] [(0, zi a1)] i122_14 (by decide) rfl rfl (by omega) rfl rfl t123 (Nat.le_of_ble_eq_true rfl) (Nat.le_of_ble_eq_true rfl) rfl ?_
      refine X.iload_n 1 i123_0 rfl rfl rfl ?_
      refine X.iflt 13 4 i123_1 rfl rfl rfl (fun h420 => ?_) (fun h420 => ?_)
      · refine X.cut [] i123_13 rfl ?_
        refine X.iconst 14 i123_13 rfl rfl (by decide) ?_
        refine X.retz i123_14 rfl t123 (by omega) ?_
        show X (EE s) d 122 17 [(0, zr g0 40), (1, zi a1), (2, zi a2)] [zi 0] m416 _
        refine X.ifeq 32 20 i122_17 rfl rfl rfl (fun h421 => ?_) (fun h421 => (by exfalso; omega))
        refine X.cut [] i122_32 rfl ?_
        refine X.iconst 33 i122_32 rfl rfl (by decide) ?_
        refine X.retz i122_33 rfl t122 (by omega) ?_
        exact hQ 0 m416 (by omega) (hJ417.up (by omega))
      · refine X.iload_n 5 i123_4 rfl rfl rfl ?_
        refine X.iconst 6 i123_5 rfl rfl (by decide) ?_
        refine X.icmpge 13 9 i123_6 rfl rfl rfl (fun h422 => ?_) (fun h422 => ?_)
        · refine X.cut [] i123_13 rfl ?_
          refine X.iconst 14 i123_13 rfl rfl (by decide) ?_
          refine X.retz i123_14 rfl t123 (by omega) ?_
          show X (EE s) d 122 17 [(0, zr g0 40), (1, zi a1), (2, zi a2)] [zi 0] m416 _
          refine X.ifeq 32 20 i122_17 rfl rfl rfl (fun h423 => ?_) (fun h423 => (by exfalso; omega))
          refine X.cut [] i122_32 rfl ?_
          refine X.iconst 33 i122_32 rfl rfl (by decide) ?_
          refine X.retz i122_33 rfl t122 (by omega) ?_
          exact hQ 0 m416 (by omega) (hJ417.up (by omega))
        · refine X.iconst 10 i123_9 rfl rfl (by decide) ?_
          refine X.goto 14 i123_10 rfl rfl ?_
          refine X.cut [] i123_14 rfl ?_
          refine X.retz i123_14 rfl t123 (by omega) ?_
          show X (EE s) d 122 17 [(0, zr g0 40), (1, zi a1), (2, zi a2)] [zi 1] m416 _
          refine X.ifeq 32 20 i122_17 rfl rfl rfl (fun h424 => (by exfalso; omega)) (fun h424 => ?_)
          refine X.iload_n 21 i122_20 rfl rfl rfl ?_
          refine X.iconst 22 i122_21 rfl rfl (by decide) ?_
          refine X.icmplt 32 25 i122_22 rfl rfl rfl (fun h425 => ?_) (fun h425 => ?_)
          · refine X.cut [] i122_32 rfl ?_
            refine X.iconst 33 i122_32 rfl rfl (by decide) ?_
            refine X.retz i122_33 rfl t122 (by omega) ?_
            exact hQ 0 m416 (by omega) (hJ417.up (by omega))
          · refine X.iload_n 26 i122_25 rfl rfl rfl ?_
            refine X.sipush 29 i122_26 rfl rfl (by decide) ?_
            refine X.icmplt 34 32 i122_29 rfl rfl rfl (fun h426 => ?_) (fun h426 => ?_)
            · refine X.iload_n 35 i122_34 rfl rfl rfl ?_
              refine X.ifne 45 38 i122_35 rfl rfl rfl (fun h427 => ?_) (fun h427 => ?_)
              · refine X.aload_n 46 i122_45 rfl rfl rfl ?_
                refine X.getF 49 i122_46 rfl rfl (by decide) rfl rfl ?_
                refine X.getR 52 i122_49 rfl rfl (by decide) rfl rfl ?_
                refine X.getR 55 i122_52 rfl rfl (by decide) rfl rfl ?_
                refine X.iload_n 56 i122_55 rfl rfl rfl ?_
                refine X.iload_n 57 i122_56 rfl rfl rfl ?_
                refine X.iast' 58 i122_57 rfl rfl (by decide) rfl (by omega) (fun hrm428 m428 hm428 => ?_)
                have hJ429 := w15_0 hJ417 hm428 (by omega) (by omega)
                refine X.iconst 59 i122_58 rfl rfl (by decide) ?_
                refine X.retz i122_59 rfl t122 (by omega) ?_
                exact hQ 1 m428 (by omega) (hJ429.up (by omega))
              · refine X.iload_n 39 i122_38 rfl rfl rfl ?_
                refine X.iconst 40 i122_39 rfl rfl (by decide) ?_
                refine X.icmpne 45 43 i122_40 rfl rfl rfl (fun h430 => ?_) (fun h430 => ?_)
                · refine X.aload_n 46 i122_45 rfl rfl rfl ?_
                  refine X.getF 49 i122_46 rfl rfl (by decide) rfl rfl ?_
                  refine X.getR 52 i122_49 rfl rfl (by decide) rfl rfl ?_
                  refine X.getR 55 i122_52 rfl rfl (by decide) rfl rfl ?_
                  refine X.iload_n 56 i122_55 rfl rfl rfl ?_
                  refine X.iload_n 57 i122_56 rfl rfl rfl ?_
                  refine X.iast' 58 i122_57 rfl rfl (by decide) rfl (by omega) (fun hrm431 m431 hm431 => ?_)
                  have hJ432 := w15_0 hJ417 hm431 (by omega) (by omega)
                  refine X.iconst 59 i122_58 rfl rfl (by decide) ?_
                  refine X.retz i122_59 rfl t122 (by omega) ?_
                  exact hQ 1 m431 (by omega) (hJ432.up (by omega))
                · refine X.iconst 44 i122_43 rfl rfl (by decide) ?_
                  refine X.retz i122_44 rfl t122 (by omega) ?_
                  exact hQ 0 m416 (by omega) (hJ417.up (by omega))
            · refine X.cut [] i122_32 rfl ?_
              refine X.iconst 33 i122_32 rfl rfl (by decide) ?_
              refine X.retz i122_33 rfl t122 (by omega) ?_
              exact hQ 0 m416 (by omega) (hJ417.up (by omega))
-- WorkMeterModel.week
theorem c247_14 {s : Nat × (Nat → Int32)} {m0 m : zM} {B : Int} {d : Nat} {Q : Option zV → zM → Prop} (g0 : Nat) (a1 a2 a3 : Int) (hd : 13 ≤ d) (hJ : J m0 B m) (hB : B + 0 ≤ 1000000000) (ha1 : (-2147483648) ≤ a1 ∧ a1 ≤ 2147483647) (ha2 : (-2147483648) ≤ a2 ∧ a2 ≤ 2147483647) (ha3 : (-2147483648) ≤ a3 ∧ a3 ≤ 2147483647) (hQ : ∀ (v : Int) m', (0 ≤ v ∧ v ≤ 1) → J m0 (B + 0) m' → Q (some (zi v)) m') : X (EE s) d 247 0 [(0, zr g0 44), (1, zi a1), (2, zi a2), (3, zi a3)] [] m Q := by
  refine X.aload_n 1 i247_0 rfl rfl rfl ?_
  refine X.callv 4 [] [] [(0, zr g0 44)] i247_1 rfl (by decide) rfl rfl (by omega) rfl rfl (by decide) rfl t203 (Nat.le_of_ble_eq_true rfl) (Nat.le_of_ble_eq_true rfl) rfl ?_
  refine X.aload_n 1 i203_0 rfl rfl rfl ?_
  refine X.getF 4 i203_1 rfl rfl (by decide) rfl rfl ?_
  refine X.sipush 7 i203_4 rfl rfl (by decide) ?_
  refine X.dup2 8 i203_7 rfl rfl ?_
  refine X.lald 9 i203_8 rfl rfl (by decide) rfl (by omega) ?_
  refine X.aload_n 10 i203_9 rfl rfl rfl ?_
  refine X.getF 13 i203_10 rfl rfl (by decide) rfl rfl ?_
  refine X.sipush 16 i203_13 rfl rfl (by decide) ?_
  refine X.lald 17 i203_16 rfl rfl (by decide) rfl (by omega) ?_
  have h433 := r45_1614 hJ 4
  refine X.llF 18 .ladd (fun x y => x + y) i203_17 rfl rfl rfl (fun _ _ => rfl) (fun z434 hz434 => ?_)
  refine X.last' 19 i203_18 rfl rfl (by decide) rfl (by omega) (fun hrm435 m435 hm435 => ?_)
  have hJ436 := w45_1615 hJ hm435 (by omega) hrm435
  refine X.aload_n 20 i203_19 rfl rfl rfl ?_
  refine X.getF 23 i203_20 rfl rfl (by decide) rfl rfl ?_
  refine X.sipush 26 i203_23 rfl rfl (by decide) ?_
  refine X.lald 27 i203_26 rfl rfl (by decide) rfl (by omega) ?_
  have h437 := r45_1614 hJ436 4
  refine X.lconst (y := 1) 28 i203_27 rfl rfl rfl ?_
  refine X.lcmp 29 i203_28 rfl rfl (fun z438 hz438 => ?_)
  refine X.ifne 36 32 i203_29 rfl rfl rfl (fun h439 => ?_) (fun h439 => ?_)
  · have h439c : (m435 4 45 1614) ≠ 1 := by omega
    clear h439 hz438
    refine X.cut [] i203_36 rfl ?_
    refine X.iconst 37 i203_36 rfl rfl (by decide) ?_
    refine X.retz i203_37 rfl t203 (by omega) ?_
    show X (EE s) d 247 4 [(0, zr g0 44), (1, zi a1), (2, zi a2), (3, zi a3)] [zi 0] m435 _
    refine X.ifne 33 7 i247_4 rfl rfl rfl (fun h440 => (by exfalso; omega)) (fun h440 => ?_)
    refine X.iload_n 8 i247_7 rfl rfl rfl ?_
    refine X.calls 11 [zi a1] [] [(0, zi a1)] i247_8 (by decide) rfl rfl (by omega) rfl rfl t246 (Nat.le_of_ble_eq_true rfl) (Nat.le_of_ble_eq_true rfl) rfl ?_
    refine X.iload_n 1 i246_0 rfl rfl rfl ?_
    refine X.i2l 2 i246_1 rfl rfl ?_
    refine X.lconst (y := 0) 3 i246_2 rfl rfl rfl ?_
    refine X.ldc2 6 i246_3 rfl rfl (by decide) ?_
    refine X.calls 9 [zl a1, zl 0, zl 3] [] [(0, zl a1), (2, zl 0), (4, zl 3)] i246_6 (by decide) rfl rfl (by omega) rfl rfl t204 (Nat.le_of_ble_eq_true rfl) (Nat.le_of_ble_eq_true rfl) rfl ?_
    refine X.lload_n 1 i204_0 rfl rfl rfl ?_
    refine X.lload_n 2 i204_1 rfl rfl rfl ?_
    refine X.lcmp 3 i204_2 rfl rfl (fun z441 hz441 => ?_)
    refine X.iflt 17 6 i204_3 rfl rfl rfl (fun h442 => ?_) (fun h442 => ?_)
    · have h442c : a1 < 0 := by omega
      clear h442 hz441
      refine X.cut [] i204_17 rfl ?_
      refine X.iconst 18 i204_17 rfl rfl (by decide) ?_
      refine X.retz i204_18 rfl t204 (by omega) ?_
      show X (EE s) (d - 1) 246 9 [(0, zi a1)] [zi 0] m435 _
      refine X.retz i246_9 rfl t246 (by omega) ?_
      show X (EE s) d 247 11 [(0, zr g0 44), (1, zi a1), (2, zi a2), (3, zi a3)] [zi 0] m435 _
      refine X.ifeq 33 14 i247_11 rfl rfl rfl (fun h443 => ?_) (fun h443 => (by exfalso; omega))
      refine X.cut [] i247_33 rfl ?_
      refine X.iconst 34 i247_33 rfl rfl (by decide) ?_
      refine X.retz i247_34 rfl t247 (by omega) ?_
      exact hQ 0 m435 (by omega) (hJ436.up (by omega))
    · have h442c : a1 ≥ 0 := by omega
      clear h442 hz441
      refine X.lload_n 7 i204_6 rfl rfl rfl ?_
      refine X.lload 9 i204_7 rfl rfl rfl ?_
      refine X.lcmp 10 i204_9 rfl rfl (fun z444 hz444 => ?_)
      refine X.ifgt 17 13 i204_10 rfl rfl rfl (fun h445 => ?_) (fun h445 => ?_)
      · have h445c : a1 > 3 := by omega
        clear h445 hz444
        refine X.cut [] i204_17 rfl ?_
        refine X.iconst 18 i204_17 rfl rfl (by decide) ?_
        refine X.retz i204_18 rfl t204 (by omega) ?_
        show X (EE s) (d - 1) 246 9 [(0, zi a1)] [zi 0] m435 _
        refine X.retz i246_9 rfl t246 (by omega) ?_
        show X (EE s) d 247 11 [(0, zr g0 44), (1, zi a1), (2, zi a2), (3, zi a3)] [zi 0] m435 _
        refine X.ifeq 33 14 i247_11 rfl rfl rfl (fun h446 => ?_) (fun h446 => (by exfalso; omega))
        refine X.cut [] i247_33 rfl ?_
        refine X.iconst 34 i247_33 rfl rfl (by decide) ?_
        refine X.retz i247_34 rfl t247 (by omega) ?_
        exact hQ 0 m435 (by omega) (hJ436.up (by omega))
      · have h445c : a1 ≤ 3 := by omega
        clear h445 hz444
        refine X.iconst 14 i204_13 rfl rfl (by decide) ?_
        refine X.goto 18 i204_14 rfl rfl ?_
        refine X.cut [] i204_18 rfl ?_
        refine X.retz i204_18 rfl t204 (by omega) ?_
        show X (EE s) (d - 1) 246 9 [(0, zi a1)] [zi 1] m435 _
        refine X.retz i246_9 rfl t246 (by omega) ?_
        show X (EE s) d 247 11 [(0, zr g0 44), (1, zi a1), (2, zi a2), (3, zi a3)] [zi 1] m435 _
        refine X.ifeq 33 14 i247_11 rfl rfl rfl (fun h447 => (by exfalso; omega)) (fun h447 => ?_)
        refine X.iload_n 15 i247_14 rfl rfl rfl ?_
        refine X.i2l 16 i247_15 rfl rfl ?_
        refine X.lconst (y := 0) 17 i247_16 rfl rfl rfl ?_
        refine X.ldc2 20 i247_17 rfl rfl (by decide) ?_
        refine X.calls 23 [zl a2, zl 0, zl 6] [] [(0, zl a2), (2, zl 0), (4, zl 6)] i247_20 (by decide) rfl rfl (by omega) rfl rfl t204 (Nat.le_of_ble_eq_true rfl) (Nat.le_of_ble_eq_true rfl) rfl ?_
        refine X.lload_n 1 i204_0 rfl rfl rfl ?_
        refine X.lload_n 2 i204_1 rfl rfl rfl ?_
        refine X.lcmp 3 i204_2 rfl rfl (fun z448 hz448 => ?_)
        refine X.iflt 17 6 i204_3 rfl rfl rfl (fun h449 => ?_) (fun h449 => ?_)
        · have h449c : a2 < 0 := by omega
          clear h449 hz448
          refine X.cut [] i204_17 rfl ?_
          refine X.iconst 18 i204_17 rfl rfl (by decide) ?_
          refine X.retz i204_18 rfl t204 (by omega) ?_
          show X (EE s) d 247 23 [(0, zr g0 44), (1, zi a1), (2, zi a2), (3, zi a3)] [zi 0] m435 _
          refine X.ifeq 33 26 i247_23 rfl rfl rfl (fun h450 => ?_) (fun h450 => (by exfalso; omega))
          refine X.cut [] i247_33 rfl ?_
          refine X.iconst 34 i247_33 rfl rfl (by decide) ?_
          refine X.retz i247_34 rfl t247 (by omega) ?_
          exact hQ 0 m435 (by omega) (hJ436.up (by omega))
        · have h449c : a2 ≥ 0 := by omega
          clear h449 hz448
          refine X.lload_n 7 i204_6 rfl rfl rfl ?_
          refine X.lload 9 i204_7 rfl rfl rfl ?_
          refine X.lcmp 10 i204_9 rfl rfl (fun z451 hz451 => ?_)
          refine X.ifgt 17 13 i204_10 rfl rfl rfl (fun h452 => ?_) (fun h452 => ?_)
          · have h452c : a2 > 6 := by omega
            clear h452 hz451
            refine X.cut [] i204_17 rfl ?_
            refine X.iconst 18 i204_17 rfl rfl (by decide) ?_
            refine X.retz i204_18 rfl t204 (by omega) ?_
            show X (EE s) d 247 23 [(0, zr g0 44), (1, zi a1), (2, zi a2), (3, zi a3)] [zi 0] m435 _
            refine X.ifeq 33 26 i247_23 rfl rfl rfl (fun h453 => ?_) (fun h453 => (by exfalso; omega))
            refine X.cut [] i247_33 rfl ?_
            refine X.iconst 34 i247_33 rfl rfl (by decide) ?_
            refine X.retz i247_34 rfl t247 (by omega) ?_
            exact hQ 0 m435 (by omega) (hJ436.up (by omega))
          · have h452c : a2 ≤ 6 := by omega
            clear h452 hz451
            refine X.iconst 14 i204_13 rfl rfl (by decide) ?_
            refine X.goto 18 i204_14 rfl rfl ?_
            refine X.cut [] i204_18 rfl ?_
            refine X.retz i204_18 rfl t204 (by omega) ?_
            show X (EE s) d 247 23 [(0, zr g0 44), (1, zi a1), (2, zi a2), (3, zi a3)] [zi 1] m435 _
            refine X.ifeq 33 26 i247_23 rfl rfl rfl (fun h454 => (by exfalso; omega)) (fun h454 => ?_)
            refine X.iload_n 27 i247_26 rfl rfl rfl ?_
            refine X.calls 30 [zi a3] [] [(0, zi a3)] i247_27 (by decide) rfl rfl (by omega) rfl rfl t241 (Nat.le_of_ble_eq_true rfl) (Nat.le_of_ble_eq_true rfl) rfl ?_
            refine X.iload_n 1 i241_0 rfl rfl rfl ?_
            refine X.i2l 2 i241_1 rfl rfl ?_
            refine X.lconst (y := 0) 3 i241_2 rfl rfl rfl ?_
            refine X.ldc2 6 i241_3 rfl rfl (by decide) ?_
            refine X.calls 9 [zl a3, zl 0, zl 7] [] [(0, zl a3), (2, zl 0), (4, zl 7)] i241_6 (by decide) rfl rfl (by omega) rfl rfl t204 (Nat.le_of_ble_eq_true rfl) (Nat.le_of_ble_eq_true rfl) rfl ?_
            refine X.lload_n 1 i204_0 rfl rfl rfl ?_
            refine X.lload_n 2 i204_1 rfl rfl rfl ?_
            refine X.lcmp 3 i204_2 rfl rfl (fun z455 hz455 => ?_)
            refine X.iflt 17 6 i204_3 rfl rfl rfl (fun h456 => ?_) (fun h456 => ?_)
            · have h456c : a3 < 0 := by omega
              clear h456 hz455
              refine X.cut [] i204_17 rfl ?_
              refine X.iconst 18 i204_17 rfl rfl (by decide) ?_
              refine X.retz i204_18 rfl t204 (by omega) ?_
              show X (EE s) (d - 1) 241 9 [(0, zi a3)] [zi 0] m435 _
              refine X.retz i241_9 rfl t241 (by omega) ?_
              show X (EE s) d 247 30 [(0, zr g0 44), (1, zi a1), (2, zi a2), (3, zi a3)] [zi 0] m435 _
              refine X.ifne 35 33 i247_30 rfl rfl rfl (fun h457 => (by exfalso; omega)) (fun h457 => ?_)
              refine X.cut [] i247_33 rfl ?_
              refine X.iconst 34 i247_33 rfl rfl (by decide) ?_
              refine X.retz i247_34 rfl t247 (by omega) ?_
              exact hQ 0 m435 (by omega) (hJ436.up (by omega))
            · have h456c : a3 ≥ 0 := by omega
              clear h456 hz455
              refine X.lload_n 7 i204_6 rfl rfl rfl ?_
              refine X.lload 9 i204_7 rfl rfl rfl ?_
              refine X.lcmp 10 i204_9 rfl rfl (fun z458 hz458 => ?_)
              refine X.ifgt 17 13 i204_10 rfl rfl rfl (fun h459 => ?_) (fun h459 => ?_)
              · have h459c : a3 > 7 := by omega
                clear h459 hz458
                refine X.cut [] i204_17 rfl ?_
                refine X.iconst 18 i204_17 rfl rfl (by decide) ?_
                refine X.retz i204_18 rfl t204 (by omega) ?_
                show X (EE s) (d - 1) 241 9 [(0, zi a3)] [zi 0] m435 _
                refine X.retz i241_9 rfl t241 (by omega) ?_
                show X (EE s) d 247 30 [(0, zr g0 44), (1, zi a1), (2, zi a2), (3, zi a3)] [zi 0] m435 _
                refine X.ifne 35 33 i247_30 rfl rfl rfl (fun h460 => (by exfalso; omega)) (fun h460 => ?_)
                refine X.cut [] i247_33 rfl ?_
                refine X.iconst 34 i247_33 rfl rfl (by decide) ?_
                refine X.retz i247_34 rfl t247 (by omega) ?_
                exact hQ 0 m435 (by omega) (hJ436.up (by omega))
              · have h459c : a3 ≤ 7 := by omega
                clear h459 hz458
                refine X.iconst 14 i204_13 rfl rfl (by decide) ?_
                refine X.goto 18 i204_14 rfl rfl ?_
                refine X.cut [] i204_18 rfl ?_
                refine X.retz i204_18 rfl t204 (by omega) ?_
                show X (EE s) (d - 1) 241 9 [(0, zi a3)] [zi 1] m435 _
                refine X.retz i241_9 rfl t241 (by omega) ?_
                show X (EE s) d 247 30 [(0, zr g0 44), (1, zi a1), (2, zi a2), (3, zi a3)] [zi 1] m435 _
                refine X.ifne 35 33 i247_30 rfl rfl rfl (fun h461 => ?_) (fun h461 => (by exfalso; omega))
                refine X.aload_n 36 i247_35 rfl rfl rfl ?_
                refine X.getF 39 i247_36 rfl rfl (by decide) rfl rfl ?_
                refine X.sipush 42 i247_39 rfl rfl (by decide) ?_
                refine X.bipush 44 i247_42 rfl rfl (by decide) ?_
                refine X.iload_n 45 i247_44 rfl rfl rfl ?_
                refine X.imul 46 i247_45 rfl rfl (by omega) ?_
                refine X.iadd 47 i247_46 rfl rfl (by omega) ?_
                refine X.iload_n 48 i247_47 rfl rfl rfl ?_
                refine X.iadd 49 i247_48 rfl rfl (by omega) ?_
                refine X.iload_n 50 i247_49 rfl rfl rfl ?_
                refine X.i2l 51 i247_50 rfl rfl ?_
                refine X.last' 52 i247_51 rfl rfl (by decide) rfl (by omega) (fun hrm462 m462 hm462 => ?_)
                have hJ463 := w45_395 hJ436 hm462 (by omega) (by omega)
                refine X.iconst 53 i247_52 rfl rfl (by decide) ?_
                refine X.retz i247_53 rfl t247 (by omega) ?_
                exact hQ 1 m462 (by omega) (hJ463.up (by omega))
  · have h439c : (m435 4 45 1614) = 1 := by omega
    clear h439 hz438
    refine X.iconst 33 i203_32 rfl rfl (by decide) ?_
    refine X.goto 37 i203_33 rfl rfl ?_
    refine X.cut [] i203_37 rfl ?_
    refine X.retz i203_37 rfl t203 (by omega) ?_
    show X (EE s) d 247 4 [(0, zr g0 44), (1, zi a1), (2, zi a2), (3, zi a3)] [zi 1] m435 _
    refine X.ifne 33 7 i247_4 rfl rfl rfl (fun h464 => ?_) (fun h464 => (by exfalso; omega))
    refine X.cut [] i247_33 rfl ?_
    refine X.iconst 34 i247_33 rfl rfl (by decide) ?_
    refine X.retz i247_34 rfl t247 (by omega) ?_
    exact hQ 0 m435 (by omega) (hJ436.up (by omega))
