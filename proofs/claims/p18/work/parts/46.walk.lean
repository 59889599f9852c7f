theorem l306_5_1 {s : Nat × (Nat → Int32)} {S : zS} {m0 m : zM} {B : Int} {d : Nat} {Q : Option zV → zM → Prop} (y1 y2 : Int) (hd : 16 ≤ d) (hJ : J S m0 B m) (hB9 : B ≤ 1000000000) (hy1 : 0 ≤ y1 ∧ y1 ≤ 2000000000) (hy2 : 1 ≤ y2 ∧ y2 ≤ 100000)
    (K79 : ∀ (x3 : Int) , (True) → X (EE s) d 306 79 [(3, zl x3)] [] m Q) :
    ∀ (n : Nat) (y3 y5 : Int) , (0 ≤ y5 ∧ y5 ≤ 2000186000) → (y5 ≤ y1 + y2) → y1 + y2 - y5 < (n : Int) → X (EE s) d 306 5 [(0, zr 4 44), (1, zi y1), (2, zi y2), (3, zl y3), (5, zi y5)] [] m Q := by
  intro n
  induction n with
  | zero =>
    intro y3 y5 hy5 hr0 hn
    exfalso
    omega
  | succ n ih =>
    intro y3 y5 hy5 hr0 hn
    refine X.iload 7 i306_5 rfl rfl rfl ?_
    refine X.iload_n 8 i306_7 rfl rfl rfl ?_
    refine X.iload_n 9 i306_8 rfl rfl rfl ?_
    refine X.iadd 10 i306_9 rfl rfl (by omega) ?_
    refine X.icmpge 79 13 i306_10 rfl rfl rfl (fun h521 => ?_) (fun h521 => ?_)
    · refine X.cut [(3, zl y3)] i306_79 rfl ?_
      exact K79 y3 (by first | trivial | omega)
    · refine X.iload 15 i306_13 rfl rfl rfl ?_
      refine X.ldc 17 i306_15 rfl rfl (by decide) ?_
      refine X.idiv 18 i306_17 rfl rfl (by omega) ?_
      refine X.istore 20 [(0, zr 4 44), (1, zi y1), (2, zi y2), (3, zl y3), (5, zi y5), (6, zi (y5 / 86400))] i306_18 rfl rfl rfl ?_
      refine X.iload_n 21 i306_20 rfl rfl rfl ?_
      refine X.iload_n 22 i306_21 rfl rfl rfl ?_
      refine X.iadd 23 i306_22 rfl rfl (by omega) ?_
      refine X.iload 25 i306_23 rfl rfl rfl ?_
      refine X.ldc 27 i306_25 rfl rfl (by decide) ?_
      refine X.imul 28 i306_27 rfl rfl (by omega) ?_
      refine X.isub 29 i306_28 rfl rfl (by omega) ?_
      refine X.ldc 31 i306_29 rfl rfl (by decide) ?_
      refine X.icmpge 46 34 i306_31 rfl rfl rfl (fun h522 => ?_) (fun h522 => ?_)
      · refine X.ldc 48 i306_46 rfl rfl (by decide) ?_
        refine X.istore 50 [(0, zr 4 44), (1, zi y1), (2, zi y2), (3, zl y3), (5, zi y5), (6, zi (y5 / 86400)), (7, zi 86400)] i306_48 rfl rfl rfl ?_
        refine X.lload_n 51 i306_50 rfl rfl rfl ?_
        refine X.aload_n 52 i306_51 rfl rfl rfl ?_
        refine X.iload 54 i306_52 rfl rfl rfl ?_
        refine X.iload 56 i306_54 rfl rfl rfl ?_
        refine X.ldc 58 i306_56 rfl rfl (by decide) ?_
        refine X.irem 59 i306_58 rfl rfl (by omega) ?_
        refine X.iload 61 i306_59 rfl rfl rfl ?_
        refine X.callv 64 [zi (y5 / 86400), zi (y5 % 86400), zi 86400] [zl y3] [(0, zr 4 44), (1, zi (y5 / 86400)), (2, zi (y5 % 86400)), (3, zi 86400)] i306_61 rfl (by decide) rfl rfl (by omega) rfl rfl (by decide) rfl t307 (Nat.le_of_ble_eq_true rfl) (Nat.le_of_ble_eq_true rfl) rfl ?_
        refine c307_1 (B := B)  (y5 / 86400) (y5 % 86400) 86400 (by omega) (hJ.up (by omega)) (by omega) (by omega) (by omega) (by omega) (fun v525 hv525 => ?_)
        show X (EE s) d 306 64 [(0, zr 4 44), (1, zi y1), (2, zi y2), (3, zl y3), (5, zi y5), (6, zi (y5 / 86400)), (7, zi 86400)] [zl v525, zl y3] m _
        refine X.llF 65 .ladd (fun x y => x + y) i306_64 rfl rfl rfl (fun _ _ => rfl) (fun z526 hz526 => ?_)
        refine X.lstore_n 66 [(0, zr 4 44), (1, zi y1), (2, zi y2), (3, zl z526), (5, zi y5), (6, zi (y5 / 86400)), (7, zi 86400)] i306_65 rfl rfl rfl ?_
        refine X.iload 68 i306_66 rfl rfl rfl ?_
        refine X.ldc 70 i306_68 rfl rfl (by decide) ?_
        refine X.imul 71 i306_70 rfl rfl (by omega) ?_
        refine X.iload 73 i306_71 rfl rfl rfl ?_
        refine X.iadd 74 i306_73 rfl rfl (by omega) ?_
        refine X.istore 76 [(0, zr 4 44), (1, zi y1), (2, zi y2), (3, zl z526), (5, zi (((y5 / 86400) * 86400) + 86400)), (6, zi (y5 / 86400)), (7, zi 86400)] i306_74 rfl rfl rfl ?_
        refine X.goto 5 i306_76 rfl rfl ?_
        refine X.cut [(0, zr 4 44), (1, zi y1), (2, zi y2), (3, zl z526), (5, zi (((y5 / 86400) * 86400) + 86400))] i306_5 rfl ?_
        exact ih z526 (((y5 / 86400) * 86400) + 86400) (by omega) (by omega) (by omega)
      · refine X.iload_n 35 i306_34 rfl rfl rfl ?_
        refine X.iload_n 36 i306_35 rfl rfl rfl ?_
        refine X.iadd 37 i306_36 rfl rfl (by omega) ?_
        refine X.iload 39 i306_37 rfl rfl rfl ?_
        refine X.ldc 41 i306_39 rfl rfl (by decide) ?_
        refine X.imul 42 i306_41 rfl rfl (by omega) ?_
        refine X.isub 43 i306_42 rfl rfl (by omega) ?_
        refine X.goto 48 i306_43 rfl rfl ?_
        refine X.istore 50 [(0, zr 4 44), (1, zi y1), (2, zi y2), (3, zl y3), (5, zi y5), (6, zi (y5 / 86400)), (7, zi ((y1 + y2) - ((y5 / 86400) * 86400)))] i306_48 rfl rfl rfl ?_
        refine X.lload_n 51 i306_50 rfl rfl rfl ?_
        refine X.aload_n 52 i306_51 rfl rfl rfl ?_
        refine X.iload 54 i306_52 rfl rfl rfl ?_
        refine X.iload 56 i306_54 rfl rfl rfl ?_
        refine X.ldc 58 i306_56 rfl rfl (by decide) ?_
        refine X.irem 59 i306_58 rfl rfl (by omega) ?_
        refine X.iload 61 i306_59 rfl rfl rfl ?_
        refine X.callv 64 [zi (y5 / 86400), zi (y5 % 86400), zi ((y1 + y2) - ((y5 / 86400) * 86400))] [zl y3] [(0, zr 4 44), (1, zi (y5 / 86400)), (2, zi (y5 % 86400)), (3, zi ((y1 + y2) - ((y5 / 86400) * 86400)))] i306_61 rfl (by decide) rfl rfl (by omega) rfl rfl (by decide) rfl t307 (Nat.le_of_ble_eq_true rfl) (Nat.le_of_ble_eq_true rfl) rfl ?_
        refine c307_2 (B := B)  (y5 / 86400) (y5 % 86400) ((y1 + y2) - ((y5 / 86400) * 86400)) (by omega) (hJ.up (by omega)) (by omega) (by omega) (by omega) (by omega) (fun v529 hv529 => ?_)
        show X (EE s) d 306 64 [(0, zr 4 44), (1, zi y1), (2, zi y2), (3, zl y3), (5, zi y5), (6, zi (y5 / 86400)), (7, zi ((y1 + y2) - ((y5 / 86400) * 86400)))] [zl v529, zl y3] m _
        refine X.llF 65 .ladd (fun x y => x + y) i306_64 rfl rfl rfl (fun _ _ => rfl) (fun z530 hz530 => ?_)
        refine X.lstore_n 66 [(0, zr 4 44), (1, zi y1), (2, zi y2), (3, zl z530), (5, zi y5), (6, zi (y5 / 86400)), (7, zi ((y1 + y2) - ((y5 / 86400) * 86400)))] i306_65 rfl rfl rfl ?_
        refine X.iload 68 i306_66 rfl rfl rfl ?_
        refine X.ldc 70 i306_68 rfl rfl (by decide) ?_
        refine X.imul 71 i306_70 rfl rfl (by omega) ?_
        refine X.iload 73 i306_71 rfl rfl rfl ?_
        refine X.iadd 74 i306_73 rfl rfl (by omega) ?_
        refine X.istore 76 [(0, zr 4 44), (1, zi y1), (2, zi y2), (3, zl z530), (5, zi (((y5 / 86400) * 86400) + ((y1 + y2) - ((y5 / 86400) * 86400)))), (6, zi (y5 / 86400)), (7, zi ((y1 + y2) - ((y5 / 86400) * 86400)))] i306_74 rfl rfl rfl ?_
        refine X.goto 5 i306_76 rfl rfl ?_
        refine X.cut [(0, zr 4 44), (1, zi y1), (2, zi y2), (3, zl z530), (5, zi (((y5 / 86400) * 86400) + ((y1 + y2) - ((y5 / 86400) * 86400))))] i306_5 rfl ?_
        exact ih z530 (((y5 / 86400) * 86400) + ((y1 + y2) - ((y5 / 86400) * 86400))) (by omega) (by omega) (by omega)
-- WorkMeterModel.costFrom
theorem c306_1 {s : Nat × (Nat → Int32)} {S : zS} {m0 m : zM} {B : Int} {d : Nat} {Q : Option zV → zM → Prop} (a1 a2 : Int) (hd : 16 ≤ d) (hJ : J S m0 B m) (hB : B + 0 ≤ 1000000000) (ha1 : 0 ≤ a1 ∧ a1 ≤ 2000000000) (ha2 : 1 ≤ a2 ∧ a2 ≤ 100000) (hQ : ∀ (v : Int), (True) → Q (some (zl v)) m) : X (EE s) d 306 0 [(0, zr 4 44), (1, zi a1), (2, zi a2)] [] m Q := by
  refine X.lconst (y := 0) 1 i306_0 rfl rfl rfl ?_
  refine X.lstore_n 2 [(0, zr 4 44), (1, zi a1), (2, zi a2), (3, zl 0)] i306_1 rfl rfl rfl ?_
  refine X.iload_n 3 i306_2 rfl rfl rfl ?_
  refine X.istore 5 [(0, zr 4 44), (1, zi a1), (2, zi a2), (3, zl 0), (5, zi a1)] i306_3 rfl rfl rfl ?_
  refine l306_5_1 (s := s) (S := S) (m0 := m0) (m := m) (B := B) (d := d)  a1 a2 (by omega) (hJ.up (by omega)) (by omega) (by omega) (by omega) (fun y501 hby501 => ?_) ((a1 + a2 - a1 : Int).toNat + 1) 0 a1 (by omega) (by omega) (by omega)
  refine X.lload_n 80 i306_79 rfl rfl rfl ?_
  refine X.retl i306_80 rfl t306 ?_
  exact hQ y501 (by first | trivial | omega) 
-- WorkMeterModel.cost
theorem c305_1 {s : Nat × (Nat → Int32)} {S : zS} {m0 m : zM} {B : Int} {d : Nat} {Q : Option zV → zM → Prop} (a1 : Int) (hd : 17 ≤ d) (hJ : J S m0 B m) (hB : B + 0 ≤ 1000000000) (ha1 : (-2147483648) ≤ a1 ∧ a1 ≤ 2147483647) (hQ : ∀ (v : Int), (True) → Q (some (zl v)) m) : X (EE s) d 305 0 [(0, zr 4 44), (1, zi a1)] [] m Q := by
  refine X.iload_n 1 i305_0 rfl rfl rfl ?_
  refine X.i2l 2 i305_1 rfl rfl ?_
  refine X.lconst (y := 1) 3 i305_2 rfl rfl rfl ?_
  refine X.ldc2 6 i305_3 rfl rfl (by decide) ?_
  refine X.calls 9 [zl a1, zl 1, zl 100000] [] [(0, zl a1), (2, zl 1), (4, zl 100000)] i305_6 (by decide) rfl rfl (by omega) rfl rfl t204 (Nat.le_of_ble_eq_true rfl) (Nat.le_of_ble_eq_true rfl) rfl ?_
  refine X.lload_n 1 i204_0 rfl rfl rfl ?_
  refine X.lload_n 2 i204_1 rfl rfl rfl ?_
  refine X.lcmp 3 i204_2 rfl rfl (fun z501 hz501 => ?_)
  refine X.iflt 17 6 i204_3 rfl rfl rfl (fun h502 => ?_) (fun h502 => ?_)
  · have h502c : a1 < 1 := by omega
    clear h502 hz501
    refine X.cut [] i204_17 rfl ?_
    refine X.iconst 18 i204_17 rfl rfl (by decide) ?_
    refine X.retz i204_18 rfl t204 (by omega) ?_
    show X (EE s) d 305 9 [(0, zr 4 44), (1, zi a1)] [zi 0] m _
    refine X.ifeq 43 12 i305_9 rfl rfl rfl (fun h503 => ?_) (fun h503 => (by exfalso; omega))
    refine X.cut [] i305_43 rfl ?_
    refine X.ldc2 46 i305_43 rfl rfl (by decide) ?_
    refine X.retl i305_46 rfl t305 ?_
    exact hQ (-1) (by first | trivial | omega) 
  · have h502c : a1 ≥ 1 := by omega
    clear h502 hz501
    refine X.lload_n 7 i204_6 rfl rfl rfl ?_
    refine X.lload 9 i204_7 rfl rfl rfl ?_
    refine X.lcmp 10 i204_9 rfl rfl (fun z504 hz504 => ?_)
    refine X.ifgt 17 13 i204_10 rfl rfl rfl (fun h505 => ?_) (fun h505 => ?_)
    · have h505c : a1 > 100000 := by omega
      clear h505 hz504
      refine X.cut [] i204_17 rfl ?_
      refine X.iconst 18 i204_17 rfl rfl (by decide) ?_
      refine X.retz i204_18 rfl t204 (by omega) ?_
      show X (EE s) d 305 9 [(0, zr 4 44), (1, zi a1)] [zi 0] m _
      refine X.ifeq 43 12 i305_9 rfl rfl rfl (fun h506 => ?_) (fun h506 => (by exfalso; omega))
      refine X.cut [] i305_43 rfl ?_
      refine X.ldc2 46 i305_43 rfl rfl (by decide) ?_
      refine X.retl i305_46 rfl t305 ?_
      exact hQ (-1) (by first | trivial | omega) 
    · have h505c : a1 ≤ 100000 := by omega
      clear h505 hz504
      refine X.iconst 14 i204_13 rfl rfl (by decide) ?_
      refine X.goto 18 i204_14 rfl rfl ?_
      refine X.cut [] i204_18 rfl ?_
      refine X.retz i204_18 rfl t204 (by omega) ?_
      show X (EE s) d 305 9 [(0, zr 4 44), (1, zi a1)] [zi 1] m _
      refine X.ifeq 43 12 i305_9 rfl rfl rfl (fun h507 => (by exfalso; omega)) (fun h507 => ?_)
      refine X.aload_n 13 i305_12 rfl rfl rfl ?_
      refine X.getF 16 i305_13 rfl rfl (by decide) rfl rfl ?_
      refine X.iconst 17 i305_16 rfl rfl (by decide) ?_
      refine X.lald 18 i305_17 rfl rfl (by decide) rfl (by omega) ?_
      have h508 := r45_0 hJ 4
      refine X.iload_n 19 i305_18 rfl rfl rfl ?_
      refine X.i2l 20 i305_19 rfl rfl ?_
      refine X.ladd 21 i305_20 rfl rfl (by omega) ?_
      refine X.ldc2 24 i305_21 rfl rfl (by decide) ?_
      refine X.lcmp 25 i305_24 rfl rfl (fun z509 hz509 => ?_)
      refine X.ifgt 43 28 i305_25 rfl rfl rfl (fun h510 => ?_) (fun h510 => ?_)
      · have h510c : ((m 4 45 0) + a1) > 2000000000 := by omega
        clear h510 hz509
        refine X.cut [] i305_43 rfl ?_
        refine X.ldc2 46 i305_43 rfl rfl (by decide) ?_
        refine X.retl i305_46 rfl t305 ?_
        exact hQ (-1) (by first | trivial | omega) 
      · have h510c : ((m 4 45 0) + a1) ≤ 2000000000 := by omega
        clear h510 hz509
        refine X.aload_n 29 i305_28 rfl rfl rfl ?_
        refine X.aload_n 30 i305_29 rfl rfl rfl ?_
        refine X.getF 33 i305_30 rfl rfl (by decide) rfl rfl ?_
        refine X.iconst 34 i305_33 rfl rfl (by decide) ?_
        refine X.lald 35 i305_34 rfl rfl (by decide) rfl (by omega) ?_
        refine X.l2i 36 i305_35 rfl rfl (by omega) ?_
        refine X.iload_n 37 i305_36 rfl rfl rfl ?_
        refine X.callv 40 [zi (m 4 45 0), zi a1] [] [(0, zr 4 44), (1, zi (m 4 45 0)), (2, zi a1)] i305_37 rfl (by decide) rfl rfl (by omega) rfl rfl (by decide) rfl t306 (Nat.le_of_ble_eq_true rfl) (Nat.le_of_ble_eq_true rfl) rfl ?_
        refine c306_1 (B := B)  (m 4 45 0) a1 (by omega) (hJ.up (by omega)) (by omega) (by omega) (by omega) (fun v513 hv513 => ?_)
        show X (EE s) d 305 40 [(0, zr 4 44), (1, zi a1)] [zl v513] m _
        refine X.goto 46 i305_40 rfl rfl ?_
        refine X.cut [] i305_46 rfl ?_
        refine X.retl i305_46 rfl t305 ?_
        exact hQ v513 (by first | trivial | omega) 
theorem l182_14_2 {s : Nat × (Nat → Int32)} {S : zS} {m0 m : zM} {B : Int} {d : Nat} {Q : Option zV → zM → Prop} (g0 g3 : Nat) (y2 y4 : Int) (hd : 16 ≤ d) (hJ : J S m0 B m) (hB9 : B ≤ 1000000000) (hy2 : 1 ≤ y2 ∧ y2 ≤ 100000) (hy4 : 901 ≤ y4 ∧ y4 ≤ 2000185500)
    (K73 : ∀ (x6 : Int) , (True) → X (EE s) d 182 73 [(6, zl x6)] [] m Q) :
    ∀ (n : Nat) (y5 y6 y8 : Int) , (0 ≤ y5 ∧ y5 ≤ 2000185500) → (0 ≤ y8 ∧ y8 ≤ 100000) → 100000 - y8 < (n : Int) → X (EE s) d 182 14 [(0, zr g0 11), (2, zi y2), (3, zr g3 9), (4, zi y4), (5, zi y5), (6, zl y6), (8, zi y8)] [] m Q := by
  intro n
  induction n with
  | zero =>
    intro y5 y6 y8 hy5 hy8 hn
    exfalso
    omega
  | succ n ih =>
    intro y5 y6 y8 hy5 hy8 hn
    refine X.iload 16 i182_14 rfl rfl rfl ?_
    refine X.iload_n 17 i182_16 rfl rfl rfl ?_
    refine X.icmpge 73 20 i182_17 rfl rfl rfl (fun h567 => ?_) (fun h567 => ?_)
    · refine X.cut [(6, zl y6)] i182_73 rfl ?_
      exact K73 y6 (by first | trivial | omega)
    · refine X.iload 22 i182_20 rfl rfl rfl ?_
      refine X.iload 24 i182_22 rfl rfl rfl ?_
      refine X.icmpge 73 27 i182_24 rfl rfl rfl (fun h568 => ?_) (fun h568 => ?_)
      · refine X.cut [(6, zl y6)] i182_73 rfl ?_
        exact K73 y6 (by first | trivial | omega)
      · refine X.aload_n 28 i182_27 rfl rfl rfl ?_
        refine X.iload 30 i182_28 rfl rfl rfl ?_
        refine X.callv 33 [zi y5] [] [(0, zr g0 11), (1, zi y5)] i182_30 rfl (by decide) rfl rfl (by omega) rfl rfl (by decide) rfl t37 (Nat.le_of_ble_eq_true rfl) (Nat.le_of_ble_eq_true rfl) rfl ?_
        refine c37_1 (B := B) g0 y5 (by omega) (hJ.up (by omega)) (by omega) (by omega) (fun v571 hv571 hqv5710 => ?_)
        show X (EE s) d 182 33 [(0, zr g0 11), (2, zi y2), (3, zr g3 9), (4, zi y4), (5, zi y5), (6, zl y6), (8, zi y8)] [zi v571] m _
        refine X.iload 35 i182_33 rfl rfl rfl ?_
        refine X.minI 38 i182_35 rfl rfl (by omega) (Nat.le_of_ble_eq_true rfl) ?_
        refine X.istore 40 [(0, zr g0 11), (2, zi y2), (3, zr g3 9), (4, zi y4), (5, zi y5), (6, zl y6), (8, zi y8), (9, zi (min v571 y4))] i182_38 rfl rfl rfl ?_
        refine X.lload 42 i182_40 rfl rfl rfl ?_
        refine X.aload_n 43 i182_42 rfl rfl rfl ?_
        refine X.aload_n 44 i182_43 rfl rfl rfl ?_
        refine X.iload 46 i182_44 rfl rfl rfl ?_
        refine X.callv 49 [zi y5] [zr g3 9, zl y6] [(0, zr g0 11), (1, zi y5)] i182_46 rfl (by decide) rfl rfl (by omega) rfl rfl (by decide) rfl t27 (Nat.le_of_ble_eq_true rfl) (Nat.le_of_ble_eq_true rfl) rfl ?_
        refine X.aload_n 1 i27_0 rfl rfl rfl ?_
        refine X.aload_n 2 i27_1 rfl rfl rfl ?_
        refine X.iload_n 3 i27_2 rfl rfl rfl ?_
        refine X.ldc 5 i27_3 rfl rfl (by decide) ?_
        refine X.idiv 6 i27_5 rfl rfl (by omega) ?_
        refine X.callv 9 [zi (y5 / 86400)] [zr g0 11] [(0, zr g0 11), (1, zi (y5 / 86400))] i27_6 rfl (by decide) rfl rfl (by omega) rfl rfl (by decide) rfl t28 (Nat.le_of_ble_eq_true rfl) (Nat.le_of_ble_eq_true rfl) rfl ?_
        refine c28_1 (B := B) g0 (y5 / 86400) (by omega) (hJ.up (by omega)) (by omega) (by omega) (fun v574 hv574 => ?_)
        show X (EE s) (d - 1) 27 9 [(0, zr g0 11), (1, zi y5)] [zi v574, zr g0 11] m _
        refine X.iload_n 10 i27_9 rfl rfl rfl ?_
        refine X.ldc 12 i27_10 rfl rfl (by decide) ?_
        refine X.irem 13 i27_12 rfl rfl (by omega) ?_
        refine X.callv 16 [zi v574, zi (y5 % 86400)] [] [(0, zr g0 11), (1, zi v574), (2, zi (y5 % 86400))] i27_13 rfl (by decide) rfl rfl (by omega) rfl rfl (by decide) rfl t31 (Nat.le_of_ble_eq_true rfl) (Nat.le_of_ble_eq_true rfl) rfl ?_
        refine c31_1 (B := B) g0 v574 (y5 % 86400) (by omega) (hJ.up (by omega)) (by omega) (by omega) (by omega) (fun v577 hv577 => ?_)
        show X (EE s) (d - 1) 27 16 [(0, zr g0 11), (1, zi y5)] [zi v577] m _
        refine X.reti i27_16 rfl t27 ?_
        show X (EE s) d 182 49 [(0, zr g0 11), (2, zi y2), (3, zr g3 9), (4, zi y4), (5, zi y5), (6, zl y6), (8, zi y8), (9, zi (min v571 y4))] [zi v577, zr g3 9, zl y6] m _
        refine X.callv 52 [zi v577] [zl y6] [(0, zr g3 9), (1, zi v577)] i182_49 rfl (by decide) rfl rfl (by omega) rfl rfl (by decide) rfl t43 (Nat.le_of_ble_eq_true rfl) (Nat.le_of_ble_eq_true rfl) rfl ?_
        refine X.aload_n 1 i43_0 rfl rfl rfl ?_
        refine X.getR 4 i43_1 rfl rfl (by decide) rfl rfl ?_
        refine X.bipush 6 i43_4 rfl rfl (by decide) ?_
        refine X.iload_n 7 i43_6 rfl rfl rfl ?_
        refine X.iadd 8 i43_7 rfl rfl (by omega) ?_
        refine X.iald 9 i43_8 rfl rfl (by decide) rfl (by omega) ?_
        have h578 := r10_6 hJ g3 (i := (6 + v577)) (by omega)
        refine X.reti i43_9 rfl t43 ?_
        show X (EE s) d 182 52 [(0, zr g0 11), (2, zi y2), (3, zr g3 9), (4, zi y4), (5, zi y5), (6, zl y6), (8, zi y8), (9, zi (min v571 y4))] [zi (m g3 10 (6 + v577)), zl y6] m _
        refine X.i2l 53 i182_52 rfl rfl ?_
        refine X.iload 55 i182_53 rfl rfl rfl ?_
        refine X.iload 57 i182_55 rfl rfl rfl ?_
        refine X.isub 58 i182_57 rfl rfl (by omega) ?_
        refine X.i2l 59 i182_58 rfl rfl ?_
        have hz579 := z_mulr (a := 0) (b := 1000000) (c := (-2000185499)) (e := 2000185500) (x := (m g3 10 (6 + v577))) (y := ((min v571 y4) - y5)) (by omega) (by omega)
        refine X.lmul 60 i182_59 rfl rfl (z_in3 hz579 (by decide) (by decide)) ?_
        obtain ⟨z579, ez579⟩ : ∃ z, z = ((m g3 10 (6 + v577)) * ((min v571 y4) - y5)) := ⟨_, rfl⟩
        rw [← ez579] at hz579 ⊢
        have gz579 : (-2000185499000000) ≤ z579 ∧ z579 ≤ 2000185500000000 := z_in3 hz579 (by decide) (by decide)
        clear hz579
        refine X.llF 61 .ladd (fun x y => x + y) i182_60 rfl rfl rfl (fun _ _ => rfl) (fun z580 hz580 => ?_)
        refine X.lstore 63 [(0, zr g0 11), (2, zi y2), (3, zr g3 9), (4, zi y4), (5, zi y5), (6, zl z580), (8, zi y8), (9, zi (min v571 y4))] i182_61 rfl rfl rfl ?_
        refine X.iload 65 i182_63 rfl rfl rfl ?_
        refine X.istore 67 [(0, zr g0 11), (2, zi y2), (3, zr g3 9), (4, zi y4), (5, zi (min v571 y4)), (6, zl z580), (8, zi y8), (9, zi (min v571 y4))] i182_65 rfl rfl rfl ?_
        refine X.iinc 70 [(0, zr g0 11), (2, zi y2), (3, zr g3 9), (4, zi y4), (5, zi (min v571 y4)), (6, zl z580), (8, zi (y8 + 1)), (9, zi (min v571 y4))] i182_67 rfl rfl rfl (by omega) rfl ?_
        refine X.goto 14 i182_70 rfl rfl ?_
        refine X.cut [(0, zr g0 11), (2, zi y2), (3, zr g3 9), (4, zi y4), (5, zi (min v571 y4)), (6, zl z580), (8, zi (y8 + 1))] i182_14 rfl ?_
        exact ih (min v571 y4) z580 (y8 + 1) (by omega) (by omega) (by omega)
-- WorkMeter$Calendar.costOf
theorem c182_2 {s : Nat × (Nat → Int32)} {S : zS} {m0 m : zM} {B : Int} {d : Nat} {Q : Option zV → zM → Prop} (g0 g3 : Nat) (a1 a2 : Int) (hd : 16 ≤ d) (hJ : J S m0 B m) (hB : B + 0 ≤ 1000000000) (ha1 : 900 ≤ a1 ∧ a1 ≤ 2000085500) (ha2 : 1 ≤ a2 ∧ a2 ≤ 100000) (hQ : ∀ (v : Int), (True) → Q (some (zl v)) m) : X (EE s) d 182 0 [(0, zr g0 11), (1, zi a1), (2, zi a2), (3, zr g3 9)] [] m Q := by
  refine X.iload_n 1 i182_0 rfl rfl rfl ?_
  refine X.iload_n 2 i182_1 rfl rfl rfl ?_
  refine X.iadd 3 i182_2 rfl rfl (by omega) ?_
  refine X.istore 5 [(0, zr g0 11), (1, zi a1), (2, zi a2), (3, zr g3 9), (4, zi (a1 + a2))] i182_3 rfl rfl rfl ?_
  refine X.iload_n 6 i182_5 rfl rfl rfl ?_
  refine X.istore 8 [(0, zr g0 11), (1, zi a1), (2, zi a2), (3, zr g3 9), (4, zi (a1 + a2)), (5, zi a1)] i182_6 rfl rfl rfl ?_
  refine X.lconst (y := 0) 9 i182_8 rfl rfl rfl ?_
  refine X.lstore 11 [(0, zr g0 11), (1, zi a1), (2, zi a2), (3, zr g3 9), (4, zi (a1 + a2)), (5, zi a1), (6, zl 0)] i182_9 rfl rfl rfl ?_
  refine X.iconst 12 i182_11 rfl rfl (by decide) ?_
  refine X.istore 14 [(0, zr g0 11), (1, zi a1), (2, zi a2), (3, zr g3 9), (4, zi (a1 + a2)), (5, zi a1), (6, zl 0), (8, zi 0)] i182_12 rfl rfl rfl ?_
  refine X.cut [(0, zr g0 11), (2, zi a2), (3, zr g3 9), (4, zi (a1 + a2)), (5, zi a1), (6, zl 0), (8, zi 0)] i182_14 rfl ?_
  refine l182_14_2 (s := s) (S := S) (m0 := m0) (m := m) (B := B) (d := d) g0 g3 a2 (a1 + a2) (by omega) (hJ.up (by omega)) (by omega) (by omega) (by omega) (fun y501 hby501 => ?_) ((100000 - 0 : Int).toNat + 1) a1 0 0 (by omega) (by omega) (by omega)
  refine X.lload 75 i182_73 rfl rfl rfl ?_
  refine X.retl i182_75 rfl t182 ?_
  exact hQ y501 (by first | trivial | omega) 
theorem l183_80_1 {s : Nat × (Nat → Int32)} {S : zS} {m0 m : zM} {B : Int} {d : Nat} {Q : Option zV → zM → Prop} (y1 y2 : Int) (hd : 17 ≤ d) (hJ : J S m0 B m) (hB9 : B ≤ 1000000000) (hy1 : 1 ≤ y1 ∧ y1 ≤ 100000) (hy2 : 0 ≤ y2 ∧ y2 ≤ 1)
    (K146 : ∀ (x3 x4 : Int) , (0 ≤ x3 ∧ x3 ≤ 2000085500) → (True) → X (EE s) d 183 146 [(2, zi y2), (3, zi x3), (4, zl x4)] [] m Q) :
    ∀ (n : Nat) (y3 y4 y6 : Int) , (0 ≤ y3 ∧ y3 ≤ 2000085500) → (1 ≤ y6 ∧ y6 ≤ 96) → 96 - y6 < (n : Int) → X (EE s) d 183 80 [(0, zr 4 40), (1, zi y1), (2, zi y2), (3, zi y3), (4, zl y4), (6, zi y6)] [] m Q := by
  intro n
  induction n with
  | zero =>
    intro y3 y4 y6 hy3 hy6 hn
    exfalso
    omega
  | succ n ih =>
    intro y3 y4 y6 hy3 hy6 hn
    refine X.iload 82 i183_80 rfl rfl rfl ?_
    refine X.bipush 84 i183_82 rfl rfl (by decide) ?_
    refine X.icmpge 146 87 i183_84 rfl rfl rfl (fun h515 => ?_) (fun h515 => ?_)
    · refine X.cut [(2, zi y2), (3, zi y3), (4, zl y4)] i183_146 rfl ?_
      exact K146 y3 y4 (by first | trivial | omega) (by first | trivial | omega)
    · refine X.aload_n 88 i183_87 rfl rfl rfl ?_
      refine X.getF 91 i183_88 rfl rfl (by decide) rfl rfl ?_
      refine X.getI 94 9 i183_91 rfl rfl (by decide) rfl rfl rfl ?_
      have h516 := r8_9 hJ 0
      refine X.iload 96 i183_94 rfl rfl rfl ?_
      refine X.sipush 99 i183_96 rfl rfl (by decide) ?_
      refine X.imul 100 i183_99 rfl rfl (by omega) ?_
      refine X.iadd 101 i183_100 rfl rfl (by omega) ?_
      refine X.istore 103 [(0, zr 4 40), (1, zi y1), (2, zi y2), (3, zi y3), (4, zl y4), (6, zi y6), (7, zi ((m 0 8 9) + (y6 * 900)))] i183_101 rfl rfl rfl ?_
      refine X.aload_n 104 i183_103 rfl rfl rfl ?_
      refine X.getF 107 i183_104 rfl rfl (by decide) rfl rfl ?_
      refine X.getR 110 i183_107 rfl rfl (by decide) rfl rfl ?_
      refine X.iload 112 i183_110 rfl rfl rfl ?_
      refine X.iload_n 113 i183_112 rfl rfl rfl ?_
      refine X.aload_n 114 i183_113 rfl rfl rfl ?_
      refine X.getF 117 i183_114 rfl rfl (by decide) rfl rfl ?_
      refine X.getR 120 i183_117 rfl rfl (by decide) rfl rfl ?_
      refine X.callv 123 [zi ((m 0 8 9) + (y6 * 900)), zi y1, zr 0 9] [] [(0, zr 0 11), (1, zi ((m 0 8 9) + (y6 * 900))), (2, zi y1), (3, zr 0 9)] i183_120 rfl (by decide) rfl rfl (by omega) rfl rfl (by decide) rfl t182 (Nat.le_of_ble_eq_true rfl) (Nat.le_of_ble_eq_true rfl) rfl ?_
      refine c182_2 (B := B) 0 0 ((m 0 8 9) + (y6 * 900)) y1 (by omega) (hJ.up (by omega)) (by omega) (by omega) (by omega) (fun v519 hv519 => ?_)
      show X (EE s) d 183 123 [(0, zr 4 40), (1, zi y1), (2, zi y2), (3, zi y3), (4, zl y4), (6, zi y6), (7, zi ((m 0 8 9) + (y6 * 900)))] [zl v519] m _
      refine X.lstore 125 [(0, zr 4 40), (1, zi y1), (2, zi y2), (3, zi y3), (4, zl y4), (6, zi y6), (7, zi ((m 0 8 9) + (y6 * 900))), (8, zl v519)] i183_123 rfl rfl rfl ?_
      refine X.lload 127 i183_125 rfl rfl rfl ?_
      refine X.lload 129 i183_127 rfl rfl rfl ?_
      refine X.lcmp 130 i183_129 rfl rfl (fun z520 hz520 => ?_)
      refine X.ifge 140 133 i183_130 rfl rfl rfl (fun h521 => ?_) (fun h521 => ?_)
      · have h521c : v519 ≥ y4 := by omega
        clear h521 hz520
        refine X.cut [(0, zr 4 40), (1, zi y1), (2, zi y2), (3, zi y3), (4, zl y4), (6, zi y6)] i183_140 rfl ?_
        refine X.iinc 143 [(0, zr 4 40), (1, zi y1), (2, zi y2), (3, zi y3), (4, zl y4), (6, zi (y6 + 1))] i183_140 rfl rfl rfl (by omega) rfl ?_
        refine X.goto 80 i183_143 rfl rfl ?_
        exact ih y3 y4 (y6 + 1) (by omega) (by omega) (by omega)
      · have h521c : v519 < y4 := by omega
        clear h521 hz520
        refine X.lload 135 i183_133 rfl rfl rfl ?_
        refine X.lstore 137 [(0, zr 4 40), (1, zi y1), (2, zi y2), (3, zi y3), (4, zl v519), (6, zi y6), (7, zi ((m 0 8 9) + (y6 * 900))), (8, zl v519)] i183_135 rfl rfl rfl ?_
        refine X.iload 139 i183_137 rfl rfl rfl ?_
        refine X.istore_n 140 [(0, zr 4 40), (1, zi y1), (2, zi y2), (3, zi ((m 0 8 9) + (y6 * 900))), (4, zl v519), (6, zi y6), (7, zi ((m 0 8 9) + (y6 * 900))), (8, zl v519)] i183_139 rfl rfl rfl ?_
        refine X.cut [(0, zr 4 40), (1, zi y1), (2, zi y2), (3, zi ((m 0 8 9) + (y6 * 900))), (4, zl v519), (6, zi y6)] i183_140 rfl ?_
        refine X.iinc 143 [(0, zr 4 40), (1, zi y1), (2, zi y2), (3, zi ((m 0 8 9) + (y6 * 900))), (4, zl v519), (6, zi (y6 + 1))] i183_140 rfl rfl rfl (by omega) rfl ?_
        refine X.goto 80 i183_143 rfl rfl ?_
        exact ih ((m 0 8 9) + (y6 * 900)) v519 (y6 + 1) (by omega) (by omega) (by omega)
-- WorkMeter.cheapest
theorem c183_1 {s : Nat × (Nat → Int32)} {S : zS} {m0 m : zM} {B : Int} {d : Nat} {Q : Option zV → zM → Prop} (a1 a2 : Int) (hd : 17 ≤ d) (hJ : J S m0 B m) (hB : B + 0 ≤ 1000000000) (ha1 : (-2147483648) ≤ a1 ∧ a1 ≤ 2147483647) (ha2 : (-2147483648) ≤ a2 ∧ a2 ≤ 2147483647) (hQ : ∀ (v : Int), (True) → Q (some (zl v)) m) : X (EE s) d 183 0 [(0, zr 4 40), (1, zi a1), (2, zi a2)] [] m Q := by
  refine X.iload_n 1 i183_0 rfl rfl rfl ?_
  refine X.iconst 2 i183_1 rfl rfl (by decide) ?_
  refine X.icmplt 20 5 i183_2 rfl rfl rfl (fun h501 => ?_) (fun h501 => ?_)
  · refine X.cut [] i183_20 rfl ?_
    refine X.ldc2 23 i183_20 rfl rfl (by decide) ?_
    refine X.retl i183_23 rfl t183 ?_
    exact hQ (-1) (by first | trivial | omega) 
  · refine X.iload_n 6 i183_5 rfl rfl rfl ?_
    refine X.ldc 8 i183_6 rfl rfl (by decide) ?_
    refine X.icmpgt 20 11 i183_8 rfl rfl rfl (fun h502 => ?_) (fun h502 => ?_)
    · refine X.cut [] i183_20 rfl ?_
      refine X.ldc2 23 i183_20 rfl rfl (by decide) ?_
      refine X.retl i183_23 rfl t183 ?_
      exact hQ (-1) (by first | trivial | omega) 
    · refine X.iload_n 12 i183_11 rfl rfl rfl ?_
      refine X.iflt 20 15 i183_12 rfl rfl rfl (fun h503 => ?_) (fun h503 => ?_)
      · refine X.cut [] i183_20 rfl ?_
        refine X.ldc2 23 i183_20 rfl rfl (by decide) ?_
        refine X.retl i183_23 rfl t183 ?_
        exact hQ (-1) (by first | trivial | omega) 
      · refine X.iload_n 16 i183_15 rfl rfl rfl ?_
        refine X.iconst 17 i183_16 rfl rfl (by decide) ?_
        refine X.icmple 24 20 i183_17 rfl rfl rfl (fun h504 => ?_) (fun h504 => ?_)
        · refine X.aload_n 25 i183_24 rfl rfl rfl ?_
          refine X.getF 28 i183_25 rfl rfl (by decide) rfl rfl ?_
          refine X.getI 31 9 i183_28 rfl rfl (by decide) rfl rfl rfl ?_
          have h505 := r8_9 hJ 0
          refine X.ldcw 34 i183_31 rfl rfl (by decide) ?_
          refine X.iadd 35 i183_34 rfl rfl (by omega) ?_
          refine X.iload_n 36 i183_35 rfl rfl rfl ?_
          refine X.iadd 37 i183_36 rfl rfl (by omega) ?_
          refine X.iconst 38 i183_37 rfl rfl (by decide) ?_
          refine X.isub 39 i183_38 rfl rfl (by omega) ?_
          refine X.ldc 41 i183_39 rfl rfl (by decide) ?_
          refine X.icmple 48 44 i183_41 rfl rfl rfl (fun h506 => ?_) (fun h506 => ?_)
          · refine X.aload_n 49 i183_48 rfl rfl rfl ?_
            refine X.getF 52 i183_49 rfl rfl (by decide) rfl rfl ?_
            refine X.getI 55 9 i183_52 rfl rfl (by decide) rfl rfl rfl ?_
            refine X.istore_n 56 [(0, zr 4 40), (1, zi a1), (2, zi a2), (3, zi (m 0 8 9))] i183_55 rfl rfl rfl ?_
            refine X.aload_n 57 i183_56 rfl rfl rfl ?_
            refine X.getF 60 i183_57 rfl rfl (by decide) rfl rfl ?_
            refine X.getR 63 i183_60 rfl rfl (by decide) rfl rfl ?_
            refine X.iload_n 64 i183_63 rfl rfl rfl ?_
            refine X.iload_n 65 i183_64 rfl rfl rfl ?_
            refine X.aload_n 66 i183_65 rfl rfl rfl ?_
            refine X.getF 69 i183_66 rfl rfl (by decide) rfl rfl ?_
            refine X.getR 72 i183_69 rfl rfl (by decide) rfl rfl ?_
            refine X.callv 75 [zi (m 0 8 9), zi a1, zr 0 9] [] [(0, zr 0 11), (1, zi (m 0 8 9)), (2, zi a1), (3, zr 0 9)] i183_72 rfl (by decide) rfl rfl (by omega) rfl rfl (by decide) rfl t182 (Nat.le_of_ble_eq_true rfl) (Nat.le_of_ble_eq_true rfl) rfl ?_
            refine c182_1 (B := B) 0 0 (m 0 8 9) a1 (by omega) (hJ.up (by omega)) (by omega) (by omega) (by omega) (fun v509 hv509 => ?_)
            show X (EE s) d 183 75 [(0, zr 4 40), (1, zi a1), (2, zi a2), (3, zi (m 0 8 9))] [zl v509] m _
            refine X.lstore 77 [(0, zr 4 40), (1, zi a1), (2, zi a2), (3, zi (m 0 8 9)), (4, zl v509)] i183_75 rfl rfl rfl ?_
            refine X.iconst 78 i183_77 rfl rfl (by decide) ?_
            refine X.istore 80 [(0, zr 4 40), (1, zi a1), (2, zi a2), (3, zi (m 0 8 9)), (4, zl v509), (6, zi 1)] i183_78 rfl rfl rfl ?_
            refine l183_80_1 (s := s) (S := S) (m0 := m0) (m := m) (B := B) (d := d)  a1 a2 (by omega) (hJ.up (by omega)) (by omega) (by omega) (by omega) (fun y510 y511 hby510 hby511 => ?_) ((96 - 1 : Int).toNat + 1) (m 0 8 9) v509 1 (by omega) (by omega) (by omega)
            refine X.iload_n 147 i183_146 rfl rfl rfl ?_
            refine X.ifne 155 150 i183_147 rfl rfl rfl (fun h515 => ?_) (fun h515 => ?_)
            · refine X.cut [(4, zl y511)] i183_155 rfl ?_
              refine X.lload 157 i183_155 rfl rfl rfl ?_
              refine X.cut [] i183_157 rfl ?_
              refine X.retl i183_157 rfl t183 ?_
              exact hQ y511 (by first | trivial | omega) 
            · refine X.iload_n 151 i183_150 rfl rfl rfl ?_
              refine X.i2l 152 i183_151 rfl rfl ?_
              refine X.goto 157 i183_152 rfl rfl ?_
              refine X.cut [] i183_157 rfl ?_
              refine X.retl i183_157 rfl t183 ?_
              exact hQ y510 (by first | trivial | omega) 
          · refine X.ldc2 47 i183_44 rfl rfl (by decide) ?_
            refine X.retl i183_47 rfl t183 ?_
            exact hQ (-1) (by first | trivial | omega) 
        · refine X.cut [] i183_20 rfl ?_
          refine X.ldc2 23 i183_20 rfl rfl (by decide) ?_
          refine X.retl i183_23 rfl t183 ?_
          exact hQ (-1) (by first | trivial | omega) 
-- WorkMeterModel.costOfDay
theorem c307_3 {s : Nat × (Nat → Int32)} {S : zS} {m0 m : zM} {B : Int} {d : Nat} {Q : Option zV → zM → Prop} (a1 a2 a3 : Int) (hd : 15 ≤ d) (hJ : J S m0 B m) (hB : B + 0 ≤ 1000000000) (ha1 : 0 ≤ a1 ∧ a1 ≤ 23150) (ha2 : 0 ≤ a2 ∧ a2 ≤ 86399) (ha3 : 86400 ≤ a3 ∧ a3 ≤ 86400) (hQ : ∀ (v : Int), (True) → Q (some (zl v)) m) : X (EE s) d 307 0 [(0, zr 4 44), (1, zi a1), (2, zi a2), (3, zi a3)] [] m Q := by
  refine X.aload_n 1 i307_0 rfl rfl rfl ?_
  refine X.iload_n 2 i307_1 rfl rfl rfl ?_
  refine X.callv 5 [zi a1] [] [(0, zr 4 44), (1, zi a1)] i307_2 rfl (by decide) rfl rfl (by omega) rfl rfl (by decide) rfl t218 (Nat.le_of_ble_eq_true rfl) (Nat.le_of_ble_eq_true rfl) rfl ?_
  refine c218_1 (B := B)  a1 (by omega) (hJ.up (by omega)) (by omega) (by omega) (fun v503 hv503 => ?_)
  show X (EE s) d 307 5 [(0, zr 4 44), (1, zi a1), (2, zi a2), (3, zi a3)] [zi v503] m _
  refine X.istore 7 [(0, zr 4 44), (1, zi a1), (2, zi a2), (3, zi a3), (4, zi v503)] i307_5 rfl rfl rfl ?_
  refine X.lconst (y := 0) 8 i307_7 rfl rfl rfl ?_
  refine X.lstore 10 [(0, zr 4 44), (1, zi a1), (2, zi a2), (3, zi a3), (4, zi v503), (5, zl 0)] i307_8 rfl rfl rfl ?_
  refine X.iconst 11 i307_10 rfl rfl (by decide) ?_
  refine X.istore 13 [(0, zr 4 44), (1, zi a1), (2, zi a2), (3, zi a3), (4, zi v503), (5, zl 0), (7, zi 0)] i307_11 rfl rfl rfl ?_
  refine X.iconst 14 i307_13 rfl rfl (by decide) ?_
  refine X.istore 16 [(0, zr 4 44), (1, zi a1), (2, zi a2), (3, zi a3), (4, zi v503), (5, zl 0), (7, zi 0), (8, zi 0)] i307_14 rfl rfl rfl ?_
  refine X.iconst 17 i307_16 rfl rfl (by decide) ?_
  refine X.istore 19 [(0, zr 4 44), (1, zi a1), (2, zi a2), (3, zi a3), (4, zi v503), (5, zl 0), (7, zi 0), (8, zi 0), (9, zi 0)] i307_17 rfl rfl rfl ?_
  refine X.cut [(0, zr 4 44), (2, zi a2), (3, zi a3), (4, zi v503), (5, zl 0), (7, zi 0), (8, zi 0), (9, zi 0)] i307_19 rfl ?_
  refine l307_19_1 (s := s) (S := S) (m0 := m0) (m := m) (B := B) (d := d)  a2 a3 v503 (by omega) (hJ.up (by omega)) (by omega) (by omega) (by omega) (by omega) (fun y504 hby504 => ?_) ((7 - 0 : Int).toNat + 1) 0 0 0 0 (by omega) (by omega) (by omega) (by omega)
  refine X.lload 187 i307_185 rfl rfl rfl ?_
  refine X.retl i307_187 rfl t307 ?_
  exact hQ y504 (by first | trivial | omega) 
theorem l307_19_3 {s : Nat × (Nat → Int32)} {S : zS} {m0 m : zM} {B : Int} {d : Nat} {Q : Option zV → zM → Prop} (y2 y3 y4 : Int) (hd : 13 ≤ d) (hJ : J S m0 B m) (hB9 : B ≤ 1000000000) (hy2 : 0 ≤ y2 ∧ y2 ≤ 86399) (hy3 : (-2000159099) ≤ y3 ∧ y3 ≤ 86399) (hy4 : 0 ≤ y4 ∧ y4 ≤ 7)
    (K185 : ∀ (x5 : Int) , (True) → X (EE s) d 307 185 [(5, zl x5)] [] m Q) :
    ∀ (n : Nat) (y5 y7 y8 y9 : Int) , (0 ≤ y7 ∧ y7 ≤ 3) → (0 ≤ y8 ∧ y8 ≤ 86400) → (0 ≤ y9 ∧ y9 ≤ 7) → 7 - y9 < (n : Int) → X (EE s) d 307 19 [(0, zr 4 44), (2, zi y2), (3, zi y3), (4, zi y4), (5, zl y5), (7, zi y7), (8, zi y8), (9, zi y9)] [] m Q := by
  intro n
  induction n with
  | zero =>
    intro y5 y7 y8 y9 hy7 hy8 hy9 hn
    exfalso
    omega
  | succ n ih =>
    intro y5 y7 y8 y9 hy7 hy8 hy9 hn
    refine X.iload 21 i307_19 rfl rfl rfl ?_
    refine X.i2l 22 i307_21 rfl rfl ?_
    refine X.aload_n 23 i307_22 rfl rfl rfl ?_
    refine X.getF 26 i307_23 rfl rfl (by decide) rfl rfl ?_
    refine X.sipush 29 i307_26 rfl rfl (by decide) ?_
    refine X.iload 31 i307_29 rfl rfl rfl ?_
    refine X.iadd 32 i307_31 rfl rfl (by omega) ?_
    refine X.lald 33 i307_32 rfl rfl (by decide) rfl (by omega) ?_
    have h603 := r45_287 hJ 4 (i := (287 + y4)) (by omega)
    refine X.lcmp 34 i307_33 rfl rfl (fun z604 hz604 => ?_)
    refine X.ifgt 185 37 i307_34 rfl rfl rfl (fun h605 => ?_) (fun h605 => ?_)
    · have h605c : y9 > (m 4 45 (287 + y4)) := by omega
      clear h605 hz604
      refine X.cut [(5, zl y5)] i307_185 rfl ?_
      exact K185 y5 (by first | trivial | omega)
    · have h605c : y9 ≤ (m 4 45 (287 + y4)) := by omega
      clear h605 hz604
      refine X.iload 39 i307_37 rfl rfl rfl ?_
      refine X.i2l 40 i307_39 rfl rfl ?_
      refine X.aload_n 41 i307_40 rfl rfl rfl ?_
      refine X.getF 44 i307_41 rfl rfl (by decide) rfl rfl ?_
      refine X.sipush 47 i307_44 rfl rfl (by decide) ?_
      refine X.iload 49 i307_47 rfl rfl rfl ?_
      refine X.iadd 50 i307_49 rfl rfl (by omega) ?_
      refine X.lald 51 i307_50 rfl rfl (by decide) rfl (by omega) ?_
      refine X.lcmp 52 i307_51 rfl rfl (fun z606 hz606 => ?_)
      refine X.ifge 76 55 i307_52 rfl rfl rfl (fun h607 => ?_) (fun h607 => ?_)
      · have h607c : y9 ≥ (m 4 45 (287 + y4)) := by omega
        clear h607 hz606
        refine X.ldc 78 i307_76 rfl rfl (by decide) ?_
        refine X.istore 80 [(0, zr 4 44), (2, zi y2), (3, zi y3), (4, zi y4), (5, zl y5), (7, zi y7), (8, zi y8), (9, zi y9), (10, zi 86400)] i307_78 rfl rfl rfl ?_
        refine X.iload 82 i307_80 rfl rfl rfl ?_
        refine X.iload_n 83 i307_82 rfl rfl rfl ?_
        refine X.icmple 91 86 i307_83 rfl rfl rfl (fun h608 => ?_) (fun h608 => ?_)
        · refine X.cut [(0, zr 4 44), (2, zi y2), (3, zi y3), (4, zi y4), (5, zl y5), (7, zi y7), (9, zi y9), (10, zi 86400)] i307_91 rfl ?_
          refine X.iload_n 92 i307_91 rfl rfl rfl ?_
          refine X.istore 94 [(0, zr 4 44), (2, zi y2), (3, zi y3), (4, zi y4), (5, zl y5), (7, zi y7), (9, zi y9), (10, zi 86400), (11, zi y2)] i307_92 rfl rfl rfl ?_
          refine X.iload 96 i307_94 rfl rfl rfl ?_
          refine X.iload_n 97 i307_96 rfl rfl rfl ?_
          refine X.icmpge 105 100 i307_97 rfl rfl rfl (fun h609 => ?_) (fun h609 => (by exfalso; omega))
          refine X.iload_n 106 i307_105 rfl rfl rfl ?_
          refine X.istore 108 [(0, zr 4 44), (2, zi y2), (3, zi y3), (4, zi y4), (5, zl y5), (7, zi y7), (9, zi y9), (10, zi 86400), (11, zi y2), (12, zi y3)] i307_106 rfl rfl rfl ?_
          refine X.iload 110 i307_108 rfl rfl rfl ?_
          refine X.iload 112 i307_110 rfl rfl rfl ?_
          refine X.icmple 137 115 i307_112 rfl rfl rfl (fun h610 => ?_) (fun h610 => ?_)
          · refine X.cut [(0, zr 4 44), (2, zi y2), (3, zi y3), (4, zi y4), (5, zl y5), (7, zi y7), (9, zi y9), (10, zi 86400)] i307_137 rfl ?_
            refine X.iload 139 i307_137 rfl rfl rfl ?_
            refine X.istore 141 [(0, zr 4 44), (2, zi y2), (3, zi y3), (4, zi y4), (5, zl y5), (7, zi y7), (8, zi 86400), (9, zi y9), (10, zi 86400)] i307_139 rfl rfl rfl ?_
            refine X.iload 143 i307_141 rfl rfl rfl ?_
            refine X.i2l 144 i307_143 rfl rfl ?_
            refine X.aload_n 145 i307_144 rfl rfl rfl ?_
            refine X.getF 148 i307_145 rfl rfl (by decide) rfl rfl ?_
            refine X.sipush 151 i307_148 rfl rfl (by decide) ?_
            refine X.iload 153 i307_151 rfl rfl rfl ?_
            refine X.iadd 154 i307_153 rfl rfl (by omega) ?_
            refine X.lald 155 i307_154 rfl rfl (by decide) rfl (by omega) ?_
            refine X.lcmp 156 i307_155 rfl rfl (fun z611 hz611 => ?_)
            refine X.ifge 179 159 i307_156 rfl rfl rfl (fun h612 => ?_) (fun h612 => ?_)
            · have h612c : y9 ≥ (m 4 45 (287 + y4)) := by omega
              clear h612 hz611
              refine X.cut [(0, zr 4 44), (2, zi y2), (3, zi y3), (4, zi y4), (5, zl y5), (7, zi y7), (8, zi 86400), (9, zi y9)] i307_179 rfl ?_
              refine X.iinc 182 [(0, zr 4 44), (2, zi y2), (3, zi y3), (4, zi y4), (5, zl y5), (7, zi y7), (8, zi 86400), (9, zi (y9 + 1))] i307_179 rfl rfl rfl (by omega) rfl ?_
              refine X.goto 19 i307_182 rfl rfl ?_
              exact ih y5 y7 86400 (y9 + 1) (by omega) (by omega) (by omega) (by omega)
            · have h612c : y9 < (m 4 45 (287 + y4)) := by omega
              clear h612 hz611
              refine X.aload_n 160 i307_159 rfl rfl rfl ?_
              refine X.getF 163 i307_160 rfl rfl (by decide) rfl rfl ?_
              refine X.sipush 166 i307_163 rfl rfl (by decide) ?_
              refine X.bipush 168 i307_166 rfl rfl (by decide) ?_
              refine X.iload 170 i307_168 rfl rfl rfl ?_
              refine X.imul 171 i307_170 rfl rfl (by omega) ?_
              refine X.iadd 172 i307_171 rfl rfl (by omega) ?_
              refine X.iload 174 i307_172 rfl rfl rfl ?_
              refine X.iadd 175 i307_174 rfl rfl (by omega) ?_
              refine X.lald 176 i307_175 rfl rfl (by decide) rfl (by omega) ?_
              have h613 := r45_343 hJ 4 (i := ((343 + (6 * y4)) + y9)) (by omega)
              refine X.l2i 177 i307_176 rfl rfl (by omega) ?_
              refine X.istore 179 [(0, zr 4 44), (2, zi y2), (3, zi y3), (4, zi y4), (5, zl y5), (7, zi (m 4 45 ((343 + (6 * y4)) + y9))), (8, zi 86400), (9, zi y9), (10, zi 86400)] i307_177 rfl rfl rfl ?_
              refine X.cut [(0, zr 4 44), (2, zi y2), (3, zi y3), (4, zi y4), (5, zl y5), (7, zi (m 4 45 ((343 + (6 * y4)) + y9))), (8, zi 86400), (9, zi y9)] i307_179 rfl ?_
              refine X.iinc 182 [(0, zr 4 44), (2, zi y2), (3, zi y3), (4, zi y4), (5, zl y5), (7, zi (m 4 45 ((343 + (6 * y4)) + y9))), (8, zi 86400), (9, zi (y9 + 1))] i307_179 rfl rfl rfl (by omega) rfl ?_
              refine X.goto 19 i307_182 rfl rfl ?_
              exact ih y5 (m 4 45 ((343 + (6 * y4)) + y9)) 86400 (y9 + 1) (by omega) (by omega) (by omega) (by omega)
          · refine X.lload 117 i307_115 rfl rfl rfl ?_
            refine X.iload 119 i307_117 rfl rfl rfl ?_
            refine X.iload 121 i307_119 rfl rfl rfl ?_
            refine X.isub 122 i307_121 rfl rfl (by omega) ?_
            refine X.i2l 123 i307_122 rfl rfl ?_
            refine X.aload_n 124 i307_123 rfl rfl rfl ?_
            refine X.getF 127 i307_124 rfl rfl (by decide) rfl rfl ?_
            refine X.bipush 129 i307_127 rfl rfl (by decide) ?_
            refine X.iload 131 i307_129 rfl rfl rfl ?_
            refine X.iadd 132 i307_131 rfl rfl (by omega) ?_
            refine X.lald 133 i307_132 rfl rfl (by decide) rfl (by omega) ?_
            refine X.llF 134 .lmul (fun x y => x * y) i307_133 rfl rfl rfl (fun _ _ => rfl) (fun z614 hz614 => ?_)
            refine X.llF 135 .ladd (fun x y => x + y) i307_134 rfl rfl rfl (fun _ _ => rfl) (fun z615 hz615 => ?_)
            refine X.lstore 137 [(0, zr 4 44), (2, zi y2), (3, zi y3), (4, zi y4), (5, zl z615), (7, zi y7), (9, zi y9), (10, zi 86400), (11, zi y2), (12, zi y3)] i307_135 rfl rfl rfl ?_
            refine X.cut [(0, zr 4 44), (2, zi y2), (3, zi y3), (4, zi y4), (5, zl z615), (7, zi y7), (9, zi y9), (10, zi 86400)] i307_137 rfl ?_
            refine X.iload 139 i307_137 rfl rfl rfl ?_
            refine X.istore 141 [(0, zr 4 44), (2, zi y2), (3, zi y3), (4, zi y4), (5, zl z615), (7, zi y7), (8, zi 86400), (9, zi y9), (10, zi 86400)] i307_139 rfl rfl rfl ?_
            refine X.iload 143 i307_141 rfl rfl rfl ?_
            refine X.i2l 144 i307_143 rfl rfl ?_
            refine X.aload_n 145 i307_144 rfl rfl rfl ?_
            refine X.getF 148 i307_145 rfl rfl (by decide) rfl rfl ?_
            refine X.sipush 151 i307_148 rfl rfl (by decide) ?_
            refine X.iload 153 i307_151 rfl rfl rfl ?_
            refine X.iadd 154 i307_153 rfl rfl (by omega) ?_
            refine X.lald 155 i307_154 rfl rfl (by decide) rfl (by omega) ?_
            refine X.lcmp 156 i307_155 rfl rfl (fun z616 hz616 => ?_)
            refine X.ifge 179 159 i307_156 rfl rfl rfl (fun h617 => ?_) (fun h617 => ?_)
            · have h617c : y9 ≥ (m 4 45 (287 + y4)) := by omega
              clear h617 hz616
              refine X.cut [(0, zr 4 44), (2, zi y2), (3, zi y3), (4, zi y4), (5, zl z615), (7, zi y7), (8, zi 86400), (9, zi y9)] i307_179 rfl ?_
              refine X.iinc 182 [(0, zr 4 44), (2, zi y2), (3, zi y3), (4, zi y4), (5, zl z615), (7, zi y7), (8, zi 86400), (9, zi (y9 + 1))] i307_179 rfl rfl rfl (by omega) rfl ?_
              refine X.goto 19 i307_182 rfl rfl ?_
              exact ih z615 y7 86400 (y9 + 1) (by omega) (by omega) (by omega) (by omega)
            · have h617c : y9 < (m 4 45 (287 + y4)) := by omega
              clear h617 hz616
              refine X.aload_n 160 i307_159 rfl rfl rfl ?_
              refine X.getF 163 i307_160 rfl rfl (by decide) rfl rfl ?_
              refine X.sipush 166 i307_163 rfl rfl (by decide) ?_
              refine X.bipush 168 i307_166 rfl rfl (by decide) ?_
              refine X.iload 170 i307_168 rfl rfl rfl ?_
              refine X.imul 171 i307_170 rfl rfl (by omega) ?_
              refine X.iadd 172 i307_171 rfl rfl (by omega) ?_
              refine X.iload 174 i307_172 rfl rfl rfl ?_
              refine X.iadd 175 i307_174 rfl rfl (by omega) ?_
              refine X.lald 176 i307_175 rfl rfl (by decide) rfl (by omega) ?_
              have h618 := r45_343 hJ 4 (i := ((343 + (6 * y4)) + y9)) (by omega)
              refine X.l2i 177 i307_176 rfl rfl (by omega) ?_
              refine X.istore 179 [(0, zr 4 44), (2, zi y2), (3, zi y3), (4, zi y4), (5, zl z615), (7, zi (m 4 45 ((343 + (6 * y4)) + y9))), (8, zi 86400), (9, zi y9), (10, zi 86400)] i307_177 rfl rfl rfl ?_
              refine X.cut [(0, zr 4 44), (2, zi y2), (3, zi y3), (4, zi y4), (5, zl z615), (7, zi (m 4 45 ((343 + (6 * y4)) + y9))), (8, zi 86400), (9, zi y9)] i307_179 rfl ?_
              refine X.iinc 182 [(0, zr 4 44), (2, zi y2), (3, zi y3), (4, zi y4), (5, zl z615), (7, zi (m 4 45 ((343 + (6 * y4)) + y9))), (8, zi 86400), (9, zi (y9 + 1))] i307_179 rfl rfl rfl (by omega) rfl ?_
              refine X.goto 19 i307_182 rfl rfl ?_
              exact ih z615 (m 4 45 ((343 + (6 * y4)) + y9)) 86400 (y9 + 1) (by omega) (by omega) (by omega) (by omega)
        · refine X.iload 88 i307_86 rfl rfl rfl ?_
          refine X.goto 92 i307_88 rfl rfl ?_
          refine X.cut [(0, zr 4 44), (2, zi y2), (3, zi y3), (4, zi y4), (5, zl y5), (7, zi y7), (9, zi y9), (10, zi 86400)] i307_92 rfl ?_
          refine X.istore 94 [(0, zr 4 44), (2, zi y2), (3, zi y3), (4, zi y4), (5, zl y5), (7, zi y7), (9, zi y9), (10, zi 86400), (11, zi y8)] i307_92 rfl rfl rfl ?_
          refine X.iload 96 i307_94 rfl rfl rfl ?_
          refine X.iload_n 97 i307_96 rfl rfl rfl ?_
          refine X.icmpge 105 100 i307_97 rfl rfl rfl (fun h619 => ?_) (fun h619 => (by exfalso; omega))
          refine X.iload_n 106 i307_105 rfl rfl rfl ?_
          refine X.istore 108 [(0, zr 4 44), (2, zi y2), (3, zi y3), (4, zi y4), (5, zl y5), (7, zi y7), (9, zi y9), (10, zi 86400), (11, zi y8), (12, zi y3)] i307_106 rfl rfl rfl ?_
          refine X.iload 110 i307_108 rfl rfl rfl ?_
          refine X.iload 112 i307_110 rfl rfl rfl ?_
          refine X.icmple 137 115 i307_112 rfl rfl rfl (fun h620 => ?_) (fun h620 => ?_)
          · refine X.cut [(0, zr 4 44), (2, zi y2), (3, zi y3), (4, zi y4), (5, zl y5), (7, zi y7), (9, zi y9), (10, zi 86400)] i307_137 rfl ?_
            refine X.iload 139 i307_137 rfl rfl rfl ?_
            refine X.istore 141 [(0, zr 4 44), (2, zi y2), (3, zi y3), (4, zi y4), (5, zl y5), (7, zi y7), (8, zi 86400), (9, zi y9), (10, zi 86400)] i307_139 rfl rfl rfl ?_
            refine X.iload 143 i307_141 rfl rfl rfl ?_
            refine X.i2l 144 i307_143 rfl rfl ?_
            refine X.aload_n 145 i307_144 rfl rfl rfl ?_
            refine X.getF 148 i307_145 rfl rfl (by decide) rfl rfl ?_
            refine X.sipush 151 i307_148 rfl rfl (by decide) ?_
            refine X.iload 153 i307_151 rfl rfl rfl ?_
            refine X.iadd 154 i307_153 rfl rfl (by omega) ?_
            refine X.lald 155 i307_154 rfl rfl (by decide) rfl (by omega) ?_
            refine X.lcmp 156 i307_155 rfl rfl (fun z621 hz621 => ?_)
            refine X.ifge 179 159 i307_156 rfl rfl rfl (fun h622 => ?_) (fun h622 => ?_)
            · have h622c : y9 ≥ (m 4 45 (287 + y4)) := by omega
              clear h622 hz621
              refine X.cut [(0, zr 4 44), (2, zi y2), (3, zi y3), (4, zi y4), (5, zl y5), (7, zi y7), (8, zi 86400), (9, zi y9)] i307_179 rfl ?_
              refine X.iinc 182 [(0, zr 4 44), (2, zi y2), (3, zi y3), (4, zi y4), (5, zl y5), (7, zi y7), (8, zi 86400), (9, zi (y9 + 1))] i307_179 rfl rfl rfl (by omega) rfl ?_
              refine X.goto 19 i307_182 rfl rfl ?_
              exact ih y5 y7 86400 (y9 + 1) (by omega) (by omega) (by omega) (by omega)
            · have h622c : y9 < (m 4 45 (287 + y4)) := by omega
              clear h622 hz621
              refine X.aload_n 160 i307_159 rfl rfl rfl ?_
              refine X.getF 163 i307_160 rfl rfl (by decide) rfl rfl ?_
              refine X.sipush 166 i307_163 rfl rfl (by decide) ?_
              refine X.bipush 168 i307_166 rfl rfl (by decide) ?_
              refine X.iload 170 i307_168 rfl rfl rfl ?_
              refine X.imul 171 i307_170 rfl rfl (by omega) ?_
              refine X.iadd 172 i307_171 rfl rfl (by omega) ?_
              refine X.iload 174 i307_172 rfl rfl rfl ?_
              refine X.iadd 175 i307_174 rfl rfl (by omega) ?_
              refine X.lald 176 i307_175 rfl rfl (by decide) rfl (by omega) ?_
              have h623 := r45_343 hJ 4 (i := ((343 + (6 * y4)) + y9)) (by omega)
              refine X.l2i 177 i307_176 rfl rfl (by omega) ?_
              refine X.istore 179 [(0, zr 4 44), (2, zi y2), (3, zi y3), (4, zi y4), (5, zl y5), (7, zi (m 4 45 ((343 + (6 * y4)) + y9))), (8, zi 86400), (9, zi y9), (10, zi 86400)] i307_177 rfl rfl rfl ?_
              refine X.cut [(0, zr 4 44), (2, zi y2), (3, zi y3), (4, zi y4), (5, zl y5), (7, zi (m 4 45 ((343 + (6 * y4)) + y9))), (8, zi 86400), (9, zi y9)] i307_179 rfl ?_
              refine X.iinc 182 [(0, zr 4 44), (2, zi y2), (3, zi y3), (4, zi y4), (5, zl y5), (7, zi (m 4 45 ((343 + (6 * y4)) + y9))), (8, zi 86400), (9, zi (y9 + 1))] i307_179 rfl rfl rfl (by omega) rfl ?_
              refine X.goto 19 i307_182 rfl rfl ?_
              exact ih y5 (m 4 45 ((343 + (6 * y4)) + y9)) 86400 (y9 + 1) (by omega) (by omega) (by omega) (by omega)
          · refine X.lload 117 i307_115 rfl rfl rfl ?_
            refine X.iload 119 i307_117 rfl rfl rfl ?_
            refine X.iload 121 i307_119 rfl rfl rfl ?_
            refine X.isub 122 i307_121 rfl rfl (by omega) ?_
            refine X.i2l 123 i307_122 rfl rfl ?_
            refine X.aload_n 124 i307_123 rfl rfl rfl ?_
            refine X.getF 127 i307_124 rfl rfl (by decide) rfl rfl ?_
            refine X.bipush 129 i307_127 rfl rfl (by decide) ?_
            refine X.iload 131 i307_129 rfl rfl rfl ?_
            refine X.iadd 132 i307_131 rfl rfl (by omega) ?_
            refine X.lald 133 i307_132 rfl rfl (by decide) rfl (by omega) ?_
            refine X.llF 134 .lmul (fun x y => x * y) i307_133 rfl rfl rfl (fun _ _ => rfl) (fun z624 hz624 => ?_)
            refine X.llF 135 .ladd (fun x y => x + y) i307_134 rfl rfl rfl (fun _ _ => rfl) (fun z625 hz625 => ?_)
            refine X.lstore 137 [(0, zr 4 44), (2, zi y2), (3, zi y3), (4, zi y4), (5, zl z625), (7, zi y7), (9, zi y9), (10, zi 86400), (11, zi y8), (12, zi y3)] i307_135 rfl rfl rfl ?_
            refine X.cut [(0, zr 4 44), (2, zi y2), (3, zi y3), (4, zi y4), (5, zl z625), (7, zi y7), (9, zi y9), (10, zi 86400)] i307_137 rfl ?_
            refine X.iload 139 i307_137 rfl rfl rfl ?_
            refine X.istore 141 [(0, zr 4 44), (2, zi y2), (3, zi y3), (4, zi y4), (5, zl z625), (7, zi y7), (8, zi 86400), (9, zi y9), (10, zi 86400)] i307_139 rfl rfl rfl ?_
            refine X.iload 143 i307_141 rfl rfl rfl ?_
            refine X.i2l 144 i307_143 rfl rfl ?_
            refine X.aload_n 145 i307_144 rfl rfl rfl ?_
            refine X.getF 148 i307_145 rfl rfl (by decide) rfl rfl ?_
            refine X.sipush 151 i307_148 rfl rfl (by decide) ?_
            refine X.iload 153 i307_151 rfl rfl rfl ?_
            refine X.iadd 154 i307_153 rfl rfl (by omega) ?_
            refine X.lald 155 i307_154 rfl rfl (by decide) rfl (by omega) ?_
            refine X.lcmp 156 i307_155 rfl rfl (fun z626 hz626 => ?_)
            refine X.ifge 179 159 i307_156 rfl rfl rfl (fun h627 => ?_) (fun h627 => ?_)
            · have h627c : y9 ≥ (m 4 45 (287 + y4)) := by omega
              clear h627 hz626
              refine X.cut [(0, zr 4 44), (2, zi y2), (3, zi y3), (4, zi y4), (5, zl z625), (7, zi y7), (8, zi 86400), (9, zi y9)] i307_179 rfl ?_
              refine X.iinc 182 [(0, zr 4 44), (2, zi y2), (3, zi y3), (4, zi y4), (5, zl z625), (7, zi y7), (8, zi 86400), (9, zi (y9 + 1))] i307_179 rfl rfl rfl (by omega) rfl ?_
              refine X.goto 19 i307_182 rfl rfl ?_
              exact ih z625 y7 86400 (y9 + 1) (by omega) (by omega) (by omega) (by omega)
            · have h627c : y9 < (m 4 45 (287 + y4)) := by omega
              clear h627 hz626
              refine X.aload_n 160 i307_159 rfl rfl rfl ?_
              refine X.getF 163 i307_160 rfl rfl (by decide) rfl rfl ?_
              refine X.sipush 166 i307_163 rfl rfl (by decide) ?_
              refine X.bipush 168 i307_166 rfl rfl (by decide) ?_
              refine X.iload 170 i307_168 rfl rfl rfl ?_
              refine X.imul 171 i307_170 rfl rfl (by omega) ?_
              refine X.iadd 172 i307_171 rfl rfl (by omega) ?_
              refine X.iload 174 i307_172 rfl rfl rfl ?_
              refine X.iadd 175 i307_174 rfl rfl (by omega) ?_
              refine X.lald 176 i307_175 rfl rfl (by decide) rfl (by omega) ?_
              have h628 := r45_343 hJ 4 (i := ((343 + (6 * y4)) + y9)) (by omega)
              refine X.l2i 177 i307_176 rfl rfl (by omega) ?_
              refine X.istore 179 [(0, zr 4 44), (2, zi y2), (3, zi y3), (4, zi y4), (5, zl z625), (7, zi (m 4 45 ((343 + (6 * y4)) + y9))), (8, zi 86400), (9, zi y9), (10, zi 86400)] i307_177 rfl rfl rfl ?_
              refine X.cut [(0, zr 4 44), (2, zi y2), (3, zi y3), (4, zi y4), (5, zl z625), (7, zi (m 4 45 ((343 + (6 * y4)) + y9))), (8, zi 86400), (9, zi y9)] i307_179 rfl ?_
              refine X.iinc 182 [(0, zr 4 44), (2, zi y2), (3, zi y3), (4, zi y4), (5, zl z625), (7, zi (m 4 45 ((343 + (6 * y4)) + y9))), (8, zi 86400), (9, zi (y9 + 1))] i307_179 rfl rfl rfl (by omega) rfl ?_
              refine X.goto 19 i307_182 rfl rfl ?_
              exact ih z625 (m 4 45 ((343 + (6 * y4)) + y9)) 86400 (y9 + 1) (by omega) (by omega) (by omega) (by omega)
      · have h607c : y9 < (m 4 45 (287 + y4)) := by omega
        clear h607 hz606
        refine X.aload_n 56 i307_55 rfl rfl rfl ?_
        refine X.getF 59 i307_56 rfl rfl (by decide) rfl rfl ?_
        refine X.sipush 62 i307_59 rfl rfl (by decide) ?_
        refine X.bipush 64 i307_62 rfl rfl (by decide) ?_
        refine X.iload 66 i307_64 rfl rfl rfl ?_
        refine X.imul 67 i307_66 rfl rfl (by omega) ?_
        refine X.iadd 68 i307_67 rfl rfl (by omega) ?_
        refine X.iload 70 i307_68 rfl rfl rfl ?_
        refine X.iadd 71 i307_70 rfl rfl (by omega) ?_
        refine X.lald 72 i307_71 rfl rfl (by decide) rfl (by omega) ?_
        have h629 := r45_295 hJ 4 (i := ((295 + (6 * y4)) + y9)) (by omega)
        refine X.l2i 73 i307_72 rfl rfl (by omega) ?_
        refine X.goto 78 i307_73 rfl rfl ?_
        refine X.istore 80 [(0, zr 4 44), (2, zi y2), (3, zi y3), (4, zi y4), (5, zl y5), (7, zi y7), (8, zi y8), (9, zi y9), (10, zi (m 4 45 ((295 + (6 * y4)) + y9)))] i307_78 rfl rfl rfl ?_
        refine X.iload 82 i307_80 rfl rfl rfl ?_
        refine X.iload_n 83 i307_82 rfl rfl rfl ?_
        refine X.icmple 91 86 i307_83 rfl rfl rfl (fun h630 => ?_) (fun h630 => ?_)
        · refine X.cut [(0, zr 4 44), (2, zi y2), (3, zi y3), (4, zi y4), (5, zl y5), (7, zi y7), (9, zi y9), (10, zi (m 4 45 ((295 + (6 * y4)) + y9)))] i307_91 rfl ?_
          refine X.iload_n 92 i307_91 rfl rfl rfl ?_
          refine X.istore 94 [(0, zr 4 44), (2, zi y2), (3, zi y3), (4, zi y4), (5, zl y5), (7, zi y7), (9, zi y9), (10, zi (m 4 45 ((295 + (6 * y4)) + y9))), (11, zi y2)] i307_92 rfl rfl rfl ?_
          refine X.iload 96 i307_94 rfl rfl rfl ?_
          refine X.iload_n 97 i307_96 rfl rfl rfl ?_
          refine X.icmpge 105 100 i307_97 rfl rfl rfl (fun h631 => ?_) (fun h631 => ?_)
          · refine X.iload_n 106 i307_105 rfl rfl rfl ?_
            refine X.istore 108 [(0, zr 4 44), (2, zi y2), (3, zi y3), (4, zi y4), (5, zl y5), (7, zi y7), (9, zi y9), (10, zi (m 4 45 ((295 + (6 * y4)) + y9))), (11, zi y2), (12, zi y3)] i307_106 rfl rfl rfl ?_
            refine X.iload 110 i307_108 rfl rfl rfl ?_
            refine X.iload 112 i307_110 rfl rfl rfl ?_
            refine X.icmple 137 115 i307_112 rfl rfl rfl (fun h632 => ?_) (fun h632 => ?_)
            · refine X.cut [(0, zr 4 44), (2, zi y2), (3, zi y3), (4, zi y4), (5, zl y5), (7, zi y7), (9, zi y9), (10, zi (m 4 45 ((295 + (6 * y4)) + y9)))] i307_137 rfl ?_
              refine X.iload 139 i307_137 rfl rfl rfl ?_
              refine X.istore 141 [(0, zr 4 44), (2, zi y2), (3, zi y3), (4, zi y4), (5, zl y5), (7, zi y7), (8, zi (m 4 45 ((295 + (6 * y4)) + y9))), (9, zi y9), (10, zi (m 4 45 ((295 + (6 * y4)) + y9)))] i307_139 rfl rfl rfl ?_
              refine X.iload 143 i307_141 rfl rfl rfl ?_
              refine X.i2l 144 i307_143 rfl rfl ?_
              refine X.aload_n 145 i307_144 rfl rfl rfl ?_
              refine X.getF 148 i307_145 rfl rfl (by decide) rfl rfl ?_
              refine X.sipush 151 i307_148 rfl rfl (by decide) ?_
              refine X.iload 153 i307_151 rfl rfl rfl ?_
              refine X.iadd 154 i307_153 rfl rfl (by omega) ?_
              refine X.lald 155 i307_154 rfl rfl (by decide) rfl (by omega) ?_
              refine X.lcmp 156 i307_155 rfl rfl (fun z633 hz633 => ?_)
              refine X.ifge 179 159 i307_156 rfl rfl rfl (fun h634 => ?_) (fun h634 => ?_)
              · have h634c : y9 ≥ (m 4 45 (287 + y4)) := by omega
                clear h634 hz633
                refine X.cut [(0, zr 4 44), (2, zi y2), (3, zi y3), (4, zi y4), (5, zl y5), (7, zi y7), (8, zi (m 4 45 ((295 + (6 * y4)) + y9))), (9, zi y9)] i307_179 rfl ?_
                refine X.iinc 182 [(0, zr 4 44), (2, zi y2), (3, zi y3), (4, zi y4), (5, zl y5), (7, zi y7), (8, zi (m 4 45 ((295 + (6 * y4)) + y9))), (9, zi (y9 + 1))] i307_179 rfl rfl rfl (by omega) rfl ?_
                refine X.goto 19 i307_182 rfl rfl ?_
                exact ih y5 y7 (m 4 45 ((295 + (6 * y4)) + y9)) (y9 + 1) (by omega) (by omega) (by omega) (by omega)
              · have h634c : y9 < (m 4 45 (287 + y4)) := by omega
                clear h634 hz633
                refine X.aload_n 160 i307_159 rfl rfl rfl ?_
                refine X.getF 163 i307_160 rfl rfl (by decide) rfl rfl ?_
                refine X.sipush 166 i307_163 rfl rfl (by decide) ?_
                refine X.bipush 168 i307_166 rfl rfl (by decide) ?_
                refine X.iload 170 i307_168 rfl rfl rfl ?_
                refine X.imul 171 i307_170 rfl rfl (by omega) ?_
                refine X.iadd 172 i307_171 rfl rfl (by omega) ?_
                refine X.iload 174 i307_172 rfl rfl rfl ?_
                refine X.iadd 175 i307_174 rfl rfl (by omega) ?_
                refine X.lald 176 i307_175 rfl rfl (by decide) rfl (by omega) ?_
                have h635 := r45_343 hJ 4 (i := ((343 + (6 * y4)) + y9)) (by omega)
                refine X.l2i 177 i307_176 rfl rfl (by omega) ?_
                refine X.istore 179 [(0, zr 4 44), (2, zi y2), (3, zi y3), (4, zi y4), (5, zl y5), (7, zi (m 4 45 ((343 + (6 * y4)) + y9))), (8, zi (m 4 45 ((295 + (6 * y4)) + y9))), (9, zi y9), (10, zi (m 4 45 ((295 + (6 * y4)) + y9)))] i307_177 rfl rfl rfl ?_
                refine X.cut [(0, zr 4 44), (2, zi y2), (3, zi y3), (4, zi y4), (5, zl y5), (7, zi (m 4 45 ((343 + (6 * y4)) + y9))), (8, zi (m 4 45 ((295 + (6 * y4)) + y9))), (9, zi y9)] i307_179 rfl ?_
                refine X.iinc 182 [(0, zr 4 44), (2, zi y2), (3, zi y3), (4, zi y4), (5, zl y5), (7, zi (m 4 45 ((343 + (6 * y4)) + y9))), (8, zi (m 4 45 ((295 + (6 * y4)) + y9))), (9, zi (y9 + 1))] i307_179 rfl rfl rfl (by omega) rfl ?_
                refine X.goto 19 i307_182 rfl rfl ?_
                exact ih y5 (m 4 45 ((343 + (6 * y4)) + y9)) (m 4 45 ((295 + (6 * y4)) + y9)) (y9 + 1) (by omega) (by omega) (by omega) (by omega)
            · refine X.lload 117 i307_115 rfl rfl rfl ?_
              refine X.iload 119 i307_117 rfl rfl rfl ?_
              refine X.iload 121 i307_119 rfl rfl rfl ?_
              refine X.isub 122 i307_121 rfl rfl (by omega) ?_
              refine X.i2l 123 i307_122 rfl rfl ?_
              refine X.aload_n 124 i307_123 rfl rfl rfl ?_
              refine X.getF 127 i307_124 rfl rfl (by decide) rfl rfl ?_
              refine X.bipush 129 i307_127 rfl rfl (by decide) ?_
              refine X.iload 131 i307_129 rfl rfl rfl ?_
              refine X.iadd 132 i307_131 rfl rfl (by omega) ?_
              refine X.lald 133 i307_132 rfl rfl (by decide) rfl (by omega) ?_
              refine X.llF 134 .lmul (fun x y => x * y) i307_133 rfl rfl rfl (fun _ _ => rfl) (fun z636 hz636 => ?_)
              refine X.llF 135 .ladd (fun x y => x + y) i307_134 rfl rfl rfl (fun _ _ => rfl) (fun z637 hz637 => ?_)
              refine X.lstore 137 [(0, zr 4 44), (2, zi y2), (3, zi y3), (4, zi y4), (5, zl z637), (7, zi y7), (9, zi y9), (10, zi (m 4 45 ((295 + (6 * y4)) + y9))), (11, zi y2), (12, zi y3)] i307_135 rfl rfl rfl ?_
              refine X.cut [(0, zr 4 44), (2, zi y2), (3, zi y3), (4, zi y4), (5, zl z637), (7, zi y7), (9, zi y9), (10, zi (m 4 45 ((295 + (6 * y4)) + y9)))] i307_137 rfl ?_
              refine X.iload 139 i307_137 rfl rfl rfl ?_
              refine X.istore 141 [(0, zr 4 44), (2, zi y2), (3, zi y3), (4, zi y4), (5, zl z637), (7, zi y7), (8, zi (m 4 45 ((295 + (6 * y4)) + y9))), (9, zi y9), (10, zi (m 4 45 ((295 + (6 * y4)) + y9)))] i307_139 rfl rfl rfl ?_
              refine X.iload 143 i307_141 rfl rfl rfl ?_
              refine X.i2l 144 i307_143 rfl rfl ?_
              refine X.aload_n 145 i307_144 rfl rfl rfl ?_
              refine X.getF 148 i307_145 rfl rfl (by decide) rfl rfl ?_
              refine X.sipush 151 i307_148 rfl rfl (by decide) ?_
              refine X.iload 153 i307_151 rfl rfl rfl ?_
              refine X.iadd 154 i307_153 rfl rfl (by omega) ?_
              refine X.lald 155 i307_154 rfl rfl (by decide) rfl (by omega) ?_
              refine X.lcmp 156 i307_155 rfl rfl (fun z638 hz638 => ?_)
              refine X.ifge 179 159 i307_156 rfl rfl rfl (fun h639 => ?_) (fun h639 => ?_)
              · have h639c : y9 ≥ (m 4 45 (287 + y4)) := by omega
                clear h639 hz638
                refine X.cut [(0, zr 4 44), (2, zi y2), (3, zi y3), (4, zi y4), (5, zl z637), (7, zi y7), (8, zi (m 4 45 ((295 + (6 * y4)) + y9))), (9, zi y9)] i307_179 rfl ?_
                refine X.iinc 182 [(0, zr 4 44), (2, zi y2), (3, zi y3), (4, zi y4), (5, zl z637), (7, zi y7), (8, zi (m 4 45 ((295 + (6 * y4)) + y9))), (9, zi (y9 + 1))] i307_179 rfl rfl rfl (by omega) rfl ?_
                refine X.goto 19 i307_182 rfl rfl ?_
                exact ih z637 y7 (m 4 45 ((295 + (6 * y4)) + y9)) (y9 + 1) (by omega) (by omega) (by omega) (by omega)
              · have h639c : y9 < (m 4 45 (287 + y4)) := by omega
                clear h639 hz638
                refine X.aload_n 160 i307_159 rfl rfl rfl ?_
                refine X.getF 163 i307_160 rfl rfl (by decide) rfl rfl ?_
                refine X.sipush 166 i307_163 rfl rfl (by decide) ?_
                refine X.bipush 168 i307_166 rfl rfl (by decide) ?_
                refine X.iload 170 i307_168 rfl rfl rfl ?_
                refine X.imul 171 i307_170 rfl rfl (by omega) ?_
                refine X.iadd 172 i307_171 rfl rfl (by omega) ?_
                refine X.iload 174 i307_172 rfl rfl rfl ?_
                refine X.iadd 175 i307_174 rfl rfl (by omega) ?_
                refine X.lald 176 i307_175 rfl rfl (by decide) rfl (by omega) ?_
                have h640 := r45_343 hJ 4 (i := ((343 + (6 * y4)) + y9)) (by omega)
                refine X.l2i 177 i307_176 rfl rfl (by omega) ?_
                refine X.istore 179 [(0, zr 4 44), (2, zi y2), (3, zi y3), (4, zi y4), (5, zl z637), (7, zi (m 4 45 ((343 + (6 * y4)) + y9))), (8, zi (m 4 45 ((295 + (6 * y4)) + y9))), (9, zi y9), (10, zi (m 4 45 ((295 + (6 * y4)) + y9)))] i307_177 rfl rfl rfl ?_
                refine X.cut [(0, zr 4 44), (2, zi y2), (3, zi y3), (4, zi y4), (5, zl z637), (7, zi (m 4 45 ((343 + (6 * y4)) + y9))), (8, zi (m 4 45 ((295 + (6 * y4)) + y9))), (9, zi y9)] i307_179 rfl ?_
                refine X.iinc 182 [(0, zr 4 44), (2, zi y2), (3, zi y3), (4, zi y4), (5, zl z637), (7, zi (m 4 45 ((343 + (6 * y4)) + y9))), (8, zi (m 4 45 ((295 + (6 * y4)) + y9))), (9, zi (y9 + 1))] i307_179 rfl rfl rfl (by omega) rfl ?_
                refine X.goto 19 i307_182 rfl rfl ?_
                exact ih z637 (m 4 45 ((343 + (6 * y4)) + y9)) (m 4 45 ((295 + (6 * y4)) + y9)) (y9 + 1) (by omega) (by omega) (by omega) (by omega)
          · refine X.iload 102 i307_100 rfl rfl rfl ?_
            refine X.goto 106 i307_102 rfl rfl ?_
            refine X.istore 108 [(0, zr 4 44), (2, zi y2), (3, zi y3), (4, zi y4), (5, zl y5), (7, zi y7), (9, zi y9), (10, zi (m 4 45 ((295 + (6 * y4)) + y9))), (11, zi y2), (12, zi (m 4 45 ((295 + (6 * y4)) + y9)))] i307_106 rfl rfl rfl ?_
            refine X.iload 110 i307_108 rfl rfl rfl ?_
            refine X.iload 112 i307_110 rfl rfl rfl ?_
            refine X.icmple 137 115 i307_112 rfl rfl rfl (fun h641 => ?_) (fun h641 => ?_)
            · refine X.cut [(0, zr 4 44), (2, zi y2), (3, zi y3), (4, zi y4), (5, zl y5), (7, zi y7), (9, zi y9), (10, zi (m 4 45 ((295 + (6 * y4)) + y9)))] i307_137 rfl ?_
              refine X.iload 139 i307_137 rfl rfl rfl ?_
              refine X.istore 141 [(0, zr 4 44), (2, zi y2), (3, zi y3), (4, zi y4), (5, zl y5), (7, zi y7), (8, zi (m 4 45 ((295 + (6 * y4)) + y9))), (9, zi y9), (10, zi (m 4 45 ((295 + (6 * y4)) + y9)))] i307_139 rfl rfl rfl ?_
              refine X.iload 143 i307_141 rfl rfl rfl ?_
              refine X.i2l 144 i307_143 rfl rfl ?_
              refine X.aload_n 145 i307_144 rfl rfl rfl ?_
              refine X.getF 148 i307_145 rfl rfl (by decide) rfl rfl ?_
              refine X.sipush 151 i307_148 rfl rfl (by decide) ?_
              refine X.iload 153 i307_151 rfl rfl rfl ?_
              refine X.iadd 154 i307_153 rfl rfl (by omega) ?_
              refine X.lald 155 i307_154 rfl rfl (by decide) rfl (by omega) ?_
              refine X.lcmp 156 i307_155 rfl rfl (fun z642 hz642 => ?_)
              refine X.ifge 179 159 i307_156 rfl rfl rfl (fun h643 => ?_) (fun h643 => ?_)
              · have h643c : y9 ≥ (m 4 45 (287 + y4)) := by omega
                clear h643 hz642
                refine X.cut [(0, zr 4 44), (2, zi y2), (3, zi y3), (4, zi y4), (5, zl y5), (7, zi y7), (8, zi (m 4 45 ((295 + (6 * y4)) + y9))), (9, zi y9)] i307_179 rfl ?_
                refine X.iinc 182 [(0, zr 4 44), (2, zi y2), (3, zi y3), (4, zi y4), (5, zl y5), (7, zi y7), (8, zi (m 4 45 ((295 + (6 * y4)) + y9))), (9, zi (y9 + 1))] i307_179 rfl rfl rfl (by omega) rfl ?_
                refine X.goto 19 i307_182 rfl rfl ?_
                exact ih y5 y7 (m 4 45 ((295 + (6 * y4)) + y9)) (y9 + 1) (by omega) (by omega) (by omega) (by omega)
              · have h643c : y9 < (m 4 45 (287 + y4)) := by omega
                clear h643 hz642
                refine X.aload_n 160 i307_159 rfl rfl rfl ?_
                refine X.getF 163 i307_160 rfl rfl (by decide) rfl rfl ?_
                refine X.sipush 166 i307_163 rfl rfl (by decide) ?_
                refine X.bipush 168 i307_166 rfl rfl (by decide) ?_
                refine X.iload 170 i307_168 rfl rfl rfl ?_
                refine X.imul 171 i307_170 rfl rfl (by omega) ?_
                refine X.iadd 172 i307_171 rfl rfl (by omega) ?_
                refine X.iload 174 i307_172 rfl rfl rfl ?_
                refine X.iadd 175 i307_174 rfl rfl (by omega) ?_
                refine X.lald 176 i307_175 rfl rfl (by decide) rfl (by omega) ?_
                have h644 := r45_343 hJ 4 (i := ((343 + (6 * y4)) + y9)) (by omega)
                refine X.l2i 177 i307_176 rfl rfl (by omega) ?_
                refine X.istore 179 [(0, zr 4 44), (2, zi y2), (3, zi y3), (4, zi y4), (5, zl y5), (7, zi (m 4 45 ((343 + (6 * y4)) + y9))), (8, zi (m 4 45 ((295 + (6 * y4)) + y9))), (9, zi y9), (10, zi (m 4 45 ((295 + (6 * y4)) + y9)))] i307_177 rfl rfl rfl ?_
                refine X.cut [(0, zr 4 44), (2, zi y2), (3, zi y3), (4, zi y4), (5, zl y5), (7, zi (m 4 45 ((343 + (6 * y4)) + y9))), (8, zi (m 4 45 ((295 + (6 * y4)) + y9))), (9, zi y9)] i307_179 rfl ?_
                refine X.iinc 182 [(0, zr 4 44), (2, zi y2), (3, zi y3), (4, zi y4), (5, zl y5), (7, zi (m 4 45 ((343 + (6 * y4)) + y9))), (8, zi (m 4 45 ((295 + (6 * y4)) + y9))), (9, zi (y9 + 1))] i307_179 rfl rfl rfl (by omega) rfl ?_
                refine X.goto 19 i307_182 rfl rfl ?_
                exact ih y5 (m 4 45 ((343 + (6 * y4)) + y9)) (m 4 45 ((295 + (6 * y4)) + y9)) (y9 + 1) (by omega) (by omega) (by omega) (by omega)
            · refine X.lload 117 i307_115 rfl rfl rfl ?_
              refine X.iload 119 i307_117 rfl rfl rfl ?_
              refine X.iload 121 i307_119 rfl rfl rfl ?_
              refine X.isub 122 i307_121 rfl rfl (by omega) ?_
              refine X.i2l 123 i307_122 rfl rfl ?_
              refine X.aload_n 124 i307_123 rfl rfl rfl ?_
              refine X.getF 127 i307_124 rfl rfl (by decide) rfl rfl ?_
              refine X.bipush 129 i307_127 rfl rfl (by decide) ?_
              refine X.iload 131 i307_129 rfl rfl rfl ?_
              refine X.iadd 132 i307_131 rfl rfl (by omega) ?_
              refine X.lald 133 i307_132 rfl rfl (by decide) rfl (by omega) ?_
              refine X.llF 134 .lmul (fun x y => x * y) i307_133 rfl rfl rfl (fun _ _ => rfl) (fun z645 hz645 => ?_)
              refine X.llF 135 .ladd (fun x y => x + y) i307_134 rfl rfl rfl (fun _ _ => rfl) (fun z646 hz646 => ?_)
              refine X.lstore 137 [(0, zr 4 44), (2, zi y2), (3, zi y3), (4, zi y4), (5, zl z646), (7, zi y7), (9, zi y9), (10, zi (m 4 45 ((295 + (6 * y4)) + y9))), (11, zi y2), (12, zi (m 4 45 ((295 + (6 * y4)) + y9)))] i307_135 rfl rfl rfl ?_
              refine X.cut [(0, zr 4 44), (2, zi y2), (3, zi y3), (4, zi y4), (5, zl z646), (7, zi y7), (9, zi y9), (10, zi (m 4 45 ((295 + (6 * y4)) + y9)))] i307_137 rfl ?_
              refine X.iload 139 i307_137 rfl rfl rfl ?_
              refine X.istore 141 [(0, zr 4 44), (2, zi y2), (3, zi y3), (4, zi y4), (5, zl z646), (7, zi y7), (8, zi (m 4 45 ((295 + (6 * y4)) + y9))), (9, zi y9), (10, zi (m 4 45 ((295 + (6 * y4)) + y9)))] i307_139 rfl rfl rfl ?_
              refine X.iload 143 i307_141 rfl rfl rfl ?_
              refine X.i2l 144 i307_143 rfl rfl ?_
              refine X.aload_n 145 i307_144 rfl rfl rfl ?_
              refine X.getF 148 i307_145 rfl rfl (by decide) rfl rfl ?_
              refine X.sipush 151 i307_148 rfl rfl (by decide) ?_
              refine X.iload 153 i307_151 rfl rfl rfl ?_
              refine X.iadd 154 i307_153 rfl rfl (by omega) ?_
              refine X.lald 155 i307_154 rfl rfl (by decide) rfl (by omega) ?_
              refine X.lcmp 156 i307_155 rfl rfl (fun z647 hz647 => ?_)
              refine X.ifge 179 159 i307_156 rfl rfl rfl (fun h648 => ?_) (fun h648 => ?_)
              · have h648c : y9 ≥ (m 4 45 (287 + y4)) := by omega
                clear h648 hz647
                refine X.cut [(0, zr 4 44), (2, zi y2), (3, zi y3), (4, zi y4), (5, zl z646), (7, zi y7), (8, zi (m 4 45 ((295 + (6 * y4)) + y9))), (9, zi y9)] i307_179 rfl ?_
                refine X.iinc 182 [(0, zr 4 44), (2, zi y2), (3, zi y3), (4, zi y4), (5, zl z646), (7, zi y7), (8, zi (m 4 45 ((295 + (6 * y4)) + y9))), (9, zi (y9 + 1))] i307_179 rfl rfl rfl (by omega) rfl ?_
                refine X.goto 19 i307_182 rfl rfl ?_
                exact ih z646 y7 (m 4 45 ((295 + (6 * y4)) + y9)) (y9 + 1) (by omega) (by omega) (by omega) (by omega)
              · have h648c : y9 < (m 4 45 (287 + y4)) := by omega
                clear h648 hz647
                refine X.aload_n 160 i307_159 rfl rfl rfl ?_
                refine X.getF 163 i307_160 rfl rfl (by decide) rfl rfl ?_
                refine X.sipush 166 i307_163 rfl rfl (by decide) ?_
                refine X.bipush 168 i307_166 rfl rfl (by decide) ?_
                refine X.iload 170 i307_168 rfl rfl rfl ?_
                refine X.imul 171 i307_170 rfl rfl (by omega) ?_
                refine X.iadd 172 i307_171 rfl rfl (by omega) ?_
                refine X.iload 174 i307_172 rfl rfl rfl ?_
                refine X.iadd 175 i307_174 rfl rfl (by omega) ?_
                refine X.lald 176 i307_175 rfl rfl (by decide) rfl (by omega) ?_
                have h649 := r45_343 hJ 4 (i := ((343 + (6 * y4)) + y9)) (by omega)
                refine X.l2i 177 i307_176 rfl rfl (by omega) ?_
                refine X.istore 179 [(0, zr 4 44), (2, zi y2), (3, zi y3), (4, zi y4), (5, zl z646), (7, zi (m 4 45 ((343 + (6 * y4)) + y9))), (8, zi (m 4 45 ((295 + (6 * y4)) + y9))), (9, zi y9), (10, zi (m 4 45 ((295 + (6 * y4)) + y9)))] i307_177 rfl rfl rfl ?_
                refine X.cut [(0, zr 4 44), (2, zi y2), (3, zi y3), (4, zi y4), (5, zl z646), (7, zi (m 4 45 ((343 + (6 * y4)) + y9))), (8, zi (m 4 45 ((295 + (6 * y4)) + y9))), (9, zi y9)] i307_179 rfl ?_
                refine X.iinc 182 [(0, zr 4 44), (2, zi y2), (3, zi y3), (4, zi y4), (5, zl z646), (7, zi (m 4 45 ((343 + (6 * y4)) + y9))), (8, zi (m 4 45 ((295 + (6 * y4)) + y9))), (9, zi (y9 + 1))] i307_179 rfl rfl rfl (by omega) rfl ?_
                refine X.goto 19 i307_182 rfl rfl ?_
                exact ih z646 (m 4 45 ((343 + (6 * y4)) + y9)) (m 4 45 ((295 + (6 * y4)) + y9)) (y9 + 1) (by omega) (by omega) (by omega) (by omega)
        · refine X.iload 88 i307_86 rfl rfl rfl ?_
          refine X.goto 92 i307_88 rfl rfl ?_
          refine X.cut [(0, zr 4 44), (2, zi y2), (3, zi y3), (4, zi y4), (5, zl y5), (7, zi y7), (9, zi y9), (10, zi (m 4 45 ((295 + (6 * y4)) + y9)))] i307_92 rfl ?_
          refine X.istore 94 [(0, zr 4 44), (2, zi y2), (3, zi y3), (4, zi y4), (5, zl y5), (7, zi y7), (9, zi y9), (10, zi (m 4 45 ((295 + (6 * y4)) + y9))), (11, zi y8)] i307_92 rfl rfl rfl ?_
          refine X.iload 96 i307_94 rfl rfl rfl ?_
          refine X.iload_n 97 i307_96 rfl rfl rfl ?_
          refine X.icmpge 105 100 i307_97 rfl rfl rfl (fun h650 => ?_) (fun h650 => ?_)
          · refine X.iload_n 106 i307_105 rfl rfl rfl ?_
            refine X.istore 108 [(0, zr 4 44), (2, zi y2), (3, zi y3), (4, zi y4), (5, zl y5), (7, zi y7), (9, zi y9), (10, zi (m 4 45 ((295 + (6 * y4)) + y9))), (11, zi y8), (12, zi y3)] i307_106 rfl rfl rfl ?_
            refine X.iload 110 i307_108 rfl rfl rfl ?_
            refine X.iload 112 i307_110 rfl rfl rfl ?_
            refine X.icmple 137 115 i307_112 rfl rfl rfl (fun h651 => ?_) (fun h651 => ?_)
            · refine X.cut [(0, zr 4 44), (2, zi y2), (3, zi y3), (4, zi y4), (5, zl y5), (7, zi y7), (9, zi y9), (10, zi (m 4 45 ((295 + (6 * y4)) + y9)))] i307_137 rfl ?_
              refine X.iload 139 i307_137 rfl rfl rfl ?_
              refine X.istore 141 [(0, zr 4 44), (2, zi y2), (3, zi y3), (4, zi y4), (5, zl y5), (7, zi y7), (8, zi (m 4 45 ((295 + (6 * y4)) + y9))), (9, zi y9), (10, zi (m 4 45 ((295 + (6 * y4)) + y9)))] i307_139 rfl rfl rfl ?_
              refine X.iload 143 i307_141 rfl rfl rfl ?_
              refine X.i2l 144 i307_143 rfl rfl ?_
              refine X.aload_n 145 i307_144 rfl rfl rfl ?_
              refine X.getF 148 i307_145 rfl rfl (by decide) rfl rfl ?_
              refine X.sipush 151 i307_148 rfl rfl (by decide) ?_
              refine X.iload 153 i307_151 rfl rfl rfl ?_
              refine X.iadd 154 i307_153 rfl rfl (by omega) ?_
              refine X.lald 155 i307_154 rfl rfl (by decide) rfl (by omega) ?_
              refine X.lcmp 156 i307_155 rfl rfl (fun z652 hz652 => ?_)
              refine X.ifge 179 159 i307_156 rfl rfl rfl (fun h653 => ?_) (fun h653 => ?_)
              · have h653c : y9 ≥ (m 4 45 (287 + y4)) := by omega
                clear h653 hz652
                refine X.cut [(0, zr 4 44), (2, zi y2), (3, zi y3), (4, zi y4), (5, zl y5), (7, zi y7), (8, zi (m 4 45 ((295 + (6 * y4)) + y9))), (9, zi y9)] i307_179 rfl ?_
                refine X.iinc 182 [(0, zr 4 44), (2, zi y2), (3, zi y3), (4, zi y4), (5, zl y5), (7, zi y7), (8, zi (m 4 45 ((295 + (6 * y4)) + y9))), (9, zi (y9 + 1))] i307_179 rfl rfl rfl (by omega) rfl ?_
                refine X.goto 19 i307_182 rfl rfl ?_
                exact ih y5 y7 (m 4 45 ((295 + (6 * y4)) + y9)) (y9 + 1) (by omega) (by omega) (by omega) (by omega)
              · have h653c : y9 < (m 4 45 (287 + y4)) := by omega
                clear h653 hz652
                refine X.aload_n 160 i307_159 rfl rfl rfl ?_
                refine X.getF 163 i307_160 rfl rfl (by decide) rfl rfl ?_
                refine X.sipush 166 i307_163 rfl rfl (by decide) ?_
                refine X.bipush 168 i307_166 rfl rfl (by decide) ?_
                refine X.iload 170 i307_168 rfl rfl rfl ?_
                refine X.imul 171 i307_170 rfl rfl (by omega) ?_
                refine X.iadd 172 i307_171 rfl rfl (by omega) ?_
                refine X.iload 174 i307_172 rfl rfl rfl ?_
                refine X.iadd 175 i307_174 rfl rfl (by omega) ?_
                refine X.lald 176 i307_175 rfl rfl (by decide) rfl (by omega) ?_
                have h654 := r45_343 hJ 4 (i := ((343 + (6 * y4)) + y9)) (by omega)
                refine X.l2i 177 i307_176 rfl rfl (by omega) ?_
                refine X.istore 179 [(0, zr 4 44), (2, zi y2), (3, zi y3), (4, zi y4), (5, zl y5), (7, zi (m 4 45 ((343 + (6 * y4)) + y9))), (8, zi (m 4 45 ((295 + (6 * y4)) + y9))), (9, zi y9), (10, zi (m 4 45 ((295 + (6 * y4)) + y9)))] i307_177 rfl rfl rfl ?_
                refine X.cut [(0, zr 4 44), (2, zi y2), (3, zi y3), (4, zi y4), (5, zl y5), (7, zi (m 4 45 ((343 + (6 * y4)) + y9))), (8, zi (m 4 45 ((295 + (6 * y4)) + y9))), (9, zi y9)] i307_179 rfl ?_
                refine X.iinc 182 [(0, zr 4 44), (2, zi y2), (3, zi y3), (4, zi y4), (5, zl y5), (7, zi (m 4 45 ((343 + (6 * y4)) + y9))), (8, zi (m 4 45 ((295 + (6 * y4)) + y9))), (9, zi (y9 + 1))] i307_179 rfl rfl rfl (by omega) rfl ?_
                refine X.goto 19 i307_182 rfl rfl ?_
                exact ih y5 (m 4 45 ((343 + (6 * y4)) + y9)) (m 4 45 ((295 + (6 * y4)) + y9)) (y9 + 1) (by omega) (by omega) (by omega) (by omega)
            · refine X.lload 117 i307_115 rfl rfl rfl ?_
              refine X.iload 119 i307_117 rfl rfl rfl ?_
              refine X.iload 121 i307_119 rfl rfl rfl ?_
              refine X.isub 122 i307_121 rfl rfl (by omega) ?_
              refine X.i2l 123 i307_122 rfl rfl ?_
              refine X.aload_n 124 i307_123 rfl rfl rfl ?_
              refine X.getF 127 i307_124 rfl rfl (by decide) rfl rfl ?_
              refine X.bipush 129 i307_127 rfl rfl (by decide) ?_
              refine X.iload 131 i307_129 rfl rfl rfl ?_
              refine X.iadd 132 i307_131 rfl rfl (by omega) ?_
              refine X.lald 133 i307_132 rfl rfl (by decide) rfl (by omega) ?_
              refine X.llF 134 .lmul (fun x y => x * y) i307_133 rfl rfl rfl (fun _ _ => rfl) (fun z655 hz655 => ?_)
              refine X.llF 135 .ladd (fun x y => x + y) i307_134 rfl rfl rfl (fun _ _ => rfl) (fun z656 hz656 => ?_)
              refine X.lstore 137 [(0, zr 4 44), (2, zi y2), (3, zi y3), (4, zi y4), (5, zl z656), (7, zi y7), (9, zi y9), (10, zi (m 4 45 ((295 + (6 * y4)) + y9))), (11, zi y8), (12, zi y3)] i307_135 rfl rfl rfl ?_
              refine X.cut [(0, zr 4 44), (2, zi y2), (3, zi y3), (4, zi y4), (5, zl z656), (7, zi y7), (9, zi y9), (10, zi (m 4 45 ((295 + (6 * y4)) + y9)))] i307_137 rfl ?_
              refine X.iload 139 i307_137 rfl rfl rfl ?_
              refine X.istore 141 [(0, zr 4 44), (2, zi y2), (3, zi y3), (4, zi y4), (5, zl z656), (7, zi y7), (8, zi (m 4 45 ((295 + (6 * y4)) + y9))), (9, zi y9), (10, zi (m 4 45 ((295 + (6 * y4)) + y9)))] i307_139 rfl rfl rfl ?_
              refine X.iload 143 i307_141 rfl rfl rfl ?_
              refine X.i2l 144 i307_143 rfl rfl ?_
              refine X.aload_n 145 i307_144 rfl rfl rfl ?_
              refine X.getF 148 i307_145 rfl rfl (by decide) rfl rfl ?_
              refine X.sipush 151 i307_148 rfl rfl (by decide) ?_
              refine X.iload 153 i307_151 rfl rfl rfl ?_
              refine X.iadd 154 i307_153 rfl rfl (by omega) ?_
              refine X.lald 155 i307_154 rfl rfl (by decide) rfl (by omega) ?_
              refine X.lcmp 156 i307_155 rfl rfl (fun z657 hz657 => ?_)
              refine X.ifge 179 159 i307_156 rfl rfl rfl (fun h658 => ?_) (fun h658 => ?_)
              · have h658c : y9 ≥ (m 4 45 (287 + y4)) := by omega
                clear h658 hz657
                refine X.cut [(0, zr 4 44), (2, zi y2), (3, zi y3), (4, zi y4), (5, zl z656), (7, zi y7), (8, zi (m 4 45 ((295 + (6 * y4)) + y9))), (9, zi y9)] i307_179 rfl ?_
                refine X.iinc 182 [(0, zr 4 44), (2, zi y2), (3, zi y3), (4, zi y4), (5, zl z656), (7, zi y7), (8, zi (m 4 45 ((295 + (6 * y4)) + y9))), (9, zi (y9 + 1))] i307_179 rfl rfl rfl (by omega) rfl ?_
                refine X.goto 19 i307_182 rfl rfl ?_
                exact ih z656 y7 (m 4 45 ((295 + (6 * y4)) + y9)) (y9 + 1) (by omega) (by omega) (by omega) (by omega)
              · have h658c : y9 < (m 4 45 (287 + y4)) := by omega
                clear h658 hz657
                refine X.aload_n 160 i307_159 rfl rfl rfl ?_
                refine X.getF 163 i307_160 rfl rfl (by decide) rfl rfl ?_
                refine X.sipush 166 i307_163 rfl rfl (by decide) ?_
                refine X.bipush 168 i307_166 rfl rfl (by decide) ?_
                refine X.iload 170 i307_168 rfl rfl rfl ?_
                refine X.imul 171 i307_170 rfl rfl (by omega) ?_
                refine X.iadd 172 i307_171 rfl rfl (by omega) ?_
                refine X.iload 174 i307_172 rfl rfl rfl ?_
                refine X.iadd 175 i307_174 rfl rfl (by omega) ?_
                refine X.lald 176 i307_175 rfl rfl (by decide) rfl (by omega) ?_
                have h659 := r45_343 hJ 4 (i := ((343 + (6 * y4)) + y9)) (by omega)
                refine X.l2i 177 i307_176 rfl rfl (by omega) ?_
                refine X.istore 179 [(0, zr 4 44), (2, zi y2), (3, zi y3), (4, zi y4), (5, zl z656), (7, zi (m 4 45 ((343 + (6 * y4)) + y9))), (8, zi (m 4 45 ((295 + (6 * y4)) + y9))), (9, zi y9), (10, zi (m 4 45 ((295 + (6 * y4)) + y9)))] i307_177 rfl rfl rfl ?_
                refine X.cut [(0, zr 4 44), (2, zi y2), (3, zi y3), (4, zi y4), (5, zl z656), (7, zi (m 4 45 ((343 + (6 * y4)) + y9))), (8, zi (m 4 45 ((295 + (6 * y4)) + y9))), (9, zi y9)] i307_179 rfl ?_
                refine X.iinc 182 [(0, zr 4 44), (2, zi y2), (3, zi y3), (4, zi y4), (5, zl z656), (7, zi (m 4 45 ((343 + (6 * y4)) + y9))), (8, zi (m 4 45 ((295 + (6 * y4)) + y9))), (9, zi (y9 + 1))] i307_179 rfl rfl rfl (by omega) rfl ?_
                refine X.goto 19 i307_182 rfl rfl ?_
                exact ih z656 (m 4 45 ((343 + (6 * y4)) + y9)) (m 4 45 ((295 + (6 * y4)) + y9)) (y9 + 1) (by omega) (by omega) (by omega) (by omega)
          · refine X.iload 102 i307_100 rfl rfl rfl ?_
            refine X.goto 106 i307_102 rfl rfl ?_
            refine X.istore 108 [(0, zr 4 44), (2, zi y2), (3, zi y3), (4, zi y4), (5, zl y5), (7, zi y7), (9, zi y9), (10, zi (m 4 45 ((295 + (6 * y4)) + y9))), (11, zi y8), (12, zi (m 4 45 ((295 + (6 * y4)) + y9)))] i307_106 rfl rfl rfl ?_
            refine X.iload 110 i307_108 rfl rfl rfl ?_
            refine X.iload 112 i307_110 rfl rfl rfl ?_
            refine X.icmple 137 115 i307_112 rfl rfl rfl (fun h660 => ?_) (fun h660 => ?_)
            · refine X.cut [(0, zr 4 44), (2, zi y2), (3, zi y3), (4, zi y4), (5, zl y5), (7, zi y7), (9, zi y9), (10, zi (m 4 45 ((295 + (6 * y4)) + y9)))] i307_137 rfl ?_
              refine X.iload 139 i307_137 rfl rfl rfl ?_
              refine X.istore 141 [(0, zr 4 44), (2, zi y2), (3, zi y3), (4, zi y4), (5, zl y5), (7, zi y7), (8, zi (m 4 45 ((295 + (6 * y4)) + y9))), (9, zi y9), (10, zi (m 4 45 ((295 + (6 * y4)) + y9)))] i307_139 rfl rfl rfl ?_
              refine X.iload 143 i307_141 rfl rfl rfl ?_
              refine X.i2l 144 i307_143 rfl rfl ?_
              refine X.aload_n 145 i307_144 rfl rfl rfl ?_
              refine X.getF 148 i307_145 rfl rfl (by decide) rfl rfl ?_
              refine X.sipush 151 i307_148 rfl rfl (by decide) ?_
              refine X.iload 153 i307_151 rfl rfl rfl ?_
              refine X.iadd 154 i307_153 rfl rfl (by omega) ?_
              refine X.lald 155 i307_154 rfl rfl (by decide) rfl (by omega) ?_
              refine X.lcmp 156 i307_155 rfl rfl (fun z661 hz661 => ?_)
              refine X.ifge 179 159 i307_156 rfl rfl rfl (fun h662 => ?_) (fun h662 => ?_)
              · have h662c : y9 ≥ (m 4 45 (287 + y4)) := by omega
                clear h662 hz661
                refine X.cut [(0, zr 4 44), (2, zi y2), (3, zi y3), (4, zi y4), (5, zl y5), (7, zi y7), (8, zi (m 4 45 ((295 + (6 * y4)) + y9))), (9, zi y9)] i307_179 rfl ?_
                refine X.iinc 182 [(0, zr 4 44), (2, zi y2), (3, zi y3), (4, zi y4), (5, zl y5), (7, zi y7), (8, zi (m 4 45 ((295 + (6 * y4)) + y9))), (9, zi (y9 + 1))] i307_179 rfl rfl rfl (by omega) rfl ?_
                refine X.goto 19 i307_182 rfl rfl ?_
                exact ih y5 y7 (m 4 45 ((295 + (6 * y4)) + y9)) (y9 + 1) (by omega) (by omega) (by omega) (by omega)
              · have h662c : y9 < (m 4 45 (287 + y4)) := by omega
                clear h662 hz661
                refine X.aload_n 160 i307_159 rfl rfl rfl ?_
                refine X.getF 163 i307_160 rfl rfl (by decide) rfl rfl ?_
                refine X.sipush 166 i307_163 rfl rfl (by decide) ?_
                refine X.bipush 168 i307_166 rfl rfl (by decide) ?_
                refine X.iload 170 i307_168 rfl rfl rfl ?_
                refine X.imul 171 i307_170 rfl rfl (by omega) ?_
                refine X.iadd 172 i307_171 rfl rfl (by omega) ?_
                refine X.iload 174 i307_172 rfl rfl rfl ?_
                refine X.iadd 175 i307_174 rfl rfl (by omega) ?_
                refine X.lald 176 i307_175 rfl rfl (by decide) rfl (by omega) ?_
                have h663 := r45_343 hJ 4 (i := ((343 + (6 * y4)) + y9)) (by omega)
                refine X.l2i 177 i307_176 rfl rfl (by omega) ?_
                refine X.istore 179 [(0, zr 4 44), (2, zi y2), (3, zi y3), (4, zi y4), (5, zl y5), (7, zi (m 4 45 ((343 + (6 * y4)) + y9))), (8, zi (m 4 45 ((295 + (6 * y4)) + y9))), (9, zi y9), (10, zi (m 4 45 ((295 + (6 * y4)) + y9)))] i307_177 rfl rfl rfl ?_
                refine X.cut [(0, zr 4 44), (2, zi y2), (3, zi y3), (4, zi y4), (5, zl y5), (7, zi (m 4 45 ((343 + (6 * y4)) + y9))), (8, zi (m 4 45 ((295 + (6 * y4)) + y9))), (9, zi y9)] i307_179 rfl ?_
                refine X.iinc 182 [(0, zr 4 44), (2, zi y2), (3, zi y3), (4, zi y4), (5, zl y5), (7, zi (m 4 45 ((343 + (6 * y4)) + y9))), (8, zi (m 4 45 ((295 + (6 * y4)) + y9))), (9, zi (y9 + 1))] i307_179 rfl rfl rfl (by omega) rfl ?_
                refine X.goto 19 i307_182 rfl rfl ?_
                exact ih y5 (m 4 45 ((343 + (6 * y4)) + y9)) (m 4 45 ((295 + (6 * y4)) + y9)) (y9 + 1) (by omega) (by omega) (by omega) (by omega)
            · refine X.lload 117 i307_115 rfl rfl rfl ?_
              refine X.iload 119 i307_117 rfl rfl rfl ?_
              refine X.iload 121 i307_119 rfl rfl rfl ?_
              refine X.isub 122 i307_121 rfl rfl (by omega) ?_
              refine X.i2l 123 i307_122 rfl rfl ?_
              refine X.aload_n 124 i307_123 rfl rfl rfl ?_
              refine X.getF 127 i307_124 rfl rfl (by decide) rfl rfl ?_
              refine X.bipush 129 i307_127 rfl rfl (by decide) ?_
              refine X.iload 131 i307_129 rfl rfl rfl ?_
              refine X.iadd 132 i307_131 rfl rfl (by omega) ?_
              refine X.lald 133 i307_132 rfl rfl (by decide) rfl (by omega) ?_
              refine X.llF 134 .lmul (fun x y => x * y) i307_133 rfl rfl rfl (fun _ _ => rfl) (fun z664 hz664 => ?_)
              refine X.llF 135 .ladd (fun x y => x + y) i307_134 rfl rfl rfl (fun _ _ => rfl) (fun z665 hz665 => ?_)
              refine X.lstore 137 [(0, zr 4 44), (2, zi y2), (3, zi y3), (4, zi y4), (5, zl z665), (7, zi y7), (9, zi y9), (10, zi (m 4 45 ((295 + (6 * y4)) + y9))), (11, zi y8), (12, zi (m 4 45 ((295 + (6 * y4)) + y9)))] i307_135 rfl rfl rfl ?_
              refine X.cut [(0, zr 4 44), (2, zi y2), (3, zi y3), (4, zi y4), (5, zl z665), (7, zi y7), (9, zi y9), (10, zi (m 4 45 ((295 + (6 * y4)) + y9)))] i307_137 rfl ?_
              refine X.iload 139 i307_137 rfl rfl rfl ?_
              refine X.istore 141 [(0, zr 4 44), (2, zi y2), (3, zi y3), (4, zi y4), (5, zl z665), (7, zi y7), (8, zi (m 4 45 ((295 + (6 * y4)) + y9))), (9, zi y9), (10, zi (m 4 45 ((295 + (6 * y4)) + y9)))] i307_139 rfl rfl rfl ?_
              refine X.iload 143 i307_141 rfl rfl rfl ?_
              refine X.i2l 144 i307_143 rfl rfl ?_
              refine X.aload_n 145 i307_144 rfl rfl rfl ?_
              refine X.getF 148 i307_145 rfl rfl (by decide) rfl rfl ?_
              refine X.sipush 151 i307_148 rfl rfl (by decide) ?_
              refine X.iload 153 i307_151 rfl rfl rfl ?_
              refine X.iadd 154 i307_153 rfl rfl (by omega) ?_
              refine X.lald 155 i307_154 rfl rfl (by decide) rfl (by omega) ?_
              refine X.lcmp 156 i307_155 rfl rfl (fun z666 hz666 => ?_)
              refine X.ifge 179 159 i307_156 rfl rfl rfl (fun h667 => ?_) (fun h667 => ?_)
              · have h667c : y9 ≥ (m 4 45 (287 + y4)) := by omega
                clear h667 hz666
                refine X.cut [(0, zr 4 44), (2, zi y2), (3, zi y3), (4, zi y4), (5, zl z665), (7, zi y7), (8, zi (m 4 45 ((295 + (6 * y4)) + y9))), (9, zi y9)] i307_179 rfl ?_
                refine X.iinc 182 [(0, zr 4 44), (2, zi y2), (3, zi y3), (4, zi y4), (5, zl z665), (7, zi y7), (8, zi (m 4 45 ((295 + (6 * y4)) + y9))), (9, zi (y9 + 1))] i307_179 rfl rfl rfl (by omega) rfl ?_
                refine X.goto 19 i307_182 rfl rfl ?_
                exact ih z665 y7 (m 4 45 ((295 + (6 * y4)) + y9)) (y9 + 1) (by omega) (by omega) (by omega) (by omega)
              · have h667c : y9 < (m 4 45 (287 + y4)) := by omega
                clear h667 hz666
                refine X.aload_n 160 i307_159 rfl rfl rfl ?_
                refine X.getF 163 i307_160 rfl rfl (by decide) rfl rfl ?_
                refine X.sipush 166 i307_163 rfl rfl (by decide) ?_
                refine X.bipush 168 i307_166 rfl rfl (by decide) ?_
                refine X.iload 170 i307_168 rfl rfl rfl ?_
                refine X.imul 171 i307_170 rfl rfl (by omega) ?_
                refine X.iadd 172 i307_171 rfl rfl (by omega) ?_
                refine X.iload 174 i307_172 rfl rfl rfl ?_
                refine X.iadd 175 i307_174 rfl rfl (by omega) ?_
                refine X.lald 176 i307_175 rfl rfl (by decide) rfl (by omega) ?_
                have h668 := r45_343 hJ 4 (i := ((343 + (6 * y4)) + y9)) (by omega)
                refine X.l2i 177 i307_176 rfl rfl (by omega) ?_
                refine X.istore 179 [(0, zr 4 44), (2, zi y2), (3, zi y3), (4, zi y4), (5, zl z665), (7, zi (m 4 45 ((343 + (6 * y4)) + y9))), (8, zi (m 4 45 ((295 + (6 * y4)) + y9))), (9, zi y9), (10, zi (m 4 45 ((295 + (6 * y4)) + y9)))] i307_177 rfl rfl rfl ?_
                refine X.cut [(0, zr 4 44), (2, zi y2), (3, zi y3), (4, zi y4), (5, zl z665), (7, zi (m 4 45 ((343 + (6 * y4)) + y9))), (8, zi (m 4 45 ((295 + (6 * y4)) + y9))), (9, zi y9)] i307_179 rfl ?_
                refine X.iinc 182 [(0, zr 4 44), (2, zi y2), (3, zi y3), (4, zi y4), (5, zl z665), (7, zi (m 4 45 ((343 + (6 * y4)) + y9))), (8, zi (m 4 45 ((295 + (6 * y4)) + y9))), (9, zi (y9 + 1))] i307_179 rfl rfl rfl (by omega) rfl ?_
                refine X.goto 19 i307_182 rfl rfl ?_
                exact ih z665 (m 4 45 ((343 + (6 * y4)) + y9)) (m 4 45 ((295 + (6 * y4)) + y9)) (y9 + 1) (by omega) (by omega) (by omega) (by omega)
-- WorkMeterModel.costOfDay
theorem c307_4 {s : Nat × (Nat → Int32)} {S : zS} {m0 m : zM} {B : Int} {d : Nat} {Q : Option zV → zM → Prop} (a1 a2 a3 : Int) (hd : 15 ≤ d) (hJ : J S m0 B m) (hB : B + 0 ≤ 1000000000) (ha1 : 0 ≤ a1 ∧ a1 ≤ 23150) (ha2 : 0 ≤ a2 ∧ a2 ≤ 86399) (ha3 : (-2000159099) ≤ a3 ∧ a3 ≤ 86399) (hQ : ∀ (v : Int), (True) → Q (some (zl v)) m) : X (EE s) d 307 0 [(0, zr 4 44), (1, zi a1), (2, zi a2), (3, zi a3)] [] m Q := by
  refine X.aload_n 1 i307_0 rfl rfl rfl ?_
  refine X.iload_n 2 i307_1 rfl rfl rfl ?_
  refine X.callv 5 [zi a1] [] [(0, zr 4 44), (1, zi a1)] i307_2 rfl (by decide) rfl rfl (by omega) rfl rfl (by decide) rfl t218 (Nat.le_of_ble_eq_true rfl) (Nat.le_of_ble_eq_true rfl) rfl ?_
  refine c218_1 (B := B)  a1 (by omega) (hJ.up (by omega)) (by omega) (by omega) (fun v503 hv503 => ?_)
  show X (EE s) d 307 5 [(0, zr 4 44), (1, zi a1), (2, zi a2), (3, zi a3)] [zi v503] m _
  refine X.istore 7 [(0, zr 4 44), (1, zi a1), (2, zi a2), (3, zi a3), (4, zi v503)] i307_5 rfl rfl rfl ?_
  refine X.lconst (y := 0) 8 i307_7 rfl rfl rfl ?_
  refine X.lstore 10 [(0, zr 4 44), (1, zi a1), (2, zi a2), (3, zi a3), (4, zi v503), (5, zl 0)] i307_8 rfl rfl rfl ?_
  refine X.iconst 11 i307_10 rfl rfl (by decide) ?_
  refine X.istore 13 [(0, zr 4 44), (1, zi a1), (2, zi a2), (3, zi a3), (4, zi v503), (5, zl 0), (7, zi 0)] i307_11 rfl rfl rfl ?_
  refine X.iconst 14 i307_13 rfl rfl (by decide) ?_
  refine X.istore 16 [(0, zr 4 44), (1, zi a1), (2, zi a2), (3, zi a3), (4, zi v503), (5, zl 0), (7, zi 0), (8, zi 0)] i307_14 rfl rfl rfl ?_
  refine X.iconst 17 i307_16 rfl rfl (by decide) ?_
  refine X.istore 19 [(0, zr 4 44), (1, zi a1), (2, zi a2), (3, zi a3), (4, zi v503), (5, zl 0), (7, zi 0), (8, zi 0), (9, zi 0)] i307_17 rfl rfl rfl ?_
  refine X.cut [(0, zr 4 44), (2, zi a2), (3, zi a3), (4, zi v503), (5, zl 0), (7, zi 0), (8, zi 0), (9, zi 0)] i307_19 rfl ?_
  refine l307_19_3 (s := s) (S := S) (m0 := m0) (m := m) (B := B) (d := d)  a2 a3 v503 (by omega) (hJ.up (by omega)) (by omega) (by omega) (by omega) (by omega) (fun y504 hby504 => ?_) ((7 - 0 : Int).toNat + 1) 0 0 0 0 (by omega) (by omega) (by omega) (by omega)
  refine X.lload 187 i307_185 rfl rfl rfl ?_
  refine X.retl i307_187 rfl t307 ?_
  exact hQ y504 (by first | trivial | omega) 
theorem l306_5_2 {s : Nat × (Nat → Int32)} {S : zS} {m0 m : zM} {B : Int} {d : Nat} {Q : Option zV → zM → Prop} (y1 y2 : Int) (hd : 16 ≤ d) (hJ : J S m0 B m) (hB9 : B ≤ 1000000000) (hy1 : 900 ≤ y1 ∧ y1 ≤ 2000085500) (hy2 : 1 ≤ y2 ∧ y2 ≤ 100000)
    (K79 : ∀ (x3 : Int) , (True) → X (EE s) d 306 79 [(3, zl x3)] [] m Q) :
    ∀ (n : Nat) (y3 y5 : Int) , (0 ≤ y5 ∧ y5 ≤ 2000186000) → (y5 ≤ y1 + y2) → y1 + y2 - y5 < (n : Int) → X (EE s) d 306 5 [(0, zr 4 44), (1, zi y1), (2, zi y2), (3, zl y3), (5, zi y5)] [] m Q := by
  intro n
  induction n with
  | zero =>
    intro y3 y5 hy5 hr0 hn
    exfalso
    omega
  | succ n ih =>
    intro y3 y5 hy5 hr0 hn
    refine X.iload 7 i306_5 rfl rfl rfl ?_
    refine X.iload_n 8 i306_7 rfl rfl rfl ?_
    refine X.iload_n 9 i306_8 rfl rfl rfl ?_
    refine X.iadd 10 i306_9 rfl rfl (by omega) ?_
    refine X.icmpge 79 13 i306_10 rfl rfl rfl (fun h521 => ?_) (fun h521 => ?_)
    · refine X.cut [(3, zl y3)] i306_79 rfl ?_
      exact K79 y3 (by first | trivial | omega)
    · refine X.iload 15 i306_13 rfl rfl rfl ?_
      refine X.ldc 17 i306_15 rfl rfl (by decide) ?_
      refine X.idiv 18 i306_17 rfl rfl (by omega) ?_
      refine X.istore 20 [(0, zr 4 44), (1, zi y1), (2, zi y2), (3, zl y3), (5, zi y5), (6, zi (y5 / 86400))] i306_18 rfl rfl rfl ?_
      refine X.iload_n 21 i306_20 rfl rfl rfl ?_
      refine X.iload_n 22 i306_21 rfl rfl rfl ?_
      refine X.iadd 23 i306_22 rfl rfl (by omega) ?_
      refine X.iload 25 i306_23 rfl rfl rfl ?_
      refine X.ldc 27 i306_25 rfl rfl (by decide) ?_
      refine X.imul 28 i306_27 rfl rfl (by omega) ?_
      refine X.isub 29 i306_28 rfl rfl (by omega) ?_
      refine X.ldc 31 i306_29 rfl rfl (by decide) ?_
      refine X.icmpge 46 34 i306_31 rfl rfl rfl (fun h522 => ?_) (fun h522 => ?_)
      · refine X.ldc 48 i306_46 rfl rfl (by decide) ?_
        refine X.istore 50 [(0, zr 4 44), (1, zi y1), (2, zi y2), (3, zl y3), (5, zi y5), (6, zi (y5 / 86400)), (7, zi 86400)] i306_48 rfl rfl rfl ?_
        refine X.lload_n 51 i306_50 rfl rfl rfl ?_
        refine X.aload_n 52 i306_51 rfl rfl rfl ?_
        refine X.iload 54 i306_52 rfl rfl rfl ?_
        refine X.iload 56 i306_54 rfl rfl rfl ?_
        refine X.ldc 58 i306_56 rfl rfl (by decide) ?_
        refine X.irem 59 i306_58 rfl rfl (by omega) ?_
        refine X.iload 61 i306_59 rfl rfl rfl ?_
        refine X.callv 64 [zi (y5 / 86400), zi (y5 % 86400), zi 86400] [zl y3] [(0, zr 4 44), (1, zi (y5 / 86400)), (2, zi (y5 % 86400)), (3, zi 86400)] i306_61 rfl (by decide) rfl rfl (by omega) rfl rfl (by decide) rfl t307 (Nat.le_of_ble_eq_true rfl) (Nat.le_of_ble_eq_true rfl) rfl ?_
        refine c307_3 (B := B)  (y5 / 86400) (y5 % 86400) 86400 (by omega) (hJ.up (by omega)) (by omega) (by omega) (by omega) (by omega) (fun v525 hv525 => ?_)
        show X (EE s) d 306 64 [(0, zr 4 44), (1, zi y1), (2, zi y2), (3, zl y3), (5, zi y5), (6, zi (y5 / 86400)), (7, zi 86400)] [zl v525, zl y3] m _
        refine X.llF 65 .ladd (fun x y => x + y) i306_64 rfl rfl rfl (fun _ _ => rfl) (fun z526 hz526 => ?_)
        refine X.lstore_n 66 [(0, zr 4 44), (1, zi y1), (2, zi y2), (3, zl z526), (5, zi y5), (6, zi (y5 / 86400)), (7, zi 86400)] i306_65 rfl rfl rfl ?_
        refine X.iload 68 i306_66 rfl rfl rfl ?_
        refine X.ldc 70 i306_68 rfl rfl (by decide) ?_
        refine X.imul 71 i306_70 rfl rfl (by omega) ?_
        refine X.iload 73 i306_71 rfl rfl rfl ?_
        refine X.iadd 74 i306_73 rfl rfl (by omega) ?_
        refine X.istore 76 [(0, zr 4 44), (1, zi y1), (2, zi y2), (3, zl z526), (5, zi (((y5 / 86400) * 86400) + 86400)), (6, zi (y5 / 86400)), (7, zi 86400)] i306_74 rfl rfl rfl ?_
        refine X.goto 5 i306_76 rfl rfl ?_
        refine X.cut [(0, zr 4 44), (1, zi y1), (2, zi y2), (3, zl z526), (5, zi (((y5 / 86400) * 86400) + 86400))] i306_5 rfl ?_
        exact ih z526 (((y5 / 86400) * 86400) + 86400) (by omega) (by omega) (by omega)
      · refine X.iload_n 35 i306_34 rfl rfl rfl ?_
        refine X.iload_n 36 i306_35 rfl rfl rfl ?_
        refine X.iadd 37 i306_36 rfl rfl (by omega) ?_
        refine X.iload 39 i306_37 rfl rfl rfl ?_
        refine X.ldc 41 i306_39 rfl rfl (by decide) ?_
        refine X.imul 42 i306_41 rfl rfl (by omega) ?_
        refine X.isub 43 i306_42 rfl rfl (by omega) ?_
        refine X.goto 48 i306_43 rfl rfl ?_
        refine X.istore 50 [(0, zr 4 44), (1, zi y1), (2, zi y2), (3, zl y3), (5, zi y5), (6, zi (y5 / 86400)), (7, zi ((y1 + y2) - ((y5 / 86400) * 86400)))] i306_48 rfl rfl rfl ?_
        refine X.lload_n 51 i306_50 rfl rfl rfl ?_
        refine X.aload_n 52 i306_51 rfl rfl rfl ?_
        refine X.iload 54 i306_52 rfl rfl rfl ?_
        refine X.iload 56 i306_54 rfl rfl rfl ?_
        refine X.ldc 58 i306_56 rfl rfl (by decide) ?_
        refine X.irem 59 i306_58 rfl rfl (by omega) ?_
        refine X.iload 61 i306_59 rfl rfl rfl ?_
        refine X.callv 64 [zi (y5 / 86400), zi (y5 % 86400), zi ((y1 + y2) - ((y5 / 86400) * 86400))] [zl y3] [(0, zr 4 44), (1, zi (y5 / 86400)), (2, zi (y5 % 86400)), (3, zi ((y1 + y2) - ((y5 / 86400) * 86400)))] i306_61 rfl (by decide) rfl rfl (by omega) rfl rfl (by decide) rfl t307 (Nat.le_of_ble_eq_true rfl) (Nat.le_of_ble_eq_true rfl) rfl ?_
        refine c307_4 (B := B)  (y5 / 86400) (y5 % 86400) ((y1 + y2) - ((y5 / 86400) * 86400)) (by omega) (hJ.up (by omega)) (by omega) (by omega) (by omega) (by omega) (fun v529 hv529 => ?_)
        show X (EE s) d 306 64 [(0, zr 4 44), (1, zi y1), (2, zi y2), (3, zl y3), (5, zi y5), (6, zi (y5 / 86400)), (7, zi ((y1 + y2) - ((y5 / 86400) * 86400)))] [zl v529, zl y3] m _
        refine X.llF 65 .ladd (fun x y => x + y) i306_64 rfl rfl rfl (fun _ _ => rfl) (fun z530 hz530 => ?_)
        refine X.lstore_n 66 [(0, zr 4 44), (1, zi y1), (2, zi y2), (3, zl z530), (5, zi y5), (6, zi (y5 / 86400)), (7, zi ((y1 + y2) - ((y5 / 86400) * 86400)))] i306_65 rfl rfl rfl ?_
        refine X.iload 68 i306_66 rfl rfl rfl ?_
        refine X.ldc 70 i306_68 rfl rfl (by decide) ?_
        refine X.imul 71 i306_70 rfl rfl (by omega) ?_
        refine X.iload 73 i306_71 rfl rfl rfl ?_
        refine X.iadd 74 i306_73 rfl rfl (by omega) ?_
        refine X.istore 76 [(0, zr 4 44), (1, zi y1), (2, zi y2), (3, zl z530), (5, zi (((y5 / 86400) * 86400) + ((y1 + y2) - ((y5 / 86400) * 86400)))), (6, zi (y5 / 86400)), (7, zi ((y1 + y2) - ((y5 / 86400) * 86400)))] i306_74 rfl rfl rfl ?_
        refine X.goto 5 i306_76 rfl rfl ?_
        refine X.cut [(0, zr 4 44), (1, zi y1), (2, zi y2), (3, zl z530), (5, zi (((y5 / 86400) * 86400) + ((y1 + y2) - ((y5 / 86400) * 86400))))] i306_5 rfl ?_
        exact ih z530 (((y5 / 86400) * 86400) + ((y1 + y2) - ((y5 / 86400) * 86400))) (by omega) (by omega) (by omega)
-- WorkMeterModel.costFrom
theorem c306_2 {s : Nat × (Nat → Int32)} {S : zS} {m0 m : zM} {B : Int} {d : Nat} {Q : Option zV → zM → Prop} (a1 a2 : Int) (hd : 16 ≤ d) (hJ : J S m0 B m) (hB : B + 0 ≤ 1000000000) (ha1 : 900 ≤ a1 ∧ a1 ≤ 2000085500) (ha2 : 1 ≤ a2 ∧ a2 ≤ 100000) (hQ : ∀ (v : Int), (True) → Q (some (zl v)) m) : X (EE s) d 306 0 [(0, zr 4 44), (1, zi a1), (2, zi a2)] [] m Q := by
  refine X.lconst (y := 0) 1 i306_0 rfl rfl rfl ?_
  refine X.lstore_n 2 [(0, zr 4 44), (1, zi a1), (2, zi a2), (3, zl 0)] i306_1 rfl rfl rfl ?_
  refine X.iload_n 3 i306_2 rfl rfl rfl ?_
  refine X.istore 5 [(0, zr 4 44), (1, zi a1), (2, zi a2), (3, zl 0), (5, zi a1)] i306_3 rfl rfl rfl ?_
  refine l306_5_2 (s := s) (S := S) (m0 := m0) (m := m) (B := B) (d := d)  a1 a2 (by omega) (hJ.up (by omega)) (by omega) (by omega) (by omega) (fun y501 hby501 => ?_) ((a1 + a2 - a1 : Int).toNat + 1) 0 a1 (by omega) (by omega) (by omega)
  refine X.lload_n 80 i306_79 rfl rfl rfl ?_
  refine X.retl i306_80 rfl t306 ?_
  exact hQ y501 (by first | trivial | omega) 
theorem l307_19_4 {s : Nat × (Nat → Int32)} {S : zS} {m0 m : zM} {B : Int} {d : Nat} {Q : Option zV → zM → Prop} (y2 y3 y4 : Int) (hd : 13 ≤ d) (hJ : J S m0 B m) (hB9 : B ≤ 1000000000) (hy2 : 0 ≤ y2 ∧ y2 ≤ 86399) (hy3 : (-2000159999) ≤ y3 ∧ y3 ≤ 86399) (hy4 : 0 ≤ y4 ∧ y4 ≤ 7)
    (K185 : ∀ (x5 : Int) , (True) → X (EE s) d 307 185 [(5, zl x5)] [] m Q) :
    ∀ (n : Nat) (y5 y7 y8 y9 : Int) , (0 ≤ y7 ∧ y7 ≤ 3) → (0 ≤ y8 ∧ y8 ≤ 86400) → (0 ≤ y9 ∧ y9 ≤ 7) → 7 - y9 < (n : Int) → X (EE s) d 307 19 [(0, zr 4 44), (2, zi y2), (3, zi y3), (4, zi y4), (5, zl y5), (7, zi y7), (8, zi y8), (9, zi y9)] [] m Q := by
  intro n
  induction n with
  | zero =>
    intro y5 y7 y8 y9 hy7 hy8 hy9 hn
    exfalso
    omega
  | succ n ih =>
    intro y5 y7 y8 y9 hy7 hy8 hy9 hn
    refine X.iload 21 i307_19 rfl rfl rfl ?_
    refine X.i2l 22 i307_21 rfl rfl ?_
    refine X.aload_n 23 i307_22 rfl rfl rfl ?_
    refine X.getF 26 i307_23 rfl rfl (by decide) rfl rfl ?_
    refine X.sipush 29 i307_26 rfl rfl (by decide) ?_
    refine X.iload 31 i307_29 rfl rfl rfl ?_
    refine X.iadd 32 i307_31 rfl rfl (by omega) ?_
    refine X.lald 33 i307_32 rfl rfl (by decide) rfl (by omega) ?_
    have h603 := r45_287 hJ 4 (i := (287 + y4)) (by omega)
    refine X.lcmp 34 i307_33 rfl rfl (fun z604 hz604 => ?_)
    refine X.ifgt 185 37 i307_34 rfl rfl rfl (fun h605 => ?_) (fun h605 => ?_)
    · have h605c : y9 > (m 4 45 (287 + y4)) := by omega
      clear h605 hz604
      refine X.cut [(5, zl y5)] i307_185 rfl ?_
      exact K185 y5 (by first | trivial | omega)
    · have h605c : y9 ≤ (m 4 45 (287 + y4)) := by omega
      clear h605 hz604
      refine X.iload 39 i307_37 rfl rfl rfl ?_
      refine X.i2l 40 i307_39 rfl rfl ?_
      refine X.aload_n 41 i307_40 rfl rfl rfl ?_
      refine X.getF 44 i307_41 rfl rfl (by decide) rfl rfl ?_
      refine X.sipush 47 i307_44 rfl rfl (by decide) ?_
      refine X.iload 49 i307_47 rfl rfl rfl ?_
      refine X.iadd 50 i307_49 rfl rfl (by omega) ?_
      refine X.lald 51 i307_50 rfl rfl (by decide) rfl (by omega) ?_
      refine X.lcmp 52 i307_51 rfl rfl (fun z606 hz606 => ?_)
      refine X.ifge 76 55 i307_52 rfl rfl rfl (fun h607 => ?_) (fun h607 => ?_)
      · have h607c : y9 ≥ (m 4 45 (287 + y4)) := by omega
        clear h607 hz606
        refine X.ldc 78 i307_76 rfl rfl (by decide) ?_
        refine X.istore 80 [(0, zr 4 44), (2, zi y2), (3, zi y3), (4, zi y4), (5, zl y5), (7, zi y7), (8, zi y8), (9, zi y9), (10, zi 86400)] i307_78 rfl rfl rfl ?_
        refine X.iload 82 i307_80 rfl rfl rfl ?_
        refine X.iload_n 83 i307_82 rfl rfl rfl ?_
        refine X.icmple 91 86 i307_83 rfl rfl rfl (fun h608 => ?_) (fun h608 => ?_)
        · refine X.cut [(0, zr 4 44), (2, zi y2), (3, zi y3), (4, zi y4), (5, zl y5), (7, zi y7), (9, zi y9), (10, zi 86400)] i307_91 rfl ?_
          refine X.iload_n 92 i307_91 rfl rfl rfl ?_
          refine X.istore 94 [(0, zr 4 44), (2, zi y2), (3, zi y3), (4, zi y4), (5, zl y5), (7, zi y7), (9, zi y9), (10, zi 86400), (11, zi y2)] i307_92 rfl rfl rfl ?_
          refine X.iload 96 i307_94 rfl rfl rfl ?_
          refine X.iload_n 97 i307_96 rfl rfl rfl ?_
          refine X.icmpge 105 100 i307_97 rfl rfl rfl (fun h609 => ?_) (fun h609 => (by exfalso; omega))
          refine X.iload_n 106 i307_105 rfl rfl rfl ?_
          refine X.istore 108 [(0, zr 4 44), (2, zi y2), (3, zi y3), (4, zi y4), (5, zl y5), (7, zi y7), (9, zi y9), (10, zi 86400), (11, zi y2), (12, zi y3)] i307_106 rfl rfl rfl ?_
          refine X.iload 110 i307_108 rfl rfl rfl ?_
          refine X.iload 112 i307_110 rfl rfl rfl ?_
          refine X.icmple 137 115 i307_112 rfl rfl rfl (fun h610 => ?_) (fun h610 => ?_)
          · refine X.cut [(0, zr 4 44), (2, zi y2), (3, zi y3), (4, zi y4), (5, zl y5), (7, zi y7), (9, zi y9), (10, zi 86400)] i307_137 rfl ?_
            refine X.iload 139 i307_137 rfl rfl rfl ?_
            refine X.istore 141 [(0, zr 4 44), (2, zi y2), (3, zi y3), (4, zi y4), (5, zl y5), (7, zi y7), (8, zi 86400), (9, zi y9), (10, zi 86400)] i307_139 rfl rfl rfl ?_
            refine X.iload 143 i307_141 rfl rfl rfl ?_
            refine X.i2l 144 i307_143 rfl rfl ?_
            refine X.aload_n 145 i307_144 rfl rfl rfl ?_
            refine X.getF 148 i307_145 rfl rfl (by decide) rfl rfl ?_
            refine X.sipush 151 i307_148 rfl rfl (by decide) ?_
            refine X.iload 153 i307_151 rfl rfl rfl ?_
            refine X.iadd 154 i307_153 rfl rfl (by omega) ?_
            refine X.lald 155 i307_154 rfl rfl (by decide) rfl (by omega) ?_
            refine X.lcmp 156 i307_155 rfl rfl (fun z611 hz611 => ?_)
            refine X.ifge 179 159 i307_156 rfl rfl rfl (fun h612 => ?_) (fun h612 => ?_)
            · have h612c : y9 ≥ (m 4 45 (287 + y4)) := by omega
              clear h612 hz611
              refine X.cut [(0, zr 4 44), (2, zi y2), (3, zi y3), (4, zi y4), (5, zl y5), (7, zi y7), (8, zi 86400), (9, zi y9)] i307_179 rfl ?_
              refine X.iinc 182 [(0, zr 4 44), (2, zi y2), (3, zi y3), (4, zi y4), (5, zl y5), (7, zi y7), (8, zi 86400), (9, zi (y9 + 1))] i307_179 rfl rfl rfl (by omega) rfl ?_
              refine X.goto 19 i307_182 rfl rfl ?_
              exact ih y5 y7 86400 (y9 + 1) (by omega) (by omega) (by omega) (by omega)
            · have h612c : y9 < (m 4 45 (287 + y4)) := by omega
              clear h612 hz611
              refine X.aload_n 160 i307_159 rfl rfl rfl ?_
              refine X.getF 163 i307_160 rfl rfl (by decide) rfl rfl ?_
              refine X.sipush 166 i307_163 rfl rfl (by decide) ?_
              refine X.bipush 168 i307_166 rfl rfl (by decide) ?_
              refine X.iload 170 i307_168 rfl rfl rfl ?_
              refine X.imul 171 i307_170 rfl rfl (by omega) ?_
              refine X.iadd 172 i307_171 rfl rfl (by omega) ?_
              refine X.iload 174 i307_172 rfl rfl rfl ?_
              refine X.iadd 175 i307_174 rfl rfl (by omega) ?_
              refine X.lald 176 i307_175 rfl rfl (by decide) rfl (by omega) ?_
              have h613 := r45_343 hJ 4 (i := ((343 + (6 * y4)) + y9)) (by omega)
              refine X.l2i 177 i307_176 rfl rfl (by omega) ?_
              refine X.istore 179 [(0, zr 4 44), (2, zi y2), (3, zi y3), (4, zi y4), (5, zl y5), (7, zi (m 4 45 ((343 + (6 * y4)) + y9))), (8, zi 86400), (9, zi y9), (10, zi 86400)] i307_177 rfl rfl rfl ?_
              refine X.cut [(0, zr 4 44), (2, zi y2), (3, zi y3), (4, zi y4), (5, zl y5), (7, zi (m 4 45 ((343 + (6 * y4)) + y9))), (8, zi 86400), (9, zi y9)] i307_179 rfl ?_
              refine X.iinc 182 [(0, zr 4 44), (2, zi y2), (3, zi y3), (4, zi y4), (5, zl y5), (7, zi (m 4 45 ((343 + (6 * y4)) + y9))), (8, zi 86400), (9, zi (y9 + 1))] i307_179 rfl rfl rfl (by omega) rfl ?_
              refine X.goto 19 i307_182 rfl rfl ?_
              exact ih y5 (m 4 45 ((343 + (6 * y4)) + y9)) 86400 (y9 + 1) (by omega) (by omega) (by omega) (by omega)
          · refine X.lload 117 i307_115 rfl rfl rfl ?_
            refine X.iload 119 i307_117 rfl rfl rfl ?_
            refine X.iload 121 i307_119 rfl rfl rfl ?_
            refine X.isub 122 i307_121 rfl rfl (by omega) ?_
            refine X.i2l 123 i307_122 rfl rfl ?_
            refine X.aload_n 124 i307_123 rfl rfl rfl ?_
            refine X.getF 127 i307_124 rfl rfl (by decide) rfl rfl ?_
            refine X.bipush 129 i307_127 rfl rfl (by decide) ?_
            refine X.iload 131 i307_129 rfl rfl rfl ?_
            refine X.iadd 132 i307_131 rfl rfl (by omega) ?_
            refine X.lald 133 i307_132 rfl rfl (by decide) rfl (by omega) ?_
            refine X.llF 134 .lmul (fun x y => x * y) i307_133 rfl rfl rfl (fun _ _ => rfl) (fun z614 hz614 => ?_)
            refine X.llF 135 .ladd (fun x y => x + y) i307_134 rfl rfl rfl (fun _ _ => rfl) (fun z615 hz615 => ?_)
            refine X.lstore 137 [(0, zr 4 44), (2, zi y2), (3, zi y3), (4, zi y4), (5, zl z615), (7, zi y7), (9, zi y9), (10, zi 86400), (11, zi y2), (12, zi y3)] i307_135 rfl rfl rfl ?_
            refine X.cut [(0, zr 4 44), (2, zi y2), (3, zi y3), (4, zi y4), (5, zl z615), (7, zi y7), (9, zi y9), (10, zi 86400)] i307_137 rfl ?_
            refine X.iload 139 i307_137 rfl rfl rfl ?_
            refine X.istore 141 [(0, zr 4 44), (2, zi y2), (3, zi y3), (4, zi y4), (5, zl z615), (7, zi y7), (8, zi 86400), (9, zi y9), (10, zi 86400)] i307_139 rfl rfl rfl ?_
            refine X.iload 143 i307_141 rfl rfl rfl ?_
            refine X.i2l 144 i307_143 rfl rfl ?_
            refine X.aload_n 145 i307_144 rfl rfl rfl ?_
            refine X.getF 148 i307_145 rfl rfl (by decide) rfl rfl ?_
            refine X.sipush 151 i307_148 rfl rfl (by decide) ?_
            refine X.iload 153 i307_151 rfl rfl rfl ?_
            refine X.iadd 154 i307_153 rfl rfl (by omega) ?_
            refine X.lald 155 i307_154 rfl rfl (by decide) rfl (by omega) ?_
            refine X.lcmp 156 i307_155 rfl rfl (fun z616 hz616 => ?_)
            refine X.ifge 179 159 i307_156 rfl rfl rfl (fun h617 => ?_) (fun h617 => ?_)
            · have h617c : y9 ≥ (m 4 45 (287 + y4)) := by omega
              clear h617 hz616
              refine X.cut [(0, zr 4 44), (2, zi y2), (3, zi y3), (4, zi y4), (5, zl z615), (7, zi y7), (8, zi 86400), (9, zi y9)] i307_179 rfl ?_
              refine X.iinc 182 [(0, zr 4 44), (2, zi y2), (3, zi y3), (4, zi y4), (5, zl z615), (7, zi y7), (8, zi 86400), (9, zi (y9 + 1))] i307_179 rfl rfl rfl (by omega) rfl ?_
              refine X.goto 19 i307_182 rfl rfl ?_
              exact ih z615 y7 86400 (y9 + 1) (by omega) (by omega) (by omega) (by omega)
            · have h617c : y9 < (m 4 45 (287 + y4)) := by omega
              clear h617 hz616
              refine X.aload_n 160 i307_159 rfl rfl rfl ?_
              refine X.getF 163 i307_160 rfl rfl (by decide) rfl rfl ?_
              refine X.sipush 166 i307_163 rfl rfl (by decide) ?_
              refine X.bipush 168 i307_166 rfl rfl (by decide) ?_
              refine X.iload 170 i307_168 rfl rfl rfl ?_
              refine X.imul 171 i307_170 rfl rfl (by omega) ?_
              refine X.iadd 172 i307_171 rfl rfl (by omega) ?_
              refine X.iload 174 i307_172 rfl rfl rfl ?_
              refine X.iadd 175 i307_174 rfl rfl (by omega) ?_
              refine X.lald 176 i307_175 rfl rfl (by decide) rfl (by omega) ?_
              have h618 := r45_343 hJ 4 (i := ((343 + (6 * y4)) + y9)) (by omega)
              refine X.l2i 177 i307_176 rfl rfl (by omega) ?_
              refine X.istore 179 [(0, zr 4 44), (2, zi y2), (3, zi y3), (4, zi y4), (5, zl z615), (7, zi (m 4 45 ((343 + (6 * y4)) + y9))), (8, zi 86400), (9, zi y9), (10, zi 86400)] i307_177 rfl rfl rfl ?_
              refine X.cut [(0, zr 4 44), (2, zi y2), (3, zi y3), (4, zi y4), (5, zl z615), (7, zi (m 4 45 ((343 + (6 * y4)) + y9))), (8, zi 86400), (9, zi y9)] i307_179 rfl ?_
              refine X.iinc 182 [(0, zr 4 44), (2, zi y2), (3, zi y3), (4, zi y4), (5, zl z615), (7, zi (m 4 45 ((343 + (6 * y4)) + y9))), (8, zi 86400), (9, zi (y9 + 1))] i307_179 rfl rfl rfl (by omega) rfl ?_
              refine X.goto 19 i307_182 rfl rfl ?_
              exact ih z615 (m 4 45 ((343 + (6 * y4)) + y9)) 86400 (y9 + 1) (by omega) (by omega) (by omega) (by omega)
        · refine X.iload 88 i307_86 rfl rfl rfl ?_
          refine X.goto 92 i307_88 rfl rfl ?_
          refine X.cut [(0, zr 4 44), (2, zi y2), (3, zi y3), (4, zi y4), (5, zl y5), (7, zi y7), (9, zi y9), (10, zi 86400)] i307_92 rfl ?_
          refine X.istore 94 [(0, zr 4 44), (2, zi y2), (3, zi y3), (4, zi y4), (5, zl y5), (7, zi y7), (9, zi y9), (10, zi 86400), (11, zi y8)] i307_92 rfl rfl rfl ?_
          refine X.iload 96 i307_94 rfl rfl rfl ?_
          refine X.iload_n 97 i307_96 rfl rfl rfl ?_
          refine X.icmpge 105 100 i307_97 rfl rfl rfl (fun h619 => ?_) (fun h619 => (by exfalso; omega))
          refine X.iload_n 106 i307_105 rfl rfl rfl ?_
          refine X.istore 108 [(0, zr 4 44), (2, zi y2), (3, zi y3), (4, zi y4), (5, zl y5), (7, zi y7), (9, zi y9), (10, zi 86400), (11, zi y8), (12, zi y3)] i307_106 rfl rfl rfl ?_
          refine X.iload 110 i307_108 rfl rfl rfl ?_
          refine X.iload 112 i307_110 rfl rfl rfl ?_
          refine X.icmple 137 115 i307_112 rfl rfl rfl (fun h620 => ?_) (fun h620 => ?_)
          · refine X.cut [(0, zr 4 44), (2, zi y2), (3, zi y3), (4, zi y4), (5, zl y5), (7, zi y7), (9, zi y9), (10, zi 86400)] i307_137 rfl ?_
            refine X.iload 139 i307_137 rfl rfl rfl ?_
            refine X.istore 141 [(0, zr 4 44), (2, zi y2), (3, zi y3), (4, zi y4), (5, zl y5), (7, zi y7), (8, zi 86400), (9, zi y9), (10, zi 86400)] i307_139 rfl rfl rfl ?_
            refine X.iload 143 i307_141 rfl rfl rfl ?_
            refine X.i2l 144 i307_143 rfl rfl ?_
            refine X.aload_n 145 i307_144 rfl rfl rfl ?_
            refine X.getF 148 i307_145 rfl rfl (by decide) rfl rfl ?_
            refine X.sipush 151 i307_148 rfl rfl (by decide) ?_
            refine X.iload 153 i307_151 rfl rfl rfl ?_
            refine X.iadd 154 i307_153 rfl rfl (by omega) ?_
            refine X.lald 155 i307_154 rfl rfl (by decide) rfl (by omega) ?_
            refine X.lcmp 156 i307_155 rfl rfl (fun z621 hz621 => ?_)
            refine X.ifge 179 159 i307_156 rfl rfl rfl (fun h622 => ?_) (fun h622 => ?_)
            · have h622c : y9 ≥ (m 4 45 (287 + y4)) := by omega
              clear h622 hz621
              refine X.cut [(0, zr 4 44), (2, zi y2), (3, zi y3), (4, zi y4), (5, zl y5), (7, zi y7), (8, zi 86400), (9, zi y9)] i307_179 rfl ?_
              refine X.iinc 182 [(0, zr 4 44), (2, zi y2), (3, zi y3), (4, zi y4), (5, zl y5), (7, zi y7), (8, zi 86400), (9, zi (y9 + 1))] i307_179 rfl rfl rfl (by omega) rfl ?_
              refine X.goto 19 i307_182 rfl rfl ?_
              exact ih y5 y7 86400 (y9 + 1) (by omega) (by omega) (by omega) (by omega)
            · have h622c : y9 < (m 4 45 (287 + y4)) := by omega
              clear h622 hz621
              refine X.aload_n 160 i307_159 rfl rfl rfl ?_
              refine X.getF 163 i307_160 rfl rfl (by decide) rfl rfl ?_
              refine X.sipush 166 i307_163 rfl rfl (by decide) ?_
              refine X.bipush 168 i307_166 rfl rfl (by decide) ?_
              refine X.iload 170 i307_168 rfl rfl rfl ?_
              refine X.imul 171 i307_170 rfl rfl (by omega) ?_
              refine X.iadd 172 i307_171 rfl rfl (by omega) ?_
              refine X.iload 174 i307_172 rfl rfl rfl ?_
              refine X.iadd 175 i307_174 rfl rfl (by omega) ?_
              refine X.lald 176 i307_175 rfl rfl (by decide) rfl (by omega) ?_
              have h623 := r45_343 hJ 4 (i := ((343 + (6 * y4)) + y9)) (by omega)
              refine X.l2i 177 i307_176 rfl rfl (by omega) ?_
              refine X.istore 179 [(0, zr 4 44), (2, zi y2), (3, zi y3), (4, zi y4), (5, zl y5), (7, zi (m 4 45 ((343 + (6 * y4)) + y9))), (8, zi 86400), (9, zi y9), (10, zi 86400)] i307_177 rfl rfl rfl ?_
              refine X.cut [(0, zr 4 44), (2, zi y2), (3, zi y3), (4, zi y4), (5, zl y5), (7, zi (m 4 45 ((343 + (6 * y4)) + y9))), (8, zi 86400), (9, zi y9)] i307_179 rfl ?_
              refine X.iinc 182 [(0, zr 4 44), (2, zi y2), (3, zi y3), (4, zi y4), (5, zl y5), (7, zi (m 4 45 ((343 + (6 * y4)) + y9))), (8, zi 86400), (9, zi (y9 + 1))] i307_179 rfl rfl rfl (by omega) rfl ?_
              refine X.goto 19 i307_182 rfl rfl ?_
              exact ih y5 (m 4 45 ((343 + (6 * y4)) + y9)) 86400 (y9 + 1) (by omega) (by omega) (by omega) (by omega)
          · refine X.lload 117 i307_115 rfl rfl rfl ?_
            refine X.iload 119 i307_117 rfl rfl rfl ?_
            refine X.iload 121 i307_119 rfl rfl rfl ?_
            refine X.isub 122 i307_121 rfl rfl (by omega) ?_
            refine X.i2l 123 i307_122 rfl rfl ?_
            refine X.aload_n 124 i307_123 rfl rfl rfl ?_
            refine X.getF 127 i307_124 rfl rfl (by decide) rfl rfl ?_
            refine X.bipush 129 i307_127 rfl rfl (by decide) ?_
            refine X.iload 131 i307_129 rfl rfl rfl ?_
            refine X.iadd 132 i307_131 rfl rfl (by omega) ?_
            refine X.lald 133 i307_132 rfl rfl (by decide) rfl (by omega) ?_
            refine X.llF 134 .lmul (fun x y => x * y) i307_133 rfl rfl rfl (fun _ _ => rfl) (fun z624 hz624 => ?_)
            refine X.llF 135 .ladd (fun x y => x + y) i307_134 rfl rfl rfl (fun _ _ => rfl) (fun z625 hz625 => ?_)
            refine X.lstore 137 [(0, zr 4 44), (2, zi y2), (3, zi y3), (4, zi y4), (5, zl z625), (7, zi y7), (9, zi y9), (10, zi 86400), (11, zi y8), (12, zi y3)] i307_135 rfl rfl rfl ?_
            refine X.cut [(0, zr 4 44), (2, zi y2), (3, zi y3), (4, zi y4), (5, zl z625), (7, zi y7), (9, zi y9), (10, zi 86400)] i307_137 rfl ?_
            refine X.iload 139 i307_137 rfl rfl rfl ?_
            refine X.istore 141 [(0, zr 4 44), (2, zi y2), (3, zi y3), (4, zi y4), (5, zl z625), (7, zi y7), (8, zi 86400), (9, zi y9), (10, zi 86400)] i307_139 rfl rfl rfl ?_
            refine X.iload 143 i307_141 rfl rfl rfl ?_
            refine X.i2l 144 i307_143 rfl rfl ?_
            refine X.aload_n 145 i307_144 rfl rfl rfl ?_
            refine X.getF 148 i307_145 rfl rfl (by decide) rfl rfl ?_
            refine X.sipush 151 i307_148 rfl rfl (by decide) ?_
            refine X.iload 153 i307_151 rfl rfl rfl ?_
            refine X.iadd 154 i307_153 rfl rfl (by omega) ?_
            refine X.lald 155 i307_154 rfl rfl (by decide) rfl (by omega) ?_
            refine X.lcmp 156 i307_155 rfl rfl (fun z626 hz626 => ?_)
            refine X.ifge 179 159 i307_156 rfl rfl rfl (fun h627 => ?_) (fun h627 => ?_)
            · have h627c : y9 ≥ (m 4 45 (287 + y4)) := by omega
              clear h627 hz626
              refine X.cut [(0, zr 4 44), (2, zi y2), (3, zi y3), (4, zi y4), (5, zl z625), (7, zi y7), (8, zi 86400), (9, zi y9)] i307_179 rfl ?_
              refine X.iinc 182 [(0, zr 4 44), (2, zi y2), (3, zi y3), (4, zi y4), (5, zl z625), (7, zi y7), (8, zi 86400), (9, zi (y9 + 1))] i307_179 rfl rfl rfl (by omega) rfl ?_
              refine X.goto 19 i307_182 rfl rfl ?_
              exact ih z625 y7 86400 (y9 + 1) (by omega) (by omega) (by omega) (by omega)
            · have h627c : y9 < (m 4 45 (287 + y4)) := by omega
              clear h627 hz626
              refine X.aload_n 160 i307_159 rfl rfl rfl ?_
              refine X.getF 163 i307_160 rfl rfl (by decide) rfl rfl ?_
              refine X.sipush 166 i307_163 rfl rfl (by decide) ?_
              refine X.bipush 168 i307_166 rfl rfl (by decide) ?_
              refine X.iload 170 i307_168 rfl rfl rfl ?_
              refine X.imul 171 i307_170 rfl rfl (by omega) ?_
              refine X.iadd 172 i307_171 rfl rfl (by omega) ?_
              refine X.iload 174 i307_172 rfl rfl rfl ?_
              refine X.iadd 175 i307_174 rfl rfl (by omega) ?_
              refine X.lald 176 i307_175 rfl rfl (by decide) rfl (by omega) ?_
              have h628 := r45_343 hJ 4 (i := ((343 + (6 * y4)) + y9)) (by omega)
              refine X.l2i 177 i307_176 rfl rfl (by omega) ?_
              refine X.istore 179 [(0, zr 4 44), (2, zi y2), (3, zi y3), (4, zi y4), (5, zl z625), (7, zi (m 4 45 ((343 + (6 * y4)) + y9))), (8, zi 86400), (9, zi y9), (10, zi 86400)] i307_177 rfl rfl rfl ?_
              refine X.cut [(0, zr 4 44), (2, zi y2), (3, zi y3), (4, zi y4), (5, zl z625), (7, zi (m 4 45 ((343 + (6 * y4)) + y9))), (8, zi 86400), (9, zi y9)] i307_179 rfl ?_
              refine X.iinc 182 [(0, zr 4 44), (2, zi y2), (3, zi y3), (4, zi y4), (5, zl z625), (7, zi (m 4 45 ((343 + (6 * y4)) + y9))), (8, zi 86400), (9, zi (y9 + 1))] i307_179 rfl rfl rfl (by omega) rfl ?_
              refine X.goto 19 i307_182 rfl rfl ?_
              exact ih z625 (m 4 45 ((343 + (6 * y4)) + y9)) 86400 (y9 + 1) (by omega) (by omega) (by omega) (by omega)
      · have h607c : y9 < (m 4 45 (287 + y4)) := by omega
        clear h607 hz606
        refine X.aload_n 56 i307_55 rfl rfl rfl ?_
        refine X.getF 59 i307_56 rfl rfl (by decide) rfl rfl ?_
        refine X.sipush 62 i307_59 rfl rfl (by decide) ?_
        refine X.bipush 64 i307_62 rfl rfl (by decide) ?_
        refine X.iload 66 i307_64 rfl rfl rfl ?_
        refine X.imul 67 i307_66 rfl rfl (by omega) ?_
        refine X.iadd 68 i307_67 rfl rfl (by omega) ?_
        refine X.iload 70 i307_68 rfl rfl rfl ?_
        refine X.iadd 71 i307_70 rfl rfl (by omega) ?_
        refine X.lald 72 i307_71 rfl rfl (by decide) rfl (by omega) ?_
        have h629 := r45_295 hJ 4 (i := ((295 + (6 * y4)) + y9)) (by omega)
        refine X.l2i 73 i307_72 rfl rfl (by omega) ?_
        refine X.goto 78 i307_73 rfl rfl ?_
        refine X.istore 80 [(0, zr 4 44), (2, zi y2), (3, zi y3), (4, zi y4), (5, zl y5), (7, zi y7), (8, zi y8), (9, zi y9), (10, zi (m 4 45 ((295 + (6 * y4)) + y9)))] i307_78 rfl rfl rfl ?_
        refine X.iload 82 i307_80 rfl rfl rfl ?_
        refine X.iload_n 83 i307_82 rfl rfl rfl ?_
        refine X.icmple 91 86 i307_83 rfl rfl rfl (fun h630 => ?_) (fun h630 => ?_)
        · refine X.cut [(0, zr 4 44), (2, zi y2), (3, zi y3), (4, zi y4), (5, zl y5), (7, zi y7), (9, zi y9), (10, zi (m 4 45 ((295 + (6 * y4)) + y9)))] i307_91 rfl ?_
          refine X.iload_n 92 i307_91 rfl rfl rfl ?_
          refine X.istore 94 [(0, zr 4 44), (2, zi y2), (3, zi y3), (4, zi y4), (5, zl y5), (7, zi y7), (9, zi y9), (10, zi (m 4 45 ((295 + (6 * y4)) + y9))), (11, zi y2)] i307_92 rfl rfl rfl ?_
          refine X.iload 96 i307_94 rfl rfl rfl ?_
          refine X.iload_n 97 i307_96 rfl rfl rfl ?_
          refine X.icmpge 105 100 i307_97 rfl rfl rfl (fun h631 => ?_) (fun h631 => ?_)
          · refine X.iload_n 106 i307_105 rfl rfl rfl ?_
            refine X.istore 108 [(0, zr 4 44), (2, zi y2), (3, zi y3), (4, zi y4), (5, zl y5), (7, zi y7), (9, zi y9), (10, zi (m 4 45 ((295 + (6 * y4)) + y9))), (11, zi y2), (12, zi y3)] i307_106 rfl rfl rfl ?_
            refine X.iload 110 i307_108 rfl rfl rfl ?_
            refine X.iload 112 i307_110 rfl rfl rfl ?_
            refine X.icmple 137 115 i307_112 rfl rfl rfl (fun h632 => ?_) (fun h632 => ?_)
            · refine X.cut [(0, zr 4 44), (2, zi y2), (3, zi y3), (4, zi y4), (5, zl y5), (7, zi y7), (9, zi y9), (10, zi (m 4 45 ((295 + (6 * y4)) + y9)))] i307_137 rfl ?_
              refine X.iload 139 i307_137 rfl rfl rfl ?_
              refine X.istore 141 [(0, zr 4 44), (2, zi y2), (3, zi y3), (4, zi y4), (5, zl y5), (7, zi y7), (8, zi (m 4 45 ((295 + (6 * y4)) + y9))), (9, zi y9), (10, zi (m 4 45 ((295 + (6 * y4)) + y9)))] i307_139 rfl rfl rfl ?_
              refine X.iload 143 i307_141 rfl rfl rfl ?_
              refine X.i2l 144 i307_143 rfl rfl ?_
              refine X.aload_n 145 i307_144 rfl rfl rfl ?_
              refine X.getF 148 i307_145 rfl rfl (by decide) rfl rfl ?_
              refine X.sipush 151 i307_148 rfl rfl (by decide) ?_
              refine X.iload 153 i307_151 rfl rfl rfl ?_
              refine X.iadd 154 i307_153 rfl rfl (by omega) ?_
              refine X.lald 155 i307_154 rfl rfl (by decide) rfl (by omega) ?_
              refine X.lcmp 156 i307_155 rfl rfl (fun z633 hz633 => ?_)
              refine X.ifge 179 159 i307_156 rfl rfl rfl (fun h634 => ?_) (fun h634 => ?_)
              · have h634c : y9 ≥ (m 4 45 (287 + y4)) := by omega
                clear h634 hz633
                refine X.cut [(0, zr 4 44), (2, zi y2), (3, zi y3), (4, zi y4), (5, zl y5), (7, zi y7), (8, zi (m 4 45 ((295 + (6 * y4)) + y9))), (9, zi y9)] i307_179 rfl ?_
                refine X.iinc 182 [(0, zr 4 44), (2, zi y2), (3, zi y3), (4, zi y4), (5, zl y5), (7, zi y7), (8, zi (m 4 45 ((295 + (6 * y4)) + y9))), (9, zi (y9 + 1))] i307_179 rfl rfl rfl (by omega) rfl ?_
                refine X.goto 19 i307_182 rfl rfl ?_
                exact ih y5 y7 (m 4 45 ((295 + (6 * y4)) + y9)) (y9 + 1) (by omega) (by omega) (by omega) (by omega)
              · have h634c : y9 < (m 4 45 (287 + y4)) := by omega
                clear h634 hz633
                refine X.aload_n 160 i307_159 rfl rfl rfl ?_
                refine X.getF 163 i307_160 rfl rfl (by decide) rfl rfl ?_
                refine X.sipush 166 i307_163 rfl rfl (by decide) ?_
                refine X.bipush 168 i307_166 rfl rfl (by decide) ?_
                refine X.iload 170 i307_168 rfl rfl rfl ?_
                refine X.imul 171 i307_170 rfl rfl (by omega) ?_
                refine X.iadd 172 i307_171 rfl rfl (by omega) ?_
                refine X.iload 174 i307_172 rfl rfl rfl ?_
                refine X.iadd 175 i307_174 rfl rfl (by omega) ?_
                refine X.lald 176 i307_175 rfl rfl (by decide) rfl (by omega) ?_
                have h635 := r45_343 hJ 4 (i := ((343 + (6 * y4)) + y9)) (by omega)
                refine X.l2i 177 i307_176 rfl rfl (by omega) ?_
                refine X.istore 179 [(0, zr 4 44), (2, zi y2), (3, zi y3), (4, zi y4), (5, zl y5), (7, zi (m 4 45 ((343 + (6 * y4)) + y9))), (8, zi (m 4 45 ((295 + (6 * y4)) + y9))), (9, zi y9), (10, zi (m 4 45 ((295 + (6 * y4)) + y9)))] i307_177 rfl rfl rfl ?_
                refine X.cut [(0, zr 4 44), (2, zi y2), (3, zi y3), (4, zi y4), (5, zl y5), (7, zi (m 4 45 ((343 + (6 * y4)) + y9))), (8, zi (m 4 45 ((295 + (6 * y4)) + y9))), (9, zi y9)] i307_179 rfl ?_
                refine X.iinc 182 [(0, zr 4 44), (2, zi y2), (3, zi y3), (4, zi y4), (5, zl y5), (7, zi (m 4 45 ((343 + (6 * y4)) + y9))), (8, zi (m 4 45 ((295 + (6 * y4)) + y9))), (9, zi (y9 + 1))] i307_179 rfl rfl rfl (by omega) rfl ?_
                refine X.goto 19 i307_182 rfl rfl ?_
                exact ih y5 (m 4 45 ((343 + (6 * y4)) + y9)) (m 4 45 ((295 + (6 * y4)) + y9)) (y9 + 1) (by omega) (by omega) (by omega) (by omega)
            · refine X.lload 117 i307_115 rfl rfl rfl ?_
              refine X.iload 119 i307_117 rfl rfl rfl ?_
              refine X.iload 121 i307_119 rfl rfl rfl ?_
              refine X.isub 122 i307_121 rfl rfl (by omega) ?_
              refine X.i2l 123 i307_122 rfl rfl ?_
              refine X.aload_n 124 i307_123 rfl rfl rfl ?_
              refine X.getF 127 i307_124 rfl rfl (by decide) rfl rfl ?_
              refine X.bipush 129 i307_127 rfl rfl (by decide) ?_
              refine X.iload 131 i307_129 rfl rfl rfl ?_
              refine X.iadd 132 i307_131 rfl rfl (by omega) ?_
              refine X.lald 133 i307_132 rfl rfl (by decide) rfl (by omega) ?_
              refine X.llF 134 .lmul (fun x y => x * y) i307_133 rfl rfl rfl (fun _ _ => rfl) (fun z636 hz636 => ?_)
              refine X.llF 135 .ladd (fun x y => x + y) i307_134 rfl rfl rfl (fun _ _ => rfl) (fun z637 hz637 => ?_)
              refine X.lstore 137 [(0, zr 4 44), (2, zi y2), (3, zi y3), (4, zi y4), (5, zl z637), (7, zi y7), (9, zi y9), (10, zi (m 4 45 ((295 + (6 * y4)) + y9))), (11, zi y2), (12, zi y3)] i307_135 rfl rfl rfl ?_
              refine X.cut [(0, zr 4 44), (2, zi y2), (3, zi y3), (4, zi y4), (5, zl z637), (7, zi y7), (9, zi y9), (10, zi (m 4 45 ((295 + (6 * y4)) + y9)))] i307_137 rfl ?_
              refine X.iload 139 i307_137 rfl rfl rfl ?_
              refine X.istore 141 [(0, zr 4 44), (2, zi y2), (3, zi y3), (4, zi y4), (5, zl z637), (7, zi y7), (8, zi (m 4 45 ((295 + (6 * y4)) + y9))), (9, zi y9), (10, zi (m 4 45 ((295 + (6 * y4)) + y9)))] i307_139 rfl rfl rfl ?_
              refine X.iload 143 i307_141 rfl rfl rfl ?_
              refine X.i2l 144 i307_143 rfl rfl ?_
              refine X.aload_n 145 i307_144 rfl rfl rfl ?_
              refine X.getF 148 i307_145 rfl rfl (by decide) rfl rfl ?_
              refine X.sipush 151 i307_148 rfl rfl (by decide) ?_
              refine X.iload 153 i307_151 rfl rfl rfl ?_
              refine X.iadd 154 i307_153 rfl rfl (by omega) ?_
              refine X.lald 155 i307_154 rfl rfl (by decide) rfl (by omega) ?_
              refine X.lcmp 156 i307_155 rfl rfl (fun z638 hz638 => ?_)
              refine X.ifge 179 159 i307_156 rfl rfl rfl (fun h639 => ?_) (fun h639 => ?_)
              · have h639c : y9 ≥ (m 4 45 (287 + y4)) := by omega
                clear h639 hz638
                refine X.cut [(0, zr 4 44), (2, zi y2), (3, zi y3), (4, zi y4), (5, zl z637), (7, zi y7), (8, zi (m 4 45 ((295 + (6 * y4)) + y9))), (9, zi y9)] i307_179 rfl ?_
                refine X.iinc 182 [(0, zr 4 44), (2, zi y2), (3, zi y3), (4, zi y4), (5, zl z637), (7, zi y7), (8, zi (m 4 45 ((295 + (6 * y4)) + y9))), (9, zi (y9 + 1))] i307_179 rfl rfl rfl (by omega) rfl ?_
                refine X.goto 19 i307_182 rfl rfl ?_
                exact ih z637 y7 (m 4 45 ((295 + (6 * y4)) + y9)) (y9 + 1) (by omega) (by omega) (by omega) (by omega)
              · have h639c : y9 < (m 4 45 (287 + y4)) := by omega
                clear h639 hz638
                refine X.aload_n 160 i307_159 rfl rfl rfl ?_
                refine X.getF 163 i307_160 rfl rfl (by decide) rfl rfl ?_
                refine X.sipush 166 i307_163 rfl rfl (by decide) ?_
                refine X.bipush 168 i307_166 rfl rfl (by decide) ?_
                refine X.iload 170 i307_168 rfl rfl rfl ?_
                refine X.imul 171 i307_170 rfl rfl (by omega) ?_
                refine X.iadd 172 i307_171 rfl rfl (by omega) ?_
                refine X.iload 174 i307_172 rfl rfl rfl ?_
                refine X.iadd 175 i307_174 rfl rfl (by omega) ?_
                refine X.lald 176 i307_175 rfl rfl (by decide) rfl (by omega) ?_
                have h640 := r45_343 hJ 4 (i := ((343 + (6 * y4)) + y9)) (by omega)
                refine X.l2i 177 i307_176 rfl rfl (by omega) ?_
                refine X.istore 179 [(0, zr 4 44), (2, zi y2), (3, zi y3), (4, zi y4), (5, zl z637), (7, zi (m 4 45 ((343 + (6 * y4)) + y9))), (8, zi (m 4 45 ((295 + (6 * y4)) + y9))), (9, zi y9), (10, zi (m 4 45 ((295 + (6 * y4)) + y9)))] i307_177 rfl rfl rfl ?_
                refine X.cut [(0, zr 4 44), (2, zi y2), (3, zi y3), (4, zi y4), (5, zl z637), (7, zi (m 4 45 ((343 + (6 * y4)) + y9))), (8, zi (m 4 45 ((295 + (6 * y4)) + y9))), (9, zi y9)] i307_179 rfl ?_
                refine X.iinc 182 [(0, zr 4 44), (2, zi y2), (3, zi y3), (4, zi y4), (5, zl z637), (7, zi (m 4 45 ((343 + (6 * y4)) + y9))), (8, zi (m 4 45 ((295 + (6 * y4)) + y9))), (9, zi (y9 + 1))] i307_179 rfl rfl rfl (by omega) rfl ?_
                refine X.goto 19 i307_182 rfl rfl ?_
                exact ih z637 (m 4 45 ((343 + (6 * y4)) + y9)) (m 4 45 ((295 + (6 * y4)) + y9)) (y9 + 1) (by omega) (by omega) (by omega) (by omega)
          · refine X.iload 102 i307_100 rfl rfl rfl ?_
            refine X.goto 106 i307_102 rfl rfl ?_
            refine X.istore 108 [(0, zr 4 44), (2, zi y2), (3, zi y3), (4, zi y4), (5, zl y5), (7, zi y7), (9, zi y9), (10, zi (m 4 45 ((295 + (6 * y4)) + y9))), (11, zi y2), (12, zi (m 4 45 ((295 + (6 * y4)) + y9)))] i307_106 rfl rfl rfl ?_
            refine X.iload 110 i307_108 rfl rfl rfl ?_
            refine X.iload 112 i307_110 rfl rfl rfl ?_
            refine X.icmple 137 115 i307_112 rfl rfl rfl (fun h641 => ?_) (fun h641 => ?_)
            · refine X.cut [(0, zr 4 44), (2, zi y2), (3, zi y3), (4, zi y4), (5, zl y5), (7, zi y7), (9, zi y9), (10, zi (m 4 45 ((295 + (6 * y4)) + y9)))] i307_137 rfl ?_
              refine X.iload 139 i307_137 rfl rfl rfl ?_
              refine X.istore 141 [(0, zr 4 44), (2, zi y2), (3, zi y3), (4, zi y4), (5, zl y5), (7, zi y7), (8, zi (m 4 45 ((295 + (6 * y4)) + y9))), (9, zi y9), (10, zi (m 4 45 ((295 + (6 * y4)) + y9)))] i307_139 rfl rfl rfl ?_
              refine X.iload 143 i307_141 rfl rfl rfl ?_
              refine X.i2l 144 i307_143 rfl rfl ?_
              refine X.aload_n 145 i307_144 rfl rfl rfl ?_
              refine X.getF 148 i307_145 rfl rfl (by decide) rfl rfl ?_
              refine X.sipush 151 i307_148 rfl rfl (by decide) ?_
              refine X.iload 153 i307_151 rfl rfl rfl ?_
              refine X.iadd 154 i307_153 rfl rfl (by omega) ?_
              refine X.lald 155 i307_154 rfl rfl (by decide) rfl (by omega) ?_
              refine X.lcmp 156 i307_155 rfl rfl (fun z642 hz642 => ?_)
              refine X.ifge 179 159 i307_156 rfl rfl rfl (fun h643 => ?_) (fun h643 => ?_)
              · have h643c : y9 ≥ (m 4 45 (287 + y4)) := by omega
                clear h643 hz642
                refine X.cut [(0, zr 4 44), (2, zi y2), (3, zi y3), (4, zi y4), (5, zl y5), (7, zi y7), (8, zi (m 4 45 ((295 + (6 * y4)) + y9))), (9, zi y9)] i307_179 rfl ?_
                refine X.iinc 182 [(0, zr 4 44), (2, zi y2), (3, zi y3), (4, zi y4), (5, zl y5), (7, zi y7), (8, zi (m 4 45 ((295 + (6 * y4)) + y9))), (9, zi (y9 + 1))] i307_179 rfl rfl rfl (by omega) rfl ?_
                refine X.goto 19 i307_182 rfl rfl ?_
                exact ih y5 y7 (m 4 45 ((295 + (6 * y4)) + y9)) (y9 + 1) (by omega) (by omega) (by omega) (by omega)
              · have h643c : y9 < (m 4 45 (287 + y4)) := by omega
                clear h643 hz642
                refine X.aload_n 160 i307_159 rfl rfl rfl ?_
                refine X.getF 163 i307_160 rfl rfl (by decide) rfl rfl ?_
                refine X.sipush 166 i307_163 rfl rfl (by decide) ?_
                refine X.bipush 168 i307_166 rfl rfl (by decide) ?_
                refine X.iload 170 i307_168 rfl rfl rfl ?_
                refine X.imul 171 i307_170 rfl rfl (by omega) ?_
                refine X.iadd 172 i307_171 rfl rfl (by omega) ?_
                refine X.iload 174 i307_172 rfl rfl rfl ?_
                refine X.iadd 175 i307_174 rfl rfl (by omega) ?_
                refine X.lald 176 i307_175 rfl rfl (by decide) rfl (by omega) ?_
                have h644 := r45_343 hJ 4 (i := ((343 + (6 * y4)) + y9)) (by omega)
                refine X.l2i 177 i307_176 rfl rfl (by omega) ?_
                refine X.istore 179 [(0, zr 4 44), (2, zi y2), (3, zi y3), (4, zi y4), (5, zl y5), (7, zi (m 4 45 ((343 + (6 * y4)) + y9))), (8, zi (m 4 45 ((295 + (6 * y4)) + y9))), (9, zi y9), (10, zi (m 4 45 ((295 + (6 * y4)) + y9)))] i307_177 rfl rfl rfl ?_
                refine X.cut [(0, zr 4 44), (2, zi y2), (3, zi y3), (4, zi y4), (5, zl y5), (7, zi (m 4 45 ((343 + (6 * y4)) + y9))), (8, zi (m 4 45 ((295 + (6 * y4)) + y9))), (9, zi y9)] i307_179 rfl ?_
                refine X.iinc 182 [(0, zr 4 44), (2, zi y2), (3, zi y3), (4, zi y4), (5, zl y5), (7, zi (m 4 45 ((343 + (6 * y4)) + y9))), (8, zi (m 4 45 ((295 + (6 * y4)) + y9))), (9, zi (y9 + 1))] i307_179 rfl rfl rfl (by omega) rfl ?_
                refine X.goto 19 i307_182 rfl rfl ?_
                exact ih y5 (m 4 45 ((343 + (6 * y4)) + y9)) (m 4 45 ((295 + (6 * y4)) + y9)) (y9 + 1) (by omega) (by omega) (by omega) (by omega)
            · refine X.lload 117 i307_115 rfl rfl rfl ?_
              refine X.iload 119 i307_117 rfl rfl rfl ?_
              refine X.iload 121 i307_119 rfl rfl rfl ?_
              refine X.isub 122 i307_121 rfl rfl (by omega) ?_
              refine X.i2l 123 i307_122 rfl rfl ?_
              refine X.aload_n 124 i307_123 rfl rfl rfl ?_
              refine X.getF 127 i307_124 rfl rfl (by decide) rfl rfl ?_
              refine X.bipush 129 i307_127 rfl rfl (by decide) ?_
              refine X.iload 131 i307_129 rfl rfl rfl ?_
              refine X.iadd 132 i307_131 rfl rfl (by omega) ?_
              refine X.lald 133 i307_132 rfl rfl (by decide) rfl (by omega) ?_
              refine X.llF 134 .lmul (fun x y => x * y) i307_133 rfl rfl rfl (fun _ _ => rfl) (fun z645 hz645 => ?_)
              refine X.llF 135 .ladd (fun x y => x + y) i307_134 rfl rfl rfl (fun _ _ => rfl) (fun z646 hz646 => ?_)
              refine X.lstore 137 [(0, zr 4 44), (2, zi y2), (3, zi y3), (4, zi y4), (5, zl z646), (7, zi y7), (9, zi y9), (10, zi (m 4 45 ((295 + (6 * y4)) + y9))), (11, zi y2), (12, zi (m 4 45 ((295 + (6 * y4)) + y9)))] i307_135 rfl rfl rfl ?_
              refine X.cut [(0, zr 4 44), (2, zi y2), (3, zi y3), (4, zi y4), (5, zl z646), (7, zi y7), (9, zi y9), (10, zi (m 4 45 ((295 + (6 * y4)) + y9)))] i307_137 rfl ?_
              refine X.iload 139 i307_137 rfl rfl rfl ?_
              refine X.istore 141 [(0, zr 4 44), (2, zi y2), (3, zi y3), (4, zi y4), (5, zl z646), (7, zi y7), (8, zi (m 4 45 ((295 + (6 * y4)) + y9))), (9, zi y9), (10, zi (m 4 45 ((295 + (6 * y4)) + y9)))] i307_139 rfl rfl rfl ?_
              refine X.iload 143 i307_141 rfl rfl rfl ?_
              refine X.i2l 144 i307_143 rfl rfl ?_
              refine X.aload_n 145 i307_144 rfl rfl rfl ?_
              refine X.getF 148 i307_145 rfl rfl (by decide) rfl rfl ?_
              refine X.sipush 151 i307_148 rfl rfl (by decide) ?_
              refine X.iload 153 i307_151 rfl rfl rfl ?_
              refine X.iadd 154 i307_153 rfl rfl (by omega) ?_
              refine X.lald 155 i307_154 rfl rfl (by decide) rfl (by omega) ?_
              refine X.lcmp 156 i307_155 rfl rfl (fun z647 hz647 => ?_)
              refine X.ifge 179 159 i307_156 rfl rfl rfl (fun h648 => ?_) (fun h648 => ?_)
              · have h648c : y9 ≥ (m 4 45 (287 + y4)) := by omega
                clear h648 hz647
                refine X.cut [(0, zr 4 44), (2, zi y2), (3, zi y3), (4, zi y4), (5, zl z646), (7, zi y7), (8, zi (m 4 45 ((295 + (6 * y4)) + y9))), (9, zi y9)] i307_179 rfl ?_
                refine X.iinc 182 [(0, zr 4 44), (2, zi y2), (3, zi y3), (4, zi y4), (5, zl z646), (7, zi y7), (8, zi (m 4 45 ((295 + (6 * y4)) + y9))), (9, zi (y9 + 1))] i307_179 rfl rfl rfl (by omega) rfl ?_
                refine X.goto 19 i307_182 rfl rfl ?_
                exact ih z646 y7 (m 4 45 ((295 + (6 * y4)) + y9)) (y9 + 1) (by omega) (by omega) (by omega) (by omega)
              · have h648c : y9 < (m 4 45 (287 + y4)) := by omega
                clear h648 hz647
                refine X.aload_n 160 i307_159 rfl rfl rfl ?_
                refine X.getF 163 i307_160 rfl rfl (by decide) rfl rfl ?_
                refine X.sipush 166 i307_163 rfl rfl (by decide) ?_
                refine X.bipush 168 i307_166 rfl rfl (by decide) ?_
                refine X.iload 170 i307_168 rfl rfl rfl ?_
                refine X.imul 171 i307_170 rfl rfl (by omega) ?_
                refine X.iadd 172 i307_171 rfl rfl (by omega) ?_
                refine X.iload 174 i307_172 rfl rfl rfl ?_
                refine X.iadd 175 i307_174 rfl rfl (by omega) ?_
                refine X.lald 176 i307_175 rfl rfl (by decide) rfl (by omega) ?_
                have h649 := r45_343 hJ 4 (i := ((343 + (6 * y4)) + y9)) (by omega)
                refine X.l2i 177 i307_176 rfl rfl (by omega) ?_
                refine X.istore 179 [(0, zr 4 44), (2, zi y2), (3, zi y3), (4, zi y4), (5, zl z646), (7, zi (m 4 45 ((343 + (6 * y4)) + y9))), (8, zi (m 4 45 ((295 + (6 * y4)) + y9))), (9, zi y9), (10, zi (m 4 45 ((295 + (6 * y4)) + y9)))] i307_177 rfl rfl rfl ?_
                refine X.cut [(0, zr 4 44), (2, zi y2), (3, zi y3), (4, zi y4), (5, zl z646), (7, zi (m 4 45 ((343 + (6 * y4)) + y9))), (8, zi (m 4 45 ((295 + (6 * y4)) + y9))), (9, zi y9)] i307_179 rfl ?_
                refine X.iinc 182 [(0, zr 4 44), (2, zi y2), (3, zi y3), (4, zi y4), (5, zl z646), (7, zi (m 4 45 ((343 + (6 * y4)) + y9))), (8, zi (m 4 45 ((295 + (6 * y4)) + y9))), (9, zi (y9 + 1))] i307_179 rfl rfl rfl (by omega) rfl ?_
                refine X.goto 19 i307_182 rfl rfl ?_
                exact ih z646 (m 4 45 ((343 + (6 * y4)) + y9)) (m 4 45 ((295 + (6 * y4)) + y9)) (y9 + 1) (by omega) (by omega) (by omega) (by omega)
        · refine X.iload 88 i307_86 rfl rfl rfl ?_
          refine X.goto 92 i307_88 rfl rfl ?_
          refine X.cut [(0, zr 4 44), (2, zi y2), (3, zi y3), (4, zi y4), (5, zl y5), (7, zi y7), (9, zi y9), (10, zi (m 4 45 ((295 + (6 * y4)) + y9)))] i307_92 rfl ?_
          refine X.istore 94 [(0, zr 4 44), (2, zi y2), (3, zi y3), (4, zi y4), (5, zl y5), (7, zi y7), (9, zi y9), (10, zi (m 4 45 ((295 + (6 * y4)) + y9))), (11, zi y8)] i307_92 rfl rfl rfl ?_
          refine X.iload 96 i307_94 rfl rfl rfl ?_
          refine X.iload_n 97 i307_96 rfl rfl rfl ?_
          refine X.icmpge 105 100 i307_97 rfl rfl rfl (fun h650 => ?_) (fun h650 => ?_)
          · refine X.iload_n 106 i307_105 rfl rfl rfl ?_
            refine X.istore 108 [(0, zr 4 44), (2, zi y2), (3, zi y3), (4, zi y4), (5, zl y5), (7, zi y7), (9, zi y9), (10, zi (m 4 45 ((295 + (6 * y4)) + y9))), (11, zi y8), (12, zi y3)] i307_106 rfl rfl rfl ?_
            refine X.iload 110 i307_108 rfl rfl rfl ?_
            refine X.iload 112 i307_110 rfl rfl rfl ?_
            refine X.icmple 137 115 i307_112 rfl rfl rfl (fun h651 => ?_) (fun h651 => ?_)
            · refine X.cut [(0, zr 4 44), (2, zi y2), (3, zi y3), (4, zi y4), (5, zl y5), (7, zi y7), (9, zi y9), (10, zi (m 4 45 ((295 + (6 * y4)) + y9)))] i307_137 rfl ?_
              refine X.iload 139 i307_137 rfl rfl rfl ?_
              refine X.istore 141 [(0, zr 4 44), (2, zi y2), (3, zi y3), (4, zi y4), (5, zl y5), (7, zi y7), (8, zi (m 4 45 ((295 + (6 * y4)) + y9))), (9, zi y9), (10, zi (m 4 45 ((295 + (6 * y4)) + y9)))] i307_139 rfl rfl rfl ?_
              refine X.iload 143 i307_141 rfl rfl rfl ?_
              refine X.i2l 144 i307_143 rfl rfl ?_
              refine X.aload_n 145 i307_144 rfl rfl rfl ?_
              refine X.getF 148 i307_145 rfl rfl (by decide) rfl rfl ?_
              refine X.sipush 151 i307_148 rfl rfl (by decide) ?_
              refine X.iload 153 i307_151 rfl rfl rfl ?_
              refine X.iadd 154 i307_153 rfl rfl (by omega) ?_
              refine X.lald 155 i307_154 rfl rfl (by decide) rfl (by omega) ?_
              refine X.lcmp 156 i307_155 rfl rfl (fun z652 hz652 => ?_)
              refine X.ifge 179 159 i307_156 rfl rfl rfl (fun h653 => ?_) (fun h653 => ?_)
              · have h653c : y9 ≥ (m 4 45 (287 + y4)) := by omega
                clear h653 hz652
                refine X.cut [(0, zr 4 44), (2, zi y2), (3, zi y3), (4, zi y4), (5, zl y5), (7, zi y7), (8, zi (m 4 45 ((295 + (6 * y4)) + y9))), (9, zi y9)] i307_179 rfl ?_
                refine X.iinc 182 [(0, zr 4 44), (2, zi y2), (3, zi y3), (4, zi y4), (5, zl y5), (7, zi y7), (8, zi (m 4 45 ((295 + (6 * y4)) + y9))), (9, zi (y9 + 1))] i307_179 rfl rfl rfl (by omega) rfl ?_
                refine X.goto 19 i307_182 rfl rfl ?_
                exact ih y5 y7 (m 4 45 ((295 + (6 * y4)) + y9)) (y9 + 1) (by omega) (by omega) (by omega) (by omega)
              · have h653c : y9 < (m 4 45 (287 + y4)) := by omega
                clear h653 hz652
                refine X.aload_n 160 i307_159 rfl rfl rfl ?_
                refine X.getF 163 i307_160 rfl rfl (by decide) rfl rfl ?_
                refine X.sipush 166 i307_163 rfl rfl (by decide) ?_
                refine X.bipush 168 i307_166 rfl rfl (by decide) ?_
                refine X.iload 170 i307_168 rfl rfl rfl ?_
                refine X.imul 171 i307_170 rfl rfl (by omega) ?_
                refine X.iadd 172 i307_171 rfl rfl (by omega) ?_
                refine X.iload 174 i307_172 rfl rfl rfl ?_
                refine X.iadd 175 i307_174 rfl rfl (by omega) ?_
                refine X.lald 176 i307_175 rfl rfl (by decide) rfl (by omega) ?_
                have h654 := r45_343 hJ 4 (i := ((343 + (6 * y4)) + y9)) (by omega)
                refine X.l2i 177 i307_176 rfl rfl (by omega) ?_
                refine X.istore 179 [(0, zr 4 44), (2, zi y2), (3, zi y3), (4, zi y4), (5, zl y5), (7, zi (m 4 45 ((343 + (6 * y4)) + y9))), (8, zi (m 4 45 ((295 + (6 * y4)) + y9))), (9, zi y9), (10, zi (m 4 45 ((295 + (6 * y4)) + y9)))] i307_177 rfl rfl rfl ?_
                refine X.cut [(0, zr 4 44), (2, zi y2), (3, zi y3), (4, zi y4), (5, zl y5), (7, zi (m 4 45 ((343 + (6 * y4)) + y9))), (8, zi (m 4 45 ((295 + (6 * y4)) + y9))), (9, zi y9)] i307_179 rfl ?_
                refine X.iinc 182 [(0, zr 4 44), (2, zi y2), (3, zi y3), (4, zi y4), (5, zl y5), (7, zi (m 4 45 ((343 + (6 * y4)) + y9))), (8, zi (m 4 45 ((295 + (6 * y4)) + y9))), (9, zi (y9 + 1))] i307_179 rfl rfl rfl (by omega) rfl ?_
                refine X.goto 19 i307_182 rfl rfl ?_
                exact ih y5 (m 4 45 ((343 + (6 * y4)) + y9)) (m 4 45 ((295 + (6 * y4)) + y9)) (y9 + 1) (by omega) (by omega) (by omega) (by omega)
            · refine X.lload 117 i307_115 rfl rfl rfl ?_
              refine X.iload 119 i307_117 rfl rfl rfl ?_
              refine X.iload 121 i307_119 rfl rfl rfl ?_
              refine X.isub 122 i307_121 rfl rfl (by omega) ?_
              refine X.i2l 123 i307_122 rfl rfl ?_
              refine X.aload_n 124 i307_123 rfl rfl rfl ?_
              refine X.getF 127 i307_124 rfl rfl (by decide) rfl rfl ?_
              refine X.bipush 129 i307_127 rfl rfl (by decide) ?_
              refine X.iload 131 i307_129 rfl rfl rfl ?_
              refine X.iadd 132 i307_131 rfl rfl (by omega) ?_
              refine X.lald 133 i307_132 rfl rfl (by decide) rfl (by omega) ?_
              refine X.llF 134 .lmul (fun x y => x * y) i307_133 rfl rfl rfl (fun _ _ => rfl) (fun z655 hz655 => ?_)
              refine X.llF 135 .ladd (fun x y => x + y) i307_134 rfl rfl rfl (fun _ _ => rfl) (fun z656 hz656 => ?_)
              refine X.lstore 137 [(0, zr 4 44), (2, zi y2), (3, zi y3), (4, zi y4), (5, zl z656), (7, zi y7), (9, zi y9), (10, zi (m 4 45 ((295 + (6 * y4)) + y9))), (11, zi y8), (12, zi y3)] i307_135 rfl rfl rfl ?_
              refine X.cut [(0, zr 4 44), (2, zi y2), (3, zi y3), (4, zi y4), (5, zl z656), (7, zi y7), (9, zi y9), (10, zi (m 4 45 ((295 + (6 * y4)) + y9)))] i307_137 rfl ?_
              refine X.iload 139 i307_137 rfl rfl rfl ?_
              refine X.istore 141 [(0, zr 4 44), (2, zi y2), (3, zi y3), (4, zi y4), (5, zl z656), (7, zi y7), (8, zi (m 4 45 ((295 + (6 * y4)) + y9))), (9, zi y9), (10, zi (m 4 45 ((295 + (6 * y4)) + y9)))] i307_139 rfl rfl rfl ?_
              refine X.iload 143 i307_141 rfl rfl rfl ?_
              refine X.i2l 144 i307_143 rfl rfl ?_
              refine X.aload_n 145 i307_144 rfl rfl rfl ?_
              refine X.getF 148 i307_145 rfl rfl (by decide) rfl rfl ?_
              refine X.sipush 151 i307_148 rfl rfl (by decide) ?_
              refine X.iload 153 i307_151 rfl rfl rfl ?_
              refine X.iadd 154 i307_153 rfl rfl (by omega) ?_
              refine X.lald 155 i307_154 rfl rfl (by decide) rfl (by omega) ?_
              refine X.lcmp 156 i307_155 rfl rfl (fun z657 hz657 => ?_)
              refine X.ifge 179 159 i307_156 rfl rfl rfl (fun h658 => ?_) (fun h658 => ?_)
              · have h658c : y9 ≥ (m 4 45 (287 + y4)) := by omega
                clear h658 hz657
                refine X.cut [(0, zr 4 44), (2, zi y2), (3, zi y3), (4, zi y4), (5, zl z656), (7, zi y7), (8, zi (m 4 45 ((295 + (6 * y4)) + y9))), (9, zi y9)] i307_179 rfl ?_
                refine X.iinc 182 [(0, zr 4 44), (2, zi y2), (3, zi y3), (4, zi y4), (5, zl z656), (7, zi y7), (8, zi (m 4 45 ((295 + (6 * y4)) + y9))), (9, zi (y9 + 1))] i307_179 rfl rfl rfl (by omega) rfl ?_
                refine X.goto 19 i307_182 rfl rfl ?_
                exact ih z656 y7 (m 4 45 ((295 + (6 * y4)) + y9)) (y9 + 1) (by omega) (by omega) (by omega) (by omega)
              · have h658c : y9 < (m 4 45 (287 + y4)) := by omega
                clear h658 hz657
                refine X.aload_n 160 i307_159 rfl rfl rfl ?_
                refine X.getF 163 i307_160 rfl rfl (by decide) rfl rfl ?_
                refine X.sipush 166 i307_163 rfl rfl (by decide) ?_
                refine X.bipush 168 i307_166 rfl rfl (by decide) ?_
                refine X.iload 170 i307_168 rfl rfl rfl ?_
                refine X.imul 171 i307_170 rfl rfl (by omega) ?_
                refine X.iadd 172 i307_171 rfl rfl (by omega) ?_
                refine X.iload 174 i307_172 rfl rfl rfl ?_
                refine X.iadd 175 i307_174 rfl rfl (by omega) ?_
                refine X.lald 176 i307_175 rfl rfl (by decide) rfl (by omega) ?_
                have h659 := r45_343 hJ 4 (i := ((343 + (6 * y4)) + y9)) (by omega)
                refine X.l2i 177 i307_176 rfl rfl (by omega) ?_
                refine X.istore 179 [(0, zr 4 44), (2, zi y2), (3, zi y3), (4, zi y4), (5, zl z656), (7, zi (m 4 45 ((343 + (6 * y4)) + y9))), (8, zi (m 4 45 ((295 + (6 * y4)) + y9))), (9, zi y9), (10, zi (m 4 45 ((295 + (6 * y4)) + y9)))] i307_177 rfl rfl rfl ?_
                refine X.cut [(0, zr 4 44), (2, zi y2), (3, zi y3), (4, zi y4), (5, zl z656), (7, zi (m 4 45 ((343 + (6 * y4)) + y9))), (8, zi (m 4 45 ((295 + (6 * y4)) + y9))), (9, zi y9)] i307_179 rfl ?_
                refine X.iinc 182 [(0, zr 4 44), (2, zi y2), (3, zi y3), (4, zi y4), (5, zl z656), (7, zi (m 4 45 ((343 + (6 * y4)) + y9))), (8, zi (m 4 45 ((295 + (6 * y4)) + y9))), (9, zi (y9 + 1))] i307_179 rfl rfl rfl (by omega) rfl ?_
                refine X.goto 19 i307_182 rfl rfl ?_
                exact ih z656 (m 4 45 ((343 + (6 * y4)) + y9)) (m 4 45 ((295 + (6 * y4)) + y9)) (y9 + 1) (by omega) (by omega) (by omega) (by omega)
          · refine X.iload 102 i307_100 rfl rfl rfl ?_
            refine X.goto 106 i307_102 rfl rfl ?_
            refine X.istore 108 [(0, zr 4 44), (2, zi y2), (3, zi y3), (4, zi y4), (5, zl y5), (7, zi y7), (9, zi y9), (10, zi (m 4 45 ((295 + (6 * y4)) + y9))), (11, zi y8), (12, zi (m 4 45 ((295 + (6 * y4)) + y9)))] i307_106 rfl rfl rfl ?_
            refine X.iload 110 i307_108 rfl rfl rfl ?_
            refine X.iload 112 i307_110 rfl rfl rfl ?_
            refine X.icmple 137 115 i307_112 rfl rfl rfl (fun h660 => ?_) (fun h660 => ?_)
            · refine X.cut [(0, zr 4 44), (2, zi y2), (3, zi y3), (4, zi y4), (5, zl y5), (7, zi y7), (9, zi y9), (10, zi (m 4 45 ((295 + (6 * y4)) + y9)))] i307_137 rfl ?_
              refine X.iload 139 i307_137 rfl rfl rfl ?_
              refine X.istore 141 [(0, zr 4 44), (2, zi y2), (3, zi y3), (4, zi y4), (5, zl y5), (7, zi y7), (8, zi (m 4 45 ((295 + (6 * y4)) + y9))), (9, zi y9), (10, zi (m 4 45 ((295 + (6 * y4)) + y9)))] i307_139 rfl rfl rfl ?_
              refine X.iload 143 i307_141 rfl rfl rfl ?_
              refine X.i2l 144 i307_143 rfl rfl ?_
              refine X.aload_n 145 i307_144 rfl rfl rfl ?_
              refine X.getF 148 i307_145 rfl rfl (by decide) rfl rfl ?_
              refine X.sipush 151 i307_148 rfl rfl (by decide) ?_
              refine X.iload 153 i307_151 rfl rfl rfl ?_
              refine X.iadd 154 i307_153 rfl rfl (by omega) ?_
              refine X.lald 155 i307_154 rfl rfl (by decide) rfl (by omega) ?_
              refine X.lcmp 156 i307_155 rfl rfl (fun z661 hz661 => ?_)
              refine X.ifge 179 159 i307_156 rfl rfl rfl (fun h662 => ?_) (fun h662 => ?_)
              · have h662c : y9 ≥ (m 4 45 (287 + y4)) := by omega
                clear h662 hz661
                refine X.cut [(0, zr 4 44), (2, zi y2), (3, zi y3), (4, zi y4), (5, zl y5), (7, zi y7), (8, zi (m 4 45 ((295 + (6 * y4)) + y9))), (9, zi y9)] i307_179 rfl ?_
                refine X.iinc 182 [(0, zr 4 44), (2, zi y2), (3, zi y3), (4, zi y4), (5, zl y5), (7, zi y7), (8, zi (m 4 45 ((295 + (6 * y4)) + y9))), (9, zi (y9 + 1))] i307_179 rfl rfl rfl (by omega) rfl ?_
                refine X.goto 19 i307_182 rfl rfl ?_
                exact ih y5 y7 (m 4 45 ((295 + (6 * y4)) + y9)) (y9 + 1) (by omega) (by omega) (by omega) (by omega)
              · have h662c : y9 < (m 4 45 (287 + y4)) := by omega
                clear h662 hz661
                refine X.aload_n 160 i307_159 rfl rfl rfl ?_
                refine X.getF 163 i307_160 rfl rfl (by decide) rfl rfl ?_
                refine X.sipush 166 i307_163 rfl rfl (by decide) ?_
                refine X.bipush 168 i307_166 rfl rfl (by decide) ?_
                refine X.iload 170 i307_168 rfl rfl rfl ?_
                refine X.imul 171 i307_170 rfl rfl (by omega) ?_
                refine X.iadd 172 i307_171 rfl rfl (by omega) ?_
                refine X.iload 174 i307_172 rfl rfl rfl ?_
                refine X.iadd 175 i307_174 rfl rfl (by omega) ?_
                refine X.lald 176 i307_175 rfl rfl (by decide) rfl (by omega) ?_
                have h663 := r45_343 hJ 4 (i := ((343 + (6 * y4)) + y9)) (by omega)
                refine X.l2i 177 i307_176 rfl rfl (by omega) ?_
                refine X.istore 179 [(0, zr 4 44), (2, zi y2), (3, zi y3), (4, zi y4), (5, zl y5), (7, zi (m 4 45 ((343 + (6 * y4)) + y9))), (8, zi (m 4 45 ((295 + (6 * y4)) + y9))), (9, zi y9), (10, zi (m 4 45 ((295 + (6 * y4)) + y9)))] i307_177 rfl rfl rfl ?_
                refine X.cut [(0, zr 4 44), (2, zi y2), (3, zi y3), (4, zi y4), (5, zl y5), (7, zi (m 4 45 ((343 + (6 * y4)) + y9))), (8, zi (m 4 45 ((295 + (6 * y4)) + y9))), (9, zi y9)] i307_179 rfl ?_
                refine X.iinc 182 [(0, zr 4 44), (2, zi y2), (3, zi y3), (4, zi y4), (5, zl y5), (7, zi (m 4 45 ((343 + (6 * y4)) + y9))), (8, zi (m 4 45 ((295 + (6 * y4)) + y9))), (9, zi (y9 + 1))] i307_179 rfl rfl rfl (by omega) rfl ?_
                refine X.goto 19 i307_182 rfl rfl ?_
                exact ih y5 (m 4 45 ((343 + (6 * y4)) + y9)) (m 4 45 ((295 + (6 * y4)) + y9)) (y9 + 1) (by omega) (by omega) (by omega) (by omega)
            · refine X.lload 117 i307_115 rfl rfl rfl ?_
              refine X.iload 119 i307_117 rfl rfl rfl ?_
              refine X.iload 121 i307_119 rfl rfl rfl ?_
              refine X.isub 122 i307_121 rfl rfl (by omega) ?_
              refine X.i2l 123 i307_122 rfl rfl ?_
              refine X.aload_n 124 i307_123 rfl rfl rfl ?_
              refine X.getF 127 i307_124 rfl rfl (by decide) rfl rfl ?_
              refine X.bipush 129 i307_127 rfl rfl (by decide) ?_
              refine X.iload 131 i307_129 rfl rfl rfl ?_
              refine X.iadd 132 i307_131 rfl rfl (by omega) ?_
              refine X.lald 133 i307_132 rfl rfl (by decide) rfl (by omega) ?_
              refine X.llF 134 .lmul (fun x y => x * y) i307_133 rfl rfl rfl (fun _ _ => rfl) (fun z664 hz664 => ?_)
              refine X.llF 135 .ladd (fun x y => x + y) i307_134 rfl rfl rfl (fun _ _ => rfl) (fun z665 hz665 => ?_)
              refine X.lstore 137 [(0, zr 4 44), (2, zi y2), (3, zi y3), (4, zi y4), (5, zl z665), (7, zi y7), (9, zi y9), (10, zi (m 4 45 ((295 + (6 * y4)) + y9))), (11, zi y8), (12, zi (m 4 45 ((295 + (6 * y4)) + y9)))] i307_135 rfl rfl rfl ?_
              refine X.cut [(0, zr 4 44), (2, zi y2), (3, zi y3), (4, zi y4), (5, zl z665), (7, zi y7), (9, zi y9), (10, zi (m 4 45 ((295 + (6 * y4)) + y9)))] i307_137 rfl ?_
              refine X.iload 139 i307_137 rfl rfl rfl ?_
              refine X.istore 141 [(0, zr 4 44), (2, zi y2), (3, zi y3), (4, zi y4), (5, zl z665), (7, zi y7), (8, zi (m 4 45 ((295 + (6 * y4)) + y9))), (9, zi y9), (10, zi (m 4 45 ((295 + (6 * y4)) + y9)))] i307_139 rfl rfl rfl ?_
              refine X.iload 143 i307_141 rfl rfl rfl ?_
              refine X.i2l 144 i307_143 rfl rfl ?_
              refine X.aload_n 145 i307_144 rfl rfl rfl ?_
              refine X.getF 148 i307_145 rfl rfl (by decide) rfl rfl ?_
              refine X.sipush 151 i307_148 rfl rfl (by decide) ?_
              refine X.iload 153 i307_151 rfl rfl rfl ?_
              refine X.iadd 154 i307_153 rfl rfl (by omega) ?_
              refine X.lald 155 i307_154 rfl rfl (by decide) rfl (by omega) ?_
              refine X.lcmp 156 i307_155 rfl rfl (fun z666 hz666 => ?_)
              refine X.ifge 179 159 i307_156 rfl rfl rfl (fun h667 => ?_) (fun h667 => ?_)
              · have h667c : y9 ≥ (m 4 45 (287 + y4)) := by omega
                clear h667 hz666
                refine X.cut [(0, zr 4 44), (2, zi y2), (3, zi y3), (4, zi y4), (5, zl z665), (7, zi y7), (8, zi (m 4 45 ((295 + (6 * y4)) + y9))), (9, zi y9)] i307_179 rfl ?_
                refine X.iinc 182 [(0, zr 4 44), (2, zi y2), (3, zi y3), (4, zi y4), (5, zl z665), (7, zi y7), (8, zi (m 4 45 ((295 + (6 * y4)) + y9))), (9, zi (y9 + 1))] i307_179 rfl rfl rfl (by omega) rfl ?_
                refine X.goto 19 i307_182 rfl rfl ?_
                exact ih z665 y7 (m 4 45 ((295 + (6 * y4)) + y9)) (y9 + 1) (by omega) (by omega) (by omega) (by omega)
              · have h667c : y9 < (m 4 45 (287 + y4)) := by omega
                clear h667 hz666
                refine X.aload_n 160 i307_159 rfl rfl rfl ?_
                refine X.getF 163 i307_160 rfl rfl (by decide) rfl rfl ?_
                refine X.sipush 166 i307_163 rfl rfl (by decide) ?_
                refine X.bipush 168 i307_166 rfl rfl (by decide) ?_
                refine X.iload 170 i307_168 rfl rfl rfl ?_
                refine X.imul 171 i307_170 rfl rfl (by omega) ?_
                refine X.iadd 172 i307_171 rfl rfl (by omega) ?_
                refine X.iload 174 i307_172 rfl rfl rfl ?_
                refine X.iadd 175 i307_174 rfl rfl (by omega) ?_
                refine X.lald 176 i307_175 rfl rfl (by decide) rfl (by omega) ?_
                have h668 := r45_343 hJ 4 (i := ((343 + (6 * y4)) + y9)) (by omega)
                refine X.l2i 177 i307_176 rfl rfl (by omega) ?_
                refine X.istore 179 [(0, zr 4 44), (2, zi y2), (3, zi y3), (4, zi y4), (5, zl z665), (7, zi (m 4 45 ((343 + (6 * y4)) + y9))), (8, zi (m 4 45 ((295 + (6 * y4)) + y9))), (9, zi y9), (10, zi (m 4 45 ((295 + (6 * y4)) + y9)))] i307_177 rfl rfl rfl ?_
                refine X.cut [(0, zr 4 44), (2, zi y2), (3, zi y3), (4, zi y4), (5, zl z665), (7, zi (m 4 45 ((343 + (6 * y4)) + y9))), (8, zi (m 4 45 ((295 + (6 * y4)) + y9))), (9, zi y9)] i307_179 rfl ?_
                refine X.iinc 182 [(0, zr 4 44), (2, zi y2), (3, zi y3), (4, zi y4), (5, zl z665), (7, zi (m 4 45 ((343 + (6 * y4)) + y9))), (8, zi (m 4 45 ((295 + (6 * y4)) + y9))), (9, zi (y9 + 1))] i307_179 rfl rfl rfl (by omega) rfl ?_
                refine X.goto 19 i307_182 rfl rfl ?_
                exact ih z665 (m 4 45 ((343 + (6 * y4)) + y9)) (m 4 45 ((295 + (6 * y4)) + y9)) (y9 + 1) (by omega) (by omega) (by omega) (by omega)
-- WorkMeterModel.costOfDay
theorem c307_5 {s : Nat × (Nat → Int32)} {S : zS} {m0 m : zM} {B : Int} {d : Nat} {Q : Option zV → zM → Prop} (a1 a2 a3 : Int) (hd : 15 ≤ d) (hJ : J S m0 B m) (hB : B + 0 ≤ 1000000000) (ha1 : 0 ≤ a1 ∧ a1 ≤ 23150) (ha2 : 0 ≤ a2 ∧ a2 ≤ 86399) (ha3 : (-2000159999) ≤ a3 ∧ a3 ≤ 86399) (hQ : ∀ (v : Int), (True) → Q (some (zl v)) m) : X (EE s) d 307 0 [(0, zr 4 44), (1, zi a1), (2, zi a2), (3, zi a3)] [] m Q := by
  refine X.aload_n 1 i307_0 rfl rfl rfl ?_
  refine X.iload_n 2 i307_1 rfl rfl rfl ?_
  refine X.callv 5 [zi a1] [] [(0, zr 4 44), (1, zi a1)] i307_2 rfl (by decide) rfl rfl (by omega) rfl rfl (by decide) rfl t218 (Nat.le_of_ble_eq_true rfl) (Nat.le_of_ble_eq_true rfl) rfl ?_
  refine c218_1 (B := B)  a1 (by omega) (hJ.up (by omega)) (by omega) (by omega) (fun v503 hv503 => ?_)
  show X (EE s) d 307 5 [(0, zr 4 44), (1, zi a1), (2, zi a2), (3, zi a3)] [zi v503] m _
  refine X.istore 7 [(0, zr 4 44), (1, zi a1), (2, zi a2), (3, zi a3), (4, zi v503)] i307_5 rfl rfl rfl ?_
  refine X.lconst (y := 0) 8 i307_7 rfl rfl rfl ?_
  refine X.lstore 10 [(0, zr 4 44), (1, zi a1), (2, zi a2), (3, zi a3), (4, zi v503), (5, zl 0)] i307_8 rfl rfl rfl ?_
  refine X.iconst 11 i307_10 rfl rfl (by decide) ?_
  refine X.istore 13 [(0, zr 4 44), (1, zi a1), (2, zi a2), (3, zi a3), (4, zi v503), (5, zl 0), (7, zi 0)] i307_11 rfl rfl rfl ?_
  refine X.iconst 14 i307_13 rfl rfl (by decide) ?_
  refine X.istore 16 [(0, zr 4 44), (1, zi a1), (2, zi a2), (3, zi a3), (4, zi v503), (5, zl 0), (7, zi 0), (8, zi 0)] i307_14 rfl rfl rfl ?_
  refine X.iconst 17 i307_16 rfl rfl (by decide) ?_
  refine X.istore 19 [(0, zr 4 44), (1, zi a1), (2, zi a2), (3, zi a3), (4, zi v503), (5, zl 0), (7, zi 0), (8, zi 0), (9, zi 0)] i307_17 rfl rfl rfl ?_
  refine X.cut [(0, zr 4 44), (2, zi a2), (3, zi a3), (4, zi v503), (5, zl 0), (7, zi 0), (8, zi 0), (9, zi 0)] i307_19 rfl ?_
  refine l307_19_4 (s := s) (S := S) (m0 := m0) (m := m) (B := B) (d := d)  a2 a3 v503 (by omega) (hJ.up (by omega)) (by omega) (by omega) (by omega) (by omega) (fun y504 hby504 => ?_) ((7 - 0 : Int).toNat + 1) 0 0 0 0 (by omega) (by omega) (by omega) (by omega)
  refine X.lload 187 i307_185 rfl rfl rfl ?_
  refine X.retl i307_187 rfl t307 ?_
  exact hQ y504 (by first | trivial | omega) 
theorem l306_5_3 {s : Nat × (Nat → Int32)} {S : zS} {m0 m : zM} {B : Int} {d : Nat} {Q : Option zV → zM → Prop} (y1 y2 : Int) (hd : 16 ≤ d) (hJ : J S m0 B m) (hB9 : B ≤ 1000000000) (hy1 : 0 ≤ y1 ∧ y1 ≤ 2000085500) (hy2 : 1 ≤ y2 ∧ y2 ≤ 100000)
    (K79 : ∀ (x3 : Int) , (True) → X (EE s) d 306 79 [(3, zl x3)] [] m Q) :
    ∀ (n : Nat) (y3 y5 : Int) , (0 ≤ y5 ∧ y5 ≤ 2000186000) → (y5 ≤ y1 + y2) → y1 + y2 - y5 < (n : Int) → X (EE s) d 306 5 [(0, zr 4 44), (1, zi y1), (2, zi y2), (3, zl y3), (5, zi y5)] [] m Q := by
  intro n
  induction n with
  | zero =>
    intro y3 y5 hy5 hr0 hn
    exfalso
    omega
  | succ n ih =>
    intro y3 y5 hy5 hr0 hn
    refine X.iload 7 i306_5 rfl rfl rfl ?_
    refine X.iload_n 8 i306_7 rfl rfl rfl ?_
    refine X.iload_n 9 i306_8 rfl rfl rfl ?_
    refine X.iadd 10 i306_9 rfl rfl (by omega) ?_
    refine X.icmpge 79 13 i306_10 rfl rfl rfl (fun h521 => ?_) (fun h521 => ?_)
    · refine X.cut [(3, zl y3)] i306_79 rfl ?_
      exact K79 y3 (by first | trivial | omega)
    · refine X.iload 15 i306_13 rfl rfl rfl ?_
      refine X.ldc 17 i306_15 rfl rfl (by decide) ?_
      refine X.idiv 18 i306_17 rfl rfl (by omega) ?_
      refine X.istore 20 [(0, zr 4 44), (1, zi y1), (2, zi y2), (3, zl y3), (5, zi y5), (6, zi (y5 / 86400))] i306_18 rfl rfl rfl ?_
      refine X.iload_n 21 i306_20 rfl rfl rfl ?_
      refine X.iload_n 22 i306_21 rfl rfl rfl ?_
      refine X.iadd 23 i306_22 rfl rfl (by omega) ?_
      refine X.iload 25 i306_23 rfl rfl rfl ?_
      refine X.ldc 27 i306_25 rfl rfl (by decide) ?_
      refine X.imul 28 i306_27 rfl rfl (by omega) ?_
      refine X.isub 29 i306_28 rfl rfl (by omega) ?_
      refine X.ldc 31 i306_29 rfl rfl (by decide) ?_
      refine X.icmpge 46 34 i306_31 rfl rfl rfl (fun h522 => ?_) (fun h522 => ?_)
      · refine X.ldc 48 i306_46 rfl rfl (by decide) ?_
        refine X.istore 50 [(0, zr 4 44), (1, zi y1), (2, zi y2), (3, zl y3), (5, zi y5), (6, zi (y5 / 86400)), (7, zi 86400)] i306_48 rfl rfl rfl ?_
        refine X.lload_n 51 i306_50 rfl rfl rfl ?_
        refine X.aload_n 52 i306_51 rfl rfl rfl ?_
        refine X.iload 54 i306_52 rfl rfl rfl ?_
        refine X.iload 56 i306_54 rfl rfl rfl ?_
        refine X.ldc 58 i306_56 rfl rfl (by decide) ?_
        refine X.irem 59 i306_58 rfl rfl (by omega) ?_
        refine X.iload 61 i306_59 rfl rfl rfl ?_
        refine X.callv 64 [zi (y5 / 86400), zi (y5 % 86400), zi 86400] [zl y3] [(0, zr 4 44), (1, zi (y5 / 86400)), (2, zi (y5 % 86400)), (3, zi 86400)] i306_61 rfl (by decide) rfl rfl (by omega) rfl rfl (by decide) rfl t307 (Nat.le_of_ble_eq_true rfl) (Nat.le_of_ble_eq_true rfl) rfl ?_
        refine c307_3 (B := B)  (y5 / 86400) (y5 % 86400) 86400 (by omega) (hJ.up (by omega)) (by omega) (by omega) (by omega) (by omega) (fun v525 hv525 => ?_)
        show X (EE s) d 306 64 [(0, zr 4 44), (1, zi y1), (2, zi y2), (3, zl y3), (5, zi y5), (6, zi (y5 / 86400)), (7, zi 86400)] [zl v525, zl y3] m _
        refine X.llF 65 .ladd (fun x y => x + y) i306_64 rfl rfl rfl (fun _ _ => rfl) (fun z526 hz526 => ?_)
        refine X.lstore_n 66 [(0, zr 4 44), (1, zi y1), (2, zi y2), (3, zl z526), (5, zi y5), (6, zi (y5 / 86400)), (7, zi 86400)] i306_65 rfl rfl rfl ?_
        refine X.iload 68 i306_66 rfl rfl rfl ?_
        refine X.ldc 70 i306_68 rfl rfl (by decide) ?_
        refine X.imul 71 i306_70 rfl rfl (by omega) ?_
        refine X.iload 73 i306_71 rfl rfl rfl ?_
        refine X.iadd 74 i306_73 rfl rfl (by omega) ?_
        refine X.istore 76 [(0, zr 4 44), (1, zi y1), (2, zi y2), (3, zl z526), (5, zi (((y5 / 86400) * 86400) + 86400)), (6, zi (y5 / 86400)), (7, zi 86400)] i306_74 rfl rfl rfl ?_
        refine X.goto 5 i306_76 rfl rfl ?_
        refine X.cut [(0, zr 4 44), (1, zi y1), (2, zi y2), (3, zl z526), (5, zi (((y5 / 86400) * 86400) + 86400))] i306_5 rfl ?_
        exact ih z526 (((y5 / 86400) * 86400) + 86400) (by omega) (by omega) (by omega)
      · refine X.iload_n 35 i306_34 rfl rfl rfl ?_
        refine X.iload_n 36 i306_35 rfl rfl rfl ?_
        refine X.iadd 37 i306_36 rfl rfl (by omega) ?_
        refine X.iload 39 i306_37 rfl rfl rfl ?_
        refine X.ldc 41 i306_39 rfl rfl (by decide) ?_
        refine X.imul 42 i306_41 rfl rfl (by omega) ?_
        refine X.isub 43 i306_42 rfl rfl (by omega) ?_
        refine X.goto 48 i306_43 rfl rfl ?_
        refine X.istore 50 [(0, zr 4 44), (1, zi y1), (2, zi y2), (3, zl y3), (5, zi y5), (6, zi (y5 / 86400)), (7, zi ((y1 + y2) - ((y5 / 86400) * 86400)))] i306_48 rfl rfl rfl ?_
        refine X.lload_n 51 i306_50 rfl rfl rfl ?_
        refine X.aload_n 52 i306_51 rfl rfl rfl ?_
        refine X.iload 54 i306_52 rfl rfl rfl ?_
        refine X.iload 56 i306_54 rfl rfl rfl ?_
        refine X.ldc 58 i306_56 rfl rfl (by decide) ?_
        refine X.irem 59 i306_58 rfl rfl (by omega) ?_
        refine X.iload 61 i306_59 rfl rfl rfl ?_
        refine X.callv 64 [zi (y5 / 86400), zi (y5 % 86400), zi ((y1 + y2) - ((y5 / 86400) * 86400))] [zl y3] [(0, zr 4 44), (1, zi (y5 / 86400)), (2, zi (y5 % 86400)), (3, zi ((y1 + y2) - ((y5 / 86400) * 86400)))] i306_61 rfl (by decide) rfl rfl (by omega) rfl rfl (by decide) rfl t307 (Nat.le_of_ble_eq_true rfl) (Nat.le_of_ble_eq_true rfl) rfl ?_
        refine c307_5 (B := B)  (y5 / 86400) (y5 % 86400) ((y1 + y2) - ((y5 / 86400) * 86400)) (by omega) (hJ.up (by omega)) (by omega) (by omega) (by omega) (by omega) (fun v529 hv529 => ?_)
        show X (EE s) d 306 64 [(0, zr 4 44), (1, zi y1), (2, zi y2), (3, zl y3), (5, zi y5), (6, zi (y5 / 86400)), (7, zi ((y1 + y2) - ((y5 / 86400) * 86400)))] [zl v529, zl y3] m _
        refine X.llF 65 .ladd (fun x y => x + y) i306_64 rfl rfl rfl (fun _ _ => rfl) (fun z530 hz530 => ?_)
        refine X.lstore_n 66 [(0, zr 4 44), (1, zi y1), (2, zi y2), (3, zl z530), (5, zi y5), (6, zi (y5 / 86400)), (7, zi ((y1 + y2) - ((y5 / 86400) * 86400)))] i306_65 rfl rfl rfl ?_
        refine X.iload 68 i306_66 rfl rfl rfl ?_
        refine X.ldc 70 i306_68 rfl rfl (by decide) ?_
        refine X.imul 71 i306_70 rfl rfl (by omega) ?_
        refine X.iload 73 i306_71 rfl rfl rfl ?_
        refine X.iadd 74 i306_73 rfl rfl (by omega) ?_
        refine X.istore 76 [(0, zr 4 44), (1, zi y1), (2, zi y2), (3, zl z530), (5, zi (((y5 / 86400) * 86400) + ((y1 + y2) - ((y5 / 86400) * 86400)))), (6, zi (y5 / 86400)), (7, zi ((y1 + y2) - ((y5 / 86400) * 86400)))] i306_74 rfl rfl rfl ?_
        refine X.goto 5 i306_76 rfl rfl ?_
        refine X.cut [(0, zr 4 44), (1, zi y1), (2, zi y2), (3, zl z530), (5, zi (((y5 / 86400) * 86400) + ((y1 + y2) - ((y5 / 86400) * 86400))))] i306_5 rfl ?_
        exact ih z530 (((y5 / 86400) * 86400) + ((y1 + y2) - ((y5 / 86400) * 86400))) (by omega) (by omega) (by omega)
-- WorkMeterModel.costFrom
theorem c306_3 {s : Nat × (Nat → Int32)} {S : zS} {m0 m : zM} {B : Int} {d : Nat} {Q : Option zV → zM → Prop} (a1 a2 : Int) (hd : 16 ≤ d) (hJ : J S m0 B m) (hB : B + 0 ≤ 1000000000) (ha1 : 0 ≤ a1 ∧ a1 ≤ 2000085500) (ha2 : 1 ≤ a2 ∧ a2 ≤ 100000) (hQ : ∀ (v : Int), (True) → Q (some (zl v)) m) : X (EE s) d 306 0 [(0, zr 4 44), (1, zi a1), (2, zi a2)] [] m Q := by
  refine X.lconst (y := 0) 1 i306_0 rfl rfl rfl ?_
  refine X.lstore_n 2 [(0, zr 4 44), (1, zi a1), (2, zi a2), (3, zl 0)] i306_1 rfl rfl rfl ?_
  refine X.iload_n 3 i306_2 rfl rfl rfl ?_
  refine X.istore 5 [(0, zr 4 44), (1, zi a1), (2, zi a2), (3, zl 0), (5, zi a1)] i306_3 rfl rfl rfl ?_
  refine l306_5_3 (s := s) (S := S) (m0 := m0) (m := m) (B := B) (d := d)  a1 a2 (by omega) (hJ.up (by omega)) (by omega) (by omega) (by omega) (fun y501 hby501 => ?_) ((a1 + a2 - a1 : Int).toNat + 1) 0 a1 (by omega) (by omega) (by omega)
  refine X.lload_n 80 i306_79 rfl rfl rfl ?_
  refine X.retl i306_80 rfl t306 ?_
  exact hQ y501 (by first | trivial | omega) 
theorem l308_57_1 {s : Nat × (Nat → Int32)} {S : zS} {m0 m : zM} {B : Int} {d : Nat} {Q : Option zV → zM → Prop} (y1 y2 : Int) (hd : 17 ≤ d) (hJ : J S m0 B m) (hB9 : B ≤ 1000000000) (hy1 : 1 ≤ y1 ∧ y1 ≤ 100000) (hy2 : 0 ≤ y2 ∧ y2 ≤ 1)
    (K106 : ∀ (x3 : Int) , (0 ≤ x3 ∧ x3 ≤ 2000085500) → X (EE s) d 308 106 [(0, zr 4 44), (1, zi y1), (2, zi y2), (3, zi x3)] [] m Q) :
    ∀ (n : Nat) (y3 y4 : Int) , (0 ≤ y3 ∧ y3 ≤ 2000085500) → (1 ≤ y4 ∧ y4 ≤ 96) → 96 - y4 < (n : Int) → X (EE s) d 308 57 [(0, zr 4 44), (1, zi y1), (2, zi y2), (3, zi y3), (4, zi y4)] [] m Q := by
  intro n
  induction n with
  | zero =>
    intro y3 y4 hy3 hy4 hn
    exfalso
    omega
  | succ n ih =>
    intro y3 y4 hy3 hy4 hn
    refine X.iload 59 i308_57 rfl rfl rfl ?_
    refine X.bipush 61 i308_59 rfl rfl (by decide) ?_
    refine X.icmpge 106 64 i308_61 rfl rfl rfl (fun h521 => ?_) (fun h521 => ?_)
    · refine X.cut [(0, zr 4 44), (1, zi y1), (2, zi y2), (3, zi y3)] i308_106 rfl ?_
      exact K106 y3 (by first | trivial | omega)
    · refine X.aload_n 65 i308_64 rfl rfl rfl ?_
      refine X.getF 68 i308_65 rfl rfl (by decide) rfl rfl ?_
      refine X.iconst 69 i308_68 rfl rfl (by decide) ?_
      refine X.lald 70 i308_69 rfl rfl (by decide) rfl (by omega) ?_
      have h522 := r45_0 hJ 4
      refine X.l2i 71 i308_70 rfl rfl (by omega) ?_
      refine X.sipush 74 i308_71 rfl rfl (by decide) ?_
      refine X.iload 76 i308_74 rfl rfl rfl ?_
      refine X.imul 77 i308_76 rfl rfl (by omega) ?_
      refine X.iadd 78 i308_77 rfl rfl (by omega) ?_
      refine X.istore 80 [(0, zr 4 44), (1, zi y1), (2, zi y2), (3, zi y3), (4, zi y4), (5, zi ((m 4 45 0) + (900 * y4)))] i308_78 rfl rfl rfl ?_
      refine X.aload_n 81 i308_80 rfl rfl rfl ?_
      refine X.iload 83 i308_81 rfl rfl rfl ?_
      refine X.iload_n 84 i308_83 rfl rfl rfl ?_
      refine X.callv 87 [zi ((m 4 45 0) + (900 * y4)), zi y1] [] [(0, zr 4 44), (1, zi ((m 4 45 0) + (900 * y4))), (2, zi y1)] i308_84 rfl (by decide) rfl rfl (by omega) rfl rfl (by decide) rfl t306 (Nat.le_of_ble_eq_true rfl) (Nat.le_of_ble_eq_true rfl) rfl ?_
      refine c306_2 (B := B)  ((m 4 45 0) + (900 * y4)) y1 (by omega) (hJ.up (by omega)) (by omega) (by omega) (by omega) (fun v525 hv525 => ?_)
      show X (EE s) d 308 87 [(0, zr 4 44), (1, zi y1), (2, zi y2), (3, zi y3), (4, zi y4), (5, zi ((m 4 45 0) + (900 * y4)))] [zl v525] m _
      refine X.aload_n 88 i308_87 rfl rfl rfl ?_
      refine X.iload_n 89 i308_88 rfl rfl rfl ?_
      refine X.iload_n 90 i308_89 rfl rfl rfl ?_
      refine X.callv 93 [zi y3, zi y1] [zl v525] [(0, zr 4 44), (1, zi y3), (2, zi y1)] i308_90 rfl (by decide) rfl rfl (by omega) rfl rfl (by decide) rfl t306 (Nat.le_of_ble_eq_true rfl) (Nat.le_of_ble_eq_true rfl) rfl ?_
      refine c306_3 (B := B)  y3 y1 (by omega) (hJ.up (by omega)) (by omega) (by omega) (by omega) (fun v528 hv528 => ?_)
      show X (EE s) d 308 93 [(0, zr 4 44), (1, zi y1), (2, zi y2), (3, zi y3), (4, zi y4), (5, zi ((m 4 45 0) + (900 * y4)))] [zl v528, zl v525] m _
      refine X.lcmp 94 i308_93 rfl rfl (fun z529 hz529 => ?_)
      refine X.ifge 100 97 i308_94 rfl rfl rfl (fun h530 => ?_) (fun h530 => ?_)
      · have h530c : v525 ≥ v528 := by omega
        clear h530 hz529
        refine X.cut [(0, zr 4 44), (1, zi y1), (2, zi y2), (3, zi y3), (4, zi y4)] i308_100 rfl ?_
        refine X.iinc 103 [(0, zr 4 44), (1, zi y1), (2, zi y2), (3, zi y3), (4, zi (y4 + 1))] i308_100 rfl rfl rfl (by omega) rfl ?_
        refine X.goto 57 i308_103 rfl rfl ?_
        exact ih y3 (y4 + 1) (by omega) (by omega) (by omega)
      · have h530c : v525 < v528 := by omega
        clear h530 hz529
        refine X.iload 99 i308_97 rfl rfl rfl ?_
        refine X.istore_n 100 [(0, zr 4 44), (1, zi y1), (2, zi y2), (3, zi ((m 4 45 0) + (900 * y4))), (4, zi y4), (5, zi ((m 4 45 0) + (900 * y4)))] i308_99 rfl rfl rfl ?_
        refine X.cut [(0, zr 4 44), (1, zi y1), (2, zi y2), (3, zi ((m 4 45 0) + (900 * y4))), (4, zi y4)] i308_100 rfl ?_
        refine X.iinc 103 [(0, zr 4 44), (1, zi y1), (2, zi y2), (3, zi ((m 4 45 0) + (900 * y4))), (4, zi (y4 + 1))] i308_100 rfl rfl rfl (by omega) rfl ?_
        refine X.goto 57 i308_103 rfl rfl ?_
        exact ih ((m 4 45 0) + (900 * y4)) (y4 + 1) (by omega) (by omega) (by omega)
-- WorkMeterModel.cheapest
theorem c308_1 {s : Nat × (Nat → Int32)} {S : zS} {m0 m : zM} {B : Int} {d : Nat} {Q : Option zV → zM → Prop} (a1 a2 : Int) (hd : 17 ≤ d) (hJ : J S m0 B m) (hB : B + 0 ≤ 1000000000) (ha1 : (-2147483648) ≤ a1 ∧ a1 ≤ 2147483647) (ha2 : (-2147483648) ≤ a2 ∧ a2 ≤ 2147483647) (hQ : ∀ (v : Int), (True) → Q (some (zl v)) m) : X (EE s) d 308 0 [(0, zr 4 44), (1, zi a1), (2, zi a2)] [] m Q := by
  refine X.iload_n 1 i308_0 rfl rfl rfl ?_
  refine X.i2l 2 i308_1 rfl rfl ?_
  refine X.lconst (y := 1) 3 i308_2 rfl rfl rfl ?_
  refine X.ldc2 6 i308_3 rfl rfl (by decide) ?_
  refine X.calls 9 [zl a1, zl 1, zl 100000] [] [(0, zl a1), (2, zl 1), (4, zl 100000)] i308_6 (by decide) rfl rfl (by omega) rfl rfl t204 (Nat.le_of_ble_eq_true rfl) (Nat.le_of_ble_eq_true rfl) rfl ?_
  refine X.lload_n 1 i204_0 rfl rfl rfl ?_
  refine X.lload_n 2 i204_1 rfl rfl rfl ?_
  refine X.lcmp 3 i204_2 rfl rfl (fun z501 hz501 => ?_)
  refine X.iflt 17 6 i204_3 rfl rfl rfl (fun h502 => ?_) (fun h502 => ?_)
  · have h502c : a1 < 1 := by omega
    clear h502 hz501
    refine X.cut [] i204_17 rfl ?_
    refine X.iconst 18 i204_17 rfl rfl (by decide) ?_
    refine X.retz i204_18 rfl t204 (by omega) ?_
    show X (EE s) d 308 9 [(0, zr 4 44), (1, zi a1), (2, zi a2)] [zi 0] m _
    refine X.ifeq 42 12 i308_9 rfl rfl rfl (fun h503 => ?_) (fun h503 => (by exfalso; omega))
    refine X.cut [] i308_42 rfl ?_
    refine X.ldc2 45 i308_42 rfl rfl (by decide) ?_
    refine X.retl i308_45 rfl t308 ?_
    exact hQ (-1) (by first | trivial | omega) 
  · have h502c : a1 ≥ 1 := by omega
    clear h502 hz501
    refine X.lload_n 7 i204_6 rfl rfl rfl ?_
    refine X.lload 9 i204_7 rfl rfl rfl ?_
    refine X.lcmp 10 i204_9 rfl rfl (fun z504 hz504 => ?_)
    refine X.ifgt 17 13 i204_10 rfl rfl rfl (fun h505 => ?_) (fun h505 => ?_)
    · have h505c : a1 > 100000 := by omega
      clear h505 hz504
      refine X.cut [] i204_17 rfl ?_
      refine X.iconst 18 i204_17 rfl rfl (by decide) ?_
      refine X.retz i204_18 rfl t204 (by omega) ?_
      show X (EE s) d 308 9 [(0, zr 4 44), (1, zi a1), (2, zi a2)] [zi 0] m _
      refine X.ifeq 42 12 i308_9 rfl rfl rfl (fun h506 => ?_) (fun h506 => (by exfalso; omega))
      refine X.cut [] i308_42 rfl ?_
      refine X.ldc2 45 i308_42 rfl rfl (by decide) ?_
      refine X.retl i308_45 rfl t308 ?_
      exact hQ (-1) (by first | trivial | omega) 
    · have h505c : a1 ≤ 100000 := by omega
      clear h505 hz504
      refine X.iconst 14 i204_13 rfl rfl (by decide) ?_
      refine X.goto 18 i204_14 rfl rfl ?_
      refine X.cut [] i204_18 rfl ?_
      refine X.retz i204_18 rfl t204 (by omega) ?_
      show X (EE s) d 308 9 [(0, zr 4 44), (1, zi a1), (2, zi a2)] [zi 1] m _
      refine X.ifeq 42 12 i308_9 rfl rfl rfl (fun h507 => (by exfalso; omega)) (fun h507 => ?_)
      refine X.aload_n 13 i308_12 rfl rfl rfl ?_
      refine X.getF 16 i308_13 rfl rfl (by decide) rfl rfl ?_
      refine X.iconst 17 i308_16 rfl rfl (by decide) ?_
      refine X.lald 18 i308_17 rfl rfl (by decide) rfl (by omega) ?_
      have h508 := r45_0 hJ 4
      refine X.ldc2 21 i308_18 rfl rfl (by decide) ?_
      refine X.ladd 22 i308_21 rfl rfl (by omega) ?_
      refine X.iload_n 23 i308_22 rfl rfl rfl ?_
      refine X.i2l 24 i308_23 rfl rfl ?_
      refine X.ladd 25 i308_24 rfl rfl (by omega) ?_
      refine X.ldc2 28 i308_25 rfl rfl (by decide) ?_
      refine X.lcmp 29 i308_28 rfl rfl (fun z509 hz509 => ?_)
      refine X.ifgt 42 32 i308_29 rfl rfl rfl (fun h510 => ?_) (fun h510 => ?_)
      · have h510c : (((m 4 45 0) + 85500) + a1) > 2000000000 := by omega
        clear h510 hz509
        refine X.cut [] i308_42 rfl ?_
        refine X.ldc2 45 i308_42 rfl rfl (by decide) ?_
        refine X.retl i308_45 rfl t308 ?_
        exact hQ (-1) (by first | trivial | omega) 
      · have h510c : (((m 4 45 0) + 85500) + a1) ≤ 2000000000 := by omega
        clear h510 hz509
        refine X.iload_n 33 i308_32 rfl rfl rfl ?_
        refine X.i2l 34 i308_33 rfl rfl ?_
        refine X.lconst (y := 0) 35 i308_34 rfl rfl rfl ?_
        refine X.lconst (y := 1) 36 i308_35 rfl rfl rfl ?_
        refine X.calls 39 [zl a2, zl 0, zl 1] [] [(0, zl a2), (2, zl 0), (4, zl 1)] i308_36 (by decide) rfl rfl (by omega) rfl rfl t204 (Nat.le_of_ble_eq_true rfl) (Nat.le_of_ble_eq_true rfl) rfl ?_
        refine X.lload_n 1 i204_0 rfl rfl rfl ?_
        refine X.lload_n 2 i204_1 rfl rfl rfl ?_
        refine X.lcmp 3 i204_2 rfl rfl (fun z511 hz511 => ?_)
        refine X.iflt 17 6 i204_3 rfl rfl rfl (fun h512 => ?_) (fun h512 => ?_)
        · have h512c : a2 < 0 := by omega
          clear h512 hz511
          refine X.cut [] i204_17 rfl ?_
          refine X.iconst 18 i204_17 rfl rfl (by decide) ?_
          refine X.retz i204_18 rfl t204 (by omega) ?_
          show X (EE s) d 308 39 [(0, zr 4 44), (1, zi a1), (2, zi a2)] [zi 0] m _
          refine X.ifne 46 42 i308_39 rfl rfl rfl (fun h513 => (by exfalso; omega)) (fun h513 => ?_)
          refine X.cut [] i308_42 rfl ?_
          refine X.ldc2 45 i308_42 rfl rfl (by decide) ?_
          refine X.retl i308_45 rfl t308 ?_
          exact hQ (-1) (by first | trivial | omega) 
        · have h512c : a2 ≥ 0 := by omega
          clear h512 hz511
          refine X.lload_n 7 i204_6 rfl rfl rfl ?_
          refine X.lload 9 i204_7 rfl rfl rfl ?_
          refine X.lcmp 10 i204_9 rfl rfl (fun z514 hz514 => ?_)
          refine X.ifgt 17 13 i204_10 rfl rfl rfl (fun h515 => ?_) (fun h515 => ?_)
          · have h515c : a2 > 1 := by omega
            clear h515 hz514
            refine X.cut [] i204_17 rfl ?_
            refine X.iconst 18 i204_17 rfl rfl (by decide) ?_
            refine X.retz i204_18 rfl t204 (by omega) ?_
            show X (EE s) d 308 39 [(0, zr 4 44), (1, zi a1), (2, zi a2)] [zi 0] m _
            refine X.ifne 46 42 i308_39 rfl rfl rfl (fun h516 => (by exfalso; omega)) (fun h516 => ?_)
            refine X.cut [] i308_42 rfl ?_
            refine X.ldc2 45 i308_42 rfl rfl (by decide) ?_
            refine X.retl i308_45 rfl t308 ?_
            exact hQ (-1) (by first | trivial | omega) 
          · have h515c : a2 ≤ 1 := by omega
            clear h515 hz514
            refine X.iconst 14 i204_13 rfl rfl (by decide) ?_
            refine X.goto 18 i204_14 rfl rfl ?_
            refine X.cut [] i204_18 rfl ?_
            refine X.retz i204_18 rfl t204 (by omega) ?_
            show X (EE s) d 308 39 [(0, zr 4 44), (1, zi a1), (2, zi a2)] [zi 1] m _
            refine X.ifne 46 42 i308_39 rfl rfl rfl (fun h517 => ?_) (fun h517 => (by exfalso; omega))
            refine X.aload_n 47 i308_46 rfl rfl rfl ?_
            refine X.getF 50 i308_47 rfl rfl (by decide) rfl rfl ?_
            refine X.iconst 51 i308_50 rfl rfl (by decide) ?_
            refine X.lald 52 i308_51 rfl rfl (by decide) rfl (by omega) ?_
            refine X.l2i 53 i308_52 rfl rfl (by omega) ?_
            refine X.istore_n 54 [(0, zr 4 44), (1, zi a1), (2, zi a2), (3, zi (m 4 45 0))] i308_53 rfl rfl rfl ?_
            refine X.iconst 55 i308_54 rfl rfl (by decide) ?_
            refine X.istore 57 [(0, zr 4 44), (1, zi a1), (2, zi a2), (3, zi (m 4 45 0)), (4, zi 1)] i308_55 rfl rfl rfl ?_
            refine l308_57_1 (s := s) (S := S) (m0 := m0) (m := m) (B := B) (d := d)  a1 a2 (by omega) (hJ.up (by omega)) (by omega) (by omega) (by omega) (fun y518 hby518 => ?_) ((96 - 1 : Int).toNat + 1) (m 4 45 0) 1 (by omega) (by omega) (by omega)
            refine X.iload_n 107 i308_106 rfl rfl rfl ?_
            refine X.ifne 115 110 i308_107 rfl rfl rfl (fun h522 => ?_) (fun h522 => ?_)
            · refine X.cut [(0, zr 4 44), (1, zi a1), (3, zi y518)] i308_115 rfl ?_
              refine X.aload_n 116 i308_115 rfl rfl rfl ?_
              refine X.iload_n 117 i308_116 rfl rfl rfl ?_
              refine X.iload_n 118 i308_117 rfl rfl rfl ?_
              refine X.callv 121 [zi y518, zi a1] [] [(0, zr 4 44), (1, zi y518), (2, zi a1)] i308_118 rfl (by decide) rfl rfl (by omega) rfl rfl (by decide) rfl t306 (Nat.le_of_ble_eq_true rfl) (Nat.le_of_ble_eq_true rfl) rfl ?_
              refine c306_3 (B := B)  y518 a1 (by omega) (hJ.up (by omega)) (by omega) (by omega) (by omega) (fun v525 hv525 => ?_)
              show X (EE s) d 308 121 [(0, zr 4 44), (1, zi a1), (3, zi y518)] [zl v525] m _
              refine X.cut [] i308_121 rfl ?_
              refine X.retl i308_121 rfl t308 ?_
              exact hQ v525 (by first | trivial | omega) 
            · refine X.iload_n 111 i308_110 rfl rfl rfl ?_
              refine X.i2l 112 i308_111 rfl rfl ?_
              refine X.goto 121 i308_112 rfl rfl ?_
              refine X.cut [] i308_121 rfl ?_
              refine X.retl i308_121 rfl t308 ?_
              exact hQ y518 (by first | trivial | omega) 
theorem l185_4_1 {s : Nat × (Nat → Int32)} {S : zS} {m0 : zM} {d : Nat} {Q : Option zV → zM → Prop} (g0 : Nat) (y1 : Int) (BE : Int) (hE : BE ≤ 1000000000) (hd : 18 ≤ d) (hy1 : 3600 ≤ y1 ∧ y1 ≤ 3600) (hs0 : S.1 g0 8 9) (hs1 : S.1 g0 8 13)
    (K31 : ∀ (x2 x3 : Int) (m' : zM) (B' : Int), J S m0 B' m' → B' ≤ BE → ((-1999999999) ≤ x2 ∧ x2 ≤ 7199) → (0 ≤ x3 ∧ x3 ≤ 3599) → (x2 ≤ y1) → (m' g0 8 13 ≤ m0 g0 8 13 + x2) → (m0 g0 8 13 ≤ 1200000000) → X (EE s) d 185 31 [(0, zr g0 8), (1, zi y1), (2, zi x2), (3, zi x3)] [] m' Q)
    (K39 : ∀ (m' : zM) (B' : Int), J S m0 B' m' → B' ≤ BE → (m0 g0 8 13 ≤ 1200000000) → X (EE s) d 185 39 [] [] m' Q) :
    ∀ (n : Nat) (y2 y3 : Int) (m : zM) (B : Int), J S m0 B m → B + 8 * (n : Int) ≤ BE → (0 ≤ y2 ∧ y2 ≤ 3600) → (0 ≤ y3 ∧ y3 ≤ 3600) → (y2 ≤ y1) → (m g0 8 13 ≤ m0 g0 8 13 + y2) → (m0 g0 8 13 ≤ 1200000000) → 3600 - y3 < (n : Int) → X (EE s) d 185 4 [(0, zr g0 8), (1, zi y1), (2, zi y2), (3, zi y3)] [] m Q := by
  intro n
  induction n with
  | zero =>
    intro y2 y3 m B hJ hB  hy2 hy3 hr0 hr1 hr2 hn
    exfalso
    omega
  | succ n ih =>
    intro y2 y3 m B hJ hB  hy2 hy3 hr0 hr1 hr2 hn
    refine X.iload_n 5 i185_4 rfl rfl rfl ?_
    refine X.iload_n 6 i185_5 rfl rfl rfl ?_
    refine X.icmpge 39 9 i185_6 rfl rfl rfl (fun h509 => ?_) (fun h509 => ?_)
    · refine X.cut [] i185_39 rfl ?_
      exact K39  m (B) (hJ.up (by omega)) (by omega)  (by omega)
    · refine X.iload_n 10 i185_9 rfl rfl rfl ?_
      refine X.iload_n 11 i185_10 rfl rfl rfl ?_
      refine X.icmpge 39 14 i185_11 rfl rfl rfl (fun h510 => ?_) (fun h510 => ?_)
      · refine X.cut [] i185_39 rfl ?_
        exact K39  m (B) (hJ.up (by omega)) (by omega)  (by omega)
      · refine X.iload_n 15 i185_14 rfl rfl rfl ?_
        refine X.aload_n 16 i185_15 rfl rfl rfl ?_
        refine X.iload_n 17 i185_16 rfl rfl rfl ?_
        refine X.iload_n 18 i185_17 rfl rfl rfl ?_
        refine X.isub 19 i185_18 rfl rfl (by omega) ?_
        refine X.callv 22 [zi (y1 - y2)] [zi y2] [(0, zr g0 8), (1, zi (y1 - y2))] i185_19 rfl (by decide) rfl rfl (by omega) rfl rfl (by decide) rfl t26 (Nat.le_of_ble_eq_true rfl) (Nat.le_of_ble_eq_true rfl) rfl ?_
        refine c26_1 (S := zfr [(g0, 8, 9), (g0, 8, 13)] S) (m0 := m) (B := B) g0 (y1 - y2) (by omega) (hJ.ow.up (by omega)) (by omega) (by omega) (by omega) (by omega) zm_z (zm_s zm_z) (fun v513 m511 hv513 hJ512 hqv5130 hqv5131 hqv5132 => ?_)
        have hJ514 := hJ.trans hJ512 (zi_c hs0 (zi_c hs1 zi_n))
        show X (EE s) d 185 22 [(0, zr g0 8), (1, zi y1), (2, zi y2), (3, zi y3)] [zi v513, zi y2] m511 _
        refine X.iadd 23 i185_22 rfl rfl (by omega) ?_
        refine X.istore_n 24 [(0, zr g0 8), (1, zi y1), (2, zi (y2 + v513)), (3, zi y3)] i185_23 rfl rfl rfl ?_
        refine X.aload_n 25 i185_24 rfl rfl rfl ?_
        refine X.getZ 28 12 i185_25 rfl rfl (by decide) rfl rfl rfl (fun h515 => ?_)
        refine X.ifeq 33 31 i185_28 rfl rfl rfl (fun h516 => ?_) (fun h516 => ?_)
        · refine X.iinc 36 [(0, zr g0 8), (1, zi y1), (2, zi (y2 + v513)), (3, zi (y3 + 1))] i185_33 rfl rfl rfl (by omega) rfl ?_
          refine X.goto 4 i185_36 rfl rfl ?_
          exact ih (y2 + v513) (y3 + 1) m511 (B + 8) (hJ514.up (by omega)) (by omega)  (by omega) (by omega) (by omega) (by omega) (by omega) (by omega)
        · exact K31 (y2 + v513) y3 m511 (B + 8) (hJ514.up (by omega)) (by omega)  (by first | trivial | omega) (by first | trivial | omega) (by omega) (by omega) (by omega)
-- WorkMeter$Meter.secondsTillOpen
theorem c185_1 {s : Nat × (Nat → Int32)} {S : zS} {m0 m : zM} {B : Int} {d : Nat} {Q : Option zV → zM → Prop} (g0 : Nat) (a1 : Int) (hd : 18 ≤ d) (hJ : J S m0 B m) (hB : B + 28808 ≤ 1000000000) (ha1 : 3600 ≤ a1 ∧ a1 ≤ 3600) (hp0 : m g0 8 13 ≤ 1200000000) (hs0 : S.1 g0 8 9) (hs1 : S.1 g0 8 13) (hQ : ∀ (v : Int) m', ((-1999999999) ≤ v ∧ v ≤ 7199) → J S m0 (B + 28808) m' → Q (some (zi v)) m') : X (EE s) d 185 0 [(0, zr g0 8), (1, zi a1)] [] m Q := by
  refine X.iconst 1 i185_0 rfl rfl (by decide) ?_
  refine X.istore_n 2 [(0, zr g0 8), (1, zi a1), (2, zi 0)] i185_1 rfl rfl rfl ?_
  refine X.iconst 3 i185_2 rfl rfl (by decide) ?_
  refine X.istore_n 4 [(0, zr g0 8), (1, zi a1), (2, zi 0), (3, zi 0)] i185_3 rfl rfl rfl ?_
  refine l185_4_1 (s := s) (S := (zfr [(g0, 8, 9), (g0, 8, 13)] S)) (m0 := m) (d := d) g0 a1 (BE := B + 28808) (by omega) (by omega) (by omega) zm_z (zm_s zm_z) (fun y501 y502 m503 B504 hJ505 hBB504 hby501 hby502 hrlm5030 hrlm5031 hrlm5032 => ?_) (fun  m506 B507 hJ508 hBB507 hrlm5060 => ?_) ((3600 - 0 : Int).toNat + 1) 0 0 m (B) (hJ.ow.up (by omega)) (by omega)  (by omega) (by omega) (by omega) (by omega) (by omega) (by omega)
  · have hJ509 := hJ.trans hJ505 (zi_c hs0 (zi_c hs1 zi_n))
    refine X.iload_n 32 i185_31 rfl rfl rfl ?_
    refine X.reti i185_32 rfl t185 ?_
    exact hQ y501 m503 (by first | trivial | omega) (hJ509.up (by omega)) 
  · have hJ510 := hJ.trans hJ508 (zi_c hs0 (zi_c hs1 zi_n))
    refine X.iconst 40 i185_39 rfl rfl (by decide) ?_
    refine X.reti i185_40 rfl t185 ?_
    exact hQ (-1) m506 (by first | trivial | omega) (hJ510.up (by omega)) 
-- WorkMeter.lasts
theorem c184_1 {s : Nat × (Nat → Int32)} {S : zS} {m0 m : zM} {B : Int} {d : Nat} {Q : Option zV → zM → Prop} (hd : 19 ≤ d) (hJ : J S m0 B m) (hB : B + 28812 ≤ 1000000000) (hp0 : m 0 8 13 ≤ 1000000000) (hs0 : S.1 2 8 9) (hs1 : S.1 2 8 11) (hs2 : S.1 2 8 13) (hs3 : S.1 2 23 3) (hs4 : S.1 2 19 3) (hs5 : S.1 2 19 4) (hs6 : S.1 2 19 5) (hs7 : S.1 2 39 0) (hs8 : S.1 2 39 1) (hs9 : S.1 2 39 2) (hs10 : S.1 2 39 4) (hQ : ∀ (v : Int) m', ((-1999999999) ≤ v ∧ v ≤ 7199) → J S m0 (B + 28812) m' → Q (some (zi v)) m') : X (EE s) d 184 0 [(0, zr 4 40)] [] m Q := by
  refine X.aload_n 1 i184_0 rfl rfl rfl ?_
  refine X.getF 4 i184_1 rfl rfl (by decide) rfl rfl ?_
  refine X.getZ 7 12 i184_4 rfl rfl (by decide) rfl rfl rfl (fun h501 => ?_)
  refine X.ifeq 12 10 i184_7 rfl rfl rfl (fun h502 => ?_) (fun h502 => ?_)
  · refine X.aload_n 13 i184_12 rfl rfl rfl ?_
    refine X.getF 16 i184_13 rfl rfl (by decide) rfl rfl ?_
    refine X.getZ 19 11 i184_16 rfl rfl (by decide) rfl rfl rfl (fun h503 => ?_)
    refine X.ifne 24 22 i184_19 rfl rfl rfl (fun h504 => ?_) (fun h504 => ?_)
    · refine X.aload_n 25 i184_24 rfl rfl rfl ?_
      refine X.getF 28 i184_25 rfl rfl (by decide) rfl rfl ?_
      refine X.aload_n 29 i184_28 rfl rfl rfl ?_
      refine X.getF 32 i184_29 rfl rfl (by decide) rfl rfl ?_
      refine X.callv 35 [zr 0 8] [] [(0, zr 2 8), (1, zr 0 8)] i184_32 rfl (by decide) rfl rfl (by omega) rfl rfl (by decide) rfl t171 (Nat.le_of_ble_eq_true rfl) (Nat.le_of_ble_eq_true rfl) rfl ?_
      refine c171_1 (S := zfr [(2, 8, 9), (2, 8, 11), (2, 8, 13), (2, 23, 3), (2, 19, 3), (2, 19, 4), (2, 19, 5), (2, 39, 0), (2, 39, 1), (2, 39, 2), (2, 39, 4)] S) (m0 := m) (B := B) 2 0  (by omega) (hJ.ow.up (by omega)) (by omega) zm_z (zm_s zm_z) (zm_s (zm_s zm_z)) (zm_s (zm_s (zm_s zm_z))) (zm_s (zm_s (zm_s (zm_s zm_z)))) (zm_s (zm_s (zm_s (zm_s (zm_s zm_z))))) (zm_s (zm_s (zm_s (zm_s (zm_s (zm_s zm_z)))))) (zm_s (zm_s (zm_s (zm_s (zm_s (zm_s (zm_s zm_z))))))) (zm_s (zm_s (zm_s (zm_s (zm_s (zm_s (zm_s (zm_s zm_z)))))))) (zm_s (zm_s (zm_s (zm_s (zm_s (zm_s (zm_s (zm_s (zm_s zm_z))))))))) (zm_s (zm_s (zm_s (zm_s (zm_s (zm_s (zm_s (zm_s (zm_s (zm_s zm_z)))))))))) (fun m505 hJ506 hqv5070 => ?_)
      have hJ508 := hJ.trans hJ506 (zi_c hs0 (zi_c hs1 (zi_c hs2 (zi_c hs3 (zi_c hs4 (zi_c hs5 (zi_c hs6 (zi_c hs7 (zi_c hs8 (zi_c hs9 (zi_c hs10 zi_n)))))))))))
      have wt509 : m505 0 8 13 = (m 0 8 13) := hJ506.eq rfl rfl
      show X (EE s) d 184 35 [(0, zr 4 40)] [] m505 _
      refine X.aload_n 36 i184_35 rfl rfl rfl ?_
      refine X.getF 39 i184_36 rfl rfl (by decide) rfl rfl ?_
      refine X.sipush 42 i184_39 rfl rfl (by decide) ?_
      refine X.callv 45 [zi 3600] [] [(0, zr 2 8), (1, zi 3600)] i184_42 rfl (by decide) rfl rfl (by omega) rfl rfl (by decide) rfl t185 (Nat.le_of_ble_eq_true rfl) (Nat.le_of_ble_eq_true rfl) rfl ?_
      refine c185_1 (S := zfr [(2, 8, 9), (2, 8, 13)] S) (m0 := m505) (B := B + 4) 2 3600 (by omega) (hJ508.ow.up (by omega)) (by omega) (by omega) (by omega) zm_z (zm_s zm_z) (fun v512 m510 hv512 hJ511 => ?_)
      have hJ513 := hJ508.trans hJ511 (zi_c hs0 (zi_c hs2 zi_n))
      have wt514 : m510 2 8 11 = (m505 2 8 11) := hJ511.eq rfl rfl
      have wt515 : m510 2 23 3 = (m505 2 23 3) := hJ511.eq rfl rfl
      have wt516 : m510 2 19 3 = (m505 2 19 3) := hJ511.eq rfl rfl
      have wt517 : m510 2 19 4 = (m505 2 19 4) := hJ511.eq rfl rfl
      have wt518 : m510 2 19 5 = (m505 2 19 5) := hJ511.eq rfl rfl
      have wt519 : m510 2 39 0 = (m505 2 39 0) := hJ511.eq rfl rfl
      have wt520 : m510 2 39 1 = (m505 2 39 1) := hJ511.eq rfl rfl
      have wt521 : m510 2 39 2 = (m505 2 39 2) := hJ511.eq rfl rfl
      have wt522 : m510 2 39 4 = (m505 2 39 4) := hJ511.eq rfl rfl
      have wt523 : m510 0 8 13 = (m 0 8 13) := Eq.trans (hJ511.eq rfl rfl) wt509
      clear wt509
      show X (EE s) d 184 45 [(0, zr 4 40)] [zi v512] m510 _
      refine X.reti i184_45 rfl t184 ?_
      exact hQ v512 m510 (by first | trivial | omega) (hJ513.up (by omega)) 
    · refine X.iconst 23 i184_22 rfl rfl (by decide) ?_
      refine X.reti i184_23 rfl t184 ?_
      exact hQ (-1) m (by first | trivial | omega) (hJ.up (by omega)) 
  · refine X.iconst 11 i184_10 rfl rfl (by decide) ?_
    refine X.reti i184_11 rfl t184 ?_
    exact hQ 0 m (by first | trivial | omega) (hJ.up (by omega)) 
theorem l309_13_1 {s : Nat × (Nat → Int32)} {S : zS} {m0 : zM} {d : Nat} {Q : Option zV → zM → Prop} (BE : Int) (hE : BE ≤ 1000000000) (hd : 20 ≤ d) (hs0 : S.1 4 45 0) (hs1 : S.1 4 45 13)
    (K42 : ∀ (x1 : Int) (m' : zM) (B' : Int), J S m0 B' m' → B' ≤ BE → (0 ≤ x1 ∧ x1 ≤ 3600) → X (EE s) d 309 42 [(0, zr 4 44), (1, zi x1)] [] m' Q) :
    ∀ (n : Nat) (y1 : Int) (m : zM) (B : Int), J S m0 B m → B + 11 * (n : Int) ≤ BE → (0 ≤ y1 ∧ y1 ≤ 3600) → 3600 - y1 < (n : Int) → X (EE s) d 309 13 [(0, zr 4 44), (1, zi y1)] [] m Q := by
  intro n
  induction n with
  | zero =>
    intro y1 m B hJ hB  hy1 hn
    exfalso
    omega
  | succ n ih =>
    intro y1 m B hJ hB  hy1 hn
    refine X.iload_n 14 i309_13 rfl rfl rfl ?_
    refine X.sipush 17 i309_14 rfl rfl (by decide) ?_
    refine X.icmpge 42 20 i309_17 rfl rfl rfl (fun h529 => ?_) (fun h529 => ?_)
    · exact K42 y1 m (B) (hJ.up (by omega)) (by omega)  (by first | trivial | omega)
    · refine X.aload_n 21 i309_20 rfl rfl rfl ?_
      refine X.getF 24 i309_21 rfl rfl (by decide) rfl rfl ?_
      refine X.bipush 26 i309_24 rfl rfl (by decide) ?_
      refine X.lald 27 i309_26 rfl rfl (by decide) rfl (by omega) ?_
      have h530 := r45_12 hJ 4
      refine X.lconst (y := 0) 28 i309_27 rfl rfl rfl ?_
      refine X.lcmp 29 i309_28 rfl rfl (fun z531 hz531 => ?_)
      refine X.ifne 42 32 i309_29 rfl rfl rfl (fun h532 => ?_) (fun h532 => ?_)
      · have h532c : (m 4 45 12) ≠ 0 := by omega
        clear h532 hz531
        exact K42 y1 m (B) (hJ.up (by omega)) (by omega)  (by first | trivial | omega)
      · have h532c : (m 4 45 12) = 0 := by omega
        clear h532 hz531
        refine X.aload_n 33 i309_32 rfl rfl rfl ?_
        refine X.callv 36 [] [] [(0, zr 4 44)] i309_33 rfl (by decide) rfl rfl (by omega) rfl rfl (by decide) rfl t208 (Nat.le_of_ble_eq_true rfl) (Nat.le_of_ble_eq_true rfl) rfl ?_
        refine c208_1 (S := zfr [(4, 45, 0), (4, 45, 13)] S) (m0 := m) (B := B)   (by omega) (hJ.ow.up (by omega)) (by omega) zm_z (zm_s zm_z) (fun m533 hJ534 hqv5350 => ?_)
        have hJ536 := hJ.trans hJ534 (zi_c hs0 (zi_c hs1 zi_n))
        have wt537 : m533 4 45 1 = (m 4 45 1) := hJ534.eq rfl rfl
        have wt538 : m533 4 45 2 = (m 4 45 2) := hJ534.eq rfl rfl
        have wt539 : m533 4 45 3 = (m 4 45 3) := hJ534.eq rfl rfl
        have wt540 : m533 4 45 11 = (m 4 45 11) := hJ534.eq rfl rfl
        have wt541 : m533 4 45 18 = (m 4 45 18) := hJ534.eq rfl rfl
        have wt542 : m533 4 45 1614 = (m 4 45 1614) := hJ534.eq rfl rfl
        have wt543 : m533 4 45 1615 = (m 4 45 1615) := hJ534.eq rfl rfl
        have wt544 : m533 4 45 1616 = (m 4 45 1616) := hJ534.eq rfl rfl
        have wt545 : m533 4 45 1617 = (m 4 45 1617) := hJ534.eq rfl rfl
        have wt546 : m533 4 46 0 = (m 4 46 0) := hJ534.eq rfl rfl
        have wt547 : m533 4 46 1 = (m 4 46 1) := hJ534.eq rfl rfl
        have wt548 : m533 4 46 2 = (m 4 46 2) := hJ534.eq rfl rfl
        have wt549 : m533 4 46 3 = (m 4 46 3) := hJ534.eq rfl rfl
        have wt550 : m533 4 46 11 = (m 4 46 11) := hJ534.eq rfl rfl
        have wt551 : m533 4 46 13 = (m 4 46 13) := hJ534.eq rfl rfl
        have wt552 : m533 4 46 18 = (m 4 46 18) := hJ534.eq rfl rfl
        have wt553 : m533 4 46 1614 = (m 4 46 1614) := hJ534.eq rfl rfl
        have wt554 : m533 4 46 1615 = (m 4 46 1615) := hJ534.eq rfl rfl
        have wt555 : m533 4 46 1616 = (m 4 46 1616) := hJ534.eq rfl rfl
        have wt556 : m533 4 46 1617 = (m 4 46 1617) := hJ534.eq rfl rfl
        show X (EE s) d 309 36 [(0, zr 4 44), (1, zi y1)] [] m533 _
        refine X.iinc 39 [(0, zr 4 44), (1, zi (y1 + 1))] i309_36 rfl rfl rfl (by omega) rfl ?_
        refine X.goto 13 i309_39 rfl rfl ?_
        exact ih (y1 + 1) m533 (B + 11) (hJ536.up (by omega)) (by omega)  (by omega) (by omega)
-- WorkMeterModel.lasts
theorem c309_1 {s : Nat × (Nat → Int32)} {S : zS} {m0 m : zM} {B : Int} {d : Nat} {Q : Option zV → zM → Prop} (hd : 20 ≤ d) (hJ : J S m0 B m) (hB : B + 39611 ≤ 1000000000) (hs0 : S.1 4 45 0) (hs1 : S.1 4 45 1) (hs2 : S.1 4 45 2) (hs3 : S.1 4 45 3) (hs4 : S.1 4 45 11) (hs5 : S.1 4 45 13) (hs6 : S.1 4 45 18) (hs7 : S.1 4 45 1614) (hs8 : S.1 4 45 1615) (hs9 : S.1 4 45 1616) (hs10 : S.1 4 45 1617) (hs11 : S.1 4 46 0) (hs12 : S.1 4 46 1) (hs13 : S.1 4 46 2) (hs14 : S.1 4 46 3) (hs15 : S.1 4 46 11) (hs16 : S.1 4 46 13) (hs17 : S.1 4 46 18) (hs18 : S.1 4 46 1614) (hs19 : S.1 4 46 1615) (hs20 : S.1 4 46 1616) (hs21 : S.1 4 46 1617) (hQ : ∀ (v : Int) m', ((-1) ≤ v ∧ v ≤ 3600) → J S m0 (B + 39611) m' → (m' 4 45 0 = m 4 45 0 ∧ m' 4 45 1 = m 4 45 1 ∧ m' 4 45 2 = m 4 45 2 ∧ m' 4 45 3 = m 4 45 3 ∧ m' 4 45 11 = m 4 45 11 ∧ m' 4 45 13 = m 4 45 13 ∧ m' 4 45 18 = m 4 45 18 ∧ m' 4 45 1614 = m 4 45 1614 ∧ m' 4 45 1615 = m 4 45 1615 ∧ m' 4 45 1616 = m 4 45 1616 ∧ m' 4 45 1617 = m 4 45 1617) → Q (some (zi v)) m') : X (EE s) d 309 0 [(0, zr 4 44)] [] m Q := by
  refine X.aload_n 1 i309_0 rfl rfl rfl ?_
  refine X.getF 4 i309_1 rfl rfl (by decide) rfl rfl ?_
  refine X.aload_n 5 i309_4 rfl rfl rfl ?_
  refine X.getF 8 i309_5 rfl rfl (by decide) rfl rfl ?_
  refine X.calls 11 [zr 4 45, zr 4 46] [] [(0, zr 4 45), (1, zr 4 46)] i309_8 (by decide) rfl rfl (by omega) rfl rfl t261 (Nat.le_of_ble_eq_true rfl) (Nat.le_of_ble_eq_true rfl) rfl ?_
  refine c_cq_45_46 (B := B)   (by omega) (hJ.up (by omega)) (by omega) hs11 hs12 hs13 hs14 hs15 hs16 hs17 hs18 hs19 hs20 hs21 (fun m501 hJ502 hqv5030 => ?_)
  have wt504 : m501 4 45 0 = (m 4 45 0) := by rw [hqv5030]; exact z_cpy_o rfl
  have wt505 : m501 4 45 1 = (m 4 45 1) := by rw [hqv5030]; exact z_cpy_o rfl
  have wt506 : m501 4 45 2 = (m 4 45 2) := by rw [hqv5030]; exact z_cpy_o rfl
  have wt507 : m501 4 45 3 = (m 4 45 3) := by rw [hqv5030]; exact z_cpy_o rfl
  have wt508 : m501 4 45 11 = (m 4 45 11) := by rw [hqv5030]; exact z_cpy_o rfl
  have wt509 : m501 4 45 13 = (m 4 45 13) := by rw [hqv5030]; exact z_cpy_o rfl
  have wt510 : m501 4 45 18 = (m 4 45 18) := by rw [hqv5030]; exact z_cpy_o rfl
  have wt511 : m501 4 45 1614 = (m 4 45 1614) := by rw [hqv5030]; exact z_cpy_o rfl
  have wt512 : m501 4 45 1615 = (m 4 45 1615) := by rw [hqv5030]; exact z_cpy_o rfl
  have wt513 : m501 4 45 1616 = (m 4 45 1616) := by rw [hqv5030]; exact z_cpy_o rfl
  have wt514 : m501 4 45 1617 = (m 4 45 1617) := by rw [hqv5030]; exact z_cpy_o rfl
  have wt515 : m501 4 46 0 = (m 4 45 0) := by rw [hqv5030]; exact (z_cpy_at (by omega))
  have wt516 : m501 4 46 1 = (m 4 45 1) := by rw [hqv5030]; exact (z_cpy_at (by omega))
  have wt517 : m501 4 46 2 = (m 4 45 2) := by rw [hqv5030]; exact (z_cpy_at (by omega))
  have wt518 : m501 4 46 3 = (m 4 45 3) := by rw [hqv5030]; exact (z_cpy_at (by omega))
  have wt519 : m501 4 46 11 = (m 4 45 11) := by rw [hqv5030]; exact (z_cpy_at (by omega))
  have wt520 : m501 4 46 13 = (m 4 45 13) := by rw [hqv5030]; exact (z_cpy_at (by omega))
  have wt521 : m501 4 46 18 = (m 4 45 18) := by rw [hqv5030]; exact (z_cpy_at (by omega))
  have wt522 : m501 4 46 1614 = (m 4 45 1614) := by rw [hqv5030]; exact (z_cpy_at (by omega))
  have wt523 : m501 4 46 1615 = (m 4 45 1615) := by rw [hqv5030]; exact (z_cpy_at (by omega))
  have wt524 : m501 4 46 1616 = (m 4 45 1616) := by rw [hqv5030]; exact (z_cpy_at (by omega))
  have wt525 : m501 4 46 1617 = (m 4 45 1617) := by rw [hqv5030]; exact (z_cpy_at (by omega))
  show X (EE s) d 309 11 [(0, zr 4 44)] [] m501 _
  refine X.iconst 12 i309_11 rfl rfl (by decide) ?_
  refine X.istore_n 13 [(0, zr 4 44), (1, zi 0)] i309_12 rfl rfl rfl ?_
  refine l309_13_1 (s := s) (S := (zfr [(4, 45, 0), (4, 45, 13)] (S.1, True, S.2.2))) (m0 := m501) (d := d)   (BE := B + 39611) (by omega) (by omega) zm_z (zm_s zm_z) (fun y526 m527 B528 hJ529 hBB528 hby526 => ?_) ((3600 - 0 : Int).toNat + 1) 0 m501 (B) (hJ502.ow.up (by omega)) (by omega)  (by omega) (by omega)
  have hJ530 := hJ502.trans hJ529 (zi_c hs0 (zi_c hs5 zi_n))
  have wt531 : m527 4 45 1 = (m 4 45 1) := Eq.trans (hJ529.eq rfl rfl) wt505
  have wt532 : m527 4 45 2 = (m 4 45 2) := Eq.trans (hJ529.eq rfl rfl) wt506
  have wt533 : m527 4 45 3 = (m 4 45 3) := Eq.trans (hJ529.eq rfl rfl) wt507
  have wt534 : m527 4 45 11 = (m 4 45 11) := Eq.trans (hJ529.eq rfl rfl) wt508
  have wt535 : m527 4 45 18 = (m 4 45 18) := Eq.trans (hJ529.eq rfl rfl) wt510
  have wt536 : m527 4 45 1614 = (m 4 45 1614) := Eq.trans (hJ529.eq rfl rfl) wt511
  have wt537 : m527 4 45 1615 = (m 4 45 1615) := Eq.trans (hJ529.eq rfl rfl) wt512
  have wt538 : m527 4 45 1616 = (m 4 45 1616) := Eq.trans (hJ529.eq rfl rfl) wt513
  have wt539 : m527 4 45 1617 = (m 4 45 1617) := Eq.trans (hJ529.eq rfl rfl) wt514
  have wt540 : m527 4 46 0 = (m 4 45 0) := Eq.trans (hJ529.eq rfl rfl) wt515
  have wt541 : m527 4 46 1 = (m 4 45 1) := Eq.trans (hJ529.eq rfl rfl) wt516
  have wt542 : m527 4 46 2 = (m 4 45 2) := Eq.trans (hJ529.eq rfl rfl) wt517
  have wt543 : m527 4 46 3 = (m 4 45 3) := Eq.trans (hJ529.eq rfl rfl) wt518
  have wt544 : m527 4 46 11 = (m 4 45 11) := Eq.trans (hJ529.eq rfl rfl) wt519
  have wt545 : m527 4 46 13 = (m 4 45 13) := Eq.trans (hJ529.eq rfl rfl) wt520
  have wt546 : m527 4 46 18 = (m 4 45 18) := Eq.trans (hJ529.eq rfl rfl) wt521
  have wt547 : m527 4 46 1614 = (m 4 45 1614) := Eq.trans (hJ529.eq rfl rfl) wt522
  have wt548 : m527 4 46 1615 = (m 4 45 1615) := Eq.trans (hJ529.eq rfl rfl) wt523
  have wt549 : m527 4 46 1616 = (m 4 45 1616) := Eq.trans (hJ529.eq rfl rfl) wt524
  have wt550 : m527 4 46 1617 = (m 4 45 1617) := Eq.trans (hJ529.eq rfl rfl) wt525
  refine X.aload_n 43 i309_42 rfl rfl rfl ?_
  refine X.getF 46 i309_43 rfl rfl (by decide) rfl rfl ?_
  refine X.bipush 48 i309_46 rfl rfl (by decide) ?_
  refine X.lald 49 i309_48 rfl rfl (by decide) rfl (by omega) ?_
  have h551 := r45_12 hJ530 4
  refine X.lconst (y := 1) 50 i309_49 rfl rfl rfl ?_
  refine X.lcmp 51 i309_50 rfl rfl (fun z552 hz552 => ?_)
  refine X.ifne 58 54 i309_51 rfl rfl rfl (fun h553 => ?_) (fun h553 => ?_)
  · have h553c : (m527 4 45 12) ≠ 1 := by omega
    clear h553 hz552
    refine X.iconst 59 i309_58 rfl rfl (by decide) ?_
    refine X.istore_n 60 [(0, zr 4 44), (1, zi y526), (2, zi 0)] i309_59 rfl rfl rfl ?_
    refine X.aload_n 61 i309_60 rfl rfl rfl ?_
    refine X.getF 64 i309_61 rfl rfl (by decide) rfl rfl ?_
    refine X.aload_n 65 i309_64 rfl rfl rfl ?_
    refine X.getF 68 i309_65 rfl rfl (by decide) rfl rfl ?_
    refine X.calls 71 [zr 4 46, zr 4 45] [] [(0, zr 4 46), (1, zr 4 45)] i309_68 (by decide) rfl rfl (by omega) rfl rfl t261 (Nat.le_of_ble_eq_true rfl) (Nat.le_of_ble_eq_true rfl) rfl ?_
    refine c_cq_46_45 (B := B528)   (by omega) (hJ530.up (by omega)) (by omega) trivial hs0 hs1 hs2 hs3 hs4 hs5 hs6 hs7 hs8 hs9 hs10 (fun m554 hJ555 hqv5560 => ?_)
    have wt557 : m554 4 45 0 = (m 4 45 0) := by rw [hqv5560]; exact (z_cpy_at (by omega)).trans wt540
    have wt558 : m554 4 45 1 = (m 4 45 1) := by rw [hqv5560]; exact (z_cpy_at (by omega)).trans wt541
    have wt559 : m554 4 45 2 = (m 4 45 2) := by rw [hqv5560]; exact (z_cpy_at (by omega)).trans wt542
    have wt560 : m554 4 45 3 = (m 4 45 3) := by rw [hqv5560]; exact (z_cpy_at (by omega)).trans wt543
    have wt561 : m554 4 45 11 = (m 4 45 11) := by rw [hqv5560]; exact (z_cpy_at (by omega)).trans wt544
    have wt562 : m554 4 45 13 = (m 4 45 13) := by rw [hqv5560]; exact (z_cpy_at (by omega)).trans wt545
    have wt563 : m554 4 45 18 = (m 4 45 18) := by rw [hqv5560]; exact (z_cpy_at (by omega)).trans wt546
    have wt564 : m554 4 45 1614 = (m 4 45 1614) := by rw [hqv5560]; exact (z_cpy_at (by omega)).trans wt547
    have wt565 : m554 4 45 1615 = (m 4 45 1615) := by rw [hqv5560]; exact (z_cpy_at (by omega)).trans wt548
    have wt566 : m554 4 45 1616 = (m 4 45 1616) := by rw [hqv5560]; exact (z_cpy_at (by omega)).trans wt549
    have wt567 : m554 4 45 1617 = (m 4 45 1617) := by rw [hqv5560]; exact (z_cpy_at (by omega)).trans wt550
    have wt568 : m554 4 46 0 = (m 4 45 0) := Eq.trans (by rw [hqv5560]; exact z_cpy_o rfl) wt540
    have wt569 : m554 4 46 1 = (m 4 45 1) := Eq.trans (by rw [hqv5560]; exact z_cpy_o rfl) wt541
    have wt570 : m554 4 46 2 = (m 4 45 2) := Eq.trans (by rw [hqv5560]; exact z_cpy_o rfl) wt542
    have wt571 : m554 4 46 3 = (m 4 45 3) := Eq.trans (by rw [hqv5560]; exact z_cpy_o rfl) wt543
    have wt572 : m554 4 46 11 = (m 4 45 11) := Eq.trans (by rw [hqv5560]; exact z_cpy_o rfl) wt544
    have wt573 : m554 4 46 13 = (m 4 45 13) := Eq.trans (by rw [hqv5560]; exact z_cpy_o rfl) wt545
    have wt574 : m554 4 46 18 = (m 4 45 18) := Eq.trans (by rw [hqv5560]; exact z_cpy_o rfl) wt546
    have wt575 : m554 4 46 1614 = (m 4 45 1614) := Eq.trans (by rw [hqv5560]; exact z_cpy_o rfl) wt547
    have wt576 : m554 4 46 1615 = (m 4 45 1615) := Eq.trans (by rw [hqv5560]; exact z_cpy_o rfl) wt548
    have wt577 : m554 4 46 1616 = (m 4 45 1616) := Eq.trans (by rw [hqv5560]; exact z_cpy_o rfl) wt549
    have wt578 : m554 4 46 1617 = (m 4 45 1617) := Eq.trans (by rw [hqv5560]; exact z_cpy_o rfl) wt550
    show X (EE s) d 309 71 [(0, zr 4 44), (1, zi y526), (2, zi 0)] [] m554 _
    refine X.iload_n 72 i309_71 rfl rfl rfl ?_
    refine X.ifeq 79 75 i309_72 rfl rfl rfl (fun h579 => ?_) (fun h579 => (by exfalso; omega))
    refine X.cut [] i309_79 rfl ?_
    refine X.iconst 80 i309_79 rfl rfl (by decide) ?_
    refine X.reti i309_80 rfl t309 ?_
    exact hQ (-1) m554 (by first | trivial | omega) ((hJ555.wk (S := S) (fun h => by first | trivial | exact h) (fun h => by first | trivial | exact h)).up (by omega)) (by exact ⟨by omega, by omega, by omega, by omega, by omega, by omega, by omega, by omega, by omega, by omega, by omega⟩)
  · have h553c : (m527 4 45 12) = 1 := by omega
    clear h553 hz552
    refine X.iconst 55 i309_54 rfl rfl (by decide) ?_
    refine X.goto 59 i309_55 rfl rfl ?_
    refine X.istore_n 60 [(0, zr 4 44), (1, zi y526), (2, zi 1)] i309_59 rfl rfl rfl ?_
    refine X.aload_n 61 i309_60 rfl rfl rfl ?_
    refine X.getF 64 i309_61 rfl rfl (by decide) rfl rfl ?_
    refine X.aload_n 65 i309_64 rfl rfl rfl ?_
    refine X.getF 68 i309_65 rfl rfl (by decide) rfl rfl ?_
    refine X.calls 71 [zr 4 46, zr 4 45] [] [(0, zr 4 46), (1, zr 4 45)] i309_68 (by decide) rfl rfl (by omega) rfl rfl t261 (Nat.le_of_ble_eq_true rfl) (Nat.le_of_ble_eq_true rfl) rfl ?_
    refine c_cq_46_45 (B := B528)   (by omega) (hJ530.up (by omega)) (by omega) trivial hs0 hs1 hs2 hs3 hs4 hs5 hs6 hs7 hs8 hs9 hs10 (fun m580 hJ581 hqv5820 => ?_)
    have wt583 : m580 4 45 0 = (m 4 45 0) := by rw [hqv5820]; exact (z_cpy_at (by omega)).trans wt540
    have wt584 : m580 4 45 1 = (m 4 45 1) := by rw [hqv5820]; exact (z_cpy_at (by omega)).trans wt541
    have wt585 : m580 4 45 2 = (m 4 45 2) := by rw [hqv5820]; exact (z_cpy_at (by omega)).trans wt542
    have wt586 : m580 4 45 3 = (m 4 45 3) := by rw [hqv5820]; exact (z_cpy_at (by omega)).trans wt543
    have wt587 : m580 4 45 11 = (m 4 45 11) := by rw [hqv5820]; exact (z_cpy_at (by omega)).trans wt544
    have wt588 : m580 4 45 13 = (m 4 45 13) := by rw [hqv5820]; exact (z_cpy_at (by omega)).trans wt545
    have wt589 : m580 4 45 18 = (m 4 45 18) := by rw [hqv5820]; exact (z_cpy_at (by omega)).trans wt546
    have wt590 : m580 4 45 1614 = (m 4 45 1614) := by rw [hqv5820]; exact (z_cpy_at (by omega)).trans wt547
    have wt591 : m580 4 45 1615 = (m 4 45 1615) := by rw [hqv5820]; exact (z_cpy_at (by omega)).trans wt548
    have wt592 : m580 4 45 1616 = (m 4 45 1616) := by rw [hqv5820]; exact (z_cpy_at (by omega)).trans wt549
    have wt593 : m580 4 45 1617 = (m 4 45 1617) := by rw [hqv5820]; exact (z_cpy_at (by omega)).trans wt550
    have wt594 : m580 4 46 0 = (m 4 45 0) := Eq.trans (by rw [hqv5820]; exact z_cpy_o rfl) wt540
    have wt595 : m580 4 46 1 = (m 4 45 1) := Eq.trans (by rw [hqv5820]; exact z_cpy_o rfl) wt541
    have wt596 : m580 4 46 2 = (m 4 45 2) := Eq.trans (by rw [hqv5820]; exact z_cpy_o rfl) wt542
    have wt597 : m580 4 46 3 = (m 4 45 3) := Eq.trans (by rw [hqv5820]; exact z_cpy_o rfl) wt543
    have wt598 : m580 4 46 11 = (m 4 45 11) := Eq.trans (by rw [hqv5820]; exact z_cpy_o rfl) wt544
    have wt599 : m580 4 46 13 = (m 4 45 13) := Eq.trans (by rw [hqv5820]; exact z_cpy_o rfl) wt545
    have wt600 : m580 4 46 18 = (m 4 45 18) := Eq.trans (by rw [hqv5820]; exact z_cpy_o rfl) wt546
    have wt601 : m580 4 46 1614 = (m 4 45 1614) := Eq.trans (by rw [hqv5820]; exact z_cpy_o rfl) wt547
    have wt602 : m580 4 46 1615 = (m 4 45 1615) := Eq.trans (by rw [hqv5820]; exact z_cpy_o rfl) wt548
    have wt603 : m580 4 46 1616 = (m 4 45 1616) := Eq.trans (by rw [hqv5820]; exact z_cpy_o rfl) wt549
    have wt604 : m580 4 46 1617 = (m 4 45 1617) := Eq.trans (by rw [hqv5820]; exact z_cpy_o rfl) wt550
    show X (EE s) d 309 71 [(0, zr 4 44), (1, zi y526), (2, zi 1)] [] m580 _
    refine X.iload_n 72 i309_71 rfl rfl rfl ?_
    refine X.ifeq 79 75 i309_72 rfl rfl rfl (fun h605 => (by exfalso; omega)) (fun h605 => ?_)
    refine X.iload_n 76 i309_75 rfl rfl rfl ?_
    refine X.goto 80 i309_76 rfl rfl ?_
    refine X.cut [] i309_80 rfl ?_
    refine X.reti i309_80 rfl t309 ?_
    exact hQ y526 m580 (by first | trivial | omega) ((hJ581.wk (S := S) (fun h => by first | trivial | exact h) (fun h => by first | trivial | exact h)).up (by omega)) (by exact ⟨by omega, by omega, by omega, by omega, by omega, by omega, by omega, by omega, by omega, by omega, by omega⟩)
-- WorkMeter.lost
theorem c186_1 {s : Nat × (Nat → Int32)} {S : zS} {m0 m : zM} {B : Int} {d : Nat} {Q : Option zV → zM → Prop} (a1 : Int) (hd : 13 ≤ d) (hJ : J S m0 B m) (hB : B + 0 ≤ 1000000000) (ha1 : (-2147483648) ≤ a1 ∧ a1 ≤ 2147483647) (hQ : ∀ (v : Int), (True) → Q (some (zl v)) m) : X (EE s) d 186 0 [(0, zr 4 40), (1, zi a1)] [] m Q := by
  refine X.iload_n 1 i186_0 rfl rfl rfl ?_
  refine X.iflt 24 4 i186_1 rfl rfl rfl (fun h501 => ?_) (fun h501 => ?_)
  · refine X.cut [] i186_24 rfl ?_
    refine X.ldc2 27 i186_24 rfl rfl (by decide) ?_
    refine X.retl i186_27 rfl t186 ?_
    exact hQ (-1) (by first | trivial | omega) 
  · refine X.iload_n 5 i186_4 rfl rfl rfl ?_
    refine X.iconst 6 i186_5 rfl rfl (by decide) ?_
    refine X.icmpge 24 9 i186_6 rfl rfl rfl (fun h502 => ?_) (fun h502 => ?_)
    · refine X.cut [] i186_24 rfl ?_
      refine X.ldc2 27 i186_24 rfl rfl (by decide) ?_
      refine X.retl i186_27 rfl t186 ?_
      exact hQ (-1) (by first | trivial | omega) 
    · refine X.aload_n 10 i186_9 rfl rfl rfl ?_
      refine X.getF 13 i186_10 rfl rfl (by decide) rfl rfl ?_
      refine X.getR 16 i186_13 rfl rfl (by decide) rfl rfl ?_
      refine X.getR 19 i186_16 rfl rfl (by decide) rfl rfl ?_
      refine X.iload_n 20 i186_19 rfl rfl rfl ?_
      refine X.lald 21 i186_20 rfl rfl (by decide) rfl (by omega) ?_
      refine X.goto 27 i186_21 rfl rfl ?_
      refine X.cut [] i186_27 rfl ?_
      refine X.retl i186_27 rfl t186 ?_
      exact hQ (m 0 29 a1) (by first | trivial | omega) 
-- WorkMeterModel.lost
theorem c310_1 {s : Nat × (Nat → Int32)} {S : zS} {m0 m : zM} {B : Int} {d : Nat} {Q : Option zV → zM → Prop} (a1 : Int) (hd : 13 ≤ d) (hJ : J S m0 B m) (hB : B + 0 ≤ 1000000000) (ha1 : (-2147483648) ≤ a1 ∧ a1 ≤ 2147483647) (hQ : ∀ (v : Int), (True) → Q (some (zl v)) m) : X (EE s) d 310 0 [(0, zr 4 44), (1, zi a1)] [] m Q := by
  refine X.iload_n 1 i310_0 rfl rfl rfl ?_
  refine X.i2l 2 i310_1 rfl rfl ?_
  refine X.lconst (y := 0) 3 i310_2 rfl rfl rfl ?_
  refine X.ldc2 6 i310_3 rfl rfl (by decide) ?_
  refine X.calls 9 [zl a1, zl 0, zl 3] [] [(0, zl a1), (2, zl 0), (4, zl 3)] i310_6 (by decide) rfl rfl (by omega) rfl rfl t204 (Nat.le_of_ble_eq_true rfl) (Nat.le_of_ble_eq_true rfl) rfl ?_
  refine X.lload_n 1 i204_0 rfl rfl rfl ?_
  refine X.lload_n 2 i204_1 rfl rfl rfl ?_
  refine X.lcmp 3 i204_2 rfl rfl (fun z501 hz501 => ?_)
  refine X.iflt 17 6 i204_3 rfl rfl rfl (fun h502 => ?_) (fun h502 => ?_)
  · have h502c : a1 < 0 := by omega
    clear h502 hz501
    refine X.cut [] i204_17 rfl ?_
    refine X.iconst 18 i204_17 rfl rfl (by decide) ?_
    refine X.retz i204_18 rfl t204 (by omega) ?_
    show X (EE s) d 310 9 [(0, zr 4 44), (1, zi a1)] [zi 0] m _
    refine X.ifeq 25 12 i310_9 rfl rfl rfl (fun h503 => ?_) (fun h503 => (by exfalso; omega))
    refine X.cut [] i310_25 rfl ?_
    refine X.ldc2 28 i310_25 rfl rfl (by decide) ?_
    refine X.retl i310_28 rfl t310 ?_
    exact hQ (-1) (by first | trivial | omega) 
  · have h502c : a1 ≥ 0 := by omega
    clear h502 hz501
    refine X.lload_n 7 i204_6 rfl rfl rfl ?_
    refine X.lload 9 i204_7 rfl rfl rfl ?_
    refine X.lcmp 10 i204_9 rfl rfl (fun z504 hz504 => ?_)
    refine X.ifgt 17 13 i204_10 rfl rfl rfl (fun h505 => ?_) (fun h505 => ?_)
    · have h505c : a1 > 3 := by omega
      clear h505 hz504
      refine X.cut [] i204_17 rfl ?_
      refine X.iconst 18 i204_17 rfl rfl (by decide) ?_
      refine X.retz i204_18 rfl t204 (by omega) ?_
      show X (EE s) d 310 9 [(0, zr 4 44), (1, zi a1)] [zi 0] m _
      refine X.ifeq 25 12 i310_9 rfl rfl rfl (fun h506 => ?_) (fun h506 => (by exfalso; omega))
      refine X.cut [] i310_25 rfl ?_
      refine X.ldc2 28 i310_25 rfl rfl (by decide) ?_
      refine X.retl i310_28 rfl t310 ?_
      exact hQ (-1) (by first | trivial | omega) 
    · have h505c : a1 ≤ 3 := by omega
      clear h505 hz504
      refine X.iconst 14 i204_13 rfl rfl (by decide) ?_
      refine X.goto 18 i204_14 rfl rfl ?_
      refine X.cut [] i204_18 rfl ?_
      refine X.retz i204_18 rfl t204 (by omega) ?_
      show X (EE s) d 310 9 [(0, zr 4 44), (1, zi a1)] [zi 1] m _
      refine X.ifeq 25 12 i310_9 rfl rfl rfl (fun h507 => (by exfalso; omega)) (fun h507 => ?_)
      refine X.aload_n 13 i310_12 rfl rfl rfl ?_
      refine X.getF 16 i310_13 rfl rfl (by decide) rfl rfl ?_
      refine X.sipush 19 i310_16 rfl rfl (by decide) ?_
      refine X.iload_n 20 i310_19 rfl rfl rfl ?_
      refine X.iadd 21 i310_20 rfl rfl (by omega) ?_
      refine X.lald 22 i310_21 rfl rfl (by decide) rfl (by omega) ?_
      refine X.goto 28 i310_22 rfl rfl ?_
      refine X.cut [] i310_28 rfl ?_
      refine X.retl i310_28 rfl t310 ?_
      exact hQ (m 4 45 (1607 + a1)) (by first | trivial | omega) 
theorem l68_5_2 {s : Nat × (Nat → Int32)} {S : zS} {m0 m : zM} {B : Int} {d : Nat} {Q : Option zV → zM → Prop} (g0 : Nat) (y1 y2 : Int) (hd : 13 ≤ d) (hJ : J S m0 B m) (hB9 : B ≤ 1000000000) (hy1 : 0 ≤ y1 ∧ y1 ≤ 0) (hy2 : 1 ≤ y2 ∧ y2 ≤ 64)
    (K29 : ∀ (x3 : Int) , (True) → (y1 + y2 ≤ m g0 27 2) → X (EE s) d 68 29 [(3, zl x3)] [] m Q) :
    ∀ (n : Nat) (y3 y5 : Int) , (0 ≤ y5 ∧ y5 ≤ 64) → (y1 ≤ y5) → (y1 + y2 ≤ m g0 27 2) → 64 - y5 < (n : Int) → X (EE s) d 68 5 [(0, zr g0 27), (1, zi y1), (2, zi y2), (3, zl y3), (5, zi y5)] [] m Q := by
  intro n
  induction n with
  | zero =>
    intro y3 y5 hy5 hr0 hr1 hn
    exfalso
    omega
  | succ n ih =>
    intro y3 y5 hy5 hr0 hr1 hn
    refine X.iload 7 i68_5 rfl rfl rfl ?_
    refine X.iload_n 8 i68_7 rfl rfl rfl ?_
    refine X.iload_n 9 i68_8 rfl rfl rfl ?_
    refine X.iadd 10 i68_9 rfl rfl (by omega) ?_
    refine X.icmpge 29 13 i68_10 rfl rfl rfl (fun h507 => ?_) (fun h507 => ?_)
    · refine X.cut [(3, zl y3)] i68_29 rfl ?_
      exact K29 y3 (by first | trivial | omega) (by omega)
    · refine X.lload_n 14 i68_13 rfl rfl rfl ?_
      refine X.aload_n 15 i68_14 rfl rfl rfl ?_
      refine X.iload 17 i68_15 rfl rfl rfl ?_
      refine X.iconst 18 i68_17 rfl rfl (by decide) ?_
      refine X.callv 21 [zi y5, zi 1] [zl y3] [(0, zr g0 27), (1, zi y5), (2, zi 1)] i68_18 rfl (by decide) rfl rfl (by omega) rfl rfl (by decide) rfl t67 (Nat.le_of_ble_eq_true rfl) (Nat.le_of_ble_eq_true rfl) rfl ?_
      refine X.aload_n 1 i67_0 rfl rfl rfl ?_
      refine X.getR 4 i67_1 rfl rfl (by decide) rfl rfl ?_
      refine X.aload_n 5 i67_4 rfl rfl rfl ?_
      refine X.getI 8 2 i67_5 rfl rfl (by decide) rfl rfl rfl ?_
      have h508 := r27_2 hJ g0
      refine X.iconst 9 i67_8 rfl rfl (by decide) ?_
      refine X.isub 10 i67_9 rfl rfl (by omega) ?_
      refine X.iload_n 11 i67_10 rfl rfl rfl ?_
      refine X.isub 12 i67_11 rfl rfl (by omega) ?_
      refine X.bipush 14 i67_12 rfl rfl (by decide) ?_
      refine X.irem 15 i67_14 rfl rfl (by omega) ?_
      refine X.bipush 17 i67_15 rfl rfl (by decide) ?_
      refine X.imul 18 i67_17 rfl rfl (by omega) ?_
      refine X.iload_n 19 i67_18 rfl rfl rfl ?_
      refine X.iadd 20 i67_19 rfl rfl (by omega) ?_
      refine X.lald 21 i67_20 rfl rfl (by decide) rfl (by omega) ?_
      refine X.retl i67_21 rfl t67 ?_
      show X (EE s) d 68 21 [(0, zr g0 27), (1, zi y1), (2, zi y2), (3, zl y3), (5, zi y5)] [zl (m g0 28 ((((((m g0 27 2) - 1) - y5) % 64) * 6) + 1)), zl y3] m _
      refine X.llF 22 .ladd (fun x y => x + y) i68_21 rfl rfl rfl (fun _ _ => rfl) (fun z509 hz509 => ?_)
      refine X.lstore_n 23 [(0, zr g0 27), (1, zi y1), (2, zi y2), (3, zl z509), (5, zi y5)] i68_22 rfl rfl rfl ?_
      refine X.iinc 26 [(0, zr g0 27), (1, zi y1), (2, zi y2), (3, zl z509), (5, zi (y5 + 1))] i68_23 rfl rfl rfl (by omega) rfl ?_
      refine X.goto 5 i68_26 rfl rfl ?_
      exact ih z509 (y5 + 1) (by omega) (by omega) (by omega) (by omega)
-- WorkMeter$Load.importOf
theorem c68_2 {s : Nat × (Nat → Int32)} {S : zS} {m0 m : zM} {B : Int} {d : Nat} {Q : Option zV → zM → Prop} (g0 : Nat) (a1 a2 : Int) (hd : 13 ≤ d) (hJ : J S m0 B m) (hB : B + 0 ≤ 1000000000) (ha1 : 0 ≤ a1 ∧ a1 ≤ 0) (ha2 : 1 ≤ a2 ∧ a2 ≤ 64) (hp0 : 0 ≤ a1) (hp1 : a1 + a2 ≤ m g0 27 2) (hQ : ∀ (v : Int), (True) → Q (some (zl v)) m) : X (EE s) d 68 0 [(0, zr g0 27), (1, zi a1), (2, zi a2)] [] m Q := by
  refine X.lconst (y := 0) 1 i68_0 rfl rfl rfl ?_
  refine X.lstore_n 2 [(0, zr g0 27), (1, zi a1), (2, zi a2), (3, zl 0)] i68_1 rfl rfl rfl ?_
  refine X.iload_n 3 i68_2 rfl rfl rfl ?_
  refine X.istore 5 [(0, zr g0 27), (1, zi a1), (2, zi a2), (3, zl 0), (5, zi a1)] i68_3 rfl rfl rfl ?_
  refine l68_5_2 (s := s) (S := S) (m0 := m0) (m := m) (B := B) (d := d) g0 a1 a2 (by omega) (hJ.up (by omega)) (by omega) (by omega) (by omega) (fun y501 hby501 hrlm5020 => ?_) ((64 - a1 : Int).toNat + 1) 0 a1 (by omega) (by omega) (by omega) (by omega)
  refine X.lload_n 30 i68_29 rfl rfl rfl ?_
  refine X.retl i68_30 rfl t68 ?_
  exact hQ y501 (by first | trivial | omega) 
theorem l188_16_1 {s : Nat × (Nat → Int32)} {S : zS} {m0 m : zM} {B : Int} {d : Nat} {Q : Option zV → zM → Prop} (g0 : Nat) (y1 : Int) (hd : 14 ≤ d) (hJ : J S m0 B m) (hB9 : B ≤ 1000000000) (hy1 : 1 ≤ y1 ∧ y1 ≤ 64)
    (K71 : ∀ (x6 : Int) , (0 ≤ x6 ∧ x6 ≤ 64) → (1 ≤ y1) → (x6 + y1 ≤ m g0 27 2) → (0 ≤ x6) → X (EE s) d 188 71 [(6, zi x6)] [] m Q) :
    ∀ (n : Nat) (y2 y4 y6 y7 : Int) , (0 ≤ y6 ∧ y6 ≤ 64) → (1 ≤ y7 ∧ y7 ≤ 64) → (1 ≤ y1) → (y6 + y1 ≤ m g0 27 2) → (0 ≤ y6) → 64 - y7 < (n : Int) → X (EE s) d 188 16 [(0, zr g0 27), (1, zi y1), (2, zl y2), (4, zl y4), (6, zi y6), (7, zi y7)] [] m Q := by
  intro n
  induction n with
  | zero =>
    intro y2 y4 y6 y7 hy6 hy7 hr0 hr1 hr2 hn
    exfalso
    omega
  | succ n ih =>
    intro y2 y4 y6 y7 hy6 hy7 hr0 hr1 hr2 hn
    refine X.iload 18 i188_16 rfl rfl rfl ?_
    refine X.iload_n 19 i188_18 rfl rfl rfl ?_
    refine X.iadd 20 i188_19 rfl rfl (by omega) ?_
    refine X.aload_n 21 i188_20 rfl rfl rfl ?_
    refine X.callv 24 [] [zi (y7 + y1)] [(0, zr g0 27)] i188_21 rfl (by decide) rfl rfl (by omega) rfl rfl (by decide) rfl t66 (Nat.le_of_ble_eq_true rfl) (Nat.le_of_ble_eq_true rfl) rfl ?_
    refine X.aload_n 1 i66_0 rfl rfl rfl ?_
    refine X.getI 4 2 i66_1 rfl rfl (by decide) rfl rfl rfl ?_
    have h514 := r27_2 hJ g0
    refine X.bipush 6 i66_4 rfl rfl (by decide) ?_
    refine X.minI 9 i66_6 rfl rfl (by omega) (Nat.le_of_ble_eq_true rfl) ?_
    refine X.reti i66_9 rfl t66 ?_
    show X (EE s) d 188 24 [(0, zr g0 27), (1, zi y1), (2, zl y2), (4, zl y4), (6, zi y6), (7, zi y7)] [zi (min (m g0 27 2) 64), zi (y7 + y1)] m _
    refine X.icmpgt 71 27 i188_24 rfl rfl rfl (fun h515 => ?_) (fun h515 => ?_)
    · refine X.cut [(6, zi y6)] i188_71 rfl ?_
      exact K71 y6 (by first | trivial | omega) (by omega) (by omega) (by omega)
    · refine X.lload_n 28 i188_27 rfl rfl rfl ?_
      refine X.aload_n 29 i188_28 rfl rfl rfl ?_
      refine X.iload 31 i188_29 rfl rfl rfl ?_
      refine X.iload_n 32 i188_31 rfl rfl rfl ?_
      refine X.iadd 33 i188_32 rfl rfl (by omega) ?_
      refine X.iconst 34 i188_33 rfl rfl (by decide) ?_
      refine X.isub 35 i188_34 rfl rfl (by omega) ?_
      refine X.iconst 36 i188_35 rfl rfl (by decide) ?_
      refine X.callv 39 [zi ((y7 + y1) - 1), zi 1] [zl y2] [(0, zr g0 27), (1, zi ((y7 + y1) - 1)), (2, zi 1)] i188_36 rfl (by decide) rfl rfl (by omega) rfl rfl (by decide) rfl t67 (Nat.le_of_ble_eq_true rfl) (Nat.le_of_ble_eq_true rfl) rfl ?_
      refine X.aload_n 1 i67_0 rfl rfl rfl ?_
      refine X.getR 4 i67_1 rfl rfl (by decide) rfl rfl ?_
      refine X.aload_n 5 i67_4 rfl rfl rfl ?_
      refine X.getI 8 2 i67_5 rfl rfl (by decide) rfl rfl rfl ?_
      refine X.iconst 9 i67_8 rfl rfl (by decide) ?_
      refine X.isub 10 i67_9 rfl rfl (by omega) ?_
      refine X.iload_n 11 i67_10 rfl rfl rfl ?_
      refine X.isub 12 i67_11 rfl rfl (by omega) ?_
      refine X.bipush 14 i67_12 rfl rfl (by decide) ?_
      refine X.irem 15 i67_14 rfl rfl (by omega) ?_
      refine X.bipush 17 i67_15 rfl rfl (by decide) ?_
      refine X.imul 18 i67_17 rfl rfl (by omega) ?_
      refine X.iload_n 19 i67_18 rfl rfl rfl ?_
      refine X.iadd 20 i67_19 rfl rfl (by omega) ?_
      refine X.lald 21 i67_20 rfl rfl (by decide) rfl (by omega) ?_
      refine X.retl i67_21 rfl t67 ?_
      show X (EE s) d 188 39 [(0, zr g0 27), (1, zi y1), (2, zl y2), (4, zl y4), (6, zi y6), (7, zi y7)] [zl (m g0 28 ((((((m g0 27 2) - 1) - ((y7 + y1) - 1)) % 64) * 6) + 1)), zl y2] m _
      refine X.aload_n 40 i188_39 rfl rfl rfl ?_
      refine X.iload 42 i188_40 rfl rfl rfl ?_
      refine X.iconst 43 i188_42 rfl rfl (by decide) ?_
      refine X.isub 44 i188_43 rfl rfl (by omega) ?_
      refine X.iconst 45 i188_44 rfl rfl (by decide) ?_
      refine X.callv 48 [zi (y7 - 1), zi 1] [zl (m g0 28 ((((((m g0 27 2) - 1) - ((y7 + y1) - 1)) % 64) * 6) + 1)), zl y2] [(0, zr g0 27), (1, zi (y7 - 1)), (2, zi 1)] i188_45 rfl (by decide) rfl rfl (by omega) rfl rfl (by decide) rfl t67 (Nat.le_of_ble_eq_true rfl) (Nat.le_of_ble_eq_true rfl) rfl ?_
      refine X.aload_n 1 i67_0 rfl rfl rfl ?_
      refine X.getR 4 i67_1 rfl rfl (by decide) rfl rfl ?_
      refine X.aload_n 5 i67_4 rfl rfl rfl ?_
      refine X.getI 8 2 i67_5 rfl rfl (by decide) rfl rfl rfl ?_
      refine X.iconst 9 i67_8 rfl rfl (by decide) ?_
      refine X.isub 10 i67_9 rfl rfl (by omega) ?_
      refine X.iload_n 11 i67_10 rfl rfl rfl ?_
      refine X.isub 12 i67_11 rfl rfl (by omega) ?_
      refine X.bipush 14 i67_12 rfl rfl (by decide) ?_
      refine X.irem 15 i67_14 rfl rfl (by omega) ?_
      refine X.bipush 17 i67_15 rfl rfl (by decide) ?_
      refine X.imul 18 i67_17 rfl rfl (by omega) ?_
      refine X.iload_n 19 i67_18 rfl rfl rfl ?_
      refine X.iadd 20 i67_19 rfl rfl (by omega) ?_
      refine X.lald 21 i67_20 rfl rfl (by decide) rfl (by omega) ?_
      refine X.retl i67_21 rfl t67 ?_
      show X (EE s) d 188 48 [(0, zr g0 27), (1, zi y1), (2, zl y2), (4, zl y4), (6, zi y6), (7, zi y7)] [zl (m g0 28 ((((((m g0 27 2) - 1) - (y7 - 1)) % 64) * 6) + 1)), zl (m g0 28 ((((((m g0 27 2) - 1) - ((y7 + y1) - 1)) % 64) * 6) + 1)), zl y2] m _
      refine X.llF 49 .lsub (fun x y => x - y) i188_48 rfl rfl rfl (fun _ _ => rfl) (fun z516 hz516 => ?_)
      refine X.llF 50 .ladd (fun x y => x + y) i188_49 rfl rfl rfl (fun _ _ => rfl) (fun z517 hz517 => ?_)
      refine X.lstore_n 51 [(0, zr g0 27), (1, zi y1), (2, zl z517), (4, zl y4), (6, zi y6), (7, zi y7)] i188_50 rfl rfl rfl ?_
      refine X.lload_n 52 i188_51 rfl rfl rfl ?_
      refine X.lload 54 i188_52 rfl rfl rfl ?_
      refine X.lcmp 55 i188_54 rfl rfl (fun z518 hz518 => ?_)
      refine X.ifle 65 58 i188_55 rfl rfl rfl (fun h519 => ?_) (fun h519 => ?_)
      · have h519c : z517 ≤ y4 := by omega
        clear h519 hz518
        refine X.iinc 68 [(0, zr g0 27), (1, zi y1), (2, zl z517), (4, zl y4), (6, zi y6), (7, zi (y7 + 1))] i188_65 rfl rfl rfl (by omega) rfl ?_
        refine X.goto 16 i188_68 rfl rfl ?_
        exact ih z517 y4 y6 (y7 + 1) (by omega) (by omega) (by omega) (by omega) (by omega) (by omega)
      · have h519c : z517 > y4 := by omega
        clear h519 hz518
        refine X.lload_n 59 i188_58 rfl rfl rfl ?_
        refine X.lstore 61 [(0, zr g0 27), (1, zi y1), (2, zl z517), (4, zl z517), (6, zi y6), (7, zi y7)] i188_59 rfl rfl rfl ?_
        refine X.iload 63 i188_61 rfl rfl rfl ?_
        refine X.istore 65 [(0, zr g0 27), (1, zi y1), (2, zl z517), (4, zl z517), (6, zi y7), (7, zi y7)] i188_63 rfl rfl rfl ?_
        refine X.iinc 68 [(0, zr g0 27), (1, zi y1), (2, zl z517), (4, zl z517), (6, zi y7), (7, zi (y7 + 1))] i188_65 rfl rfl rfl (by omega) rfl ?_
        refine X.goto 16 i188_68 rfl rfl ?_
        exact ih z517 z517 y7 (y7 + 1) (by omega) (by omega) (by omega) (by omega) (by omega) (by omega)
-- WorkMeter$Load.bestRun
theorem c188_1 {s : Nat × (Nat → Int32)} {S : zS} {m0 m : zM} {B : Int} {d : Nat} {Q : Option zV → zM → Prop} (g0 : Nat) (a1 : Int) (hd : 14 ≤ d) (hJ : J S m0 B m) (hB : B + 0 ≤ 1000000000) (ha1 : 1 ≤ a1 ∧ a1 ≤ 64) (hp0 : 1 ≤ a1) (hp1 : a1 ≤ m g0 27 2) (hQ : ∀ (v : Int), (0 ≤ v ∧ v ≤ 64) → (v + a1 ≤ m g0 27 2) → (0 ≤ v) → Q (some (zi v)) m) : X (EE s) d 188 0 [(0, zr g0 27), (1, zi a1)] [] m Q := by
  refine X.aload_n 1 i188_0 rfl rfl rfl ?_
  refine X.iconst 2 i188_1 rfl rfl (by decide) ?_
  refine X.iload_n 3 i188_2 rfl rfl rfl ?_
  refine X.callv 6 [zi 0, zi a1] [] [(0, zr g0 27), (1, zi 0), (2, zi a1)] i188_3 rfl (by decide) rfl rfl (by omega) rfl rfl (by decide) rfl t68 (Nat.le_of_ble_eq_true rfl) (Nat.le_of_ble_eq_true rfl) rfl ?_
  refine c68_2 (B := B) g0 0 a1 (by omega) (hJ.up (by omega)) (by omega) (by omega) (by omega) (by omega) (by omega) (fun v503 hv503 => ?_)
  show X (EE s) d 188 6 [(0, zr g0 27), (1, zi a1)] [zl v503] m _
  refine X.lstore_n 7 [(0, zr g0 27), (1, zi a1), (2, zl v503)] i188_6 rfl rfl rfl ?_
  refine X.lload_n 8 i188_7 rfl rfl rfl ?_
  refine X.lstore 10 [(0, zr g0 27), (1, zi a1), (2, zl v503), (4, zl v503)] i188_8 rfl rfl rfl ?_
  refine X.iconst 11 i188_10 rfl rfl (by decide) ?_
  refine X.istore 13 [(0, zr g0 27), (1, zi a1), (2, zl v503), (4, zl v503), (6, zi 0)] i188_11 rfl rfl rfl ?_
  refine X.iconst 14 i188_13 rfl rfl (by decide) ?_
  refine X.istore 16 [(0, zr g0 27), (1, zi a1), (2, zl v503), (4, zl v503), (6, zi 0), (7, zi 1)] i188_14 rfl rfl rfl ?_
  refine l188_16_1 (s := s) (S := S) (m0 := m0) (m := m) (B := B) (d := d) g0 a1 (by omega) (hJ.up (by omega)) (by omega) (by omega) (fun y504 hby504 hrlm5050 hrlm5051 hrlm5052 => ?_) ((64 - 1 : Int).toNat + 1) v503 v503 0 1 (by omega) (by omega) (by omega) (by omega) (by omega) (by omega)
  refine X.iload 73 i188_71 rfl rfl rfl ?_
  refine X.reti i188_73 rfl t188 ?_
  exact hQ y504 (by first | trivial | omega) (by omega) (by omega)
theorem l68_5_3 {s : Nat × (Nat → Int32)} {S : zS} {m0 m : zM} {B : Int} {d : Nat} {Q : Option zV → zM → Prop} (g0 : Nat) (y1 y2 : Int) (hd : 13 ≤ d) (hJ : J S m0 B m) (hB9 : B ≤ 1000000000) (hy1 : 0 ≤ y1 ∧ y1 ≤ 64) (hy2 : 1 ≤ y2 ∧ y2 ≤ 64)
    (K29 : ∀ (x3 : Int) , (True) → (y1 + y2 ≤ m g0 27 2) → X (EE s) d 68 29 [(3, zl x3)] [] m Q) :
    ∀ (n : Nat) (y3 y5 : Int) , (0 ≤ y5 ∧ y5 ≤ 128) → (y1 ≤ y5) → (y1 + y2 ≤ m g0 27 2) → 128 - y5 < (n : Int) → X (EE s) d 68 5 [(0, zr g0 27), (1, zi y1), (2, zi y2), (3, zl y3), (5, zi y5)] [] m Q := by
  intro n
  induction n with
  | zero =>
    intro y3 y5 hy5 hr0 hr1 hn
    exfalso
    omega
  | succ n ih =>
    intro y3 y5 hy5 hr0 hr1 hn
    refine X.iload 7 i68_5 rfl rfl rfl ?_
    refine X.iload_n 8 i68_7 rfl rfl rfl ?_
    refine X.iload_n 9 i68_8 rfl rfl rfl ?_
    refine X.iadd 10 i68_9 rfl rfl (by omega) ?_
    refine X.icmpge 29 13 i68_10 rfl rfl rfl (fun h507 => ?_) (fun h507 => ?_)
    · refine X.cut [(3, zl y3)] i68_29 rfl ?_
      exact K29 y3 (by first | trivial | omega) (by omega)
    · refine X.lload_n 14 i68_13 rfl rfl rfl ?_
      refine X.aload_n 15 i68_14 rfl rfl rfl ?_
      refine X.iload 17 i68_15 rfl rfl rfl ?_
      refine X.iconst 18 i68_17 rfl rfl (by decide) ?_
      refine X.callv 21 [zi y5, zi 1] [zl y3] [(0, zr g0 27), (1, zi y5), (2, zi 1)] i68_18 rfl (by decide) rfl rfl (by omega) rfl rfl (by decide) rfl t67 (Nat.le_of_ble_eq_true rfl) (Nat.le_of_ble_eq_true rfl) rfl ?_
      refine X.aload_n 1 i67_0 rfl rfl rfl ?_
      refine X.getR 4 i67_1 rfl rfl (by decide) rfl rfl ?_
      refine X.aload_n 5 i67_4 rfl rfl rfl ?_
      refine X.getI 8 2 i67_5 rfl rfl (by decide) rfl rfl rfl ?_
      have h508 := r27_2 hJ g0
      refine X.iconst 9 i67_8 rfl rfl (by decide) ?_
      refine X.isub 10 i67_9 rfl rfl (by omega) ?_
      refine X.iload_n 11 i67_10 rfl rfl rfl ?_
      refine X.isub 12 i67_11 rfl rfl (by omega) ?_
      refine X.bipush 14 i67_12 rfl rfl (by decide) ?_
      refine X.irem 15 i67_14 rfl rfl (by omega) ?_
      refine X.bipush 17 i67_15 rfl rfl (by decide) ?_
      refine X.imul 18 i67_17 rfl rfl (by omega) ?_
      refine X.iload_n 19 i67_18 rfl rfl rfl ?_
      refine X.iadd 20 i67_19 rfl rfl (by omega) ?_
      refine X.lald 21 i67_20 rfl rfl (by decide) rfl (by omega) ?_
      refine X.retl i67_21 rfl t67 ?_
      show X (EE s) d 68 21 [(0, zr g0 27), (1, zi y1), (2, zi y2), (3, zl y3), (5, zi y5)] [zl (m g0 28 ((((((m g0 27 2) - 1) - y5) % 64) * 6) + 1)), zl y3] m _
      refine X.llF 22 .ladd (fun x y => x + y) i68_21 rfl rfl rfl (fun _ _ => rfl) (fun z509 hz509 => ?_)
      refine X.lstore_n 23 [(0, zr g0 27), (1, zi y1), (2, zi y2), (3, zl z509), (5, zi y5)] i68_22 rfl rfl rfl ?_
      refine X.iinc 26 [(0, zr g0 27), (1, zi y1), (2, zi y2), (3, zl z509), (5, zi (y5 + 1))] i68_23 rfl rfl rfl (by omega) rfl ?_
      refine X.goto 5 i68_26 rfl rfl ?_
      exact ih z509 (y5 + 1) (by omega) (by omega) (by omega) (by omega)
-- WorkMeter$Load.importOf
theorem c68_3 {s : Nat × (Nat → Int32)} {S : zS} {m0 m : zM} {B : Int} {d : Nat} {Q : Option zV → zM → Prop} (g0 : Nat) (a1 a2 : Int) (hd : 13 ≤ d) (hJ : J S m0 B m) (hB : B + 0 ≤ 1000000000) (ha1 : 0 ≤ a1 ∧ a1 ≤ 64) (ha2 : 1 ≤ a2 ∧ a2 ≤ 64) (hp0 : 0 ≤ a1) (hp1 : a1 + a2 ≤ m g0 27 2) (hQ : ∀ (v : Int), (True) → Q (some (zl v)) m) : X (EE s) d 68 0 [(0, zr g0 27), (1, zi a1), (2, zi a2)] [] m Q := by
  refine X.lconst (y := 0) 1 i68_0 rfl rfl rfl ?_
  refine X.lstore_n 2 [(0, zr g0 27), (1, zi a1), (2, zi a2), (3, zl 0)] i68_1 rfl rfl rfl ?_
  refine X.iload_n 3 i68_2 rfl rfl rfl ?_
  refine X.istore 5 [(0, zr g0 27), (1, zi a1), (2, zi a2), (3, zl 0), (5, zi a1)] i68_3 rfl rfl rfl ?_
  refine l68_5_3 (s := s) (S := S) (m0 := m0) (m := m) (B := B) (d := d) g0 a1 a2 (by omega) (hJ.up (by omega)) (by omega) (by omega) (by omega) (fun y501 hby501 hrlm5020 => ?_) ((128 - a1 : Int).toNat + 1) 0 a1 (by omega) (by omega) (by omega) (by omega)
  refine X.lload_n 30 i68_29 rfl rfl rfl ?_
  refine X.retl i68_30 rfl t68 ?_
  exact hQ y501 (by first | trivial | omega) 
-- WorkMeter.best
theorem c187_1 {s : Nat × (Nat → Int32)} {S : zS} {m0 m : zM} {B : Int} {d : Nat} {Q : Option zV → zM → Prop} (a1 a2 : Int) (hd : 15 ≤ d) (hJ : J S m0 B m) (hB : B + 0 ≤ 1000000000) (ha1 : (-2147483648) ≤ a1 ∧ a1 ≤ 2147483647) (ha2 : (-2147483648) ≤ a2 ∧ a2 ≤ 2147483647) (hQ : ∀ (v : Int), (True) → Q (some (zl v)) m) : X (EE s) d 187 0 [(0, zr 4 40), (1, zi a1), (2, zi a2)] [] m Q := by
  refine X.iload_n 1 i187_0 rfl rfl rfl ?_
  refine X.iconst 2 i187_1 rfl rfl (by decide) ?_
  refine X.icmplt 28 5 i187_2 rfl rfl rfl (fun h501 => ?_) (fun h501 => ?_)
  · refine X.cut [] i187_28 rfl ?_
    refine X.ldc2 31 i187_28 rfl rfl (by decide) ?_
    refine X.retl i187_31 rfl t187 ?_
    exact hQ (-1) (by first | trivial | omega) 
  · refine X.iload_n 6 i187_5 rfl rfl rfl ?_
    refine X.aload_n 7 i187_6 rfl rfl rfl ?_
    refine X.getF 10 i187_7 rfl rfl (by decide) rfl rfl ?_
    refine X.getR 13 i187_10 rfl rfl (by decide) rfl rfl ?_
    refine X.callv 16 [] [zi a1] [(0, zr 0 27)] i187_13 rfl (by decide) rfl rfl (by omega) rfl rfl (by decide) rfl t66 (Nat.le_of_ble_eq_true rfl) (Nat.le_of_ble_eq_true rfl) rfl ?_
    refine X.aload_n 1 i66_0 rfl rfl rfl ?_
    refine X.getI 4 2 i66_1 rfl rfl (by decide) rfl rfl rfl ?_
    have h502 := r27_2 hJ 0
    refine X.bipush 6 i66_4 rfl rfl (by decide) ?_
    refine X.minI 9 i66_6 rfl rfl (by omega) (Nat.le_of_ble_eq_true rfl) ?_
    refine X.reti i66_9 rfl t66 ?_
    show X (EE s) d 187 16 [(0, zr 4 40), (1, zi a1), (2, zi a2)] [zi (min (m 0 27 2) 64), zi a1] m _
    refine X.icmpgt 28 19 i187_16 rfl rfl rfl (fun h503 => ?_) (fun h503 => ?_)
    · refine X.cut [] i187_28 rfl ?_
      refine X.ldc2 31 i187_28 rfl rfl (by decide) ?_
      refine X.retl i187_31 rfl t187 ?_
      exact hQ (-1) (by first | trivial | omega) 
    · refine X.iload_n 20 i187_19 rfl rfl rfl ?_
      refine X.iflt 28 23 i187_20 rfl rfl rfl (fun h504 => ?_) (fun h504 => ?_)
      · refine X.cut [] i187_28 rfl ?_
        refine X.ldc2 31 i187_28 rfl rfl (by decide) ?_
        refine X.retl i187_31 rfl t187 ?_
        exact hQ (-1) (by first | trivial | omega) 
      · refine X.iload_n 24 i187_23 rfl rfl rfl ?_
        refine X.iconst 25 i187_24 rfl rfl (by decide) ?_
        refine X.icmple 32 28 i187_25 rfl rfl rfl (fun h505 => ?_) (fun h505 => ?_)
        · refine X.aload_n 33 i187_32 rfl rfl rfl ?_
          refine X.getF 36 i187_33 rfl rfl (by decide) rfl rfl ?_
          refine X.getR 39 i187_36 rfl rfl (by decide) rfl rfl ?_
          refine X.iload_n 40 i187_39 rfl rfl rfl ?_
          refine X.callv 43 [zi a1] [] [(0, zr 0 27), (1, zi a1)] i187_40 rfl (by decide) rfl rfl (by omega) rfl rfl (by decide) rfl t188 (Nat.le_of_ble_eq_true rfl) (Nat.le_of_ble_eq_true rfl) rfl ?_
          refine c188_1 (B := B) 0 a1 (by omega) (hJ.up (by omega)) (by omega) (by omega) (by omega) (by omega) (fun v508 hv508 hqv5080 hqv5081 => ?_)
          show X (EE s) d 187 43 [(0, zr 4 40), (1, zi a1), (2, zi a2)] [zi v508] m _
          refine X.istore_n 44 [(0, zr 4 40), (1, zi a1), (2, zi a2), (3, zi v508)] i187_43 rfl rfl rfl ?_
          refine X.iload_n 45 i187_44 rfl rfl rfl ?_
          refine X.ifne 63 48 i187_45 rfl rfl rfl (fun h509 => ?_) (fun h509 => ?_)
          · refine X.cut [(0, zr 4 40), (3, zi v508)] i187_63 rfl ?_
            refine X.aload_n 64 i187_63 rfl rfl rfl ?_
            refine X.getF 67 i187_64 rfl rfl (by decide) rfl rfl ?_
            refine X.getR 70 i187_67 rfl rfl (by decide) rfl rfl ?_
            refine X.iload_n 71 i187_70 rfl rfl rfl ?_
            refine X.iconst 72 i187_71 rfl rfl (by decide) ?_
            refine X.callv 75 [zi v508, zi 0] [] [(0, zr 0 27), (1, zi v508), (2, zi 0)] i187_72 rfl (by decide) rfl rfl (by omega) rfl rfl (by decide) rfl t67 (Nat.le_of_ble_eq_true rfl) (Nat.le_of_ble_eq_true rfl) rfl ?_
            refine X.aload_n 1 i67_0 rfl rfl rfl ?_
            refine X.getR 4 i67_1 rfl rfl (by decide) rfl rfl ?_
            refine X.aload_n 5 i67_4 rfl rfl rfl ?_
            refine X.getI 8 2 i67_5 rfl rfl (by decide) rfl rfl rfl ?_
            refine X.iconst 9 i67_8 rfl rfl (by decide) ?_
            refine X.isub 10 i67_9 rfl rfl (by omega) ?_
            refine X.iload_n 11 i67_10 rfl rfl rfl ?_
            refine X.isub 12 i67_11 rfl rfl (by omega) ?_
            refine X.bipush 14 i67_12 rfl rfl (by decide) ?_
            refine X.irem 15 i67_14 rfl rfl (by omega) ?_
            refine X.bipush 17 i67_15 rfl rfl (by decide) ?_
            refine X.imul 18 i67_17 rfl rfl (by omega) ?_
            refine X.iload_n 19 i67_18 rfl rfl rfl ?_
            refine X.iadd 20 i67_19 rfl rfl (by omega) ?_
            refine X.lald 21 i67_20 rfl rfl (by decide) rfl (by omega) ?_
            refine X.retl i67_21 rfl t67 ?_
            show X (EE s) d 187 75 [(0, zr 4 40), (3, zi v508)] [zl (m 0 28 ((((((m 0 27 2) - 1) - v508) % 64) * 6) + 0))] m _
            refine X.cut [] i187_75 rfl ?_
            refine X.retl i187_75 rfl t187 ?_
            exact hQ (m 0 28 ((((((m 0 27 2) - 1) - v508) % 64) * 6) + 0)) (by first | trivial | omega) 
          · refine X.aload_n 49 i187_48 rfl rfl rfl ?_
            refine X.getF 52 i187_49 rfl rfl (by decide) rfl rfl ?_
            refine X.getR 55 i187_52 rfl rfl (by decide) rfl rfl ?_
            refine X.iload_n 56 i187_55 rfl rfl rfl ?_
            refine X.iload_n 57 i187_56 rfl rfl rfl ?_
            refine X.callv 60 [zi v508, zi a1] [] [(0, zr 0 27), (1, zi v508), (2, zi a1)] i187_57 rfl (by decide) rfl rfl (by omega) rfl rfl (by decide) rfl t68 (Nat.le_of_ble_eq_true rfl) (Nat.le_of_ble_eq_true rfl) rfl ?_
            refine c68_3 (B := B) 0 v508 a1 (by omega) (hJ.up (by omega)) (by omega) (by omega) (by omega) (by omega) (by omega) (fun v512 hv512 => ?_)
            show X (EE s) d 187 60 [(0, zr 4 40), (1, zi a1), (2, zi a2), (3, zi v508)] [zl v512] m _
            refine X.goto 75 i187_60 rfl rfl ?_
            refine X.cut [] i187_75 rfl ?_
            refine X.retl i187_75 rfl t187 ?_
            exact hQ v512 (by first | trivial | omega) 
        · refine X.cut [] i187_28 rfl ?_
          refine X.ldc2 31 i187_28 rfl rfl (by decide) ?_
          refine X.retl i187_31 rfl t187 ?_
          exact hQ (-1) (by first | trivial | omega) 
theorem l311_55_1 {s : Nat × (Nat → Int32)} {S : zS} {m0 m : zM} {B : Int} {d : Nat} {Q : Option zV → zM → Prop} (y1 y2 y3 y5 y6 : Int) (hd : 13 ≤ d) (hJ : J S m0 B m) (hB9 : B ≤ 1000000000) (hy1 : 1 ≤ y1 ∧ y1 ≤ 64) (hy2 : 0 ≤ y2 ∧ y2 ≤ 1) (hy3 : (-1) ≤ y3 ∧ y3 ≤ (-1)) (hy5 : 0 ≤ y5 ∧ y5 ≤ 0) (hy6 : 0 ≤ y6 ∧ y6 ≤ 64)
    (K82 : ∀ (x7 : Int) , (True) → (y6 + y1 ≤ 64) → X (EE s) d 311 82 [(0, zr 4 44), (1, zi y1), (2, zi y2), (3, zl y3), (5, zi y5), (6, zi y6), (7, zl x7)] [] m Q) :
    ∀ (n : Nat) (y7 y9 : Int) , (0 ≤ y9 ∧ y9 ≤ 64) → (y6 + y1 ≤ 64) → 64 - y9 < (n : Int) → X (EE s) d 311 55 [(0, zr 4 44), (1, zi y1), (2, zi y2), (3, zl y3), (5, zi y5), (6, zi y6), (7, zl y7), (9, zi y9)] [] m Q := by
  intro n
  induction n with
  | zero =>
    intro y7 y9 hy9 hr0 hn
    exfalso
    omega
  | succ n ih =>
    intro y7 y9 hy9 hr0 hn
    refine X.iload 57 i311_55 rfl rfl rfl ?_
    refine X.iload_n 58 i311_57 rfl rfl rfl ?_
    refine X.icmpge 82 61 i311_58 rfl rfl rfl (fun h505 => ?_) (fun h505 => ?_)
    · refine X.cut [(0, zr 4 44), (1, zi y1), (2, zi y2), (3, zl y3), (5, zi y5), (6, zi y6), (7, zl y7)] i311_82 rfl ?_
      exact K82 y7 (by first | trivial | omega) (by omega)
    · refine X.lload 63 i311_61 rfl rfl rfl ?_
      refine X.aload_n 64 i311_63 rfl rfl rfl ?_
      refine X.iload 66 i311_64 rfl rfl rfl ?_
      refine X.iload 68 i311_66 rfl rfl rfl ?_
      refine X.iadd 69 i311_68 rfl rfl (by omega) ?_
      refine X.iconst 70 i311_69 rfl rfl (by decide) ?_
      refine X.callv 73 [zi (y6 + y9), zi 1] [zl y7] [(0, zr 4 44), (1, zi (y6 + y9)), (2, zi 1)] i311_70 rfl (by decide) rfl rfl (by omega) rfl rfl (by decide) rfl t234 (Nat.le_of_ble_eq_true rfl) (Nat.le_of_ble_eq_true rfl) rfl ?_
      refine X.aload_n 1 i234_0 rfl rfl rfl ?_
      refine X.getF 4 i234_1 rfl rfl (by decide) rfl rfl ?_
      refine X.sipush 7 i234_4 rfl rfl (by decide) ?_
      refine X.bipush 9 i234_7 rfl rfl (by decide) ?_
      refine X.iload_n 10 i234_9 rfl rfl rfl ?_
      refine X.imul 11 i234_10 rfl rfl (by omega) ?_
      refine X.iadd 12 i234_11 rfl rfl (by omega) ?_
      refine X.iload_n 13 i234_12 rfl rfl rfl ?_
      refine X.iadd 14 i234_13 rfl rfl (by omega) ?_
      refine X.lald 15 i234_14 rfl rfl (by decide) rfl (by omega) ?_
      refine X.retl i234_15 rfl t234 ?_
      show X (EE s) d 311 73 [(0, zr 4 44), (1, zi y1), (2, zi y2), (3, zl y3), (5, zi y5), (6, zi y6), (7, zl y7), (9, zi y9)] [zl (m 4 45 ((788 + (6 * (y6 + y9))) + 1)), zl y7] m _
      refine X.llF 74 .ladd (fun x y => x + y) i311_73 rfl rfl rfl (fun _ _ => rfl) (fun z506 hz506 => ?_)
      refine X.lstore 76 [(0, zr 4 44), (1, zi y1), (2, zi y2), (3, zl y3), (5, zi y5), (6, zi y6), (7, zl z506), (9, zi y9)] i311_74 rfl rfl rfl ?_
      refine X.iinc 79 [(0, zr 4 44), (1, zi y1), (2, zi y2), (3, zl y3), (5, zi y5), (6, zi y6), (7, zl z506), (9, zi (y9 + 1))] i311_76 rfl rfl rfl (by omega) rfl ?_
      refine X.goto 55 i311_79 rfl rfl ?_
      exact ih z506 (y9 + 1) (by omega) (by omega) (by omega)
theorem l311_55_2 {s : Nat × (Nat → Int32)} {S : zS} {m0 m : zM} {B : Int} {d : Nat} {Q : Option zV → zM → Prop} (y1 y2 y3 y5 y6 : Int) (hd : 13 ≤ d) (hJ : J S m0 B m) (hB9 : B ≤ 1000000000) (hy1 : 1 ≤ y1 ∧ y1 ≤ 64) (hy2 : 0 ≤ y2 ∧ y2 ≤ 1) (hy3 : (-1) ≤ y3) (hy5 : 0 ≤ y5 ∧ y5 ≤ 63) (hy6 : 0 ≤ y6 ∧ y6 ≤ 64)
    (K82 : ∀ (x7 : Int) , (True) → (y6 + y1 ≤ 64) → X (EE s) d 311 82 [(0, zr 4 44), (1, zi y1), (2, zi y2), (3, zl y3), (5, zi y5), (6, zi y6), (7, zl x7)] [] m Q) :
    ∀ (n : Nat) (y7 y9 : Int) , (0 ≤ y9 ∧ y9 ≤ 64) → (y6 + y1 ≤ 64) → 64 - y9 < (n : Int) → X (EE s) d 311 55 [(0, zr 4 44), (1, zi y1), (2, zi y2), (3, zl y3), (5, zi y5), (6, zi y6), (7, zl y7), (9, zi y9)] [] m Q := by
  intro n
  induction n with
  | zero =>
    intro y7 y9 hy9 hr0 hn
    exfalso
    omega
  | succ n ih =>
    intro y7 y9 hy9 hr0 hn
    refine X.iload 57 i311_55 rfl rfl rfl ?_
    refine X.iload_n 58 i311_57 rfl rfl rfl ?_
    refine X.icmpge 82 61 i311_58 rfl rfl rfl (fun h505 => ?_) (fun h505 => ?_)
    · refine X.cut [(0, zr 4 44), (1, zi y1), (2, zi y2), (3, zl y3), (5, zi y5), (6, zi y6), (7, zl y7)] i311_82 rfl ?_
      exact K82 y7 (by first | trivial | omega) (by omega)
    · refine X.lload 63 i311_61 rfl rfl rfl ?_
      refine X.aload_n 64 i311_63 rfl rfl rfl ?_
      refine X.iload 66 i311_64 rfl rfl rfl ?_
      refine X.iload 68 i311_66 rfl rfl rfl ?_
      refine X.iadd 69 i311_68 rfl rfl (by omega) ?_
      refine X.iconst 70 i311_69 rfl rfl (by decide) ?_
      refine X.callv 73 [zi (y6 + y9), zi 1] [zl y7] [(0, zr 4 44), (1, zi (y6 + y9)), (2, zi 1)] i311_70 rfl (by decide) rfl rfl (by omega) rfl rfl (by decide) rfl t234 (Nat.le_of_ble_eq_true rfl) (Nat.le_of_ble_eq_true rfl) rfl ?_
      refine X.aload_n 1 i234_0 rfl rfl rfl ?_
      refine X.getF 4 i234_1 rfl rfl (by decide) rfl rfl ?_
      refine X.sipush 7 i234_4 rfl rfl (by decide) ?_
      refine X.bipush 9 i234_7 rfl rfl (by decide) ?_
      refine X.iload_n 10 i234_9 rfl rfl rfl ?_
      refine X.imul 11 i234_10 rfl rfl (by omega) ?_
      refine X.iadd 12 i234_11 rfl rfl (by omega) ?_
      refine X.iload_n 13 i234_12 rfl rfl rfl ?_
      refine X.iadd 14 i234_13 rfl rfl (by omega) ?_
      refine X.lald 15 i234_14 rfl rfl (by decide) rfl (by omega) ?_
      refine X.retl i234_15 rfl t234 ?_
      show X (EE s) d 311 73 [(0, zr 4 44), (1, zi y1), (2, zi y2), (3, zl y3), (5, zi y5), (6, zi y6), (7, zl y7), (9, zi y9)] [zl (m 4 45 ((788 + (6 * (y6 + y9))) + 1)), zl y7] m _
      refine X.llF 74 .ladd (fun x y => x + y) i311_73 rfl rfl rfl (fun _ _ => rfl) (fun z506 hz506 => ?_)
      refine X.lstore 76 [(0, zr 4 44), (1, zi y1), (2, zi y2), (3, zl y3), (5, zi y5), (6, zi y6), (7, zl z506), (9, zi y9)] i311_74 rfl rfl rfl ?_
      refine X.iinc 79 [(0, zr 4 44), (1, zi y1), (2, zi y2), (3, zl y3), (5, zi y5), (6, zi y6), (7, zl z506), (9, zi (y9 + 1))] i311_76 rfl rfl rfl (by omega) rfl ?_
      refine X.goto 55 i311_79 rfl rfl ?_
      exact ih z506 (y9 + 1) (by omega) (by omega) (by omega)
theorem l311_55_3 {s : Nat × (Nat → Int32)} {S : zS} {m0 m : zM} {B : Int} {d : Nat} {Q : Option zV → zM → Prop} (y1 y2 y3 y5 y6 : Int) (hd : 13 ≤ d) (hJ : J S m0 B m) (hB9 : B ≤ 1000000000) (hy1 : 1 ≤ y1 ∧ y1 ≤ 64) (hy2 : 0 ≤ y2 ∧ y2 ≤ 1) (hy3 : (-1) ≤ y3) (hy5 : 0 ≤ y5 ∧ y5 ≤ 63) (hy6 : 0 ≤ y6 ∧ y6 ≤ 64)
    (K82 : ∀ (x7 : Int) , (True) → (y6 + y1 ≤ 64) → X (EE s) d 311 82 [(0, zr 4 44), (1, zi y1), (2, zi y2), (3, zl y3), (5, zi y5), (6, zi y6), (7, zl x7)] [] m Q) :
    ∀ (n : Nat) (y7 y9 : Int) , (0 ≤ y9 ∧ y9 ≤ 64) → (y6 + y1 ≤ 64) → 64 - y9 < (n : Int) → X (EE s) d 311 55 [(0, zr 4 44), (1, zi y1), (2, zi y2), (3, zl y3), (5, zi y5), (6, zi y6), (7, zl y7), (9, zi y9)] [] m Q := by
  intro n
  induction n with
  | zero =>
    intro y7 y9 hy9 hr0 hn
    exfalso
    omega
  | succ n ih =>
    intro y7 y9 hy9 hr0 hn
    refine X.iload 57 i311_55 rfl rfl rfl ?_
    refine X.iload_n 58 i311_57 rfl rfl rfl ?_
    refine X.icmpge 82 61 i311_58 rfl rfl rfl (fun h505 => ?_) (fun h505 => ?_)
    · refine X.cut [(0, zr 4 44), (1, zi y1), (2, zi y2), (3, zl y3), (5, zi y5), (6, zi y6), (7, zl y7)] i311_82 rfl ?_
      exact K82 y7 (by first | trivial | omega) (by omega)
    · refine X.lload 63 i311_61 rfl rfl rfl ?_
      refine X.aload_n 64 i311_63 rfl rfl rfl ?_
      refine X.iload 66 i311_64 rfl rfl rfl ?_
      refine X.iload 68 i311_66 rfl rfl rfl ?_
      refine X.iadd 69 i311_68 rfl rfl (by omega) ?_
      refine X.iconst 70 i311_69 rfl rfl (by decide) ?_
      refine X.callv 73 [zi (y6 + y9), zi 1] [zl y7] [(0, zr 4 44), (1, zi (y6 + y9)), (2, zi 1)] i311_70 rfl (by decide) rfl rfl (by omega) rfl rfl (by decide) rfl t234 (Nat.le_of_ble_eq_true rfl) (Nat.le_of_ble_eq_true rfl) rfl ?_
      refine X.aload_n 1 i234_0 rfl rfl rfl ?_
      refine X.getF 4 i234_1 rfl rfl (by decide) rfl rfl ?_
      refine X.sipush 7 i234_4 rfl rfl (by decide) ?_
      refine X.bipush 9 i234_7 rfl rfl (by decide) ?_
      refine X.iload_n 10 i234_9 rfl rfl rfl ?_
      refine X.imul 11 i234_10 rfl rfl (by omega) ?_
      refine X.iadd 12 i234_11 rfl rfl (by omega) ?_
      refine X.iload_n 13 i234_12 rfl rfl rfl ?_
      refine X.iadd 14 i234_13 rfl rfl (by omega) ?_
      refine X.lald 15 i234_14 rfl rfl (by decide) rfl (by omega) ?_
      refine X.retl i234_15 rfl t234 ?_
      show X (EE s) d 311 73 [(0, zr 4 44), (1, zi y1), (2, zi y2), (3, zl y3), (5, zi y5), (6, zi y6), (7, zl y7), (9, zi y9)] [zl (m 4 45 ((788 + (6 * (y6 + y9))) + 1)), zl y7] m _
      refine X.llF 74 .ladd (fun x y => x + y) i311_73 rfl rfl rfl (fun _ _ => rfl) (fun z506 hz506 => ?_)
      refine X.lstore 76 [(0, zr 4 44), (1, zi y1), (2, zi y2), (3, zl y3), (5, zi y5), (6, zi y6), (7, zl z506), (9, zi y9)] i311_74 rfl rfl rfl ?_
      refine X.iinc 79 [(0, zr 4 44), (1, zi y1), (2, zi y2), (3, zl y3), (5, zi y5), (6, zi y6), (7, zl z506), (9, zi (y9 + 1))] i311_76 rfl rfl rfl (by omega) rfl ?_
      refine X.goto 55 i311_79 rfl rfl ?_
      exact ih z506 (y9 + 1) (by omega) (by omega) (by omega)
theorem l311_55_4 {s : Nat × (Nat → Int32)} {S : zS} {m0 m : zM} {B : Int} {d : Nat} {Q : Option zV → zM → Prop} (y1 y2 y3 y5 y6 : Int) (hd : 13 ≤ d) (hJ : J S m0 B m) (hB9 : B ≤ 1000000000) (hy1 : 1 ≤ y1 ∧ y1 ≤ 64) (hy2 : 0 ≤ y2 ∧ y2 ≤ 1) (hy3 : (-1) ≤ y3) (hy5 : 0 ≤ y5 ∧ y5 ≤ 63) (hy6 : 0 ≤ y6 ∧ y6 ≤ 64)
    (K82 : ∀ (x7 : Int) , (True) → (y6 + y1 ≤ 64) → X (EE s) d 311 82 [(0, zr 4 44), (1, zi y1), (2, zi y2), (3, zl y3), (5, zi y5), (6, zi y6), (7, zl x7)] [] m Q) :
    ∀ (n : Nat) (y7 y9 : Int) , (0 ≤ y9 ∧ y9 ≤ 64) → (y6 + y1 ≤ 64) → 64 - y9 < (n : Int) → X (EE s) d 311 55 [(0, zr 4 44), (1, zi y1), (2, zi y2), (3, zl y3), (5, zi y5), (6, zi y6), (7, zl y7), (9, zi y9)] [] m Q := by
  intro n
  induction n with
  | zero =>
    intro y7 y9 hy9 hr0 hn
    exfalso
    omega
  | succ n ih =>
    intro y7 y9 hy9 hr0 hn
    refine X.iload 57 i311_55 rfl rfl rfl ?_
    refine X.iload_n 58 i311_57 rfl rfl rfl ?_
    refine X.icmpge 82 61 i311_58 rfl rfl rfl (fun h505 => ?_) (fun h505 => ?_)
    · refine X.cut [(0, zr 4 44), (1, zi y1), (2, zi y2), (3, zl y3), (5, zi y5), (6, zi y6), (7, zl y7)] i311_82 rfl ?_
      exact K82 y7 (by first | trivial | omega) (by omega)
    · refine X.lload 63 i311_61 rfl rfl rfl ?_
      refine X.aload_n 64 i311_63 rfl rfl rfl ?_
      refine X.iload 66 i311_64 rfl rfl rfl ?_
      refine X.iload 68 i311_66 rfl rfl rfl ?_
      refine X.iadd 69 i311_68 rfl rfl (by omega) ?_
      refine X.iconst 70 i311_69 rfl rfl (by decide) ?_
      refine X.callv 73 [zi (y6 + y9), zi 1] [zl y7] [(0, zr 4 44), (1, zi (y6 + y9)), (2, zi 1)] i311_70 rfl (by decide) rfl rfl (by omega) rfl rfl (by decide) rfl t234 (Nat.le_of_ble_eq_true rfl) (Nat.le_of_ble_eq_true rfl) rfl ?_
      refine X.aload_n 1 i234_0 rfl rfl rfl ?_
      refine X.getF 4 i234_1 rfl rfl (by decide) rfl rfl ?_
      refine X.sipush 7 i234_4 rfl rfl (by decide) ?_
      refine X.bipush 9 i234_7 rfl rfl (by decide) ?_
      refine X.iload_n 10 i234_9 rfl rfl rfl ?_
      refine X.imul 11 i234_10 rfl rfl (by omega) ?_
      refine X.iadd 12 i234_11 rfl rfl (by omega) ?_
      refine X.iload_n 13 i234_12 rfl rfl rfl ?_
      refine X.iadd 14 i234_13 rfl rfl (by omega) ?_
      refine X.lald 15 i234_14 rfl rfl (by decide) rfl (by omega) ?_
      refine X.retl i234_15 rfl t234 ?_
      show X (EE s) d 311 73 [(0, zr 4 44), (1, zi y1), (2, zi y2), (3, zl y3), (5, zi y5), (6, zi y6), (7, zl y7), (9, zi y9)] [zl (m 4 45 ((788 + (6 * (y6 + y9))) + 1)), zl y7] m _
      refine X.llF 74 .ladd (fun x y => x + y) i311_73 rfl rfl rfl (fun _ _ => rfl) (fun z506 hz506 => ?_)
      refine X.lstore 76 [(0, zr 4 44), (1, zi y1), (2, zi y2), (3, zl y3), (5, zi y5), (6, zi y6), (7, zl z506), (9, zi y9)] i311_74 rfl rfl rfl ?_
      refine X.iinc 79 [(0, zr 4 44), (1, zi y1), (2, zi y2), (3, zl y3), (5, zi y5), (6, zi y6), (7, zl z506), (9, zi (y9 + 1))] i311_76 rfl rfl rfl (by omega) rfl ?_
      refine X.goto 55 i311_79 rfl rfl ?_
      exact ih z506 (y9 + 1) (by omega) (by omega) (by omega)
theorem l311_55_5 {s : Nat × (Nat → Int32)} {S : zS} {m0 m : zM} {B : Int} {d : Nat} {Q : Option zV → zM → Prop} (y1 y2 y3 y5 y6 : Int) (hd : 13 ≤ d) (hJ : J S m0 B m) (hB9 : B ≤ 1000000000) (hy1 : 1 ≤ y1 ∧ y1 ≤ 64) (hy2 : 0 ≤ y2 ∧ y2 ≤ 1) (hy3 : (-1) ≤ y3) (hy5 : 0 ≤ y5 ∧ y5 ≤ 63) (hy6 : 0 ≤ y6 ∧ y6 ≤ 64)
    (K82 : ∀ (x7 : Int) , (True) → (y6 + y1 ≤ 64) → X (EE s) d 311 82 [(0, zr 4 44), (1, zi y1), (2, zi y2), (3, zl y3), (5, zi y5), (6, zi y6), (7, zl x7)] [] m Q) :
    ∀ (n : Nat) (y7 y9 : Int) , (0 ≤ y9 ∧ y9 ≤ 64) → (y6 + y1 ≤ 64) → 64 - y9 < (n : Int) → X (EE s) d 311 55 [(0, zr 4 44), (1, zi y1), (2, zi y2), (3, zl y3), (5, zi y5), (6, zi y6), (7, zl y7), (9, zi y9)] [] m Q := by
  intro n
  induction n with
  | zero =>
    intro y7 y9 hy9 hr0 hn
    exfalso
    omega
  | succ n ih =>
    intro y7 y9 hy9 hr0 hn
    refine X.iload 57 i311_55 rfl rfl rfl ?_
    refine X.iload_n 58 i311_57 rfl rfl rfl ?_
    refine X.icmpge 82 61 i311_58 rfl rfl rfl (fun h505 => ?_) (fun h505 => ?_)
    · refine X.cut [(0, zr 4 44), (1, zi y1), (2, zi y2), (3, zl y3), (5, zi y5), (6, zi y6), (7, zl y7)] i311_82 rfl ?_
      exact K82 y7 (by first | trivial | omega) (by omega)
    · refine X.lload 63 i311_61 rfl rfl rfl ?_
      refine X.aload_n 64 i311_63 rfl rfl rfl ?_
      refine X.iload 66 i311_64 rfl rfl rfl ?_
      refine X.iload 68 i311_66 rfl rfl rfl ?_
      refine X.iadd 69 i311_68 rfl rfl (by omega) ?_
      refine X.iconst 70 i311_69 rfl rfl (by decide) ?_
      refine X.callv 73 [zi (y6 + y9), zi 1] [zl y7] [(0, zr 4 44), (1, zi (y6 + y9)), (2, zi 1)] i311_70 rfl (by decide) rfl rfl (by omega) rfl rfl (by decide) rfl t234 (Nat.le_of_ble_eq_true rfl) (Nat.le_of_ble_eq_true rfl) rfl ?_
      refine X.aload_n 1 i234_0 rfl rfl rfl ?_
      refine X.getF 4 i234_1 rfl rfl (by decide) rfl rfl ?_
      refine X.sipush 7 i234_4 rfl rfl (by decide) ?_
      refine X.bipush 9 i234_7 rfl rfl (by decide) ?_
      refine X.iload_n 10 i234_9 rfl rfl rfl ?_
      refine X.imul 11 i234_10 rfl rfl (by omega) ?_
      refine X.iadd 12 i234_11 rfl rfl (by omega) ?_
      refine X.iload_n 13 i234_12 rfl rfl rfl ?_
      refine X.iadd 14 i234_13 rfl rfl (by omega) ?_
      refine X.lald 15 i234_14 rfl rfl (by decide) rfl (by omega) ?_
      refine X.retl i234_15 rfl t234 ?_
      show X (EE s) d 311 73 [(0, zr 4 44), (1, zi y1), (2, zi y2), (3, zl y3), (5, zi y5), (6, zi y6), (7, zl y7), (9, zi y9)] [zl (m 4 45 ((788 + (6 * (y6 + y9))) + 1)), zl y7] m _
      refine X.llF 74 .ladd (fun x y => x + y) i311_73 rfl rfl rfl (fun _ _ => rfl) (fun z506 hz506 => ?_)
      refine X.lstore 76 [(0, zr 4 44), (1, zi y1), (2, zi y2), (3, zl y3), (5, zi y5), (6, zi y6), (7, zl z506), (9, zi y9)] i311_74 rfl rfl rfl ?_
      refine X.iinc 79 [(0, zr 4 44), (1, zi y1), (2, zi y2), (3, zl y3), (5, zi y5), (6, zi y6), (7, zl z506), (9, zi (y9 + 1))] i311_76 rfl rfl rfl (by omega) rfl ?_
      refine X.goto 55 i311_79 rfl rfl ?_
      exact ih z506 (y9 + 1) (by omega) (by omega) (by omega)
theorem l311_38_1 {s : Nat × (Nat → Int32)} {S : zS} {m0 m : zM} {B : Int} {d : Nat} {Q : Option zV → zM → Prop} (y1 y2 : Int) (hd : 13 ≤ d) (hJ : J S m0 B m) (hB9 : B ≤ 1000000000) (hy1 : 1 ≤ y1 ∧ y1 ≤ 64) (hy2 : 0 ≤ y2 ∧ y2 ≤ 1)
    (K109 : ∀ (x3 x5 : Int) , ((-1) ≤ x3) → (0 ≤ x5 ∧ x5 ≤ 63) → X (EE s) d 311 109 [(0, zr 4 44), (2, zi y2), (3, zl x3), (5, zi x5)] [] m Q) :
    ∀ (n : Nat) (y3 y5 y6 : Int) , ((-1) ≤ y3) → (0 ≤ y5 ∧ y5 ≤ 63) → (0 ≤ y6 ∧ y6 ≤ 64) → 64 - y6 < (n : Int) → X (EE s) d 311 38 [(0, zr 4 44), (1, zi y1), (2, zi y2), (3, zl y3), (5, zi y5), (6, zi y6)] [] m Q := by
  intro n
  induction n with
  | zero =>
    intro y3 y5 y6 hy3 hy5 hy6 hn
    exfalso
    omega
  | succ n ih =>
    intro y3 y5 y6 hy3 hy5 hy6 hn
    refine X.iload 40 i311_38 rfl rfl rfl ?_
    refine X.iload_n 41 i311_40 rfl rfl rfl ?_
    refine X.iadd 42 i311_41 rfl rfl (by omega) ?_
    refine X.aload_n 43 i311_42 rfl rfl rfl ?_
    refine X.callv 46 [] [zi (y6 + y1)] [(0, zr 4 44)] i311_43 rfl (by decide) rfl rfl (by omega) rfl rfl (by decide) rfl t235 (Nat.le_of_ble_eq_true rfl) (Nat.le_of_ble_eq_true rfl) rfl ?_
    refine X.aload_n 1 i235_0 rfl rfl rfl ?_
    refine X.getF 4 i235_1 rfl rfl (by decide) rfl rfl ?_
    refine X.bipush 6 i235_4 rfl rfl (by decide) ?_
    refine X.lald 7 i235_6 rfl rfl (by decide) rfl (by omega) ?_
    have h538 := r45_17 hJ 4
    refine X.ldc2 10 i235_7 rfl rfl (by decide) ?_
    refine X.lcmp 11 i235_10 rfl rfl (fun z539 hz539 => ?_)
    refine X.ifge 24 14 i235_11 rfl rfl rfl (fun h540 => ?_) (fun h540 => ?_)
    · have h540c : (m 4 45 17) ≥ 64 := by omega
      clear h540 hz539
      refine X.cut [] i235_24 rfl ?_
      refine X.ldc2 27 i235_24 rfl rfl (by decide) ?_
      refine X.l2i 28 i235_27 rfl rfl (by omega) ?_
      refine X.reti i235_28 rfl t235 ?_
      show X (EE s) d 311 46 [(0, zr 4 44), (1, zi y1), (2, zi y2), (3, zl y3), (5, zi y5), (6, zi y6)] [zi 64, zi (y6 + y1)] m _
      refine X.icmpgt 109 49 i311_46 rfl rfl rfl (fun h541 => ?_) (fun h541 => ?_)
      · refine X.cut [(0, zr 4 44), (2, zi y2), (3, zl y3), (5, zi y5)] i311_109 rfl ?_
        exact K109 y3 y5 (by first | trivial | omega) (by first | trivial | omega)
      · refine X.lconst (y := 0) 50 i311_49 rfl rfl rfl ?_
        refine X.lstore 52 [(0, zr 4 44), (1, zi y1), (2, zi y2), (3, zl y3), (5, zi y5), (6, zi y6), (7, zl 0)] i311_50 rfl rfl rfl ?_
        refine X.iconst 53 i311_52 rfl rfl (by decide) ?_
        refine X.istore 55 [(0, zr 4 44), (1, zi y1), (2, zi y2), (3, zl y3), (5, zi y5), (6, zi y6), (7, zl 0), (9, zi 0)] i311_53 rfl rfl rfl ?_
        refine l311_55_4 (s := s) (S := S) (m0 := m0) (m := m) (B := B) (d := d)  y1 y2 y3 y5 y6 (by omega) (hJ.up (by omega)) (by omega) (by omega) (by omega) (by omega) (by omega) (by omega) (fun y542 hby542 hrlm5430 => ?_) ((64 - 0 : Int).toNat + 1) 0 0 (by omega) (by omega) (by omega)
        refine X.lload 84 i311_82 rfl rfl rfl ?_
        refine X.lload_n 85 i311_84 rfl rfl rfl ?_
        refine X.lcmp 86 i311_85 rfl rfl (fun z546 hz546 => ?_)
        refine X.ifge 92 89 i311_86 rfl rfl rfl (fun h547 => ?_) (fun h547 => ?_)
        · have h547c : y542 ≥ y3 := by omega
          clear h547 hz546
          refine X.cut [(0, zr 4 44), (1, zi y1), (2, zi y2), (6, zi y6), (7, zl y542)] i311_92 rfl ?_
          refine X.lload 94 i311_92 rfl rfl rfl ?_
          refine X.lstore_n 95 [(0, zr 4 44), (1, zi y1), (2, zi y2), (3, zl y542), (6, zi y6), (7, zl y542)] i311_94 rfl rfl rfl ?_
          refine X.iload 97 i311_95 rfl rfl rfl ?_
          refine X.iload_n 98 i311_97 rfl rfl rfl ?_
          refine X.iadd 99 i311_98 rfl rfl (by omega) ?_
          refine X.iconst 100 i311_99 rfl rfl (by decide) ?_
          refine X.isub 101 i311_100 rfl rfl (by omega) ?_
          refine X.istore 103 [(0, zr 4 44), (1, zi y1), (2, zi y2), (3, zl y542), (5, zi ((y6 + y1) - 1)), (6, zi y6), (7, zl y542)] i311_101 rfl rfl rfl ?_
          refine X.cut [(0, zr 4 44), (1, zi y1), (2, zi y2), (3, zl y542), (5, zi ((y6 + y1) - 1)), (6, zi y6)] i311_103 rfl ?_
          refine X.iinc 106 [(0, zr 4 44), (1, zi y1), (2, zi y2), (3, zl y542), (5, zi ((y6 + y1) - 1)), (6, zi (y6 + 1))] i311_103 rfl rfl rfl (by omega) rfl ?_
          refine X.goto 38 i311_106 rfl rfl ?_
          exact ih y542 ((y6 + y1) - 1) (y6 + 1) (by omega) (by omega) (by omega) (by omega)
        · have h547c : y542 < y3 := by omega
          clear h547 hz546
          refine X.goto 103 i311_89 rfl rfl ?_
          refine X.cut [(0, zr 4 44), (1, zi y1), (2, zi y2), (3, zl y3), (5, zi y5), (6, zi y6)] i311_103 rfl ?_
          refine X.iinc 106 [(0, zr 4 44), (1, zi y1), (2, zi y2), (3, zl y3), (5, zi y5), (6, zi (y6 + 1))] i311_103 rfl rfl rfl (by omega) rfl ?_
          refine X.goto 38 i311_106 rfl rfl ?_
          exact ih y3 y5 (y6 + 1) (by omega) (by omega) (by omega) (by omega)
    · have h540c : (m 4 45 17) < 64 := by omega
      clear h540 hz539
      refine X.aload_n 15 i235_14 rfl rfl rfl ?_
      refine X.getF 18 i235_15 rfl rfl (by decide) rfl rfl ?_
      refine X.bipush 20 i235_18 rfl rfl (by decide) ?_
      refine X.lald 21 i235_20 rfl rfl (by decide) rfl (by omega) ?_
      refine X.goto 27 i235_21 rfl rfl ?_
      refine X.cut [] i235_27 rfl ?_
      refine X.l2i 28 i235_27 rfl rfl (by omega) ?_
      refine X.reti i235_28 rfl t235 ?_
      show X (EE s) d 311 46 [(0, zr 4 44), (1, zi y1), (2, zi y2), (3, zl y3), (5, zi y5), (6, zi y6)] [zi (m 4 45 17), zi (y6 + y1)] m _
      refine X.icmpgt 109 49 i311_46 rfl rfl rfl (fun h548 => ?_) (fun h548 => ?_)
      · refine X.cut [(0, zr 4 44), (2, zi y2), (3, zl y3), (5, zi y5)] i311_109 rfl ?_
        exact K109 y3 y5 (by first | trivial | omega) (by first | trivial | omega)
      · refine X.lconst (y := 0) 50 i311_49 rfl rfl rfl ?_
        refine X.lstore 52 [(0, zr 4 44), (1, zi y1), (2, zi y2), (3, zl y3), (5, zi y5), (6, zi y6), (7, zl 0)] i311_50 rfl rfl rfl ?_
        refine X.iconst 53 i311_52 rfl rfl (by decide) ?_
        refine X.istore 55 [(0, zr 4 44), (1, zi y1), (2, zi y2), (3, zl y3), (5, zi y5), (6, zi y6), (7, zl 0), (9, zi 0)] i311_53 rfl rfl rfl ?_
        refine l311_55_5 (s := s) (S := S) (m0 := m0) (m := m) (B := B) (d := d)  y1 y2 y3 y5 y6 (by omega) (hJ.up (by omega)) (by omega) (by omega) (by omega) (by omega) (by omega) (by omega) (fun y549 hby549 hrlm5500 => ?_) ((64 - 0 : Int).toNat + 1) 0 0 (by omega) (by omega) (by omega)
        refine X.lload 84 i311_82 rfl rfl rfl ?_
        refine X.lload_n 85 i311_84 rfl rfl rfl ?_
        refine X.lcmp 86 i311_85 rfl rfl (fun z553 hz553 => ?_)
        refine X.ifge 92 89 i311_86 rfl rfl rfl (fun h554 => ?_) (fun h554 => ?_)
        · have h554c : y549 ≥ y3 := by omega
          clear h554 hz553
          refine X.cut [(0, zr 4 44), (1, zi y1), (2, zi y2), (6, zi y6), (7, zl y549)] i311_92 rfl ?_
          refine X.lload 94 i311_92 rfl rfl rfl ?_
          refine X.lstore_n 95 [(0, zr 4 44), (1, zi y1), (2, zi y2), (3, zl y549), (6, zi y6), (7, zl y549)] i311_94 rfl rfl rfl ?_
          refine X.iload 97 i311_95 rfl rfl rfl ?_
          refine X.iload_n 98 i311_97 rfl rfl rfl ?_
          refine X.iadd 99 i311_98 rfl rfl (by omega) ?_
          refine X.iconst 100 i311_99 rfl rfl (by decide) ?_
          refine X.isub 101 i311_100 rfl rfl (by omega) ?_
          refine X.istore 103 [(0, zr 4 44), (1, zi y1), (2, zi y2), (3, zl y549), (5, zi ((y6 + y1) - 1)), (6, zi y6), (7, zl y549)] i311_101 rfl rfl rfl ?_
          refine X.cut [(0, zr 4 44), (1, zi y1), (2, zi y2), (3, zl y549), (5, zi ((y6 + y1) - 1)), (6, zi y6)] i311_103 rfl ?_
          refine X.iinc 106 [(0, zr 4 44), (1, zi y1), (2, zi y2), (3, zl y549), (5, zi ((y6 + y1) - 1)), (6, zi (y6 + 1))] i311_103 rfl rfl rfl (by omega) rfl ?_
          refine X.goto 38 i311_106 rfl rfl ?_
          exact ih y549 ((y6 + y1) - 1) (y6 + 1) (by omega) (by omega) (by omega) (by omega)
        · have h554c : y549 < y3 := by omega
          clear h554 hz553
          refine X.goto 103 i311_89 rfl rfl ?_
          refine X.cut [(0, zr 4 44), (1, zi y1), (2, zi y2), (3, zl y3), (5, zi y5), (6, zi y6)] i311_103 rfl ?_
          refine X.iinc 106 [(0, zr 4 44), (1, zi y1), (2, zi y2), (3, zl y3), (5, zi y5), (6, zi (y6 + 1))] i311_103 rfl rfl rfl (by omega) rfl ?_
          refine X.goto 38 i311_106 rfl rfl ?_
          exact ih y3 y5 (y6 + 1) (by omega) (by omega) (by omega) (by omega)
-- WorkMeterModel.best
theorem c311_1 {s : Nat × (Nat → Int32)} {S : zS} {m0 m : zM} {B : Int} {d : Nat} {Q : Option zV → zM → Prop} (a1 a2 : Int) (hd : 13 ≤ d) (hJ : J S m0 B m) (hB : B + 0 ≤ 1000000000) (ha1 : (-2147483648) ≤ a1 ∧ a1 ≤ 2147483647) (ha2 : (-2147483648) ≤ a2 ∧ a2 ≤ 2147483647) (hQ : ∀ (v : Int), (True) → Q (some (zl v)) m) : X (EE s) d 311 0 [(0, zr 4 44), (1, zi a1), (2, zi a2)] [] m Q := by
  refine X.iload_n 1 i311_0 rfl rfl rfl ?_
  refine X.i2l 2 i311_1 rfl rfl ?_
  refine X.lconst (y := 1) 3 i311_2 rfl rfl rfl ?_
  refine X.aload_n 4 i311_3 rfl rfl rfl ?_
  refine X.callv 7 [] [zl 1, zl a1] [(0, zr 4 44)] i311_4 rfl (by decide) rfl rfl (by omega) rfl rfl (by decide) rfl t235 (Nat.le_of_ble_eq_true rfl) (Nat.le_of_ble_eq_true rfl) rfl ?_
  refine X.aload_n 1 i235_0 rfl rfl rfl ?_
  refine X.getF 4 i235_1 rfl rfl (by decide) rfl rfl ?_
  refine X.bipush 6 i235_4 rfl rfl (by decide) ?_
  refine X.lald 7 i235_6 rfl rfl (by decide) rfl (by omega) ?_
  have h501 := r45_17 hJ 4
  refine X.ldc2 10 i235_7 rfl rfl (by decide) ?_
  refine X.lcmp 11 i235_10 rfl rfl (fun z502 hz502 => ?_)
  refine X.ifge 24 14 i235_11 rfl rfl rfl (fun h503 => ?_) (fun h503 => ?_)
  · have h503c : (m 4 45 17) ≥ 64 := by omega
    clear h503 hz502
    refine X.cut [] i235_24 rfl ?_
    refine X.ldc2 27 i235_24 rfl rfl (by decide) ?_
    refine X.l2i 28 i235_27 rfl rfl (by omega) ?_
    refine X.reti i235_28 rfl t235 ?_
    show X (EE s) d 311 7 [(0, zr 4 44), (1, zi a1), (2, zi a2)] [zi 64, zl 1, zl a1] m _
    refine X.i2l 8 i311_7 rfl rfl ?_
    refine X.calls 11 [zl a1, zl 1, zl 64] [] [(0, zl a1), (2, zl 1), (4, zl 64)] i311_8 (by decide) rfl rfl (by omega) rfl rfl t204 (Nat.le_of_ble_eq_true rfl) (Nat.le_of_ble_eq_true rfl) rfl ?_
    refine X.lload_n 1 i204_0 rfl rfl rfl ?_
    refine X.lload_n 2 i204_1 rfl rfl rfl ?_
    refine X.lcmp 3 i204_2 rfl rfl (fun z504 hz504 => ?_)
    refine X.iflt 17 6 i204_3 rfl rfl rfl (fun h505 => ?_) (fun h505 => ?_)
    · have h505c : a1 < 1 := by omega
      clear h505 hz504
      refine X.cut [] i204_17 rfl ?_
      refine X.iconst 18 i204_17 rfl rfl (by decide) ?_
      refine X.retz i204_18 rfl t204 (by omega) ?_
      show X (EE s) d 311 11 [(0, zr 4 44), (1, zi a1), (2, zi a2)] [zi 0] m _
      refine X.ifeq 24 14 i311_11 rfl rfl rfl (fun h506 => ?_) (fun h506 => (by exfalso; omega))
      refine X.cut [] i311_24 rfl ?_
      refine X.ldc2 27 i311_24 rfl rfl (by decide) ?_
      refine X.retl i311_27 rfl t311 ?_
      exact hQ (-1) (by first | trivial | omega) 
    · have h505c : a1 ≥ 1 := by omega
      clear h505 hz504
      refine X.lload_n 7 i204_6 rfl rfl rfl ?_
      refine X.lload 9 i204_7 rfl rfl rfl ?_
      refine X.lcmp 10 i204_9 rfl rfl (fun z507 hz507 => ?_)
      refine X.ifgt 17 13 i204_10 rfl rfl rfl (fun h508 => ?_) (fun h508 => ?_)
      · have h508c : a1 > 64 := by omega
        clear h508 hz507
        refine X.cut [] i204_17 rfl ?_
        refine X.iconst 18 i204_17 rfl rfl (by decide) ?_
        refine X.retz i204_18 rfl t204 (by omega) ?_
        show X (EE s) d 311 11 [(0, zr 4 44), (1, zi a1), (2, zi a2)] [zi 0] m _
        refine X.ifeq 24 14 i311_11 rfl rfl rfl (fun h509 => ?_) (fun h509 => (by exfalso; omega))
        refine X.cut [] i311_24 rfl ?_
        refine X.ldc2 27 i311_24 rfl rfl (by decide) ?_
        refine X.retl i311_27 rfl t311 ?_
        exact hQ (-1) (by first | trivial | omega) 
      · have h508c : a1 ≤ 64 := by omega
        clear h508 hz507
        refine X.iconst 14 i204_13 rfl rfl (by decide) ?_
        refine X.goto 18 i204_14 rfl rfl ?_
        refine X.cut [] i204_18 rfl ?_
        refine X.retz i204_18 rfl t204 (by omega) ?_
        show X (EE s) d 311 11 [(0, zr 4 44), (1, zi a1), (2, zi a2)] [zi 1] m _
        refine X.ifeq 24 14 i311_11 rfl rfl rfl (fun h510 => (by exfalso; omega)) (fun h510 => ?_)
        refine X.iload_n 15 i311_14 rfl rfl rfl ?_
        refine X.i2l 16 i311_15 rfl rfl ?_
        refine X.lconst (y := 0) 17 i311_16 rfl rfl rfl ?_
        refine X.lconst (y := 1) 18 i311_17 rfl rfl rfl ?_
        refine X.calls 21 [zl a2, zl 0, zl 1] [] [(0, zl a2), (2, zl 0), (4, zl 1)] i311_18 (by decide) rfl rfl (by omega) rfl rfl t204 (Nat.le_of_ble_eq_true rfl) (Nat.le_of_ble_eq_true rfl) rfl ?_
        refine X.lload_n 1 i204_0 rfl rfl rfl ?_
        refine X.lload_n 2 i204_1 rfl rfl rfl ?_
        refine X.lcmp 3 i204_2 rfl rfl (fun z511 hz511 => ?_)
        refine X.iflt 17 6 i204_3 rfl rfl rfl (fun h512 => ?_) (fun h512 => ?_)
        · have h512c : a2 < 0 := by omega
          clear h512 hz511
          refine X.cut [] i204_17 rfl ?_
          refine X.iconst 18 i204_17 rfl rfl (by decide) ?_
          refine X.retz i204_18 rfl t204 (by omega) ?_
          show X (EE s) d 311 21 [(0, zr 4 44), (1, zi a1), (2, zi a2)] [zi 0] m _
          refine X.ifne 28 24 i311_21 rfl rfl rfl (fun h513 => (by exfalso; omega)) (fun h513 => ?_)
          refine X.cut [] i311_24 rfl ?_
          refine X.ldc2 27 i311_24 rfl rfl (by decide) ?_
          refine X.retl i311_27 rfl t311 ?_
          exact hQ (-1) (by first | trivial | omega) 
        · have h512c : a2 ≥ 0 := by omega
          clear h512 hz511
          refine X.lload_n 7 i204_6 rfl rfl rfl ?_
          refine X.lload 9 i204_7 rfl rfl rfl ?_
          refine X.lcmp 10 i204_9 rfl rfl (fun z514 hz514 => ?_)
          refine X.ifgt 17 13 i204_10 rfl rfl rfl (fun h515 => ?_) (fun h515 => ?_)
          · have h515c : a2 > 1 := by omega
            clear h515 hz514
            refine X.cut [] i204_17 rfl ?_
            refine X.iconst 18 i204_17 rfl rfl (by decide) ?_
            refine X.retz i204_18 rfl t204 (by omega) ?_
            show X (EE s) d 311 21 [(0, zr 4 44), (1, zi a1), (2, zi a2)] [zi 0] m _
            refine X.ifne 28 24 i311_21 rfl rfl rfl (fun h516 => (by exfalso; omega)) (fun h516 => ?_)
            refine X.cut [] i311_24 rfl ?_
            refine X.ldc2 27 i311_24 rfl rfl (by decide) ?_
            refine X.retl i311_27 rfl t311 ?_
            exact hQ (-1) (by first | trivial | omega) 
          · have h515c : a2 ≤ 1 := by omega
            clear h515 hz514
            refine X.iconst 14 i204_13 rfl rfl (by decide) ?_
            refine X.goto 18 i204_14 rfl rfl ?_
            refine X.cut [] i204_18 rfl ?_
            refine X.retz i204_18 rfl t204 (by omega) ?_
            show X (EE s) d 311 21 [(0, zr 4 44), (1, zi a1), (2, zi a2)] [zi 1] m _
            refine X.ifne 28 24 i311_21 rfl rfl rfl (fun h517 => ?_) (fun h517 => (by exfalso; omega))
            refine X.ldc2 31 i311_28 rfl rfl (by decide) ?_
            refine X.lstore_n 32 [(0, zr 4 44), (1, zi a1), (2, zi a2), (3, zl (-1))] i311_31 rfl rfl rfl ?_
            refine X.iconst 33 i311_32 rfl rfl (by decide) ?_
            refine X.istore 35 [(0, zr 4 44), (1, zi a1), (2, zi a2), (3, zl (-1)), (5, zi 0)] i311_33 rfl rfl rfl ?_
            refine X.iconst 36 i311_35 rfl rfl (by decide) ?_
            refine X.istore 38 [(0, zr 4 44), (1, zi a1), (2, zi a2), (3, zl (-1)), (5, zi 0), (6, zi 0)] i311_36 rfl rfl rfl ?_
            refine l311_38_1 (s := s) (S := S) (m0 := m0) (m := m) (B := B) (d := d)  a1 a2 (by omega) (hJ.up (by omega)) (by omega) (by omega) (by omega) (fun y518 y519 hby518 hby519 => ?_) ((64 - 0 : Int).toNat + 1) (-1) 0 0 (by omega) (by omega) (by omega) (by omega)
            refine X.iload_n 110 i311_109 rfl rfl rfl ?_
            refine X.ifne 117 113 i311_110 rfl rfl rfl (fun h523 => ?_) (fun h523 => ?_)
            · refine X.cut [(0, zr 4 44), (5, zi y519)] i311_117 rfl ?_
              refine X.aload_n 118 i311_117 rfl rfl rfl ?_
              refine X.iload 120 i311_118 rfl rfl rfl ?_
              refine X.iconst 121 i311_120 rfl rfl (by decide) ?_
              refine X.callv 124 [zi y519, zi 0] [] [(0, zr 4 44), (1, zi y519), (2, zi 0)] i311_121 rfl (by decide) rfl rfl (by omega) rfl rfl (by decide) rfl t234 (Nat.le_of_ble_eq_true rfl) (Nat.le_of_ble_eq_true rfl) rfl ?_
              refine X.aload_n 1 i234_0 rfl rfl rfl ?_
              refine X.getF 4 i234_1 rfl rfl (by decide) rfl rfl ?_
              refine X.sipush 7 i234_4 rfl rfl (by decide) ?_
              refine X.bipush 9 i234_7 rfl rfl (by decide) ?_
              refine X.iload_n 10 i234_9 rfl rfl rfl ?_
              refine X.imul 11 i234_10 rfl rfl (by omega) ?_
              refine X.iadd 12 i234_11 rfl rfl (by omega) ?_
              refine X.iload_n 13 i234_12 rfl rfl rfl ?_
              refine X.iadd 14 i234_13 rfl rfl (by omega) ?_
              refine X.lald 15 i234_14 rfl rfl (by decide) rfl (by omega) ?_
              refine X.retl i234_15 rfl t234 ?_
              show X (EE s) d 311 124 [(0, zr 4 44), (5, zi y519)] [zl (m 4 45 ((788 + (6 * y519)) + 0))] m _
              refine X.cut [] i311_124 rfl ?_
              refine X.retl i311_124 rfl t311 ?_
              exact hQ (m 4 45 ((788 + (6 * y519)) + 0)) (by first | trivial | omega) 
            · refine X.lload_n 114 i311_113 rfl rfl rfl ?_
              refine X.goto 124 i311_114 rfl rfl ?_
              refine X.cut [] i311_124 rfl ?_
              refine X.retl i311_124 rfl t311 ?_
              exact hQ y518 (by first | trivial | omega) 
  · have h503c : (m 4 45 17) < 64 := by omega
    clear h503 hz502
    refine X.aload_n 15 i235_14 rfl rfl rfl ?_
    refine X.getF 18 i235_15 rfl rfl (by decide) rfl rfl ?_
    refine X.bipush 20 i235_18 rfl rfl (by decide) ?_
    refine X.lald 21 i235_20 rfl rfl (by decide) rfl (by omega) ?_
    refine X.goto 27 i235_21 rfl rfl ?_
    refine X.cut [] i235_27 rfl ?_
    refine X.l2i 28 i235_27 rfl rfl (by omega) ?_
    refine X.reti i235_28 rfl t235 ?_
    show X (EE s) d 311 7 [(0, zr 4 44), (1, zi a1), (2, zi a2)] [zi (m 4 45 17), zl 1, zl a1] m _
    refine X.i2l 8 i311_7 rfl rfl ?_
    refine X.calls 11 [zl a1, zl 1, zl (m 4 45 17)] [] [(0, zl a1), (2, zl 1), (4, zl (m 4 45 17))] i311_8 (by decide) rfl rfl (by omega) rfl rfl t204 (Nat.le_of_ble_eq_true rfl) (Nat.le_of_ble_eq_true rfl) rfl ?_
    refine X.lload_n 1 i204_0 rfl rfl rfl ?_
    refine X.lload_n 2 i204_1 rfl rfl rfl ?_
    refine X.lcmp 3 i204_2 rfl rfl (fun z524 hz524 => ?_)
    refine X.iflt 17 6 i204_3 rfl rfl rfl (fun h525 => ?_) (fun h525 => ?_)
    · have h525c : a1 < 1 := by omega
      clear h525 hz524
      refine X.cut [] i204_17 rfl ?_
      refine X.iconst 18 i204_17 rfl rfl (by decide) ?_
      refine X.retz i204_18 rfl t204 (by omega) ?_
      show X (EE s) d 311 11 [(0, zr 4 44), (1, zi a1), (2, zi a2)] [zi 0] m _
      refine X.ifeq 24 14 i311_11 rfl rfl rfl (fun h526 => ?_) (fun h526 => (by exfalso; omega))
      refine X.cut [] i311_24 rfl ?_
      refine X.ldc2 27 i311_24 rfl rfl (by decide) ?_
      refine X.retl i311_27 rfl t311 ?_
      exact hQ (-1) (by first | trivial | omega) 
    · have h525c : a1 ≥ 1 := by omega
      clear h525 hz524
      refine X.lload_n 7 i204_6 rfl rfl rfl ?_
      refine X.lload 9 i204_7 rfl rfl rfl ?_
      refine X.lcmp 10 i204_9 rfl rfl (fun z527 hz527 => ?_)
      refine X.ifgt 17 13 i204_10 rfl rfl rfl (fun h528 => ?_) (fun h528 => ?_)
      · have h528c : a1 > (m 4 45 17) := by omega
        clear h528 hz527
        refine X.cut [] i204_17 rfl ?_
        refine X.iconst 18 i204_17 rfl rfl (by decide) ?_
        refine X.retz i204_18 rfl t204 (by omega) ?_
        show X (EE s) d 311 11 [(0, zr 4 44), (1, zi a1), (2, zi a2)] [zi 0] m _
        refine X.ifeq 24 14 i311_11 rfl rfl rfl (fun h529 => ?_) (fun h529 => (by exfalso; omega))
        refine X.cut [] i311_24 rfl ?_
        refine X.ldc2 27 i311_24 rfl rfl (by decide) ?_
        refine X.retl i311_27 rfl t311 ?_
        exact hQ (-1) (by first | trivial | omega) 
      · have h528c : a1 ≤ (m 4 45 17) := by omega
        clear h528 hz527
        refine X.iconst 14 i204_13 rfl rfl (by decide) ?_
        refine X.goto 18 i204_14 rfl rfl ?_
        refine X.cut [] i204_18 rfl ?_
        refine X.retz i204_18 rfl t204 (by omega) ?_
        show X (EE s) d 311 11 [(0, zr 4 44), (1, zi a1), (2, zi a2)] [zi 1] m _
        refine X.ifeq 24 14 i311_11 rfl rfl rfl (fun h530 => (by exfalso; omega)) (fun h530 => ?_)
        refine X.iload_n 15 i311_14 rfl rfl rfl ?_
        refine X.i2l 16 i311_15 rfl rfl ?_
        refine X.lconst (y := 0) 17 i311_16 rfl rfl rfl ?_
        refine X.lconst (y := 1) 18 i311_17 rfl rfl rfl ?_
        refine X.calls 21 [zl a2, zl 0, zl 1] [] [(0, zl a2), (2, zl 0), (4, zl 1)] i311_18 (by decide) rfl rfl (by omega) rfl rfl t204 (Nat.le_of_ble_eq_true rfl) (Nat.le_of_ble_eq_true rfl) rfl ?_
        refine X.lload_n 1 i204_0 rfl rfl rfl ?_
        refine X.lload_n 2 i204_1 rfl rfl rfl ?_
        refine X.lcmp 3 i204_2 rfl rfl (fun z531 hz531 => ?_)
        refine X.iflt 17 6 i204_3 rfl rfl rfl (fun h532 => ?_) (fun h532 => ?_)
        · have h532c : a2 < 0 := by omega
          clear h532 hz531
          refine X.cut [] i204_17 rfl ?_
          refine X.iconst 18 i204_17 rfl rfl (by decide) ?_
          refine X.retz i204_18 rfl t204 (by omega) ?_
          show X (EE s) d 311 21 [(0, zr 4 44), (1, zi a1), (2, zi a2)] [zi 0] m _
          refine X.ifne 28 24 i311_21 rfl rfl rfl (fun h533 => (by exfalso; omega)) (fun h533 => ?_)
          refine X.cut [] i311_24 rfl ?_
          refine X.ldc2 27 i311_24 rfl rfl (by decide) ?_
          refine X.retl i311_27 rfl t311 ?_
          exact hQ (-1) (by first | trivial | omega) 
        · have h532c : a2 ≥ 0 := by omega
          clear h532 hz531
          refine X.lload_n 7 i204_6 rfl rfl rfl ?_
          refine X.lload 9 i204_7 rfl rfl rfl ?_
          refine X.lcmp 10 i204_9 rfl rfl (fun z534 hz534 => ?_)
          refine X.ifgt 17 13 i204_10 rfl rfl rfl (fun h535 => ?_) (fun h535 => ?_)
          · have h535c : a2 > 1 := by omega
            clear h535 hz534
            refine X.cut [] i204_17 rfl ?_
            refine X.iconst 18 i204_17 rfl rfl (by decide) ?_
            refine X.retz i204_18 rfl t204 (by omega) ?_
            show X (EE s) d 311 21 [(0, zr 4 44), (1, zi a1), (2, zi a2)] [zi 0] m _
            refine X.ifne 28 24 i311_21 rfl rfl rfl (fun h536 => (by exfalso; omega)) (fun h536 => ?_)
            refine X.cut [] i311_24 rfl ?_
            refine X.ldc2 27 i311_24 rfl rfl (by decide) ?_
            refine X.retl i311_27 rfl t311 ?_
            exact hQ (-1) (by first | trivial | omega) 
          · have h535c : a2 ≤ 1 := by omega
            clear h535 hz534
            refine X.iconst 14 i204_13 rfl rfl (by decide) ?_
            refine X.goto 18 i204_14 rfl rfl ?_
            refine X.cut [] i204_18 rfl ?_
            refine X.retz i204_18 rfl t204 (by omega) ?_
            show X (EE s) d 311 21 [(0, zr 4 44), (1, zi a1), (2, zi a2)] [zi 1] m _
            refine X.ifne 28 24 i311_21 rfl rfl rfl (fun h537 => ?_) (fun h537 => (by exfalso; omega))
            refine X.ldc2 31 i311_28 rfl rfl (by decide) ?_
            refine X.lstore_n 32 [(0, zr 4 44), (1, zi a1), (2, zi a2), (3, zl (-1))] i311_31 rfl rfl rfl ?_
            refine X.iconst 33 i311_32 rfl rfl (by decide) ?_
            refine X.istore 35 [(0, zr 4 44), (1, zi a1), (2, zi a2), (3, zl (-1)), (5, zi 0)] i311_33 rfl rfl rfl ?_
            refine X.iconst 36 i311_35 rfl rfl (by decide) ?_
            refine X.istore 38 [(0, zr 4 44), (1, zi a1), (2, zi a2), (3, zl (-1)), (5, zi 0), (6, zi 0)] i311_36 rfl rfl rfl ?_
            refine l311_38_1 (s := s) (S := S) (m0 := m0) (m := m) (B := B) (d := d)  a1 a2 (by omega) (hJ.up (by omega)) (by omega) (by omega) (by omega) (fun y538 y539 hby538 hby539 => ?_) ((64 - 0 : Int).toNat + 1) (-1) 0 0 (by omega) (by omega) (by omega) (by omega)
            refine X.iload_n 110 i311_109 rfl rfl rfl ?_
            refine X.ifne 117 113 i311_110 rfl rfl rfl (fun h543 => ?_) (fun h543 => ?_)
            · refine X.cut [(0, zr 4 44), (5, zi y539)] i311_117 rfl ?_
              refine X.aload_n 118 i311_117 rfl rfl rfl ?_
              refine X.iload 120 i311_118 rfl rfl rfl ?_
              refine X.iconst 121 i311_120 rfl rfl (by decide) ?_
              refine X.callv 124 [zi y539, zi 0] [] [(0, zr 4 44), (1, zi y539), (2, zi 0)] i311_121 rfl (by decide) rfl rfl (by omega) rfl rfl (by decide) rfl t234 (Nat.le_of_ble_eq_true rfl) (Nat.le_of_ble_eq_true rfl) rfl ?_
              refine X.aload_n 1 i234_0 rfl rfl rfl ?_
              refine X.getF 4 i234_1 rfl rfl (by decide) rfl rfl ?_
              refine X.sipush 7 i234_4 rfl rfl (by decide) ?_
              refine X.bipush 9 i234_7 rfl rfl (by decide) ?_
              refine X.iload_n 10 i234_9 rfl rfl rfl ?_
              refine X.imul 11 i234_10 rfl rfl (by omega) ?_
              refine X.iadd 12 i234_11 rfl rfl (by omega) ?_
              refine X.iload_n 13 i234_12 rfl rfl rfl ?_
              refine X.iadd 14 i234_13 rfl rfl (by omega) ?_
              refine X.lald 15 i234_14 rfl rfl (by decide) rfl (by omega) ?_
              refine X.retl i234_15 rfl t234 ?_
              show X (EE s) d 311 124 [(0, zr 4 44), (5, zi y539)] [zl (m 4 45 ((788 + (6 * y539)) + 0))] m _
              refine X.cut [] i311_124 rfl ?_
              refine X.retl i311_124 rfl t311 ?_
              exact hQ (m 4 45 ((788 + (6 * y539)) + 0)) (by first | trivial | omega) 
            · refine X.lload_n 114 i311_113 rfl rfl rfl ?_
              refine X.goto 124 i311_114 rfl rfl ?_
              refine X.cut [] i311_124 rfl ?_
              refine X.retl i311_124 rfl t311 ?_
              exact hQ y538 (by first | trivial | omega) 
theorem l189_17_1 {s : Nat × (Nat → Int32)} {S : zS} {m0 m : zM} {B : Int} {d : Nat} {Q : Option zV → zM → Prop} (y1 y2 y5 : Int) (hd : 13 ≤ d) (hJ : J S m0 B m) (hB9 : B ≤ 1000000000) (hy1 : (-2147483648) ≤ y1 ∧ y1 ≤ 2147483647) (hy2 : (-2147483648) ≤ y2 ∧ y2 ≤ 2147483647) (hy5 : 0 ≤ y5 ∧ y5 ≤ 64)
    (K77 : ∀ (x3 : Int) , (True) → (y5 ≤ m 0 27 2) → X (EE s) d 189 77 [(3, zl x3)] [] m Q) :
    ∀ (n : Nat) (y3 y6 : Int) , (0 ≤ y6 ∧ y6 ≤ 64) → (y5 ≤ m 0 27 2) → 64 - y6 < (n : Int) → X (EE s) d 189 17 [(0, zr 4 40), (1, zi y1), (2, zi y2), (3, zl y3), (5, zi y5), (6, zi y6)] [] m Q := by
  intro n
  induction n with
  | zero =>
    intro y3 y6 hy6 hr0 hn
    exfalso
    omega
  | succ n ih =>
    intro y3 y6 hy6 hr0 hn
    refine X.iload 19 i189_17 rfl rfl rfl ?_
    refine X.iload 21 i189_19 rfl rfl rfl ?_
    refine X.icmpge 77 24 i189_21 rfl rfl rfl (fun h515 => ?_) (fun h515 => ?_)
    · refine X.cut [(3, zl y3)] i189_77 rfl ?_
      exact K77 y3 (by first | trivial | omega) (by omega)
    · refine X.aload_n 25 i189_24 rfl rfl rfl ?_
      refine X.getF 28 i189_25 rfl rfl (by decide) rfl rfl ?_
      refine X.getR 31 i189_28 rfl rfl (by decide) rfl rfl ?_
      refine X.iload 33 i189_31 rfl rfl rfl ?_
      refine X.iconst 34 i189_33 rfl rfl (by decide) ?_
      refine X.callv 37 [zi y6, zi 0] [] [(0, zr 0 27), (1, zi y6), (2, zi 0)] i189_34 rfl (by decide) rfl rfl (by omega) rfl rfl (by decide) rfl t67 (Nat.le_of_ble_eq_true rfl) (Nat.le_of_ble_eq_true rfl) rfl ?_
      refine X.aload_n 1 i67_0 rfl rfl rfl ?_
      refine X.getR 4 i67_1 rfl rfl (by decide) rfl rfl ?_
      refine X.aload_n 5 i67_4 rfl rfl rfl ?_
      refine X.getI 8 2 i67_5 rfl rfl (by decide) rfl rfl rfl ?_
      have h516 := r27_2 hJ 0
      refine X.iconst 9 i67_8 rfl rfl (by decide) ?_
      refine X.isub 10 i67_9 rfl rfl (by omega) ?_
      refine X.iload_n 11 i67_10 rfl rfl rfl ?_
      refine X.isub 12 i67_11 rfl rfl (by omega) ?_
      refine X.bipush 14 i67_12 rfl rfl (by decide) ?_
      refine X.irem 15 i67_14 rfl rfl (by omega) ?_
      refine X.bipush 17 i67_15 rfl rfl (by decide) ?_
      refine X.imul 18 i67_17 rfl rfl (by omega) ?_
      refine X.iload_n 19 i67_18 rfl rfl rfl ?_
      refine X.iadd 20 i67_19 rfl rfl (by omega) ?_
      refine X.lald 21 i67_20 rfl rfl (by decide) rfl (by omega) ?_
      refine X.retl i67_21 rfl t67 ?_
      show X (EE s) d 189 37 [(0, zr 4 40), (1, zi y1), (2, zi y2), (3, zl y3), (5, zi y5), (6, zi y6)] [zl (m 0 28 ((((((m 0 27 2) - 1) - y6) % 64) * 6) + 0))] m _
      refine X.lstore 39 [(0, zr 4 40), (1, zi y1), (2, zi y2), (3, zl y3), (5, zi y5), (6, zi y6), (7, zl (m 0 28 ((((((m 0 27 2) - 1) - y6) % 64) * 6) + 0)))] i189_37 rfl rfl rfl ?_
      refine X.lload 41 i189_39 rfl rfl rfl ?_
      refine X.iload_n 42 i189_41 rfl rfl rfl ?_
      refine X.i2l 43 i189_42 rfl rfl ?_
      refine X.lcmp 44 i189_43 rfl rfl (fun z517 hz517 => ?_)
      refine X.ifle 71 47 i189_44 rfl rfl rfl (fun h518 => ?_) (fun h518 => ?_)
      · have h518c : (m 0 28 ((((((m 0 27 2) - 1) - y6) % 64) * 6) + 0)) ≤ y1 := by omega
        clear h518 hz517
        refine X.cut [(0, zr 4 40), (1, zi y1), (2, zi y2), (3, zl y3), (5, zi y5), (6, zi y6)] i189_71 rfl ?_
        refine X.iinc 74 [(0, zr 4 40), (1, zi y1), (2, zi y2), (3, zl y3), (5, zi y5), (6, zi (y6 + 1))] i189_71 rfl rfl rfl (by omega) rfl ?_
        refine X.goto 17 i189_74 rfl rfl ?_
        exact ih y3 (y6 + 1) (by omega) (by omega) (by omega)
      · have h518c : (m 0 28 ((((((m 0 27 2) - 1) - y6) % 64) * 6) + 0)) > y1 := by omega
        clear h518 hz517
        refine X.lload 49 i189_47 rfl rfl rfl ?_
        refine X.iload_n 50 i189_49 rfl rfl rfl ?_
        refine X.i2l 51 i189_50 rfl rfl ?_
        refine X.lcmp 52 i189_51 rfl rfl (fun z519 hz519 => ?_)
        refine X.ifgt 71 55 i189_52 rfl rfl rfl (fun h520 => ?_) (fun h520 => ?_)
        · have h520c : (m 0 28 ((((((m 0 27 2) - 1) - y6) % 64) * 6) + 0)) > y2 := by omega
          clear h520 hz519
          refine X.cut [(0, zr 4 40), (1, zi y1), (2, zi y2), (3, zl y3), (5, zi y5), (6, zi y6)] i189_71 rfl ?_
          refine X.iinc 74 [(0, zr 4 40), (1, zi y1), (2, zi y2), (3, zl y3), (5, zi y5), (6, zi (y6 + 1))] i189_71 rfl rfl rfl (by omega) rfl ?_
          refine X.goto 17 i189_74 rfl rfl ?_
          exact ih y3 (y6 + 1) (by omega) (by omega) (by omega)
        · have h520c : (m 0 28 ((((((m 0 27 2) - 1) - y6) % 64) * 6) + 0)) ≤ y2 := by omega
          clear h520 hz519
          refine X.lload_n 56 i189_55 rfl rfl rfl ?_
          refine X.aload_n 57 i189_56 rfl rfl rfl ?_
          refine X.getF 60 i189_57 rfl rfl (by decide) rfl rfl ?_
          refine X.getR 63 i189_60 rfl rfl (by decide) rfl rfl ?_
          refine X.iload 65 i189_63 rfl rfl rfl ?_
          refine X.iconst 66 i189_65 rfl rfl (by decide) ?_
          refine X.callv 69 [zi y6, zi 1] [zl y3] [(0, zr 0 27), (1, zi y6), (2, zi 1)] i189_66 rfl (by decide) rfl rfl (by omega) rfl rfl (by decide) rfl t67 (Nat.le_of_ble_eq_true rfl) (Nat.le_of_ble_eq_true rfl) rfl ?_
          refine X.aload_n 1 i67_0 rfl rfl rfl ?_
          refine X.getR 4 i67_1 rfl rfl (by decide) rfl rfl ?_
          refine X.aload_n 5 i67_4 rfl rfl rfl ?_
          refine X.getI 8 2 i67_5 rfl rfl (by decide) rfl rfl rfl ?_
          refine X.iconst 9 i67_8 rfl rfl (by decide) ?_
          refine X.isub 10 i67_9 rfl rfl (by omega) ?_
          refine X.iload_n 11 i67_10 rfl rfl rfl ?_
          refine X.isub 12 i67_11 rfl rfl (by omega) ?_
          refine X.bipush 14 i67_12 rfl rfl (by decide) ?_
          refine X.irem 15 i67_14 rfl rfl (by omega) ?_
          refine X.bipush 17 i67_15 rfl rfl (by decide) ?_
          refine X.imul 18 i67_17 rfl rfl (by omega) ?_
          refine X.iload_n 19 i67_18 rfl rfl rfl ?_
          refine X.iadd 20 i67_19 rfl rfl (by omega) ?_
          refine X.lald 21 i67_20 rfl rfl (by decide) rfl (by omega) ?_
          refine X.retl i67_21 rfl t67 ?_
          show X (EE s) d 189 69 [(0, zr 4 40), (1, zi y1), (2, zi y2), (3, zl y3), (5, zi y5), (6, zi y6), (7, zl (m 0 28 ((((((m 0 27 2) - 1) - y6) % 64) * 6) + 0)))] [zl (m 0 28 ((((((m 0 27 2) - 1) - y6) % 64) * 6) + 1)), zl y3] m _
          refine X.llF 70 .ladd (fun x y => x + y) i189_69 rfl rfl rfl (fun _ _ => rfl) (fun z521 hz521 => ?_)
          refine X.lstore_n 71 [(0, zr 4 40), (1, zi y1), (2, zi y2), (3, zl z521), (5, zi y5), (6, zi y6), (7, zl (m 0 28 ((((((m 0 27 2) - 1) - y6) % 64) * 6) + 0)))] i189_70 rfl rfl rfl ?_
          refine X.cut [(0, zr 4 40), (1, zi y1), (2, zi y2), (3, zl z521), (5, zi y5), (6, zi y6)] i189_71 rfl ?_
          refine X.iinc 74 [(0, zr 4 40), (1, zi y1), (2, zi y2), (3, zl z521), (5, zi y5), (6, zi (y6 + 1))] i189_71 rfl rfl rfl (by omega) rfl ?_
          refine X.goto 17 i189_74 rfl rfl ?_
          exact ih z521 (y6 + 1) (by omega) (by omega) (by omega)
-- WorkMeter.between
theorem c189_1 {s : Nat × (Nat → Int32)} {S : zS} {m0 m : zM} {B : Int} {d : Nat} {Q : Option zV → zM → Prop} (a1 a2 : Int) (hd : 14 ≤ d) (hJ : J S m0 B m) (hB : B + 0 ≤ 1000000000) (ha1 : (-2147483648) ≤ a1 ∧ a1 ≤ 2147483647) (ha2 : (-2147483648) ≤ a2 ∧ a2 ≤ 2147483647) (hQ : ∀ (v : Int), (True) → Q (some (zl v)) m) : X (EE s) d 189 0 [(0, zr 4 40), (1, zi a1), (2, zi a2)] [] m Q := by
  refine X.lconst (y := 0) 1 i189_0 rfl rfl rfl ?_
  refine X.lstore_n 2 [(0, zr 4 40), (1, zi a1), (2, zi a2), (3, zl 0)] i189_1 rfl rfl rfl ?_
  refine X.aload_n 3 i189_2 rfl rfl rfl ?_
  refine X.getF 6 i189_3 rfl rfl (by decide) rfl rfl ?_
  refine X.getR 9 i189_6 rfl rfl (by decide) rfl rfl ?_
  refine X.callv 12 [] [] [(0, zr 0 27)] i189_9 rfl (by decide) rfl rfl (by omega) rfl rfl (by decide) rfl t66 (Nat.le_of_ble_eq_true rfl) (Nat.le_of_ble_eq_true rfl) rfl ?_
  refine X.aload_n 1 i66_0 rfl rfl rfl ?_
  refine X.getI 4 2 i66_1 rfl rfl (by decide) rfl rfl rfl ?_
  have h501 := r27_2 hJ 0
  refine X.bipush 6 i66_4 rfl rfl (by decide) ?_
  refine X.minI 9 i66_6 rfl rfl (by omega) (Nat.le_of_ble_eq_true rfl) ?_
  refine X.reti i66_9 rfl t66 ?_
  show X (EE s) d 189 12 [(0, zr 4 40), (1, zi a1), (2, zi a2), (3, zl 0)] [zi (min (m 0 27 2) 64)] m _
  refine X.istore 14 [(0, zr 4 40), (1, zi a1), (2, zi a2), (3, zl 0), (5, zi (min (m 0 27 2) 64))] i189_12 rfl rfl rfl ?_
  refine X.iconst 15 i189_14 rfl rfl (by decide) ?_
  refine X.istore 17 [(0, zr 4 40), (1, zi a1), (2, zi a2), (3, zl 0), (5, zi (min (m 0 27 2) 64)), (6, zi 0)] i189_15 rfl rfl rfl ?_
  refine l189_17_1 (s := s) (S := S) (m0 := m0) (m := m) (B := B) (d := d)  a1 a2 (min (m 0 27 2) 64) (by omega) (hJ.up (by omega)) (by omega) (by omega) (by omega) (by omega) (fun y502 hby502 hrlm5030 => ?_) ((64 - 0 : Int).toNat + 1) 0 0 (by omega) (by omega) (by omega)
  refine X.lload_n 78 i189_77 rfl rfl rfl ?_
  refine X.retl i189_78 rfl t189 ?_
  exact hQ y502 (by first | trivial | omega) 
theorem l312_5_1 {s : Nat × (Nat → Int32)} {S : zS} {m0 m : zM} {B : Int} {d : Nat} {Q : Option zV → zM → Prop} (y1 y2 : Int) (hd : 13 ≤ d) (hJ : J S m0 B m) (hB9 : B ≤ 1000000000) (hy1 : (-2147483648) ≤ y1 ∧ y1 ≤ 2147483647) (hy2 : (-2147483648) ≤ y2 ∧ y2 ≤ 2147483647)
    (K60 : ∀ (x3 : Int) , (True) → X (EE s) d 312 60 [(3, zl x3)] [] m Q) :
    ∀ (n : Nat) (y3 y5 : Int) , (0 ≤ y5 ∧ y5 ≤ 64) → 64 - y5 < (n : Int) → X (EE s) d 312 5 [(0, zr 4 44), (1, zi y1), (2, zi y2), (3, zl y3), (5, zi y5)] [] m Q := by
  intro n
  induction n with
  | zero =>
    intro y3 y5 hy5 hn
    exfalso
    omega
  | succ n ih =>
    intro y3 y5 hy5 hn
    refine X.iload 7 i312_5 rfl rfl rfl ?_
    refine X.aload_n 8 i312_7 rfl rfl rfl ?_
    refine X.callv 11 [] [zi y5] [(0, zr 4 44)] i312_8 rfl (by decide) rfl rfl (by omega) rfl rfl (by decide) rfl t235 (Nat.le_of_ble_eq_true rfl) (Nat.le_of_ble_eq_true rfl) rfl ?_
    refine X.aload_n 1 i235_0 rfl rfl rfl ?_
    refine X.getF 4 i235_1 rfl rfl (by decide) rfl rfl ?_
    refine X.bipush 6 i235_4 rfl rfl (by decide) ?_
    refine X.lald 7 i235_6 rfl rfl (by decide) rfl (by omega) ?_
    have h538 := r45_17 hJ 4
    refine X.ldc2 10 i235_7 rfl rfl (by decide) ?_
    refine X.lcmp 11 i235_10 rfl rfl (fun z539 hz539 => ?_)
    refine X.ifge 24 14 i235_11 rfl rfl rfl (fun h540 => ?_) (fun h540 => ?_)
    · have h540c : (m 4 45 17) ≥ 64 := by omega
      clear h540 hz539
      refine X.cut [] i235_24 rfl ?_
      refine X.ldc2 27 i235_24 rfl rfl (by decide) ?_
      refine X.l2i 28 i235_27 rfl rfl (by omega) ?_
      refine X.reti i235_28 rfl t235 ?_
      show X (EE s) d 312 11 [(0, zr 4 44), (1, zi y1), (2, zi y2), (3, zl y3), (5, zi y5)] [zi 64, zi y5] m _
      refine X.icmpge 60 14 i312_11 rfl rfl rfl (fun h541 => ?_) (fun h541 => ?_)
      · refine X.cut [(3, zl y3)] i312_60 rfl ?_
        exact K60 y3 (by first | trivial | omega)
      · refine X.lload_n 15 i312_14 rfl rfl rfl ?_
        refine X.aload_n 16 i312_15 rfl rfl rfl ?_
        refine X.iload 18 i312_16 rfl rfl rfl ?_
        refine X.iconst 19 i312_18 rfl rfl (by decide) ?_
        refine X.callv 22 [zi y5, zi 0] [zl y3] [(0, zr 4 44), (1, zi y5), (2, zi 0)] i312_19 rfl (by decide) rfl rfl (by omega) rfl rfl (by decide) rfl t234 (Nat.le_of_ble_eq_true rfl) (Nat.le_of_ble_eq_true rfl) rfl ?_
        refine X.aload_n 1 i234_0 rfl rfl rfl ?_
        refine X.getF 4 i234_1 rfl rfl (by decide) rfl rfl ?_
        refine X.sipush 7 i234_4 rfl rfl (by decide) ?_
        refine X.bipush 9 i234_7 rfl rfl (by decide) ?_
        refine X.iload_n 10 i234_9 rfl rfl rfl ?_
        refine X.imul 11 i234_10 rfl rfl (by omega) ?_
        refine X.iadd 12 i234_11 rfl rfl (by omega) ?_
        refine X.iload_n 13 i234_12 rfl rfl rfl ?_
        refine X.iadd 14 i234_13 rfl rfl (by omega) ?_
        refine X.lald 15 i234_14 rfl rfl (by decide) rfl (by omega) ?_
        refine X.retl i234_15 rfl t234 ?_
        show X (EE s) d 312 22 [(0, zr 4 44), (1, zi y1), (2, zi y2), (3, zl y3), (5, zi y5)] [zl (m 4 45 ((788 + (6 * y5)) + 0)), zl y3] m _
        refine X.iload_n 23 i312_22 rfl rfl rfl ?_
        refine X.i2l 24 i312_23 rfl rfl ?_
        refine X.lcmp 25 i312_24 rfl rfl (fun z542 hz542 => ?_)
        refine X.ifle 51 28 i312_25 rfl rfl rfl (fun h543 => ?_) (fun h543 => ?_)
        · have h543c : (m 4 45 ((788 + (6 * y5)) + 0)) ≤ y1 := by omega
          clear h543 hz542
          refine X.cut [(0, zr 4 44), (1, zi y1), (2, zi y2), (5, zi y5)] i312_51 rfl ?_
          refine X.lconst (y := 0) 52 i312_51 rfl rfl rfl ?_
          refine X.llF 53 .ladd (fun x y => x + y) i312_52 rfl rfl rfl (fun _ _ => rfl) (fun z544 hz544 => ?_)
          refine X.lstore_n 54 [(0, zr 4 44), (1, zi y1), (2, zi y2), (3, zl z544), (5, zi y5)] i312_53 rfl rfl rfl ?_
          refine X.iinc 57 [(0, zr 4 44), (1, zi y1), (2, zi y2), (3, zl z544), (5, zi (y5 + 1))] i312_54 rfl rfl rfl (by omega) rfl ?_
          refine X.goto 5 i312_57 rfl rfl ?_
          exact ih z544 (y5 + 1) (by omega) (by omega)
        · have h543c : (m 4 45 ((788 + (6 * y5)) + 0)) > y1 := by omega
          clear h543 hz542
          refine X.aload_n 29 i312_28 rfl rfl rfl ?_
          refine X.iload 31 i312_29 rfl rfl rfl ?_
          refine X.iconst 32 i312_31 rfl rfl (by decide) ?_
          refine X.callv 35 [zi y5, zi 0] [zl y3] [(0, zr 4 44), (1, zi y5), (2, zi 0)] i312_32 rfl (by decide) rfl rfl (by omega) rfl rfl (by decide) rfl t234 (Nat.le_of_ble_eq_true rfl) (Nat.le_of_ble_eq_true rfl) rfl ?_
          refine X.aload_n 1 i234_0 rfl rfl rfl ?_
          refine X.getF 4 i234_1 rfl rfl (by decide) rfl rfl ?_
          refine X.sipush 7 i234_4 rfl rfl (by decide) ?_
          refine X.bipush 9 i234_7 rfl rfl (by decide) ?_
          refine X.iload_n 10 i234_9 rfl rfl rfl ?_
          refine X.imul 11 i234_10 rfl rfl (by omega) ?_
          refine X.iadd 12 i234_11 rfl rfl (by omega) ?_
          refine X.iload_n 13 i234_12 rfl rfl rfl ?_
          refine X.iadd 14 i234_13 rfl rfl (by omega) ?_
          refine X.lald 15 i234_14 rfl rfl (by decide) rfl (by omega) ?_
          refine X.retl i234_15 rfl t234 ?_
          show X (EE s) d 312 35 [(0, zr 4 44), (1, zi y1), (2, zi y2), (3, zl y3), (5, zi y5)] [zl (m 4 45 ((788 + (6 * y5)) + 0)), zl y3] m _
          refine X.iload_n 36 i312_35 rfl rfl rfl ?_
          refine X.i2l 37 i312_36 rfl rfl ?_
          refine X.lcmp 38 i312_37 rfl rfl (fun z545 hz545 => ?_)
          refine X.ifgt 51 41 i312_38 rfl rfl rfl (fun h546 => ?_) (fun h546 => ?_)
          · have h546c : (m 4 45 ((788 + (6 * y5)) + 0)) > y2 := by omega
            clear h546 hz545
            refine X.cut [(0, zr 4 44), (1, zi y1), (2, zi y2), (5, zi y5)] i312_51 rfl ?_
            refine X.lconst (y := 0) 52 i312_51 rfl rfl rfl ?_
            refine X.llF 53 .ladd (fun x y => x + y) i312_52 rfl rfl rfl (fun _ _ => rfl) (fun z547 hz547 => ?_)
            refine X.lstore_n 54 [(0, zr 4 44), (1, zi y1), (2, zi y2), (3, zl z547), (5, zi y5)] i312_53 rfl rfl rfl ?_
            refine X.iinc 57 [(0, zr 4 44), (1, zi y1), (2, zi y2), (3, zl z547), (5, zi (y5 + 1))] i312_54 rfl rfl rfl (by omega) rfl ?_
            refine X.goto 5 i312_57 rfl rfl ?_
            exact ih z547 (y5 + 1) (by omega) (by omega)
          · have h546c : (m 4 45 ((788 + (6 * y5)) + 0)) ≤ y2 := by omega
            clear h546 hz545
            refine X.aload_n 42 i312_41 rfl rfl rfl ?_
            refine X.iload 44 i312_42 rfl rfl rfl ?_
            refine X.iconst 45 i312_44 rfl rfl (by decide) ?_
            refine X.callv 48 [zi y5, zi 1] [zl y3] [(0, zr 4 44), (1, zi y5), (2, zi 1)] i312_45 rfl (by decide) rfl rfl (by omega) rfl rfl (by decide) rfl t234 (Nat.le_of_ble_eq_true rfl) (Nat.le_of_ble_eq_true rfl) rfl ?_
            refine X.aload_n 1 i234_0 rfl rfl rfl ?_
            refine X.getF 4 i234_1 rfl rfl (by decide) rfl rfl ?_
            refine X.sipush 7 i234_4 rfl rfl (by decide) ?_
            refine X.bipush 9 i234_7 rfl rfl (by decide) ?_
            refine X.iload_n 10 i234_9 rfl rfl rfl ?_
            refine X.imul 11 i234_10 rfl rfl (by omega) ?_
            refine X.iadd 12 i234_11 rfl rfl (by omega) ?_
            refine X.iload_n 13 i234_12 rfl rfl rfl ?_
            refine X.iadd 14 i234_13 rfl rfl (by omega) ?_
            refine X.lald 15 i234_14 rfl rfl (by decide) rfl (by omega) ?_
            refine X.retl i234_15 rfl t234 ?_
            show X (EE s) d 312 48 [(0, zr 4 44), (1, zi y1), (2, zi y2), (3, zl y3), (5, zi y5)] [zl (m 4 45 ((788 + (6 * y5)) + 1)), zl y3] m _
            refine X.goto 52 i312_48 rfl rfl ?_
            refine X.cut [(0, zr 4 44), (1, zi y1), (2, zi y2), (5, zi y5)] i312_52 rfl ?_
            refine X.llF 53 .ladd (fun x y => x + y) i312_52 rfl rfl rfl (fun _ _ => rfl) (fun z548 hz548 => ?_)
            refine X.lstore_n 54 [(0, zr 4 44), (1, zi y1), (2, zi y2), (3, zl z548), (5, zi y5)] i312_53 rfl rfl rfl ?_
            refine X.iinc 57 [(0, zr 4 44), (1, zi y1), (2, zi y2), (3, zl z548), (5, zi (y5 + 1))] i312_54 rfl rfl rfl (by omega) rfl ?_
            refine X.goto 5 i312_57 rfl rfl ?_
            exact ih z548 (y5 + 1) (by omega) (by omega)
    · have h540c : (m 4 45 17) < 64 := by omega
      clear h540 hz539
      refine X.aload_n 15 i235_14 rfl rfl rfl ?_
      refine X.getF 18 i235_15 rfl rfl (by decide) rfl rfl ?_
      refine X.bipush 20 i235_18 rfl rfl (by decide) ?_
      refine X.lald 21 i235_20 rfl rfl (by decide) rfl (by omega) ?_
      refine X.goto 27 i235_21 rfl rfl ?_
      refine X.cut [] i235_27 rfl ?_
      refine X.l2i 28 i235_27 rfl rfl (by omega) ?_
      refine X.reti i235_28 rfl t235 ?_
      show X (EE s) d 312 11 [(0, zr 4 44), (1, zi y1), (2, zi y2), (3, zl y3), (5, zi y5)] [zi (m 4 45 17), zi y5] m _
      refine X.icmpge 60 14 i312_11 rfl rfl rfl (fun h549 => ?_) (fun h549 => ?_)
      · refine X.cut [(3, zl y3)] i312_60 rfl ?_
        exact K60 y3 (by first | trivial | omega)
      · refine X.lload_n 15 i312_14 rfl rfl rfl ?_
        refine X.aload_n 16 i312_15 rfl rfl rfl ?_
        refine X.iload 18 i312_16 rfl rfl rfl ?_
        refine X.iconst 19 i312_18 rfl rfl (by decide) ?_
        refine X.callv 22 [zi y5, zi 0] [zl y3] [(0, zr 4 44), (1, zi y5), (2, zi 0)] i312_19 rfl (by decide) rfl rfl (by omega) rfl rfl (by decide) rfl t234 (Nat.le_of_ble_eq_true rfl) (Nat.le_of_ble_eq_true rfl) rfl ?_
        refine X.aload_n 1 i234_0 rfl rfl rfl ?_
        refine X.getF 4 i234_1 rfl rfl (by decide) rfl rfl ?_
        refine X.sipush 7 i234_4 rfl rfl (by decide) ?_
        refine X.bipush 9 i234_7 rfl rfl (by decide) ?_
        refine X.iload_n 10 i234_9 rfl rfl rfl ?_
        refine X.imul 11 i234_10 rfl rfl (by omega) ?_
        refine X.iadd 12 i234_11 rfl rfl (by omega) ?_
        refine X.iload_n 13 i234_12 rfl rfl rfl ?_
        refine X.iadd 14 i234_13 rfl rfl (by omega) ?_
        refine X.lald 15 i234_14 rfl rfl (by decide) rfl (by omega) ?_
        refine X.retl i234_15 rfl t234 ?_
        show X (EE s) d 312 22 [(0, zr 4 44), (1, zi y1), (2, zi y2), (3, zl y3), (5, zi y5)] [zl (m 4 45 ((788 + (6 * y5)) + 0)), zl y3] m _
        refine X.iload_n 23 i312_22 rfl rfl rfl ?_
        refine X.i2l 24 i312_23 rfl rfl ?_
        refine X.lcmp 25 i312_24 rfl rfl (fun z550 hz550 => ?_)
        refine X.ifle 51 28 i312_25 rfl rfl rfl (fun h551 => ?_) (fun h551 => ?_)
        · have h551c : (m 4 45 ((788 + (6 * y5)) + 0)) ≤ y1 := by omega
          clear h551 hz550
          refine X.cut [(0, zr 4 44), (1, zi y1), (2, zi y2), (5, zi y5)] i312_51 rfl ?_
          refine X.lconst (y := 0) 52 i312_51 rfl rfl rfl ?_
          refine X.llF 53 .ladd (fun x y => x + y) i312_52 rfl rfl rfl (fun _ _ => rfl) (fun z552 hz552 => ?_)
          refine X.lstore_n 54 [(0, zr 4 44), (1, zi y1), (2, zi y2), (3, zl z552), (5, zi y5)] i312_53 rfl rfl rfl ?_
          refine X.iinc 57 [(0, zr 4 44), (1, zi y1), (2, zi y2), (3, zl z552), (5, zi (y5 + 1))] i312_54 rfl rfl rfl (by omega) rfl ?_
          refine X.goto 5 i312_57 rfl rfl ?_
          exact ih z552 (y5 + 1) (by omega) (by omega)
        · have h551c : (m 4 45 ((788 + (6 * y5)) + 0)) > y1 := by omega
          clear h551 hz550
          refine X.aload_n 29 i312_28 rfl rfl rfl ?_
          refine X.iload 31 i312_29 rfl rfl rfl ?_
          refine X.iconst 32 i312_31 rfl rfl (by decide) ?_
          refine X.callv 35 [zi y5, zi 0] [zl y3] [(0, zr 4 44), (1, zi y5), (2, zi 0)] i312_32 rfl (by decide) rfl rfl (by omega) rfl rfl (by decide) rfl t234 (Nat.le_of_ble_eq_true rfl) (Nat.le_of_ble_eq_true rfl) rfl ?_
          refine X.aload_n 1 i234_0 rfl rfl rfl ?_
          refine X.getF 4 i234_1 rfl rfl (by decide) rfl rfl ?_
          refine X.sipush 7 i234_4 rfl rfl (by decide) ?_
          refine X.bipush 9 i234_7 rfl rfl (by decide) ?_
          refine X.iload_n 10 i234_9 rfl rfl rfl ?_
          refine X.imul 11 i234_10 rfl rfl (by omega) ?_
          refine X.iadd 12 i234_11 rfl rfl (by omega) ?_
          refine X.iload_n 13 i234_12 rfl rfl rfl ?_
          refine X.iadd 14 i234_13 rfl rfl (by omega) ?_
          refine X.lald 15 i234_14 rfl rfl (by decide) rfl (by omega) ?_
          refine X.retl i234_15 rfl t234 ?_
          show X (EE s) d 312 35 [(0, zr 4 44), (1, zi y1), (2, zi y2), (3, zl y3), (5, zi y5)] [zl (m 4 45 ((788 + (6 * y5)) + 0)), zl y3] m _
          refine X.iload_n 36 i312_35 rfl rfl rfl ?_
          refine X.i2l 37 i312_36 rfl rfl ?_
          refine X.lcmp 38 i312_37 rfl rfl (fun z553 hz553 => ?_)
          refine X.ifgt 51 41 i312_38 rfl rfl rfl (fun h554 => ?_) (fun h554 => ?_)
          · have h554c : (m 4 45 ((788 + (6 * y5)) + 0)) > y2 := by omega
            clear h554 hz553
            refine X.cut [(0, zr 4 44), (1, zi y1), (2, zi y2), (5, zi y5)] i312_51 rfl ?_
            refine X.lconst (y := 0) 52 i312_51 rfl rfl rfl ?_
            refine X.llF 53 .ladd (fun x y => x + y) i312_52 rfl rfl rfl (fun _ _ => rfl) (fun z555 hz555 => ?_)
            refine X.lstore_n 54 [(0, zr 4 44), (1, zi y1), (2, zi y2), (3, zl z555), (5, zi y5)] i312_53 rfl rfl rfl ?_
            refine X.iinc 57 [(0, zr 4 44), (1, zi y1), (2, zi y2), (3, zl z555), (5, zi (y5 + 1))] i312_54 rfl rfl rfl (by omega) rfl ?_
            refine X.goto 5 i312_57 rfl rfl ?_
            exact ih z555 (y5 + 1) (by omega) (by omega)
          · have h554c : (m 4 45 ((788 + (6 * y5)) + 0)) ≤ y2 := by omega
            clear h554 hz553
            refine X.aload_n 42 i312_41 rfl rfl rfl ?_
            refine X.iload 44 i312_42 rfl rfl rfl ?_
            refine X.iconst 45 i312_44 rfl rfl (by decide) ?_
            refine X.callv 48 [zi y5, zi 1] [zl y3] [(0, zr 4 44), (1, zi y5), (2, zi 1)] i312_45 rfl (by decide) rfl rfl (by omega) rfl rfl (by decide) rfl t234 (Nat.le_of_ble_eq_true rfl) (Nat.le_of_ble_eq_true rfl) rfl ?_
            refine X.aload_n 1 i234_0 rfl rfl rfl ?_
            refine X.getF 4 i234_1 rfl rfl (by decide) rfl rfl ?_
            refine X.sipush 7 i234_4 rfl rfl (by decide) ?_
            refine X.bipush 9 i234_7 rfl rfl (by decide) ?_
            refine X.iload_n 10 i234_9 rfl rfl rfl ?_
            refine X.imul 11 i234_10 rfl rfl (by omega) ?_
            refine X.iadd 12 i234_11 rfl rfl (by omega) ?_
            refine X.iload_n 13 i234_12 rfl rfl rfl ?_
            refine X.iadd 14 i234_13 rfl rfl (by omega) ?_
            refine X.lald 15 i234_14 rfl rfl (by decide) rfl (by omega) ?_
            refine X.retl i234_15 rfl t234 ?_
            show X (EE s) d 312 48 [(0, zr 4 44), (1, zi y1), (2, zi y2), (3, zl y3), (5, zi y5)] [zl (m 4 45 ((788 + (6 * y5)) + 1)), zl y3] m _
            refine X.goto 52 i312_48 rfl rfl ?_
            refine X.cut [(0, zr 4 44), (1, zi y1), (2, zi y2), (5, zi y5)] i312_52 rfl ?_
            refine X.llF 53 .ladd (fun x y => x + y) i312_52 rfl rfl rfl (fun _ _ => rfl) (fun z556 hz556 => ?_)
            refine X.lstore_n 54 [(0, zr 4 44), (1, zi y1), (2, zi y2), (3, zl z556), (5, zi y5)] i312_53 rfl rfl rfl ?_
            refine X.iinc 57 [(0, zr 4 44), (1, zi y1), (2, zi y2), (3, zl z556), (5, zi (y5 + 1))] i312_54 rfl rfl rfl (by omega) rfl ?_
            refine X.goto 5 i312_57 rfl rfl ?_
            exact ih z556 (y5 + 1) (by omega) (by omega)
-- WorkMeterModel.between
theorem c312_1 {s : Nat × (Nat → Int32)} {S : zS} {m0 m : zM} {B : Int} {d : Nat} {Q : Option zV → zM → Prop} (a1 a2 : Int) (hd : 13 ≤ d) (hJ : J S m0 B m) (hB : B + 0 ≤ 1000000000) (ha1 : (-2147483648) ≤ a1 ∧ a1 ≤ 2147483647) (ha2 : (-2147483648) ≤ a2 ∧ a2 ≤ 2147483647) (hQ : ∀ (v : Int), (True) → Q (some (zl v)) m) : X (EE s) d 312 0 [(0, zr 4 44), (1, zi a1), (2, zi a2)] [] m Q := by
  refine X.lconst (y := 0) 1 i312_0 rfl rfl rfl ?_
  refine X.lstore_n 2 [(0, zr 4 44), (1, zi a1), (2, zi a2), (3, zl 0)] i312_1 rfl rfl rfl ?_
  refine X.iconst 3 i312_2 rfl rfl (by decide) ?_
  refine X.istore 5 [(0, zr 4 44), (1, zi a1), (2, zi a2), (3, zl 0), (5, zi 0)] i312_3 rfl rfl rfl ?_
  refine l312_5_1 (s := s) (S := S) (m0 := m0) (m := m) (B := B) (d := d)  a1 a2 (by omega) (hJ.up (by omega)) (by omega) (by omega) (by omega) (fun y501 hby501 => ?_) ((64 - 0 : Int).toNat + 1) 0 0 (by omega) (by omega)
  refine X.lload_n 61 i312_60 rfl rfl rfl ?_
  refine X.retl i312_61 rfl t312 ?_
  exact hQ y501 (by first | trivial | omega) 
-- WorkMeter.log
theorem c190_1 {s : Nat × (Nat → Int32)} {S : zS} {m0 m : zM} {B : Int} {d : Nat} {Q : Option zV → zM → Prop} (a1 a2 : Int) (hd : 14 ≤ d) (hJ : J S m0 B m) (hB : B + 0 ≤ 1000000000) (ha1 : (-2147483648) ≤ a1 ∧ a1 ≤ 2147483647) (ha2 : (-2147483648) ≤ a2 ∧ a2 ≤ 2147483647) (hQ : ∀ (v : Int), ((-2147483648) ≤ v ∧ v ≤ 2147483647) → Q (some (zi v)) m) : X (EE s) d 190 0 [(0, zr 4 40), (1, zi a1), (2, zi a2)] [] m Q := by
  refine X.iload_n 1 i190_0 rfl rfl rfl ?_
  refine X.iflt 27 4 i190_1 rfl rfl rfl (fun h501 => ?_) (fun h501 => ?_)
  · refine X.cut [] i190_27 rfl ?_
    refine X.iconst 28 i190_27 rfl rfl (by decide) ?_
    refine X.reti i190_28 rfl t190 ?_
    exact hQ (-1) (by first | trivial | omega) 
  · refine X.iload_n 5 i190_4 rfl rfl rfl ?_
    refine X.aload_n 6 i190_5 rfl rfl rfl ?_
    refine X.getF 9 i190_6 rfl rfl (by decide) rfl rfl ?_
    refine X.getR 12 i190_9 rfl rfl (by decide) rfl rfl ?_
    refine X.callv 15 [] [zi a1] [(0, zr 0 37)] i190_12 rfl (by decide) rfl rfl (by omega) rfl rfl (by decide) rfl t191 (Nat.le_of_ble_eq_true rfl) (Nat.le_of_ble_eq_true rfl) rfl ?_
    refine X.aload_n 1 i191_0 rfl rfl rfl ?_
    refine X.getI 4 1 i191_1 rfl rfl (by decide) rfl rfl rfl ?_
    have h502 := r37_1 hJ 0
    refine X.bipush 6 i191_4 rfl rfl (by decide) ?_
    refine X.minI 9 i191_6 rfl rfl (by omega) (Nat.le_of_ble_eq_true rfl) ?_
    refine X.reti i191_9 rfl t191 ?_
    show X (EE s) d 190 15 [(0, zr 4 40), (1, zi a1), (2, zi a2)] [zi (min (m 0 37 1) 40), zi a1] m _
    refine X.icmpge 27 18 i190_15 rfl rfl rfl (fun h503 => ?_) (fun h503 => ?_)
    · refine X.cut [] i190_27 rfl ?_
      refine X.iconst 28 i190_27 rfl rfl (by decide) ?_
      refine X.reti i190_28 rfl t190 ?_
      exact hQ (-1) (by first | trivial | omega) 
    · refine X.iload_n 19 i190_18 rfl rfl rfl ?_
      refine X.iflt 27 22 i190_19 rfl rfl rfl (fun h504 => ?_) (fun h504 => ?_)
      · refine X.cut [] i190_27 rfl ?_
        refine X.iconst 28 i190_27 rfl rfl (by decide) ?_
        refine X.reti i190_28 rfl t190 ?_
        exact hQ (-1) (by first | trivial | omega) 
      · refine X.iload_n 23 i190_22 rfl rfl rfl ?_
        refine X.iconst 24 i190_23 rfl rfl (by decide) ?_
        refine X.icmplt 29 27 i190_24 rfl rfl rfl (fun h505 => ?_) (fun h505 => ?_)
        · refine X.aload_n 30 i190_29 rfl rfl rfl ?_
          refine X.getF 33 i190_30 rfl rfl (by decide) rfl rfl ?_
          refine X.getR 36 i190_33 rfl rfl (by decide) rfl rfl ?_
          refine X.iload_n 37 i190_36 rfl rfl rfl ?_
          refine X.iload_n 38 i190_37 rfl rfl rfl ?_
          refine X.callv 41 [zi a1, zi a2] [] [(0, zr 0 37), (1, zi a1), (2, zi a2)] i190_38 rfl (by decide) rfl rfl (by omega) rfl rfl (by decide) rfl t192 (Nat.le_of_ble_eq_true rfl) (Nat.le_of_ble_eq_true rfl) rfl ?_
          refine X.aload_n 1 i192_0 rfl rfl rfl ?_
          refine X.getR 4 i192_1 rfl rfl (by decide) rfl rfl ?_
          refine X.aload_n 5 i192_4 rfl rfl rfl ?_
          refine X.getI 8 1 i192_5 rfl rfl (by decide) rfl rfl rfl ?_
          refine X.iconst 9 i192_8 rfl rfl (by decide) ?_
          refine X.isub 10 i192_9 rfl rfl (by omega) ?_
          refine X.iload_n 11 i192_10 rfl rfl rfl ?_
          refine X.isub 12 i192_11 rfl rfl (by omega) ?_
          refine X.bipush 14 i192_12 rfl rfl (by decide) ?_
          refine X.irem 15 i192_14 rfl rfl (by omega) ?_
          refine X.iconst 16 i192_15 rfl rfl (by decide) ?_
          refine X.imul 17 i192_16 rfl rfl (by omega) ?_
          refine X.iload_n 18 i192_17 rfl rfl rfl ?_
          refine X.iadd 19 i192_18 rfl rfl (by omega) ?_
          refine X.ialdr 20 i192_19 rfl rfl (by decide) rfl (by omega) (fun h506 => ?_)
          refine X.reti i192_20 rfl t192 ?_
          show X (EE s) d 190 41 [(0, zr 4 40), (1, zi a1), (2, zi a2)] [zi (m 0 38 ((((((m 0 37 1) - 1) - a1) % 40) * 3) + a2))] m _
          refine X.reti i190_41 rfl t190 ?_
          exact hQ (m 0 38 ((((((m 0 37 1) - 1) - a1) % 40) * 3) + a2)) (by first | trivial | omega) 
        · refine X.cut [] i190_27 rfl ?_
          refine X.iconst 28 i190_27 rfl rfl (by decide) ?_
          refine X.reti i190_28 rfl t190 ?_
          exact hQ (-1) (by first | trivial | omega) 
-- WorkMeterModel.log
theorem c313_1 {s : Nat × (Nat → Int32)} {S : zS} {m0 m : zM} {B : Int} {d : Nat} {Q : Option zV → zM → Prop} (a1 a2 : Int) (hd : 13 ≤ d) (hJ : J S m0 B m) (hB : B + 0 ≤ 1000000000) (ha1 : (-2147483648) ≤ a1 ∧ a1 ≤ 2147483647) (ha2 : (-2147483648) ≤ a2 ∧ a2 ≤ 2147483647) (hQ : ∀ (v : Int), ((-2147483648) ≤ v ∧ v ≤ 2147483647) → Q (some (zi v)) m) : X (EE s) d 313 0 [(0, zr 4 44), (1, zi a1), (2, zi a2)] [] m Q := by
  refine X.aload_n 1 i313_0 rfl rfl rfl ?_
  refine X.getF 4 i313_1 rfl rfl (by decide) rfl rfl ?_
  refine X.bipush 6 i313_4 rfl rfl (by decide) ?_
  refine X.lald 7 i313_6 rfl rfl (by decide) rfl (by omega) ?_
  have h501 := r45_16 hJ 4
  refine X.ldc2 10 i313_7 rfl rfl (by decide) ?_
  refine X.lcmp 11 i313_10 rfl rfl (fun z502 hz502 => ?_)
  refine X.ifge 24 14 i313_11 rfl rfl rfl (fun h503 => ?_) (fun h503 => ?_)
  · have h503c : (m 4 45 16) ≥ 40 := by omega
    clear h503 hz502
    refine X.ldc2 27 i313_24 rfl rfl (by decide) ?_
    refine X.l2i 28 i313_27 rfl rfl (by omega) ?_
    refine X.istore_n 29 [(0, zr 4 44), (1, zi a1), (2, zi a2), (3, zi 40)] i313_28 rfl rfl rfl ?_
    refine X.iload_n 30 i313_29 rfl rfl rfl ?_
    refine X.i2l 31 i313_30 rfl rfl ?_
    refine X.lconst (y := 0) 32 i313_31 rfl rfl rfl ?_
    refine X.iload_n 33 i313_32 rfl rfl rfl ?_
    refine X.iconst 34 i313_33 rfl rfl (by decide) ?_
    refine X.isub 35 i313_34 rfl rfl (by omega) ?_
    refine X.i2l 36 i313_35 rfl rfl ?_
    refine X.calls 39 [zl a1, zl 0, zl (40 - 1)] [] [(0, zl a1), (2, zl 0), (4, zl (40 - 1))] i313_36 (by decide) rfl rfl (by omega) rfl rfl t204 (Nat.le_of_ble_eq_true rfl) (Nat.le_of_ble_eq_true rfl) rfl ?_
    refine X.lload_n 1 i204_0 rfl rfl rfl ?_
    refine X.lload_n 2 i204_1 rfl rfl rfl ?_
    refine X.lcmp 3 i204_2 rfl rfl (fun z504 hz504 => ?_)
    refine X.iflt 17 6 i204_3 rfl rfl rfl (fun h505 => ?_) (fun h505 => ?_)
    · have h505c : a1 < 0 := by omega
      clear h505 hz504
      refine X.cut [] i204_17 rfl ?_
      refine X.iconst 18 i204_17 rfl rfl (by decide) ?_
      refine X.retz i204_18 rfl t204 (by omega) ?_
      show X (EE s) d 313 39 [(0, zr 4 44), (1, zi a1), (2, zi a2), (3, zi 40)] [zi 0] m _
      refine X.ifeq 76 42 i313_39 rfl rfl rfl (fun h506 => ?_) (fun h506 => (by exfalso; omega))
      refine X.cut [] i313_76 rfl ?_
      refine X.iconst 77 i313_76 rfl rfl (by decide) ?_
      refine X.reti i313_77 rfl t313 ?_
      exact hQ (-1) (by first | trivial | omega) 
    · have h505c : a1 ≥ 0 := by omega
      clear h505 hz504
      refine X.lload_n 7 i204_6 rfl rfl rfl ?_
      refine X.lload 9 i204_7 rfl rfl rfl ?_
      refine X.lcmp 10 i204_9 rfl rfl (fun z507 hz507 => ?_)
      refine X.ifgt 17 13 i204_10 rfl rfl rfl (fun h508 => ?_) (fun h508 => ?_)
      · have h508c : a1 > (40 - 1) := by omega
        clear h508 hz507
        refine X.cut [] i204_17 rfl ?_
        refine X.iconst 18 i204_17 rfl rfl (by decide) ?_
        refine X.retz i204_18 rfl t204 (by omega) ?_
        show X (EE s) d 313 39 [(0, zr 4 44), (1, zi a1), (2, zi a2), (3, zi 40)] [zi 0] m _
        refine X.ifeq 76 42 i313_39 rfl rfl rfl (fun h509 => ?_) (fun h509 => (by exfalso; omega))
        refine X.cut [] i313_76 rfl ?_
        refine X.iconst 77 i313_76 rfl rfl (by decide) ?_
        refine X.reti i313_77 rfl t313 ?_
        exact hQ (-1) (by first | trivial | omega) 
      · have h508c : a1 ≤ (40 - 1) := by omega
        clear h508 hz507
        refine X.iconst 14 i204_13 rfl rfl (by decide) ?_
        refine X.goto 18 i204_14 rfl rfl ?_
        refine X.cut [] i204_18 rfl ?_
        refine X.retz i204_18 rfl t204 (by omega) ?_
        show X (EE s) d 313 39 [(0, zr 4 44), (1, zi a1), (2, zi a2), (3, zi 40)] [zi 1] m _
        refine X.ifeq 76 42 i313_39 rfl rfl rfl (fun h510 => (by exfalso; omega)) (fun h510 => ?_)
        refine X.iload_n 43 i313_42 rfl rfl rfl ?_
        refine X.i2l 44 i313_43 rfl rfl ?_
        refine X.lconst (y := 0) 45 i313_44 rfl rfl rfl ?_
        refine X.ldc2 48 i313_45 rfl rfl (by decide) ?_
        refine X.calls 51 [zl a2, zl 0, zl 2] [] [(0, zl a2), (2, zl 0), (4, zl 2)] i313_48 (by decide) rfl rfl (by omega) rfl rfl t204 (Nat.le_of_ble_eq_true rfl) (Nat.le_of_ble_eq_true rfl) rfl ?_
        refine X.lload_n 1 i204_0 rfl rfl rfl ?_
        refine X.lload_n 2 i204_1 rfl rfl rfl ?_
        refine X.lcmp 3 i204_2 rfl rfl (fun z511 hz511 => ?_)
        refine X.iflt 17 6 i204_3 rfl rfl rfl (fun h512 => ?_) (fun h512 => ?_)
        · have h512c : a2 < 0 := by omega
          clear h512 hz511
          refine X.cut [] i204_17 rfl ?_
          refine X.iconst 18 i204_17 rfl rfl (by decide) ?_
          refine X.retz i204_18 rfl t204 (by omega) ?_
          show X (EE s) d 313 51 [(0, zr 4 44), (1, zi a1), (2, zi a2), (3, zi 40)] [zi 0] m _
          refine X.ifeq 76 54 i313_51 rfl rfl rfl (fun h513 => ?_) (fun h513 => (by exfalso; omega))
          refine X.cut [] i313_76 rfl ?_
          refine X.iconst 77 i313_76 rfl rfl (by decide) ?_
          refine X.reti i313_77 rfl t313 ?_
          exact hQ (-1) (by first | trivial | omega) 
        · have h512c : a2 ≥ 0 := by omega
          clear h512 hz511
          refine X.lload_n 7 i204_6 rfl rfl rfl ?_
          refine X.lload 9 i204_7 rfl rfl rfl ?_
          refine X.lcmp 10 i204_9 rfl rfl (fun z514 hz514 => ?_)
          refine X.ifgt 17 13 i204_10 rfl rfl rfl (fun h515 => ?_) (fun h515 => ?_)
          · have h515c : a2 > 2 := by omega
            clear h515 hz514
            refine X.cut [] i204_17 rfl ?_
            refine X.iconst 18 i204_17 rfl rfl (by decide) ?_
            refine X.retz i204_18 rfl t204 (by omega) ?_
            show X (EE s) d 313 51 [(0, zr 4 44), (1, zi a1), (2, zi a2), (3, zi 40)] [zi 0] m _
            refine X.ifeq 76 54 i313_51 rfl rfl rfl (fun h516 => ?_) (fun h516 => (by exfalso; omega))
            refine X.cut [] i313_76 rfl ?_
            refine X.iconst 77 i313_76 rfl rfl (by decide) ?_
            refine X.reti i313_77 rfl t313 ?_
            exact hQ (-1) (by first | trivial | omega) 
          · have h515c : a2 ≤ 2 := by omega
            clear h515 hz514
            refine X.iconst 14 i204_13 rfl rfl (by decide) ?_
            refine X.goto 18 i204_14 rfl rfl ?_
            refine X.cut [] i204_18 rfl ?_
            refine X.retz i204_18 rfl t204 (by omega) ?_
            show X (EE s) d 313 51 [(0, zr 4 44), (1, zi a1), (2, zi a2), (3, zi 40)] [zi 1] m _
            refine X.ifeq 76 54 i313_51 rfl rfl rfl (fun h517 => (by exfalso; omega)) (fun h517 => ?_)
            refine X.aload_n 55 i313_54 rfl rfl rfl ?_
            refine X.getF 58 i313_55 rfl rfl (by decide) rfl rfl ?_
            refine X.sipush 61 i313_58 rfl rfl (by decide) ?_
            refine X.iconst 62 i313_61 rfl rfl (by decide) ?_
            refine X.iload_n 63 i313_62 rfl rfl rfl ?_
            refine X.iconst 64 i313_63 rfl rfl (by decide) ?_
            refine X.isub 65 i313_64 rfl rfl (by omega) ?_
            refine X.iload_n 66 i313_65 rfl rfl rfl ?_
            refine X.isub 67 i313_66 rfl rfl (by omega) ?_
            refine X.imul 68 i313_67 rfl rfl (by omega) ?_
            refine X.iadd 69 i313_68 rfl rfl (by omega) ?_
            refine X.iload_n 70 i313_69 rfl rfl rfl ?_
            refine X.iadd 71 i313_70 rfl rfl (by omega) ?_
            refine X.lald 72 i313_71 rfl rfl (by decide) rfl (by omega) ?_
            refine X.l2iF 73 i313_72 rfl rfl (fun z518 hz518 => ?_)
            refine X.goto 77 i313_73 rfl rfl ?_
            refine X.cut [] i313_77 rfl ?_
            refine X.reti i313_77 rfl t313 ?_
            exact hQ z518 (by first | trivial | omega) 
  · have h503c : (m 4 45 16) < 40 := by omega
    clear h503 hz502
    refine X.aload_n 15 i313_14 rfl rfl rfl ?_
    refine X.getF 18 i313_15 rfl rfl (by decide) rfl rfl ?_
    refine X.bipush 20 i313_18 rfl rfl (by decide) ?_
    refine X.lald 21 i313_20 rfl rfl (by decide) rfl (by omega) ?_
    refine X.goto 27 i313_21 rfl rfl ?_
    refine X.l2i 28 i313_27 rfl rfl (by omega) ?_
    refine X.istore_n 29 [(0, zr 4 44), (1, zi a1), (2, zi a2), (3, zi (m 4 45 16))] i313_28 rfl rfl rfl ?_
    refine X.iload_n 30 i313_29 rfl rfl rfl ?_
    refine X.i2l 31 i313_30 rfl rfl ?_
    refine X.lconst (y := 0) 32 i313_31 rfl rfl rfl ?_
    refine X.iload_n 33 i313_32 rfl rfl rfl ?_
    refine X.iconst 34 i313_33 rfl rfl (by decide) ?_
    refine X.isub 35 i313_34 rfl rfl (by omega) ?_
    refine X.i2l 36 i313_35 rfl rfl ?_
    refine X.calls 39 [zl a1, zl 0, zl ((m 4 45 16) - 1)] [] [(0, zl a1), (2, zl 0), (4, zl ((m 4 45 16) - 1))] i313_36 (by decide) rfl rfl (by omega) rfl rfl t204 (Nat.le_of_ble_eq_true rfl) (Nat.le_of_ble_eq_true rfl) rfl ?_
    refine X.lload_n 1 i204_0 rfl rfl rfl ?_
    refine X.lload_n 2 i204_1 rfl rfl rfl ?_
    refine X.lcmp 3 i204_2 rfl rfl (fun z519 hz519 => ?_)
    refine X.iflt 17 6 i204_3 rfl rfl rfl (fun h520 => ?_) (fun h520 => ?_)
    · have h520c : a1 < 0 := by omega
      clear h520 hz519
      refine X.cut [] i204_17 rfl ?_
      refine X.iconst 18 i204_17 rfl rfl (by decide) ?_
      refine X.retz i204_18 rfl t204 (by omega) ?_
      show X (EE s) d 313 39 [(0, zr 4 44), (1, zi a1), (2, zi a2), (3, zi (m 4 45 16))] [zi 0] m _
      refine X.ifeq 76 42 i313_39 rfl rfl rfl (fun h521 => ?_) (fun h521 => (by exfalso; omega))
      refine X.cut [] i313_76 rfl ?_
      refine X.iconst 77 i313_76 rfl rfl (by decide) ?_
      refine X.reti i313_77 rfl t313 ?_
      exact hQ (-1) (by first | trivial | omega) 
    · have h520c : a1 ≥ 0 := by omega
      clear h520 hz519
      refine X.lload_n 7 i204_6 rfl rfl rfl ?_
      refine X.lload 9 i204_7 rfl rfl rfl ?_
      refine X.lcmp 10 i204_9 rfl rfl (fun z522 hz522 => ?_)
      refine X.ifgt 17 13 i204_10 rfl rfl rfl (fun h523 => ?_) (fun h523 => ?_)
      · have h523c : a1 > ((m 4 45 16) - 1) := by omega
        clear h523 hz522
        refine X.cut [] i204_17 rfl ?_
        refine X.iconst 18 i204_17 rfl rfl (by decide) ?_
        refine X.retz i204_18 rfl t204 (by omega) ?_
        show X (EE s) d 313 39 [(0, zr 4 44), (1, zi a1), (2, zi a2), (3, zi (m 4 45 16))] [zi 0] m _
        refine X.ifeq 76 42 i313_39 rfl rfl rfl (fun h524 => ?_) (fun h524 => (by exfalso; omega))
        refine X.cut [] i313_76 rfl ?_
        refine X.iconst 77 i313_76 rfl rfl (by decide) ?_
        refine X.reti i313_77 rfl t313 ?_
        exact hQ (-1) (by first | trivial | omega) 
      · have h523c : a1 ≤ ((m 4 45 16) - 1) := by omega
        clear h523 hz522
        refine X.iconst 14 i204_13 rfl rfl (by decide) ?_
        refine X.goto 18 i204_14 rfl rfl ?_
        refine X.cut [] i204_18 rfl ?_
        refine X.retz i204_18 rfl t204 (by omega) ?_
        show X (EE s) d 313 39 [(0, zr 4 44), (1, zi a1), (2, zi a2), (3, zi (m 4 45 16))] [zi 1] m _
        refine X.ifeq 76 42 i313_39 rfl rfl rfl (fun h525 => (by exfalso; omega)) (fun h525 => ?_)
        refine X.iload_n 43 i313_42 rfl rfl rfl ?_
        refine X.i2l 44 i313_43 rfl rfl ?_
        refine X.lconst (y := 0) 45 i313_44 rfl rfl rfl ?_
        refine X.ldc2 48 i313_45 rfl rfl (by decide) ?_
        refine X.calls 51 [zl a2, zl 0, zl 2] [] [(0, zl a2), (2, zl 0), (4, zl 2)] i313_48 (by decide) rfl rfl (by omega) rfl rfl t204 (Nat.le_of_ble_eq_true rfl) (Nat.le_of_ble_eq_true rfl) rfl ?_
        refine X.lload_n 1 i204_0 rfl rfl rfl ?_
        refine X.lload_n 2 i204_1 rfl rfl rfl ?_
        refine X.lcmp 3 i204_2 rfl rfl (fun z526 hz526 => ?_)
        refine X.iflt 17 6 i204_3 rfl rfl rfl (fun h527 => ?_) (fun h527 => ?_)
        · have h527c : a2 < 0 := by omega
          clear h527 hz526
          refine X.cut [] i204_17 rfl ?_
          refine X.iconst 18 i204_17 rfl rfl (by decide) ?_
          refine X.retz i204_18 rfl t204 (by omega) ?_
          show X (EE s) d 313 51 [(0, zr 4 44), (1, zi a1), (2, zi a2), (3, zi (m 4 45 16))] [zi 0] m _
          refine X.ifeq 76 54 i313_51 rfl rfl rfl (fun h528 => ?_) (fun h528 => (by exfalso; omega))
          refine X.cut [] i313_76 rfl ?_
          refine X.iconst 77 i313_76 rfl rfl (by decide) ?_
          refine X.reti i313_77 rfl t313 ?_
          exact hQ (-1) (by first | trivial | omega) 
        · have h527c : a2 ≥ 0 := by omega
          clear h527 hz526
          refine X.lload_n 7 i204_6 rfl rfl rfl ?_
          refine X.lload 9 i204_7 rfl rfl rfl ?_
          refine X.lcmp 10 i204_9 rfl rfl (fun z529 hz529 => ?_)
          refine X.ifgt 17 13 i204_10 rfl rfl rfl (fun h530 => ?_) (fun h530 => ?_)
          · have h530c : a2 > 2 := by omega
            clear h530 hz529
            refine X.cut [] i204_17 rfl ?_
            refine X.iconst 18 i204_17 rfl rfl (by decide) ?_
            refine X.retz i204_18 rfl t204 (by omega) ?_
            show X (EE s) d 313 51 [(0, zr 4 44), (1, zi a1), (2, zi a2), (3, zi (m 4 45 16))] [zi 0] m _
            refine X.ifeq 76 54 i313_51 rfl rfl rfl (fun h531 => ?_) (fun h531 => (by exfalso; omega))
            refine X.cut [] i313_76 rfl ?_
            refine X.iconst 77 i313_76 rfl rfl (by decide) ?_
            refine X.reti i313_77 rfl t313 ?_
            exact hQ (-1) (by first | trivial | omega) 
          · have h530c : a2 ≤ 2 := by omega
            clear h530 hz529
            refine X.iconst 14 i204_13 rfl rfl (by decide) ?_
            refine X.goto 18 i204_14 rfl rfl ?_
            refine X.cut [] i204_18 rfl ?_
            refine X.retz i204_18 rfl t204 (by omega) ?_
            show X (EE s) d 313 51 [(0, zr 4 44), (1, zi a1), (2, zi a2), (3, zi (m 4 45 16))] [zi 1] m _
            refine X.ifeq 76 54 i313_51 rfl rfl rfl (fun h532 => (by exfalso; omega)) (fun h532 => ?_)
            refine X.aload_n 55 i313_54 rfl rfl rfl ?_
            refine X.getF 58 i313_55 rfl rfl (by decide) rfl rfl ?_
            refine X.sipush 61 i313_58 rfl rfl (by decide) ?_
            refine X.iconst 62 i313_61 rfl rfl (by decide) ?_
            refine X.iload_n 63 i313_62 rfl rfl rfl ?_
            refine X.iconst 64 i313_63 rfl rfl (by decide) ?_
            refine X.isub 65 i313_64 rfl rfl (by omega) ?_
            refine X.iload_n 66 i313_65 rfl rfl rfl ?_
            refine X.isub 67 i313_66 rfl rfl (by omega) ?_
            refine X.imul 68 i313_67 rfl rfl (by omega) ?_
            refine X.iadd 69 i313_68 rfl rfl (by omega) ?_
            refine X.iload_n 70 i313_69 rfl rfl rfl ?_
            refine X.iadd 71 i313_70 rfl rfl (by omega) ?_
            refine X.lald 72 i313_71 rfl rfl (by decide) rfl (by omega) ?_
            refine X.l2iF 73 i313_72 rfl rfl (fun z533 hz533 => ?_)
            refine X.goto 77 i313_73 rfl rfl ?_
            refine X.cut [] i313_77 rfl ?_
            refine X.reti i313_77 rfl t313 ?_
            exact hQ z533 (by first | trivial | omega) 
theorem l194_17_1 {s : Nat × (Nat → Int32)} {S : zS} {m0 m : zM} {B : Int} {d : Nat} {Q : Option zV → zM → Prop} (g0 : Nat) (y1 y2 y3 : Int) (hd : 13 ≤ d) (hJ : J S m0 B m) (hB9 : B ≤ 1000000000) (hy1 : 0 ≤ y1 ∧ y1 ≤ 7) (hy2 : 0 ≤ y2 ∧ y2 ≤ 3) (hy3 : 0 ≤ y3 ∧ y3 ≤ 42)
    (K75 : ∀ (x4 x5 x6 : Int) , ((-2147483648) ≤ x4 ∧ x4 ≤ 2147483647) → (0 ≤ x5 ∧ x5 ≤ 86399) → (0 ≤ x6 ∧ x6 ≤ 3) → X (EE s) d 194 75 [(2, zi y2), (4, zi x4), (5, zi x5), (6, zi x6)] [] m Q) :
    ∀ (n : Nat) (y4 y5 y6 y7 : Int) , ((-2147483648) ≤ y4 ∧ y4 ≤ 2147483647) → (0 ≤ y5 ∧ y5 ≤ 86399) → (0 ≤ y6 ∧ y6 ≤ 3) → (0 ≤ y7 ∧ y7 ≤ 48) → 48 - y7 < (n : Int) → X (EE s) d 194 17 [(0, zr g0 11), (1, zi y1), (2, zi y2), (3, zi y3), (4, zi y4), (5, zi y5), (6, zi y6), (7, zi y7)] [] m Q := by
  intro n
  induction n with
  | zero =>
    intro y4 y5 y6 y7 hy4 hy5 hy6 hy7 hn
    exfalso
    omega
  | succ n ih =>
    intro y4 y5 y6 y7 hy4 hy5 hy6 hy7 hn
    refine X.iload 19 i194_17 rfl rfl rfl ?_
    refine X.iload_n 20 i194_19 rfl rfl rfl ?_
    refine X.aload_n 21 i194_20 rfl rfl rfl ?_
    refine X.getR 24 i194_21 rfl rfl (by decide) rfl rfl ?_
    refine X.iload_n 25 i194_24 rfl rfl rfl ?_
    refine X.iald 26 i194_25 rfl rfl (by decide) rfl (by omega) ?_
    have h538 := r12_0 hJ g0 (i := y1) (by omega)
    refine X.iadd 27 i194_26 rfl rfl (by omega) ?_
    refine X.icmpge 75 30 i194_27 rfl rfl rfl (fun h539 => ?_) (fun h539 => ?_)
    · refine X.cut [(2, zi y2), (4, zi y4), (5, zi y5), (6, zi y6)] i194_75 rfl ?_
      exact K75 y4 y5 y6 (by first | trivial | omega) (by first | trivial | omega) (by first | trivial | omega)
    · refine X.iload 32 i194_30 rfl rfl rfl ?_
      refine X.iload_n 33 i194_32 rfl rfl rfl ?_
      refine X.icmpne 51 36 i194_33 rfl rfl rfl (fun h540 => ?_) (fun h540 => ?_)
      · refine X.cut [(0, zr g0 11), (1, zi y1), (2, zi y2), (3, zi y3), (4, zi y4), (7, zi y7)] i194_51 rfl ?_
        refine X.aload_n 52 i194_51 rfl rfl rfl ?_
        refine X.getR 55 i194_52 rfl rfl (by decide) rfl rfl ?_
        refine X.iload 57 i194_55 rfl rfl rfl ?_
        refine X.iald 58 i194_57 rfl rfl (by decide) rfl (by omega) ?_
        have h541 := r13_0 hJ g0 (i := y7) (by omega)
        refine X.istore 60 [(0, zr g0 11), (1, zi y1), (2, zi y2), (3, zi y3), (4, zi y4), (5, zi (m g0 13 y7)), (7, zi y7)] i194_58 rfl rfl rfl ?_
        refine X.aload_n 61 i194_60 rfl rfl rfl ?_
        refine X.getR 64 i194_61 rfl rfl (by decide) rfl rfl ?_
        refine X.iload 66 i194_64 rfl rfl rfl ?_
        refine X.iald 67 i194_66 rfl rfl (by decide) rfl (by omega) ?_
        have h542 := r14_0 hJ g0 (i := y7) (by omega)
        refine X.istore 69 [(0, zr g0 11), (1, zi y1), (2, zi y2), (3, zi y3), (4, zi y4), (5, zi (m g0 13 y7)), (6, zi (m g0 14 y7)), (7, zi y7)] i194_67 rfl rfl rfl ?_
        refine X.iinc 72 [(0, zr g0 11), (1, zi y1), (2, zi y2), (3, zi y3), (4, zi y4), (5, zi (m g0 13 y7)), (6, zi (m g0 14 y7)), (7, zi (y7 + 1))] i194_69 rfl rfl rfl (by omega) rfl ?_
        refine X.goto 17 i194_72 rfl rfl ?_
        exact ih y4 (m g0 13 y7) (m g0 14 y7) (y7 + 1) (by omega) (by omega) (by omega) (by omega) (by omega)
      · refine X.iload 38 i194_36 rfl rfl rfl ?_
        refine X.aload_n 39 i194_38 rfl rfl rfl ?_
        refine X.getR 42 i194_39 rfl rfl (by decide) rfl rfl ?_
        refine X.iload 44 i194_42 rfl rfl rfl ?_
        refine X.iald 45 i194_44 rfl rfl (by decide) rfl (by omega) ?_
        have h543 := r13_0 hJ g0 (i := y7) (by omega)
        refine X.iload 47 i194_45 rfl rfl rfl ?_
        refine X.isub 48 i194_47 rfl rfl (by omega) ?_
        refine X.iiF 49 .iadd (fun x y => x + y) i194_48 rfl rfl rfl (fun _ _ => rfl) (fun z544 hz544 => ?_)
        refine X.istore 51 [(0, zr g0 11), (1, zi y1), (2, zi y2), (3, zi y3), (4, zi z544), (5, zi y5), (6, zi y6), (7, zi y7)] i194_49 rfl rfl rfl ?_
        refine X.cut [(0, zr g0 11), (1, zi y1), (2, zi y2), (3, zi y3), (4, zi z544), (7, zi y7)] i194_51 rfl ?_
        refine X.aload_n 52 i194_51 rfl rfl rfl ?_
        refine X.getR 55 i194_52 rfl rfl (by decide) rfl rfl ?_
        refine X.iload 57 i194_55 rfl rfl rfl ?_
        refine X.iald 58 i194_57 rfl rfl (by decide) rfl (by omega) ?_
        refine X.istore 60 [(0, zr g0 11), (1, zi y1), (2, zi y2), (3, zi y3), (4, zi z544), (5, zi (m g0 13 y7)), (7, zi y7)] i194_58 rfl rfl rfl ?_
        refine X.aload_n 61 i194_60 rfl rfl rfl ?_
        refine X.getR 64 i194_61 rfl rfl (by decide) rfl rfl ?_
        refine X.iload 66 i194_64 rfl rfl rfl ?_
        refine X.iald 67 i194_66 rfl rfl (by decide) rfl (by omega) ?_
        have h545 := r14_0 hJ g0 (i := y7) (by omega)
        refine X.istore 69 [(0, zr g0 11), (1, zi y1), (2, zi y2), (3, zi y3), (4, zi z544), (5, zi (m g0 13 y7)), (6, zi (m g0 14 y7)), (7, zi y7)] i194_67 rfl rfl rfl ?_
        refine X.iinc 72 [(0, zr g0 11), (1, zi y1), (2, zi y2), (3, zi y3), (4, zi z544), (5, zi (m g0 13 y7)), (6, zi (m g0 14 y7)), (7, zi (y7 + 1))] i194_69 rfl rfl rfl (by omega) rfl ?_
        refine X.goto 17 i194_72 rfl rfl ?_
        exact ih z544 (m g0 13 y7) (m g0 14 y7) (y7 + 1) (by omega) (by omega) (by omega) (by omega) (by omega)
-- WorkMeter$Calendar.secondsHeld
theorem c194_1 {s : Nat × (Nat → Int32)} {S : zS} {m0 m : zM} {B : Int} {d : Nat} {Q : Option zV → zM → Prop} (g0 : Nat) (a1 a2 : Int) (hd : 13 ≤ d) (hJ : J S m0 B m) (hB : B + 0 ≤ 1000000000) (ha1 : 0 ≤ a1 ∧ a1 ≤ 7) (ha2 : 0 ≤ a2 ∧ a2 ≤ 3) (hQ : ∀ (v : Int), ((-2147483648) ≤ v ∧ v ≤ 2147483647) → Q (some (zi v)) m) : X (EE s) d 194 0 [(0, zr g0 11), (1, zi a1), (2, zi a2)] [] m Q := by
  refine X.iload_n 1 i194_0 rfl rfl rfl ?_
  refine X.bipush 3 i194_1 rfl rfl (by decide) ?_
  refine X.imul 4 i194_3 rfl rfl (by omega) ?_
  refine X.istore_n 5 [(0, zr g0 11), (1, zi a1), (2, zi a2), (3, zi (a1 * 6))] i194_4 rfl rfl rfl ?_
  refine X.iconst 6 i194_5 rfl rfl (by decide) ?_
  refine X.istore 8 [(0, zr g0 11), (1, zi a1), (2, zi a2), (3, zi (a1 * 6)), (4, zi 0)] i194_6 rfl rfl rfl ?_
  refine X.iconst 9 i194_8 rfl rfl (by decide) ?_
  refine X.istore 11 [(0, zr g0 11), (1, zi a1), (2, zi a2), (3, zi (a1 * 6)), (4, zi 0), (5, zi 0)] i194_9 rfl rfl rfl ?_
  refine X.iconst 12 i194_11 rfl rfl (by decide) ?_
  refine X.istore 14 [(0, zr g0 11), (1, zi a1), (2, zi a2), (3, zi (a1 * 6)), (4, zi 0), (5, zi 0), (6, zi 0)] i194_12 rfl rfl rfl ?_
  refine X.iload_n 15 i194_14 rfl rfl rfl ?_
  refine X.istore 17 [(0, zr g0 11), (1, zi a1), (2, zi a2), (3, zi (a1 * 6)), (4, zi 0), (5, zi 0), (6, zi 0), (7, zi (a1 * 6))] i194_15 rfl rfl rfl ?_
  refine l194_17_1 (s := s) (S := S) (m0 := m0) (m := m) (B := B) (d := d) g0 a1 a2 (a1 * 6) (by omega) (hJ.up (by omega)) (by omega) (by omega) (by omega) (by omega) (fun y501 y502 y503 hby501 hby502 hby503 => ?_) ((48 - (a1 * 6) : Int).toNat + 1) 0 0 0 (a1 * 6) (by omega) (by omega) (by omega) (by omega) (by omega)
  refine X.iload 77 i194_75 rfl rfl rfl ?_
  refine X.iload_n 78 i194_77 rfl rfl rfl ?_
  refine X.icmpne 92 81 i194_78 rfl rfl rfl (fun h507 => ?_) (fun h507 => ?_)
  · refine X.cut [(4, zi y501)] i194_92 rfl ?_
    refine X.iload 94 i194_92 rfl rfl rfl ?_
    refine X.cut [] i194_94 rfl ?_
    refine X.reti i194_94 rfl t194 ?_
    exact hQ y501 (by first | trivial | omega) 
  · refine X.iload 83 i194_81 rfl rfl rfl ?_
    refine X.ldc 85 i194_83 rfl rfl (by decide) ?_
    refine X.iiF 86 .iadd (fun x y => x + y) i194_85 rfl rfl rfl (fun _ _ => rfl) (fun z508 hz508 => ?_)
    refine X.iload 88 i194_86 rfl rfl rfl ?_
    refine X.iiF 89 .isub (fun x y => x - y) i194_88 rfl rfl rfl (fun _ _ => rfl) (fun z509 hz509 => ?_)
    refine X.goto 94 i194_89 rfl rfl ?_
    refine X.cut [] i194_94 rfl ?_
    refine X.reti i194_94 rfl t194 ?_
    exact hQ z509 (by first | trivial | omega) 
-- WorkMeter.holds
theorem c193_1 {s : Nat × (Nat → Int32)} {S : zS} {m0 m : zM} {B : Int} {d : Nat} {Q : Option zV → zM → Prop} (a1 a2 : Int) (hd : 15 ≤ d) (hJ : J S m0 B m) (hB : B + 0 ≤ 1000000000) (ha1 : (-2147483648) ≤ a1 ∧ a1 ≤ 2147483647) (ha2 : (-2147483648) ≤ a2 ∧ a2 ≤ 2147483647) (hQ : ∀ (v : Int), ((-2147483648) ≤ v ∧ v ≤ 2147483647) → Q (some (zi v)) m) : X (EE s) d 193 0 [(0, zr 4 40), (1, zi a1), (2, zi a2)] [] m Q := by
  refine X.iload_n 1 i193_0 rfl rfl rfl ?_
  refine X.calls 4 [zi a1] [] [(0, zi a1)] i193_1 (by decide) rfl rfl (by omega) rfl rfl t150 (Nat.le_of_ble_eq_true rfl) (Nat.le_of_ble_eq_true rfl) rfl ?_
  refine X.iload_n 1 i150_0 rfl rfl rfl ?_
  refine X.iflt 15 4 i150_1 rfl rfl rfl (fun h501 => ?_) (fun h501 => ?_)
  · refine X.cut [] i150_15 rfl ?_
    refine X.iconst 16 i150_15 rfl rfl (by decide) ?_
    refine X.retz i150_16 rfl t150 (by omega) ?_
    show X (EE s) d 193 4 [(0, zr 4 40), (1, zi a1), (2, zi a2)] [zi 0] m _
    refine X.ifeq 14 7 i193_4 rfl rfl rfl (fun h502 => ?_) (fun h502 => (by exfalso; omega))
    refine X.cut [] i193_14 rfl ?_
    refine X.iconst 15 i193_14 rfl rfl (by decide) ?_
    refine X.reti i193_15 rfl t193 ?_
    exact hQ (-1) (by first | trivial | omega) 
  · refine X.iload_n 5 i150_4 rfl rfl rfl ?_
    refine X.sipush 8 i150_5 rfl rfl (by decide) ?_
    refine X.icmpgt 15 11 i150_8 rfl rfl rfl (fun h503 => ?_) (fun h503 => ?_)
    · refine X.cut [] i150_15 rfl ?_
      refine X.iconst 16 i150_15 rfl rfl (by decide) ?_
      refine X.retz i150_16 rfl t150 (by omega) ?_
      show X (EE s) d 193 4 [(0, zr 4 40), (1, zi a1), (2, zi a2)] [zi 0] m _
      refine X.ifeq 14 7 i193_4 rfl rfl rfl (fun h504 => ?_) (fun h504 => (by exfalso; omega))
      refine X.cut [] i193_14 rfl ?_
      refine X.iconst 15 i193_14 rfl rfl (by decide) ?_
      refine X.reti i193_15 rfl t193 ?_
      exact hQ (-1) (by first | trivial | omega) 
    · refine X.iconst 12 i150_11 rfl rfl (by decide) ?_
      refine X.goto 16 i150_12 rfl rfl ?_
      refine X.cut [] i150_16 rfl ?_
      refine X.retz i150_16 rfl t150 (by omega) ?_
      show X (EE s) d 193 4 [(0, zr 4 40), (1, zi a1), (2, zi a2)] [zi 1] m _
      refine X.ifeq 14 7 i193_4 rfl rfl rfl (fun h505 => (by exfalso; omega)) (fun h505 => ?_)
      refine X.iload_n 8 i193_7 rfl rfl rfl ?_
      refine X.calls 11 [zi a2] [] [(0, zi a2)] i193_8 (by decide) rfl rfl (by omega) rfl rfl t80 (Nat.le_of_ble_eq_true rfl) (Nat.le_of_ble_eq_true rfl) rfl ?_
      refine X.iload_n 1 i80_0 rfl rfl rfl ?_
      refine X.iflt 13 4 i80_1 rfl rfl rfl (fun h506 => ?_) (fun h506 => ?_)
      · refine X.cut [] i80_13 rfl ?_
        refine X.iconst 14 i80_13 rfl rfl (by decide) ?_
        refine X.retz i80_14 rfl t80 (by omega) ?_
        show X (EE s) d 193 11 [(0, zr 4 40), (1, zi a1), (2, zi a2)] [zi 0] m _
        refine X.ifne 16 14 i193_11 rfl rfl rfl (fun h507 => (by exfalso; omega)) (fun h507 => ?_)
        refine X.cut [] i193_14 rfl ?_
        refine X.iconst 15 i193_14 rfl rfl (by decide) ?_
        refine X.reti i193_15 rfl t193 ?_
        exact hQ (-1) (by first | trivial | omega) 
      · refine X.iload_n 5 i80_4 rfl rfl rfl ?_
        refine X.iconst 6 i80_5 rfl rfl (by decide) ?_
        refine X.icmpge 13 9 i80_6 rfl rfl rfl (fun h508 => ?_) (fun h508 => ?_)
        · refine X.cut [] i80_13 rfl ?_
          refine X.iconst 14 i80_13 rfl rfl (by decide) ?_
          refine X.retz i80_14 rfl t80 (by omega) ?_
          show X (EE s) d 193 11 [(0, zr 4 40), (1, zi a1), (2, zi a2)] [zi 0] m _
          refine X.ifne 16 14 i193_11 rfl rfl rfl (fun h509 => (by exfalso; omega)) (fun h509 => ?_)
          refine X.cut [] i193_14 rfl ?_
          refine X.iconst 15 i193_14 rfl rfl (by decide) ?_
          refine X.reti i193_15 rfl t193 ?_
          exact hQ (-1) (by first | trivial | omega) 
        · refine X.iconst 10 i80_9 rfl rfl (by decide) ?_
          refine X.goto 14 i80_10 rfl rfl ?_
          refine X.cut [] i80_14 rfl ?_
          refine X.retz i80_14 rfl t80 (by omega) ?_
          show X (EE s) d 193 11 [(0, zr 4 40), (1, zi a1), (2, zi a2)] [zi 1] m _
          refine X.ifne 16 14 i193_11 rfl rfl rfl (fun h510 => ?_) (fun h510 => (by exfalso; omega))
          refine X.aload_n 17 i193_16 rfl rfl rfl ?_
          refine X.getF 20 i193_17 rfl rfl (by decide) rfl rfl ?_
          refine X.getR 23 i193_20 rfl rfl (by decide) rfl rfl ?_
          refine X.aload_n 24 i193_23 rfl rfl rfl ?_
          refine X.getF 27 i193_24 rfl rfl (by decide) rfl rfl ?_
          refine X.getR 30 i193_27 rfl rfl (by decide) rfl rfl ?_
          refine X.iload_n 31 i193_30 rfl rfl rfl ?_
          refine X.callv 34 [zi a1] [zr 0 11] [(0, zr 0 11), (1, zi a1)] i193_31 rfl (by decide) rfl rfl (by omega) rfl rfl (by decide) rfl t28 (Nat.le_of_ble_eq_true rfl) (Nat.le_of_ble_eq_true rfl) rfl ?_
          refine c28_1 (B := B) 0 a1 (by omega) (hJ.up (by omega)) (by omega) (by omega) (fun v513 hv513 => ?_)
          show X (EE s) d 193 34 [(0, zr 4 40), (1, zi a1), (2, zi a2)] [zi v513, zr 0 11] m _
          refine X.iload_n 35 i193_34 rfl rfl rfl ?_
          refine X.callv 38 [zi v513, zi a2] [] [(0, zr 0 11), (1, zi v513), (2, zi a2)] i193_35 rfl (by decide) rfl rfl (by omega) rfl rfl (by decide) rfl t194 (Nat.le_of_ble_eq_true rfl) (Nat.le_of_ble_eq_true rfl) rfl ?_
          refine c194_1 (B := B) 0 v513 a2 (by omega) (hJ.up (by omega)) (by omega) (by omega) (by omega) (fun v516 hv516 => ?_)
          show X (EE s) d 193 38 [(0, zr 4 40), (1, zi a1), (2, zi a2)] [zi v516] m _
          refine X.reti i193_38 rfl t193 ?_
          exact hQ v516 (by first | trivial | omega) 
theorem l253_52_1 {s : Nat × (Nat → Int32)} {S : zS} {m0 m : zM} {B : Int} {d : Nat} {Q : Option zV → zM → Prop} (y2 y3 y4 : Int) (hd : 13 ≤ d) (hJ : J S m0 B m) (hB9 : B ≤ 1000000000) (hy2 : 0 ≤ y2 ∧ y2 ≤ 3) (hy3 : 0 ≤ y3 ∧ y3 ≤ 7) (hy4 : 0 ≤ y4 ∧ y4 ≤ 6)
    (K146 : ∀ (x5 : Int) , ((-2147483648) ≤ x5 ∧ x5 ≤ 2147483647) → X (EE s) d 253 146 [(5, zi x5)] [] m Q) :
    ∀ (n : Nat) (y5 y6 y7 y8 : Int) , ((-2147483648) ≤ y5 ∧ y5 ≤ 2147483647) → (0 ≤ y6 ∧ y6 ≤ 3) → (0 ≤ y7 ∧ y7 ≤ 86400) → (0 ≤ y8 ∧ y8 ≤ 7) → 7 - y8 < (n : Int) → X (EE s) d 253 52 [(0, zr 4 44), (2, zi y2), (3, zi y3), (4, zi y4), (5, zi y5), (6, zi y6), (7, zi y7), (8, zi y8)] [] m Q := by
  intro n
  induction n with
  | zero =>
    intro y5 y6 y7 y8 hy5 hy6 hy7 hy8 hn
    exfalso
    omega
  | succ n ih =>
    intro y5 y6 y7 y8 hy5 hy6 hy7 hy8 hn
    refine X.iload 54 i253_52 rfl rfl rfl ?_
    refine X.iload 56 i253_54 rfl rfl rfl ?_
    refine X.icmpgt 146 59 i253_56 rfl rfl rfl (fun h568 => ?_) (fun h568 => ?_)
    · refine X.cut [(5, zi y5)] i253_146 rfl ?_
      exact K146 y5 (by first | trivial | omega)
    · refine X.iload 61 i253_59 rfl rfl rfl ?_
      refine X.iload 63 i253_61 rfl rfl rfl ?_
      refine X.icmpge 86 66 i253_63 rfl rfl rfl (fun h569 => ?_) (fun h569 => ?_)
      · refine X.ldc 88 i253_86 rfl rfl (by decide) ?_
        refine X.istore 90 [(0, zr 4 44), (2, zi y2), (3, zi y3), (4, zi y4), (5, zi y5), (6, zi y6), (7, zi y7), (8, zi y8), (9, zi 86400)] i253_88 rfl rfl rfl ?_
        refine X.iload 92 i253_90 rfl rfl rfl ?_
        refine X.iload 94 i253_92 rfl rfl rfl ?_
        refine X.iload_n 95 i253_94 rfl rfl rfl ?_
        refine X.icmpne 106 98 i253_95 rfl rfl rfl (fun h570 => ?_) (fun h570 => ?_)
        · refine X.cut [(0, zr 4 44), (2, zi y2), (3, zi y3), (4, zi y4), (6, zi y6), (8, zi y8), (9, zi 86400)] i253_106 rfl ?_
          refine X.iconst 107 i253_106 rfl rfl (by decide) ?_
          refine X.iadd 108 i253_107 rfl rfl (by omega) ?_
          refine X.istore 110 [(0, zr 4 44), (2, zi y2), (3, zi y3), (4, zi y4), (5, zi (y5 + 0)), (6, zi y6), (8, zi y8), (9, zi 86400)] i253_108 rfl rfl rfl ?_
          refine X.iload 112 i253_110 rfl rfl rfl ?_
          refine X.istore 114 [(0, zr 4 44), (2, zi y2), (3, zi y3), (4, zi y4), (5, zi (y5 + 0)), (6, zi y6), (7, zi 86400), (8, zi y8), (9, zi 86400)] i253_112 rfl rfl rfl ?_
          refine X.iload 116 i253_114 rfl rfl rfl ?_
          refine X.iload 118 i253_116 rfl rfl rfl ?_
          refine X.icmpge 140 121 i253_118 rfl rfl rfl (fun h571 => ?_) (fun h571 => ?_)
          · refine X.cut [(0, zr 4 44), (2, zi y2), (3, zi y3), (4, zi y4), (5, zi (y5 + 0)), (6, zi y6), (7, zi 86400), (8, zi y8)] i253_140 rfl ?_
            refine X.iinc 143 [(0, zr 4 44), (2, zi y2), (3, zi y3), (4, zi y4), (5, zi (y5 + 0)), (6, zi y6), (7, zi 86400), (8, zi (y8 + 1))] i253_140 rfl rfl rfl (by omega) rfl ?_
            refine X.goto 52 i253_143 rfl rfl ?_
            exact ih (y5 + 0) y6 86400 (y8 + 1) (by omega) (by omega) (by omega) (by omega) (by omega)
          · refine X.aload_n 122 i253_121 rfl rfl rfl ?_
            refine X.getF 125 i253_122 rfl rfl (by decide) rfl rfl ?_
            refine X.sipush 128 i253_125 rfl rfl (by decide) ?_
            refine X.bipush 130 i253_128 rfl rfl (by decide) ?_
            refine X.iload_n 131 i253_130 rfl rfl rfl ?_
            refine X.imul 132 i253_131 rfl rfl (by omega) ?_
            refine X.iadd 133 i253_132 rfl rfl (by omega) ?_
            refine X.iload 135 i253_133 rfl rfl rfl ?_
            refine X.iadd 136 i253_135 rfl rfl (by omega) ?_
            refine X.lald 137 i253_136 rfl rfl (by decide) rfl (by omega) ?_
            have h572 := r45_343 hJ 4 (i := ((343 + (6 * y3)) + y8)) (by omega)
            refine X.l2i 138 i253_137 rfl rfl (by omega) ?_
            refine X.istore 140 [(0, zr 4 44), (2, zi y2), (3, zi y3), (4, zi y4), (5, zi (y5 + 0)), (6, zi (m 4 45 ((343 + (6 * y3)) + y8))), (7, zi 86400), (8, zi y8), (9, zi 86400)] i253_138 rfl rfl rfl ?_
            refine X.cut [(0, zr 4 44), (2, zi y2), (3, zi y3), (4, zi y4), (5, zi (y5 + 0)), (6, zi (m 4 45 ((343 + (6 * y3)) + y8))), (7, zi 86400), (8, zi y8)] i253_140 rfl ?_
            refine X.iinc 143 [(0, zr 4 44), (2, zi y2), (3, zi y3), (4, zi y4), (5, zi (y5 + 0)), (6, zi (m 4 45 ((343 + (6 * y3)) + y8))), (7, zi 86400), (8, zi (y8 + 1))] i253_140 rfl rfl rfl (by omega) rfl ?_
            refine X.goto 52 i253_143 rfl rfl ?_
            exact ih (y5 + 0) (m 4 45 ((343 + (6 * y3)) + y8)) 86400 (y8 + 1) (by omega) (by omega) (by omega) (by omega) (by omega)
        · refine X.iload 100 i253_98 rfl rfl rfl ?_
          refine X.iload 102 i253_100 rfl rfl rfl ?_
          refine X.isub 103 i253_102 rfl rfl (by omega) ?_
          refine X.goto 107 i253_103 rfl rfl ?_
          refine X.cut [(0, zr 4 44), (2, zi y2), (3, zi y3), (4, zi y4), (6, zi y6), (8, zi y8), (9, zi 86400)] i253_107 rfl ?_
          refine X.iiF 108 .iadd (fun x y => x + y) i253_107 rfl rfl rfl (fun _ _ => rfl) (fun z573 hz573 => ?_)
          refine X.istore 110 [(0, zr 4 44), (2, zi y2), (3, zi y3), (4, zi y4), (5, zi z573), (6, zi y6), (8, zi y8), (9, zi 86400)] i253_108 rfl rfl rfl ?_
          refine X.iload 112 i253_110 rfl rfl rfl ?_
          refine X.istore 114 [(0, zr 4 44), (2, zi y2), (3, zi y3), (4, zi y4), (5, zi z573), (6, zi y6), (7, zi 86400), (8, zi y8), (9, zi 86400)] i253_112 rfl rfl rfl ?_
          refine X.iload 116 i253_114 rfl rfl rfl ?_
          refine X.iload 118 i253_116 rfl rfl rfl ?_
          refine X.icmpge 140 121 i253_118 rfl rfl rfl (fun h574 => ?_) (fun h574 => ?_)
          · refine X.cut [(0, zr 4 44), (2, zi y2), (3, zi y3), (4, zi y4), (5, zi z573), (6, zi y6), (7, zi 86400), (8, zi y8)] i253_140 rfl ?_
            refine X.iinc 143 [(0, zr 4 44), (2, zi y2), (3, zi y3), (4, zi y4), (5, zi z573), (6, zi y6), (7, zi 86400), (8, zi (y8 + 1))] i253_140 rfl rfl rfl (by omega) rfl ?_
            refine X.goto 52 i253_143 rfl rfl ?_
            exact ih z573 y6 86400 (y8 + 1) (by omega) (by omega) (by omega) (by omega) (by omega)
          · refine X.aload_n 122 i253_121 rfl rfl rfl ?_
            refine X.getF 125 i253_122 rfl rfl (by decide) rfl rfl ?_
            refine X.sipush 128 i253_125 rfl rfl (by decide) ?_
            refine X.bipush 130 i253_128 rfl rfl (by decide) ?_
            refine X.iload_n 131 i253_130 rfl rfl rfl ?_
            refine X.imul 132 i253_131 rfl rfl (by omega) ?_
            refine X.iadd 133 i253_132 rfl rfl (by omega) ?_
            refine X.iload 135 i253_133 rfl rfl rfl ?_
            refine X.iadd 136 i253_135 rfl rfl (by omega) ?_
            refine X.lald 137 i253_136 rfl rfl (by decide) rfl (by omega) ?_
            have h575 := r45_343 hJ 4 (i := ((343 + (6 * y3)) + y8)) (by omega)
            refine X.l2i 138 i253_137 rfl rfl (by omega) ?_
            refine X.istore 140 [(0, zr 4 44), (2, zi y2), (3, zi y3), (4, zi y4), (5, zi z573), (6, zi (m 4 45 ((343 + (6 * y3)) + y8))), (7, zi 86400), (8, zi y8), (9, zi 86400)] i253_138 rfl rfl rfl ?_
            refine X.cut [(0, zr 4 44), (2, zi y2), (3, zi y3), (4, zi y4), (5, zi z573), (6, zi (m 4 45 ((343 + (6 * y3)) + y8))), (7, zi 86400), (8, zi y8)] i253_140 rfl ?_
            refine X.iinc 143 [(0, zr 4 44), (2, zi y2), (3, zi y3), (4, zi y4), (5, zi z573), (6, zi (m 4 45 ((343 + (6 * y3)) + y8))), (7, zi 86400), (8, zi (y8 + 1))] i253_140 rfl rfl rfl (by omega) rfl ?_
            refine X.goto 52 i253_143 rfl rfl ?_
            exact ih z573 (m 4 45 ((343 + (6 * y3)) + y8)) 86400 (y8 + 1) (by omega) (by omega) (by omega) (by omega) (by omega)
      · refine X.aload_n 67 i253_66 rfl rfl rfl ?_
        refine X.getF 70 i253_67 rfl rfl (by decide) rfl rfl ?_
        refine X.sipush 73 i253_70 rfl rfl (by decide) ?_
        refine X.bipush 75 i253_73 rfl rfl (by decide) ?_
        refine X.iload_n 76 i253_75 rfl rfl rfl ?_
        refine X.imul 77 i253_76 rfl rfl (by omega) ?_
        refine X.iadd 78 i253_77 rfl rfl (by omega) ?_
        refine X.iload 80 i253_78 rfl rfl rfl ?_
        refine X.iadd 81 i253_80 rfl rfl (by omega) ?_
        refine X.lald 82 i253_81 rfl rfl (by decide) rfl (by omega) ?_
        have h576 := r45_295 hJ 4 (i := ((295 + (6 * y3)) + y8)) (by omega)
        refine X.l2i 83 i253_82 rfl rfl (by omega) ?_
        refine X.goto 88 i253_83 rfl rfl ?_
        refine X.istore 90 [(0, zr 4 44), (2, zi y2), (3, zi y3), (4, zi y4), (5, zi y5), (6, zi y6), (7, zi y7), (8, zi y8), (9, zi (m 4 45 ((295 + (6 * y3)) + y8)))] i253_88 rfl rfl rfl ?_
        refine X.iload 92 i253_90 rfl rfl rfl ?_
        refine X.iload 94 i253_92 rfl rfl rfl ?_
        refine X.iload_n 95 i253_94 rfl rfl rfl ?_
        refine X.icmpne 106 98 i253_95 rfl rfl rfl (fun h577 => ?_) (fun h577 => ?_)
        · refine X.cut [(0, zr 4 44), (2, zi y2), (3, zi y3), (4, zi y4), (6, zi y6), (8, zi y8), (9, zi (m 4 45 ((295 + (6 * y3)) + y8)))] i253_106 rfl ?_
          refine X.iconst 107 i253_106 rfl rfl (by decide) ?_
          refine X.iadd 108 i253_107 rfl rfl (by omega) ?_
          refine X.istore 110 [(0, zr 4 44), (2, zi y2), (3, zi y3), (4, zi y4), (5, zi (y5 + 0)), (6, zi y6), (8, zi y8), (9, zi (m 4 45 ((295 + (6 * y3)) + y8)))] i253_108 rfl rfl rfl ?_
          refine X.iload 112 i253_110 rfl rfl rfl ?_
          refine X.istore 114 [(0, zr 4 44), (2, zi y2), (3, zi y3), (4, zi y4), (5, zi (y5 + 0)), (6, zi y6), (7, zi (m 4 45 ((295 + (6 * y3)) + y8))), (8, zi y8), (9, zi (m 4 45 ((295 + (6 * y3)) + y8)))] i253_112 rfl rfl rfl ?_
          refine X.iload 116 i253_114 rfl rfl rfl ?_
          refine X.iload 118 i253_116 rfl rfl rfl ?_
          refine X.icmpge 140 121 i253_118 rfl rfl rfl (fun h578 => ?_) (fun h578 => ?_)
          · refine X.cut [(0, zr 4 44), (2, zi y2), (3, zi y3), (4, zi y4), (5, zi (y5 + 0)), (6, zi y6), (7, zi (m 4 45 ((295 + (6 * y3)) + y8))), (8, zi y8)] i253_140 rfl ?_
            refine X.iinc 143 [(0, zr 4 44), (2, zi y2), (3, zi y3), (4, zi y4), (5, zi (y5 + 0)), (6, zi y6), (7, zi (m 4 45 ((295 + (6 * y3)) + y8))), (8, zi (y8 + 1))] i253_140 rfl rfl rfl (by omega) rfl ?_
            refine X.goto 52 i253_143 rfl rfl ?_
            exact ih (y5 + 0) y6 (m 4 45 ((295 + (6 * y3)) + y8)) (y8 + 1) (by omega) (by omega) (by omega) (by omega) (by omega)
          · refine X.aload_n 122 i253_121 rfl rfl rfl ?_
            refine X.getF 125 i253_122 rfl rfl (by decide) rfl rfl ?_
            refine X.sipush 128 i253_125 rfl rfl (by decide) ?_
            refine X.bipush 130 i253_128 rfl rfl (by decide) ?_
            refine X.iload_n 131 i253_130 rfl rfl rfl ?_
            refine X.imul 132 i253_131 rfl rfl (by omega) ?_
            refine X.iadd 133 i253_132 rfl rfl (by omega) ?_
            refine X.iload 135 i253_133 rfl rfl rfl ?_
            refine X.iadd 136 i253_135 rfl rfl (by omega) ?_
            refine X.lald 137 i253_136 rfl rfl (by decide) rfl (by omega) ?_
            have h579 := r45_343 hJ 4 (i := ((343 + (6 * y3)) + y8)) (by omega)
            refine X.l2i 138 i253_137 rfl rfl (by omega) ?_
            refine X.istore 140 [(0, zr 4 44), (2, zi y2), (3, zi y3), (4, zi y4), (5, zi (y5 + 0)), (6, zi (m 4 45 ((343 + (6 * y3)) + y8))), (7, zi (m 4 45 ((295 + (6 * y3)) + y8))), (8, zi y8), (9, zi (m 4 45 ((295 + (6 * y3)) + y8)))] i253_138 rfl rfl rfl ?_
            refine X.cut [(0, zr 4 44), (2, zi y2), (3, zi y3), (4, zi y4), (5, zi (y5 + 0)), (6, zi (m 4 45 ((343 + (6 * y3)) + y8))), (7, zi (m 4 45 ((295 + (6 * y3)) + y8))), (8, zi y8)] i253_140 rfl ?_
            refine X.iinc 143 [(0, zr 4 44), (2, zi y2), (3, zi y3), (4, zi y4), (5, zi (y5 + 0)), (6, zi (m 4 45 ((343 + (6 * y3)) + y8))), (7, zi (m 4 45 ((295 + (6 * y3)) + y8))), (8, zi (y8 + 1))] i253_140 rfl rfl rfl (by omega) rfl ?_
            refine X.goto 52 i253_143 rfl rfl ?_
            exact ih (y5 + 0) (m 4 45 ((343 + (6 * y3)) + y8)) (m 4 45 ((295 + (6 * y3)) + y8)) (y8 + 1) (by omega) (by omega) (by omega) (by omega) (by omega)
        · refine X.iload 100 i253_98 rfl rfl rfl ?_
          refine X.iload 102 i253_100 rfl rfl rfl ?_
          refine X.isub 103 i253_102 rfl rfl (by omega) ?_
          refine X.goto 107 i253_103 rfl rfl ?_
          refine X.cut [(0, zr 4 44), (2, zi y2), (3, zi y3), (4, zi y4), (6, zi y6), (8, zi y8), (9, zi (m 4 45 ((295 + (6 * y3)) + y8)))] i253_107 rfl ?_
          refine X.iiF 108 .iadd (fun x y => x + y) i253_107 rfl rfl rfl (fun _ _ => rfl) (fun z580 hz580 => ?_)
          refine X.istore 110 [(0, zr 4 44), (2, zi y2), (3, zi y3), (4, zi y4), (5, zi z580), (6, zi y6), (8, zi y8), (9, zi (m 4 45 ((295 + (6 * y3)) + y8)))] i253_108 rfl rfl rfl ?_
          refine X.iload 112 i253_110 rfl rfl rfl ?_
          refine X.istore 114 [(0, zr 4 44), (2, zi y2), (3, zi y3), (4, zi y4), (5, zi z580), (6, zi y6), (7, zi (m 4 45 ((295 + (6 * y3)) + y8))), (8, zi y8), (9, zi (m 4 45 ((295 + (6 * y3)) + y8)))] i253_112 rfl rfl rfl ?_
          refine X.iload 116 i253_114 rfl rfl rfl ?_
          refine X.iload 118 i253_116 rfl rfl rfl ?_
          refine X.icmpge 140 121 i253_118 rfl rfl rfl (fun h581 => ?_) (fun h581 => ?_)
          · refine X.cut [(0, zr 4 44), (2, zi y2), (3, zi y3), (4, zi y4), (5, zi z580), (6, zi y6), (7, zi (m 4 45 ((295 + (6 * y3)) + y8))), (8, zi y8)] i253_140 rfl ?_
            refine X.iinc 143 [(0, zr 4 44), (2, zi y2), (3, zi y3), (4, zi y4), (5, zi z580), (6, zi y6), (7, zi (m 4 45 ((295 + (6 * y3)) + y8))), (8, zi (y8 + 1))] i253_140 rfl rfl rfl (by omega) rfl ?_
            refine X.goto 52 i253_143 rfl rfl ?_
            exact ih z580 y6 (m 4 45 ((295 + (6 * y3)) + y8)) (y8 + 1) (by omega) (by omega) (by omega) (by omega) (by omega)
          · refine X.aload_n 122 i253_121 rfl rfl rfl ?_
            refine X.getF 125 i253_122 rfl rfl (by decide) rfl rfl ?_
            refine X.sipush 128 i253_125 rfl rfl (by decide) ?_
            refine X.bipush 130 i253_128 rfl rfl (by decide) ?_
            refine X.iload_n 131 i253_130 rfl rfl rfl ?_
            refine X.imul 132 i253_131 rfl rfl (by omega) ?_
            refine X.iadd 133 i253_132 rfl rfl (by omega) ?_
            refine X.iload 135 i253_133 rfl rfl rfl ?_
            refine X.iadd 136 i253_135 rfl rfl (by omega) ?_
            refine X.lald 137 i253_136 rfl rfl (by decide) rfl (by omega) ?_
            have h582 := r45_343 hJ 4 (i := ((343 + (6 * y3)) + y8)) (by omega)
            refine X.l2i 138 i253_137 rfl rfl (by omega) ?_
            refine X.istore 140 [(0, zr 4 44), (2, zi y2), (3, zi y3), (4, zi y4), (5, zi z580), (6, zi (m 4 45 ((343 + (6 * y3)) + y8))), (7, zi (m 4 45 ((295 + (6 * y3)) + y8))), (8, zi y8), (9, zi (m 4 45 ((295 + (6 * y3)) + y8)))] i253_138 rfl rfl rfl ?_
            refine X.cut [(0, zr 4 44), (2, zi y2), (3, zi y3), (4, zi y4), (5, zi z580), (6, zi (m 4 45 ((343 + (6 * y3)) + y8))), (7, zi (m 4 45 ((295 + (6 * y3)) + y8))), (8, zi y8)] i253_140 rfl ?_
            refine X.iinc 143 [(0, zr 4 44), (2, zi y2), (3, zi y3), (4, zi y4), (5, zi z580), (6, zi (m 4 45 ((343 + (6 * y3)) + y8))), (7, zi (m 4 45 ((295 + (6 * y3)) + y8))), (8, zi (y8 + 1))] i253_140 rfl rfl rfl (by omega) rfl ?_
            refine X.goto 52 i253_143 rfl rfl ?_
            exact ih z580 (m 4 45 ((343 + (6 * y3)) + y8)) (m 4 45 ((295 + (6 * y3)) + y8)) (y8 + 1) (by omega) (by omega) (by omega) (by omega) (by omega)
-- WorkMeterModel.holds
theorem c253_1 {s : Nat × (Nat → Int32)} {S : zS} {m0 m : zM} {B : Int} {d : Nat} {Q : Option zV → zM → Prop} (a1 a2 : Int) (hd : 15 ≤ d) (hJ : J S m0 B m) (hB : B + 0 ≤ 1000000000) (ha1 : (-2147483648) ≤ a1 ∧ a1 ≤ 2147483647) (ha2 : (-2147483648) ≤ a2 ∧ a2 ≤ 2147483647) (hQ : ∀ (v : Int), ((-2147483648) ≤ v ∧ v ≤ 2147483647) → Q (some (zi v)) m) : X (EE s) d 253 0 [(0, zr 4 44), (1, zi a1), (2, zi a2)] [] m Q := by
  refine X.iload_n 1 i253_0 rfl rfl rfl ?_
  refine X.i2l 2 i253_1 rfl rfl ?_
  refine X.lconst (y := 0) 3 i253_2 rfl rfl rfl ?_
  refine X.ldc2 6 i253_3 rfl rfl (by decide) ?_
  refine X.calls 9 [zl a1, zl 0, zl 23148] [] [(0, zl a1), (2, zl 0), (4, zl 23148)] i253_6 (by decide) rfl rfl (by omega) rfl rfl t204 (Nat.le_of_ble_eq_true rfl) (Nat.le_of_ble_eq_true rfl) rfl ?_
  refine X.lload_n 1 i204_0 rfl rfl rfl ?_
  refine X.lload_n 2 i204_1 rfl rfl rfl ?_
  refine X.lcmp 3 i204_2 rfl rfl (fun z501 hz501 => ?_)
  refine X.iflt 17 6 i204_3 rfl rfl rfl (fun h502 => ?_) (fun h502 => ?_)
  · have h502c : a1 < 0 := by omega
    clear h502 hz501
    refine X.cut [] i204_17 rfl ?_
    refine X.iconst 18 i204_17 rfl rfl (by decide) ?_
    refine X.retz i204_18 rfl t204 (by omega) ?_
    show X (EE s) d 253 9 [(0, zr 4 44), (1, zi a1), (2, zi a2)] [zi 0] m _
    refine X.ifeq 19 12 i253_9 rfl rfl rfl (fun h503 => ?_) (fun h503 => (by exfalso; omega))
    refine X.cut [] i253_19 rfl ?_
    refine X.iconst 20 i253_19 rfl rfl (by decide) ?_
    refine X.reti i253_20 rfl t253 ?_
    exact hQ (-1) (by first | trivial | omega) 
  · have h502c : a1 ≥ 0 := by omega
    clear h502 hz501
    refine X.lload_n 7 i204_6 rfl rfl rfl ?_
    refine X.lload 9 i204_7 rfl rfl rfl ?_
    refine X.lcmp 10 i204_9 rfl rfl (fun z504 hz504 => ?_)
    refine X.ifgt 17 13 i204_10 rfl rfl rfl (fun h505 => ?_) (fun h505 => ?_)
    · have h505c : a1 > 23148 := by omega
      clear h505 hz504
      refine X.cut [] i204_17 rfl ?_
      refine X.iconst 18 i204_17 rfl rfl (by decide) ?_
      refine X.retz i204_18 rfl t204 (by omega) ?_
      show X (EE s) d 253 9 [(0, zr 4 44), (1, zi a1), (2, zi a2)] [zi 0] m _
      refine X.ifeq 19 12 i253_9 rfl rfl rfl (fun h506 => ?_) (fun h506 => (by exfalso; omega))
      refine X.cut [] i253_19 rfl ?_
      refine X.iconst 20 i253_19 rfl rfl (by decide) ?_
      refine X.reti i253_20 rfl t253 ?_
      exact hQ (-1) (by first | trivial | omega) 
    · have h505c : a1 ≤ 23148 := by omega
      clear h505 hz504
      refine X.iconst 14 i204_13 rfl rfl (by decide) ?_
      refine X.goto 18 i204_14 rfl rfl ?_
      refine X.cut [] i204_18 rfl ?_
      refine X.retz i204_18 rfl t204 (by omega) ?_
      show X (EE s) d 253 9 [(0, zr 4 44), (1, zi a1), (2, zi a2)] [zi 1] m _
      refine X.ifeq 19 12 i253_9 rfl rfl rfl (fun h507 => (by exfalso; omega)) (fun h507 => ?_)
      refine X.iload_n 13 i253_12 rfl rfl rfl ?_
      refine X.calls 16 [zi a2] [] [(0, zi a2)] i253_13 (by decide) rfl rfl (by omega) rfl rfl t242 (Nat.le_of_ble_eq_true rfl) (Nat.le_of_ble_eq_true rfl) rfl ?_
      refine X.iload_n 1 i242_0 rfl rfl rfl ?_
      refine X.i2l 2 i242_1 rfl rfl ?_
      refine X.lconst (y := 0) 3 i242_2 rfl rfl rfl ?_
      refine X.ldc2 6 i242_3 rfl rfl (by decide) ?_
      refine X.calls 9 [zl a2, zl 0, zl 3] [] [(0, zl a2), (2, zl 0), (4, zl 3)] i242_6 (by decide) rfl rfl (by omega) rfl rfl t204 (Nat.le_of_ble_eq_true rfl) (Nat.le_of_ble_eq_true rfl) rfl ?_
      refine X.lload_n 1 i204_0 rfl rfl rfl ?_
      refine X.lload_n 2 i204_1 rfl rfl rfl ?_
      refine X.lcmp 3 i204_2 rfl rfl (fun z508 hz508 => ?_)
      refine X.iflt 17 6 i204_3 rfl rfl rfl (fun h509 => ?_) (fun h509 => ?_)
      · have h509c : a2 < 0 := by omega
        clear h509 hz508
        refine X.cut [] i204_17 rfl ?_
        refine X.iconst 18 i204_17 rfl rfl (by decide) ?_
        refine X.retz i204_18 rfl t204 (by omega) ?_
        show X (EE s) (d - 1) 242 9 [(0, zi a2)] [zi 0] m _
        refine X.retz i242_9 rfl t242 (by omega) ?_
        show X (EE s) d 253 16 [(0, zr 4 44), (1, zi a1), (2, zi a2)] [zi 0] m _
        refine X.ifne 21 19 i253_16 rfl rfl rfl (fun h510 => (by exfalso; omega)) (fun h510 => ?_)
        refine X.cut [] i253_19 rfl ?_
        refine X.iconst 20 i253_19 rfl rfl (by decide) ?_
        refine X.reti i253_20 rfl t253 ?_
        exact hQ (-1) (by first | trivial | omega) 
      · have h509c : a2 ≥ 0 := by omega
        clear h509 hz508
        refine X.lload_n 7 i204_6 rfl rfl rfl ?_
        refine X.lload 9 i204_7 rfl rfl rfl ?_
        refine X.lcmp 10 i204_9 rfl rfl (fun z511 hz511 => ?_)
        refine X.ifgt 17 13 i204_10 rfl rfl rfl (fun h512 => ?_) (fun h512 => ?_)
        · have h512c : a2 > 3 := by omega
          clear h512 hz511
          refine X.cut [] i204_17 rfl ?_
          refine X.iconst 18 i204_17 rfl rfl (by decide) ?_
          refine X.retz i204_18 rfl t204 (by omega) ?_
          show X (EE s) (d - 1) 242 9 [(0, zi a2)] [zi 0] m _
          refine X.retz i242_9 rfl t242 (by omega) ?_
          show X (EE s) d 253 16 [(0, zr 4 44), (1, zi a1), (2, zi a2)] [zi 0] m _
          refine X.ifne 21 19 i253_16 rfl rfl rfl (fun h513 => (by exfalso; omega)) (fun h513 => ?_)
          refine X.cut [] i253_19 rfl ?_
          refine X.iconst 20 i253_19 rfl rfl (by decide) ?_
          refine X.reti i253_20 rfl t253 ?_
          exact hQ (-1) (by first | trivial | omega) 
        · have h512c : a2 ≤ 3 := by omega
          clear h512 hz511
          refine X.iconst 14 i204_13 rfl rfl (by decide) ?_
          refine X.goto 18 i204_14 rfl rfl ?_
          refine X.cut [] i204_18 rfl ?_
          refine X.retz i204_18 rfl t204 (by omega) ?_
          show X (EE s) (d - 1) 242 9 [(0, zi a2)] [zi 1] m _
          refine X.retz i242_9 rfl t242 (by omega) ?_
          show X (EE s) d 253 16 [(0, zr 4 44), (1, zi a1), (2, zi a2)] [zi 1] m _
          refine X.ifne 21 19 i253_16 rfl rfl rfl (fun h514 => ?_) (fun h514 => (by exfalso; omega))
          refine X.aload_n 22 i253_21 rfl rfl rfl ?_
          refine X.iload_n 23 i253_22 rfl rfl rfl ?_
          refine X.callv 26 [zi a1] [] [(0, zr 4 44), (1, zi a1)] i253_23 rfl (by decide) rfl rfl (by omega) rfl rfl (by decide) rfl t218 (Nat.le_of_ble_eq_true rfl) (Nat.le_of_ble_eq_true rfl) rfl ?_
          refine c218_1 (B := B)  a1 (by omega) (hJ.up (by omega)) (by omega) (by omega) (fun v517 hv517 => ?_)
          show X (EE s) d 253 26 [(0, zr 4 44), (1, zi a1), (2, zi a2)] [zi v517] m _
          refine X.istore_n 27 [(0, zr 4 44), (1, zi a1), (2, zi a2), (3, zi v517)] i253_26 rfl rfl rfl ?_
          refine X.aload_n 28 i253_27 rfl rfl rfl ?_
          refine X.getF 31 i253_28 rfl rfl (by decide) rfl rfl ?_
          refine X.sipush 34 i253_31 rfl rfl (by decide) ?_
          refine X.iload_n 35 i253_34 rfl rfl rfl ?_
          refine X.iadd 36 i253_35 rfl rfl (by omega) ?_
          refine X.lald 37 i253_36 rfl rfl (by decide) rfl (by omega) ?_
          have h518 := r45_287 hJ 4 (i := (287 + v517)) (by omega)
          refine X.l2i 38 i253_37 rfl rfl (by omega) ?_
          refine X.istore 40 [(0, zr 4 44), (1, zi a1), (2, zi a2), (3, zi v517), (4, zi (m 4 45 (287 + v517)))] i253_38 rfl rfl rfl ?_
          refine X.iconst 41 i253_40 rfl rfl (by decide) ?_
          refine X.istore 43 [(0, zr 4 44), (1, zi a1), (2, zi a2), (3, zi v517), (4, zi (m 4 45 (287 + v517))), (5, zi 0)] i253_41 rfl rfl rfl ?_
          refine X.iconst 44 i253_43 rfl rfl (by decide) ?_
          refine X.istore 46 [(0, zr 4 44), (1, zi a1), (2, zi a2), (3, zi v517), (4, zi (m 4 45 (287 + v517))), (5, zi 0), (6, zi 0)] i253_44 rfl rfl rfl ?_
          refine X.iconst 47 i253_46 rfl rfl (by decide) ?_
          refine X.istore 49 [(0, zr 4 44), (1, zi a1), (2, zi a2), (3, zi v517), (4, zi (m 4 45 (287 + v517))), (5, zi 0), (6, zi 0), (7, zi 0)] i253_47 rfl rfl rfl ?_
          refine X.iconst 50 i253_49 rfl rfl (by decide) ?_
          refine X.istore 52 [(0, zr 4 44), (1, zi a1), (2, zi a2), (3, zi v517), (4, zi (m 4 45 (287 + v517))), (5, zi 0), (6, zi 0), (7, zi 0), (8, zi 0)] i253_50 rfl rfl rfl ?_
          refine X.cut [(0, zr 4 44), (2, zi a2), (3, zi v517), (4, zi (m 4 45 (287 + v517))), (5, zi 0), (6, zi 0), (7, zi 0), (8, zi 0)] i253_52 rfl ?_
          refine l253_52_1 (s := s) (S := S) (m0 := m0) (m := m) (B := B) (d := d)  a2 v517 (m 4 45 (287 + v517)) (by omega) (hJ.up (by omega)) (by omega) (by omega) (by omega) (by omega) (fun y519 hby519 => ?_) ((7 - 0 : Int).toNat + 1) 0 0 0 0 (by omega) (by omega) (by omega) (by omega) (by omega)
          refine X.iload 148 i253_146 rfl rfl rfl ?_
          refine X.reti i253_148 rfl t253 ?_
          exact hQ y519 (by first | trivial | omega) 
-- WorkMeter.image
theorem c195_1 {s : Nat × (Nat → Int32)} {S : zS} {m0 m : zM} {B : Int} {d : Nat} {Q : Option zV → zM → Prop} (a1 : Int) (hd : 15 ≤ d) (hJ : J S m0 B m) (hB : B + 4 ≤ 1000000000) (ha1 : 0 ≤ a1 ∧ a1 ≤ 1) (hs0 : S.1 0 8 9) (hs1 : S.1 0 8 11) (hs2 : S.1 0 8 13) (hs3 : S.1 0 23 3) (hs4 : S.1 0 19 3) (hs5 : S.1 0 19 4) (hs6 : S.1 0 19 5) (hs7 : S.1 0 39 0) (hs8 : S.1 0 39 1) (hs9 : S.1 0 39 2) (hs10 : S.1 0 39 4) (hs11 : S.1 1 8 9) (hs12 : S.1 1 8 11) (hs13 : S.1 1 8 13) (hs14 : S.1 1 23 3) (hs15 : S.1 1 19 3) (hs16 : S.1 1 19 4) (hs17 : S.1 1 19 5) (hs18 : S.1 1 39 0) (hs19 : S.1 1 39 1) (hs20 : S.1 1 39 2) (hs21 : S.1 1 39 4) (hs22 : S.1 4 40 4) (hQ : ∀ (v : Int) m', (0 ≤ v ∧ v ≤ 1) → J S m0 (B + 4) m' → ((a1 = 1 ∧ v = 1 ∧ m' 4 40 4 = 1 ∧ m' 0 8 9 = m 0 8 9 ∧ m' 0 8 11 = m 0 8 11 ∧ m' 0 8 13 = m 0 8 13 ∧ m' 0 23 3 = m 0 23 3 ∧ m' 0 19 3 = m 0 19 3 ∧ m' 0 19 4 = m 0 19 4 ∧ m' 0 19 5 = m 0 19 5 ∧ m' 0 39 0 = m 0 39 0 ∧ m' 0 39 1 = m 0 39 1 ∧ m' 0 39 2 = m 0 39 2 ∧ m' 0 39 4 = m 0 39 4 ∧ m' 1 8 9 = m 0 8 9 ∧ m' 1 8 11 = m 0 8 11 ∧ m' 1 8 13 = m 0 8 13 ∧ m' 1 23 3 = m 0 23 3 ∧ m' 1 19 3 = m 0 19 3 ∧ m' 1 19 4 = m 0 19 4 ∧ m' 1 19 5 = m 0 19 5 ∧ m' 1 39 0 = m 0 39 0 ∧ m' 1 39 1 = m 0 39 1 ∧ m' 1 39 2 = m 0 39 2 ∧ m' 1 39 4 = m 0 39 4) ∨ (a1 = 0 ∧ m 4 40 4 = 1 ∧ v = 1 ∧ m' 4 40 4 = 1 ∧ m' 1 8 9 = m 1 8 9 ∧ m' 1 8 11 = m 1 8 11 ∧ m' 1 8 13 = m 1 8 13 ∧ m' 1 23 3 = m 1 23 3 ∧ m' 1 19 3 = m 1 19 3 ∧ m' 1 19 4 = m 1 19 4 ∧ m' 1 19 5 = m 1 19 5 ∧ m' 1 39 0 = m 1 39 0 ∧ m' 1 39 1 = m 1 39 1 ∧ m' 1 39 2 = m 1 39 2 ∧ m' 1 39 4 = m 1 39 4 ∧ m' 0 8 9 = m 1 8 9 ∧ m' 0 8 11 = m 1 8 11 ∧ m' 0 8 13 = m 1 8 13 ∧ m' 0 23 3 = m 1 23 3 ∧ m' 0 19 3 = m 1 19 3 ∧ m' 0 19 4 = m 1 19 4 ∧ m' 0 19 5 = m 1 19 5 ∧ m' 0 39 0 = m 1 39 0 ∧ m' 0 39 1 = m 1 39 1 ∧ m' 0 39 2 = m 1 39 2 ∧ m' 0 39 4 = m 1 39 4) ∨ (a1 = 0 ∧ m 4 40 4 = 0 ∧ v = 0 ∧ m' 4 40 4 = 0 ∧ m' 0 8 9 = m 0 8 9 ∧ m' 0 8 11 = m 0 8 11 ∧ m' 0 8 13 = m 0 8 13 ∧ m' 0 23 3 = m 0 23 3 ∧ m' 0 19 3 = m 0 19 3 ∧ m' 0 19 4 = m 0 19 4 ∧ m' 0 19 5 = m 0 19 5 ∧ m' 0 39 0 = m 0 39 0 ∧ m' 0 39 1 = m 0 39 1 ∧ m' 0 39 2 = m 0 39 2 ∧ m' 0 39 4 = m 0 39 4 ∧ m' 1 8 9 = m 1 8 9 ∧ m' 1 8 11 = m 1 8 11 ∧ m' 1 8 13 = m 1 8 13 ∧ m' 1 23 3 = m 1 23 3 ∧ m' 1 19 3 = m 1 19 3 ∧ m' 1 19 4 = m 1 19 4 ∧ m' 1 19 5 = m 1 19 5 ∧ m' 1 39 0 = m 1 39 0 ∧ m' 1 39 1 = m 1 39 1 ∧ m' 1 39 2 = m 1 39 2 ∧ m' 1 39 4 = m 1 39 4)) → Q (some (zi v)) m') : X (EE s) d 195 0 [(0, zr 4 40), (1, zi a1)] [] m Q := by
  refine X.iload_n 1 i195_0 rfl rfl rfl ?_
  refine X.ifeq 23 4 i195_1 rfl rfl rfl (fun h501 => ?_) (fun h501 => ?_)
  · refine X.cut [(0, zr 4 40)] i195_23 rfl ?_
    refine X.aload_n 24 i195_23 rfl rfl rfl ?_
    refine X.getZ 27 4 i195_24 rfl rfl (by decide) rfl rfl rfl (fun h502 => ?_)
    refine X.ifeq 41 30 i195_27 rfl rfl rfl (fun h503 => ?_) (fun h503 => ?_)
    · refine X.aload_n 42 i195_41 rfl rfl rfl ?_
      refine X.getZ 45 4 i195_42 rfl rfl (by decide) rfl rfl rfl (fun h504 => ?_)
      refine X.retz i195_45 rfl t195 (by omega) ?_
      exact hQ (m 4 40 4) m (by first | trivial | omega) (hJ.up (by omega)) (by first | exact (.inl ⟨by omega, by omega, by omega, by omega, by omega, by omega, by omega, by omega, by omega, by omega, by omega, by omega, by omega, by omega, by omega, by omega, by omega, by omega, by omega, by omega, by omega, by omega, by omega, by omega, by omega⟩) | exact (.inr (.inl ⟨by omega, by omega, by omega, by omega, by omega, by omega, by omega, by omega, by omega, by omega, by omega, by omega, by omega, by omega, by omega, by omega, by omega, by omega, by omega, by omega, by omega, by omega, by omega, by omega, by omega, by omega⟩)) | exact (.inr (.inr ⟨by omega, by omega, by omega, by omega, by omega, by omega, by omega, by omega, by omega, by omega, by omega, by omega, by omega, by omega, by omega, by omega, by omega, by omega, by omega, by omega, by omega, by omega, by omega, by omega, by omega, by omega⟩)))
    · refine X.aload_n 31 i195_30 rfl rfl rfl ?_
      refine X.getF 34 i195_31 rfl rfl (by decide) rfl rfl ?_
      refine X.aload_n 35 i195_34 rfl rfl rfl ?_
      refine X.getF 38 i195_35 rfl rfl (by decide) rfl rfl ?_
      refine X.callv 41 [zr 1 8] [] [(0, zr 0 8), (1, zr 1 8)] i195_38 rfl (by decide) rfl rfl (by omega) rfl rfl (by decide) rfl t171 (Nat.le_of_ble_eq_true rfl) (Nat.le_of_ble_eq_true rfl) rfl ?_
      refine c171_1 (S := zfr [(0, 8, 9), (0, 8, 11), (0, 8, 13), (0, 23, 3), (0, 19, 3), (0, 19, 4), (0, 19, 5), (0, 39, 0), (0, 39, 1), (0, 39, 2), (0, 39, 4)] S) (m0 := m) (B := B) 0 1  (by omega) (hJ.ow.up (by omega)) (by omega) zm_z (zm_s zm_z) (zm_s (zm_s zm_z)) (zm_s (zm_s (zm_s zm_z))) (zm_s (zm_s (zm_s (zm_s zm_z)))) (zm_s (zm_s (zm_s (zm_s (zm_s zm_z))))) (zm_s (zm_s (zm_s (zm_s (zm_s (zm_s zm_z)))))) (zm_s (zm_s (zm_s (zm_s (zm_s (zm_s (zm_s zm_z))))))) (zm_s (zm_s (zm_s (zm_s (zm_s (zm_s (zm_s (zm_s zm_z)))))))) (zm_s (zm_s (zm_s (zm_s (zm_s (zm_s (zm_s (zm_s (zm_s zm_z))))))))) (zm_s (zm_s (zm_s (zm_s (zm_s (zm_s (zm_s (zm_s (zm_s (zm_s zm_z)))))))))) (fun m505 hJ506 hqv5070 => ?_)
      have hJ508 := hJ.trans hJ506 (zi_c hs0 (zi_c hs1 (zi_c hs2 (zi_c hs3 (zi_c hs4 (zi_c hs5 (zi_c hs6 (zi_c hs7 (zi_c hs8 (zi_c hs9 (zi_c hs10 zi_n)))))))))))
      have wt509 : m505 1 8 9 = (m 1 8 9) := hJ506.eq rfl rfl
      have wt510 : m505 1 8 11 = (m 1 8 11) := hJ506.eq rfl rfl
      have wt511 : m505 1 8 13 = (m 1 8 13) := hJ506.eq rfl rfl
      have wt512 : m505 1 23 3 = (m 1 23 3) := hJ506.eq rfl rfl
      have wt513 : m505 1 19 3 = (m 1 19 3) := hJ506.eq rfl rfl
      have wt514 : m505 1 19 4 = (m 1 19 4) := hJ506.eq rfl rfl
      have wt515 : m505 1 19 5 = (m 1 19 5) := hJ506.eq rfl rfl
      have wt516 : m505 1 39 0 = (m 1 39 0) := hJ506.eq rfl rfl
      have wt517 : m505 1 39 1 = (m 1 39 1) := hJ506.eq rfl rfl
      have wt518 : m505 1 39 2 = (m 1 39 2) := hJ506.eq rfl rfl
      have wt519 : m505 1 39 4 = (m 1 39 4) := hJ506.eq rfl rfl
      have wt520 : m505 4 40 4 = (m 4 40 4) := hJ506.eq rfl rfl
      show X (EE s) d 195 41 [(0, zr 4 40)] [] m505 _
      refine X.aload_n 42 i195_41 rfl rfl rfl ?_
      refine X.getZ 45 4 i195_42 rfl rfl (by decide) rfl rfl rfl (fun h521 => ?_)
      refine X.retz i195_45 rfl t195 (by omega) ?_
      exact hQ (m505 4 40 4) m505 (by first | trivial | omega) (hJ508.up (by omega)) (by first | exact (.inl ⟨by omega, by omega, by omega, by omega, by omega, by omega, by omega, by omega, by omega, by omega, by omega, by omega, by omega, by omega, by omega, by omega, by omega, by omega, by omega, by omega, by omega, by omega, by omega, by omega, by omega⟩) | exact (.inr (.inl ⟨by omega, by omega, by omega, by omega, by omega, by omega, by omega, by omega, by omega, by omega, by omega, by omega, by omega, by omega, by omega, by omega, by omega, by omega, by omega, by omega, by omega, by omega, by omega, by omega, by omega, by omega⟩)) | exact (.inr (.inr ⟨by omega, by omega, by omega, by omega, by omega, by omega, by omega, by omega, by omega, by omega, by omega, by omega, by omega, by omega, by omega, by omega, by omega, by omega, by omega, by omega, by omega, by omega, by omega, by omega, by omega, by omega⟩)))
  · refine X.aload_n 5 i195_4 rfl rfl rfl ?_
    refine X.getF 8 i195_5 rfl rfl (by decide) rfl rfl ?_
    refine X.aload_n 9 i195_8 rfl rfl rfl ?_
    refine X.getF 12 i195_9 rfl rfl (by decide) rfl rfl ?_
    refine X.callv 15 [zr 0 8] [] [(0, zr 1 8), (1, zr 0 8)] i195_12 rfl (by decide) rfl rfl (by omega) rfl rfl (by decide) rfl t171 (Nat.le_of_ble_eq_true rfl) (Nat.le_of_ble_eq_true rfl) rfl ?_
    refine c171_1 (S := zfr [(1, 8, 9), (1, 8, 11), (1, 8, 13), (1, 23, 3), (1, 19, 3), (1, 19, 4), (1, 19, 5), (1, 39, 0), (1, 39, 1), (1, 39, 2), (1, 39, 4)] S) (m0 := m) (B := B) 1 0  (by omega) (hJ.ow.up (by omega)) (by omega) zm_z (zm_s zm_z) (zm_s (zm_s zm_z)) (zm_s (zm_s (zm_s zm_z))) (zm_s (zm_s (zm_s (zm_s zm_z)))) (zm_s (zm_s (zm_s (zm_s (zm_s zm_z))))) (zm_s (zm_s (zm_s (zm_s (zm_s (zm_s zm_z)))))) (zm_s (zm_s (zm_s (zm_s (zm_s (zm_s (zm_s zm_z))))))) (zm_s (zm_s (zm_s (zm_s (zm_s (zm_s (zm_s (zm_s zm_z)))))))) (zm_s (zm_s (zm_s (zm_s (zm_s (zm_s (zm_s (zm_s (zm_s zm_z))))))))) (zm_s (zm_s (zm_s (zm_s (zm_s (zm_s (zm_s (zm_s (zm_s (zm_s zm_z)))))))))) (fun m522 hJ523 hqv5240 => ?_)
    have hJ525 := hJ.trans hJ523 (zi_c hs11 (zi_c hs12 (zi_c hs13 (zi_c hs14 (zi_c hs15 (zi_c hs16 (zi_c hs17 (zi_c hs18 (zi_c hs19 (zi_c hs20 (zi_c hs21 zi_n)))))))))))
    have wt526 : m522 0 8 9 = (m 0 8 9) := hJ523.eq rfl rfl
    have wt527 : m522 0 8 11 = (m 0 8 11) := hJ523.eq rfl rfl
    have wt528 : m522 0 8 13 = (m 0 8 13) := hJ523.eq rfl rfl
    have wt529 : m522 0 23 3 = (m 0 23 3) := hJ523.eq rfl rfl
    have wt530 : m522 0 19 3 = (m 0 19 3) := hJ523.eq rfl rfl
    have wt531 : m522 0 19 4 = (m 0 19 4) := hJ523.eq rfl rfl
    have wt532 : m522 0 19 5 = (m 0 19 5) := hJ523.eq rfl rfl
    have wt533 : m522 0 39 0 = (m 0 39 0) := hJ523.eq rfl rfl
    have wt534 : m522 0 39 1 = (m 0 39 1) := hJ523.eq rfl rfl
    have wt535 : m522 0 39 2 = (m 0 39 2) := hJ523.eq rfl rfl
    have wt536 : m522 0 39 4 = (m 0 39 4) := hJ523.eq rfl rfl
    have wt537 : m522 4 40 4 = (m 4 40 4) := hJ523.eq rfl rfl
    show X (EE s) d 195 15 [(0, zr 4 40), (1, zi a1)] [] m522 _
    refine X.aload_n 16 i195_15 rfl rfl rfl ?_
    refine X.iconst 17 i195_16 rfl rfl (by decide) ?_
    refine X.putZ' 20 4 i195_17 rfl rfl (by decide) rfl rfl rfl (by omega) (fun hrm538 m538 hm538 => ?_)
    have hJ539 := w40_4 hJ525 hm538 (by omega) hs22
    have wt540 : m538 0 8 9 = (m 0 8 9) := Eq.trans (by rw [hm538]; exact z_upd_o _ _ rfl) wt526
    have wt541 : m538 0 8 11 = (m 0 8 11) := Eq.trans (by rw [hm538]; exact z_upd_o _ _ rfl) wt527
    have wt542 : m538 0 8 13 = (m 0 8 13) := Eq.trans (by rw [hm538]; exact z_upd_o _ _ rfl) wt528
    have wt543 : m538 0 23 3 = (m 0 23 3) := Eq.trans (by rw [hm538]; exact z_upd_o _ _ rfl) wt529
    have wt544 : m538 0 19 3 = (m 0 19 3) := Eq.trans (by rw [hm538]; exact z_upd_o _ _ rfl) wt530
    have wt545 : m538 0 19 4 = (m 0 19 4) := Eq.trans (by rw [hm538]; exact z_upd_o _ _ rfl) wt531
    have wt546 : m538 0 19 5 = (m 0 19 5) := Eq.trans (by rw [hm538]; exact z_upd_o _ _ rfl) wt532
    have wt547 : m538 0 39 0 = (m 0 39 0) := Eq.trans (by rw [hm538]; exact z_upd_o _ _ rfl) wt533
    have wt548 : m538 0 39 1 = (m 0 39 1) := Eq.trans (by rw [hm538]; exact z_upd_o _ _ rfl) wt534
    have wt549 : m538 0 39 2 = (m 0 39 2) := Eq.trans (by rw [hm538]; exact z_upd_o _ _ rfl) wt535
    have wt550 : m538 0 39 4 = (m 0 39 4) := Eq.trans (by rw [hm538]; exact z_upd_o _ _ rfl) wt536
    have wt551 : m538 1 8 9 = (m522 1 8 9) := by rw [hm538]; exact z_upd_o _ _ rfl
    have wt552 : m538 1 8 11 = (m522 1 8 11) := by rw [hm538]; exact z_upd_o _ _ rfl
    have wt553 : m538 1 8 13 = (m522 1 8 13) := by rw [hm538]; exact z_upd_o _ _ rfl
    have wt554 : m538 1 23 3 = (m522 1 23 3) := by rw [hm538]; exact z_upd_o _ _ rfl
    have wt555 : m538 1 19 3 = (m522 1 19 3) := by rw [hm538]; exact z_upd_o _ _ rfl
    have wt556 : m538 1 19 4 = (m522 1 19 4) := by rw [hm538]; exact z_upd_o _ _ rfl
    have wt557 : m538 1 19 5 = (m522 1 19 5) := by rw [hm538]; exact z_upd_o _ _ rfl
    have wt558 : m538 1 39 0 = (m522 1 39 0) := by rw [hm538]; exact z_upd_o _ _ rfl
    have wt559 : m538 1 39 1 = (m522 1 39 1) := by rw [hm538]; exact z_upd_o _ _ rfl
    have wt560 : m538 1 39 2 = (m522 1 39 2) := by rw [hm538]; exact z_upd_o _ _ rfl
    have wt561 : m538 1 39 4 = (m522 1 39 4) := by rw [hm538]; exact z_upd_o _ _ rfl
    have wt562 : m538 4 40 4 = 1 := by rw [hm538]; exact z_upd_same _ _ _ _ _
    clear wt526 wt527 wt528 wt529 wt530 wt531 wt532 wt533 wt534 wt535 wt536 wt537
    refine X.goto 41 i195_20 rfl rfl ?_
    refine X.cut [(0, zr 4 40)] i195_41 rfl ?_
    refine X.aload_n 42 i195_41 rfl rfl rfl ?_
    refine X.getZ 45 4 i195_42 rfl rfl (by decide) rfl rfl rfl (fun h563 => ?_)
    refine X.retz i195_45 rfl t195 (by omega) ?_
    exact hQ (m538 4 40 4) m538 (by first | trivial | omega) (hJ539.up (by omega)) (by first | exact (.inl ⟨by omega, by omega, by omega, by omega, by omega, by omega, by omega, by omega, by omega, by omega, by omega, by omega, by omega, by omega, by omega, by omega, by omega, by omega, by omega, by omega, by omega, by omega, by omega, by omega, by omega⟩) | exact (.inr (.inl ⟨by omega, by omega, by omega, by omega, by omega, by omega, by omega, by omega, by omega, by omega, by omega, by omega, by omega, by omega, by omega, by omega, by omega, by omega, by omega, by omega, by omega, by omega, by omega, by omega, by omega, by omega⟩)) | exact (.inr (.inr ⟨by omega, by omega, by omega, by omega, by omega, by omega, by omega, by omega, by omega, by omega, by omega, by omega, by omega, by omega, by omega, by omega, by omega, by omega, by omega, by omega, by omega, by omega, by omega, by omega, by omega, by omega⟩)))
-- WorkMeterModel.image
theorem c314_1 {s : Nat × (Nat → Int32)} {S : zS} {m0 m : zM} {B : Int} {d : Nat} {Q : Option zV → zM → Prop} (a1 : Int) (hd : 14 ≤ d) (hJ : J S m0 B m) (hB : B + 0 ≤ 1000000000) (ha1 : 0 ≤ a1 ∧ a1 ≤ 1) (hs0 : S.1 4 45 0) (hs1 : S.1 4 45 1) (hs2 : S.1 4 45 2) (hs3 : S.1 4 45 3) (hs4 : S.1 4 45 11) (hs5 : S.1 4 45 13) (hs6 : S.1 4 45 18) (hs7 : S.1 4 45 1614) (hs8 : S.1 4 45 1615) (hs9 : S.1 4 45 1616) (hs10 : S.1 4 45 1617) (hs11 : S.1 4 47 0) (hs12 : S.1 4 47 1) (hs13 : S.1 4 47 2) (hs14 : S.1 4 47 3) (hs15 : S.1 4 47 11) (hs16 : S.1 4 47 13) (hs17 : S.1 4 47 18) (hs18 : S.1 4 47 1614) (hs19 : S.1 4 47 1615) (hs20 : S.1 4 47 1616) (hs21 : S.1 4 47 1617) (hs22 : S.1 4 44 3) (hQ : ∀ (v : Int) m', (0 ≤ v ∧ v ≤ 1) → J S m0 (B) m' → ((a1 = 1 ∧ v = 1 ∧ m' 4 44 3 = 1 ∧ m' 4 45 0 = m 4 45 0 ∧ m' 4 45 1 = m 4 45 1 ∧ m' 4 45 2 = m 4 45 2 ∧ m' 4 45 3 = m 4 45 3 ∧ m' 4 45 11 = m 4 45 11 ∧ m' 4 45 13 = m 4 45 13 ∧ m' 4 45 18 = m 4 45 18 ∧ m' 4 45 1614 = m 4 45 1614 ∧ m' 4 45 1615 = m 4 45 1615 ∧ m' 4 45 1616 = m 4 45 1616 ∧ m' 4 45 1617 = m 4 45 1617 ∧ m' 4 47 0 = m 4 45 0 ∧ m' 4 47 1 = m 4 45 1 ∧ m' 4 47 2 = m 4 45 2 ∧ m' 4 47 3 = m 4 45 3 ∧ m' 4 47 11 = m 4 45 11 ∧ m' 4 47 13 = m 4 45 13 ∧ m' 4 47 18 = m 4 45 18 ∧ m' 4 47 1614 = m 4 45 1614 ∧ m' 4 47 1615 = m 4 45 1615 ∧ m' 4 47 1616 = m 4 45 1616 ∧ m' 4 47 1617 = m 4 45 1617) ∨ (a1 = 0 ∧ m 4 44 3 = 1 ∧ v = 1 ∧ m' 4 44 3 = 1 ∧ m' 4 47 0 = m 4 47 0 ∧ m' 4 47 1 = m 4 47 1 ∧ m' 4 47 2 = m 4 47 2 ∧ m' 4 47 3 = m 4 47 3 ∧ m' 4 47 11 = m 4 47 11 ∧ m' 4 47 13 = m 4 47 13 ∧ m' 4 47 18 = m 4 47 18 ∧ m' 4 47 1614 = m 4 47 1614 ∧ m' 4 47 1615 = m 4 47 1615 ∧ m' 4 47 1616 = m 4 47 1616 ∧ m' 4 47 1617 = m 4 47 1617 ∧ m' 4 45 0 = m 4 47 0 ∧ m' 4 45 1 = m 4 47 1 ∧ m' 4 45 2 = m 4 47 2 ∧ m' 4 45 3 = m 4 47 3 ∧ m' 4 45 11 = m 4 47 11 ∧ m' 4 45 13 = m 4 47 13 ∧ m' 4 45 18 = m 4 47 18 ∧ m' 4 45 1614 = m 4 47 1614 ∧ m' 4 45 1615 = m 4 47 1615 ∧ m' 4 45 1616 = m 4 47 1616 ∧ m' 4 45 1617 = m 4 47 1617) ∨ (a1 = 0 ∧ m 4 44 3 = 0 ∧ v = 0 ∧ m' 4 44 3 = 0 ∧ m' 4 45 0 = m 4 45 0 ∧ m' 4 45 1 = m 4 45 1 ∧ m' 4 45 2 = m 4 45 2 ∧ m' 4 45 3 = m 4 45 3 ∧ m' 4 45 11 = m 4 45 11 ∧ m' 4 45 13 = m 4 45 13 ∧ m' 4 45 18 = m 4 45 18 ∧ m' 4 45 1614 = m 4 45 1614 ∧ m' 4 45 1615 = m 4 45 1615 ∧ m' 4 45 1616 = m 4 45 1616 ∧ m' 4 45 1617 = m 4 45 1617 ∧ m' 4 47 0 = m 4 47 0 ∧ m' 4 47 1 = m 4 47 1 ∧ m' 4 47 2 = m 4 47 2 ∧ m' 4 47 3 = m 4 47 3 ∧ m' 4 47 11 = m 4 47 11 ∧ m' 4 47 13 = m 4 47 13 ∧ m' 4 47 18 = m 4 47 18 ∧ m' 4 47 1614 = m 4 47 1614 ∧ m' 4 47 1615 = m 4 47 1615 ∧ m' 4 47 1616 = m 4 47 1616 ∧ m' 4 47 1617 = m 4 47 1617)) → Q (some (zi v)) m') : X (EE s) d 314 0 [(0, zr 4 44), (1, zi a1)] [] m Q := by
  refine X.iload_n 1 i314_0 rfl rfl rfl ?_
  refine X.ifne 13 4 i314_1 rfl rfl rfl (fun h501 => ?_) (fun h501 => ?_)
  · refine X.iload_n 14 i314_13 rfl rfl rfl ?_
    refine X.ifeq 31 17 i314_14 rfl rfl rfl (fun h502 => (by exfalso; omega)) (fun h502 => ?_)
    refine X.aload_n 18 i314_17 rfl rfl rfl ?_
    refine X.getF 21 i314_18 rfl rfl (by decide) rfl rfl ?_
    refine X.aload_n 22 i314_21 rfl rfl rfl ?_
    refine X.getF 25 i314_22 rfl rfl (by decide) rfl rfl ?_
    refine X.calls 28 [zr 4 45, zr 4 47] [] [(0, zr 4 45), (1, zr 4 47)] i314_25 (by decide) rfl rfl (by omega) rfl rfl t261 (Nat.le_of_ble_eq_true rfl) (Nat.le_of_ble_eq_true rfl) rfl ?_
    refine c_cq_45_47 (B := B)   (by omega) (hJ.up (by omega)) (by omega) hs11 hs12 hs13 hs14 hs15 hs16 hs17 hs18 hs19 hs20 hs21 (fun m503 hJ504 hqv5050 => ?_)
    have wt506 : m503 4 45 0 = (m 4 45 0) := by rw [hqv5050]; exact z_cpy_o rfl
    have wt507 : m503 4 45 1 = (m 4 45 1) := by rw [hqv5050]; exact z_cpy_o rfl
    have wt508 : m503 4 45 2 = (m 4 45 2) := by rw [hqv5050]; exact z_cpy_o rfl
    have wt509 : m503 4 45 3 = (m 4 45 3) := by rw [hqv5050]; exact z_cpy_o rfl
    have wt510 : m503 4 45 11 = (m 4 45 11) := by rw [hqv5050]; exact z_cpy_o rfl
    have wt511 : m503 4 45 13 = (m 4 45 13) := by rw [hqv5050]; exact z_cpy_o rfl
    have wt512 : m503 4 45 18 = (m 4 45 18) := by rw [hqv5050]; exact z_cpy_o rfl
    have wt513 : m503 4 45 1614 = (m 4 45 1614) := by rw [hqv5050]; exact z_cpy_o rfl
    have wt514 : m503 4 45 1615 = (m 4 45 1615) := by rw [hqv5050]; exact z_cpy_o rfl
    have wt515 : m503 4 45 1616 = (m 4 45 1616) := by rw [hqv5050]; exact z_cpy_o rfl
    have wt516 : m503 4 45 1617 = (m 4 45 1617) := by rw [hqv5050]; exact z_cpy_o rfl
    have wt517 : m503 4 47 0 = (m 4 45 0) := by rw [hqv5050]; exact (z_cpy_at (by omega))
    have wt518 : m503 4 47 1 = (m 4 45 1) := by rw [hqv5050]; exact (z_cpy_at (by omega))
    have wt519 : m503 4 47 2 = (m 4 45 2) := by rw [hqv5050]; exact (z_cpy_at (by omega))
    have wt520 : m503 4 47 3 = (m 4 45 3) := by rw [hqv5050]; exact (z_cpy_at (by omega))
    have wt521 : m503 4 47 11 = (m 4 45 11) := by rw [hqv5050]; exact (z_cpy_at (by omega))
    have wt522 : m503 4 47 13 = (m 4 45 13) := by rw [hqv5050]; exact (z_cpy_at (by omega))
    have wt523 : m503 4 47 18 = (m 4 45 18) := by rw [hqv5050]; exact (z_cpy_at (by omega))
    have wt524 : m503 4 47 1614 = (m 4 45 1614) := by rw [hqv5050]; exact (z_cpy_at (by omega))
    have wt525 : m503 4 47 1615 = (m 4 45 1615) := by rw [hqv5050]; exact (z_cpy_at (by omega))
    have wt526 : m503 4 47 1616 = (m 4 45 1616) := by rw [hqv5050]; exact (z_cpy_at (by omega))
    have wt527 : m503 4 47 1617 = (m 4 45 1617) := by rw [hqv5050]; exact (z_cpy_at (by omega))
    have wt528 : m503 4 44 3 = (m 4 44 3) := by rw [hqv5050]; exact z_cpy_o rfl
    show X (EE s) d 314 28 [(0, zr 4 44), (1, zi a1)] [] m503 _
    refine X.goto 42 i314_28 rfl rfl ?_
    refine X.cut [(0, zr 4 44)] i314_42 rfl ?_
    refine X.aload_n 43 i314_42 rfl rfl rfl ?_
    refine X.iconst 44 i314_43 rfl rfl (by decide) ?_
    refine X.putZ' 47 3 i314_44 rfl rfl (by decide) rfl rfl rfl (by omega) (fun hrm529 m529 hm529 => ?_)
    have hJ530 := J.img hJ504 hm529 (by omega) (by first | exact .inl trivial | exact .inr (by omega)) hs22
    have wt531 : m529 4 45 0 = (m 4 45 0) := Eq.trans (by rw [hm529]; exact z_upd_o _ _ rfl) wt506
    have wt532 : m529 4 45 1 = (m 4 45 1) := Eq.trans (by rw [hm529]; exact z_upd_o _ _ rfl) wt507
    have wt533 : m529 4 45 2 = (m 4 45 2) := Eq.trans (by rw [hm529]; exact z_upd_o _ _ rfl) wt508
    have wt534 : m529 4 45 3 = (m 4 45 3) := Eq.trans (by rw [hm529]; exact z_upd_o _ _ rfl) wt509
    have wt535 : m529 4 45 11 = (m 4 45 11) := Eq.trans (by rw [hm529]; exact z_upd_o _ _ rfl) wt510
    have wt536 : m529 4 45 13 = (m 4 45 13) := Eq.trans (by rw [hm529]; exact z_upd_o _ _ rfl) wt511
    have wt537 : m529 4 45 18 = (m 4 45 18) := Eq.trans (by rw [hm529]; exact z_upd_o _ _ rfl) wt512
    have wt538 : m529 4 45 1614 = (m 4 45 1614) := Eq.trans (by rw [hm529]; exact z_upd_o _ _ rfl) wt513
    have wt539 : m529 4 45 1615 = (m 4 45 1615) := Eq.trans (by rw [hm529]; exact z_upd_o _ _ rfl) wt514
    have wt540 : m529 4 45 1616 = (m 4 45 1616) := Eq.trans (by rw [hm529]; exact z_upd_o _ _ rfl) wt515
    have wt541 : m529 4 45 1617 = (m 4 45 1617) := Eq.trans (by rw [hm529]; exact z_upd_o _ _ rfl) wt516
    have wt542 : m529 4 47 0 = (m 4 45 0) := Eq.trans (by rw [hm529]; exact z_upd_o _ _ rfl) wt517
    have wt543 : m529 4 47 1 = (m 4 45 1) := Eq.trans (by rw [hm529]; exact z_upd_o _ _ rfl) wt518
    have wt544 : m529 4 47 2 = (m 4 45 2) := Eq.trans (by rw [hm529]; exact z_upd_o _ _ rfl) wt519
    have wt545 : m529 4 47 3 = (m 4 45 3) := Eq.trans (by rw [hm529]; exact z_upd_o _ _ rfl) wt520
    have wt546 : m529 4 47 11 = (m 4 45 11) := Eq.trans (by rw [hm529]; exact z_upd_o _ _ rfl) wt521
    have wt547 : m529 4 47 13 = (m 4 45 13) := Eq.trans (by rw [hm529]; exact z_upd_o _ _ rfl) wt522
    have wt548 : m529 4 47 18 = (m 4 45 18) := Eq.trans (by rw [hm529]; exact z_upd_o _ _ rfl) wt523
    have wt549 : m529 4 47 1614 = (m 4 45 1614) := Eq.trans (by rw [hm529]; exact z_upd_o _ _ rfl) wt524
    have wt550 : m529 4 47 1615 = (m 4 45 1615) := Eq.trans (by rw [hm529]; exact z_upd_o _ _ rfl) wt525
    have wt551 : m529 4 47 1616 = (m 4 45 1616) := Eq.trans (by rw [hm529]; exact z_upd_o _ _ rfl) wt526
    have wt552 : m529 4 47 1617 = (m 4 45 1617) := Eq.trans (by rw [hm529]; exact z_upd_o _ _ rfl) wt527
    have wt553 : m529 4 44 3 = 1 := by rw [hm529]; exact z_upd_same _ _ _ _ _
    clear wt506 wt507 wt508 wt509 wt510 wt511 wt512 wt513 wt514 wt515 wt516 wt517 wt518 wt519 wt520 wt521 wt522 wt523 wt524 wt525 wt526 wt527 wt528
    refine X.iconst 48 i314_47 rfl rfl (by decide) ?_
    refine X.retz i314_48 rfl t314 (by omega) ?_
    exact hQ 1 m529 (by first | trivial | omega) ((hJ530.wk (S := S) (fun h => by first | trivial | exact h) (fun h => by first | trivial | exact h)).up (by omega)) (by first | exact (.inl ⟨by omega, by omega, by omega, by omega, by omega, by omega, by omega, by omega, by omega, by omega, by omega, by omega, by omega, by omega, by omega, by omega, by omega, by omega, by omega, by omega, by omega, by omega, by omega, by omega, by omega⟩) | exact (.inr (.inl ⟨by omega, by omega, by omega, by omega, by omega, by omega, by omega, by omega, by omega, by omega, by omega, by omega, by omega, by omega, by omega, by omega, by omega, by omega, by omega, by omega, by omega, by omega, by omega, by omega, by omega, by omega⟩)) | exact (.inr (.inr ⟨by omega, by omega, by omega, by omega, by omega, by omega, by omega, by omega, by omega, by omega, by omega, by omega, by omega, by omega, by omega, by omega, by omega, by omega, by omega, by omega, by omega, by omega, by omega, by omega, by omega, by omega⟩)))
  · refine X.aload_n 5 i314_4 rfl rfl rfl ?_
    refine X.getZ 8 3 i314_5 rfl rfl (by decide) rfl rfl rfl (fun h554 => ?_)
    refine X.ifne 13 11 i314_8 rfl rfl rfl (fun h555 => ?_) (fun h555 => ?_)
    · refine X.iload_n 14 i314_13 rfl rfl rfl ?_
      refine X.ifeq 31 17 i314_14 rfl rfl rfl (fun h556 => ?_) (fun h556 => (by exfalso; omega))
      refine X.cut [(0, zr 4 44)] i314_31 rfl ?_
      refine X.aload_n 32 i314_31 rfl rfl rfl ?_
      refine X.getF 35 i314_32 rfl rfl (by decide) rfl rfl ?_
      refine X.aload_n 36 i314_35 rfl rfl rfl ?_
      refine X.getF 39 i314_36 rfl rfl (by decide) rfl rfl ?_
      refine X.calls 42 [zr 4 47, zr 4 45] [] [(0, zr 4 47), (1, zr 4 45)] i314_39 (by decide) rfl rfl (by omega) rfl rfl t261 (Nat.le_of_ble_eq_true rfl) (Nat.le_of_ble_eq_true rfl) rfl ?_
      refine c_cq_47_45 (B := B)   (by omega) (hJ.up (by omega)) (by omega) (.inr (by omega)) hs0 hs1 hs2 hs3 hs4 hs5 hs6 hs7 hs8 hs9 hs10 (fun m557 hJ558 hqv5590 => ?_)
      have wt560 : m557 4 45 0 = (m 4 47 0) := by rw [hqv5590]; exact (z_cpy_at (by omega))
      have wt561 : m557 4 45 1 = (m 4 47 1) := by rw [hqv5590]; exact (z_cpy_at (by omega))
      have wt562 : m557 4 45 2 = (m 4 47 2) := by rw [hqv5590]; exact (z_cpy_at (by omega))
      have wt563 : m557 4 45 3 = (m 4 47 3) := by rw [hqv5590]; exact (z_cpy_at (by omega))
      have wt564 : m557 4 45 11 = (m 4 47 11) := by rw [hqv5590]; exact (z_cpy_at (by omega))
      have wt565 : m557 4 45 13 = (m 4 47 13) := by rw [hqv5590]; exact (z_cpy_at (by omega))
      have wt566 : m557 4 45 18 = (m 4 47 18) := by rw [hqv5590]; exact (z_cpy_at (by omega))
      have wt567 : m557 4 45 1614 = (m 4 47 1614) := by rw [hqv5590]; exact (z_cpy_at (by omega))
      have wt568 : m557 4 45 1615 = (m 4 47 1615) := by rw [hqv5590]; exact (z_cpy_at (by omega))
      have wt569 : m557 4 45 1616 = (m 4 47 1616) := by rw [hqv5590]; exact (z_cpy_at (by omega))
      have wt570 : m557 4 45 1617 = (m 4 47 1617) := by rw [hqv5590]; exact (z_cpy_at (by omega))
      have wt571 : m557 4 47 0 = (m 4 47 0) := by rw [hqv5590]; exact z_cpy_o rfl
      have wt572 : m557 4 47 1 = (m 4 47 1) := by rw [hqv5590]; exact z_cpy_o rfl
      have wt573 : m557 4 47 2 = (m 4 47 2) := by rw [hqv5590]; exact z_cpy_o rfl
      have wt574 : m557 4 47 3 = (m 4 47 3) := by rw [hqv5590]; exact z_cpy_o rfl
      have wt575 : m557 4 47 11 = (m 4 47 11) := by rw [hqv5590]; exact z_cpy_o rfl
      have wt576 : m557 4 47 13 = (m 4 47 13) := by rw [hqv5590]; exact z_cpy_o rfl
      have wt577 : m557 4 47 18 = (m 4 47 18) := by rw [hqv5590]; exact z_cpy_o rfl
      have wt578 : m557 4 47 1614 = (m 4 47 1614) := by rw [hqv5590]; exact z_cpy_o rfl
      have wt579 : m557 4 47 1615 = (m 4 47 1615) := by rw [hqv5590]; exact z_cpy_o rfl
      have wt580 : m557 4 47 1616 = (m 4 47 1616) := by rw [hqv5590]; exact z_cpy_o rfl
      have wt581 : m557 4 47 1617 = (m 4 47 1617) := by rw [hqv5590]; exact z_cpy_o rfl
      have wt582 : m557 4 44 3 = (m 4 44 3) := by rw [hqv5590]; exact z_cpy_o rfl
      show X (EE s) d 314 42 [(0, zr 4 44)] [] m557 _
      refine X.aload_n 43 i314_42 rfl rfl rfl ?_
      refine X.iconst 44 i314_43 rfl rfl (by decide) ?_
      refine X.putZ' 47 3 i314_44 rfl rfl (by decide) rfl rfl rfl (by omega) (fun hrm583 m583 hm583 => ?_)
      have hJ584 := J.img hJ558 hm583 (by omega) (by first | exact .inl trivial | exact .inr (by omega)) hs22
      have wt585 : m583 4 45 0 = (m 4 47 0) := Eq.trans (by rw [hm583]; exact z_upd_o _ _ rfl) wt560
      have wt586 : m583 4 45 1 = (m 4 47 1) := Eq.trans (by rw [hm583]; exact z_upd_o _ _ rfl) wt561
      have wt587 : m583 4 45 2 = (m 4 47 2) := Eq.trans (by rw [hm583]; exact z_upd_o _ _ rfl) wt562
      have wt588 : m583 4 45 3 = (m 4 47 3) := Eq.trans (by rw [hm583]; exact z_upd_o _ _ rfl) wt563
      have wt589 : m583 4 45 11 = (m 4 47 11) := Eq.trans (by rw [hm583]; exact z_upd_o _ _ rfl) wt564
      have wt590 : m583 4 45 13 = (m 4 47 13) := Eq.trans (by rw [hm583]; exact z_upd_o _ _ rfl) wt565
      have wt591 : m583 4 45 18 = (m 4 47 18) := Eq.trans (by rw [hm583]; exact z_upd_o _ _ rfl) wt566
      have wt592 : m583 4 45 1614 = (m 4 47 1614) := Eq.trans (by rw [hm583]; exact z_upd_o _ _ rfl) wt567
      have wt593 : m583 4 45 1615 = (m 4 47 1615) := Eq.trans (by rw [hm583]; exact z_upd_o _ _ rfl) wt568
      have wt594 : m583 4 45 1616 = (m 4 47 1616) := Eq.trans (by rw [hm583]; exact z_upd_o _ _ rfl) wt569
      have wt595 : m583 4 45 1617 = (m 4 47 1617) := Eq.trans (by rw [hm583]; exact z_upd_o _ _ rfl) wt570
      have wt596 : m583 4 47 0 = (m 4 47 0) := Eq.trans (by rw [hm583]; exact z_upd_o _ _ rfl) wt571
      have wt597 : m583 4 47 1 = (m 4 47 1) := Eq.trans (by rw [hm583]; exact z_upd_o _ _ rfl) wt572
      have wt598 : m583 4 47 2 = (m 4 47 2) := Eq.trans (by rw [hm583]; exact z_upd_o _ _ rfl) wt573
      have wt599 : m583 4 47 3 = (m 4 47 3) := Eq.trans (by rw [hm583]; exact z_upd_o _ _ rfl) wt574
      have wt600 : m583 4 47 11 = (m 4 47 11) := Eq.trans (by rw [hm583]; exact z_upd_o _ _ rfl) wt575
      have wt601 : m583 4 47 13 = (m 4 47 13) := Eq.trans (by rw [hm583]; exact z_upd_o _ _ rfl) wt576
      have wt602 : m583 4 47 18 = (m 4 47 18) := Eq.trans (by rw [hm583]; exact z_upd_o _ _ rfl) wt577
      have wt603 : m583 4 47 1614 = (m 4 47 1614) := Eq.trans (by rw [hm583]; exact z_upd_o _ _ rfl) wt578
      have wt604 : m583 4 47 1615 = (m 4 47 1615) := Eq.trans (by rw [hm583]; exact z_upd_o _ _ rfl) wt579
      have wt605 : m583 4 47 1616 = (m 4 47 1616) := Eq.trans (by rw [hm583]; exact z_upd_o _ _ rfl) wt580
      have wt606 : m583 4 47 1617 = (m 4 47 1617) := Eq.trans (by rw [hm583]; exact z_upd_o _ _ rfl) wt581
      have wt607 : m583 4 44 3 = 1 := by rw [hm583]; exact z_upd_same _ _ _ _ _
      clear wt560 wt561 wt562 wt563 wt564 wt565 wt566 wt567 wt568 wt569 wt570 wt571 wt572 wt573 wt574 wt575 wt576 wt577 wt578 wt579 wt580 wt581 wt582
      refine X.iconst 48 i314_47 rfl rfl (by decide) ?_
      refine X.retz i314_48 rfl t314 (by omega) ?_
      exact hQ 1 m583 (by first | trivial | omega) (hJ584.up (by omega)) (by first | exact (.inl ⟨by omega, by omega, by omega, by omega, by omega, by omega, by omega, by omega, by omega, by omega, by omega, by omega, by omega, by omega, by omega, by omega, by omega, by omega, by omega, by omega, by omega, by omega, by omega, by omega, by omega⟩) | exact (.inr (.inl ⟨by omega, by omega, by omega, by omega, by omega, by omega, by omega, by omega, by omega, by omega, by omega, by omega, by omega, by omega, by omega, by omega, by omega, by omega, by omega, by omega, by omega, by omega, by omega, by omega, by omega, by omega⟩)) | exact (.inr (.inr ⟨by omega, by omega, by omega, by omega, by omega, by omega, by omega, by omega, by omega, by omega, by omega, by omega, by omega, by omega, by omega, by omega, by omega, by omega, by omega, by omega, by omega, by omega, by omega, by omega, by omega, by omega⟩)))
    · refine X.iconst 12 i314_11 rfl rfl (by decide) ?_
      refine X.retz i314_12 rfl t314 (by omega) ?_
      exact hQ 0 m (by first | trivial | omega) (hJ.up (by omega)) (by first | exact (.inl ⟨by omega, by omega, by omega, by omega, by omega, by omega, by omega, by omega, by omega, by omega, by omega, by omega, by omega, by omega, by omega, by omega, by omega, by omega, by omega, by omega, by omega, by omega, by omega, by omega, by omega⟩) | exact (.inr (.inl ⟨by omega, by omega, by omega, by omega, by omega, by omega, by omega, by omega, by omega, by omega, by omega, by omega, by omega, by omega, by omega, by omega, by omega, by omega, by omega, by omega, by omega, by omega, by omega, by omega, by omega, by omega⟩)) | exact (.inr (.inr ⟨by omega, by omega, by omega, by omega, by omega, by omega, by omega, by omega, by omega, by omega, by omega, by omega, by omega, by omega, by omega, by omega, by omega, by omega, by omega, by omega, by omega, by omega, by omega, by omega, by omega, by omega⟩)))
-- WorkMeter.settingLookedAt
theorem c200_1 {s : Nat × (Nat → Int32)} {S : zS} {m0 m : zM} {B : Int} {d : Nat} {Q : Option zV → zM → Prop} (a0 : Int) (hd : 13 ≤ d) (hJ : J S m0 B m) (hB : B + 0 ≤ 1000000000) (ha0 : 16 ≤ a0 ∧ a0 ≤ 39) (hQ : ∀ (v : Int), ((-1) ≤ v ∧ v ≤ 13) → Q (some (zi v)) m) : X (EE s) d 200 0 [(0, zi a0)] [] m Q := by
  refine X.iload_n 1 i200_0 rfl rfl rfl ?_
  refine X.bipush 3 i200_1 rfl rfl (by decide) ?_
  refine X.icmplt 19 6 i200_3 rfl rfl rfl (fun h501 => ?_) (fun h501 => ?_)
  · refine X.iload_n 20 i200_19 rfl rfl rfl ?_
    refine X.bipush 22 i200_20 rfl rfl (by decide) ?_
    refine X.icmplt 39 25 i200_22 rfl rfl rfl (fun h502 => ?_) (fun h502 => (by exfalso; omega))
    refine X.iload_n 40 i200_39 rfl rfl rfl ?_
    refine X.bipush 42 i200_40 rfl rfl (by decide) ?_
    refine X.icmplt 59 45 i200_42 rfl rfl rfl (fun h503 => ?_) (fun h503 => (by exfalso; omega))
    refine X.cut [] i200_59 rfl ?_
    refine X.iconst 60 i200_59 rfl rfl (by decide) ?_
    refine X.reti i200_60 rfl t200 ?_
    exact hQ (-1) (by first | trivial | omega) 
  · refine X.iload_n 7 i200_6 rfl rfl rfl ?_
    refine X.bipush 9 i200_7 rfl rfl (by decide) ?_
    refine X.icmpgt 19 12 i200_9 rfl rfl rfl (fun h504 => ?_) (fun h504 => ?_)
    · refine X.iload_n 20 i200_19 rfl rfl rfl ?_
      refine X.bipush 22 i200_20 rfl rfl (by decide) ?_
      refine X.icmplt 39 25 i200_22 rfl rfl rfl (fun h505 => ?_) (fun h505 => ?_)
      · refine X.iload_n 40 i200_39 rfl rfl rfl ?_
        refine X.bipush 42 i200_40 rfl rfl (by decide) ?_
        refine X.icmplt 59 45 i200_42 rfl rfl rfl (fun h506 => ?_) (fun h506 => (by exfalso; omega))
        refine X.cut [] i200_59 rfl ?_
        refine X.iconst 60 i200_59 rfl rfl (by decide) ?_
        refine X.reti i200_60 rfl t200 ?_
        exact hQ (-1) (by first | trivial | omega) 
      · refine X.iload_n 26 i200_25 rfl rfl rfl ?_
        refine X.bipush 28 i200_26 rfl rfl (by decide) ?_
        refine X.icmpgt 39 31 i200_28 rfl rfl rfl (fun h507 => ?_) (fun h507 => ?_)
        · refine X.iload_n 40 i200_39 rfl rfl rfl ?_
          refine X.bipush 42 i200_40 rfl rfl (by decide) ?_
          refine X.icmplt 59 45 i200_42 rfl rfl rfl (fun h508 => ?_) (fun h508 => (by exfalso; omega))
          refine X.cut [] i200_59 rfl ?_
          refine X.iconst 60 i200_59 rfl rfl (by decide) ?_
          refine X.reti i200_60 rfl t200 ?_
          exact hQ (-1) (by first | trivial | omega) 
        · refine X.iload_n 32 i200_31 rfl rfl rfl ?_
          refine X.bipush 34 i200_32 rfl rfl (by decide) ?_
          refine X.isub 35 i200_34 rfl rfl (by omega) ?_
          refine X.bipush 37 i200_35 rfl rfl (by decide) ?_
          refine X.iadd 38 i200_37 rfl rfl (by omega) ?_
          refine X.reti i200_38 rfl t200 ?_
          exact hQ ((a0 - 30) + 10) (by first | trivial | omega) 
    · refine X.iload_n 13 i200_12 rfl rfl rfl ?_
      refine X.bipush 15 i200_13 rfl rfl (by decide) ?_
      refine X.isub 16 i200_15 rfl rfl (by omega) ?_
      refine X.iconst 17 i200_16 rfl rfl (by decide) ?_
      refine X.iadd 18 i200_17 rfl rfl (by omega) ?_
      refine X.reti i200_18 rfl t200 ?_
      exact hQ ((a0 - 20) + 0) (by first | trivial | omega) 
-- WorkMeter.settingLookedAt
theorem c200_2 {s : Nat × (Nat → Int32)} {S : zS} {m0 m : zM} {B : Int} {d : Nat} {Q : Option zV → zM → Prop} (a0 : Int) (hd : 13 ≤ d) (hJ : J S m0 B m) (hB : B + 0 ≤ 1000000000) (ha0 : 44 ≤ a0 ∧ a0 ≤ 52) (hQ : ∀ (v : Int), ((-1) ≤ v ∧ v ≤ 22) → Q (some (zi v)) m) : X (EE s) d 200 0 [(0, zi a0)] [] m Q := by
  refine X.iload_n 1 i200_0 rfl rfl rfl ?_
  refine X.bipush 3 i200_1 rfl rfl (by decide) ?_
  refine X.icmplt 19 6 i200_3 rfl rfl rfl (fun h501 => (by exfalso; omega)) (fun h501 => ?_)
  refine X.iload_n 7 i200_6 rfl rfl rfl ?_
  refine X.bipush 9 i200_7 rfl rfl (by decide) ?_
  refine X.icmpgt 19 12 i200_9 rfl rfl rfl (fun h502 => ?_) (fun h502 => (by exfalso; omega))
  refine X.iload_n 20 i200_19 rfl rfl rfl ?_
  refine X.bipush 22 i200_20 rfl rfl (by decide) ?_
  refine X.icmplt 39 25 i200_22 rfl rfl rfl (fun h503 => (by exfalso; omega)) (fun h503 => ?_)
  refine X.iload_n 26 i200_25 rfl rfl rfl ?_
  refine X.bipush 28 i200_26 rfl rfl (by decide) ?_
  refine X.icmpgt 39 31 i200_28 rfl rfl rfl (fun h504 => ?_) (fun h504 => (by exfalso; omega))
  refine X.iload_n 40 i200_39 rfl rfl rfl ?_
  refine X.bipush 42 i200_40 rfl rfl (by decide) ?_
  refine X.icmplt 59 45 i200_42 rfl rfl rfl (fun h505 => ?_) (fun h505 => ?_)
  · refine X.cut [] i200_59 rfl ?_
    refine X.iconst 60 i200_59 rfl rfl (by decide) ?_
    refine X.reti i200_60 rfl t200 ?_
    exact hQ (-1) (by first | trivial | omega) 
  · refine X.iload_n 46 i200_45 rfl rfl rfl ?_
    refine X.bipush 48 i200_46 rfl rfl (by decide) ?_
    refine X.icmpgt 59 51 i200_48 rfl rfl rfl (fun h506 => (by exfalso; omega)) (fun h506 => ?_)
    refine X.iload_n 52 i200_51 rfl rfl rfl ?_
    refine X.bipush 54 i200_52 rfl rfl (by decide) ?_
    refine X.isub 55 i200_54 rfl rfl (by omega) ?_
    refine X.bipush 57 i200_55 rfl rfl (by decide) ?_
    refine X.iadd 58 i200_57 rfl rfl (by omega) ?_
    refine X.reti i200_58 rfl t200 ?_
    exact hQ ((a0 - 50) + 20) (by first | trivial | omega) 
-- WorkMeter.lookAtSeal
theorem c199_1 {s : Nat × (Nat → Int32)} {S : zS} {m0 m : zM} {B : Int} {d : Nat} {Q : Option zV → zM → Prop} (a1 : Int) (hd : 14 ≤ d) (hJ : J S m0 B m) (hB : B + 0 ≤ 1000000000) (ha1 : 53 ≤ a1 ∧ a1 ≤ 2147483647) (hQ : ∀ (v : Int), ((-10000000000) ≤ v ∧ v ≤ 2147483647) → Q (some (zl v)) m) : X (EE s) d 199 0 [(0, zr 4 40), (1, zi a1)] [] m Q := by
  refine X.iload_n 1 i199_0 rfl rfl rfl ?_
  by_cases h501 : a1 = 53
  · refine X.tsIn 36 0 i199_1 rfl (by omega) rfl rfl ?_
    refine X.cut [(0, zr 4 40)] i199_36 rfl ?_
    refine X.aload_n 37 i199_36 rfl rfl rfl ?_
    refine X.getF 40 i199_37 rfl rfl (by decide) rfl rfl ?_
    refine X.getR 43 i199_40 rfl rfl (by decide) rfl rfl ?_
    refine X.getZ 46 0 i199_43 rfl rfl (by decide) rfl rfl rfl (fun h502 => ?_)
    refine X.ifeq 53 49 i199_46 rfl rfl rfl (fun h503 => ?_) (fun h503 => ?_)
    · refine X.cut [] i199_53 rfl ?_
      refine X.lconst (y := 0) 54 i199_53 rfl rfl rfl ?_
      refine X.retl i199_54 rfl t199 ?_
      exact hQ 0 (by first | trivial | omega) 
    · refine X.lconst (y := 1) 50 i199_49 rfl rfl rfl ?_
      refine X.goto 54 i199_50 rfl rfl ?_
      refine X.cut [] i199_54 rfl ?_
      refine X.retl i199_54 rfl t199 ?_
      exact hQ 1 (by first | trivial | omega) 
  by_cases h504 : a1 = 54
  · refine X.tsIn 55 1 i199_1 rfl (by omega) rfl rfl ?_
    refine X.cut [(0, zr 4 40)] i199_55 rfl ?_
    refine X.aload_n 56 i199_55 rfl rfl rfl ?_
    refine X.getF 59 i199_56 rfl rfl (by decide) rfl rfl ?_
    refine X.getR 62 i199_59 rfl rfl (by decide) rfl rfl ?_
    refine X.getI 65 2 i199_62 rfl rfl (by decide) rfl rfl rfl ?_
    have h505 := r39_2 hJ 0
    refine X.i2l 66 i199_65 rfl rfl ?_
    refine X.retl i199_66 rfl t199 ?_
    exact hQ (m 0 39 2) (by first | trivial | omega) 
  by_cases h506 : a1 = 55
  · refine X.tsIn 67 2 i199_1 rfl (by omega) rfl rfl ?_
    refine X.cut [(0, zr 4 40)] i199_67 rfl ?_
    refine X.aload_n 68 i199_67 rfl rfl rfl ?_
    refine X.getF 71 i199_68 rfl rfl (by decide) rfl rfl ?_
    refine X.getR 74 i199_71 rfl rfl (by decide) rfl rfl ?_
    refine X.aload_n 75 i199_74 rfl rfl rfl ?_
    refine X.getF 78 i199_75 rfl rfl (by decide) rfl rfl ?_
    refine X.getI 81 9 i199_78 rfl rfl (by decide) rfl rfl rfl ?_
    have h507 := r8_9 hJ 0
    refine X.callv 84 [zi (m 0 8 9)] [] [(0, zr 0 39), (1, zi (m 0 8 9))] i199_81 rfl (by decide) rfl rfl (by omega) rfl rfl (by decide) rfl t118 (Nat.le_of_ble_eq_true rfl) (Nat.le_of_ble_eq_true rfl) rfl ?_
    refine X.iconst 1 i118_0 rfl rfl (by decide) ?_
    refine X.aload_n 2 i118_1 rfl rfl rfl ?_
    refine X.getI 5 4 i118_2 rfl rfl (by decide) rfl rfl rfl ?_
    have h508 := r39_4 hJ 0
    refine X.iload_n 6 i118_5 rfl rfl rfl ?_
    refine X.isub 7 i118_6 rfl rfl (by omega) ?_
    refine X.maxI 10 i118_7 rfl rfl (by omega) (Nat.le_of_ble_eq_true rfl) ?_
    refine X.reti i118_10 rfl t118 ?_
    show X (EE s) d 199 84 [(0, zr 4 40)] [zi (max 0 ((m 0 39 4) - (m 0 8 9)))] m _
    refine X.i2l 85 i199_84 rfl rfl ?_
    refine X.retl i199_85 rfl t199 ?_
    exact hQ (max 0 ((m 0 39 4) - (m 0 8 9))) (by first | trivial | omega) 
  by_cases h509 : a1 = 56
  · refine X.tsIn 86 3 i199_1 rfl (by omega) rfl rfl ?_
    refine X.cut [(0, zr 4 40)] i199_86 rfl ?_
    refine X.aload_n 87 i199_86 rfl rfl rfl ?_
    refine X.getF 90 i199_87 rfl rfl (by decide) rfl rfl ?_
    refine X.getR 93 i199_90 rfl rfl (by decide) rfl rfl ?_
    refine X.getIr 96 3 i199_93 rfl rfl (by decide) rfl rfl rfl (fun h510 => ?_)
    refine X.i2l 97 i199_96 rfl rfl ?_
    refine X.retl i199_97 rfl t199 ?_
    exact hQ (m 0 39 3) (by first | trivial | omega) 
  by_cases h511 : a1 = 57
  · refine X.tsIn 98 4 i199_1 rfl (by omega) rfl rfl ?_
    refine X.cut [(0, zr 4 40)] i199_98 rfl ?_
    refine X.aload_n 99 i199_98 rfl rfl rfl ?_
    refine X.getF 102 i199_99 rfl rfl (by decide) rfl rfl ?_
    refine X.getI 105 3 i199_102 rfl rfl (by decide) rfl rfl rfl ?_
    have h512 := r41_3 hJ 4
    refine X.i2l 106 i199_105 rfl rfl ?_
    refine X.retl i199_106 rfl t199 ?_
    exact hQ (m 4 41 3) (by first | trivial | omega) 
  refine X.tsOut 107 i199_1 rfl (by omega) rfl ?_
  refine X.cut [] i199_107 rfl ?_
  refine X.ldc2 110 i199_107 rfl rfl (by decide) ?_
  refine X.retl i199_110 rfl t199 ?_
  exact hQ (-10000000000) (by first | trivial | omega) 
-- WorkMeter.lookAtCounts
theorem c198_1 {s : Nat × (Nat → Int32)} {S : zS} {m0 m : zM} {B : Int} {d : Nat} {Q : Option zV → zM → Prop} (a1 : Int) (hd : 13 ≤ d) (hJ : J S m0 B m) (hB : B + 0 ≤ 1000000000) (ha1 : 8 ≤ a1 ∧ a1 ≤ 15) (hQ : ∀ (v : Int), ((-2147483648) ≤ v ∧ v ≤ 2147483647) → Q (some (zl v)) m) : X (EE s) d 198 0 [(0, zr 4 40), (1, zi a1)] [] m Q := by
  refine X.iload_n 1 i198_0 rfl rfl rfl ?_
  by_cases h501 : a1 = 8
  · refine X.tsIn 48 0 i198_1 rfl (by omega) rfl rfl ?_
    refine X.cut [(0, zr 4 40)] i198_48 rfl ?_
    refine X.aload_n 49 i198_48 rfl rfl rfl ?_
    refine X.getF 52 i198_49 rfl rfl (by decide) rfl rfl ?_
    refine X.getR 55 i198_52 rfl rfl (by decide) rfl rfl ?_
    refine X.getIr 58 3 i198_55 rfl rfl (by decide) rfl rfl rfl (fun h502 => ?_)
    refine X.i2l 59 i198_58 rfl rfl ?_
    refine X.retl i198_59 rfl t198 ?_
    exact hQ (m 0 33 3) (by first | trivial | omega) 
  by_cases h503 : a1 = 9
  · refine X.tsIn 60 1 i198_1 rfl (by omega) rfl rfl ?_
    refine X.cut [(0, zr 4 40)] i198_60 rfl ?_
    refine X.aload_n 61 i198_60 rfl rfl rfl ?_
    refine X.getF 64 i198_61 rfl rfl (by decide) rfl rfl ?_
    refine X.getR 67 i198_64 rfl rfl (by decide) rfl rfl ?_
    refine X.getI 70 1 i198_67 rfl rfl (by decide) rfl rfl rfl ?_
    have h504 := r37_1 hJ 0
    refine X.i2l 71 i198_70 rfl rfl ?_
    refine X.retl i198_71 rfl t198 ?_
    exact hQ (m 0 37 1) (by first | trivial | omega) 
  by_cases h505 : a1 = 10
  · refine X.tsIn 72 2 i198_1 rfl (by omega) rfl rfl ?_
    refine X.cut [(0, zr 4 40)] i198_72 rfl ?_
    refine X.aload_n 73 i198_72 rfl rfl rfl ?_
    refine X.getF 76 i198_73 rfl rfl (by decide) rfl rfl ?_
    refine X.getR 79 i198_76 rfl rfl (by decide) rfl rfl ?_
    refine X.getI 82 2 i198_79 rfl rfl (by decide) rfl rfl rfl ?_
    have h506 := r27_2 hJ 0
    refine X.i2l 83 i198_82 rfl rfl ?_
    refine X.retl i198_83 rfl t198 ?_
    exact hQ (m 0 27 2) (by first | trivial | omega) 
  by_cases h507 : a1 = 11
  · refine X.tsIn 84 3 i198_1 rfl (by omega) rfl rfl ?_
    refine X.cut [(0, zr 4 40)] i198_84 rfl ?_
    refine X.aload_n 85 i198_84 rfl rfl rfl ?_
    refine X.getF 88 i198_85 rfl rfl (by decide) rfl rfl ?_
    refine X.getR 91 i198_88 rfl rfl (by decide) rfl rfl ?_
    refine X.getI 94 3 i198_91 rfl rfl (by decide) rfl rfl rfl ?_
    have h508 := r23_3 hJ 0
    refine X.i2l 95 i198_94 rfl rfl ?_
    refine X.retl i198_95 rfl t198 ?_
    exact hQ (m 0 23 3) (by first | trivial | omega) 
  by_cases h509 : a1 = 12
  · refine X.tsIn 96 4 i198_1 rfl (by omega) rfl rfl ?_
    refine X.cut [(0, zr 4 40)] i198_96 rfl ?_
    refine X.aload_n 97 i198_96 rfl rfl rfl ?_
    refine X.getF 100 i198_97 rfl rfl (by decide) rfl rfl ?_
    refine X.getR 103 i198_100 rfl rfl (by decide) rfl rfl ?_
    refine X.getI 106 3 i198_103 rfl rfl (by decide) rfl rfl rfl ?_
    have h510 := r19_3 hJ 0
    refine X.i2l 107 i198_106 rfl rfl ?_
    refine X.retl i198_107 rfl t198 ?_
    exact hQ (m 0 19 3) (by first | trivial | omega) 
  by_cases h511 : a1 = 13
  · refine X.tsIn 108 5 i198_1 rfl (by omega) rfl rfl ?_
    refine X.cut [(0, zr 4 40)] i198_108 rfl ?_
    refine X.aload_n 109 i198_108 rfl rfl rfl ?_
    refine X.getF 112 i198_109 rfl rfl (by decide) rfl rfl ?_
    refine X.getR 115 i198_112 rfl rfl (by decide) rfl rfl ?_
    refine X.getI 118 4 i198_115 rfl rfl (by decide) rfl rfl rfl ?_
    have h512 := r19_4 hJ 0
    refine X.i2l 119 i198_118 rfl rfl ?_
    refine X.retl i198_119 rfl t198 ?_
    exact hQ (m 0 19 4) (by first | trivial | omega) 
  by_cases h513 : a1 = 14
  · refine X.tsIn 120 6 i198_1 rfl (by omega) rfl rfl ?_
    refine X.cut [(0, zr 4 40)] i198_120 rfl ?_
    refine X.aload_n 121 i198_120 rfl rfl rfl ?_
    refine X.getF 124 i198_121 rfl rfl (by decide) rfl rfl ?_
    refine X.getR 127 i198_124 rfl rfl (by decide) rfl rfl ?_
    refine X.getI 130 5 i198_127 rfl rfl (by decide) rfl rfl rfl ?_
    have h514 := r19_5 hJ 0
    refine X.i2l 131 i198_130 rfl rfl ?_
    refine X.retl i198_131 rfl t198 ?_
    exact hQ (m 0 19 5) (by first | trivial | omega) 
  by_cases h515 : a1 = 15
  · refine X.tsIn 132 7 i198_1 rfl (by omega) rfl rfl ?_
    refine X.cut [(0, zr 4 40)] i198_132 rfl ?_
    refine X.aload_n 133 i198_132 rfl rfl rfl ?_
    refine X.getF 136 i198_133 rfl rfl (by decide) rfl rfl ?_
    refine X.getR 139 i198_136 rfl rfl (by decide) rfl rfl ?_
    refine X.getI 142 7 i198_139 rfl rfl (by decide) rfl rfl rfl ?_
    have h516 := r11_7 hJ 0
    refine X.i2l 143 i198_142 rfl rfl ?_
    refine X.retl i198_143 rfl t198 ?_
    exact hQ (m 0 11 7) (by first | trivial | omega) 
  exfalso
  omega
-- WorkMeter.lookAtMeter
theorem c197_1 {s : Nat × (Nat → Int32)} {S : zS} {m0 m : zM} {B : Int} {d : Nat} {Q : Option zV → zM → Prop} (a1 : Int) (hd : 16 ≤ d) (hJ : J S m0 B m) (hB : B + 0 ≤ 1000000000) (ha1 : 0 ≤ a1 ∧ a1 ≤ 7) (hQ : ∀ (v : Int), (True) → Q (some (zl v)) m) : X (EE s) d 197 0 [(0, zr 4 40), (1, zi a1)] [] m Q := by
  refine X.iload_n 1 i197_0 rfl rfl rfl ?_
  by_cases h501 : a1 = 0
  · refine X.tsIn 48 0 i197_1 rfl (by omega) rfl rfl ?_
    refine X.cut [(0, zr 4 40)] i197_48 rfl ?_
    refine X.aload_n 49 i197_48 rfl rfl rfl ?_
    refine X.getF 52 i197_49 rfl rfl (by decide) rfl rfl ?_
    refine X.getI 55 9 i197_52 rfl rfl (by decide) rfl rfl rfl ?_
    have h502 := r8_9 hJ 0
    refine X.i2l 56 i197_55 rfl rfl ?_
    refine X.retl i197_56 rfl t197 ?_
    exact hQ (m 0 8 9) (by first | trivial | omega) 
  by_cases h503 : a1 = 1
  · refine X.tsIn 57 1 i197_1 rfl (by omega) rfl rfl ?_
    refine X.cut [(0, zr 4 40)] i197_57 rfl ?_
    refine X.aload_n 58 i197_57 rfl rfl rfl ?_
    refine X.getF 61 i197_58 rfl rfl (by decide) rfl rfl ?_
    refine X.getR 64 i197_61 rfl rfl (by decide) rfl rfl ?_
    refine X.aload_n 65 i197_64 rfl rfl rfl ?_
    refine X.getF 68 i197_65 rfl rfl (by decide) rfl rfl ?_
    refine X.getI 71 9 i197_68 rfl rfl (by decide) rfl rfl rfl ?_
    have h504 := r8_9 hJ 0
    refine X.callv 74 [zi (m 0 8 9)] [] [(0, zr 0 11), (1, zi (m 0 8 9))] i197_71 rfl (by decide) rfl rfl (by omega) rfl rfl (by decide) rfl t27 (Nat.le_of_ble_eq_true rfl) (Nat.le_of_ble_eq_true rfl) rfl ?_
    refine X.aload_n 1 i27_0 rfl rfl rfl ?_
    refine X.aload_n 2 i27_1 rfl rfl rfl ?_
    refine X.iload_n 3 i27_2 rfl rfl rfl ?_
    refine X.ldc 5 i27_3 rfl rfl (by decide) ?_
    refine X.idiv 6 i27_5 rfl rfl (by omega) ?_
    refine X.callv 9 [zi ((m 0 8 9) / 86400)] [zr 0 11] [(0, zr 0 11), (1, zi ((m 0 8 9) / 86400))] i27_6 rfl (by decide) rfl rfl (by omega) rfl rfl (by decide) rfl t28 (Nat.le_of_ble_eq_true rfl) (Nat.le_of_ble_eq_true rfl) rfl ?_
    refine c28_1 (B := B) 0 ((m 0 8 9) / 86400) (by omega) (hJ.up (by omega)) (by omega) (by omega) (fun v507 hv507 => ?_)
    show X (EE s) (d - 1) 27 9 [(0, zr 0 11), (1, zi (m 0 8 9))] [zi v507, zr 0 11] m _
    refine X.iload_n 10 i27_9 rfl rfl rfl ?_
    refine X.ldc 12 i27_10 rfl rfl (by decide) ?_
    refine X.irem 13 i27_12 rfl rfl (by omega) ?_
    refine X.callv 16 [zi v507, zi ((m 0 8 9) % 86400)] [] [(0, zr 0 11), (1, zi v507), (2, zi ((m 0 8 9) % 86400))] i27_13 rfl (by decide) rfl rfl (by omega) rfl rfl (by decide) rfl t31 (Nat.le_of_ble_eq_true rfl) (Nat.le_of_ble_eq_true rfl) rfl ?_
    refine c31_1 (B := B) 0 v507 ((m 0 8 9) % 86400) (by omega) (hJ.up (by omega)) (by omega) (by omega) (by omega) (fun v510 hv510 => ?_)
    show X (EE s) (d - 1) 27 16 [(0, zr 0 11), (1, zi (m 0 8 9))] [zi v510] m _
    refine X.reti i27_16 rfl t27 ?_
    show X (EE s) d 197 74 [(0, zr 4 40)] [zi v510] m _
    refine X.i2l 75 i197_74 rfl rfl ?_
    refine X.retl i197_75 rfl t197 ?_
    exact hQ v510 (by first | trivial | omega) 
  by_cases h511 : a1 = 2
  · refine X.tsIn 76 2 i197_1 rfl (by omega) rfl rfl ?_
    refine X.cut [(0, zr 4 40)] i197_76 rfl ?_
    refine X.aload_n 77 i197_76 rfl rfl rfl ?_
    refine X.getF 80 i197_77 rfl rfl (by decide) rfl rfl ?_
    refine X.getL 83 10 i197_80 rfl rfl (by decide) rfl rfl rfl ?_
    refine X.retl i197_83 rfl t197 ?_
    exact hQ (m 0 8 10) (by first | trivial | omega) 
  by_cases h512 : a1 = 3
  · refine X.tsIn 84 3 i197_1 rfl (by omega) rfl rfl ?_
    refine X.cut [(0, zr 4 40)] i197_84 rfl ?_
    refine X.aload_n 85 i197_84 rfl rfl rfl ?_
    refine X.getF 88 i197_85 rfl rfl (by decide) rfl rfl ?_
    refine X.getZ 91 11 i197_88 rfl rfl (by decide) rfl rfl rfl (fun h513 => ?_)
    refine X.ifeq 98 94 i197_91 rfl rfl rfl (fun h514 => ?_) (fun h514 => ?_)
    · refine X.cut [] i197_98 rfl ?_
      refine X.lconst (y := 0) 99 i197_98 rfl rfl rfl ?_
      refine X.retl i197_99 rfl t197 ?_
      exact hQ 0 (by first | trivial | omega) 
    · refine X.lconst (y := 1) 95 i197_94 rfl rfl rfl ?_
      refine X.goto 99 i197_95 rfl rfl ?_
      refine X.cut [] i197_99 rfl ?_
      refine X.retl i197_99 rfl t197 ?_
      exact hQ 1 (by first | trivial | omega) 
  by_cases h515 : a1 = 4
  · refine X.tsIn 100 4 i197_1 rfl (by omega) rfl rfl ?_
    refine X.cut [(0, zr 4 40)] i197_100 rfl ?_
    refine X.aload_n 101 i197_100 rfl rfl rfl ?_
    refine X.getF 104 i197_101 rfl rfl (by decide) rfl rfl ?_
    refine X.getZ 107 12 i197_104 rfl rfl (by decide) rfl rfl rfl (fun h516 => ?_)
    refine X.ifeq 114 110 i197_107 rfl rfl rfl (fun h517 => ?_) (fun h517 => ?_)
    · refine X.cut [] i197_114 rfl ?_
      refine X.lconst (y := 0) 115 i197_114 rfl rfl rfl ?_
      refine X.retl i197_115 rfl t197 ?_
      exact hQ 0 (by first | trivial | omega) 
    · refine X.lconst (y := 1) 111 i197_110 rfl rfl rfl ?_
      refine X.goto 115 i197_111 rfl rfl ?_
      refine X.cut [] i197_115 rfl ?_
      refine X.retl i197_115 rfl t197 ?_
      exact hQ 1 (by first | trivial | omega) 
  by_cases h518 : a1 = 5
  · refine X.tsIn 116 5 i197_1 rfl (by omega) rfl rfl ?_
    refine X.cut [(0, zr 4 40)] i197_116 rfl ?_
    refine X.aload_n 117 i197_116 rfl rfl rfl ?_
    refine X.getF 120 i197_117 rfl rfl (by decide) rfl rfl ?_
    refine X.getI 123 13 i197_120 rfl rfl (by decide) rfl rfl rfl ?_
    have h519 := r8_13 hJ 0
    refine X.i2l 124 i197_123 rfl rfl ?_
    refine X.retl i197_124 rfl t197 ?_
    exact hQ (m 0 8 13) (by first | trivial | omega) 
  by_cases h520 : a1 = 6
  · refine X.tsIn 125 6 i197_1 rfl (by omega) rfl rfl ?_
    refine X.cut [(0, zr 4 40)] i197_125 rfl ?_
    refine X.aload_n 126 i197_125 rfl rfl rfl ?_
    refine X.getF 129 i197_126 rfl rfl (by decide) rfl rfl ?_
    refine X.getIr 132 14 i197_129 rfl rfl (by decide) rfl rfl rfl (fun h521 => ?_)
    refine X.i2l 133 i197_132 rfl rfl ?_
    refine X.retl i197_133 rfl t197 ?_
    exact hQ (m 0 8 14) (by first | trivial | omega) 
  by_cases h522 : a1 = 7
  · refine X.tsIn 134 7 i197_1 rfl (by omega) rfl rfl ?_
    refine X.cut [(0, zr 4 40)] i197_134 rfl ?_
    refine X.aload_n 135 i197_134 rfl rfl rfl ?_
    refine X.getF 138 i197_135 rfl rfl (by decide) rfl rfl ?_
    refine X.getIr 141 15 i197_138 rfl rfl (by decide) rfl rfl rfl (fun h523 => ?_)
    refine X.i2l 142 i197_141 rfl rfl ?_
    refine X.retl i197_142 rfl t197 ?_
    exact hQ (m 0 8 15) (by first | trivial | omega) 
  exfalso
  omega
-- WorkMeter.look
theorem c196_1 {s : Nat × (Nat → Int32)} {S : zS} {m0 m : zM} {B : Int} {d : Nat} {Q : Option zV → zM → Prop} (a1 : Int) (hd : 17 ≤ d) (hJ : J S m0 B m) (hB : B + 0 ≤ 1000000000) (ha1 : (-2147483648) ≤ a1 ∧ a1 ≤ 2147483647) (hQ : ∀ (v : Int), (True) → Q (some (zl v)) m) : X (EE s) d 196 0 [(0, zr 4 40), (1, zi a1)] [] m Q := by
  refine X.iload_n 1 i196_0 rfl rfl rfl ?_
  refine X.ifge 8 4 i196_1 rfl rfl rfl (fun h501 => ?_) (fun h501 => ?_)
  · refine X.iload_n 9 i196_8 rfl rfl rfl ?_
    refine X.bipush 11 i196_9 rfl rfl (by decide) ?_
    refine X.icmpgt 20 14 i196_11 rfl rfl rfl (fun h502 => ?_) (fun h502 => ?_)
    · refine X.iload_n 21 i196_20 rfl rfl rfl ?_
      refine X.bipush 23 i196_21 rfl rfl (by decide) ?_
      refine X.icmpgt 32 26 i196_23 rfl rfl rfl (fun h503 => ?_) (fun h503 => ?_)
      · refine X.iload_n 33 i196_32 rfl rfl rfl ?_
        refine X.bipush 35 i196_33 rfl rfl (by decide) ?_
        refine X.icmplt 61 38 i196_35 rfl rfl rfl (fun h504 => ?_) (fun h504 => ?_)
        · refine X.iload_n 62 i196_61 rfl rfl rfl ?_
          refine X.bipush 64 i196_62 rfl rfl (by decide) ?_
          refine X.icmplt 73 67 i196_64 rfl rfl rfl (fun h505 => ?_) (fun h505 => (by exfalso; omega))
          refine X.iload_n 74 i196_73 rfl rfl rfl ?_
          refine X.calls 77 [zi a1] [] [(0, zi a1)] i196_74 (by decide) rfl rfl (by omega) rfl rfl t200 (Nat.le_of_ble_eq_true rfl) (Nat.le_of_ble_eq_true rfl) rfl ?_
          refine c200_1 (B := B)  a1 (by omega) (hJ.up (by omega)) (by omega) (by omega) (fun v508 hv508 => ?_)
          show X (EE s) d 196 77 [(0, zr 4 40), (1, zi a1)] [zi v508] m _
          refine X.istore_n 78 [(0, zr 4 40), (1, zi a1), (2, zi v508)] i196_77 rfl rfl rfl ?_
          refine X.iload_n 79 i196_78 rfl rfl rfl ?_
          refine X.iconst 80 i196_79 rfl rfl (by decide) ?_
          refine X.icmpne 89 83 i196_80 rfl rfl rfl (fun h509 => ?_) (fun h509 => ?_)
          · refine X.cut [(0, zr 4 40), (2, zi v508)] i196_89 rfl ?_
            refine X.aload_n 90 i196_89 rfl rfl rfl ?_
            refine X.getF 93 i196_90 rfl rfl (by decide) rfl rfl ?_
            refine X.getR 96 i196_93 rfl rfl (by decide) rfl rfl ?_
            refine X.iload_n 97 i196_96 rfl rfl rfl ?_
            refine X.callv 100 [zi v508] [] [(0, zr 0 9), (1, zi v508)] i196_97 rfl (by decide) rfl rfl (by omega) rfl rfl (by decide) rfl t168 (Nat.le_of_ble_eq_true rfl) (Nat.le_of_ble_eq_true rfl) rfl ?_
            refine X.iload_n 1 i168_0 rfl rfl rfl ?_
            refine X.calls 4 [zi v508] [] [(0, zi v508)] i168_1 (by decide) rfl rfl (by omega) rfl rfl t76 (Nat.le_of_ble_eq_true rfl) (Nat.le_of_ble_eq_true rfl) rfl ?_
            refine X.iload_n 1 i76_0 rfl rfl rfl ?_
            refine X.iflt 11 4 i76_1 rfl rfl rfl (fun h510 => (by exfalso; omega)) (fun h510 => ?_)
            refine X.iload_n 5 i76_4 rfl rfl rfl ?_
            refine X.iconst 6 i76_5 rfl rfl (by decide) ?_
            refine X.icmpgt 11 9 i76_6 rfl rfl rfl (fun h511 => ?_) (fun h511 => ?_)
            · refine X.iload_n 12 i76_11 rfl rfl rfl ?_
              refine X.bipush 14 i76_12 rfl rfl (by decide) ?_
              refine X.icmplt 31 17 i76_14 rfl rfl rfl (fun h512 => ?_) (fun h512 => ?_)
              · refine X.iload_n 32 i76_31 rfl rfl rfl ?_
                refine X.bipush 34 i76_32 rfl rfl (by decide) ?_
                refine X.icmplt 51 37 i76_34 rfl rfl rfl (fun h513 => ?_) (fun h513 => (by exfalso; omega))
                refine X.cut [] i76_51 rfl ?_
                refine X.iconst 52 i76_51 rfl rfl (by decide) ?_
                refine X.reti i76_52 rfl t76 ?_
                show X (EE s) (d - 1) 168 4 [(0, zr 0 9), (1, zi v508)] [zi (-1)] m _
                refine X.istore_n 5 [(0, zr 0 9), (1, zi v508), (2, zi (-1))] i168_4 rfl rfl rfl ?_
                refine X.iload_n 6 i168_5 rfl rfl rfl ?_
                refine X.iconst 7 i168_6 rfl rfl (by decide) ?_
                refine X.icmpne 14 10 i168_7 rfl rfl rfl (fun h514 => (by exfalso; omega)) (fun h514 => ?_)
                refine X.iconst 11 i168_10 rfl rfl (by decide) ?_
                refine X.goto 20 i168_11 rfl rfl ?_
                refine X.cut [] i168_20 rfl ?_
                refine X.reti i168_20 rfl t168 ?_
                show X (EE s) d 196 100 [(0, zr 4 40), (2, zi v508)] [zi (-1)] m _
                refine X.i2l 101 i196_100 rfl rfl ?_
                refine X.cut [] i196_101 rfl ?_
                refine X.retl i196_101 rfl t196 ?_
                exact hQ (-1) (by first | trivial | omega) 
              · refine X.iload_n 18 i76_17 rfl rfl rfl ?_
                refine X.bipush 20 i76_18 rfl rfl (by decide) ?_
                refine X.icmpge 31 23 i76_20 rfl rfl rfl (fun h515 => (by exfalso; omega)) (fun h515 => ?_)
                refine X.iload_n 24 i76_23 rfl rfl rfl ?_
                refine X.bipush 26 i76_24 rfl rfl (by decide) ?_
                refine X.isub 27 i76_26 rfl rfl (by omega) ?_
                refine X.bipush 29 i76_27 rfl rfl (by decide) ?_
                refine X.iadd 30 i76_29 rfl rfl (by omega) ?_
                refine X.reti i76_30 rfl t76 ?_
                show X (EE s) (d - 1) 168 4 [(0, zr 0 9), (1, zi v508)] [zi ((v508 - 10) + 6)] m _
                refine X.istore_n 5 [(0, zr 0 9), (1, zi v508), (2, zi ((v508 - 10) + 6))] i168_4 rfl rfl rfl ?_
                refine X.iload_n 6 i168_5 rfl rfl rfl ?_
                refine X.iconst 7 i168_6 rfl rfl (by decide) ?_
                refine X.icmpne 14 10 i168_7 rfl rfl rfl (fun h516 => ?_) (fun h516 => (by exfalso; omega))
                refine X.cut [(0, zr 0 9), (2, zi ((v508 - 10) + 6))] i168_14 rfl ?_
                refine X.aload_n 15 i168_14 rfl rfl rfl ?_
                refine X.getR 18 i168_15 rfl rfl (by decide) rfl rfl ?_
                refine X.iload_n 19 i168_18 rfl rfl rfl ?_
                refine X.iald 20 i168_19 rfl rfl (by decide) rfl (by omega) ?_
                have h517 := r10_6 hJ 0 (i := ((v508 - 10) + 6)) (by omega)
                refine X.cut [] i168_20 rfl ?_
                refine X.reti i168_20 rfl t168 ?_
                show X (EE s) d 196 100 [(0, zr 4 40), (2, zi v508)] [zi (m 0 10 ((v508 - 10) + 6))] m _
                refine X.i2l 101 i196_100 rfl rfl ?_
                refine X.cut [] i196_101 rfl ?_
                refine X.retl i196_101 rfl t196 ?_
                exact hQ (m 0 10 ((v508 - 10) + 6)) (by first | trivial | omega) 
            · refine X.iload_n 10 i76_9 rfl rfl rfl ?_
              refine X.reti i76_10 rfl t76 ?_
              show X (EE s) (d - 1) 168 4 [(0, zr 0 9), (1, zi v508)] [zi v508] m _
              refine X.istore_n 5 [(0, zr 0 9), (1, zi v508), (2, zi v508)] i168_4 rfl rfl rfl ?_
              refine X.iload_n 6 i168_5 rfl rfl rfl ?_
              refine X.iconst 7 i168_6 rfl rfl (by decide) ?_
              refine X.icmpne 14 10 i168_7 rfl rfl rfl (fun h518 => ?_) (fun h518 => (by exfalso; omega))
              refine X.cut [(0, zr 0 9), (2, zi v508)] i168_14 rfl ?_
              refine X.aload_n 15 i168_14 rfl rfl rfl ?_
              refine X.getR 18 i168_15 rfl rfl (by decide) rfl rfl ?_
              refine X.iload_n 19 i168_18 rfl rfl rfl ?_
              refine X.iald 20 i168_19 rfl rfl (by decide) rfl (by omega) ?_
              have h519 := r10_all hJ 0 (i := v508) (by omega)
              refine X.cut [] i168_20 rfl ?_
              refine X.reti i168_20 rfl t168 ?_
              show X (EE s) d 196 100 [(0, zr 4 40), (2, zi v508)] [zi (m 0 10 v508)] m _
              refine X.i2l 101 i196_100 rfl rfl ?_
              refine X.cut [] i196_101 rfl ?_
              refine X.retl i196_101 rfl t196 ?_
              exact hQ (m 0 10 v508) (by first | trivial | omega) 
          · refine X.ldc2 86 i196_83 rfl rfl (by decide) ?_
            refine X.goto 101 i196_86 rfl rfl ?_
            refine X.cut [] i196_101 rfl ?_
            refine X.retl i196_101 rfl t196 ?_
            exact hQ (-10000000000) (by first | trivial | omega) 
        · refine X.iload_n 39 i196_38 rfl rfl rfl ?_
          refine X.bipush 41 i196_39 rfl rfl (by decide) ?_
          refine X.icmpgt 61 44 i196_41 rfl rfl rfl (fun h520 => ?_) (fun h520 => ?_)
          · refine X.iload_n 62 i196_61 rfl rfl rfl ?_
            refine X.bipush 64 i196_62 rfl rfl (by decide) ?_
            refine X.icmplt 73 67 i196_64 rfl rfl rfl (fun h521 => ?_) (fun h521 => ?_)
            · refine X.iload_n 74 i196_73 rfl rfl rfl ?_
              refine X.calls 77 [zi a1] [] [(0, zi a1)] i196_74 (by decide) rfl rfl (by omega) rfl rfl t200 (Nat.le_of_ble_eq_true rfl) (Nat.le_of_ble_eq_true rfl) rfl ?_
              refine c200_2 (B := B)  a1 (by omega) (hJ.up (by omega)) (by omega) (by omega) (fun v524 hv524 => ?_)
              show X (EE s) d 196 77 [(0, zr 4 40), (1, zi a1)] [zi v524] m _
              refine X.istore_n 78 [(0, zr 4 40), (1, zi a1), (2, zi v524)] i196_77 rfl rfl rfl ?_
              refine X.iload_n 79 i196_78 rfl rfl rfl ?_
              refine X.iconst 80 i196_79 rfl rfl (by decide) ?_
              refine X.icmpne 89 83 i196_80 rfl rfl rfl (fun h525 => ?_) (fun h525 => ?_)
              · refine X.cut [(0, zr 4 40), (2, zi v524)] i196_89 rfl ?_
                refine X.aload_n 90 i196_89 rfl rfl rfl ?_
                refine X.getF 93 i196_90 rfl rfl (by decide) rfl rfl ?_
                refine X.getR 96 i196_93 rfl rfl (by decide) rfl rfl ?_
                refine X.iload_n 97 i196_96 rfl rfl rfl ?_
                refine X.callv 100 [zi v524] [] [(0, zr 0 9), (1, zi v524)] i196_97 rfl (by decide) rfl rfl (by omega) rfl rfl (by decide) rfl t168 (Nat.le_of_ble_eq_true rfl) (Nat.le_of_ble_eq_true rfl) rfl ?_
                refine X.iload_n 1 i168_0 rfl rfl rfl ?_
                refine X.calls 4 [zi v524] [] [(0, zi v524)] i168_1 (by decide) rfl rfl (by omega) rfl rfl t76 (Nat.le_of_ble_eq_true rfl) (Nat.le_of_ble_eq_true rfl) rfl ?_
                refine X.iload_n 1 i76_0 rfl rfl rfl ?_
                refine X.iflt 11 4 i76_1 rfl rfl rfl (fun h526 => (by exfalso; omega)) (fun h526 => ?_)
                refine X.iload_n 5 i76_4 rfl rfl rfl ?_
                refine X.iconst 6 i76_5 rfl rfl (by decide) ?_
                refine X.icmpgt 11 9 i76_6 rfl rfl rfl (fun h527 => ?_) (fun h527 => ?_)
                · refine X.iload_n 12 i76_11 rfl rfl rfl ?_
                  refine X.bipush 14 i76_12 rfl rfl (by decide) ?_
                  refine X.icmplt 31 17 i76_14 rfl rfl rfl (fun h528 => ?_) (fun h528 => ?_)
                  · refine X.iload_n 32 i76_31 rfl rfl rfl ?_
                    refine X.bipush 34 i76_32 rfl rfl (by decide) ?_
                    refine X.icmplt 51 37 i76_34 rfl rfl rfl (fun h529 => ?_) (fun h529 => (by exfalso; omega))
                    refine X.cut [] i76_51 rfl ?_
                    refine X.iconst 52 i76_51 rfl rfl (by decide) ?_
                    refine X.reti i76_52 rfl t76 ?_
                    show X (EE s) (d - 1) 168 4 [(0, zr 0 9), (1, zi v524)] [zi (-1)] m _
                    refine X.istore_n 5 [(0, zr 0 9), (1, zi v524), (2, zi (-1))] i168_4 rfl rfl rfl ?_
                    refine X.iload_n 6 i168_5 rfl rfl rfl ?_
                    refine X.iconst 7 i168_6 rfl rfl (by decide) ?_
                    refine X.icmpne 14 10 i168_7 rfl rfl rfl (fun h530 => (by exfalso; omega)) (fun h530 => ?_)
                    refine X.iconst 11 i168_10 rfl rfl (by decide) ?_
                    refine X.goto 20 i168_11 rfl rfl ?_
                    refine X.cut [] i168_20 rfl ?_
                    refine X.reti i168_20 rfl t168 ?_
                    show X (EE s) d 196 100 [(0, zr 4 40), (2, zi v524)] [zi (-1)] m _
                    refine X.i2l 101 i196_100 rfl rfl ?_
                    refine X.cut [] i196_101 rfl ?_
                    refine X.retl i196_101 rfl t196 ?_
                    exact hQ (-1) (by first | trivial | omega) 
                  · refine X.iload_n 18 i76_17 rfl rfl rfl ?_
                    refine X.bipush 20 i76_18 rfl rfl (by decide) ?_
                    refine X.icmpge 31 23 i76_20 rfl rfl rfl (fun h531 => ?_) (fun h531 => ?_)
                    · refine X.iload_n 32 i76_31 rfl rfl rfl ?_
                      refine X.bipush 34 i76_32 rfl rfl (by decide) ?_
                      refine X.icmplt 51 37 i76_34 rfl rfl rfl (fun h532 => ?_) (fun h532 => ?_)
                      · refine X.cut [] i76_51 rfl ?_
                        refine X.iconst 52 i76_51 rfl rfl (by decide) ?_
                        refine X.reti i76_52 rfl t76 ?_
                        show X (EE s) (d - 1) 168 4 [(0, zr 0 9), (1, zi v524)] [zi (-1)] m _
                        refine X.istore_n 5 [(0, zr 0 9), (1, zi v524), (2, zi (-1))] i168_4 rfl rfl rfl ?_
                        refine X.iload_n 6 i168_5 rfl rfl rfl ?_
                        refine X.iconst 7 i168_6 rfl rfl (by decide) ?_
                        refine X.icmpne 14 10 i168_7 rfl rfl rfl (fun h533 => (by exfalso; omega)) (fun h533 => ?_)
                        refine X.iconst 11 i168_10 rfl rfl (by decide) ?_
                        refine X.goto 20 i168_11 rfl rfl ?_
                        refine X.cut [] i168_20 rfl ?_
                        refine X.reti i168_20 rfl t168 ?_
                        show X (EE s) d 196 100 [(0, zr 4 40), (2, zi v524)] [zi (-1)] m _
                        refine X.i2l 101 i196_100 rfl rfl ?_
                        refine X.cut [] i196_101 rfl ?_
                        refine X.retl i196_101 rfl t196 ?_
                        exact hQ (-1) (by first | trivial | omega) 
                      · refine X.iload_n 38 i76_37 rfl rfl rfl ?_
                        refine X.bipush 40 i76_38 rfl rfl (by decide) ?_
                        refine X.icmpgt 51 43 i76_40 rfl rfl rfl (fun h534 => (by exfalso; omega)) (fun h534 => ?_)
                        refine X.iload_n 44 i76_43 rfl rfl rfl ?_
                        refine X.bipush 46 i76_44 rfl rfl (by decide) ?_
                        refine X.isub 47 i76_46 rfl rfl (by omega) ?_
                        refine X.bipush 49 i76_47 rfl rfl (by decide) ?_
                        refine X.iadd 50 i76_49 rfl rfl (by omega) ?_
                        refine X.reti i76_50 rfl t76 ?_
                        show X (EE s) (d - 1) 168 4 [(0, zr 0 9), (1, zi v524)] [zi ((v524 - 20) + 10)] m _
                        refine X.istore_n 5 [(0, zr 0 9), (1, zi v524), (2, zi ((v524 - 20) + 10))] i168_4 rfl rfl rfl ?_
                        refine X.iload_n 6 i168_5 rfl rfl rfl ?_
                        refine X.iconst 7 i168_6 rfl rfl (by decide) ?_
                        refine X.icmpne 14 10 i168_7 rfl rfl rfl (fun h535 => ?_) (fun h535 => (by exfalso; omega))
                        refine X.cut [(0, zr 0 9), (2, zi ((v524 - 20) + 10))] i168_14 rfl ?_
                        refine X.aload_n 15 i168_14 rfl rfl rfl ?_
                        refine X.getR 18 i168_15 rfl rfl (by decide) rfl rfl ?_
                        refine X.iload_n 19 i168_18 rfl rfl rfl ?_
                        refine X.iald 20 i168_19 rfl rfl (by decide) rfl (by omega) ?_
                        have h536 := r10_6 hJ 0 (i := ((v524 - 20) + 10)) (by omega)
                        refine X.cut [] i168_20 rfl ?_
                        refine X.reti i168_20 rfl t168 ?_
                        show X (EE s) d 196 100 [(0, zr 4 40), (2, zi v524)] [zi (m 0 10 ((v524 - 20) + 10))] m _
                        refine X.i2l 101 i196_100 rfl rfl ?_
                        refine X.cut [] i196_101 rfl ?_
                        refine X.retl i196_101 rfl t196 ?_
                        exact hQ (m 0 10 ((v524 - 20) + 10)) (by first | trivial | omega) 
                    · refine X.iload_n 24 i76_23 rfl rfl rfl ?_
                      refine X.bipush 26 i76_24 rfl rfl (by decide) ?_
                      refine X.isub 27 i76_26 rfl rfl (by omega) ?_
                      refine X.bipush 29 i76_27 rfl rfl (by decide) ?_
                      refine X.iadd 30 i76_29 rfl rfl (by omega) ?_
                      refine X.reti i76_30 rfl t76 ?_
                      show X (EE s) (d - 1) 168 4 [(0, zr 0 9), (1, zi v524)] [zi ((v524 - 10) + 6)] m _
                      refine X.istore_n 5 [(0, zr 0 9), (1, zi v524), (2, zi ((v524 - 10) + 6))] i168_4 rfl rfl rfl ?_
                      refine X.iload_n 6 i168_5 rfl rfl rfl ?_
                      refine X.iconst 7 i168_6 rfl rfl (by decide) ?_
                      refine X.icmpne 14 10 i168_7 rfl rfl rfl (fun h537 => ?_) (fun h537 => (by exfalso; omega))
                      refine X.cut [(0, zr 0 9), (2, zi ((v524 - 10) + 6))] i168_14 rfl ?_
                      refine X.aload_n 15 i168_14 rfl rfl rfl ?_
                      refine X.getR 18 i168_15 rfl rfl (by decide) rfl rfl ?_
                      refine X.iload_n 19 i168_18 rfl rfl rfl ?_
                      refine X.iald 20 i168_19 rfl rfl (by decide) rfl (by omega) ?_
                      have h538 := r10_6 hJ 0 (i := ((v524 - 10) + 6)) (by omega)
                      refine X.cut [] i168_20 rfl ?_
                      refine X.reti i168_20 rfl t168 ?_
                      show X (EE s) d 196 100 [(0, zr 4 40), (2, zi v524)] [zi (m 0 10 ((v524 - 10) + 6))] m _
                      refine X.i2l 101 i196_100 rfl rfl ?_
                      refine X.cut [] i196_101 rfl ?_
                      refine X.retl i196_101 rfl t196 ?_
                      exact hQ (m 0 10 ((v524 - 10) + 6)) (by first | trivial | omega) 
                · refine X.iload_n 10 i76_9 rfl rfl rfl ?_
                  refine X.reti i76_10 rfl t76 ?_
                  show X (EE s) (d - 1) 168 4 [(0, zr 0 9), (1, zi v524)] [zi v524] m _
                  refine X.istore_n 5 [(0, zr 0 9), (1, zi v524), (2, zi v524)] i168_4 rfl rfl rfl ?_
                  refine X.iload_n 6 i168_5 rfl rfl rfl ?_
                  refine X.iconst 7 i168_6 rfl rfl (by decide) ?_
                  refine X.icmpne 14 10 i168_7 rfl rfl rfl (fun h539 => ?_) (fun h539 => (by exfalso; omega))
                  refine X.cut [(0, zr 0 9), (2, zi v524)] i168_14 rfl ?_
                  refine X.aload_n 15 i168_14 rfl rfl rfl ?_
                  refine X.getR 18 i168_15 rfl rfl (by decide) rfl rfl ?_
                  refine X.iload_n 19 i168_18 rfl rfl rfl ?_
                  refine X.iald 20 i168_19 rfl rfl (by decide) rfl (by omega) ?_
                  have h540 := r10_all hJ 0 (i := v524) (by omega)
                  refine X.cut [] i168_20 rfl ?_
                  refine X.reti i168_20 rfl t168 ?_
                  show X (EE s) d 196 100 [(0, zr 4 40), (2, zi v524)] [zi (m 0 10 v524)] m _
                  refine X.i2l 101 i196_100 rfl rfl ?_
                  refine X.cut [] i196_101 rfl ?_
                  refine X.retl i196_101 rfl t196 ?_
                  exact hQ (m 0 10 v524) (by first | trivial | omega) 
              · refine X.ldc2 86 i196_83 rfl rfl (by decide) ?_
                refine X.goto 101 i196_86 rfl rfl ?_
                refine X.cut [] i196_101 rfl ?_
                refine X.retl i196_101 rfl t196 ?_
                exact hQ (-10000000000) (by first | trivial | omega) 
            · refine X.aload_n 68 i196_67 rfl rfl rfl ?_
              refine X.iload_n 69 i196_68 rfl rfl rfl ?_
              refine X.callv 72 [zi a1] [] [(0, zr 4 40), (1, zi a1)] i196_69 rfl (by decide) rfl rfl (by omega) rfl rfl (by decide) rfl t199 (Nat.le_of_ble_eq_true rfl) (Nat.le_of_ble_eq_true rfl) rfl ?_
              refine c199_1 (B := B)  a1 (by omega) (hJ.up (by omega)) (by omega) (by omega) (fun v543 hv543 => ?_)
              show X (EE s) d 196 72 [(0, zr 4 40), (1, zi a1)] [zl v543] m _
              refine X.retl i196_72 rfl t196 ?_
              exact hQ v543 (by first | trivial | omega) 
          · refine X.aload_n 45 i196_44 rfl rfl rfl ?_
            refine X.getF 48 i196_45 rfl rfl (by decide) rfl rfl ?_
            refine X.getR 51 i196_48 rfl rfl (by decide) rfl rfl ?_
            refine X.getR 54 i196_51 rfl rfl (by decide) rfl rfl ?_
            refine X.iload_n 55 i196_54 rfl rfl rfl ?_
            refine X.bipush 57 i196_55 rfl rfl (by decide) ?_
            refine X.isub 58 i196_57 rfl rfl (by omega) ?_
            refine X.iald 59 i196_58 rfl rfl (by decide) rfl (by omega) ?_
            have h544 := r15_0 hJ 0 (i := (a1 - 40)) (by omega)
            refine X.i2l 60 i196_59 rfl rfl ?_
            refine X.retl i196_60 rfl t196 ?_
            exact hQ (m 0 15 (a1 - 40)) (by first | trivial | omega) 
      · refine X.aload_n 27 i196_26 rfl rfl rfl ?_
        refine X.iload_n 28 i196_27 rfl rfl rfl ?_
        refine X.callv 31 [zi a1] [] [(0, zr 4 40), (1, zi a1)] i196_28 rfl (by decide) rfl rfl (by omega) rfl rfl (by decide) rfl t198 (Nat.le_of_ble_eq_true rfl) (Nat.le_of_ble_eq_true rfl) rfl ?_
        refine c198_1 (B := B)  a1 (by omega) (hJ.up (by omega)) (by omega) (by omega) (fun v547 hv547 => ?_)
        show X (EE s) d 196 31 [(0, zr 4 40), (1, zi a1)] [zl v547] m _
        refine X.retl i196_31 rfl t196 ?_
        exact hQ v547 (by first | trivial | omega) 
    · refine X.aload_n 15 i196_14 rfl rfl rfl ?_
      refine X.iload_n 16 i196_15 rfl rfl rfl ?_
      refine X.callv 19 [zi a1] [] [(0, zr 4 40), (1, zi a1)] i196_16 rfl (by decide) rfl rfl (by omega) rfl rfl (by decide) rfl t197 (Nat.le_of_ble_eq_true rfl) (Nat.le_of_ble_eq_true rfl) rfl ?_
      refine c197_1 (B := B)  a1 (by omega) (hJ.up (by omega)) (by omega) (by omega) (fun v550 hv550 => ?_)
      show X (EE s) d 196 19 [(0, zr 4 40), (1, zi a1)] [zl v550] m _
      refine X.retl i196_19 rfl t196 ?_
      exact hQ v550 (by first | trivial | omega) 
  · refine X.ldc2 7 i196_4 rfl rfl (by decide) ?_
    refine X.retl i196_7 rfl t196 ?_
    exact hQ (-10000000000) (by first | trivial | omega) 
-- WorkMeterModel.look
theorem c315_1 {s : Nat × (Nat → Int32)} {S : zS} {m0 m : zM} {B : Int} {d : Nat} {Q : Option zV → zM → Prop} (a1 : Int) (hd : 16 ≤ d) (hJ : J S m0 B m) (hB : B + 0 ≤ 1000000000) (ha1 : (-2147483648) ≤ a1 ∧ a1 ≤ 2147483647) (hQ : ∀ (v : Int), (True) → Q (some (zl v)) m) : X (EE s) d 315 0 [(0, zr 4 44), (1, zi a1)] [] m Q := by
  refine X.iload_n 1 i315_0 rfl rfl rfl ?_
  refine X.i2l 2 i315_1 rfl rfl ?_
  refine X.ldc2 5 i315_2 rfl rfl (by decide) ?_
  refine X.ldc2 8 i315_5 rfl rfl (by decide) ?_
  refine X.calls 11 [zl a1, zl 30, zl 33] [] [(0, zl a1), (2, zl 30), (4, zl 33)] i315_8 (by decide) rfl rfl (by omega) rfl rfl t204 (Nat.le_of_ble_eq_true rfl) (Nat.le_of_ble_eq_true rfl) rfl ?_
  refine X.lload_n 1 i204_0 rfl rfl rfl ?_
  refine X.lload_n 2 i204_1 rfl rfl rfl ?_
  refine X.lcmp 3 i204_2 rfl rfl (fun z501 hz501 => ?_)
  refine X.iflt 17 6 i204_3 rfl rfl rfl (fun h502 => ?_) (fun h502 => ?_)
  · have h502c : a1 < 30 := by omega
    clear h502 hz501
    refine X.cut [] i204_17 rfl ?_
    refine X.iconst 18 i204_17 rfl rfl (by decide) ?_
    refine X.retz i204_18 rfl t204 (by omega) ?_
    show X (EE s) d 315 11 [(0, zr 4 44), (1, zi a1)] [zi 0] m _
    refine X.ifeq 27 14 i315_11 rfl rfl rfl (fun h503 => ?_) (fun h503 => (by exfalso; omega))
    refine X.iload_n 28 i315_27 rfl rfl rfl ?_
    refine X.i2l 29 i315_28 rfl rfl ?_
    refine X.ldc2 32 i315_29 rfl rfl (by decide) ?_
    refine X.ldc2 35 i315_32 rfl rfl (by decide) ?_
    refine X.calls 38 [zl a1, zl 40, zl 43] [] [(0, zl a1), (2, zl 40), (4, zl 43)] i315_35 (by decide) rfl rfl (by omega) rfl rfl t204 (Nat.le_of_ble_eq_true rfl) (Nat.le_of_ble_eq_true rfl) rfl ?_
    refine X.lload_n 1 i204_0 rfl rfl rfl ?_
    refine X.lload_n 2 i204_1 rfl rfl rfl ?_
    refine X.lcmp 3 i204_2 rfl rfl (fun z504 hz504 => ?_)
    refine X.iflt 17 6 i204_3 rfl rfl rfl (fun h505 => ?_) (fun h505 => (by exfalso; omega))
    have h505c : a1 < 40 := by omega
    clear h505 hz504
    refine X.cut [] i204_17 rfl ?_
    refine X.iconst 18 i204_17 rfl rfl (by decide) ?_
    refine X.retz i204_18 rfl t204 (by omega) ?_
    show X (EE s) d 315 38 [(0, zr 4 44), (1, zi a1)] [zi 0] m _
    refine X.ifeq 55 41 i315_38 rfl rfl rfl (fun h506 => ?_) (fun h506 => (by exfalso; omega))
    refine X.iload_n 56 i315_55 rfl rfl rfl ?_
    refine X.i2l 57 i315_56 rfl rfl ?_
    refine X.ldc2 60 i315_57 rfl rfl (by decide) ?_
    refine X.ldc2 63 i315_60 rfl rfl (by decide) ?_
    refine X.calls 66 [zl a1, zl 20, zl 25] [] [(0, zl a1), (2, zl 20), (4, zl 25)] i315_63 (by decide) rfl rfl (by omega) rfl rfl t204 (Nat.le_of_ble_eq_true rfl) (Nat.le_of_ble_eq_true rfl) rfl ?_
    refine X.lload_n 1 i204_0 rfl rfl rfl ?_
    refine X.lload_n 2 i204_1 rfl rfl rfl ?_
    refine X.lcmp 3 i204_2 rfl rfl (fun z507 hz507 => ?_)
    refine X.iflt 17 6 i204_3 rfl rfl rfl (fun h508 => ?_) (fun h508 => ?_)
    · have h508c : a1 < 20 := by omega
      clear h508 hz507
      refine X.cut [] i204_17 rfl ?_
      refine X.iconst 18 i204_17 rfl rfl (by decide) ?_
      refine X.retz i204_18 rfl t204 (by omega) ?_
      show X (EE s) d 315 66 [(0, zr 4 44), (1, zi a1)] [zi 0] m _
      refine X.ifeq 81 69 i315_66 rfl rfl rfl (fun h509 => ?_) (fun h509 => (by exfalso; omega))
      refine X.iload_n 82 i315_81 rfl rfl rfl ?_
      refine X.i2l 83 i315_82 rfl rfl ?_
      refine X.ldc2 86 i315_83 rfl rfl (by decide) ?_
      refine X.ldc2 89 i315_86 rfl rfl (by decide) ?_
      refine X.calls 92 [zl a1, zl 50, zl 52] [] [(0, zl a1), (2, zl 50), (4, zl 52)] i315_89 (by decide) rfl rfl (by omega) rfl rfl t204 (Nat.le_of_ble_eq_true rfl) (Nat.le_of_ble_eq_true rfl) rfl ?_
      refine X.lload_n 1 i204_0 rfl rfl rfl ?_
      refine X.lload_n 2 i204_1 rfl rfl rfl ?_
      refine X.lcmp 3 i204_2 rfl rfl (fun z510 hz510 => ?_)
      refine X.iflt 17 6 i204_3 rfl rfl rfl (fun h511 => ?_) (fun h511 => (by exfalso; omega))
      have h511c : a1 < 50 := by omega
      clear h511 hz510
      refine X.cut [] i204_17 rfl ?_
      refine X.iconst 18 i204_17 rfl rfl (by decide) ?_
      refine X.retz i204_18 rfl t204 (by omega) ?_
      show X (EE s) d 315 92 [(0, zr 4 44), (1, zi a1)] [zi 0] m _
      refine X.ifeq 109 95 i315_92 rfl rfl rfl (fun h512 => ?_) (fun h512 => (by exfalso; omega))
      refine X.iload_n 110 i315_109 rfl rfl rfl ?_
      by_cases h513 : a1 = 0
      · refine X.tsIn 356 0 i315_110 rfl (by omega) rfl rfl ?_
        refine X.cut [(0, zr 4 44)] i315_356 rfl ?_
        refine X.aload_n 357 i315_356 rfl rfl rfl ?_
        refine X.getF 360 i315_357 rfl rfl (by decide) rfl rfl ?_
        refine X.iconst 361 i315_360 rfl rfl (by decide) ?_
        refine X.lald 362 i315_361 rfl rfl (by decide) rfl (by omega) ?_
        have h514 := r45_0 hJ 4
        refine X.retl i315_362 rfl t315 ?_
        exact hQ (m 4 45 0) (by first | trivial | omega) 
      by_cases h515 : a1 = 1
      · refine X.tsIn 363 1 i315_110 rfl (by omega) rfl rfl ?_
        refine X.cut [(0, zr 4 44)] i315_363 rfl ?_
        refine X.aload_n 364 i315_363 rfl rfl rfl ?_
        refine X.aload_n 365 i315_364 rfl rfl rfl ?_
        refine X.getF 368 i315_365 rfl rfl (by decide) rfl rfl ?_
        refine X.iconst 369 i315_368 rfl rfl (by decide) ?_
        refine X.lald 370 i315_369 rfl rfl (by decide) rfl (by omega) ?_
        have h516 := r45_0 hJ 4
        refine X.l2i 371 i315_370 rfl rfl (by omega) ?_
        refine X.callv 374 [zi (m 4 45 0)] [] [(0, zr 4 44), (1, zi (m 4 45 0))] i315_371 rfl (by decide) rfl rfl (by omega) rfl rfl (by decide) rfl t217 (Nat.le_of_ble_eq_true rfl) (Nat.le_of_ble_eq_true rfl) rfl ?_
        refine c217_1 (B := B)  (m 4 45 0) (by omega) (hJ.up (by omega)) (by omega) (by omega) (fun v519 hv519 => ?_)
        show X (EE s) d 315 374 [(0, zr 4 44)] [zi v519] m _
        refine X.i2l 375 i315_374 rfl rfl ?_
        refine X.retl i315_375 rfl t315 ?_
        exact hQ v519 (by first | trivial | omega) 
      by_cases h520 : a1 = 2
      · refine X.tsIn 376 2 i315_110 rfl (by omega) rfl rfl ?_
        refine X.cut [(0, zr 4 44)] i315_376 rfl ?_
        refine X.aload_n 377 i315_376 rfl rfl rfl ?_
        refine X.getF 380 i315_377 rfl rfl (by decide) rfl rfl ?_
        refine X.bipush 382 i315_380 rfl rfl (by decide) ?_
        refine X.lald 383 i315_382 rfl rfl (by decide) rfl (by omega) ?_
        refine X.retl i315_383 rfl t315 ?_
        exact hQ (m 4 45 10) (by first | trivial | omega) 
      by_cases h521 : a1 = 3
      · refine X.tsIn 384 3 i315_110 rfl (by omega) rfl rfl ?_
        refine X.cut [(0, zr 4 44)] i315_384 rfl ?_
        refine X.aload_n 385 i315_384 rfl rfl rfl ?_
        refine X.getF 388 i315_385 rfl rfl (by decide) rfl rfl ?_
        refine X.bipush 390 i315_388 rfl rfl (by decide) ?_
        refine X.lald 391 i315_390 rfl rfl (by decide) rfl (by omega) ?_
        have h522 := r45_11 hJ 4
        refine X.retl i315_391 rfl t315 ?_
        exact hQ (m 4 45 11) (by first | trivial | omega) 
      by_cases h523 : a1 = 4
      · refine X.tsIn 392 4 i315_110 rfl (by omega) rfl rfl ?_
        refine X.cut [(0, zr 4 44)] i315_392 rfl ?_
        refine X.aload_n 393 i315_392 rfl rfl rfl ?_
        refine X.getF 396 i315_393 rfl rfl (by decide) rfl rfl ?_
        refine X.bipush 398 i315_396 rfl rfl (by decide) ?_
        refine X.lald 399 i315_398 rfl rfl (by decide) rfl (by omega) ?_
        have h524 := r45_12 hJ 4
        refine X.retl i315_399 rfl t315 ?_
        exact hQ (m 4 45 12) (by first | trivial | omega) 
      by_cases h525 : a1 = 5
      · refine X.tsIn 400 5 i315_110 rfl (by omega) rfl rfl ?_
        refine X.cut [(0, zr 4 44)] i315_400 rfl ?_
        refine X.aload_n 401 i315_400 rfl rfl rfl ?_
        refine X.getF 404 i315_401 rfl rfl (by decide) rfl rfl ?_
        refine X.bipush 406 i315_404 rfl rfl (by decide) ?_
        refine X.lald 407 i315_406 rfl rfl (by decide) rfl (by omega) ?_
        have h526 := r45_13 hJ 4
        refine X.retl i315_407 rfl t315 ?_
        exact hQ (m 4 45 13) (by first | trivial | omega) 
      by_cases h527 : a1 = 6
      · refine X.tsIn 408 6 i315_110 rfl (by omega) rfl rfl ?_
        refine X.cut [(0, zr 4 44)] i315_408 rfl ?_
        refine X.aload_n 409 i315_408 rfl rfl rfl ?_
        refine X.getF 412 i315_409 rfl rfl (by decide) rfl rfl ?_
        refine X.bipush 414 i315_412 rfl rfl (by decide) ?_
        refine X.lald 415 i315_414 rfl rfl (by decide) rfl (by omega) ?_
        refine X.retl i315_415 rfl t315 ?_
        exact hQ (m 4 45 14) (by first | trivial | omega) 
      by_cases h528 : a1 = 7
      · refine X.tsIn 416 7 i315_110 rfl (by omega) rfl rfl ?_
        refine X.cut [(0, zr 4 44)] i315_416 rfl ?_
        refine X.aload_n 417 i315_416 rfl rfl rfl ?_
        refine X.getF 420 i315_417 rfl rfl (by decide) rfl rfl ?_
        refine X.bipush 422 i315_420 rfl rfl (by decide) ?_
        refine X.lald 423 i315_422 rfl rfl (by decide) rfl (by omega) ?_
        refine X.retl i315_423 rfl t315 ?_
        exact hQ (m 4 45 15) (by first | trivial | omega) 
      by_cases h529 : a1 = 8
      · refine X.tsIn 424 8 i315_110 rfl (by omega) rfl rfl ?_
        refine X.cut [(0, zr 4 44)] i315_424 rfl ?_
        refine X.aload_n 425 i315_424 rfl rfl rfl ?_
        refine X.callv 428 [] [] [(0, zr 4 44)] i315_425 rfl (by decide) rfl rfl (by omega) rfl rfl (by decide) rfl t231 (Nat.le_of_ble_eq_true rfl) (Nat.le_of_ble_eq_true rfl) rfl ?_
        refine c231_1 (B := B)   (by omega) (hJ.up (by omega)) (by omega)  (fun v532 hv532 => ?_)
        show X (EE s) d 315 428 [(0, zr 4 44)] [zl v532] m _
        refine X.retl i315_428 rfl t315 ?_
        exact hQ v532 (by first | trivial | omega) 
      by_cases h533 : a1 = 9
      · refine X.tsIn 429 9 i315_110 rfl (by omega) rfl rfl ?_
        refine X.cut [(0, zr 4 44)] i315_429 rfl ?_
        refine X.aload_n 430 i315_429 rfl rfl rfl ?_
        refine X.getF 433 i315_430 rfl rfl (by decide) rfl rfl ?_
        refine X.bipush 435 i315_433 rfl rfl (by decide) ?_
        refine X.lald 436 i315_435 rfl rfl (by decide) rfl (by omega) ?_
        have h534 := r45_16 hJ 4
        refine X.retl i315_436 rfl t315 ?_
        exact hQ (m 4 45 16) (by first | trivial | omega) 
      by_cases h535 : a1 = 10
      · refine X.tsIn 437 10 i315_110 rfl (by omega) rfl rfl ?_
        refine X.cut [(0, zr 4 44)] i315_437 rfl ?_
        refine X.aload_n 438 i315_437 rfl rfl rfl ?_
        refine X.getF 441 i315_438 rfl rfl (by decide) rfl rfl ?_
        refine X.bipush 443 i315_441 rfl rfl (by decide) ?_
        refine X.lald 444 i315_443 rfl rfl (by decide) rfl (by omega) ?_
        have h536 := r45_17 hJ 4
        refine X.retl i315_444 rfl t315 ?_
        exact hQ (m 4 45 17) (by first | trivial | omega) 
      by_cases h537 : a1 = 11
      · refine X.tsIn 445 11 i315_110 rfl (by omega) rfl rfl ?_
        refine X.cut [(0, zr 4 44)] i315_445 rfl ?_
        refine X.aload_n 446 i315_445 rfl rfl rfl ?_
        refine X.getF 449 i315_446 rfl rfl (by decide) rfl rfl ?_
        refine X.bipush 451 i315_449 rfl rfl (by decide) ?_
        refine X.lald 452 i315_451 rfl rfl (by decide) rfl (by omega) ?_
        have h538 := r45_18 hJ 4
        refine X.retl i315_452 rfl t315 ?_
        exact hQ (m 4 45 18) (by first | trivial | omega) 
      by_cases h539 : a1 = 12
      · refine X.tsIn 453 12 i315_110 rfl (by omega) rfl rfl ?_
        refine X.cut [(0, zr 4 44)] i315_453 rfl ?_
        refine X.aload_n 454 i315_453 rfl rfl rfl ?_
        refine X.getF 457 i315_454 rfl rfl (by decide) rfl rfl ?_
        refine X.iconst 458 i315_457 rfl rfl (by decide) ?_
        refine X.lald 459 i315_458 rfl rfl (by decide) rfl (by omega) ?_
        have h540 := r45_1 hJ 4
        refine X.retl i315_459 rfl t315 ?_
        exact hQ (m 4 45 1) (by first | trivial | omega) 
      by_cases h541 : a1 = 13
      · refine X.tsIn 460 13 i315_110 rfl (by omega) rfl rfl ?_
        refine X.cut [(0, zr 4 44)] i315_460 rfl ?_
        refine X.aload_n 461 i315_460 rfl rfl rfl ?_
        refine X.getF 464 i315_461 rfl rfl (by decide) rfl rfl ?_
        refine X.iconst 465 i315_464 rfl rfl (by decide) ?_
        refine X.lald 466 i315_465 rfl rfl (by decide) rfl (by omega) ?_
        have h542 := r45_2 hJ 4
        refine X.retl i315_466 rfl t315 ?_
        exact hQ (m 4 45 2) (by first | trivial | omega) 
      by_cases h543 : a1 = 14
      · refine X.tsIn 467 14 i315_110 rfl (by omega) rfl rfl ?_
        refine X.cut [(0, zr 4 44)] i315_467 rfl ?_
        refine X.aload_n 468 i315_467 rfl rfl rfl ?_
        refine X.getF 471 i315_468 rfl rfl (by decide) rfl rfl ?_
        refine X.iconst 472 i315_471 rfl rfl (by decide) ?_
        refine X.lald 473 i315_472 rfl rfl (by decide) rfl (by omega) ?_
        have h544 := r45_3 hJ 4
        refine X.retl i315_473 rfl t315 ?_
        exact hQ (m 4 45 3) (by first | trivial | omega) 
      by_cases h545 : a1 = 15
      · refine X.tsIn 474 15 i315_110 rfl (by omega) rfl rfl ?_
        refine X.cut [(0, zr 4 44)] i315_474 rfl ?_
        refine X.aload_n 475 i315_474 rfl rfl rfl ?_
        refine X.callv 478 [] [] [(0, zr 4 44)] i315_475 rfl (by decide) rfl rfl (by omega) rfl rfl (by decide) rfl t249 (Nat.le_of_ble_eq_true rfl) (Nat.le_of_ble_eq_true rfl) rfl ?_
        refine c249_1 (B := B)   (by omega) (hJ.up (by omega)) (by omega)  (fun v548 hv548 => ?_)
        show X (EE s) d 315 478 [(0, zr 4 44)] [zi v548] m _
        refine X.i2l 479 i315_478 rfl rfl ?_
        refine X.retl i315_479 rfl t315 ?_
        exact hQ v548 (by first | trivial | omega) 
      by_cases h549 : a1 = 16
      · refine X.tsIn 518 16 i315_110 rfl (by omega) rfl rfl ?_
        refine X.cut [] i315_518 rfl ?_
        refine X.ldc2 521 i315_518 rfl rfl (by decide) ?_
        refine X.retl i315_521 rfl t315 ?_
        exact hQ (-10000000000) (by first | trivial | omega) 
      by_cases h550 : a1 = 17
      · refine X.tsIn 518 17 i315_110 rfl (by omega) rfl rfl ?_
        refine X.cut [] i315_518 rfl ?_
        refine X.ldc2 521 i315_518 rfl rfl (by decide) ?_
        refine X.retl i315_521 rfl t315 ?_
        exact hQ (-10000000000) (by first | trivial | omega) 
      by_cases h551 : a1 = 18
      · refine X.tsIn 518 18 i315_110 rfl (by omega) rfl rfl ?_
        refine X.cut [] i315_518 rfl ?_
        refine X.ldc2 521 i315_518 rfl rfl (by decide) ?_
        refine X.retl i315_521 rfl t315 ?_
        exact hQ (-10000000000) (by first | trivial | omega) 
      by_cases h552 : a1 = 19
      · refine X.tsIn 518 19 i315_110 rfl (by omega) rfl rfl ?_
        refine X.cut [] i315_518 rfl ?_
        refine X.ldc2 521 i315_518 rfl rfl (by decide) ?_
        refine X.retl i315_521 rfl t315 ?_
        exact hQ (-10000000000) (by first | trivial | omega) 
      refine X.tsOut 518 i315_110 rfl (by omega) rfl ?_
      refine X.cut [] i315_518 rfl ?_
      refine X.ldc2 521 i315_518 rfl rfl (by decide) ?_
      refine X.retl i315_521 rfl t315 ?_
      exact hQ (-10000000000) (by first | trivial | omega) 
    · have h508c : a1 ≥ 20 := by omega
      clear h508 hz507
      refine X.lload_n 7 i204_6 rfl rfl rfl ?_
      refine X.lload 9 i204_7 rfl rfl rfl ?_
      refine X.lcmp 10 i204_9 rfl rfl (fun z553 hz553 => ?_)
      refine X.ifgt 17 13 i204_10 rfl rfl rfl (fun h554 => ?_) (fun h554 => ?_)
      · have h554c : a1 > 25 := by omega
        clear h554 hz553
        refine X.cut [] i204_17 rfl ?_
        refine X.iconst 18 i204_17 rfl rfl (by decide) ?_
        refine X.retz i204_18 rfl t204 (by omega) ?_
        show X (EE s) d 315 66 [(0, zr 4 44), (1, zi a1)] [zi 0] m _
        refine X.ifeq 81 69 i315_66 rfl rfl rfl (fun h555 => ?_) (fun h555 => (by exfalso; omega))
        refine X.iload_n 82 i315_81 rfl rfl rfl ?_
        refine X.i2l 83 i315_82 rfl rfl ?_
        refine X.ldc2 86 i315_83 rfl rfl (by decide) ?_
        refine X.ldc2 89 i315_86 rfl rfl (by decide) ?_
        refine X.calls 92 [zl a1, zl 50, zl 52] [] [(0, zl a1), (2, zl 50), (4, zl 52)] i315_89 (by decide) rfl rfl (by omega) rfl rfl t204 (Nat.le_of_ble_eq_true rfl) (Nat.le_of_ble_eq_true rfl) rfl ?_
        refine X.lload_n 1 i204_0 rfl rfl rfl ?_
        refine X.lload_n 2 i204_1 rfl rfl rfl ?_
        refine X.lcmp 3 i204_2 rfl rfl (fun z556 hz556 => ?_)
        refine X.iflt 17 6 i204_3 rfl rfl rfl (fun h557 => ?_) (fun h557 => (by exfalso; omega))
        have h557c : a1 < 50 := by omega
        clear h557 hz556
        refine X.cut [] i204_17 rfl ?_
        refine X.iconst 18 i204_17 rfl rfl (by decide) ?_
        refine X.retz i204_18 rfl t204 (by omega) ?_
        show X (EE s) d 315 92 [(0, zr 4 44), (1, zi a1)] [zi 0] m _
        refine X.ifeq 109 95 i315_92 rfl rfl rfl (fun h558 => ?_) (fun h558 => (by exfalso; omega))
        refine X.iload_n 110 i315_109 rfl rfl rfl ?_
        by_cases h559 : a1 = 26
        · refine X.tsIn 518 26 i315_110 rfl (by omega) rfl rfl ?_
          refine X.cut [] i315_518 rfl ?_
          refine X.ldc2 521 i315_518 rfl rfl (by decide) ?_
          refine X.retl i315_521 rfl t315 ?_
          exact hQ (-10000000000) (by first | trivial | omega) 
        by_cases h560 : a1 = 27
        · refine X.tsIn 518 27 i315_110 rfl (by omega) rfl rfl ?_
          refine X.cut [] i315_518 rfl ?_
          refine X.ldc2 521 i315_518 rfl rfl (by decide) ?_
          refine X.retl i315_521 rfl t315 ?_
          exact hQ (-10000000000) (by first | trivial | omega) 
        by_cases h561 : a1 = 28
        · refine X.tsIn 518 28 i315_110 rfl (by omega) rfl rfl ?_
          refine X.cut [] i315_518 rfl ?_
          refine X.ldc2 521 i315_518 rfl rfl (by decide) ?_
          refine X.retl i315_521 rfl t315 ?_
          exact hQ (-10000000000) (by first | trivial | omega) 
        by_cases h562 : a1 = 29
        · refine X.tsIn 518 29 i315_110 rfl (by omega) rfl rfl ?_
          refine X.cut [] i315_518 rfl ?_
          refine X.ldc2 521 i315_518 rfl rfl (by decide) ?_
          refine X.retl i315_521 rfl t315 ?_
          exact hQ (-10000000000) (by first | trivial | omega) 
        exfalso
        omega
      · have h554c : a1 ≤ 25 := by omega
        clear h554 hz553
        refine X.iconst 14 i204_13 rfl rfl (by decide) ?_
        refine X.goto 18 i204_14 rfl rfl ?_
        refine X.cut [] i204_18 rfl ?_
        refine X.retz i204_18 rfl t204 (by omega) ?_
        show X (EE s) d 315 66 [(0, zr 4 44), (1, zi a1)] [zi 1] m _
        refine X.ifeq 81 69 i315_66 rfl rfl rfl (fun h563 => (by exfalso; omega)) (fun h563 => ?_)
        refine X.aload_n 70 i315_69 rfl rfl rfl ?_
        refine X.getF 73 i315_70 rfl rfl (by decide) rfl rfl ?_
        refine X.iconst 74 i315_73 rfl rfl (by decide) ?_
        refine X.iload_n 75 i315_74 rfl rfl rfl ?_
        refine X.iadd 76 i315_75 rfl rfl (by omega) ?_
        refine X.bipush 78 i315_76 rfl rfl (by decide) ?_
        refine X.isub 79 i315_78 rfl rfl (by omega) ?_
        refine X.lald 80 i315_79 rfl rfl (by decide) rfl (by omega) ?_
        refine X.retl i315_80 rfl t315 ?_
        exact hQ (m 4 45 ((4 + a1) - 20)) (by first | trivial | omega) 
  · have h502c : a1 ≥ 30 := by omega
    clear h502 hz501
    refine X.lload_n 7 i204_6 rfl rfl rfl ?_
    refine X.lload 9 i204_7 rfl rfl rfl ?_
    refine X.lcmp 10 i204_9 rfl rfl (fun z564 hz564 => ?_)
    refine X.ifgt 17 13 i204_10 rfl rfl rfl (fun h565 => ?_) (fun h565 => ?_)
    · have h565c : a1 > 33 := by omega
      clear h565 hz564
      refine X.cut [] i204_17 rfl ?_
      refine X.iconst 18 i204_17 rfl rfl (by decide) ?_
      refine X.retz i204_18 rfl t204 (by omega) ?_
      show X (EE s) d 315 11 [(0, zr 4 44), (1, zi a1)] [zi 0] m _
      refine X.ifeq 27 14 i315_11 rfl rfl rfl (fun h566 => ?_) (fun h566 => (by exfalso; omega))
      refine X.iload_n 28 i315_27 rfl rfl rfl ?_
      refine X.i2l 29 i315_28 rfl rfl ?_
      refine X.ldc2 32 i315_29 rfl rfl (by decide) ?_
      refine X.ldc2 35 i315_32 rfl rfl (by decide) ?_
      refine X.calls 38 [zl a1, zl 40, zl 43] [] [(0, zl a1), (2, zl 40), (4, zl 43)] i315_35 (by decide) rfl rfl (by omega) rfl rfl t204 (Nat.le_of_ble_eq_true rfl) (Nat.le_of_ble_eq_true rfl) rfl ?_
      refine X.lload_n 1 i204_0 rfl rfl rfl ?_
      refine X.lload_n 2 i204_1 rfl rfl rfl ?_
      refine X.lcmp 3 i204_2 rfl rfl (fun z567 hz567 => ?_)
      refine X.iflt 17 6 i204_3 rfl rfl rfl (fun h568 => ?_) (fun h568 => ?_)
      · have h568c : a1 < 40 := by omega
        clear h568 hz567
        refine X.cut [] i204_17 rfl ?_
        refine X.iconst 18 i204_17 rfl rfl (by decide) ?_
        refine X.retz i204_18 rfl t204 (by omega) ?_
        show X (EE s) d 315 38 [(0, zr 4 44), (1, zi a1)] [zi 0] m _
        refine X.ifeq 55 41 i315_38 rfl rfl rfl (fun h569 => ?_) (fun h569 => (by exfalso; omega))
        refine X.iload_n 56 i315_55 rfl rfl rfl ?_
        refine X.i2l 57 i315_56 rfl rfl ?_
        refine X.ldc2 60 i315_57 rfl rfl (by decide) ?_
        refine X.ldc2 63 i315_60 rfl rfl (by decide) ?_
        refine X.calls 66 [zl a1, zl 20, zl 25] [] [(0, zl a1), (2, zl 20), (4, zl 25)] i315_63 (by decide) rfl rfl (by omega) rfl rfl t204 (Nat.le_of_ble_eq_true rfl) (Nat.le_of_ble_eq_true rfl) rfl ?_
        refine X.lload_n 1 i204_0 rfl rfl rfl ?_
        refine X.lload_n 2 i204_1 rfl rfl rfl ?_
        refine X.lcmp 3 i204_2 rfl rfl (fun z570 hz570 => ?_)
        refine X.iflt 17 6 i204_3 rfl rfl rfl (fun h571 => (by exfalso; omega)) (fun h571 => ?_)
        have h571c : a1 ≥ 20 := by omega
        clear h571 hz570
        refine X.lload_n 7 i204_6 rfl rfl rfl ?_
        refine X.lload 9 i204_7 rfl rfl rfl ?_
        refine X.lcmp 10 i204_9 rfl rfl (fun z572 hz572 => ?_)
        refine X.ifgt 17 13 i204_10 rfl rfl rfl (fun h573 => ?_) (fun h573 => (by exfalso; omega))
        have h573c : a1 > 25 := by omega
        clear h573 hz572
        refine X.cut [] i204_17 rfl ?_
        refine X.iconst 18 i204_17 rfl rfl (by decide) ?_
        refine X.retz i204_18 rfl t204 (by omega) ?_
        show X (EE s) d 315 66 [(0, zr 4 44), (1, zi a1)] [zi 0] m _
        refine X.ifeq 81 69 i315_66 rfl rfl rfl (fun h574 => ?_) (fun h574 => (by exfalso; omega))
        refine X.iload_n 82 i315_81 rfl rfl rfl ?_
        refine X.i2l 83 i315_82 rfl rfl ?_
        refine X.ldc2 86 i315_83 rfl rfl (by decide) ?_
        refine X.ldc2 89 i315_86 rfl rfl (by decide) ?_
        refine X.calls 92 [zl a1, zl 50, zl 52] [] [(0, zl a1), (2, zl 50), (4, zl 52)] i315_89 (by decide) rfl rfl (by omega) rfl rfl t204 (Nat.le_of_ble_eq_true rfl) (Nat.le_of_ble_eq_true rfl) rfl ?_
        refine X.lload_n 1 i204_0 rfl rfl rfl ?_
        refine X.lload_n 2 i204_1 rfl rfl rfl ?_
        refine X.lcmp 3 i204_2 rfl rfl (fun z575 hz575 => ?_)
        refine X.iflt 17 6 i204_3 rfl rfl rfl (fun h576 => ?_) (fun h576 => (by exfalso; omega))
        have h576c : a1 < 50 := by omega
        clear h576 hz575
        refine X.cut [] i204_17 rfl ?_
        refine X.iconst 18 i204_17 rfl rfl (by decide) ?_
        refine X.retz i204_18 rfl t204 (by omega) ?_
        show X (EE s) d 315 92 [(0, zr 4 44), (1, zi a1)] [zi 0] m _
        refine X.ifeq 109 95 i315_92 rfl rfl rfl (fun h577 => ?_) (fun h577 => (by exfalso; omega))
        refine X.iload_n 110 i315_109 rfl rfl rfl ?_
        by_cases h578 : a1 = 34
        · refine X.tsIn 518 34 i315_110 rfl (by omega) rfl rfl ?_
          refine X.cut [] i315_518 rfl ?_
          refine X.ldc2 521 i315_518 rfl rfl (by decide) ?_
          refine X.retl i315_521 rfl t315 ?_
          exact hQ (-10000000000) (by first | trivial | omega) 
        by_cases h579 : a1 = 35
        · refine X.tsIn 518 35 i315_110 rfl (by omega) rfl rfl ?_
          refine X.cut [] i315_518 rfl ?_
          refine X.ldc2 521 i315_518 rfl rfl (by decide) ?_
          refine X.retl i315_521 rfl t315 ?_
          exact hQ (-10000000000) (by first | trivial | omega) 
        by_cases h580 : a1 = 36
        · refine X.tsIn 518 36 i315_110 rfl (by omega) rfl rfl ?_
          refine X.cut [] i315_518 rfl ?_
          refine X.ldc2 521 i315_518 rfl rfl (by decide) ?_
          refine X.retl i315_521 rfl t315 ?_
          exact hQ (-10000000000) (by first | trivial | omega) 
        by_cases h581 : a1 = 37
        · refine X.tsIn 518 37 i315_110 rfl (by omega) rfl rfl ?_
          refine X.cut [] i315_518 rfl ?_
          refine X.ldc2 521 i315_518 rfl rfl (by decide) ?_
          refine X.retl i315_521 rfl t315 ?_
          exact hQ (-10000000000) (by first | trivial | omega) 
        by_cases h582 : a1 = 38
        · refine X.tsIn 518 38 i315_110 rfl (by omega) rfl rfl ?_
          refine X.cut [] i315_518 rfl ?_
          refine X.ldc2 521 i315_518 rfl rfl (by decide) ?_
          refine X.retl i315_521 rfl t315 ?_
          exact hQ (-10000000000) (by first | trivial | omega) 
        by_cases h583 : a1 = 39
        · refine X.tsIn 518 39 i315_110 rfl (by omega) rfl rfl ?_
          refine X.cut [] i315_518 rfl ?_
          refine X.ldc2 521 i315_518 rfl rfl (by decide) ?_
          refine X.retl i315_521 rfl t315 ?_
          exact hQ (-10000000000) (by first | trivial | omega) 
        exfalso
        omega
      · have h568c : a1 ≥ 40 := by omega
        clear h568 hz567
        refine X.lload_n 7 i204_6 rfl rfl rfl ?_
        refine X.lload 9 i204_7 rfl rfl rfl ?_
        refine X.lcmp 10 i204_9 rfl rfl (fun z584 hz584 => ?_)
        refine X.ifgt 17 13 i204_10 rfl rfl rfl (fun h585 => ?_) (fun h585 => ?_)
        · have h585c : a1 > 43 := by omega
          clear h585 hz584
          refine X.cut [] i204_17 rfl ?_
          refine X.iconst 18 i204_17 rfl rfl (by decide) ?_
          refine X.retz i204_18 rfl t204 (by omega) ?_
          show X (EE s) d 315 38 [(0, zr 4 44), (1, zi a1)] [zi 0] m _
          refine X.ifeq 55 41 i315_38 rfl rfl rfl (fun h586 => ?_) (fun h586 => (by exfalso; omega))
          refine X.iload_n 56 i315_55 rfl rfl rfl ?_
          refine X.i2l 57 i315_56 rfl rfl ?_
          refine X.ldc2 60 i315_57 rfl rfl (by decide) ?_
          refine X.ldc2 63 i315_60 rfl rfl (by decide) ?_
          refine X.calls 66 [zl a1, zl 20, zl 25] [] [(0, zl a1), (2, zl 20), (4, zl 25)] i315_63 (by decide) rfl rfl (by omega) rfl rfl t204 (Nat.le_of_ble_eq_true rfl) (Nat.le_of_ble_eq_true rfl) rfl ?_
          refine X.lload_n 1 i204_0 rfl rfl rfl ?_
          refine X.lload_n 2 i204_1 rfl rfl rfl ?_
          refine X.lcmp 3 i204_2 rfl rfl (fun z587 hz587 => ?_)
          refine X.iflt 17 6 i204_3 rfl rfl rfl (fun h588 => (by exfalso; omega)) (fun h588 => ?_)
          have h588c : a1 ≥ 20 := by omega
          clear h588 hz587
          refine X.lload_n 7 i204_6 rfl rfl rfl ?_
          refine X.lload 9 i204_7 rfl rfl rfl ?_
          refine X.lcmp 10 i204_9 rfl rfl (fun z589 hz589 => ?_)
          refine X.ifgt 17 13 i204_10 rfl rfl rfl (fun h590 => ?_) (fun h590 => (by exfalso; omega))
          have h590c : a1 > 25 := by omega
          clear h590 hz589
          refine X.cut [] i204_17 rfl ?_
          refine X.iconst 18 i204_17 rfl rfl (by decide) ?_
          refine X.retz i204_18 rfl t204 (by omega) ?_
          show X (EE s) d 315 66 [(0, zr 4 44), (1, zi a1)] [zi 0] m _
          refine X.ifeq 81 69 i315_66 rfl rfl rfl (fun h591 => ?_) (fun h591 => (by exfalso; omega))
          refine X.iload_n 82 i315_81 rfl rfl rfl ?_
          refine X.i2l 83 i315_82 rfl rfl ?_
          refine X.ldc2 86 i315_83 rfl rfl (by decide) ?_
          refine X.ldc2 89 i315_86 rfl rfl (by decide) ?_
          refine X.calls 92 [zl a1, zl 50, zl 52] [] [(0, zl a1), (2, zl 50), (4, zl 52)] i315_89 (by decide) rfl rfl (by omega) rfl rfl t204 (Nat.le_of_ble_eq_true rfl) (Nat.le_of_ble_eq_true rfl) rfl ?_
          refine X.lload_n 1 i204_0 rfl rfl rfl ?_
          refine X.lload_n 2 i204_1 rfl rfl rfl ?_
          refine X.lcmp 3 i204_2 rfl rfl (fun z592 hz592 => ?_)
          refine X.iflt 17 6 i204_3 rfl rfl rfl (fun h593 => ?_) (fun h593 => ?_)
          · have h593c : a1 < 50 := by omega
            clear h593 hz592
            refine X.cut [] i204_17 rfl ?_
            refine X.iconst 18 i204_17 rfl rfl (by decide) ?_
            refine X.retz i204_18 rfl t204 (by omega) ?_
            show X (EE s) d 315 92 [(0, zr 4 44), (1, zi a1)] [zi 0] m _
            refine X.ifeq 109 95 i315_92 rfl rfl rfl (fun h594 => ?_) (fun h594 => (by exfalso; omega))
            refine X.iload_n 110 i315_109 rfl rfl rfl ?_
            by_cases h595 : a1 = 44
            · refine X.tsIn 518 44 i315_110 rfl (by omega) rfl rfl ?_
              refine X.cut [] i315_518 rfl ?_
              refine X.ldc2 521 i315_518 rfl rfl (by decide) ?_
              refine X.retl i315_521 rfl t315 ?_
              exact hQ (-10000000000) (by first | trivial | omega) 
            by_cases h596 : a1 = 45
            · refine X.tsIn 518 45 i315_110 rfl (by omega) rfl rfl ?_
              refine X.cut [] i315_518 rfl ?_
              refine X.ldc2 521 i315_518 rfl rfl (by decide) ?_
              refine X.retl i315_521 rfl t315 ?_
              exact hQ (-10000000000) (by first | trivial | omega) 
            by_cases h597 : a1 = 46
            · refine X.tsIn 518 46 i315_110 rfl (by omega) rfl rfl ?_
              refine X.cut [] i315_518 rfl ?_
              refine X.ldc2 521 i315_518 rfl rfl (by decide) ?_
              refine X.retl i315_521 rfl t315 ?_
              exact hQ (-10000000000) (by first | trivial | omega) 
            by_cases h598 : a1 = 47
            · refine X.tsIn 518 47 i315_110 rfl (by omega) rfl rfl ?_
              refine X.cut [] i315_518 rfl ?_
              refine X.ldc2 521 i315_518 rfl rfl (by decide) ?_
              refine X.retl i315_521 rfl t315 ?_
              exact hQ (-10000000000) (by first | trivial | omega) 
            by_cases h599 : a1 = 48
            · refine X.tsIn 518 48 i315_110 rfl (by omega) rfl rfl ?_
              refine X.cut [] i315_518 rfl ?_
              refine X.ldc2 521 i315_518 rfl rfl (by decide) ?_
              refine X.retl i315_521 rfl t315 ?_
              exact hQ (-10000000000) (by first | trivial | omega) 
            by_cases h600 : a1 = 49
            · refine X.tsIn 518 49 i315_110 rfl (by omega) rfl rfl ?_
              refine X.cut [] i315_518 rfl ?_
              refine X.ldc2 521 i315_518 rfl rfl (by decide) ?_
              refine X.retl i315_521 rfl t315 ?_
              exact hQ (-10000000000) (by first | trivial | omega) 
            exfalso
            omega
          · have h593c : a1 ≥ 50 := by omega
            clear h593 hz592
            refine X.lload_n 7 i204_6 rfl rfl rfl ?_
            refine X.lload 9 i204_7 rfl rfl rfl ?_
            refine X.lcmp 10 i204_9 rfl rfl (fun z601 hz601 => ?_)
            refine X.ifgt 17 13 i204_10 rfl rfl rfl (fun h602 => ?_) (fun h602 => ?_)
            · have h602c : a1 > 52 := by omega
              clear h602 hz601
              refine X.cut [] i204_17 rfl ?_
              refine X.iconst 18 i204_17 rfl rfl (by decide) ?_
              refine X.retz i204_18 rfl t204 (by omega) ?_
              show X (EE s) d 315 92 [(0, zr 4 44), (1, zi a1)] [zi 0] m _
              refine X.ifeq 109 95 i315_92 rfl rfl rfl (fun h603 => ?_) (fun h603 => (by exfalso; omega))
              refine X.iload_n 110 i315_109 rfl rfl rfl ?_
              by_cases h604 : a1 = 53
              · refine X.tsIn 480 53 i315_110 rfl (by omega) rfl rfl ?_
                refine X.cut [(0, zr 4 44)] i315_480 rfl ?_
                refine X.aload_n 481 i315_480 rfl rfl rfl ?_
                refine X.getF 484 i315_481 rfl rfl (by decide) rfl rfl ?_
                refine X.sipush 487 i315_484 rfl rfl (by decide) ?_
                refine X.lald 488 i315_487 rfl rfl (by decide) rfl (by omega) ?_
                have h605 := r45_1614 hJ 4
                refine X.retl i315_488 rfl t315 ?_
                exact hQ (m 4 45 1614) (by first | trivial | omega) 
              by_cases h606 : a1 = 54
              · refine X.tsIn 489 54 i315_110 rfl (by omega) rfl rfl ?_
                refine X.cut [(0, zr 4 44)] i315_489 rfl ?_
                refine X.aload_n 490 i315_489 rfl rfl rfl ?_
                refine X.getF 493 i315_490 rfl rfl (by decide) rfl rfl ?_
                refine X.sipush 496 i315_493 rfl rfl (by decide) ?_
                refine X.lald 497 i315_496 rfl rfl (by decide) rfl (by omega) ?_
                have h607 := r45_1616 hJ 4
                refine X.retl i315_497 rfl t315 ?_
                exact hQ (m 4 45 1616) (by first | trivial | omega) 
              by_cases h608 : a1 = 55
              · refine X.tsIn 498 55 i315_110 rfl (by omega) rfl rfl ?_
                refine X.cut [(0, zr 4 44)] i315_498 rfl ?_
                refine X.aload_n 499 i315_498 rfl rfl rfl ?_
                refine X.callv 502 [] [] [(0, zr 4 44)] i315_499 rfl (by decide) rfl rfl (by omega) rfl rfl (by decide) rfl t278 (Nat.le_of_ble_eq_true rfl) (Nat.le_of_ble_eq_true rfl) rfl ?_
                refine X.aload_n 1 i278_0 rfl rfl rfl ?_
                refine X.getF 4 i278_1 rfl rfl (by decide) rfl rfl ?_
                refine X.sipush 7 i278_4 rfl rfl (by decide) ?_
                refine X.lald 8 i278_7 rfl rfl (by decide) rfl (by omega) ?_
                have h609 := r45_1617 hJ 4
                refine X.aload_n 9 i278_8 rfl rfl rfl ?_
                refine X.getF 12 i278_9 rfl rfl (by decide) rfl rfl ?_
                refine X.iconst 13 i278_12 rfl rfl (by decide) ?_
                refine X.lald 14 i278_13 rfl rfl (by decide) rfl (by omega) ?_
                have h610 := r45_0 hJ 4
                refine X.lcmp 15 i278_14 rfl rfl (fun z611 hz611 => ?_)
                refine X.ifle 36 18 i278_15 rfl rfl rfl (fun h612 => ?_) (fun h612 => ?_)
                · have h612c : (m 4 45 1617) ≤ (m 4 45 0) := by omega
                  clear h612 hz611
                  refine X.cut [] i278_36 rfl ?_
                  refine X.lconst (y := 0) 37 i278_36 rfl rfl rfl ?_
                  refine X.retl i278_37 rfl t278 ?_
                  show X (EE s) d 315 502 [(0, zr 4 44)] [zl 0] m _
                  refine X.retl i315_502 rfl t315 ?_
                  exact hQ 0 (by first | trivial | omega) 
                · have h612c : (m 4 45 1617) > (m 4 45 0) := by omega
                  clear h612 hz611
                  refine X.aload_n 19 i278_18 rfl rfl rfl ?_
                  refine X.getF 22 i278_19 rfl rfl (by decide) rfl rfl ?_
                  refine X.sipush 25 i278_22 rfl rfl (by decide) ?_
                  refine X.lald 26 i278_25 rfl rfl (by decide) rfl (by omega) ?_
                  refine X.aload_n 27 i278_26 rfl rfl rfl ?_
                  refine X.getF 30 i278_27 rfl rfl (by decide) rfl rfl ?_
                  refine X.iconst 31 i278_30 rfl rfl (by decide) ?_
                  refine X.lald 32 i278_31 rfl rfl (by decide) rfl (by omega) ?_
                  refine X.lsub 33 i278_32 rfl rfl (by omega) ?_
                  refine X.goto 37 i278_33 rfl rfl ?_
                  refine X.cut [] i278_37 rfl ?_
                  refine X.retl i278_37 rfl t278 ?_
                  show X (EE s) d 315 502 [(0, zr 4 44)] [zl ((m 4 45 1617) - (m 4 45 0))] m _
                  refine X.retl i315_502 rfl t315 ?_
                  exact hQ ((m 4 45 1617) - (m 4 45 0)) (by first | trivial | omega) 
              by_cases h613 : a1 = 56
              · refine X.tsIn 503 56 i315_110 rfl (by omega) rfl rfl ?_
                refine X.cut [(0, zr 4 44)] i315_503 rfl ?_
                refine X.aload_n 504 i315_503 rfl rfl rfl ?_
                refine X.getF 507 i315_504 rfl rfl (by decide) rfl rfl ?_
                refine X.sipush 510 i315_507 rfl rfl (by decide) ?_
                refine X.lald 511 i315_510 rfl rfl (by decide) rfl (by omega) ?_
                refine X.retl i315_511 rfl t315 ?_
                exact hQ (m 4 45 1618) (by first | trivial | omega) 
              by_cases h614 : a1 = 57
              · refine X.tsIn 512 57 i315_110 rfl (by omega) rfl rfl ?_
                refine X.cut [(0, zr 4 44)] i315_512 rfl ?_
                refine X.aload_n 513 i315_512 rfl rfl rfl ?_
                refine X.getI 516 5 i315_513 rfl rfl (by decide) rfl rfl rfl ?_
                have h615 := r44_5 hJ 4
                refine X.i2l 517 i315_516 rfl rfl ?_
                refine X.retl i315_517 rfl t315 ?_
                exact hQ (m 4 44 5) (by first | trivial | omega) 
              refine X.tsOut 518 i315_110 rfl (by omega) rfl ?_
              refine X.cut [] i315_518 rfl ?_
              refine X.ldc2 521 i315_518 rfl rfl (by decide) ?_
              refine X.retl i315_521 rfl t315 ?_
              exact hQ (-10000000000) (by first | trivial | omega) 
            · have h602c : a1 ≤ 52 := by omega
              clear h602 hz601
              refine X.iconst 14 i204_13 rfl rfl (by decide) ?_
              refine X.goto 18 i204_14 rfl rfl ?_
              refine X.cut [] i204_18 rfl ?_
              refine X.retz i204_18 rfl t204 (by omega) ?_
              show X (EE s) d 315 92 [(0, zr 4 44), (1, zi a1)] [zi 1] m _
              refine X.ifeq 109 95 i315_92 rfl rfl rfl (fun h616 => (by exfalso; omega)) (fun h616 => ?_)
              refine X.aload_n 96 i315_95 rfl rfl rfl ?_
              refine X.getF 99 i315_96 rfl rfl (by decide) rfl rfl ?_
              refine X.sipush 102 i315_99 rfl rfl (by decide) ?_
              refine X.iload_n 103 i315_102 rfl rfl rfl ?_
              refine X.iadd 104 i315_103 rfl rfl (by omega) ?_
              refine X.bipush 106 i315_104 rfl rfl (by decide) ?_
              refine X.isub 107 i315_106 rfl rfl (by omega) ?_
              refine X.lald 108 i315_107 rfl rfl (by decide) rfl (by omega) ?_
              refine X.retl i315_108 rfl t315 ?_
              exact hQ (m 4 45 ((1611 + a1) - 50)) (by first | trivial | omega) 
        · have h585c : a1 ≤ 43 := by omega
          clear h585 hz584
          refine X.iconst 14 i204_13 rfl rfl (by decide) ?_
          refine X.goto 18 i204_14 rfl rfl ?_
          refine X.cut [] i204_18 rfl ?_
          refine X.retz i204_18 rfl t204 (by omega) ?_
          show X (EE s) d 315 38 [(0, zr 4 44), (1, zi a1)] [zi 1] m _
          refine X.ifeq 55 41 i315_38 rfl rfl rfl (fun h617 => (by exfalso; omega)) (fun h617 => ?_)
          refine X.aload_n 42 i315_41 rfl rfl rfl ?_
          refine X.getF 45 i315_42 rfl rfl (by decide) rfl rfl ?_
          refine X.sipush 48 i315_45 rfl rfl (by decide) ?_
          refine X.iload_n 49 i315_48 rfl rfl rfl ?_
          refine X.iadd 50 i315_49 rfl rfl (by omega) ?_
          refine X.bipush 52 i315_50 rfl rfl (by decide) ?_
          refine X.isub 53 i315_52 rfl rfl (by omega) ?_
          refine X.lald 54 i315_53 rfl rfl (by decide) rfl (by omega) ?_
          have h618 := r45_391 hJ 4 (i := ((391 + a1) - 40)) (by omega)
          refine X.retl i315_54 rfl t315 ?_
          exact hQ (m 4 45 ((391 + a1) - 40)) (by first | trivial | omega) 
    · have h565c : a1 ≤ 33 := by omega
      clear h565 hz564
      refine X.iconst 14 i204_13 rfl rfl (by decide) ?_
      refine X.goto 18 i204_14 rfl rfl ?_
      refine X.cut [] i204_18 rfl ?_
      refine X.retz i204_18 rfl t204 (by omega) ?_
      show X (EE s) d 315 11 [(0, zr 4 44), (1, zi a1)] [zi 1] m _
      refine X.ifeq 27 14 i315_11 rfl rfl rfl (fun h619 => (by exfalso; omega)) (fun h619 => ?_)
      refine X.aload_n 15 i315_14 rfl rfl rfl ?_
      refine X.getF 18 i315_15 rfl rfl (by decide) rfl rfl ?_
      refine X.bipush 20 i315_18 rfl rfl (by decide) ?_
      refine X.iload_n 21 i315_20 rfl rfl rfl ?_
      refine X.iadd 22 i315_21 rfl rfl (by omega) ?_
      refine X.bipush 24 i315_22 rfl rfl (by decide) ?_
      refine X.isub 25 i315_24 rfl rfl (by omega) ?_
      refine X.lald 26 i315_25 rfl rfl (by decide) rfl (by omega) ?_
      refine X.retl i315_26 rfl t315 ?_
      exact hQ (m 4 45 ((28 + a1) - 30)) (by first | trivial | omega) 
