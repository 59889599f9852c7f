-- WorkMeter$Meter.meterStretch
theorem c26_1 {s : Nat × (Nat → Int32)} {m0 m : zM} {B : Int} {d : Nat} {Q : Option zV → zM → Prop} (g0 : Nat) (a1 : Int) (hd : 17 ≤ d) (hJ : J m0 B m) (hB : B + 8 ≤ 1000000000) (ha1 : 1 ≤ a1 ∧ a1 ≤ 1) (hp0 : 1 ≤ a1) (hQ : ∀ (v : Int) m', ((-1999999999) ≤ v ∧ v ≤ 1) → J m0 (B + 8) m' → (1 ≤ v) → (v ≤ a1) → Q (some (zi v)) m') : X (EE s) d 26 0 [(0, zr g0 8), (1, zi a1)] [] m Q := by
  refine X.aload_n 1 i26_0 rfl rfl rfl ?_
  refine X.getR 4 i26_1 rfl rfl (by decide) rfl rfl ?_
  refine X.aload_n 5 i26_4 rfl rfl rfl ?_
  refine X.getI 8 9 i26_5 rfl rfl (by decide) rfl rfl rfl ?_
  have h501 := r8_9 hJ g0
  refine X.callv 11 [zi (m g0 8 9)] [] [(0, zr g0 11), (1, zi (m g0 8 9))] i26_8 rfl (by decide) rfl rfl (by omega) rfl rfl (by decide) rfl t27 (Nat.le_of_ble_eq_true rfl) (Nat.le_of_ble_eq_true rfl) rfl ?_
  refine X.aload_n 1 i27_0 rfl rfl rfl ?_
  refine X.aload_n 2 i27_1 rfl rfl rfl ?_
  refine X.iload_n 3 i27_2 rfl rfl rfl ?_
  refine X.ldc 5 i27_3 rfl rfl (by decide) ?_
  refine X.idiv 6 i27_5 rfl rfl (by omega) ?_
  refine X.callv 9 [zi ((m g0 8 9) / 86400)] [zr g0 11] [(0, zr g0 11), (1, zi ((m g0 8 9) / 86400))] i27_6 rfl (by decide) rfl rfl (by omega) rfl rfl (by decide) rfl t28 (Nat.le_of_ble_eq_true rfl) (Nat.le_of_ble_eq_true rfl) rfl ?_
  refine c28_1 (B := B) g0 ((m g0 8 9) / 86400) (by omega) (hJ.up (by omega)) (by omega) (by omega) (fun v504 hv504 => ?_)
  show X (EE s) (d - 1) 27 9 [(0, zr g0 11), (1, zi (m g0 8 9))] [zi v504, zr g0 11] m _
  refine X.iload_n 10 i27_9 rfl rfl rfl ?_
  refine X.ldc 12 i27_10 rfl rfl (by decide) ?_
  refine X.irem 13 i27_12 rfl rfl (by omega) ?_
  refine X.callv 16 [zi v504, zi ((m g0 8 9) % 86400)] [] [(0, zr g0 11), (1, zi v504), (2, zi ((m g0 8 9) % 86400))] i27_13 rfl (by decide) rfl rfl (by omega) rfl rfl (by decide) rfl t31 (Nat.le_of_ble_eq_true rfl) (Nat.le_of_ble_eq_true rfl) rfl ?_
  refine c31_1 (B := B) g0 v504 ((m g0 8 9) % 86400) (by omega) (hJ.up (by omega)) (by omega) (by omega) (by omega) (fun v507 hv507 => ?_)
  show X (EE s) (d - 1) 27 16 [(0, zr g0 11), (1, zi (m g0 8 9))] [zi v507] m _
  refine X.reti i27_16 rfl t27 ?_
  show X (EE s) d 26 11 [(0, zr g0 8), (1, zi a1)] [zi v507] m _
  refine X.istore_n 12 [(0, zr g0 8), (1, zi a1), (2, zi v507)] i26_11 rfl rfl rfl ?_
  refine X.aload_n 13 i26_12 rfl rfl rfl ?_
  refine X.getR 16 i26_13 rfl rfl (by decide) rfl rfl ?_
  refine X.aload_n 17 i26_16 rfl rfl rfl ?_
  refine X.getR 20 i26_17 rfl rfl (by decide) rfl rfl ?_
  refine X.callv 23 [] [zr g0 19] [(0, zr g0 9)] i26_20 rfl (by decide) rfl rfl (by omega) rfl rfl (by decide) rfl t33 (Nat.le_of_ble_eq_true rfl) (Nat.le_of_ble_eq_true rfl) rfl ?_
  refine X.aload_n 1 i33_0 rfl rfl rfl ?_
  refine X.getR 4 i33_1 rfl rfl (by decide) rfl rfl ?_
  refine X.iconst 5 i33_4 rfl rfl (by decide) ?_
  refine X.iald 6 i33_5 rfl rfl (by decide) rfl (by omega) ?_
  have h508 := r10_0 hJ g0 (i := 2) (by omega)
  refine X.reti i33_6 rfl t33 ?_
  show X (EE s) d 26 23 [(0, zr g0 8), (1, zi a1), (2, zi v507)] [zi (m g0 10 2), zr g0 19] m _
  refine X.callv 26 [zi (m g0 10 2)] [] [(0, zr g0 19), (1, zi (m g0 10 2))] i26_23 rfl (by decide) rfl rfl (by omega) rfl rfl (by decide) rfl t34 (Nat.le_of_ble_eq_true rfl) (Nat.le_of_ble_eq_true rfl) rfl ?_
  refine c34_1 (B := B) g0 (m g0 10 2) (by omega) (hJ.up (by omega)) (by omega) (by omega) (fun v511 hv511 => ?_)
  show X (EE s) d 26 26 [(0, zr g0 8), (1, zi a1), (2, zi v507)] [zi v511] m _
  refine X.istore_n 27 [(0, zr g0 8), (1, zi a1), (2, zi v507), (3, zi v511)] i26_26 rfl rfl rfl ?_
  refine X.aload_n 28 i26_27 rfl rfl rfl ?_
  refine X.iload_n 29 i26_28 rfl rfl rfl ?_
  refine X.iload_n 30 i26_29 rfl rfl rfl ?_
  refine X.iload_n 31 i26_30 rfl rfl rfl ?_
  refine X.callv 34 [zi a1, zi v507, zi v511] [] [(0, zr g0 8), (1, zi a1), (2, zi v507), (3, zi v511)] i26_31 rfl (by decide) rfl rfl (by omega) rfl rfl (by decide) rfl t35 (Nat.le_of_ble_eq_true rfl) (Nat.le_of_ble_eq_true rfl) rfl ?_
  refine c35_1 (B := B) g0 a1 v507 v511 (by omega) (hJ.up (by omega)) (by omega) (by omega) (by omega) (by omega) (by omega) (fun v514 hv514 hqv5140 hqv5141 hqv5142 => ?_)
  show X (EE s) d 26 34 [(0, zr g0 8), (1, zi a1), (2, zi v507), (3, zi v511)] [zi v514] m _
  refine X.istore 36 [(0, zr g0 8), (1, zi a1), (2, zi v507), (3, zi v511), (4, zi v514)] i26_34 rfl rfl rfl ?_
  refine X.aload_n 37 i26_36 rfl rfl rfl ?_
  refine X.iload 39 i26_37 rfl rfl rfl ?_
  refine X.iload_n 40 i26_39 rfl rfl rfl ?_
  refine X.callv 43 [zi v514, zi v507] [] [(0, zr g0 8), (1, zi v514), (2, zi v507)] i26_40 rfl (by decide) rfl rfl (by omega) rfl rfl (by decide) rfl t49 (Nat.le_of_ble_eq_true rfl) (Nat.le_of_ble_eq_true rfl) rfl ?_
  refine c49_1 (B := B) g0 v514 v507 (by omega) (hJ.up (by omega)) (by omega) (by omega) (by omega) (fun m515 hJ516 km515 => ?_)
  have kkm5150 := km515 0
  have kkm515g0 := km515 g0
  show X (EE s) d 26 43 [(0, zr g0 8), (1, zi a1), (2, zi v507), (3, zi v511), (4, zi v514)] [] m515 _
  refine X.aload_n 44 i26_43 rfl rfl rfl ?_
  refine X.dup 45 i26_44 rfl rfl rfl ?_
  refine X.getIr 48 13 i26_45 rfl rfl (by decide) rfl rfl rfl (fun h518 => ?_)
  refine X.iload 50 i26_48 rfl rfl rfl ?_
  refine X.iiF 51 .iadd (fun x y => x + y) i26_50 rfl rfl rfl (fun _ _ => rfl) (fun z519 hz519 => ?_)
  refine X.putI' 54 13 i26_51 rfl rfl (by decide) rfl rfl rfl (fun hrm520 m520 hm520 => ?_)
  have hJ521 := w8_13 hJ516 hm520 (by omega) hrm520
  have kum520 : m520 g0 8 9 = m515 g0 8 9 := by rw [hm520]; exact z_upd_o _ _ rfl
  refine X.aload_n 55 i26_54 rfl rfl rfl ?_
  refine X.dup 56 i26_55 rfl rfl rfl ?_
  refine X.getI 59 9 i26_56 rfl rfl (by decide) rfl rfl rfl ?_
  have h522 := r8_9 hJ521 g0
  refine X.iload 61 i26_59 rfl rfl rfl ?_
  refine X.iconst 62 i26_61 rfl rfl (by decide) ?_
  refine X.isub 63 i26_62 rfl rfl (by omega) ?_
  refine X.iadd 64 i26_63 rfl rfl (by omega) ?_
  refine X.putI' 67 9 i26_64 rfl rfl (by decide) rfl rfl rfl (fun hrm523 m523 hm523 => ?_)
  have hJ524 := w8_9 hJ521 hm523 (by omega)
  have em523 : m523 g0 8 9 = ((m520 g0 8 9) + (v514 - 1)) := by rw [hm523]; exact z_upd_same _ _ _ _ _
  refine X.aload_n 68 i26_67 rfl rfl rfl ?_
  refine X.callv 71 [] [] [(0, zr g0 8)] i26_68 rfl (by decide) rfl rfl (by omega) rfl rfl (by decide) rfl t53 (Nat.le_of_ble_eq_true rfl) (Nat.le_of_ble_eq_true rfl) rfl ?_
  refine X.aload_n 1 i53_0 rfl rfl rfl ?_
  refine X.getZ 4 11 i53_1 rfl rfl (by decide) rfl rfl rfl (fun h525 => ?_)
  refine X.ifeq 20 7 i53_4 rfl rfl rfl (fun h526 => ?_) (fun h526 => ?_)
  · refine X.iconst 21 i53_20 rfl rfl (by decide) ?_
    refine X.istore_n 22 [(0, zr g0 8), (1, zi 0)] i53_21 rfl rfl rfl ?_
    refine X.iload_n 23 i53_22 rfl rfl rfl ?_
    refine X.aload_n 24 i53_23 rfl rfl rfl ?_
    refine X.getZ 27 12 i53_24 rfl rfl (by decide) rfl rfl rfl (fun h527 => ?_)
    refine X.icmpeq 54 30 i53_27 rfl rfl rfl (fun h528 => ?_) (fun h528 => ?_)
    · refine X.cut [] i53_54 rfl ?_
      refine X.retv i53_54 rfl t53 ?_
      show X (EE s) d 26 71 [(0, zr g0 8), (1, zi a1), (2, zi v507), (3, zi v511), (4, zi v514)] [] m523 _
      refine X.aload_n 72 i26_71 rfl rfl rfl ?_
      refine X.getR 75 i26_72 rfl rfl (by decide) rfl rfl ?_
      refine X.iload 77 i26_75 rfl rfl rfl ?_
      refine X.iload_n 78 i26_77 rfl rfl rfl ?_
      refine X.aload_n 79 i26_78 rfl rfl rfl ?_
      refine X.getR 82 i26_79 rfl rfl (by decide) rfl rfl ?_
      refine X.callv 85 [] [zi v511, zi v514, zr g0 33] [(0, zr g0 9)] i26_82 rfl (by decide) rfl rfl (by omega) rfl rfl (by decide) rfl t38 (Nat.le_of_ble_eq_true rfl) (Nat.le_of_ble_eq_true rfl) rfl ?_
      refine X.aload_n 1 i38_0 rfl rfl rfl ?_
      refine X.getR 4 i38_1 rfl rfl (by decide) rfl rfl ?_
      refine X.iconst 5 i38_4 rfl rfl (by decide) ?_
      refine X.iald 6 i38_5 rfl rfl (by decide) rfl (by omega) ?_
      have h529 := r10_0 hJ524 g0 (i := 3) (by omega)
      refine X.reti i38_6 rfl t38 ?_
      show X (EE s) d 26 85 [(0, zr g0 8), (1, zi a1), (2, zi v507), (3, zi v511), (4, zi v514)] [zi (m523 g0 10 3), zi v511, zi v514, zr g0 33] m523 _
      refine X.aload_n 86 i26_85 rfl rfl rfl ?_
      refine X.getR 89 i26_86 rfl rfl (by decide) rfl rfl ?_
      refine X.aload_n 90 i26_89 rfl rfl rfl ?_
      refine X.getI 93 9 i26_90 rfl rfl (by decide) rfl rfl rfl ?_
      refine X.callv 96 [zi v514, zi v511, zi (m523 g0 10 3), zr g0 37, zi (m523 g0 8 9)] [] [(0, zr g0 33), (1, zi v514), (2, zi v511), (3, zi (m523 g0 10 3)), (4, zr g0 37), (5, zi (m523 g0 8 9))] i26_93 rfl (by decide) rfl rfl (by omega) rfl rfl (by decide) rfl t56 (Nat.le_of_ble_eq_true rfl) (Nat.le_of_ble_eq_true rfl) rfl ?_
      refine c56_1 (B := B) g0 g0 v514 v511 (m523 g0 10 3) (m523 g0 8 9) (by omega) (hJ524.up (by omega)) (by omega) (by omega) (by omega) (by omega) (by omega) (fun m530 hJ531 km530 => ?_)
      have kkm5300 := km530 0
      have kkm530g0 := km530 g0
      show X (EE s) d 26 96 [(0, zr g0 8), (1, zi a1), (2, zi v507), (3, zi v511), (4, zi v514)] [] m530 _
      refine X.aload_n 97 i26_96 rfl rfl rfl ?_
      refine X.getR 100 i26_97 rfl rfl (by decide) rfl rfl ?_
      refine X.iload 102 i26_100 rfl rfl rfl ?_
      refine X.aload_n 103 i26_102 rfl rfl rfl ?_
      refine X.getR 106 i26_103 rfl rfl (by decide) rfl rfl ?_
      refine X.getIr 109 3 i26_106 rfl rfl (by decide) rfl rfl rfl (fun h533 => ?_)
      refine X.callv 112 [zi v514, zi (m530 g0 33 3)] [] [(0, zr g0 27), (1, zi v514), (2, zi (m530 g0 33 3))] i26_109 rfl (by decide) rfl rfl (by omega) rfl rfl (by decide) rfl t58 (Nat.le_of_ble_eq_true rfl) (Nat.le_of_ble_eq_true rfl) rfl ?_
      refine X.aload_n 1 i58_0 rfl rfl rfl ?_
      refine X.dup 2 i58_1 rfl rfl rfl ?_
      refine X.getIr 5 6 i58_2 rfl rfl (by decide) rfl rfl rfl (fun h534 => ?_)
      refine X.iload_n 6 i58_5 rfl rfl rfl ?_
      refine X.iiF 7 .iadd (fun x y => x + y) i58_6 rfl rfl rfl (fun _ _ => rfl) (fun z535 hz535 => ?_)
      refine X.putI' 10 6 i58_7 rfl rfl (by decide) rfl rfl rfl (fun hrm536 m536 hm536 => ?_)
      have hJ537 := w27_3 hJ531 hm536 (by omega) hrm536
      have kum536 : m536 g0 8 9 = m530 g0 8 9 := by rw [hm536]; exact z_upd_o _ _ rfl
      refine X.aload_n 11 i58_10 rfl rfl rfl ?_
      refine X.dup 12 i58_11 rfl rfl rfl ?_
      refine X.getIr 15 8 i58_12 rfl rfl (by decide) rfl rfl rfl (fun h538 => ?_)
      refine X.iload_n 16 i58_15 rfl rfl rfl ?_
      refine X.iiF 17 .ior (fun x y => x ||| y) i58_16 rfl rfl rfl (fun _ _ => rfl) (fun z539 hz539 => ?_)
      refine X.putI' 20 8 i58_17 rfl rfl (by decide) rfl rfl rfl (fun hrm540 m540 hm540 => ?_)
      have hJ541 := w27_3 hJ537 hm540 (by omega) hrm540
      have kum540 : m540 g0 8 9 = m536 g0 8 9 := by rw [hm540]; exact z_upd_o _ _ rfl
      refine X.retv i58_20 rfl t58 ?_
      show X (EE s) d 26 112 [(0, zr g0 8), (1, zi a1), (2, zi v507), (3, zi v511), (4, zi v514)] [] m540 _
      refine X.aload_n 113 i26_112 rfl rfl rfl ?_
      refine X.getI 116 9 i26_113 rfl rfl (by decide) rfl rfl rfl ?_
      have h542 := r8_9 hJ541 g0
      refine X.ldc 118 i26_116 rfl rfl (by decide) ?_
      refine X.icmpge 131 121 i26_118 rfl rfl rfl (fun h543 => ?_) (fun h543 => ?_)
      · refine X.cut [(0, zr g0 8), (2, zi v507), (4, zi v514)] i26_131 rfl ?_
        refine X.aload_n 132 i26_131 rfl rfl rfl ?_
        refine X.iload_n 133 i26_132 rfl rfl rfl ?_
        refine X.callv 136 [zi v507] [] [(0, zr g0 8), (1, zi v507)] i26_133 rfl (by decide) rfl rfl (by omega) rfl rfl (by decide) rfl t59 (Nat.le_of_ble_eq_true rfl) (Nat.le_of_ble_eq_true rfl) rfl ?_
        refine c59_1 (B := B + 6) g0 v507 (by omega) (hJ541.up (by omega)) (by omega) (by omega) (fun m544 hJ545 km544 => ?_)
        have kkm5440 := km544 0
        have kkm544g0 := km544 g0
        show X (EE s) d 26 136 [(0, zr g0 8), (2, zi v507), (4, zi v514)] [] m544 _
        refine X.iload 138 i26_136 rfl rfl rfl ?_
        refine X.reti i26_138 rfl t26 ?_
        exact hQ v514 m544 (by first | trivial | omega) (hJ545.up (by omega))  (by omega) (by omega)
      · refine X.aload_n 122 i26_121 rfl rfl rfl ?_
        refine X.dup 123 i26_122 rfl rfl rfl ?_
        refine X.getI 126 9 i26_123 rfl rfl (by decide) rfl rfl rfl ?_
        refine X.iconst 127 i26_126 rfl rfl (by decide) ?_
        refine X.iadd 128 i26_127 rfl rfl (by omega) ?_
        refine X.putI' 131 9 i26_128 rfl rfl (by decide) rfl rfl rfl (fun hrm547 m547 hm547 => ?_)
        have hJ548 := w8_9 hJ541 hm547 (by omega)
        have em547 : m547 g0 8 9 = ((m540 g0 8 9) + 1) := by rw [hm547]; exact z_upd_same _ _ _ _ _
        refine X.cut [(0, zr g0 8), (2, zi v507), (4, zi v514)] i26_131 rfl ?_
        refine X.aload_n 132 i26_131 rfl rfl rfl ?_
        refine X.iload_n 133 i26_132 rfl rfl rfl ?_
        refine X.callv 136 [zi v507] [] [(0, zr g0 8), (1, zi v507)] i26_133 rfl (by decide) rfl rfl (by omega) rfl rfl (by decide) rfl t59 (Nat.le_of_ble_eq_true rfl) (Nat.le_of_ble_eq_true rfl) rfl ?_
        refine c59_1 (B := B + 6) g0 v507 (by omega) (hJ548.up (by omega)) (by omega) (by omega) (fun m549 hJ550 km549 => ?_)
        have kkm5490 := km549 0
        have kkm549g0 := km549 g0
        show X (EE s) d 26 136 [(0, zr g0 8), (2, zi v507), (4, zi v514)] [] m549 _
        refine X.iload 138 i26_136 rfl rfl rfl ?_
        refine X.reti i26_138 rfl t26 ?_
        exact hQ v514 m549 (by first | trivial | omega) (hJ550.up (by omega))  (by omega) (by omega)
    · refine X.aload_n 31 i53_30 rfl rfl rfl ?_
      refine X.iload_n 32 i53_31 rfl rfl rfl ?_
      refine X.putZ' 35 12 i53_32 rfl rfl (by decide) rfl rfl rfl (by omega) (fun hrm552 m552 hm552 => ?_)
      have hJ553 := w8_12 hJ524 hm552 (by omega)
      have kum552 : m552 g0 8 9 = m523 g0 8 9 := by rw [hm552]; exact z_upd_o _ _ rfl
      refine X.aload_n 36 i53_35 rfl rfl rfl ?_
      refine X.aload_n 37 i53_36 rfl rfl rfl ?_
      refine X.getZ 40 12 i53_37 rfl rfl (by decide) rfl rfl rfl (fun h554 => ?_)
      refine X.ifeq 48 43 i53_40 rfl rfl rfl (fun h555 => ?_) (fun h555 => ?_)
      · refine X.cut [] i53_48 rfl ?_
        refine X.bipush 50 i53_48 rfl rfl (by decide) ?_
        refine X.iconst 51 i53_50 rfl rfl (by decide) ?_
        refine X.callv 54 [zi 23, zi 0] [] [(0, zr g0 8), (1, zi 23), (2, zi 0)] i53_51 rfl (by decide) rfl rfl (by omega) rfl rfl (by decide) rfl t54 (Nat.le_of_ble_eq_true rfl) (Nat.le_of_ble_eq_true rfl) rfl ?_
        refine X.aload_n 1 i54_0 rfl rfl rfl ?_
        refine X.getR 4 i54_1 rfl rfl (by decide) rfl rfl ?_
        refine X.aload_n 5 i54_4 rfl rfl rfl ?_
        refine X.getI 8 9 i54_5 rfl rfl (by decide) rfl rfl rfl ?_
        have h556 := r8_9 hJ553 g0
        refine X.iload_n 9 i54_8 rfl rfl rfl ?_
        refine X.iload_n 10 i54_9 rfl rfl rfl ?_
        refine X.callv 13 [zi (m552 g0 8 9), zi 23, zi 0] [] [(0, zr g0 37), (1, zi (m552 g0 8 9)), (2, zi 23), (3, zi 0)] i54_10 rfl (by decide) rfl rfl (by omega) rfl rfl (by decide) rfl t55 (Nat.le_of_ble_eq_true rfl) (Nat.le_of_ble_eq_true rfl) rfl ?_
        refine X.aload_n 1 i55_0 rfl rfl rfl ?_
        refine X.getI 4 1 i55_1 rfl rfl (by decide) rfl rfl rfl ?_
        have h557 := r37_1 hJ553 g0
        refine X.bipush 6 i55_4 rfl rfl (by decide) ?_
        refine X.irem 7 i55_6 rfl rfl (by omega) ?_
        refine X.iconst 8 i55_7 rfl rfl (by decide) ?_
        refine X.imul 9 i55_8 rfl rfl (by omega) ?_
        refine X.istore 11 [(0, zr g0 37), (1, zi (m552 g0 8 9)), (2, zi 23), (3, zi 0), (4, zi (((m552 g0 37 1) % 40) * 3))] i55_9 rfl rfl rfl ?_
        refine X.aload_n 12 i55_11 rfl rfl rfl ?_
        refine X.getR 15 i55_12 rfl rfl (by decide) rfl rfl ?_
        refine X.iload 17 i55_15 rfl rfl rfl ?_
        refine X.iload_n 18 i55_17 rfl rfl rfl ?_
        refine X.iast' 19 i55_18 rfl rfl (by decide) rfl (by omega) (fun hrm558 m558 hm558 => ?_)
        have hJ559 := w38_0 hJ553 hm558 (by omega) hrm558
        have kum558 : m558 g0 8 9 = m552 g0 8 9 := by rw [hm558]; exact z_upd_o _ _ rfl
        refine X.aload_n 20 i55_19 rfl rfl rfl ?_
        refine X.getR 23 i55_20 rfl rfl (by decide) rfl rfl ?_
        refine X.iload 25 i55_23 rfl rfl rfl ?_
        refine X.iconst 26 i55_25 rfl rfl (by decide) ?_
        refine X.iadd 27 i55_26 rfl rfl (by omega) ?_
        refine X.iload_n 28 i55_27 rfl rfl rfl ?_
        refine X.iast' 29 i55_28 rfl rfl (by decide) rfl (by omega) (fun hrm560 m560 hm560 => ?_)
        have hJ561 := w38_0 hJ559 hm560 (by omega) hrm560
        have kum560 : m560 g0 8 9 = m558 g0 8 9 := by rw [hm560]; exact z_upd_o _ _ rfl
        refine X.aload_n 30 i55_29 rfl rfl rfl ?_
        refine X.getR 33 i55_30 rfl rfl (by decide) rfl rfl ?_
        refine X.iload 35 i55_33 rfl rfl rfl ?_
        refine X.iconst 36 i55_35 rfl rfl (by decide) ?_
        refine X.iadd 37 i55_36 rfl rfl (by omega) ?_
        refine X.iload_n 38 i55_37 rfl rfl rfl ?_
        refine X.iast' 39 i55_38 rfl rfl (by decide) rfl (by omega) (fun hrm562 m562 hm562 => ?_)
        have hJ563 := w38_0 hJ561 hm562 (by omega) hrm562
        have kum562 : m562 g0 8 9 = m560 g0 8 9 := by rw [hm562]; exact z_upd_o _ _ rfl
        refine X.aload_n 40 i55_39 rfl rfl rfl ?_
        refine X.dup 41 i55_40 rfl rfl rfl ?_
        refine X.getI 44 1 i55_41 rfl rfl (by decide) rfl rfl rfl ?_
        have h564 := r37_1 hJ563 g0
        refine X.iconst 45 i55_44 rfl rfl (by decide) ?_
        refine X.iadd 46 i55_45 rfl rfl (by omega) ?_
        refine X.putI' 49 1 i55_46 rfl rfl (by decide) rfl rfl rfl (fun hrm565 m565 hm565 => ?_)
        have hJ566 := w37_1 (hJ563.up (B' := B + 1) (by omega)) hm565 (by omega)
        have kum565 : m565 g0 8 9 = m562 g0 8 9 := by rw [hm565]; exact z_upd_o _ _ rfl
        refine X.retv i55_49 rfl t55 ?_
        show X (EE s) ((d - 1) - 1) 54 13 [(0, zr g0 8), (1, zi 23), (2, zi 0)] [] m565 _
        refine X.retv i54_13 rfl t54 ?_
        show X (EE s) (d - 1) 53 54 [] [] m565 _
        refine X.retv i53_54 rfl t53 ?_
        show X (EE s) d 26 71 [(0, zr g0 8), (1, zi a1), (2, zi v507), (3, zi v511), (4, zi v514)] [] m565 _
        refine X.aload_n 72 i26_71 rfl rfl rfl ?_
        refine X.getR 75 i26_72 rfl rfl (by decide) rfl rfl ?_
        refine X.iload 77 i26_75 rfl rfl rfl ?_
        refine X.iload_n 78 i26_77 rfl rfl rfl ?_
        refine X.aload_n 79 i26_78 rfl rfl rfl ?_
        refine X.getR 82 i26_79 rfl rfl (by decide) rfl rfl ?_
        refine X.callv 85 [] [zi v511, zi v514, zr g0 33] [(0, zr g0 9)] i26_82 rfl (by decide) rfl rfl (by omega) rfl rfl (by decide) rfl t38 (Nat.le_of_ble_eq_true rfl) (Nat.le_of_ble_eq_true rfl) rfl ?_
        refine X.aload_n 1 i38_0 rfl rfl rfl ?_
        refine X.getR 4 i38_1 rfl rfl (by decide) rfl rfl ?_
        refine X.iconst 5 i38_4 rfl rfl (by decide) ?_
        refine X.iald 6 i38_5 rfl rfl (by decide) rfl (by omega) ?_
        have h567 := r10_0 hJ566 g0 (i := 3) (by omega)
        refine X.reti i38_6 rfl t38 ?_
        show X (EE s) d 26 85 [(0, zr g0 8), (1, zi a1), (2, zi v507), (3, zi v511), (4, zi v514)] [zi (m565 g0 10 3), zi v511, zi v514, zr g0 33] m565 _
        refine X.aload_n 86 i26_85 rfl rfl rfl ?_
        refine X.getR 89 i26_86 rfl rfl (by decide) rfl rfl ?_
        refine X.aload_n 90 i26_89 rfl rfl rfl ?_
        refine X.getI 93 9 i26_90 rfl rfl (by decide) rfl rfl rfl ?_
        have h568 := r8_9 hJ566 g0
        refine X.callv 96 [zi v514, zi v511, zi (m565 g0 10 3), zr g0 37, zi (m565 g0 8 9)] [] [(0, zr g0 33), (1, zi v514), (2, zi v511), (3, zi (m565 g0 10 3)), (4, zr g0 37), (5, zi (m565 g0 8 9))] i26_93 rfl (by decide) rfl rfl (by omega) rfl rfl (by decide) rfl t56 (Nat.le_of_ble_eq_true rfl) (Nat.le_of_ble_eq_true rfl) rfl ?_
        refine c56_1 (B := B + 1) g0 g0 v514 v511 (m565 g0 10 3) (m565 g0 8 9) (by omega) (hJ566.up (by omega)) (by omega) (by omega) (by omega) (by omega) (by omega) (fun m569 hJ570 km569 => ?_)
        have kkm5690 := km569 0
        have kkm569g0 := km569 g0
        show X (EE s) d 26 96 [(0, zr g0 8), (1, zi a1), (2, zi v507), (3, zi v511), (4, zi v514)] [] m569 _
        refine X.aload_n 97 i26_96 rfl rfl rfl ?_
        refine X.getR 100 i26_97 rfl rfl (by decide) rfl rfl ?_
        refine X.iload 102 i26_100 rfl rfl rfl ?_
        refine X.aload_n 103 i26_102 rfl rfl rfl ?_
        refine X.getR 106 i26_103 rfl rfl (by decide) rfl rfl ?_
        refine X.getIr 109 3 i26_106 rfl rfl (by decide) rfl rfl rfl (fun h572 => ?_)
        refine X.callv 112 [zi v514, zi (m569 g0 33 3)] [] [(0, zr g0 27), (1, zi v514), (2, zi (m569 g0 33 3))] i26_109 rfl (by decide) rfl rfl (by omega) rfl rfl (by decide) rfl t58 (Nat.le_of_ble_eq_true rfl) (Nat.le_of_ble_eq_true rfl) rfl ?_
        refine X.aload_n 1 i58_0 rfl rfl rfl ?_
        refine X.dup 2 i58_1 rfl rfl rfl ?_
        refine X.getIr 5 6 i58_2 rfl rfl (by decide) rfl rfl rfl (fun h573 => ?_)
        refine X.iload_n 6 i58_5 rfl rfl rfl ?_
        refine X.iiF 7 .iadd (fun x y => x + y) i58_6 rfl rfl rfl (fun _ _ => rfl) (fun z574 hz574 => ?_)
        refine X.putI' 10 6 i58_7 rfl rfl (by decide) rfl rfl rfl (fun hrm575 m575 hm575 => ?_)
        have hJ576 := w27_3 hJ570 hm575 (by omega) hrm575
        have kum575 : m575 g0 8 9 = m569 g0 8 9 := by rw [hm575]; exact z_upd_o _ _ rfl
        refine X.aload_n 11 i58_10 rfl rfl rfl ?_
        refine X.dup 12 i58_11 rfl rfl rfl ?_
        refine X.getIr 15 8 i58_12 rfl rfl (by decide) rfl rfl rfl (fun h577 => ?_)
        refine X.iload_n 16 i58_15 rfl rfl rfl ?_
        refine X.iiF 17 .ior (fun x y => x ||| y) i58_16 rfl rfl rfl (fun _ _ => rfl) (fun z578 hz578 => ?_)
        refine X.putI' 20 8 i58_17 rfl rfl (by decide) rfl rfl rfl (fun hrm579 m579 hm579 => ?_)
        have hJ580 := w27_3 hJ576 hm579 (by omega) hrm579
        have kum579 : m579 g0 8 9 = m575 g0 8 9 := by rw [hm579]; exact z_upd_o _ _ rfl
        refine X.retv i58_20 rfl t58 ?_
        show X (EE s) d 26 112 [(0, zr g0 8), (1, zi a1), (2, zi v507), (3, zi v511), (4, zi v514)] [] m579 _
        refine X.aload_n 113 i26_112 rfl rfl rfl ?_
        refine X.getI 116 9 i26_113 rfl rfl (by decide) rfl rfl rfl ?_
        have h581 := r8_9 hJ580 g0
        refine X.ldc 118 i26_116 rfl rfl (by decide) ?_
        refine X.icmpge 131 121 i26_118 rfl rfl rfl (fun h582 => ?_) (fun h582 => ?_)
        · refine X.cut [(0, zr g0 8), (2, zi v507), (4, zi v514)] i26_131 rfl ?_
          refine X.aload_n 132 i26_131 rfl rfl rfl ?_
          refine X.iload_n 133 i26_132 rfl rfl rfl ?_
          refine X.callv 136 [zi v507] [] [(0, zr g0 8), (1, zi v507)] i26_133 rfl (by decide) rfl rfl (by omega) rfl rfl (by decide) rfl t59 (Nat.le_of_ble_eq_true rfl) (Nat.le_of_ble_eq_true rfl) rfl ?_
          refine c59_1 (B := B + 7) g0 v507 (by omega) (hJ580.up (by omega)) (by omega) (by omega) (fun m583 hJ584 km583 => ?_)
          have kkm5830 := km583 0
          have kkm583g0 := km583 g0
          show X (EE s) d 26 136 [(0, zr g0 8), (2, zi v507), (4, zi v514)] [] m583 _
          refine X.iload 138 i26_136 rfl rfl rfl ?_
          refine X.reti i26_138 rfl t26 ?_
          exact hQ v514 m583 (by first | trivial | omega) (hJ584.up (by omega))  (by omega) (by omega)
        · refine X.aload_n 122 i26_121 rfl rfl rfl ?_
          refine X.dup 123 i26_122 rfl rfl rfl ?_
          refine X.getI 126 9 i26_123 rfl rfl (by decide) rfl rfl rfl ?_
          refine X.iconst 127 i26_126 rfl rfl (by decide) ?_
          refine X.iadd 128 i26_127 rfl rfl (by omega) ?_
          refine X.putI' 131 9 i26_128 rfl rfl (by decide) rfl rfl rfl (fun hrm586 m586 hm586 => ?_)
          have hJ587 := w8_9 hJ580 hm586 (by omega)
          have em586 : m586 g0 8 9 = ((m579 g0 8 9) + 1) := by rw [hm586]; exact z_upd_same _ _ _ _ _
          refine X.cut [(0, zr g0 8), (2, zi v507), (4, zi v514)] i26_131 rfl ?_
          refine X.aload_n 132 i26_131 rfl rfl rfl ?_
          refine X.iload_n 133 i26_132 rfl rfl rfl ?_
          refine X.callv 136 [zi v507] [] [(0, zr g0 8), (1, zi v507)] i26_133 rfl (by decide) rfl rfl (by omega) rfl rfl (by decide) rfl t59 (Nat.le_of_ble_eq_true rfl) (Nat.le_of_ble_eq_true rfl) rfl ?_
          refine c59_1 (B := B + 7) g0 v507 (by omega) (hJ587.up (by omega)) (by omega) (by omega) (fun m588 hJ589 km588 => ?_)
          have kkm5880 := km588 0
          have kkm588g0 := km588 g0
          show X (EE s) d 26 136 [(0, zr g0 8), (2, zi v507), (4, zi v514)] [] m588 _
          refine X.iload 138 i26_136 rfl rfl rfl ?_
          refine X.reti i26_138 rfl t26 ?_
          exact hQ v514 m588 (by first | trivial | omega) (hJ589.up (by omega))  (by omega) (by omega)
      · refine X.bipush 45 i53_43 rfl rfl (by decide) ?_
        refine X.goto 50 i53_45 rfl rfl ?_
        refine X.cut [] i53_50 rfl ?_
        refine X.iconst 51 i53_50 rfl rfl (by decide) ?_
        refine X.callv 54 [zi 22, zi 0] [] [(0, zr g0 8), (1, zi 22), (2, zi 0)] i53_51 rfl (by decide) rfl rfl (by omega) rfl rfl (by decide) rfl t54 (Nat.le_of_ble_eq_true rfl) (Nat.le_of_ble_eq_true rfl) rfl ?_
        refine X.aload_n 1 i54_0 rfl rfl rfl ?_
        refine X.getR 4 i54_1 rfl rfl (by decide) rfl rfl ?_
        refine X.aload_n 5 i54_4 rfl rfl rfl ?_
        refine X.getI 8 9 i54_5 rfl rfl (by decide) rfl rfl rfl ?_
        have h591 := r8_9 hJ553 g0
        refine X.iload_n 9 i54_8 rfl rfl rfl ?_
        refine X.iload_n 10 i54_9 rfl rfl rfl ?_
        refine X.callv 13 [zi (m552 g0 8 9), zi 22, zi 0] [] [(0, zr g0 37), (1, zi (m552 g0 8 9)), (2, zi 22), (3, zi 0)] i54_10 rfl (by decide) rfl rfl (by omega) rfl rfl (by decide) rfl t55 (Nat.le_of_ble_eq_true rfl) (Nat.le_of_ble_eq_true rfl) rfl ?_
        refine X.aload_n 1 i55_0 rfl rfl rfl ?_
        refine X.getI 4 1 i55_1 rfl rfl (by decide) rfl rfl rfl ?_
        have h592 := r37_1 hJ553 g0
        refine X.bipush 6 i55_4 rfl rfl (by decide) ?_
        refine X.irem 7 i55_6 rfl rfl (by omega) ?_
        refine X.iconst 8 i55_7 rfl rfl (by decide) ?_
        refine X.imul 9 i55_8 rfl rfl (by omega) ?_
        refine X.istore 11 [(0, zr g0 37), (1, zi (m552 g0 8 9)), (2, zi 22), (3, zi 0), (4, zi (((m552 g0 37 1) % 40) * 3))] i55_9 rfl rfl rfl ?_
        refine X.aload_n 12 i55_11 rfl rfl rfl ?_
        refine X.getR 15 i55_12 rfl rfl (by decide) rfl rfl ?_
        refine X.iload 17 i55_15 rfl rfl rfl ?_
        refine X.iload_n 18 i55_17 rfl rfl rfl ?_
        refine X.iast' 19 i55_18 rfl rfl (by decide) rfl (by omega) (fun hrm593 m593 hm593 => ?_)
        have hJ594 := w38_0 hJ553 hm593 (by omega) hrm593
        have kum593 : m593 g0 8 9 = m552 g0 8 9 := by rw [hm593]; exact z_upd_o _ _ rfl
        refine X.aload_n 20 i55_19 rfl rfl rfl ?_
        refine X.getR 23 i55_20 rfl rfl (by decide) rfl rfl ?_
        refine X.iload 25 i55_23 rfl rfl rfl ?_
        refine X.iconst 26 i55_25 rfl rfl (by decide) ?_
        refine X.iadd 27 i55_26 rfl rfl (by omega) ?_
        refine X.iload_n 28 i55_27 rfl rfl rfl ?_
        refine X.iast' 29 i55_28 rfl rfl (by decide) rfl (by omega) (fun hrm595 m595 hm595 => ?_)
        have hJ596 := w38_0 hJ594 hm595 (by omega) hrm595
        have kum595 : m595 g0 8 9 = m593 g0 8 9 := by rw [hm595]; exact z_upd_o _ _ rfl
        refine X.aload_n 30 i55_29 rfl rfl rfl ?_
        refine X.getR 33 i55_30 rfl rfl (by decide) rfl rfl ?_
        refine X.iload 35 i55_33 rfl rfl rfl ?_
        refine X.iconst 36 i55_35 rfl rfl (by decide) ?_
        refine X.iadd 37 i55_36 rfl rfl (by omega) ?_
        refine X.iload_n 38 i55_37 rfl rfl rfl ?_
        refine X.iast' 39 i55_38 rfl rfl (by decide) rfl (by omega) (fun hrm597 m597 hm597 => ?_)
        have hJ598 := w38_0 hJ596 hm597 (by omega) hrm597
        have kum597 : m597 g0 8 9 = m595 g0 8 9 := by rw [hm597]; exact z_upd_o _ _ rfl
        refine X.aload_n 40 i55_39 rfl rfl rfl ?_
        refine X.dup 41 i55_40 rfl rfl rfl ?_
        refine X.getI 44 1 i55_41 rfl rfl (by decide) rfl rfl rfl ?_
        have h599 := r37_1 hJ598 g0
        refine X.iconst 45 i55_44 rfl rfl (by decide) ?_
        refine X.iadd 46 i55_45 rfl rfl (by omega) ?_
        refine X.putI' 49 1 i55_46 rfl rfl (by decide) rfl rfl rfl (fun hrm600 m600 hm600 => ?_)
        have hJ601 := w37_1 (hJ598.up (B' := B + 1) (by omega)) hm600 (by omega)
        have kum600 : m600 g0 8 9 = m597 g0 8 9 := by rw [hm600]; exact z_upd_o _ _ rfl
        refine X.retv i55_49 rfl t55 ?_
        show X (EE s) ((d - 1) - 1) 54 13 [(0, zr g0 8), (1, zi 22), (2, zi 0)] [] m600 _
        refine X.retv i54_13 rfl t54 ?_
        show X (EE s) (d - 1) 53 54 [] [] m600 _
        refine X.retv i53_54 rfl t53 ?_
        show X (EE s) d 26 71 [(0, zr g0 8), (1, zi a1), (2, zi v507), (3, zi v511), (4, zi v514)] [] m600 _
        refine X.aload_n 72 i26_71 rfl rfl rfl ?_
        refine X.getR 75 i26_72 rfl rfl (by decide) rfl rfl ?_
        refine X.iload 77 i26_75 rfl rfl rfl ?_
        refine X.iload_n 78 i26_77 rfl rfl rfl ?_
        refine X.aload_n 79 i26_78 rfl rfl rfl ?_
        refine X.getR 82 i26_79 rfl rfl (by decide) rfl rfl ?_
        refine X.callv 85 [] [zi v511, zi v514, zr g0 33] [(0, zr g0 9)] i26_82 rfl (by decide) rfl rfl (by omega) rfl rfl (by decide) rfl t38 (Nat.le_of_ble_eq_true rfl) (Nat.le_of_ble_eq_true rfl) rfl ?_
        refine X.aload_n 1 i38_0 rfl rfl rfl ?_
        refine X.getR 4 i38_1 rfl rfl (by decide) rfl rfl ?_
        refine X.iconst 5 i38_4 rfl rfl (by decide) ?_
        refine X.iald 6 i38_5 rfl rfl (by decide) rfl (by omega) ?_
        have h602 := r10_0 hJ601 g0 (i := 3) (by omega)
        refine X.reti i38_6 rfl t38 ?_
        show X (EE s) d 26 85 [(0, zr g0 8), (1, zi a1), (2, zi v507), (3, zi v511), (4, zi v514)] [zi (m600 g0 10 3), zi v511, zi v514, zr g0 33] m600 _
        refine X.aload_n 86 i26_85 rfl rfl rfl ?_
        refine X.getR 89 i26_86 rfl rfl (by decide) rfl rfl ?_
        refine X.aload_n 90 i26_89 rfl rfl rfl ?_
        refine X.getI 93 9 i26_90 rfl rfl (by decide) rfl rfl rfl ?_
        have h603 := r8_9 hJ601 g0
        refine X.callv 96 [zi v514, zi v511, zi (m600 g0 10 3), zr g0 37, zi (m600 g0 8 9)] [] [(0, zr g0 33), (1, zi v514), (2, zi v511), (3, zi (m600 g0 10 3)), (4, zr g0 37), (5, zi (m600 g0 8 9))] i26_93 rfl (by decide) rfl rfl (by omega) rfl rfl (by decide) rfl t56 (Nat.le_of_ble_eq_true rfl) (Nat.le_of_ble_eq_true rfl) rfl ?_
        refine c56_1 (B := B + 1) g0 g0 v514 v511 (m600 g0 10 3) (m600 g0 8 9) (by omega) (hJ601.up (by omega)) (by omega) (by omega) (by omega) (by omega) (by omega) (fun m604 hJ605 km604 => ?_)
        have kkm6040 := km604 0
        have kkm604g0 := km604 g0
        show X (EE s) d 26 96 [(0, zr g0 8), (1, zi a1), (2, zi v507), (3, zi v511), (4, zi v514)] [] m604 _
        refine X.aload_n 97 i26_96 rfl rfl rfl ?_
        refine X.getR 100 i26_97 rfl rfl (by decide) rfl rfl ?_
        refine X.iload 102 i26_100 rfl rfl rfl ?_
        refine X.aload_n 103 i26_102 rfl rfl rfl ?_
        refine X.getR 106 i26_103 rfl rfl (by decide) rfl rfl ?_
        refine X.getIr 109 3 i26_106 rfl rfl (by decide) rfl rfl rfl (fun h607 => ?_)
        refine X.callv 112 [zi v514, zi (m604 g0 33 3)] [] [(0, zr g0 27), (1, zi v514), (2, zi (m604 g0 33 3))] i26_109 rfl (by decide) rfl rfl (by omega) rfl rfl (by decide) rfl t58 (Nat.le_of_ble_eq_true rfl) (Nat.le_of_ble_eq_true rfl) rfl ?_
        refine X.aload_n 1 i58_0 rfl rfl rfl ?_
        refine X.dup 2 i58_1 rfl rfl rfl ?_
        refine X.getIr 5 6 i58_2 rfl rfl (by decide) rfl rfl rfl (fun h608 => ?_)
        refine X.iload_n 6 i58_5 rfl rfl rfl ?_
        refine X.iiF 7 .iadd (fun x y => x + y) i58_6 rfl rfl rfl (fun _ _ => rfl) (fun z609 hz609 => ?_)
        refine X.putI' 10 6 i58_7 rfl rfl (by decide) rfl rfl rfl (fun hrm610 m610 hm610 => ?_)
        have hJ611 := w27_3 hJ605 hm610 (by omega) hrm610
        have kum610 : m610 g0 8 9 = m604 g0 8 9 := by rw [hm610]; exact z_upd_o _ _ rfl
        refine X.aload_n 11 i58_10 rfl rfl rfl ?_
        refine X.dup 12 i58_11 rfl rfl rfl ?_
        refine X.getIr 15 8 i58_12 rfl rfl (by decide) rfl rfl rfl (fun h612 => ?_)
        refine X.iload_n 16 i58_15 rfl rfl rfl ?_
        refine X.iiF 17 .ior (fun x y => x ||| y) i58_16 rfl rfl rfl (fun _ _ => rfl) (fun z613 hz613 => ?_)
        refine X.putI' 20 8 i58_17 rfl rfl (by decide) rfl rfl rfl (fun hrm614 m614 hm614 => ?_)
        have hJ615 := w27_3 hJ611 hm614 (by omega) hrm614
        have kum614 : m614 g0 8 9 = m610 g0 8 9 := by rw [hm614]; exact z_upd_o _ _ rfl
        refine X.retv i58_20 rfl t58 ?_
        show X (EE s) d 26 112 [(0, zr g0 8), (1, zi a1), (2, zi v507), (3, zi v511), (4, zi v514)] [] m614 _
        refine X.aload_n 113 i26_112 rfl rfl rfl ?_
        refine X.getI 116 9 i26_113 rfl rfl (by decide) rfl rfl rfl ?_
        have h616 := r8_9 hJ615 g0
        refine X.ldc 118 i26_116 rfl rfl (by decide) ?_
        refine X.icmpge 131 121 i26_118 rfl rfl rfl (fun h617 => ?_) (fun h617 => ?_)
        · refine X.cut [(0, zr g0 8), (2, zi v507), (4, zi v514)] i26_131 rfl ?_
          refine X.aload_n 132 i26_131 rfl rfl rfl ?_
          refine X.iload_n 133 i26_132 rfl rfl rfl ?_
          refine X.callv 136 [zi v507] [] [(0, zr g0 8), (1, zi v507)] i26_133 rfl (by decide) rfl rfl (by omega) rfl rfl (by decide) rfl t59 (Nat.le_of_ble_eq_true rfl) (Nat.le_of_ble_eq_true rfl) rfl ?_
          refine c59_1 (B := B + 7) g0 v507 (by omega) (hJ615.up (by omega)) (by omega) (by omega) (fun m618 hJ619 km618 => ?_)
          have kkm6180 := km618 0
          have kkm618g0 := km618 g0
          show X (EE s) d 26 136 [(0, zr g0 8), (2, zi v507), (4, zi v514)] [] m618 _
          refine X.iload 138 i26_136 rfl rfl rfl ?_
          refine X.reti i26_138 rfl t26 ?_
          exact hQ v514 m618 (by first | trivial | omega) (hJ619.up (by omega))  (by omega) (by omega)
        · refine X.aload_n 122 i26_121 rfl rfl rfl ?_
          refine X.dup 123 i26_122 rfl rfl rfl ?_
          refine X.getI 126 9 i26_123 rfl rfl (by decide) rfl rfl rfl ?_
          refine X.iconst 127 i26_126 rfl rfl (by decide) ?_
          refine X.iadd 128 i26_127 rfl rfl (by omega) ?_
          refine X.putI' 131 9 i26_128 rfl rfl (by decide) rfl rfl rfl (fun hrm621 m621 hm621 => ?_)
          have hJ622 := w8_9 hJ615 hm621 (by omega)
          have em621 : m621 g0 8 9 = ((m614 g0 8 9) + 1) := by rw [hm621]; exact z_upd_same _ _ _ _ _
          refine X.cut [(0, zr g0 8), (2, zi v507), (4, zi v514)] i26_131 rfl ?_
          refine X.aload_n 132 i26_131 rfl rfl rfl ?_
          refine X.iload_n 133 i26_132 rfl rfl rfl ?_
          refine X.callv 136 [zi v507] [] [(0, zr g0 8), (1, zi v507)] i26_133 rfl (by decide) rfl rfl (by omega) rfl rfl (by decide) rfl t59 (Nat.le_of_ble_eq_true rfl) (Nat.le_of_ble_eq_true rfl) rfl ?_
          refine c59_1 (B := B + 7) g0 v507 (by omega) (hJ622.up (by omega)) (by omega) (by omega) (fun m623 hJ624 km623 => ?_)
          have kkm6230 := km623 0
          have kkm623g0 := km623 g0
          show X (EE s) d 26 136 [(0, zr g0 8), (2, zi v507), (4, zi v514)] [] m623 _
          refine X.iload 138 i26_136 rfl rfl rfl ?_
          refine X.reti i26_138 rfl t26 ?_
          exact hQ v514 m623 (by first | trivial | omega) (hJ624.up (by omega))  (by omega) (by omega)
  · refine X.aload_n 8 i53_7 rfl rfl rfl ?_
    refine X.getL 11 10 i53_8 rfl rfl (by decide) rfl rfl rfl ?_
    refine X.lconst (y := 0) 12 i53_11 rfl rfl rfl ?_
    refine X.lcmp 13 i53_12 rfl rfl (fun z626 hz626 => ?_)
    refine X.ifgt 20 16 i53_13 rfl rfl rfl (fun h627 => ?_) (fun h627 => ?_)
    · have h627c : (m523 g0 8 10) > 0 := by omega
      clear h627 hz626
      refine X.iconst 21 i53_20 rfl rfl (by decide) ?_
      refine X.istore_n 22 [(0, zr g0 8), (1, zi 0)] i53_21 rfl rfl rfl ?_
      refine X.iload_n 23 i53_22 rfl rfl rfl ?_
      refine X.aload_n 24 i53_23 rfl rfl rfl ?_
      refine X.getZ 27 12 i53_24 rfl rfl (by decide) rfl rfl rfl (fun h628 => ?_)
      refine X.icmpeq 54 30 i53_27 rfl rfl rfl (fun h629 => ?_) (fun h629 => ?_)
      · refine X.cut [] i53_54 rfl ?_
        refine X.retv i53_54 rfl t53 ?_
        show X (EE s) d 26 71 [(0, zr g0 8), (1, zi a1), (2, zi v507), (3, zi v511), (4, zi v514)] [] m523 _
        refine X.aload_n 72 i26_71 rfl rfl rfl ?_
        refine X.getR 75 i26_72 rfl rfl (by decide) rfl rfl ?_
        refine X.iload 77 i26_75 rfl rfl rfl ?_
        refine X.iload_n 78 i26_77 rfl rfl rfl ?_
        refine X.aload_n 79 i26_78 rfl rfl rfl ?_
        refine X.getR 82 i26_79 rfl rfl (by decide) rfl rfl ?_
        refine X.callv 85 [] [zi v511, zi v514, zr g0 33] [(0, zr g0 9)] i26_82 rfl (by decide) rfl rfl (by omega) rfl rfl (by decide) rfl t38 (Nat.le_of_ble_eq_true rfl) (Nat.le_of_ble_eq_true rfl) rfl ?_
        refine X.aload_n 1 i38_0 rfl rfl rfl ?_
        refine X.getR 4 i38_1 rfl rfl (by decide) rfl rfl ?_
        refine X.iconst 5 i38_4 rfl rfl (by decide) ?_
        refine X.iald 6 i38_5 rfl rfl (by decide) rfl (by omega) ?_
        have h630 := r10_0 hJ524 g0 (i := 3) (by omega)
        refine X.reti i38_6 rfl t38 ?_
        show X (EE s) d 26 85 [(0, zr g0 8), (1, zi a1), (2, zi v507), (3, zi v511), (4, zi v514)] [zi (m523 g0 10 3), zi v511, zi v514, zr g0 33] m523 _
        refine X.aload_n 86 i26_85 rfl rfl rfl ?_
        refine X.getR 89 i26_86 rfl rfl (by decide) rfl rfl ?_
        refine X.aload_n 90 i26_89 rfl rfl rfl ?_
        refine X.getI 93 9 i26_90 rfl rfl (by decide) rfl rfl rfl ?_
        refine X.callv 96 [zi v514, zi v511, zi (m523 g0 10 3), zr g0 37, zi (m523 g0 8 9)] [] [(0, zr g0 33), (1, zi v514), (2, zi v511), (3, zi (m523 g0 10 3)), (4, zr g0 37), (5, zi (m523 g0 8 9))] i26_93 rfl (by decide) rfl rfl (by omega) rfl rfl (by decide) rfl t56 (Nat.le_of_ble_eq_true rfl) (Nat.le_of_ble_eq_true rfl) rfl ?_
        refine c56_1 (B := B) g0 g0 v514 v511 (m523 g0 10 3) (m523 g0 8 9) (by omega) (hJ524.up (by omega)) (by omega) (by omega) (by omega) (by omega) (by omega) (fun m631 hJ632 km631 => ?_)
        have kkm6310 := km631 0
        have kkm631g0 := km631 g0
        show X (EE s) d 26 96 [(0, zr g0 8), (1, zi a1), (2, zi v507), (3, zi v511), (4, zi v514)] [] m631 _
        refine X.aload_n 97 i26_96 rfl rfl rfl ?_
        refine X.getR 100 i26_97 rfl rfl (by decide) rfl rfl ?_
        refine X.iload 102 i26_100 rfl rfl rfl ?_
        refine X.aload_n 103 i26_102 rfl rfl rfl ?_
        refine X.getR 106 i26_103 rfl rfl (by decide) rfl rfl ?_
        refine X.getIr 109 3 i26_106 rfl rfl (by decide) rfl rfl rfl (fun h634 => ?_)
        refine X.callv 112 [zi v514, zi (m631 g0 33 3)] [] [(0, zr g0 27), (1, zi v514), (2, zi (m631 g0 33 3))] i26_109 rfl (by decide) rfl rfl (by omega) rfl rfl (by decide) rfl t58 (Nat.le_of_ble_eq_true rfl) (Nat.le_of_ble_eq_true rfl) rfl ?_
        refine X.aload_n 1 i58_0 rfl rfl rfl ?_
        refine X.dup 2 i58_1 rfl rfl rfl ?_
        refine X.getIr 5 6 i58_2 rfl rfl (by decide) rfl rfl rfl (fun h635 => ?_)
        refine X.iload_n 6 i58_5 rfl rfl rfl ?_
        refine X.iiF 7 .iadd (fun x y => x + y) i58_6 rfl rfl rfl (fun _ _ => rfl) (fun z636 hz636 => ?_)
        refine X.putI' 10 6 i58_7 rfl rfl (by decide) rfl rfl rfl (fun hrm637 m637 hm637 => ?_)
        have hJ638 := w27_3 hJ632 hm637 (by omega) hrm637
        have kum637 : m637 g0 8 9 = m631 g0 8 9 := by rw [hm637]; exact z_upd_o _ _ rfl
        refine X.aload_n 11 i58_10 rfl rfl rfl ?_
        refine X.dup 12 i58_11 rfl rfl rfl ?_
        refine X.getIr 15 8 i58_12 rfl rfl (by decide) rfl rfl rfl (fun h639 => ?_)
        refine X.iload_n 16 i58_15 rfl rfl rfl ?_
        refine X.iiF 17 .ior (fun x y => x ||| y) i58_16 rfl rfl rfl (fun _ _ => rfl) (fun z640 hz640 => ?_)
        refine X.putI' 20 8 i58_17 rfl rfl (by decide) rfl rfl rfl (fun hrm641 m641 hm641 => ?_)
        have hJ642 := w27_3 hJ638 hm641 (by omega) hrm641
        have kum641 : m641 g0 8 9 = m637 g0 8 9 := by rw [hm641]; exact z_upd_o _ _ rfl
        refine X.retv i58_20 rfl t58 ?_
        show X (EE s) d 26 112 [(0, zr g0 8), (1, zi a1), (2, zi v507), (3, zi v511), (4, zi v514)] [] m641 _
        refine X.aload_n 113 i26_112 rfl rfl rfl ?_
        refine X.getI 116 9 i26_113 rfl rfl (by decide) rfl rfl rfl ?_
        have h643 := r8_9 hJ642 g0
        refine X.ldc 118 i26_116 rfl rfl (by decide) ?_
        refine X.icmpge 131 121 i26_118 rfl rfl rfl (fun h644 => ?_) (fun h644 => ?_)
        · refine X.cut [(0, zr g0 8), (2, zi v507), (4, zi v514)] i26_131 rfl ?_
          refine X.aload_n 132 i26_131 rfl rfl rfl ?_
          refine X.iload_n 133 i26_132 rfl rfl rfl ?_
          refine X.callv 136 [zi v507] [] [(0, zr g0 8), (1, zi v507)] i26_133 rfl (by decide) rfl rfl (by omega) rfl rfl (by decide) rfl t59 (Nat.le_of_ble_eq_true rfl) (Nat.le_of_ble_eq_true rfl) rfl ?_
          refine c59_1 (B := B + 6) g0 v507 (by omega) (hJ642.up (by omega)) (by omega) (by omega) (fun m645 hJ646 km645 => ?_)
          have kkm6450 := km645 0
          have kkm645g0 := km645 g0
          show X (EE s) d 26 136 [(0, zr g0 8), (2, zi v507), (4, zi v514)] [] m645 _
          refine X.iload 138 i26_136 rfl rfl rfl ?_
          refine X.reti i26_138 rfl t26 ?_
          exact hQ v514 m645 (by first | trivial | omega) (hJ646.up (by omega))  (by omega) (by omega)
        · refine X.aload_n 122 i26_121 rfl rfl rfl ?_
          refine X.dup 123 i26_122 rfl rfl rfl ?_
          refine X.getI 126 9 i26_123 rfl rfl (by decide) rfl rfl rfl ?_
          refine X.iconst 127 i26_126 rfl rfl (by decide) ?_
          refine X.iadd 128 i26_127 rfl rfl (by omega) ?_
          refine X.putI' 131 9 i26_128 rfl rfl (by decide) rfl rfl rfl (fun hrm648 m648 hm648 => ?_)
          have hJ649 := w8_9 hJ642 hm648 (by omega)
          have em648 : m648 g0 8 9 = ((m641 g0 8 9) + 1) := by rw [hm648]; exact z_upd_same _ _ _ _ _
          refine X.cut [(0, zr g0 8), (2, zi v507), (4, zi v514)] i26_131 rfl ?_
          refine X.aload_n 132 i26_131 rfl rfl rfl ?_
          refine X.iload_n 133 i26_132 rfl rfl rfl ?_
          refine X.callv 136 [zi v507] [] [(0, zr g0 8), (1, zi v507)] i26_133 rfl (by decide) rfl rfl (by omega) rfl rfl (by decide) rfl t59 (Nat.le_of_ble_eq_true rfl) (Nat.le_of_ble_eq_true rfl) rfl ?_
          refine c59_1 (B := B + 6) g0 v507 (by omega) (hJ649.up (by omega)) (by omega) (by omega) (fun m650 hJ651 km650 => ?_)
          have kkm6500 := km650 0
          have kkm650g0 := km650 g0
          show X (EE s) d 26 136 [(0, zr g0 8), (2, zi v507), (4, zi v514)] [] m650 _
          refine X.iload 138 i26_136 rfl rfl rfl ?_
          refine X.reti i26_138 rfl t26 ?_
          exact hQ v514 m650 (by first | trivial | omega) (hJ651.up (by omega))  (by omega) (by omega)
      · refine X.aload_n 31 i53_30 rfl rfl rfl ?_
        refine X.iload_n 32 i53_31 rfl rfl rfl ?_
        refine X.putZ' 35 12 i53_32 rfl rfl (by decide) rfl rfl rfl (by omega) (fun hrm653 m653 hm653 => ?_)
        have hJ654 := w8_12 hJ524 hm653 (by omega)
        have kum653 : m653 g0 8 9 = m523 g0 8 9 := by rw [hm653]; exact z_upd_o _ _ rfl
        refine X.aload_n 36 i53_35 rfl rfl rfl ?_
        refine X.aload_n 37 i53_36 rfl rfl rfl ?_
        refine X.getZ 40 12 i53_37 rfl rfl (by decide) rfl rfl rfl (fun h655 => ?_)
        refine X.ifeq 48 43 i53_40 rfl rfl rfl (fun h656 => ?_) (fun h656 => ?_)
        · refine X.cut [] i53_48 rfl ?_
          refine X.bipush 50 i53_48 rfl rfl (by decide) ?_
          refine X.iconst 51 i53_50 rfl rfl (by decide) ?_
          refine X.callv 54 [zi 23, zi 0] [] [(0, zr g0 8), (1, zi 23), (2, zi 0)] i53_51 rfl (by decide) rfl rfl (by omega) rfl rfl (by decide) rfl t54 (Nat.le_of_ble_eq_true rfl) (Nat.le_of_ble_eq_true rfl) rfl ?_
          refine X.aload_n 1 i54_0 rfl rfl rfl ?_
          refine X.getR 4 i54_1 rfl rfl (by decide) rfl rfl ?_
          refine X.aload_n 5 i54_4 rfl rfl rfl ?_
          refine X.getI 8 9 i54_5 rfl rfl (by decide) rfl rfl rfl ?_
          have h657 := r8_9 hJ654 g0
          refine X.iload_n 9 i54_8 rfl rfl rfl ?_
          refine X.iload_n 10 i54_9 rfl rfl rfl ?_
          refine X.callv 13 [zi (m653 g0 8 9), zi 23, zi 0] [] [(0, zr g0 37), (1, zi (m653 g0 8 9)), (2, zi 23), (3, zi 0)] i54_10 rfl (by decide) rfl rfl (by omega) rfl rfl (by decide) rfl t55 (Nat.le_of_ble_eq_true rfl) (Nat.le_of_ble_eq_true rfl) rfl ?_
          refine X.aload_n 1 i55_0 rfl rfl rfl ?_
          refine X.getI 4 1 i55_1 rfl rfl (by decide) rfl rfl rfl ?_
          have h658 := r37_1 hJ654 g0
          refine X.bipush 6 i55_4 rfl rfl (by decide) ?_
          refine X.irem 7 i55_6 rfl rfl (by omega) ?_
          refine X.iconst 8 i55_7 rfl rfl (by decide) ?_
          refine X.imul 9 i55_8 rfl rfl (by omega) ?_
          refine X.istore 11 [(0, zr g0 37), (1, zi (m653 g0 8 9)), (2, zi 23), (3, zi 0), (4, zi (((m653 g0 37 1) % 40) * 3))] i55_9 rfl rfl rfl ?_
          refine X.aload_n 12 i55_11 rfl rfl rfl ?_
          refine X.getR 15 i55_12 rfl rfl (by decide) rfl rfl ?_
          refine X.iload 17 i55_15 rfl rfl rfl ?_
          refine X.iload_n 18 i55_17 rfl rfl rfl ?_
          refine X.iast' 19 i55_18 rfl rfl (by decide) rfl (by omega) (fun hrm659 m659 hm659 => ?_)
          have hJ660 := w38_0 hJ654 hm659 (by omega) hrm659
          have kum659 : m659 g0 8 9 = m653 g0 8 9 := by rw [hm659]; exact z_upd_o _ _ rfl
          refine X.aload_n 20 i55_19 rfl rfl rfl ?_
          refine X.getR 23 i55_20 rfl rfl (by decide) rfl rfl ?_
          refine X.iload 25 i55_23 rfl rfl rfl ?_
          refine X.iconst 26 i55_25 rfl rfl (by decide) ?_
          refine X.iadd 27 i55_26 rfl rfl (by omega) ?_
          refine X.iload_n 28 i55_27 rfl rfl rfl ?_
          refine X.iast' 29 i55_28 rfl rfl (by decide) rfl (by omega) (fun hrm661 m661 hm661 => ?_)
          have hJ662 := w38_0 hJ660 hm661 (by omega) hrm661
          have kum661 : m661 g0 8 9 = m659 g0 8 9 := by rw [hm661]; exact z_upd_o _ _ rfl
          refine X.aload_n 30 i55_29 rfl rfl rfl ?_
          refine X.getR 33 i55_30 rfl rfl (by decide) rfl rfl ?_
          refine X.iload 35 i55_33 rfl rfl rfl ?_
          refine X.iconst 36 i55_35 rfl rfl (by decide) ?_
          refine X.iadd 37 i55_36 rfl rfl (by omega) ?_
          refine X.iload_n 38 i55_37 rfl rfl rfl ?_
          refine X.iast' 39 i55_38 rfl rfl (by decide) rfl (by omega) (fun hrm663 m663 hm663 => ?_)
          have hJ664 := w38_0 hJ662 hm663 (by omega) hrm663
          have kum663 : m663 g0 8 9 = m661 g0 8 9 := by rw [hm663]; exact z_upd_o _ _ rfl
          refine X.aload_n 40 i55_39 rfl rfl rfl ?_
          refine X.dup 41 i55_40 rfl rfl rfl ?_
          refine X.getI 44 1 i55_41 rfl rfl (by decide) rfl rfl rfl ?_
          have h665 := r37_1 hJ664 g0
          refine X.iconst 45 i55_44 rfl rfl (by decide) ?_
          refine X.iadd 46 i55_45 rfl rfl (by omega) ?_
          refine X.putI' 49 1 i55_46 rfl rfl (by decide) rfl rfl rfl (fun hrm666 m666 hm666 => ?_)
          have hJ667 := w37_1 (hJ664.up (B' := B + 1) (by omega)) hm666 (by omega)
          have kum666 : m666 g0 8 9 = m663 g0 8 9 := by rw [hm666]; exact z_upd_o _ _ rfl
          refine X.retv i55_49 rfl t55 ?_
          show X (EE s) ((d - 1) - 1) 54 13 [(0, zr g0 8), (1, zi 23), (2, zi 0)] [] m666 _
          refine X.retv i54_13 rfl t54 ?_
          show X (EE s) (d - 1) 53 54 [] [] m666 _
          refine X.retv i53_54 rfl t53 ?_
          show X (EE s) d 26 71 [(0, zr g0 8), (1, zi a1), (2, zi v507), (3, zi v511), (4, zi v514)] [] m666 _
          refine X.aload_n 72 i26_71 rfl rfl rfl ?_
          refine X.getR 75 i26_72 rfl rfl (by decide) rfl rfl ?_
          refine X.iload 77 i26_75 rfl rfl rfl ?_
          refine X.iload_n 78 i26_77 rfl rfl rfl ?_
          refine X.aload_n 79 i26_78 rfl rfl rfl ?_
          refine X.getR 82 i26_79 rfl rfl (by decide) rfl rfl ?_
          refine X.callv 85 [] [zi v511, zi v514, zr g0 33] [(0, zr g0 9)] i26_82 rfl (by decide) rfl rfl (by omega) rfl rfl (by decide) rfl t38 (Nat.le_of_ble_eq_true rfl) (Nat.le_of_ble_eq_true rfl) rfl ?_
          refine X.aload_n 1 i38_0 rfl rfl rfl ?_
          refine X.getR 4 i38_1 rfl rfl (by decide) rfl rfl ?_
          refine X.iconst 5 i38_4 rfl rfl (by decide) ?_
          refine X.iald 6 i38_5 rfl rfl (by decide) rfl (by omega) ?_
          have h668 := r10_0 hJ667 g0 (i := 3) (by omega)
          refine X.reti i38_6 rfl t38 ?_
          show X (EE s) d 26 85 [(0, zr g0 8), (1, zi a1), (2, zi v507), (3, zi v511), (4, zi v514)] [zi (m666 g0 10 3), zi v511, zi v514, zr g0 33] m666 _
          refine X.aload_n 86 i26_85 rfl rfl rfl ?_
          refine X.getR 89 i26_86 rfl rfl (by decide) rfl rfl ?_
          refine X.aload_n 90 i26_89 rfl rfl rfl ?_
          refine X.getI 93 9 i26_90 rfl rfl (by decide) rfl rfl rfl ?_
          have h669 := r8_9 hJ667 g0
          refine X.callv 96 [zi v514, zi v511, zi (m666 g0 10 3), zr g0 37, zi (m666 g0 8 9)] [] [(0, zr g0 33), (1, zi v514), (2, zi v511), (3, zi (m666 g0 10 3)), (4, zr g0 37), (5, zi (m666 g0 8 9))] i26_93 rfl (by decide) rfl rfl (by omega) rfl rfl (by decide) rfl t56 (Nat.le_of_ble_eq_true rfl) (Nat.le_of_ble_eq_true rfl) rfl ?_
          refine c56_1 (B := B + 1) g0 g0 v514 v511 (m666 g0 10 3) (m666 g0 8 9) (by omega) (hJ667.up (by omega)) (by omega) (by omega) (by omega) (by omega) (by omega) (fun m670 hJ671 km670 => ?_)
          have kkm6700 := km670 0
          have kkm670g0 := km670 g0
          show X (EE s) d 26 96 [(0, zr g0 8), (1, zi a1), (2, zi v507), (3, zi v511), (4, zi v514)] [] m670 _
          refine X.aload_n 97 i26_96 rfl rfl rfl ?_
          refine X.getR 100 i26_97 rfl rfl (by decide) rfl rfl ?_
          refine X.iload 102 i26_100 rfl rfl rfl ?_
          refine X.aload_n 103 i26_102 rfl rfl rfl ?_
          refine X.getR 106 i26_103 rfl rfl (by decide) rfl rfl ?_
          refine X.getIr 109 3 i26_106 rfl rfl (by decide) rfl rfl rfl (fun h673 => ?_)
          refine X.callv 112 [zi v514, zi (m670 g0 33 3)] [] [(0, zr g0 27), (1, zi v514), (2, zi (m670 g0 33 3))] i26_109 rfl (by decide) rfl rfl (by omega) rfl rfl (by decide) rfl t58 (Nat.le_of_ble_eq_true rfl) (Nat.le_of_ble_eq_true rfl) rfl ?_
          refine X.aload_n 1 i58_0 rfl rfl rfl ?_
          refine X.dup 2 i58_1 rfl rfl rfl ?_
          refine X.getIr 5 6 i58_2 rfl rfl (by decide) rfl rfl rfl (fun h674 => ?_)
          refine X.iload_n 6 i58_5 rfl rfl rfl ?_
          refine X.iiF 7 .iadd (fun x y => x + y) i58_6 rfl rfl rfl (fun _ _ => rfl) (fun z675 hz675 => ?_)
          refine X.putI' 10 6 i58_7 rfl rfl (by decide) rfl rfl rfl (fun hrm676 m676 hm676 => ?_)
          have hJ677 := w27_3 hJ671 hm676 (by omega) hrm676
          have kum676 : m676 g0 8 9 = m670 g0 8 9 := by rw [hm676]; exact z_upd_o _ _ rfl
          refine X.aload_n 11 i58_10 rfl rfl rfl ?_
          refine X.dup 12 i58_11 rfl rfl rfl ?_
          refine X.getIr 15 8 i58_12 rfl rfl (by decide) rfl rfl rfl (fun h678 => ?_)
          refine X.iload_n 16 i58_15 rfl rfl rfl ?_
          refine X.iiF 17 .ior (fun x y => x ||| y) i58_16 rfl rfl rfl (fun _ _ => rfl) (fun z679 hz679 => ?_)
          refine X.putI' 20 8 i58_17 rfl rfl (by decide) rfl rfl rfl (fun hrm680 m680 hm680 => ?_)
          have hJ681 := w27_3 hJ677 hm680 (by omega) hrm680
          have kum680 : m680 g0 8 9 = m676 g0 8 9 := by rw [hm680]; exact z_upd_o _ _ rfl
          refine X.retv i58_20 rfl t58 ?_
          show X (EE s) d 26 112 [(0, zr g0 8), (1, zi a1), (2, zi v507), (3, zi v511), (4, zi v514)] [] m680 _
          refine X.aload_n 113 i26_112 rfl rfl rfl ?_
          refine X.getI 116 9 i26_113 rfl rfl (by decide) rfl rfl rfl ?_
          have h682 := r8_9 hJ681 g0
          refine X.ldc 118 i26_116 rfl rfl (by decide) ?_
          refine X.icmpge 131 121 i26_118 rfl rfl rfl (fun h683 => ?_) (fun h683 => ?_)
          · refine X.cut [(0, zr g0 8), (2, zi v507), (4, zi v514)] i26_131 rfl ?_
            refine X.aload_n 132 i26_131 rfl rfl rfl ?_
            refine X.iload_n 133 i26_132 rfl rfl rfl ?_
            refine X.callv 136 [zi v507] [] [(0, zr g0 8), (1, zi v507)] i26_133 rfl (by decide) rfl rfl (by omega) rfl rfl (by decide) rfl t59 (Nat.le_of_ble_eq_true rfl) (Nat.le_of_ble_eq_true rfl) rfl ?_
            refine c59_1 (B := B + 7) g0 v507 (by omega) (hJ681.up (by omega)) (by omega) (by omega) (fun m684 hJ685 km684 => ?_)
            have kkm6840 := km684 0
            have kkm684g0 := km684 g0
            show X (EE s) d 26 136 [(0, zr g0 8), (2, zi v507), (4, zi v514)] [] m684 _
            refine X.iload 138 i26_136 rfl rfl rfl ?_
            refine X.reti i26_138 rfl t26 ?_
            exact hQ v514 m684 (by first | trivial | omega) (hJ685.up (by omega))  (by omega) (by omega)
          · refine X.aload_n 122 i26_121 rfl rfl rfl ?_
            refine X.dup 123 i26_122 rfl rfl rfl ?_
            refine X.getI 126 9 i26_123 rfl rfl (by decide) rfl rfl rfl ?_
            refine X.iconst 127 i26_126 rfl rfl (by decide) ?_
            refine X.iadd 128 i26_127 rfl rfl (by omega) ?_
            refine X.putI' 131 9 i26_128 rfl rfl (by decide) rfl rfl rfl (fun hrm687 m687 hm687 => ?_)
            have hJ688 := w8_9 hJ681 hm687 (by omega)
            have em687 : m687 g0 8 9 = ((m680 g0 8 9) + 1) := by rw [hm687]; exact z_upd_same _ _ _ _ _
            refine X.cut [(0, zr g0 8), (2, zi v507), (4, zi v514)] i26_131 rfl ?_
            refine X.aload_n 132 i26_131 rfl rfl rfl ?_
            refine X.iload_n 133 i26_132 rfl rfl rfl ?_
            refine X.callv 136 [zi v507] [] [(0, zr g0 8), (1, zi v507)] i26_133 rfl (by decide) rfl rfl (by omega) rfl rfl (by decide) rfl t59 (Nat.le_of_ble_eq_true rfl) (Nat.le_of_ble_eq_true rfl) rfl ?_
            refine c59_1 (B := B + 7) g0 v507 (by omega) (hJ688.up (by omega)) (by omega) (by omega) (fun m689 hJ690 km689 => ?_)
            have kkm6890 := km689 0
            have kkm689g0 := km689 g0
            show X (EE s) d 26 136 [(0, zr g0 8), (2, zi v507), (4, zi v514)] [] m689 _
            refine X.iload 138 i26_136 rfl rfl rfl ?_
            refine X.reti i26_138 rfl t26 ?_
            exact hQ v514 m689 (by first | trivial | omega) (hJ690.up (by omega))  (by omega) (by omega)
        · refine X.bipush 45 i53_43 rfl rfl (by decide) ?_
          refine X.goto 50 i53_45 rfl rfl ?_
          refine X.cut [] i53_50 rfl ?_
          refine X.iconst 51 i53_50 rfl rfl (by decide) ?_
          refine X.callv 54 [zi 22, zi 0] [] [(0, zr g0 8), (1, zi 22), (2, zi 0)] i53_51 rfl (by decide) rfl rfl (by omega) rfl rfl (by decide) rfl t54 (Nat.le_of_ble_eq_true rfl) (Nat.le_of_ble_eq_true rfl) rfl ?_
          refine X.aload_n 1 i54_0 rfl rfl rfl ?_
          refine X.getR 4 i54_1 rfl rfl (by decide) rfl rfl ?_
          refine X.aload_n 5 i54_4 rfl rfl rfl ?_
          refine X.getI 8 9 i54_5 rfl rfl (by decide) rfl rfl rfl ?_
          have h692 := r8_9 hJ654 g0
          refine X.iload_n 9 i54_8 rfl rfl rfl ?_
          refine X.iload_n 10 i54_9 rfl rfl rfl ?_
          refine X.callv 13 [zi (m653 g0 8 9), zi 22, zi 0] [] [(0, zr g0 37), (1, zi (m653 g0 8 9)), (2, zi 22), (3, zi 0)] i54_10 rfl (by decide) rfl rfl (by omega) rfl rfl (by decide) rfl t55 (Nat.le_of_ble_eq_true rfl) (Nat.le_of_ble_eq_true rfl) rfl ?_
          refine X.aload_n 1 i55_0 rfl rfl rfl ?_
          refine X.getI 4 1 i55_1 rfl rfl (by decide) rfl rfl rfl ?_
          have h693 := r37_1 hJ654 g0
          refine X.bipush 6 i55_4 rfl rfl (by decide) ?_
          refine X.irem 7 i55_6 rfl rfl (by omega) ?_
          refine X.iconst 8 i55_7 rfl rfl (by decide) ?_
          refine X.imul 9 i55_8 rfl rfl (by omega) ?_
          refine X.istore 11 [(0, zr g0 37), (1, zi (m653 g0 8 9)), (2, zi 22), (3, zi 0), (4, zi (((m653 g0 37 1) % 40) * 3))] i55_9 rfl rfl rfl ?_
          refine X.aload_n 12 i55_11 rfl rfl rfl ?_
          refine X.getR 15 i55_12 rfl rfl (by decide) rfl rfl ?_
          refine X.iload 17 i55_15 rfl rfl rfl ?_
          refine X.iload_n 18 i55_17 rfl rfl rfl ?_
          refine X.iast' 19 i55_18 rfl rfl (by decide) rfl (by omega) (fun hrm694 m694 hm694 => ?_)
          have hJ695 := w38_0 hJ654 hm694 (by omega) hrm694
          have kum694 : m694 g0 8 9 = m653 g0 8 9 := by rw [hm694]; exact z_upd_o _ _ rfl
          refine X.aload_n 20 i55_19 rfl rfl rfl ?_
          refine X.getR 23 i55_20 rfl rfl (by decide) rfl rfl ?_
          refine X.iload 25 i55_23 rfl rfl rfl ?_
          refine X.iconst 26 i55_25 rfl rfl (by decide) ?_
          refine X.iadd 27 i55_26 rfl rfl (by omega) ?_
          refine X.iload_n 28 i55_27 rfl rfl rfl ?_
          refine X.iast' 29 i55_28 rfl rfl (by decide) rfl (by omega) (fun hrm696 m696 hm696 => ?_)
          have hJ697 := w38_0 hJ695 hm696 (by omega) hrm696
          have kum696 : m696 g0 8 9 = m694 g0 8 9 := by rw [hm696]; exact z_upd_o _ _ rfl
          refine X.aload_n 30 i55_29 rfl rfl rfl ?_
          refine X.getR 33 i55_30 rfl rfl (by decide) rfl rfl ?_
          refine X.iload 35 i55_33 rfl rfl rfl ?_
          refine X.iconst 36 i55_35 rfl rfl (by decide) ?_
          refine X.iadd 37 i55_36 rfl rfl (by omega) ?_
          refine X.iload_n 38 i55_37 rfl rfl rfl ?_
          refine X.iast' 39 i55_38 rfl rfl (by decide) rfl (by omega) (fun hrm698 m698 hm698 => ?_)
          have hJ699 := w38_0 hJ697 hm698 (by omega) hrm698
          have kum698 : m698 g0 8 9 = m696 g0 8 9 := by rw [hm698]; exact z_upd_o _ _ rfl
          refine X.aload_n 40 i55_39 rfl rfl rfl ?_
          refine X.dup 41 i55_40 rfl rfl rfl ?_
          refine X.getI 44 1 i55_41 rfl rfl (by decide) rfl rfl rfl ?_
          have h700 := r37_1 hJ699 g0
          refine X.iconst 45 i55_44 rfl rfl (by decide) ?_
          refine X.iadd 46 i55_45 rfl rfl (by omega) ?_
          refine X.putI' 49 1 i55_46 rfl rfl (by decide) rfl rfl rfl (fun hrm701 m701 hm701 => ?_)
          have hJ702 := w37_1 (hJ699.up (B' := B + 1) (by omega)) hm701 (by omega)
          have kum701 : m701 g0 8 9 = m698 g0 8 9 := by rw [hm701]; exact z_upd_o _ _ rfl
          refine X.retv i55_49 rfl t55 ?_
          show X (EE s) ((d - 1) - 1) 54 13 [(0, zr g0 8), (1, zi 22), (2, zi 0)] [] m701 _
          refine X.retv i54_13 rfl t54 ?_
          show X (EE s) (d - 1) 53 54 [] [] m701 _
          refine X.retv i53_54 rfl t53 ?_
          show X (EE s) d 26 71 [(0, zr g0 8), (1, zi a1), (2, zi v507), (3, zi v511), (4, zi v514)] [] m701 _
          refine X.aload_n 72 i26_71 rfl rfl rfl ?_
          refine X.getR 75 i26_72 rfl rfl (by decide) rfl rfl ?_
          refine X.iload 77 i26_75 rfl rfl rfl ?_
          refine X.iload_n 78 i26_77 rfl rfl rfl ?_
          refine X.aload_n 79 i26_78 rfl rfl rfl ?_
          refine X.getR 82 i26_79 rfl rfl (by decide) rfl rfl ?_
          refine X.callv 85 [] [zi v511, zi v514, zr g0 33] [(0, zr g0 9)] i26_82 rfl (by decide) rfl rfl (by omega) rfl rfl (by decide) rfl t38 (Nat.le_of_ble_eq_true rfl) (Nat.le_of_ble_eq_true rfl) rfl ?_
          refine X.aload_n 1 i38_0 rfl rfl rfl ?_
          refine X.getR 4 i38_1 rfl rfl (by decide) rfl rfl ?_
          refine X.iconst 5 i38_4 rfl rfl (by decide) ?_
          refine X.iald 6 i38_5 rfl rfl (by decide) rfl (by omega) ?_
          have h703 := r10_0 hJ702 g0 (i := 3) (by omega)
          refine X.reti i38_6 rfl t38 ?_
          show X (EE s) d 26 85 [(0, zr g0 8), (1, zi a1), (2, zi v507), (3, zi v511), (4, zi v514)] [zi (m701 g0 10 3), zi v511, zi v514, zr g0 33] m701 _
          refine X.aload_n 86 i26_85 rfl rfl rfl ?_
          refine X.getR 89 i26_86 rfl rfl (by decide) rfl rfl ?_
          refine X.aload_n 90 i26_89 rfl rfl rfl ?_
          refine X.getI 93 9 i26_90 rfl rfl (by decide) rfl rfl rfl ?_
          have h704 := r8_9 hJ702 g0
          refine X.callv 96 [zi v514, zi v511, zi (m701 g0 10 3), zr g0 37, zi (m701 g0 8 9)] [] [(0, zr g0 33), (1, zi v514), (2, zi v511), (3, zi (m701 g0 10 3)), (4, zr g0 37), (5, zi (m701 g0 8 9))] i26_93 rfl (by decide) rfl rfl (by omega) rfl rfl (by decide) rfl t56 (Nat.le_of_ble_eq_true rfl) (Nat.le_of_ble_eq_true rfl) rfl ?_
          refine c56_1 (B := B + 1) g0 g0 v514 v511 (m701 g0 10 3) (m701 g0 8 9) (by omega) (hJ702.up (by omega)) (by omega) (by omega) (by omega) (by omega) (by omega) (fun m705 hJ706 km705 => ?_)
          have kkm7050 := km705 0
          have kkm705g0 := km705 g0
          show X (EE s) d 26 96 [(0, zr g0 8), (1, zi a1), (2, zi v507), (3, zi v511), (4, zi v514)] [] m705 _
          refine X.aload_n 97 i26_96 rfl rfl rfl ?_
          refine X.getR 100 i26_97 rfl rfl (by decide) rfl rfl ?_
          refine X.iload 102 i26_100 rfl rfl rfl ?_
          refine X.aload_n 103 i26_102 rfl rfl rfl ?_
          refine X.getR 106 i26_103 rfl rfl (by decide) rfl rfl ?_
          refine X.getIr 109 3 i26_106 rfl rfl (by decide) rfl rfl rfl (fun h708 => ?_)
          refine X.callv 112 [zi v514, zi (m705 g0 33 3)] [] [(0, zr g0 27), (1, zi v514), (2, zi (m705 g0 33 3))] i26_109 rfl (by decide) rfl rfl (by omega) rfl rfl (by decide) rfl t58 (Nat.le_of_ble_eq_true rfl) (Nat.le_of_ble_eq_true rfl) rfl ?_
          refine X.aload_n 1 i58_0 rfl rfl rfl ?_
          refine X.dup 2 i58_1 rfl rfl rfl ?_
          refine X.getIr 5 6 i58_2 rfl rfl (by decide) rfl rfl rfl (fun h709 => ?_)
          refine X.iload_n 6 i58_5 rfl rfl rfl ?_
          refine X.iiF 7 .iadd (fun x y => x + y) i58_6 rfl rfl rfl (fun _ _ => rfl) (fun z710 hz710 => ?_)
          refine X.putI' 10 6 i58_7 rfl rfl (by decide) rfl rfl rfl (fun hrm711 m711 hm711 => ?_)
          have hJ712 := w27_3 hJ706 hm711 (by omega) hrm711
          have kum711 : m711 g0 8 9 = m705 g0 8 9 := by rw [hm711]; exact z_upd_o _ _ rfl
          refine X.aload_n 11 i58_10 rfl rfl rfl ?_
          refine X.dup 12 i58_11 rfl rfl rfl ?_
          refine X.getIr 15 8 i58_12 rfl rfl (by decide) rfl rfl rfl (fun h713 => ?_)
          refine X.iload_n 16 i58_15 rfl rfl rfl ?_
          refine X.iiF 17 .ior (fun x y => x ||| y) i58_16 rfl rfl rfl (fun _ _ => rfl) (fun z714 hz714 => ?_)
          refine X.putI' 20 8 i58_17 rfl rfl (by decide) rfl rfl rfl (fun hrm715 m715 hm715 => ?_)
          have hJ716 := w27_3 hJ712 hm715 (by omega) hrm715
          have kum715 : m715 g0 8 9 = m711 g0 8 9 := by rw [hm715]; exact z_upd_o _ _ rfl
          refine X.retv i58_20 rfl t58 ?_
          show X (EE s) d 26 112 [(0, zr g0 8), (1, zi a1), (2, zi v507), (3, zi v511), (4, zi v514)] [] m715 _
          refine X.aload_n 113 i26_112 rfl rfl rfl ?_
          refine X.getI 116 9 i26_113 rfl rfl (by decide) rfl rfl rfl ?_
          have h717 := r8_9 hJ716 g0
          refine X.ldc 118 i26_116 rfl rfl (by decide) ?_
          refine X.icmpge 131 121 i26_118 rfl rfl rfl (fun h718 => ?_) (fun h718 => ?_)
          · refine X.cut [(0, zr g0 8), (2, zi v507), (4, zi v514)] i26_131 rfl ?_
            refine X.aload_n 132 i26_131 rfl rfl rfl ?_
            refine X.iload_n 133 i26_132 rfl rfl rfl ?_
            refine X.callv 136 [zi v507] [] [(0, zr g0 8), (1, zi v507)] i26_133 rfl (by decide) rfl rfl (by omega) rfl rfl (by decide) rfl t59 (Nat.le_of_ble_eq_true rfl) (Nat.le_of_ble_eq_true rfl) rfl ?_
            refine c59_1 (B := B + 7) g0 v507 (by omega) (hJ716.up (by omega)) (by omega) (by omega) (fun m719 hJ720 km719 => ?_)
            have kkm7190 := km719 0
            have kkm719g0 := km719 g0
            show X (EE s) d 26 136 [(0, zr g0 8), (2, zi v507), (4, zi v514)] [] m719 _
            refine X.iload 138 i26_136 rfl rfl rfl ?_
            refine X.reti i26_138 rfl t26 ?_
            exact hQ v514 m719 (by first | trivial | omega) (hJ720.up (by omega))  (by omega) (by omega)
          · refine X.aload_n 122 i26_121 rfl rfl rfl ?_
            refine X.dup 123 i26_122 rfl rfl rfl ?_
            refine X.getI 126 9 i26_123 rfl rfl (by decide) rfl rfl rfl ?_
            refine X.iconst 127 i26_126 rfl rfl (by decide) ?_
            refine X.iadd 128 i26_127 rfl rfl (by omega) ?_
            refine X.putI' 131 9 i26_128 rfl rfl (by decide) rfl rfl rfl (fun hrm722 m722 hm722 => ?_)
            have hJ723 := w8_9 hJ716 hm722 (by omega)
            have em722 : m722 g0 8 9 = ((m715 g0 8 9) + 1) := by rw [hm722]; exact z_upd_same _ _ _ _ _
            refine X.cut [(0, zr g0 8), (2, zi v507), (4, zi v514)] i26_131 rfl ?_
            refine X.aload_n 132 i26_131 rfl rfl rfl ?_
            refine X.iload_n 133 i26_132 rfl rfl rfl ?_
            refine X.callv 136 [zi v507] [] [(0, zr g0 8), (1, zi v507)] i26_133 rfl (by decide) rfl rfl (by omega) rfl rfl (by decide) rfl t59 (Nat.le_of_ble_eq_true rfl) (Nat.le_of_ble_eq_true rfl) rfl ?_
            refine c59_1 (B := B + 7) g0 v507 (by omega) (hJ723.up (by omega)) (by omega) (by omega) (fun m724 hJ725 km724 => ?_)
            have kkm7240 := km724 0
            have kkm724g0 := km724 g0
            show X (EE s) d 26 136 [(0, zr g0 8), (2, zi v507), (4, zi v514)] [] m724 _
            refine X.iload 138 i26_136 rfl rfl rfl ?_
            refine X.reti i26_138 rfl t26 ?_
            exact hQ v514 m724 (by first | trivial | omega) (hJ725.up (by omega))  (by omega) (by omega)
    · have h627c : (m523 g0 8 10) ≤ 0 := by omega
      clear h627 hz626
      refine X.iconst 17 i53_16 rfl rfl (by decide) ?_
      refine X.goto 21 i53_17 rfl rfl ?_
      refine X.istore_n 22 [(0, zr g0 8), (1, zi 1)] i53_21 rfl rfl rfl ?_
      refine X.iload_n 23 i53_22 rfl rfl rfl ?_
      refine X.aload_n 24 i53_23 rfl rfl rfl ?_
      refine X.getZ 27 12 i53_24 rfl rfl (by decide) rfl rfl rfl (fun h727 => ?_)
      refine X.icmpeq 54 30 i53_27 rfl rfl rfl (fun h728 => ?_) (fun h728 => ?_)
      · refine X.cut [] i53_54 rfl ?_
        refine X.retv i53_54 rfl t53 ?_
        show X (EE s) d 26 71 [(0, zr g0 8), (1, zi a1), (2, zi v507), (3, zi v511), (4, zi v514)] [] m523 _
        refine X.aload_n 72 i26_71 rfl rfl rfl ?_
        refine X.getR 75 i26_72 rfl rfl (by decide) rfl rfl ?_
        refine X.iload 77 i26_75 rfl rfl rfl ?_
        refine X.iload_n 78 i26_77 rfl rfl rfl ?_
        refine X.aload_n 79 i26_78 rfl rfl rfl ?_
        refine X.getR 82 i26_79 rfl rfl (by decide) rfl rfl ?_
        refine X.callv 85 [] [zi v511, zi v514, zr g0 33] [(0, zr g0 9)] i26_82 rfl (by decide) rfl rfl (by omega) rfl rfl (by decide) rfl t38 (Nat.le_of_ble_eq_true rfl) (Nat.le_of_ble_eq_true rfl) rfl ?_
        refine X.aload_n 1 i38_0 rfl rfl rfl ?_
        refine X.getR 4 i38_1 rfl rfl (by decide) rfl rfl ?_
        refine X.iconst 5 i38_4 rfl rfl (by decide) ?_
        refine X.iald 6 i38_5 rfl rfl (by decide) rfl (by omega) ?_
        have h729 := r10_0 hJ524 g0 (i := 3) (by omega)
        refine X.reti i38_6 rfl t38 ?_
        show X (EE s) d 26 85 [(0, zr g0 8), (1, zi a1), (2, zi v507), (3, zi v511), (4, zi v514)] [zi (m523 g0 10 3), zi v511, zi v514, zr g0 33] m523 _
        refine X.aload_n 86 i26_85 rfl rfl rfl ?_
        refine X.getR 89 i26_86 rfl rfl (by decide) rfl rfl ?_
        refine X.aload_n 90 i26_89 rfl rfl rfl ?_
        refine X.getI 93 9 i26_90 rfl rfl (by decide) rfl rfl rfl ?_
        refine X.callv 96 [zi v514, zi v511, zi (m523 g0 10 3), zr g0 37, zi (m523 g0 8 9)] [] [(0, zr g0 33), (1, zi v514), (2, zi v511), (3, zi (m523 g0 10 3)), (4, zr g0 37), (5, zi (m523 g0 8 9))] i26_93 rfl (by decide) rfl rfl (by omega) rfl rfl (by decide) rfl t56 (Nat.le_of_ble_eq_true rfl) (Nat.le_of_ble_eq_true rfl) rfl ?_
        refine c56_1 (B := B) g0 g0 v514 v511 (m523 g0 10 3) (m523 g0 8 9) (by omega) (hJ524.up (by omega)) (by omega) (by omega) (by omega) (by omega) (by omega) (fun m730 hJ731 km730 => ?_)
        have kkm7300 := km730 0
        have kkm730g0 := km730 g0
        show X (EE s) d 26 96 [(0, zr g0 8), (1, zi a1), (2, zi v507), (3, zi v511), (4, zi v514)] [] m730 _
        refine X.aload_n 97 i26_96 rfl rfl rfl ?_
        refine X.getR 100 i26_97 rfl rfl (by decide) rfl rfl ?_
        refine X.iload 102 i26_100 rfl rfl rfl ?_
        refine X.aload_n 103 i26_102 rfl rfl rfl ?_
        refine X.getR 106 i26_103 rfl rfl (by decide) rfl rfl ?_
        refine X.getIr 109 3 i26_106 rfl rfl (by decide) rfl rfl rfl (fun h733 => ?_)
        refine X.callv 112 [zi v514, zi (m730 g0 33 3)] [] [(0, zr g0 27), (1, zi v514), (2, zi (m730 g0 33 3))] i26_109 rfl (by decide) rfl rfl (by omega) rfl rfl (by decide) rfl t58 (Nat.le_of_ble_eq_true rfl) (Nat.le_of_ble_eq_true rfl) rfl ?_
        refine X.aload_n 1 i58_0 rfl rfl rfl ?_
        refine X.dup 2 i58_1 rfl rfl rfl ?_
        refine X.getIr 5 6 i58_2 rfl rfl (by decide) rfl rfl rfl (fun h734 => ?_)
        refine X.iload_n 6 i58_5 rfl rfl rfl ?_
        refine X.iiF 7 .iadd (fun x y => x + y) i58_6 rfl rfl rfl (fun _ _ => rfl) (fun z735 hz735 => ?_)
        refine X.putI' 10 6 i58_7 rfl rfl (by decide) rfl rfl rfl (fun hrm736 m736 hm736 => ?_)
        have hJ737 := w27_3 hJ731 hm736 (by omega) hrm736
        have kum736 : m736 g0 8 9 = m730 g0 8 9 := by rw [hm736]; exact z_upd_o _ _ rfl
        refine X.aload_n 11 i58_10 rfl rfl rfl ?_
        refine X.dup 12 i58_11 rfl rfl rfl ?_
        refine X.getIr 15 8 i58_12 rfl rfl (by decide) rfl rfl rfl (fun h738 => ?_)
        refine X.iload_n 16 i58_15 rfl rfl rfl ?_
        refine X.iiF 17 .ior (fun x y => x ||| y) i58_16 rfl rfl rfl (fun _ _ => rfl) (fun z739 hz739 => ?_)
        refine X.putI' 20 8 i58_17 rfl rfl (by decide) rfl rfl rfl (fun hrm740 m740 hm740 => ?_)
        have hJ741 := w27_3 hJ737 hm740 (by omega) hrm740
        have kum740 : m740 g0 8 9 = m736 g0 8 9 := by rw [hm740]; exact z_upd_o _ _ rfl
        refine X.retv i58_20 rfl t58 ?_
        show X (EE s) d 26 112 [(0, zr g0 8), (1, zi a1), (2, zi v507), (3, zi v511), (4, zi v514)] [] m740 _
        refine X.aload_n 113 i26_112 rfl rfl rfl ?_
        refine X.getI 116 9 i26_113 rfl rfl (by decide) rfl rfl rfl ?_
        have h742 := r8_9 hJ741 g0
        refine X.ldc 118 i26_116 rfl rfl (by decide) ?_
        refine X.icmpge 131 121 i26_118 rfl rfl rfl (fun h743 => ?_) (fun h743 => ?_)
        · refine X.cut [(0, zr g0 8), (2, zi v507), (4, zi v514)] i26_131 rfl ?_
          refine X.aload_n 132 i26_131 rfl rfl rfl ?_
          refine X.iload_n 133 i26_132 rfl rfl rfl ?_
          refine X.callv 136 [zi v507] [] [(0, zr g0 8), (1, zi v507)] i26_133 rfl (by decide) rfl rfl (by omega) rfl rfl (by decide) rfl t59 (Nat.le_of_ble_eq_true rfl) (Nat.le_of_ble_eq_true rfl) rfl ?_
          refine c59_1 (B := B + 6) g0 v507 (by omega) (hJ741.up (by omega)) (by omega) (by omega) (fun m744 hJ745 km744 => ?_)
          have kkm7440 := km744 0
          have kkm744g0 := km744 g0
          show X (EE s) d 26 136 [(0, zr g0 8), (2, zi v507), (4, zi v514)] [] m744 _
          refine X.iload 138 i26_136 rfl rfl rfl ?_
          refine X.reti i26_138 rfl t26 ?_
          exact hQ v514 m744 (by first | trivial | omega) (hJ745.up (by omega))  (by omega) (by omega)
        · refine X.aload_n 122 i26_121 rfl rfl rfl ?_
          refine X.dup 123 i26_122 rfl rfl rfl ?_
          refine X.getI 126 9 i26_123 rfl rfl (by decide) rfl rfl rfl ?_
          refine X.iconst 127 i26_126 rfl rfl (by decide) ?_
          refine X.iadd 128 i26_127 rfl rfl (by omega) ?_
          refine X.putI' 131 9 i26_128 rfl rfl (by decide) rfl rfl rfl (fun hrm747 m747 hm747 => ?_)
          have hJ748 := w8_9 hJ741 hm747 (by omega)
          have em747 : m747 g0 8 9 = ((m740 g0 8 9) + 1) := by rw [hm747]; exact z_upd_same _ _ _ _ _
          refine X.cut [(0, zr g0 8), (2, zi v507), (4, zi v514)] i26_131 rfl ?_
          refine X.aload_n 132 i26_131 rfl rfl rfl ?_
          refine X.iload_n 133 i26_132 rfl rfl rfl ?_
          refine X.callv 136 [zi v507] [] [(0, zr g0 8), (1, zi v507)] i26_133 rfl (by decide) rfl rfl (by omega) rfl rfl (by decide) rfl t59 (Nat.le_of_ble_eq_true rfl) (Nat.le_of_ble_eq_true rfl) rfl ?_
          refine c59_1 (B := B + 6) g0 v507 (by omega) (hJ748.up (by omega)) (by omega) (by omega) (fun m749 hJ750 km749 => ?_)
          have kkm7490 := km749 0
          have kkm749g0 := km749 g0
          show X (EE s) d 26 136 [(0, zr g0 8), (2, zi v507), (4, zi v514)] [] m749 _
          refine X.iload 138 i26_136 rfl rfl rfl ?_
          refine X.reti i26_138 rfl t26 ?_
          exact hQ v514 m749 (by first | trivial | omega) (hJ750.up (by omega))  (by omega) (by omega)
      · refine X.aload_n 31 i53_30 rfl rfl rfl ?_
        refine X.iload_n 32 i53_31 rfl rfl rfl ?_
        refine X.putZ' 35 12 i53_32 rfl rfl (by decide) rfl rfl rfl (by omega) (fun hrm752 m752 hm752 => ?_)
        have hJ753 := w8_12 hJ524 hm752 (by omega)
        have kum752 : m752 g0 8 9 = m523 g0 8 9 := by rw [hm752]; exact z_upd_o _ _ rfl
        refine X.aload_n 36 i53_35 rfl rfl rfl ?_
        refine X.aload_n 37 i53_36 rfl rfl rfl ?_
        refine X.getZ 40 12 i53_37 rfl rfl (by decide) rfl rfl rfl (fun h754 => ?_)
        refine X.ifeq 48 43 i53_40 rfl rfl rfl (fun h755 => ?_) (fun h755 => ?_)
        · refine X.cut [] i53_48 rfl ?_
          refine X.bipush 50 i53_48 rfl rfl (by decide) ?_
          refine X.iconst 51 i53_50 rfl rfl (by decide) ?_
          refine X.callv 54 [zi 23, zi 0] [] [(0, zr g0 8), (1, zi 23), (2, zi 0)] i53_51 rfl (by decide) rfl rfl (by omega) rfl rfl (by decide) rfl t54 (Nat.le_of_ble_eq_true rfl) (Nat.le_of_ble_eq_true rfl) rfl ?_
          refine X.aload_n 1 i54_0 rfl rfl rfl ?_
          refine X.getR 4 i54_1 rfl rfl (by decide) rfl rfl ?_
          refine X.aload_n 5 i54_4 rfl rfl rfl ?_
          refine X.getI 8 9 i54_5 rfl rfl (by decide) rfl rfl rfl ?_
          have h756 := r8_9 hJ753 g0
          refine X.iload_n 9 i54_8 rfl rfl rfl ?_
          refine X.iload_n 10 i54_9 rfl rfl rfl ?_
          refine X.callv 13 [zi (m752 g0 8 9), zi 23, zi 0] [] [(0, zr g0 37), (1, zi (m752 g0 8 9)), (2, zi 23), (3, zi 0)] i54_10 rfl (by decide) rfl rfl (by omega) rfl rfl (by decide) rfl t55 (Nat.le_of_ble_eq_true rfl) (Nat.le_of_ble_eq_true rfl) rfl ?_
          refine X.aload_n 1 i55_0 rfl rfl rfl ?_
          refine X.getI 4 1 i55_1 rfl rfl (by decide) rfl rfl rfl ?_
          have h757 := r37_1 hJ753 g0
          refine X.bipush 6 i55_4 rfl rfl (by decide) ?_
          refine X.irem 7 i55_6 rfl rfl (by omega) ?_
          refine X.iconst 8 i55_7 rfl rfl (by decide) ?_
          refine X.imul 9 i55_8 rfl rfl (by omega) ?_
          refine X.istore 11 [(0, zr g0 37), (1, zi (m752 g0 8 9)), (2, zi 23), (3, zi 0), (4, zi (((m752 g0 37 1) % 40) * 3))] i55_9 rfl rfl rfl ?_
          refine X.aload_n 12 i55_11 rfl rfl rfl ?_
          refine X.getR 15 i55_12 rfl rfl (by decide) rfl rfl ?_
          refine X.iload 17 i55_15 rfl rfl rfl ?_
          refine X.iload_n 18 i55_17 rfl rfl rfl ?_
          refine X.iast' 19 i55_18 rfl rfl (by decide) rfl (by omega) (fun hrm758 m758 hm758 => ?_)
          have hJ759 := w38_0 hJ753 hm758 (by omega) hrm758
          have kum758 : m758 g0 8 9 = m752 g0 8 9 := by rw [hm758]; exact z_upd_o _ _ rfl
          refine X.aload_n 20 i55_19 rfl rfl rfl ?_
          refine X.getR 23 i55_20 rfl rfl (by decide) rfl rfl ?_
          refine X.iload 25 i55_23 rfl rfl rfl ?_
          refine X.iconst 26 i55_25 rfl rfl (by decide) ?_
          refine X.iadd 27 i55_26 rfl rfl (by omega) ?_
          refine X.iload_n 28 i55_27 rfl rfl rfl ?_
          refine X.iast' 29 i55_28 rfl rfl (by decide) rfl (by omega) (fun hrm760 m760 hm760 => ?_)
          have hJ761 := w38_0 hJ759 hm760 (by omega) hrm760
          have kum760 : m760 g0 8 9 = m758 g0 8 9 := by rw [hm760]; exact z_upd_o _ _ rfl
          refine X.aload_n 30 i55_29 rfl rfl rfl ?_
          refine X.getR 33 i55_30 rfl rfl (by decide) rfl rfl ?_
          refine X.iload 35 i55_33 rfl rfl rfl ?_
          refine X.iconst 36 i55_35 rfl rfl (by decide) ?_
          refine X.iadd 37 i55_36 rfl rfl (by omega) ?_
          refine X.iload_n 38 i55_37 rfl rfl rfl ?_
          refine X.iast' 39 i55_38 rfl rfl (by decide) rfl (by omega) (fun hrm762 m762 hm762 => ?_)
          have hJ763 := w38_0 hJ761 hm762 (by omega) hrm762
          have kum762 : m762 g0 8 9 = m760 g0 8 9 := by rw [hm762]; exact z_upd_o _ _ rfl
          refine X.aload_n 40 i55_39 rfl rfl rfl ?_
          refine X.dup 41 i55_40 rfl rfl rfl ?_
          refine X.getI 44 1 i55_41 rfl rfl (by decide) rfl rfl rfl ?_
          have h764 := r37_1 hJ763 g0
          refine X.iconst 45 i55_44 rfl rfl (by decide) ?_
          refine X.iadd 46 i55_45 rfl rfl (by omega) ?_
          refine X.putI' 49 1 i55_46 rfl rfl (by decide) rfl rfl rfl (fun hrm765 m765 hm765 => ?_)
          have hJ766 := w37_1 (hJ763.up (B' := B + 1) (by omega)) hm765 (by omega)
          have kum765 : m765 g0 8 9 = m762 g0 8 9 := by rw [hm765]; exact z_upd_o _ _ rfl
          refine X.retv i55_49 rfl t55 ?_
          show X (EE s) ((d - 1) - 1) 54 13 [(0, zr g0 8), (1, zi 23), (2, zi 0)] [] m765 _
          refine X.retv i54_13 rfl t54 ?_
          show X (EE s) (d - 1) 53 54 [] [] m765 _
          refine X.retv i53_54 rfl t53 ?_
          show X (EE s) d 26 71 [(0, zr g0 8), (1, zi a1), (2, zi v507), (3, zi v511), (4, zi v514)] [] m765 _
          refine X.aload_n 72 i26_71 rfl rfl rfl ?_
          refine X.getR 75 i26_72 rfl rfl (by decide) rfl rfl ?_
          refine X.iload 77 i26_75 rfl rfl rfl ?_
          refine X.iload_n 78 i26_77 rfl rfl rfl ?_
          refine X.aload_n 79 i26_78 rfl rfl rfl ?_
          refine X.getR 82 i26_79 rfl rfl (by decide) rfl rfl ?_
          refine X.callv 85 [] [zi v511, zi v514, zr g0 33] [(0, zr g0 9)] i26_82 rfl (by decide) rfl rfl (by omega) rfl rfl (by decide) rfl t38 (Nat.le_of_ble_eq_true rfl) (Nat.le_of_ble_eq_true rfl) rfl ?_
          refine X.aload_n 1 i38_0 rfl rfl rfl ?_
          refine X.getR 4 i38_1 rfl rfl (by decide) rfl rfl ?_
          refine X.iconst 5 i38_4 rfl rfl (by decide) ?_
          refine X.iald 6 i38_5 rfl rfl (by decide) rfl (by omega) ?_
          have h767 := r10_0 hJ766 g0 (i := 3) (by omega)
          refine X.reti i38_6 rfl t38 ?_
          show X (EE s) d 26 85 [(0, zr g0 8), (1, zi a1), (2, zi v507), (3, zi v511), (4, zi v514)] [zi (m765 g0 10 3), zi v511, zi v514, zr g0 33] m765 _
          refine X.aload_n 86 i26_85 rfl rfl rfl ?_
          refine X.getR 89 i26_86 rfl rfl (by decide) rfl rfl ?_
          refine X.aload_n 90 i26_89 rfl rfl rfl ?_
          refine X.getI 93 9 i26_90 rfl rfl (by decide) rfl rfl rfl ?_
          have h768 := r8_9 hJ766 g0
          refine X.callv 96 [zi v514, zi v511, zi (m765 g0 10 3), zr g0 37, zi (m765 g0 8 9)] [] [(0, zr g0 33), (1, zi v514), (2, zi v511), (3, zi (m765 g0 10 3)), (4, zr g0 37), (5, zi (m765 g0 8 9))] i26_93 rfl (by decide) rfl rfl (by omega) rfl rfl (by decide) rfl t56 (Nat.le_of_ble_eq_true rfl) (Nat.le_of_ble_eq_true rfl) rfl ?_
          refine c56_1 (B := B + 1) g0 g0 v514 v511 (m765 g0 10 3) (m765 g0 8 9) (by omega) (hJ766.up (by omega)) (by omega) (by omega) (by omega) (by omega) (by omega) (fun m769 hJ770 km769 => ?_)
          have kkm7690 := km769 0
          have kkm769g0 := km769 g0
          show X (EE s) d 26 96 [(0, zr g0 8), (1, zi a1), (2, zi v507), (3, zi v511), (4, zi v514)] [] m769 _
          refine X.aload_n 97 i26_96 rfl rfl rfl ?_
          refine X.getR 100 i26_97 rfl rfl (by decide) rfl rfl ?_
          refine X.iload 102 i26_100 rfl rfl rfl ?_
          refine X.aload_n 103 i26_102 rfl rfl rfl ?_
          refine X.getR 106 i26_103 rfl rfl (by decide) rfl rfl ?_
          refine X.getIr 109 3 i26_106 rfl rfl (by decide) rfl rfl rfl (fun h772 => ?_)
          refine X.callv 112 [zi v514, zi (m769 g0 33 3)] [] [(0, zr g0 27), (1, zi v514), (2, zi (m769 g0 33 3))] i26_109 rfl (by decide) rfl rfl (by omega) rfl rfl (by decide) rfl t58 (Nat.le_of_ble_eq_true rfl) (Nat.le_of_ble_eq_true rfl) rfl ?_
          refine X.aload_n 1 i58_0 rfl rfl rfl ?_
          refine X.dup 2 i58_1 rfl rfl rfl ?_
          refine X.getIr 5 6 i58_2 rfl rfl (by decide) rfl rfl rfl (fun h773 => ?_)
          refine X.iload_n 6 i58_5 rfl rfl rfl ?_
          refine X.iiF 7 .iadd (fun x y => x + y) i58_6 rfl rfl rfl (fun _ _ => rfl) (fun z774 hz774 => ?_)
          refine X.putI' 10 6 i58_7 rfl rfl (by decide) rfl rfl rfl (fun hrm775 m775 hm775 => ?_)
          have hJ776 := w27_3 hJ770 hm775 (by omega) hrm775
          have kum775 : m775 g0 8 9 = m769 g0 8 9 := by rw [hm775]; exact z_upd_o _ _ rfl
          refine X.aload_n 11 i58_10 rfl rfl rfl ?_
          refine X.dup 12 i58_11 rfl rfl rfl ?_
          refine X.getIr 15 8 i58_12 rfl rfl (by decide) rfl rfl rfl (fun h777 => ?_)
          refine X.iload_n 16 i58_15 rfl rfl rfl ?_
          refine X.iiF 17 .ior (fun x y => x ||| y) i58_16 rfl rfl rfl (fun _ _ => rfl) (fun z778 hz778 => ?_)
          refine X.putI' 20 8 i58_17 rfl rfl (by decide) rfl rfl rfl (fun hrm779 m779 hm779 => ?_)
          have hJ780 := w27_3 hJ776 hm779 (by omega) hrm779
          have kum779 : m779 g0 8 9 = m775 g0 8 9 := by rw [hm779]; exact z_upd_o _ _ rfl
          refine X.retv i58_20 rfl t58 ?_
          show X (EE s) d 26 112 [(0, zr g0 8), (1, zi a1), (2, zi v507), (3, zi v511), (4, zi v514)] [] m779 _
          refine X.aload_n 113 i26_112 rfl rfl rfl ?_
          refine X.getI 116 9 i26_113 rfl rfl (by decide) rfl rfl rfl ?_
          have h781 := r8_9 hJ780 g0
          refine X.ldc 118 i26_116 rfl rfl (by decide) ?_
          refine X.icmpge 131 121 i26_118 rfl rfl rfl (fun h782 => ?_) (fun h782 => ?_)
          · refine X.cut [(0, zr g0 8), (2, zi v507), (4, zi v514)] i26_131 rfl ?_
            refine X.aload_n 132 i26_131 rfl rfl rfl ?_
            refine X.iload_n 133 i26_132 rfl rfl rfl ?_
            refine X.callv 136 [zi v507] [] [(0, zr g0 8), (1, zi v507)] i26_133 rfl (by decide) rfl rfl (by omega) rfl rfl (by decide) rfl t59 (Nat.le_of_ble_eq_true rfl) (Nat.le_of_ble_eq_true rfl) rfl ?_
            refine c59_1 (B := B + 7) g0 v507 (by omega) (hJ780.up (by omega)) (by omega) (by omega) (fun m783 hJ784 km783 => ?_)
            have kkm7830 := km783 0
            have kkm783g0 := km783 g0
            show X (EE s) d 26 136 [(0, zr g0 8), (2, zi v507), (4, zi v514)] [] m783 _
            refine X.iload 138 i26_136 rfl rfl rfl ?_
            refine X.reti i26_138 rfl t26 ?_
            exact hQ v514 m783 (by first | trivial | omega) (hJ784.up (by omega))  (by omega) (by omega)
          · refine X.aload_n 122 i26_121 rfl rfl rfl ?_
            refine X.dup 123 i26_122 rfl rfl rfl ?_
            refine X.getI 126 9 i26_123 rfl rfl (by decide) rfl rfl rfl ?_
            refine X.iconst 127 i26_126 rfl rfl (by decide) ?_
            refine X.iadd 128 i26_127 rfl rfl (by omega) ?_
            refine X.putI' 131 9 i26_128 rfl rfl (by decide) rfl rfl rfl (fun hrm786 m786 hm786 => ?_)
            have hJ787 := w8_9 hJ780 hm786 (by omega)
            have em786 : m786 g0 8 9 = ((m779 g0 8 9) + 1) := by rw [hm786]; exact z_upd_same _ _ _ _ _
            refine X.cut [(0, zr g0 8), (2, zi v507), (4, zi v514)] i26_131 rfl ?_
            refine X.aload_n 132 i26_131 rfl rfl rfl ?_
            refine X.iload_n 133 i26_132 rfl rfl rfl ?_
            refine X.callv 136 [zi v507] [] [(0, zr g0 8), (1, zi v507)] i26_133 rfl (by decide) rfl rfl (by omega) rfl rfl (by decide) rfl t59 (Nat.le_of_ble_eq_true rfl) (Nat.le_of_ble_eq_true rfl) rfl ?_
            refine c59_1 (B := B + 7) g0 v507 (by omega) (hJ787.up (by omega)) (by omega) (by omega) (fun m788 hJ789 km788 => ?_)
            have kkm7880 := km788 0
            have kkm788g0 := km788 g0
            show X (EE s) d 26 136 [(0, zr g0 8), (2, zi v507), (4, zi v514)] [] m788 _
            refine X.iload 138 i26_136 rfl rfl rfl ?_
            refine X.reti i26_138 rfl t26 ?_
            exact hQ v514 m788 (by first | trivial | omega) (hJ789.up (by omega))  (by omega) (by omega)
        · refine X.bipush 45 i53_43 rfl rfl (by decide) ?_
          refine X.goto 50 i53_45 rfl rfl ?_
          refine X.cut [] i53_50 rfl ?_
          refine X.iconst 51 i53_50 rfl rfl (by decide) ?_
          refine X.callv 54 [zi 22, zi 0] [] [(0, zr g0 8), (1, zi 22), (2, zi 0)] i53_51 rfl (by decide) rfl rfl (by omega) rfl rfl (by decide) rfl t54 (Nat.le_of_ble_eq_true rfl) (Nat.le_of_ble_eq_true rfl) rfl ?_
          refine X.aload_n 1 i54_0 rfl rfl rfl ?_
          refine X.getR 4 i54_1 rfl rfl (by decide) rfl rfl ?_
          refine X.aload_n 5 i54_4 rfl rfl rfl ?_
          refine X.getI 8 9 i54_5 rfl rfl (by decide) rfl rfl rfl ?_
          have h791 := r8_9 hJ753 g0
          refine X.iload_n 9 i54_8 rfl rfl rfl ?_
          refine X.iload_n 10 i54_9 rfl rfl rfl ?_
          refine X.callv 13 [zi (m752 g0 8 9), zi 22, zi 0] [] [(0, zr g0 37), (1, zi (m752 g0 8 9)), (2, zi 22), (3, zi 0)] i54_10 rfl (by decide) rfl rfl (by omega) rfl rfl (by decide) rfl t55 (Nat.le_of_ble_eq_true rfl) (Nat.le_of_ble_eq_true rfl) rfl ?_
          refine X.aload_n 1 i55_0 rfl rfl rfl ?_
          refine X.getI 4 1 i55_1 rfl rfl (by decide) rfl rfl rfl ?_
          have h792 := r37_1 hJ753 g0
          refine X.bipush 6 i55_4 rfl rfl (by decide) ?_
          refine X.irem 7 i55_6 rfl rfl (by omega) ?_
          refine X.iconst 8 i55_7 rfl rfl (by decide) ?_
          refine X.imul 9 i55_8 rfl rfl (by omega) ?_
          refine X.istore 11 [(0, zr g0 37), (1, zi (m752 g0 8 9)), (2, zi 22), (3, zi 0), (4, zi (((m752 g0 37 1) % 40) * 3))] i55_9 rfl rfl rfl ?_
          refine X.aload_n 12 i55_11 rfl rfl rfl ?_
          refine X.getR 15 i55_12 rfl rfl (by decide) rfl rfl ?_
          refine X.iload 17 i55_15 rfl rfl rfl ?_
          refine X.iload_n 18 i55_17 rfl rfl rfl ?_
          refine X.iast' 19 i55_18 rfl rfl (by decide) rfl (by omega) (fun hrm793 m793 hm793 => ?_)
          have hJ794 := w38_0 hJ753 hm793 (by omega) hrm793
          have kum793 : m793 g0 8 9 = m752 g0 8 9 := by rw [hm793]; exact z_upd_o _ _ rfl
          refine X.aload_n 20 i55_19 rfl rfl rfl ?_
          refine X.getR 23 i55_20 rfl rfl (by decide) rfl rfl ?_
          refine X.iload 25 i55_23 rfl rfl rfl ?_
          refine X.iconst 26 i55_25 rfl rfl (by decide) ?_
          refine X.iadd 27 i55_26 rfl rfl (by omega) ?_
          refine X.iload_n 28 i55_27 rfl rfl rfl ?_
          refine X.iast' 29 i55_28 rfl rfl (by decide) rfl (by omega) (fun hrm795 m795 hm795 => ?_)
          have hJ796 := w38_0 hJ794 hm795 (by omega) hrm795
          have kum795 : m795 g0 8 9 = m793 g0 8 9 := by rw [hm795]; exact z_upd_o _ _ rfl
          refine X.aload_n 30 i55_29 rfl rfl rfl ?_
          refine X.getR 33 i55_30 rfl rfl (by decide) rfl rfl ?_
          refine X.iload 35 i55_33 rfl rfl rfl ?_
          refine X.iconst 36 i55_35 rfl rfl (by decide) ?_
          refine X.iadd 37 i55_36 rfl rfl (by omega) ?_
          refine X.iload_n 38 i55_37 rfl rfl rfl ?_
          refine X.iast' 39 i55_38 rfl rfl (by decide) rfl (by omega) (fun hrm797 m797 hm797 => ?_)
          have hJ798 := w38_0 hJ796 hm797 (by omega) hrm797
          have kum797 : m797 g0 8 9 = m795 g0 8 9 := by rw [hm797]; exact z_upd_o _ _ rfl
          refine X.aload_n 40 i55_39 rfl rfl rfl ?_
          refine X.dup 41 i55_40 rfl rfl rfl ?_
          refine X.getI 44 1 i55_41 rfl rfl (by decide) rfl rfl rfl ?_
          have h799 := r37_1 hJ798 g0
          refine X.iconst 45 i55_44 rfl rfl (by decide) ?_
          refine X.iadd 46 i55_45 rfl rfl (by omega) ?_
          refine X.putI' 49 1 i55_46 rfl rfl (by decide) rfl rfl rfl (fun hrm800 m800 hm800 => ?_)
          have hJ801 := w37_1 (hJ798.up (B' := B + 1) (by omega)) hm800 (by omega)
          have kum800 : m800 g0 8 9 = m797 g0 8 9 := by rw [hm800]; exact z_upd_o _ _ rfl
          refine X.retv i55_49 rfl t55 ?_
          show X (EE s) ((d - 1) - 1) 54 13 [(0, zr g0 8), (1, zi 22), (2, zi 0)] [] m800 _
          refine X.retv i54_13 rfl t54 ?_
          show X (EE s) (d - 1) 53 54 [] [] m800 _
          refine X.retv i53_54 rfl t53 ?_
          show X (EE s) d 26 71 [(0, zr g0 8), (1, zi a1), (2, zi v507), (3, zi v511), (4, zi v514)] [] m800 _
          refine X.aload_n 72 i26_71 rfl rfl rfl ?_
          refine X.getR 75 i26_72 rfl rfl (by decide) rfl rfl ?_
          refine X.iload 77 i26_75 rfl rfl rfl ?_
          refine X.iload_n 78 i26_77 rfl rfl rfl ?_
          refine X.aload_n 79 i26_78 rfl rfl rfl ?_
          refine X.getR 82 i26_79 rfl rfl (by decide) rfl rfl ?_
          refine X.callv 85 [] [zi v511, zi v514, zr g0 33] [(0, zr g0 9)] i26_82 rfl (by decide) rfl rfl (by omega) rfl rfl (by decide) rfl t38 (Nat.le_of_ble_eq_true rfl) (Nat.le_of_ble_eq_true rfl) rfl ?_
          refine X.aload_n 1 i38_0 rfl rfl rfl ?_
          refine X.getR 4 i38_1 rfl rfl (by decide) rfl rfl ?_
          refine X.iconst 5 i38_4 rfl rfl (by decide) ?_
          refine X.iald 6 i38_5 rfl rfl (by decide) rfl (by omega) ?_
          have h802 := r10_0 hJ801 g0 (i := 3) (by omega)
          refine X.reti i38_6 rfl t38 ?_
          show X (EE s) d 26 85 [(0, zr g0 8), (1, zi a1), (2, zi v507), (3, zi v511), (4, zi v514)] [zi (m800 g0 10 3), zi v511, zi v514, zr g0 33] m800 _
          refine X.aload_n 86 i26_85 rfl rfl rfl ?_
          refine X.getR 89 i26_86 rfl rfl (by decide) rfl rfl ?_
          refine X.aload_n 90 i26_89 rfl rfl rfl ?_
          refine X.getI 93 9 i26_90 rfl rfl (by decide) rfl rfl rfl ?_
          have h803 := r8_9 hJ801 g0
          refine X.callv 96 [zi v514, zi v511, zi (m800 g0 10 3), zr g0 37, zi (m800 g0 8 9)] [] [(0, zr g0 33), (1, zi v514), (2, zi v511), (3, zi (m800 g0 10 3)), (4, zr g0 37), (5, zi (m800 g0 8 9))] i26_93 rfl (by decide) rfl rfl (by omega) rfl rfl (by decide) rfl t56 (Nat.le_of_ble_eq_true rfl) (Nat.le_of_ble_eq_true rfl) rfl ?_
          refine c56_1 (B := B + 1) g0 g0 v514 v511 (m800 g0 10 3) (m800 g0 8 9) (by omega) (hJ801.up (by omega)) (by omega) (by omega) (by omega) (by omega) (by omega) (fun m804 hJ805 km804 => ?_)
          have kkm8040 := km804 0
          have kkm804g0 := km804 g0
          show X (EE s) d 26 96 [(0, zr g0 8), (1, zi a1), (2, zi v507), (3, zi v511), (4, zi v514)] [] m804 _
          refine X.aload_n 97 i26_96 rfl rfl rfl ?_
          refine X.getR 100 i26_97 rfl rfl (by decide) rfl rfl ?_
          refine X.iload 102 i26_100 rfl rfl rfl ?_
          refine X.aload_n 103 i26_102 rfl rfl rfl ?_
          refine X.getR 106 i26_103 rfl rfl (by decide) rfl rfl ?_
          refine X.getIr 109 3 i26_106 rfl rfl (by decide) rfl rfl rfl (fun h807 => ?_)
          refine X.callv 112 [zi v514, zi (m804 g0 33 3)] [] [(0, zr g0 27), (1, zi v514), (2, zi (m804 g0 33 3))] i26_109 rfl (by decide) rfl rfl (by omega) rfl rfl (by decide) rfl t58 (Nat.le_of_ble_eq_true rfl) (Nat.le_of_ble_eq_true rfl) rfl ?_
          refine X.aload_n 1 i58_0 rfl rfl rfl ?_
          refine X.dup 2 i58_1 rfl rfl rfl ?_
          refine X.getIr 5 6 i58_2 rfl rfl (by decide) rfl rfl rfl (fun h808 => ?_)
          refine X.iload_n 6 i58_5 rfl rfl rfl ?_
          refine X.iiF 7 .iadd (fun x y => x + y) i58_6 rfl rfl rfl (fun _ _ => rfl) (fun z809 hz809 => ?_)
          refine X.putI' 10 6 i58_7 rfl rfl (by decide) rfl rfl rfl (fun hrm810 m810 hm810 => ?_)
          have hJ811 := w27_3 hJ805 hm810 (by omega) hrm810
          have kum810 : m810 g0 8 9 = m804 g0 8 9 := by rw [hm810]; exact z_upd_o _ _ rfl
          refine X.aload_n 11 i58_10 rfl rfl rfl ?_
          refine X.dup 12 i58_11 rfl rfl rfl ?_
          refine X.getIr 15 8 i58_12 rfl rfl (by decide) rfl rfl rfl (fun h812 => ?_)
          refine X.iload_n 16 i58_15 rfl rfl rfl ?_
          refine X.iiF 17 .ior (fun x y => x ||| y) i58_16 rfl rfl rfl (fun _ _ => rfl) (fun z813 hz813 => ?_)
          refine X.putI' 20 8 i58_17 rfl rfl (by decide) rfl rfl rfl (fun hrm814 m814 hm814 => ?_)
          have hJ815 := w27_3 hJ811 hm814 (by omega) hrm814
          have kum814 : m814 g0 8 9 = m810 g0 8 9 := by rw [hm814]; exact z_upd_o _ _ rfl
          refine X.retv i58_20 rfl t58 ?_
          show X (EE s) d 26 112 [(0, zr g0 8), (1, zi a1), (2, zi v507), (3, zi v511), (4, zi v514)] [] m814 _
          refine X.aload_n 113 i26_112 rfl rfl rfl ?_
          refine X.getI 116 9 i26_113 rfl rfl (by decide) rfl rfl rfl ?_
          have h816 := r8_9 hJ815 g0
          refine X.ldc 118 i26_116 rfl rfl (by decide) ?_
          refine X.icmpge 131 121 i26_118 rfl rfl rfl (fun h817 => ?_) (fun h817 => ?_)
          · refine X.cut [(0, zr g0 8), (2, zi v507), (4, zi v514)] i26_131 rfl ?_
            refine X.aload_n 132 i26_131 rfl rfl rfl ?_
            refine X.iload_n 133 i26_132 rfl rfl rfl ?_
            refine X.callv 136 [zi v507] [] [(0, zr g0 8), (1, zi v507)] i26_133 rfl (by decide) rfl rfl (by omega) rfl rfl (by decide) rfl t59 (Nat.le_of_ble_eq_true rfl) (Nat.le_of_ble_eq_true rfl) rfl ?_
            refine c59_1 (B := B + 7) g0 v507 (by omega) (hJ815.up (by omega)) (by omega) (by omega) (fun m818 hJ819 km818 => ?_)
            have kkm8180 := km818 0
            have kkm818g0 := km818 g0
            show X (EE s) d 26 136 [(0, zr g0 8), (2, zi v507), (4, zi v514)] [] m818 _
            refine X.iload 138 i26_136 rfl rfl rfl ?_
            refine X.reti i26_138 rfl t26 ?_
            exact hQ v514 m818 (by first | trivial | omega) (hJ819.up (by omega))  (by omega) (by omega)
          · refine X.aload_n 122 i26_121 rfl rfl rfl ?_
            refine X.dup 123 i26_122 rfl rfl rfl ?_
            refine X.getI 126 9 i26_123 rfl rfl (by decide) rfl rfl rfl ?_
            refine X.iconst 127 i26_126 rfl rfl (by decide) ?_
            refine X.iadd 128 i26_127 rfl rfl (by omega) ?_
            refine X.putI' 131 9 i26_128 rfl rfl (by decide) rfl rfl rfl (fun hrm821 m821 hm821 => ?_)
            have hJ822 := w8_9 hJ815 hm821 (by omega)
            have em821 : m821 g0 8 9 = ((m814 g0 8 9) + 1) := by rw [hm821]; exact z_upd_same _ _ _ _ _
            refine X.cut [(0, zr g0 8), (2, zi v507), (4, zi v514)] i26_131 rfl ?_
            refine X.aload_n 132 i26_131 rfl rfl rfl ?_
            refine X.iload_n 133 i26_132 rfl rfl rfl ?_
            refine X.callv 136 [zi v507] [] [(0, zr g0 8), (1, zi v507)] i26_133 rfl (by decide) rfl rfl (by omega) rfl rfl (by decide) rfl t59 (Nat.le_of_ble_eq_true rfl) (Nat.le_of_ble_eq_true rfl) rfl ?_
            refine c59_1 (B := B + 7) g0 v507 (by omega) (hJ822.up (by omega)) (by omega) (by omega) (fun m823 hJ824 km823 => ?_)
            have kkm8230 := km823 0
            have kkm823g0 := km823 g0
            show X (EE s) d 26 136 [(0, zr g0 8), (2, zi v507), (4, zi v514)] [] m823 _
            refine X.iload 138 i26_136 rfl rfl rfl ?_
            refine X.reti i26_138 rfl t26 ?_
            exact hQ v514 m823 (by first | trivial | omega) (hJ824.up (by omega))  (by omega) (by omega)
theorem l39_6_2 {s : Nat × (Nat → Int32)} {m0 m : zM} {B : Int} {d : Nat} {Q : Option zV → zM → Prop} (g0 : Nat) (y1 y2 y3 : Int) (hd : 13 ≤ d) (hJ : J m0 B m) (hB9 : B ≤ 1000000000) (hy1 : (-2147483648) ≤ y1 ∧ y1 ≤ 2147483647) (hy2 : 0 ≤ y2 ∧ y2 ≤ 1000000) (hy3 : (-1999999999) ≤ y3 ∧ y3 ≤ 1000000)
    (K43 : ∀ (x4 x5 x6 : Int) , ((-1999999999) ≤ x4 ∧ x4 ≤ 1000000) → (2 ≤ x5 ∧ x5 ≤ 4) → (0 ≤ x6 ∧ x6 ≤ 0) → (1 ≤ x4) → (x4 ≤ y3) → X (EE s) d 39 43 [(0, zr g0 33), (1, zi y1), (2, zi y2), (4, zi x4), (5, zi x5), (6, zi x6)] [] m Q)
    (K87 : ∀ (x4 : Int) , ((-1999999999) ≤ x4 ∧ x4 ≤ 1000000) → (1 ≤ x4) → (x4 ≤ y3) → X (EE s) d 39 87 [(4, zi x4)] [] m Q) :
    ∀ (n : Nat) (y4 y5 : Int) , ((-1999999999) ≤ y4 ∧ y4 ≤ 1000000) → (2 ≤ y5 ∧ y5 ≤ 5) → (1 ≤ y4) → (y4 ≤ y3) → 5 - y5 < (n : Int) → X (EE s) d 39 6 [(0, zr g0 33), (1, zi y1), (2, zi y2), (4, zi y4), (5, zi y5)] [] m Q := by
  intro n
  induction n with
  | zero =>
    intro y4 y5 hy4 hy5 hr0 hr1 hn
    exfalso
    omega
  | succ n ih =>
    intro y4 y5 hy4 hy5 hr0 hr1 hn
    refine X.iload 8 i39_6 rfl rfl rfl ?_
    refine X.iconst 9 i39_8 rfl rfl (by decide) ?_
    refine X.icmpge 87 12 i39_9 rfl rfl rfl (fun h541 => ?_) (fun h541 => ?_)
    · refine X.cut [(4, zi y4)] i39_87 rfl ?_
      exact K87 y4 (by first | trivial | omega) (by omega) (by omega)
    · refine X.iload_n 13 i39_12 rfl rfl rfl ?_
      refine X.iload 15 i39_13 rfl rfl rfl ?_
      refine X.iiF 16 .ishr (fun x y => x >>> (y &&& 31)) i39_15 rfl rfl rfl (fun _ _ => rfl) (fun z542 hz542 => ?_)
      refine X.iconst 17 i39_16 rfl rfl (by decide) ?_
      refine X.andF 18 1 i39_17 rfl rfl (by decide) (.inl rfl) (fun z543 hz543 => ?_)
      refine X.iconst 19 i39_18 rfl rfl (by decide) ?_
      refine X.icmpne 26 22 i39_19 rfl rfl rfl (fun h544 => ?_) (fun h544 => ?_)
      · refine X.iconst 27 i39_26 rfl rfl (by decide) ?_
        refine X.istore 29 [(0, zr g0 33), (1, zi y1), (2, zi y2), (4, zi y4), (5, zi y5), (6, zi 0)] i39_27 rfl rfl rfl ?_
        refine X.aload_n 30 i39_29 rfl rfl rfl ?_
        refine X.iload 32 i39_30 rfl rfl rfl ?_
        refine X.callv 35 [zi y5] [] [(0, zr g0 33), (1, zi y5)] i39_32 rfl (by decide) rfl rfl (by omega) rfl rfl (by decide) rfl t40 (Nat.le_of_ble_eq_true rfl) (Nat.le_of_ble_eq_true rfl) rfl ?_
        refine X.aload_n 1 i40_0 rfl rfl rfl ?_
        refine X.getIr 4 3 i40_1 rfl rfl (by decide) rfl rfl rfl (fun h545 => ?_)
        refine X.iload_n 5 i40_4 rfl rfl rfl ?_
        refine X.iiF 6 .ishr (fun x y => x >>> (y &&& 31)) i40_5 rfl rfl rfl (fun _ _ => rfl) (fun z546 hz546 => ?_)
        refine X.iconst 7 i40_6 rfl rfl (by decide) ?_
        refine X.andF 8 1 i40_7 rfl rfl (by decide) (.inl rfl) (fun z547 hz547 => ?_)
        refine X.iconst 9 i40_8 rfl rfl (by decide) ?_
        refine X.icmpne 16 12 i40_9 rfl rfl rfl (fun h548 => ?_) (fun h548 => ?_)
        · refine X.cut [] i40_16 rfl ?_
          refine X.iconst 17 i40_16 rfl rfl (by decide) ?_
          refine X.retz i40_17 rfl t40 (by omega) ?_
          show X (EE s) d 39 35 [(0, zr g0 33), (1, zi y1), (2, zi y2), (4, zi y4), (5, zi y5), (6, zi 0)] [zi 0] m _
          refine X.ifeq 45 38 i39_35 rfl rfl rfl (fun h549 => ?_) (fun h549 => (by exfalso; omega))
          refine X.aload_n 46 i39_45 rfl rfl rfl ?_
          refine X.iload 48 i39_46 rfl rfl rfl ?_
          refine X.callv 51 [zi y5] [] [(0, zr g0 33), (1, zi y5)] i39_48 rfl (by decide) rfl rfl (by omega) rfl rfl (by decide) rfl t40 (Nat.le_of_ble_eq_true rfl) (Nat.le_of_ble_eq_true rfl) rfl ?_
          refine X.aload_n 1 i40_0 rfl rfl rfl ?_
          refine X.getI 4 3 i40_1 rfl rfl (by decide) rfl rfl rfl ?_
          refine X.iload_n 5 i40_4 rfl rfl rfl ?_
          refine X.iiF 6 .ishr (fun x y => x >>> (y &&& 31)) i40_5 rfl rfl rfl (fun _ _ => rfl) (fun z550 hz550 => ?_)
          refine X.iconst 7 i40_6 rfl rfl (by decide) ?_
          refine X.andF 8 1 i40_7 rfl rfl (by decide) (.inl rfl) (fun z551 hz551 => ?_)
          refine X.iconst 9 i40_8 rfl rfl (by decide) ?_
          refine X.icmpne 16 12 i40_9 rfl rfl rfl (fun h552 => ?_) (fun h552 => ?_)
          · refine X.cut [] i40_16 rfl ?_
            refine X.iconst 17 i40_16 rfl rfl (by decide) ?_
            refine X.retz i40_17 rfl t40 (by omega) ?_
            show X (EE s) d 39 51 [(0, zr g0 33), (1, zi y1), (2, zi y2), (4, zi y4), (5, zi y5), (6, zi 0)] [zi 0] m _
            refine X.ifne 81 54 i39_51 rfl rfl rfl (fun h553 => (by exfalso; omega)) (fun h553 => ?_)
            refine X.iload 56 i39_54 rfl rfl rfl ?_
            refine X.ifeq 81 59 i39_56 rfl rfl rfl (fun h554 => ?_) (fun h554 => (by exfalso; omega))
            refine X.cut [(0, zr g0 33), (1, zi y1), (2, zi y2), (4, zi y4), (5, zi y5)] i39_81 rfl ?_
            refine X.iinc 84 [(0, zr g0 33), (1, zi y1), (2, zi y2), (4, zi y4), (5, zi (y5 + 1))] i39_81 rfl rfl rfl (by omega) rfl ?_
            refine X.goto 6 i39_84 rfl rfl ?_
            exact ih y4 (y5 + 1) (by omega) (by omega) (by omega) (by omega) (by omega)
          · refine X.iconst 13 i40_12 rfl rfl (by decide) ?_
            refine X.goto 17 i40_13 rfl rfl ?_
            refine X.cut [] i40_17 rfl ?_
            refine X.retz i40_17 rfl t40 (by omega) ?_
            show X (EE s) d 39 51 [(0, zr g0 33), (1, zi y1), (2, zi y2), (4, zi y4), (5, zi y5), (6, zi 0)] [zi 1] m _
            refine X.ifne 81 54 i39_51 rfl rfl rfl (fun h555 => ?_) (fun h555 => (by exfalso; omega))
            refine X.cut [(0, zr g0 33), (1, zi y1), (2, zi y2), (4, zi y4), (5, zi y5)] i39_81 rfl ?_
            refine X.iinc 84 [(0, zr g0 33), (1, zi y1), (2, zi y2), (4, zi y4), (5, zi (y5 + 1))] i39_81 rfl rfl rfl (by omega) rfl ?_
            refine X.goto 6 i39_84 rfl rfl ?_
            exact ih y4 (y5 + 1) (by omega) (by omega) (by omega) (by omega) (by omega)
        · refine X.iconst 13 i40_12 rfl rfl (by decide) ?_
          refine X.goto 17 i40_13 rfl rfl ?_
          refine X.cut [] i40_17 rfl ?_
          refine X.retz i40_17 rfl t40 (by omega) ?_
          show X (EE s) d 39 35 [(0, zr g0 33), (1, zi y1), (2, zi y2), (4, zi y4), (5, zi y5), (6, zi 0)] [zi 1] m _
          refine X.ifeq 45 38 i39_35 rfl rfl rfl (fun h556 => (by exfalso; omega)) (fun h556 => ?_)
          refine X.iload 40 i39_38 rfl rfl rfl ?_
          refine X.ifne 45 43 i39_40 rfl rfl rfl (fun h557 => (by exfalso; omega)) (fun h557 => ?_)
          exact K43 y4 y5 0 (by first | trivial | omega) (by first | trivial | omega) (by first | trivial | omega) (by omega) (by omega)
      · refine X.iconst 23 i39_22 rfl rfl (by decide) ?_
        refine X.goto 27 i39_23 rfl rfl ?_
        refine X.istore 29 [(0, zr g0 33), (1, zi y1), (2, zi y2), (4, zi y4), (5, zi y5), (6, zi 1)] i39_27 rfl rfl rfl ?_
        refine X.aload_n 30 i39_29 rfl rfl rfl ?_
        refine X.iload 32 i39_30 rfl rfl rfl ?_
        refine X.callv 35 [zi y5] [] [(0, zr g0 33), (1, zi y5)] i39_32 rfl (by decide) rfl rfl (by omega) rfl rfl (by decide) rfl t40 (Nat.le_of_ble_eq_true rfl) (Nat.le_of_ble_eq_true rfl) rfl ?_
        refine X.aload_n 1 i40_0 rfl rfl rfl ?_
        refine X.getIr 4 3 i40_1 rfl rfl (by decide) rfl rfl rfl (fun h558 => ?_)
        refine X.iload_n 5 i40_4 rfl rfl rfl ?_
        refine X.iiF 6 .ishr (fun x y => x >>> (y &&& 31)) i40_5 rfl rfl rfl (fun _ _ => rfl) (fun z559 hz559 => ?_)
        refine X.iconst 7 i40_6 rfl rfl (by decide) ?_
        refine X.andF 8 1 i40_7 rfl rfl (by decide) (.inl rfl) (fun z560 hz560 => ?_)
        refine X.iconst 9 i40_8 rfl rfl (by decide) ?_
        refine X.icmpne 16 12 i40_9 rfl rfl rfl (fun h561 => ?_) (fun h561 => ?_)
        · refine X.cut [] i40_16 rfl ?_
          refine X.iconst 17 i40_16 rfl rfl (by decide) ?_
          refine X.retz i40_17 rfl t40 (by omega) ?_
          show X (EE s) d 39 35 [(0, zr g0 33), (1, zi y1), (2, zi y2), (4, zi y4), (5, zi y5), (6, zi 1)] [zi 0] m _
          refine X.ifeq 45 38 i39_35 rfl rfl rfl (fun h562 => ?_) (fun h562 => (by exfalso; omega))
          refine X.aload_n 46 i39_45 rfl rfl rfl ?_
          refine X.iload 48 i39_46 rfl rfl rfl ?_
          refine X.callv 51 [zi y5] [] [(0, zr g0 33), (1, zi y5)] i39_48 rfl (by decide) rfl rfl (by omega) rfl rfl (by decide) rfl t40 (Nat.le_of_ble_eq_true rfl) (Nat.le_of_ble_eq_true rfl) rfl ?_
          refine X.aload_n 1 i40_0 rfl rfl rfl ?_
          refine X.getI 4 3 i40_1 rfl rfl (by decide) rfl rfl rfl ?_
          refine X.iload_n 5 i40_4 rfl rfl rfl ?_
          refine X.iiF 6 .ishr (fun x y => x >>> (y &&& 31)) i40_5 rfl rfl rfl (fun _ _ => rfl) (fun z563 hz563 => ?_)
          refine X.iconst 7 i40_6 rfl rfl (by decide) ?_
          refine X.andF 8 1 i40_7 rfl rfl (by decide) (.inl rfl) (fun z564 hz564 => ?_)
          refine X.iconst 9 i40_8 rfl rfl (by decide) ?_
          refine X.icmpne 16 12 i40_9 rfl rfl rfl (fun h565 => ?_) (fun h565 => ?_)
          · refine X.cut [] i40_16 rfl ?_
            refine X.iconst 17 i40_16 rfl rfl (by decide) ?_
            refine X.retz i40_17 rfl t40 (by omega) ?_
            show X (EE s) d 39 51 [(0, zr g0 33), (1, zi y1), (2, zi y2), (4, zi y4), (5, zi y5), (6, zi 1)] [zi 0] m _
            refine X.ifne 81 54 i39_51 rfl rfl rfl (fun h566 => (by exfalso; omega)) (fun h566 => ?_)
            refine X.iload 56 i39_54 rfl rfl rfl ?_
            refine X.ifeq 81 59 i39_56 rfl rfl rfl (fun h567 => (by exfalso; omega)) (fun h567 => ?_)
            refine X.iload 61 i39_59 rfl rfl rfl ?_
            refine X.iconst 62 i39_61 rfl rfl (by decide) ?_
            refine X.iload_n 63 i39_62 rfl rfl rfl ?_
            refine X.iconst 64 i39_63 rfl rfl (by decide) ?_
            refine X.iadd 65 i39_64 rfl rfl (by omega) ?_
            refine X.aload_n 66 i39_65 rfl rfl rfl ?_
            refine X.getR 69 i39_66 rfl rfl (by decide) rfl rfl ?_
            refine X.iload 71 i39_69 rfl rfl rfl ?_
            refine X.ialdr 72 i39_71 rfl rfl (by decide) rfl (by omega) (fun h568 => ?_)
            refine X.iiF 73 .isub (fun x y => x - y) i39_72 rfl rfl rfl (fun _ _ => rfl) (fun z569 hz569 => ?_)
            refine X.maxI 76 i39_73 rfl rfl (by omega) (Nat.le_of_ble_eq_true rfl) ?_
            refine X.minI 79 i39_76 rfl rfl (by omega) (Nat.le_of_ble_eq_true rfl) ?_
            refine X.istore 81 [(0, zr g0 33), (1, zi y1), (2, zi y2), (4, zi (min y4 (max 1 z569))), (5, zi y5), (6, zi 1)] i39_79 rfl rfl rfl ?_
            refine X.cut [(0, zr g0 33), (1, zi y1), (2, zi y2), (4, zi (min y4 (max 1 z569))), (5, zi y5)] i39_81 rfl ?_
            refine X.iinc 84 [(0, zr g0 33), (1, zi y1), (2, zi y2), (4, zi (min y4 (max 1 z569))), (5, zi (y5 + 1))] i39_81 rfl rfl rfl (by omega) rfl ?_
            refine X.goto 6 i39_84 rfl rfl ?_
            exact ih (min y4 (max 1 z569)) (y5 + 1) (by omega) (by omega) (by omega) (by omega) (by omega)
          · refine X.iconst 13 i40_12 rfl rfl (by decide) ?_
            refine X.goto 17 i40_13 rfl rfl ?_
            refine X.cut [] i40_17 rfl ?_
            refine X.retz i40_17 rfl t40 (by omega) ?_
            show X (EE s) d 39 51 [(0, zr g0 33), (1, zi y1), (2, zi y2), (4, zi y4), (5, zi y5), (6, zi 1)] [zi 1] m _
            refine X.ifne 81 54 i39_51 rfl rfl rfl (fun h570 => ?_) (fun h570 => (by exfalso; omega))
            refine X.cut [(0, zr g0 33), (1, zi y1), (2, zi y2), (4, zi y4), (5, zi y5)] i39_81 rfl ?_
            refine X.iinc 84 [(0, zr g0 33), (1, zi y1), (2, zi y2), (4, zi y4), (5, zi (y5 + 1))] i39_81 rfl rfl rfl (by omega) rfl ?_
            refine X.goto 6 i39_84 rfl rfl ?_
            exact ih y4 (y5 + 1) (by omega) (by omega) (by omega) (by omega) (by omega)
        · refine X.iconst 13 i40_12 rfl rfl (by decide) ?_
          refine X.goto 17 i40_13 rfl rfl ?_
          refine X.cut [] i40_17 rfl ?_
          refine X.retz i40_17 rfl t40 (by omega) ?_
          show X (EE s) d 39 35 [(0, zr g0 33), (1, zi y1), (2, zi y2), (4, zi y4), (5, zi y5), (6, zi 1)] [zi 1] m _
          refine X.ifeq 45 38 i39_35 rfl rfl rfl (fun h571 => (by exfalso; omega)) (fun h571 => ?_)
          refine X.iload 40 i39_38 rfl rfl rfl ?_
          refine X.ifne 45 43 i39_40 rfl rfl rfl (fun h572 => ?_) (fun h572 => (by exfalso; omega))
          refine X.aload_n 46 i39_45 rfl rfl rfl ?_
          refine X.iload 48 i39_46 rfl rfl rfl ?_
          refine X.callv 51 [zi y5] [] [(0, zr g0 33), (1, zi y5)] i39_48 rfl (by decide) rfl rfl (by omega) rfl rfl (by decide) rfl t40 (Nat.le_of_ble_eq_true rfl) (Nat.le_of_ble_eq_true rfl) rfl ?_
          refine X.aload_n 1 i40_0 rfl rfl rfl ?_
          refine X.getI 4 3 i40_1 rfl rfl (by decide) rfl rfl rfl ?_
          refine X.iload_n 5 i40_4 rfl rfl rfl ?_
          refine X.iiF 6 .ishr (fun x y => x >>> (y &&& 31)) i40_5 rfl rfl rfl (fun _ _ => rfl) (fun z573 hz573 => ?_)
          refine X.iconst 7 i40_6 rfl rfl (by decide) ?_
          refine X.andF 8 1 i40_7 rfl rfl (by decide) (.inl rfl) (fun z574 hz574 => ?_)
          refine X.iconst 9 i40_8 rfl rfl (by decide) ?_
          refine X.icmpne 16 12 i40_9 rfl rfl rfl (fun h575 => ?_) (fun h575 => ?_)
          · refine X.cut [] i40_16 rfl ?_
            refine X.iconst 17 i40_16 rfl rfl (by decide) ?_
            refine X.retz i40_17 rfl t40 (by omega) ?_
            show X (EE s) d 39 51 [(0, zr g0 33), (1, zi y1), (2, zi y2), (4, zi y4), (5, zi y5), (6, zi 1)] [zi 0] m _
            refine X.ifne 81 54 i39_51 rfl rfl rfl (fun h576 => (by exfalso; omega)) (fun h576 => ?_)
            refine X.iload 56 i39_54 rfl rfl rfl ?_
            refine X.ifeq 81 59 i39_56 rfl rfl rfl (fun h577 => (by exfalso; omega)) (fun h577 => ?_)
            refine X.iload 61 i39_59 rfl rfl rfl ?_
            refine X.iconst 62 i39_61 rfl rfl (by decide) ?_
            refine X.iload_n 63 i39_62 rfl rfl rfl ?_
            refine X.iconst 64 i39_63 rfl rfl (by decide) ?_
            refine X.iadd 65 i39_64 rfl rfl (by omega) ?_
            refine X.aload_n 66 i39_65 rfl rfl rfl ?_
            refine X.getR 69 i39_66 rfl rfl (by decide) rfl rfl ?_
            refine X.iload 71 i39_69 rfl rfl rfl ?_
            refine X.ialdr 72 i39_71 rfl rfl (by decide) rfl (by omega) (fun h578 => ?_)
            refine X.iiF 73 .isub (fun x y => x - y) i39_72 rfl rfl rfl (fun _ _ => rfl) (fun z579 hz579 => ?_)
            refine X.maxI 76 i39_73 rfl rfl (by omega) (Nat.le_of_ble_eq_true rfl) ?_
            refine X.minI 79 i39_76 rfl rfl (by omega) (Nat.le_of_ble_eq_true rfl) ?_
            refine X.istore 81 [(0, zr g0 33), (1, zi y1), (2, zi y2), (4, zi (min y4 (max 1 z579))), (5, zi y5), (6, zi 1)] i39_79 rfl rfl rfl ?_
            refine X.cut [(0, zr g0 33), (1, zi y1), (2, zi y2), (4, zi (min y4 (max 1 z579))), (5, zi y5)] i39_81 rfl ?_
            refine X.iinc 84 [(0, zr g0 33), (1, zi y1), (2, zi y2), (4, zi (min y4 (max 1 z579))), (5, zi (y5 + 1))] i39_81 rfl rfl rfl (by omega) rfl ?_
            refine X.goto 6 i39_84 rfl rfl ?_
            exact ih (min y4 (max 1 z579)) (y5 + 1) (by omega) (by omega) (by omega) (by omega) (by omega)
          · refine X.iconst 13 i40_12 rfl rfl (by decide) ?_
            refine X.goto 17 i40_13 rfl rfl ?_
            refine X.cut [] i40_17 rfl ?_
            refine X.retz i40_17 rfl t40 (by omega) ?_
            show X (EE s) d 39 51 [(0, zr g0 33), (1, zi y1), (2, zi y2), (4, zi y4), (5, zi y5), (6, zi 1)] [zi 1] m _
            refine X.ifne 81 54 i39_51 rfl rfl rfl (fun h580 => ?_) (fun h580 => (by exfalso; omega))
            refine X.cut [(0, zr g0 33), (1, zi y1), (2, zi y2), (4, zi y4), (5, zi y5)] i39_81 rfl ?_
            refine X.iinc 84 [(0, zr g0 33), (1, zi y1), (2, zi y2), (4, zi y4), (5, zi (y5 + 1))] i39_81 rfl rfl rfl (by omega) rfl ?_
            refine X.goto 6 i39_84 rfl rfl ?_
            exact ih y4 (y5 + 1) (by omega) (by omega) (by omega) (by omega) (by omega)
-- WorkMeter$Marks.secondsToTurn
theorem c39_2 {s : Nat × (Nat → Int32)} {m0 m : zM} {B : Int} {d : Nat} {Q : Option zV → zM → Prop} (g0 : Nat) (a1 a2 a3 : Int) (hd : 13 ≤ d) (hJ : J m0 B m) (hB : B + 0 ≤ 1000000000) (ha1 : (-2147483648) ≤ a1 ∧ a1 ≤ 2147483647) (ha2 : 0 ≤ a2 ∧ a2 ≤ 1000000) (ha3 : (-1999999999) ≤ a3 ∧ a3 ≤ 1000000) (hp0 : 1 ≤ a3) (hQ : ∀ (v : Int), ((-1999999999) ≤ v ∧ v ≤ 1000000) → (1 ≤ v) → (v ≤ a3) → Q (some (zi v)) m) : X (EE s) d 39 0 [(0, zr g0 33), (1, zi a1), (2, zi a2), (3, zi a3)] [] m Q := by
  refine X.iload_n 1 i39_0 rfl rfl rfl ?_
  refine X.istore 3 [(0, zr g0 33), (1, zi a1), (2, zi a2), (3, zi a3), (4, zi a3)] i39_1 rfl rfl rfl ?_
  refine X.iconst 4 i39_3 rfl rfl (by decide) ?_
  refine X.istore 6 [(0, zr g0 33), (1, zi a1), (2, zi a2), (3, zi a3), (4, zi a3), (5, zi 2)] i39_4 rfl rfl rfl ?_
  refine X.cut [(0, zr g0 33), (1, zi a1), (2, zi a2), (4, zi a3), (5, zi 2)] i39_6 rfl ?_
  refine l39_6_2 (s := s) (m0 := m0) (m := m) (B := B) (d := d) g0 a1 a2 a3 (by omega) (hJ.up (by omega)) (by omega) (by omega) (by omega) (by omega) (fun y501 y502 y503 hby501 hby502 hby503 hrlm5040 hrlm5041 => ?_) (fun y507 hby507 hrlm5080 hrlm5081 => ?_) ((5 - 2 : Int).toNat + 1) a3 2 (by omega) (by omega) (by omega) (by omega) (by omega)
  · refine X.iconst 44 i39_43 rfl rfl (by decide) ?_
    refine X.reti i39_44 rfl t39 ?_
    exact hQ 1 (by first | trivial | omega) (by omega) (by omega)
  · refine X.iload 89 i39_87 rfl rfl rfl ?_
    refine X.reti i39_89 rfl t39 ?_
    exact hQ y507 (by first | trivial | omega) (by omega) (by omega)
-- WorkMeter$Meter.secondsToOpen
theorem c41_2 {s : Nat × (Nat → Int32)} {m0 m : zM} {B : Int} {d : Nat} {Q : Option zV → zM → Prop} (g0 : Nat) (a1 a2 : Int) (hd : 14 ≤ d) (hJ : J m0 B m) (hB : B + 0 ≤ 1000000000) (ha1 : 0 ≤ a1 ∧ a1 ≤ 3) (ha2 : (-1999999999) ≤ a2 ∧ a2 ≤ 1000000) (hp0 : 1 ≤ a2) (hQ : ∀ (v : Int), ((-1999999999) ≤ v ∧ v ≤ 1000000) → (1 ≤ v) → (v ≤ a2) → Q (some (zi v)) m) : X (EE s) d 41 0 [(0, zr g0 8), (1, zi a1), (2, zi a2)] [] m Q := by
  refine X.aload_n 1 i41_0 rfl rfl rfl ?_
  refine X.getR 4 i41_1 rfl rfl (by decide) rfl rfl ?_
  refine X.callv 7 [] [] [(0, zr g0 19)] i41_4 rfl (by decide) rfl rfl (by omega) rfl rfl (by decide) rfl t42 (Nat.le_of_ble_eq_true rfl) (Nat.le_of_ble_eq_true rfl) rfl ?_
  refine X.aload_n 1 i42_0 rfl rfl rfl ?_
  refine X.getR 4 i42_1 rfl rfl (by decide) rfl rfl ?_
  refine X.iconst 5 i42_4 rfl rfl (by decide) ?_
  refine X.lald 6 i42_5 rfl rfl (by decide) rfl (by omega) ?_
  refine X.retl i42_6 rfl t42 ?_
  show X (EE s) d 41 7 [(0, zr g0 8), (1, zi a1), (2, zi a2)] [zl (m g0 22 3)] m _
  refine X.lstore_n 8 [(0, zr g0 8), (1, zi a1), (2, zi a2), (3, zl (m g0 22 3))] i41_7 rfl rfl rfl ?_
  refine X.aload_n 9 i41_8 rfl rfl rfl ?_
  refine X.getR 12 i41_9 rfl rfl (by decide) rfl rfl ?_
  refine X.iload_n 13 i41_12 rfl rfl rfl ?_
  refine X.callv 16 [zi a1] [] [(0, zr g0 9), (1, zi a1)] i41_13 rfl (by decide) rfl rfl (by omega) rfl rfl (by decide) rfl t43 (Nat.le_of_ble_eq_true rfl) (Nat.le_of_ble_eq_true rfl) rfl ?_
  refine X.aload_n 1 i43_0 rfl rfl rfl ?_
  refine X.getR 4 i43_1 rfl rfl (by decide) rfl rfl ?_
  refine X.bipush 6 i43_4 rfl rfl (by decide) ?_
  refine X.iload_n 7 i43_6 rfl rfl rfl ?_
  refine X.iadd 8 i43_7 rfl rfl (by omega) ?_
  refine X.iald 9 i43_8 rfl rfl (by decide) rfl (by omega) ?_
  have h501 := r10_6 hJ g0 (i := (6 + a1)) (by omega)
  refine X.reti i43_9 rfl t43 ?_
  show X (EE s) d 41 16 [(0, zr g0 8), (1, zi a1), (2, zi a2), (3, zl (m g0 22 3))] [zi (m g0 10 (6 + a1))] m _
  refine X.istore 18 [(0, zr g0 8), (1, zi a1), (2, zi a2), (3, zl (m g0 22 3)), (5, zi (m g0 10 (6 + a1)))] i41_16 rfl rfl rfl ?_
  refine X.aload_n 19 i41_18 rfl rfl rfl ?_
  refine X.getZ 22 11 i41_19 rfl rfl (by decide) rfl rfl rfl (fun h502 => ?_)
  refine X.ifeq 50 25 i41_22 rfl rfl rfl (fun h503 => ?_) (fun h503 => ?_)
  · refine X.cut [(2, zi a2)] i41_50 rfl ?_
    refine X.iload_n 51 i41_50 rfl rfl rfl ?_
    refine X.reti i41_51 rfl t41 ?_
    exact hQ a2 (by first | trivial | omega) (by omega) (by omega)
  · refine X.aload_n 26 i41_25 rfl rfl rfl ?_
    refine X.getZ 29 12 i41_26 rfl rfl (by decide) rfl rfl rfl (fun h504 => ?_)
    refine X.ifne 50 32 i41_29 rfl rfl rfl (fun h505 => ?_) (fun h505 => ?_)
    · refine X.cut [(2, zi a2)] i41_50 rfl ?_
      refine X.iload_n 51 i41_50 rfl rfl rfl ?_
      refine X.reti i41_51 rfl t41 ?_
      exact hQ a2 (by first | trivial | omega) (by omega) (by omega)
    · refine X.lload_n 33 i41_32 rfl rfl rfl ?_
      refine X.lconst (y := 0) 34 i41_33 rfl rfl rfl ?_
      refine X.lcmp 35 i41_34 rfl rfl (fun z506 hz506 => ?_)
      refine X.ifle 50 38 i41_35 rfl rfl rfl (fun h507 => ?_) (fun h507 => ?_)
      · have h507c : (m g0 22 3) ≤ 0 := by omega
        clear h507 hz506
        refine X.cut [(2, zi a2)] i41_50 rfl ?_
        refine X.iload_n 51 i41_50 rfl rfl rfl ?_
        refine X.reti i41_51 rfl t41 ?_
        exact hQ a2 (by first | trivial | omega) (by omega) (by omega)
      · have h507c : (m g0 22 3) > 0 := by omega
        clear h507 hz506
        refine X.iload 40 i41_38 rfl rfl rfl ?_
        refine X.ifle 50 43 i41_40 rfl rfl rfl (fun h508 => ?_) (fun h508 => ?_)
        · refine X.cut [(2, zi a2)] i41_50 rfl ?_
          refine X.iload_n 51 i41_50 rfl rfl rfl ?_
          refine X.reti i41_51 rfl t41 ?_
          exact hQ a2 (by first | trivial | omega) (by omega) (by omega)
        · refine X.aload_n 44 i41_43 rfl rfl rfl ?_
          refine X.callv 47 [] [] [(0, zr g0 8)] i41_44 rfl (by decide) rfl rfl (by omega) rfl rfl (by decide) rfl t44 (Nat.le_of_ble_eq_true rfl) (Nat.le_of_ble_eq_true rfl) rfl ?_
          refine c44_1 (B := B) g0  (by omega) (hJ.up (by omega)) (by omega)  (fun v511 hv511 => ?_)
          show X (EE s) d 41 47 [(0, zr g0 8), (1, zi a1), (2, zi a2), (3, zl (m g0 22 3)), (5, zi (m g0 10 (6 + a1)))] [zi v511] m _
          refine X.ifeq 52 50 i41_47 rfl rfl rfl (fun h512 => ?_) (fun h512 => ?_)
          · refine X.aload_n 53 i41_52 rfl rfl rfl ?_
            refine X.getL 56 10 i41_53 rfl rfl (by decide) rfl rfl rfl ?_
            refine X.iload 58 i41_56 rfl rfl rfl ?_
            refine X.i2l 59 i41_58 rfl rfl ?_
            refine X.llF 60 .ladd (fun x y => x + y) i41_59 rfl rfl rfl (fun _ _ => rfl) (fun z513 hz513 => ?_)
            refine X.lconst (y := 1) 61 i41_60 rfl rfl rfl ?_
            refine X.llF 62 .lsub (fun x y => x - y) i41_61 rfl rfl rfl (fun _ _ => rfl) (fun z514 hz514 => ?_)
            refine X.iload 64 i41_62 rfl rfl rfl ?_
            refine X.i2l 65 i41_64 rfl rfl ?_
            refine X.ldivF 66 i41_65 rfl rfl (by omega) (fun z515 => ?_)
            refine X.lstore 68 [(0, zr g0 8), (1, zi a1), (2, zi a2), (3, zl (m g0 22 3)), (5, zi (m g0 10 (6 + a1))), (6, zl z515)] i41_66 rfl rfl rfl ?_
            refine X.aload_n 69 i41_68 rfl rfl rfl ?_
            refine X.getR 72 i41_69 rfl rfl (by decide) rfl rfl ?_
            refine X.iload_n 73 i41_72 rfl rfl rfl ?_
            refine X.callv 76 [zi a1] [] [(0, zr g0 23), (1, zi a1)] i41_73 rfl (by decide) rfl rfl (by omega) rfl rfl (by decide) rfl t47 (Nat.le_of_ble_eq_true rfl) (Nat.le_of_ble_eq_true rfl) rfl ?_
            refine X.aload_n 1 i47_0 rfl rfl rfl ?_
            refine X.getR 4 i47_1 rfl rfl (by decide) rfl rfl ?_
            refine X.iconst 5 i47_4 rfl rfl (by decide) ?_
            refine X.iload_n 6 i47_5 rfl rfl rfl ?_
            refine X.iadd 7 i47_6 rfl rfl (by omega) ?_
            refine X.lald 8 i47_7 rfl rfl (by decide) rfl (by omega) ?_
            refine X.retl i47_8 rfl t47 ?_
            show X (EE s) d 41 76 [(0, zr g0 8), (1, zi a1), (2, zi a2), (3, zl (m g0 22 3)), (5, zi (m g0 10 (6 + a1))), (6, zl z515)] [zl (m g0 24 (0 + a1))] m _
            refine X.lstore 78 [(0, zr g0 8), (1, zi a1), (2, zi a2), (3, zl (m g0 22 3)), (5, zi (m g0 10 (6 + a1))), (6, zl z515), (8, zl (m g0 24 (0 + a1)))] i41_76 rfl rfl rfl ?_
            refine X.lload 80 i41_78 rfl rfl rfl ?_
            refine X.aload_n 81 i41_80 rfl rfl rfl ?_
            refine X.getR 84 i41_81 rfl rfl (by decide) rfl rfl ?_
            refine X.callv 87 [] [zl (m g0 24 (0 + a1))] [(0, zr g0 9)] i41_84 rfl (by decide) rfl rfl (by omega) rfl rfl (by decide) rfl t48 (Nat.le_of_ble_eq_true rfl) (Nat.le_of_ble_eq_true rfl) rfl ?_
            refine X.iconst 1 i48_0 rfl rfl (by decide) ?_
            refine X.aload_n 2 i48_1 rfl rfl rfl ?_
            refine X.getR 5 i48_2 rfl rfl (by decide) rfl rfl ?_
            refine X.iconst 6 i48_5 rfl rfl (by decide) ?_
            refine X.iald 7 i48_6 rfl rfl (by decide) rfl (by omega) ?_
            have h516 := r10_0 hJ g0 (i := 1) (by omega)
            refine X.maxI 10 i48_7 rfl rfl (by omega) (Nat.le_of_ble_eq_true rfl) ?_
            refine X.reti i48_10 rfl t48 ?_
            show X (EE s) d 41 87 [(0, zr g0 8), (1, zi a1), (2, zi a2), (3, zl (m g0 22 3)), (5, zi (m g0 10 (6 + a1))), (6, zl z515), (8, zl (m g0 24 (0 + a1)))] [zi (max 1 (m g0 10 1)), zl (m g0 24 (0 + a1))] m _
            refine X.i2l 88 i41_87 rfl rfl ?_
            refine X.ldivF 89 i41_88 rfl rfl (by omega) (fun z517 => ?_)
            refine X.lload 91 i41_89 rfl rfl rfl ?_
            refine X.llF 92 .ladd (fun x y => x + y) i41_91 rfl rfl rfl (fun _ _ => rfl) (fun z518 hz518 => ?_)
            refine X.aload_n 93 i41_92 rfl rfl rfl ?_
            refine X.getR 96 i41_93 rfl rfl (by decide) rfl rfl ?_
            refine X.callv 99 [] [zl z518] [(0, zr g0 9)] i41_96 rfl (by decide) rfl rfl (by omega) rfl rfl (by decide) rfl t48 (Nat.le_of_ble_eq_true rfl) (Nat.le_of_ble_eq_true rfl) rfl ?_
            refine X.iconst 1 i48_0 rfl rfl (by decide) ?_
            refine X.aload_n 2 i48_1 rfl rfl rfl ?_
            refine X.getR 5 i48_2 rfl rfl (by decide) rfl rfl ?_
            refine X.iconst 6 i48_5 rfl rfl (by decide) ?_
            refine X.iald 7 i48_6 rfl rfl (by decide) rfl (by omega) ?_
            refine X.maxI 10 i48_7 rfl rfl (by omega) (Nat.le_of_ble_eq_true rfl) ?_
            refine X.reti i48_10 rfl t48 ?_
            show X (EE s) d 41 99 [(0, zr g0 8), (1, zi a1), (2, zi a2), (3, zl (m g0 22 3)), (5, zi (m g0 10 (6 + a1))), (6, zl z515), (8, zl (m g0 24 (0 + a1)))] [zi (max 1 (m g0 10 1)), zl z518] m _
            refine X.i2l 100 i41_99 rfl rfl ?_
            refine X.llF 101 .lmul (fun x y => x * y) i41_100 rfl rfl rfl (fun _ _ => rfl) (fun z519 hz519 => ?_)
            refine X.lload 103 i41_101 rfl rfl rfl ?_
            refine X.llF 104 .lsub (fun x y => x - y) i41_103 rfl rfl rfl (fun _ _ => rfl) (fun z520 hz520 => ?_)
            refine X.lstore 106 [(0, zr g0 8), (1, zi a1), (2, zi a2), (3, zl (m g0 22 3)), (5, zi (m g0 10 (6 + a1))), (6, zl z515), (8, zl (m g0 24 (0 + a1))), (10, zl z520)] i41_104 rfl rfl rfl ?_
            refine X.lconst (y := 1) 107 i41_106 rfl rfl rfl ?_
            refine X.iload_n 108 i41_107 rfl rfl rfl ?_
            refine X.i2l 109 i41_108 rfl rfl ?_
            refine X.lload 111 i41_109 rfl rfl rfl ?_
            refine X.lload_n 112 i41_111 rfl rfl rfl ?_
            refine X.llF 113 .ladd (fun x y => x + y) i41_112 rfl rfl rfl (fun _ _ => rfl) (fun z521 hz521 => ?_)
            refine X.lconst (y := 1) 114 i41_113 rfl rfl rfl ?_
            refine X.llF 115 .lsub (fun x y => x - y) i41_114 rfl rfl rfl (fun _ _ => rfl) (fun z522 hz522 => ?_)
            refine X.lload_n 116 i41_115 rfl rfl rfl ?_
            refine X.ldivF 117 i41_116 rfl rfl (by omega) (fun z523 => ?_)
            refine X.minL 120 i41_117 rfl rfl (by omega) (Nat.le_of_ble_eq_true rfl) ?_
            refine X.maxL 123 i41_120 rfl rfl (by omega) (Nat.le_of_ble_eq_true rfl) ?_
            refine X.l2i 124 i41_123 rfl rfl (by omega) ?_
            refine X.reti i41_124 rfl t41 ?_
            exact hQ (max 1 (min a2 z523)) (by first | trivial | omega) (by omega) (by omega)
          · refine X.cut [(2, zi a2)] i41_50 rfl ?_
            refine X.iload_n 51 i41_50 rfl rfl rfl ?_
            refine X.reti i41_51 rfl t41 ?_
            exact hQ a2 (by first | trivial | omega) (by omega) (by omega)
-- WorkMeter$Meter.stretch
theorem c35_2 {s : Nat × (Nat → Int32)} {m0 m : zM} {B : Int} {d : Nat} {Q : Option zV → zM → Prop} (g0 : Nat) (a1 a2 a3 : Int) (hd : 16 ≤ d) (hJ : J m0 B m) (hB : B + 0 ≤ 1000000000) (ha1 : 1 ≤ a1 ∧ a1 ≤ 2000000000) (ha2 : 0 ≤ a2 ∧ a2 ≤ 3) (ha3 : (-2147483648) ≤ a3 ∧ a3 ≤ 2147483647) (hp0 : 1 ≤ a1) (hQ : ∀ (v : Int), ((-1999999999) ≤ v ∧ v ≤ 1000000) → (1 ≤ v) → (v + m g0 8 9 ≤ 2000000001) → (v ≤ a1) → Q (some (zi v)) m) : X (EE s) d 35 0 [(0, zr g0 8), (1, zi a1), (2, zi a2), (3, zi a3)] [] m Q := by
  refine X.aload_n 1 i35_0 rfl rfl rfl ?_
  refine X.getI 4 9 i35_1 rfl rfl (by decide) rfl rfl rfl ?_
  have h501 := r8_9 hJ g0
  refine X.ldc 6 i35_4 rfl rfl (by decide) ?_
  refine X.icmplt 11 9 i35_6 rfl rfl rfl (fun h502 => ?_) (fun h502 => ?_)
  · refine X.aload_n 12 i35_11 rfl rfl rfl ?_
    refine X.getR 15 i35_12 rfl rfl (by decide) rfl rfl ?_
    refine X.callv 18 [] [] [(0, zr g0 9)] i35_15 rfl (by decide) rfl rfl (by omega) rfl rfl (by decide) rfl t36 (Nat.le_of_ble_eq_true rfl) (Nat.le_of_ble_eq_true rfl) rfl ?_
    refine X.iconst 1 i36_0 rfl rfl (by decide) ?_
    refine X.aload_n 2 i36_1 rfl rfl rfl ?_
    refine X.getR 5 i36_2 rfl rfl (by decide) rfl rfl ?_
    refine X.iconst 6 i36_5 rfl rfl (by decide) ?_
    refine X.iald 7 i36_6 rfl rfl (by decide) rfl (by omega) ?_
    have h503 := r10_0 hJ g0 (i := 4) (by omega)
    refine X.maxI 10 i36_7 rfl rfl (by omega) (Nat.le_of_ble_eq_true rfl) ?_
    refine X.reti i36_10 rfl t36 ?_
    show X (EE s) d 35 18 [(0, zr g0 8), (1, zi a1), (2, zi a2), (3, zi a3)] [zi (max 1 (m g0 10 4))] m _
    refine X.istore 20 [(0, zr g0 8), (1, zi a1), (2, zi a2), (3, zi a3), (4, zi (max 1 (m g0 10 4)))] i35_18 rfl rfl rfl ?_
    refine X.iload_n 21 i35_20 rfl rfl rfl ?_
    refine X.ldc 23 i35_21 rfl rfl (by decide) ?_
    refine X.aload_n 24 i35_23 rfl rfl rfl ?_
    refine X.getI 27 9 i35_24 rfl rfl (by decide) rfl rfl rfl ?_
    refine X.isub 28 i35_27 rfl rfl (by omega) ?_
    refine X.minI 31 i35_28 rfl rfl (by omega) (Nat.le_of_ble_eq_true rfl) ?_
    refine X.istore 33 [(0, zr g0 8), (1, zi a1), (2, zi a2), (3, zi a3), (4, zi (max 1 (m g0 10 4))), (5, zi (min a1 (2000000000 - (m g0 8 9))))] i35_31 rfl rfl rfl ?_
    refine X.iload 35 i35_33 rfl rfl rfl ?_
    refine X.aload_n 36 i35_35 rfl rfl rfl ?_
    refine X.getR 39 i35_36 rfl rfl (by decide) rfl rfl ?_
    refine X.aload_n 40 i35_39 rfl rfl rfl ?_
    refine X.getI 43 9 i35_40 rfl rfl (by decide) rfl rfl rfl ?_
    refine X.callv 46 [zi (m g0 8 9)] [zi (min a1 (2000000000 - (m g0 8 9)))] [(0, zr g0 11), (1, zi (m g0 8 9))] i35_43 rfl (by decide) rfl rfl (by omega) rfl rfl (by decide) rfl t37 (Nat.le_of_ble_eq_true rfl) (Nat.le_of_ble_eq_true rfl) rfl ?_
    refine c37_1 (B := B) g0 (m g0 8 9) (by omega) (hJ.up (by omega)) (by omega) (by omega) (fun v506 hv506 hqv5060 => ?_)
    show X (EE s) d 35 46 [(0, zr g0 8), (1, zi a1), (2, zi a2), (3, zi a3), (4, zi (max 1 (m g0 10 4))), (5, zi (min a1 (2000000000 - (m g0 8 9))))] [zi v506, zi (min a1 (2000000000 - (m g0 8 9)))] m _
    refine X.aload_n 47 i35_46 rfl rfl rfl ?_
    refine X.getI 50 9 i35_47 rfl rfl (by decide) rfl rfl rfl ?_
    refine X.isub 51 i35_50 rfl rfl (by omega) ?_
    refine X.minI 54 i35_51 rfl rfl (by omega) (Nat.le_of_ble_eq_true rfl) ?_
    refine X.istore 56 [(0, zr g0 8), (1, zi a1), (2, zi a2), (3, zi a3), (4, zi (max 1 (m g0 10 4))), (5, zi (min (min a1 (2000000000 - (m g0 8 9))) (v506 - (m g0 8 9))))] i35_54 rfl rfl rfl ?_
    refine X.iload 58 i35_56 rfl rfl rfl ?_
    refine X.iload 60 i35_58 rfl rfl rfl ?_
    refine X.aload_n 61 i35_60 rfl rfl rfl ?_
    refine X.getI 64 9 i35_61 rfl rfl (by decide) rfl rfl rfl ?_
    refine X.iload 66 i35_64 rfl rfl rfl ?_
    refine X.irem 67 i35_66 rfl rfl (by omega) ?_
    have hz507 := z_modb (x := (m g0 8 9)) (y := (max 1 (m g0 10 4))) (by omega) (by omega)
    obtain ⟨z507, ez507⟩ : ∃ z, z = ((m g0 8 9) % (max 1 (m g0 10 4))) := ⟨_, rfl⟩
    rw [← ez507] at hz507 ⊢
    clear ez507
    refine X.isub 68 i35_67 rfl rfl (by omega) ?_
    refine X.minI 71 i35_68 rfl rfl (by omega) (Nat.le_of_ble_eq_true rfl) ?_
    refine X.istore 73 [(0, zr g0 8), (1, zi a1), (2, zi a2), (3, zi a3), (4, zi (max 1 (m g0 10 4))), (5, zi (min (min (min a1 (2000000000 - (m g0 8 9))) (v506 - (m g0 8 9))) ((max 1 (m g0 10 4)) - z507)))] i35_71 rfl rfl rfl ?_
    refine X.aload_n 74 i35_73 rfl rfl rfl ?_
    refine X.getR 77 i35_74 rfl rfl (by decide) rfl rfl ?_
    refine X.iload_n 78 i35_77 rfl rfl rfl ?_
    refine X.aload_n 79 i35_78 rfl rfl rfl ?_
    refine X.getR 82 i35_79 rfl rfl (by decide) rfl rfl ?_
    refine X.callv 85 [] [zi a3, zr g0 33] [(0, zr g0 9)] i35_82 rfl (by decide) rfl rfl (by omega) rfl rfl (by decide) rfl t38 (Nat.le_of_ble_eq_true rfl) (Nat.le_of_ble_eq_true rfl) rfl ?_
    refine X.aload_n 1 i38_0 rfl rfl rfl ?_
    refine X.getR 4 i38_1 rfl rfl (by decide) rfl rfl ?_
    refine X.iconst 5 i38_4 rfl rfl (by decide) ?_
    refine X.iald 6 i38_5 rfl rfl (by decide) rfl (by omega) ?_
    have h508 := r10_0 hJ g0 (i := 3) (by omega)
    refine X.reti i38_6 rfl t38 ?_
    show X (EE s) d 35 85 [(0, zr g0 8), (1, zi a1), (2, zi a2), (3, zi a3), (4, zi (max 1 (m g0 10 4))), (5, zi (min (min (min a1 (2000000000 - (m g0 8 9))) (v506 - (m g0 8 9))) ((max 1 (m g0 10 4)) - z507)))] [zi (m g0 10 3), zi a3, zr g0 33] m _
    refine X.iload 87 i35_85 rfl rfl rfl ?_
    refine X.callv 90 [zi a3, zi (m g0 10 3), zi (min (min (min a1 (2000000000 - (m g0 8 9))) (v506 - (m g0 8 9))) ((max 1 (m g0 10 4)) - z507))] [] [(0, zr g0 33), (1, zi a3), (2, zi (m g0 10 3)), (3, zi (min (min (min a1 (2000000000 - (m g0 8 9))) (v506 - (m g0 8 9))) ((max 1 (m g0 10 4)) - z507)))] i35_87 rfl (by decide) rfl rfl (by omega) rfl rfl (by decide) rfl t39 (Nat.le_of_ble_eq_true rfl) (Nat.le_of_ble_eq_true rfl) rfl ?_
    refine c39_2 (B := B) g0 a3 (m g0 10 3) (min (min (min a1 (2000000000 - (m g0 8 9))) (v506 - (m g0 8 9))) ((max 1 (m g0 10 4)) - z507)) (by omega) (hJ.up (by omega)) (by omega) (by omega) (by omega) (by omega) (by omega) (fun v511 hv511 hqv5110 hqv5111 => ?_)
    show X (EE s) d 35 90 [(0, zr g0 8), (1, zi a1), (2, zi a2), (3, zi a3), (4, zi (max 1 (m g0 10 4))), (5, zi (min (min (min a1 (2000000000 - (m g0 8 9))) (v506 - (m g0 8 9))) ((max 1 (m g0 10 4)) - z507)))] [zi v511] m _
    refine X.istore 92 [(0, zr g0 8), (1, zi a1), (2, zi a2), (3, zi a3), (4, zi (max 1 (m g0 10 4))), (5, zi v511)] i35_90 rfl rfl rfl ?_
    refine X.aload_n 93 i35_92 rfl rfl rfl ?_
    refine X.iload_n 94 i35_93 rfl rfl rfl ?_
    refine X.iload 96 i35_94 rfl rfl rfl ?_
    refine X.callv 99 [zi a2, zi v511] [] [(0, zr g0 8), (1, zi a2), (2, zi v511)] i35_96 rfl (by decide) rfl rfl (by omega) rfl rfl (by decide) rfl t41 (Nat.le_of_ble_eq_true rfl) (Nat.le_of_ble_eq_true rfl) rfl ?_
    refine c41_2 (B := B) g0 a2 v511 (by omega) (hJ.up (by omega)) (by omega) (by omega) (by omega) (by omega) (fun v514 hv514 hqv5140 hqv5141 => ?_)
    show X (EE s) d 35 99 [(0, zr g0 8), (1, zi a1), (2, zi a2), (3, zi a3), (4, zi (max 1 (m g0 10 4))), (5, zi v511)] [zi v514] m _
    refine X.reti i35_99 rfl t35 ?_
    exact hQ v514 (by first | trivial | omega) (by omega) (by omega) (by omega)
  · refine X.iconst 10 i35_9 rfl rfl (by decide) ?_
    refine X.reti i35_10 rfl t35 ?_
    exact hQ 1 (by first | trivial | omega) (by omega) (by omega) (by omega)
-- WorkMeter$Meter.meterPower
theorem c49_2 {s : Nat × (Nat → Int32)} {m0 m : zM} {B : Int} {d : Nat} {Q : Option zV → zM → Prop} (g0 : Nat) (a1 a2 : Int) (hd : 14 ≤ d) (hJ : J m0 B m) (hB : B + 0 ≤ 1000000000) (ha1 : (-1999999999) ≤ a1 ∧ a1 ≤ 1000000) (ha2 : 0 ≤ a2 ∧ a2 ≤ 3) (hQ : ∀ m', J m0 (B) m' → (∀ g, m' g 8 9 = m g 8 9) → Q none m') : X (EE s) d 49 0 [(0, zr g0 8), (1, zi a1), (2, zi a2)] [] m Q := by
  refine X.aload_n 1 i49_0 rfl rfl rfl ?_
  refine X.callv 4 [] [] [(0, zr g0 8)] i49_1 rfl (by decide) rfl rfl (by omega) rfl rfl (by decide) rfl t44 (Nat.le_of_ble_eq_true rfl) (Nat.le_of_ble_eq_true rfl) rfl ?_
  refine c44_1 (B := B) g0  (by omega) (hJ.up (by omega)) (by omega)  (fun v503 hv503 => ?_)
  show X (EE s) d 49 4 [(0, zr g0 8), (1, zi a1), (2, zi a2)] [zi v503] m _
  refine X.ifeq 18 7 i49_4 rfl rfl rfl (fun h504 => ?_) (fun h504 => ?_)
  · refine X.aload_n 19 i49_18 rfl rfl rfl ?_
    refine X.getZ 22 12 i49_19 rfl rfl (by decide) rfl rfl rfl (fun h505 => ?_)
    refine X.ifeq 26 25 i49_22 rfl rfl rfl (fun h506 => ?_) (fun h506 => ?_)
    · refine X.aload_n 27 i49_26 rfl rfl rfl ?_
      refine X.getR 30 i49_27 rfl rfl (by decide) rfl rfl ?_
      refine X.callv 33 [] [] [(0, zr g0 19)] i49_30 rfl (by decide) rfl rfl (by omega) rfl rfl (by decide) rfl t42 (Nat.le_of_ble_eq_true rfl) (Nat.le_of_ble_eq_true rfl) rfl ?_
      refine X.aload_n 1 i42_0 rfl rfl rfl ?_
      refine X.getR 4 i42_1 rfl rfl (by decide) rfl rfl ?_
      refine X.iconst 5 i42_4 rfl rfl (by decide) ?_
      refine X.lald 6 i42_5 rfl rfl (by decide) rfl (by omega) ?_
      refine X.retl i42_6 rfl t42 ?_
      show X (EE s) d 49 33 [(0, zr g0 8), (1, zi a1), (2, zi a2)] [zl (m g0 22 3)] m _
      refine X.iload_n 34 i49_33 rfl rfl rfl ?_
      refine X.i2l 35 i49_34 rfl rfl ?_
      refine X.llF 36 .lmul (fun x y => x * y) i49_35 rfl rfl rfl (fun _ _ => rfl) (fun z507 hz507 => ?_)
      refine X.lstore_n 37 [(0, zr g0 8), (1, zi a1), (2, zi a2), (3, zl z507)] i49_36 rfl rfl rfl ?_
      refine X.aload_n 38 i49_37 rfl rfl rfl ?_
      refine X.getR 41 i49_38 rfl rfl (by decide) rfl rfl ?_
      refine X.getL 44 6 i49_41 rfl rfl (by decide) rfl rfl rfl ?_
      refine X.iload_n 45 i49_44 rfl rfl rfl ?_
      refine X.i2l 46 i49_45 rfl rfl ?_
      refine X.llF 47 .lmul (fun x y => x * y) i49_46 rfl rfl rfl (fun _ _ => rfl) (fun z508 hz508 => ?_)
      refine X.lstore 49 [(0, zr g0 8), (1, zi a1), (2, zi a2), (3, zl z507), (5, zl z508)] i49_47 rfl rfl rfl ?_
      refine X.aload_n 50 i49_49 rfl rfl rfl ?_
      refine X.getR 53 i49_50 rfl rfl (by decide) rfl rfl ?_
      refine X.iload_n 54 i49_53 rfl rfl rfl ?_
      refine X.callv 57 [zi a2] [] [(0, zr g0 23), (1, zi a2)] i49_54 rfl (by decide) rfl rfl (by omega) rfl rfl (by decide) rfl t47 (Nat.le_of_ble_eq_true rfl) (Nat.le_of_ble_eq_true rfl) rfl ?_
      refine X.aload_n 1 i47_0 rfl rfl rfl ?_
      refine X.getR 4 i47_1 rfl rfl (by decide) rfl rfl ?_
      refine X.iconst 5 i47_4 rfl rfl (by decide) ?_
      refine X.iload_n 6 i47_5 rfl rfl rfl ?_
      refine X.iadd 7 i47_6 rfl rfl (by omega) ?_
      refine X.lald 8 i47_7 rfl rfl (by decide) rfl (by omega) ?_
      refine X.retl i47_8 rfl t47 ?_
      show X (EE s) d 49 57 [(0, zr g0 8), (1, zi a1), (2, zi a2), (3, zl z507), (5, zl z508)] [zl (m g0 24 (0 + a2))] m _
      refine X.aload_n 58 i49_57 rfl rfl rfl ?_
      refine X.getR 61 i49_58 rfl rfl (by decide) rfl rfl ?_
      refine X.callv 64 [] [zl (m g0 24 (0 + a2))] [(0, zr g0 9)] i49_61 rfl (by decide) rfl rfl (by omega) rfl rfl (by decide) rfl t48 (Nat.le_of_ble_eq_true rfl) (Nat.le_of_ble_eq_true rfl) rfl ?_
      refine X.iconst 1 i48_0 rfl rfl (by decide) ?_
      refine X.aload_n 2 i48_1 rfl rfl rfl ?_
      refine X.getR 5 i48_2 rfl rfl (by decide) rfl rfl ?_
      refine X.iconst 6 i48_5 rfl rfl (by decide) ?_
      refine X.iald 7 i48_6 rfl rfl (by decide) rfl (by omega) ?_
      have h509 := r10_0 hJ g0 (i := 1) (by omega)
      refine X.maxI 10 i48_7 rfl rfl (by omega) (Nat.le_of_ble_eq_true rfl) ?_
      refine X.reti i48_10 rfl t48 ?_
      show X (EE s) d 49 64 [(0, zr g0 8), (1, zi a1), (2, zi a2), (3, zl z507), (5, zl z508)] [zi (max 1 (m g0 10 1)), zl (m g0 24 (0 + a2))] m _
      refine X.i2l 65 i49_64 rfl rfl ?_
      refine X.ldivF 66 i49_65 rfl rfl (by omega) (fun z510 => ?_)
      refine X.lstore 68 [(0, zr g0 8), (1, zi a1), (2, zi a2), (3, zl z507), (5, zl z508), (7, zl z510)] i49_66 rfl rfl rfl ?_
      refine X.aload_n 69 i49_68 rfl rfl rfl ?_
      refine X.getR 72 i49_69 rfl rfl (by decide) rfl rfl ?_
      refine X.iload_n 73 i49_72 rfl rfl rfl ?_
      refine X.lload_n 74 i49_73 rfl rfl rfl ?_
      refine X.aload_n 75 i49_74 rfl rfl rfl ?_
      refine X.getR 78 i49_75 rfl rfl (by decide) rfl rfl ?_
      refine X.callv 81 [] [zl z507, zi a2, zr g0 23] [(0, zr g0 19)] i49_78 rfl (by decide) rfl rfl (by omega) rfl rfl (by decide) rfl t46 (Nat.le_of_ble_eq_true rfl) (Nat.le_of_ble_eq_true rfl) rfl ?_
      refine X.aload_n 1 i46_0 rfl rfl rfl ?_
      refine X.getR 4 i46_1 rfl rfl (by decide) rfl rfl ?_
      refine X.bipush 6 i46_4 rfl rfl (by decide) ?_
      refine X.lald 7 i46_6 rfl rfl (by decide) rfl (by omega) ?_
      refine X.retl i46_7 rfl t46 ?_
      show X (EE s) d 49 81 [(0, zr g0 8), (1, zi a1), (2, zi a2), (3, zl z507), (5, zl z508), (7, zl z510)] [zl (m g0 22 7), zl z507, zi a2, zr g0 23] m _
      refine X.iload_n 82 i49_81 rfl rfl rfl ?_
      refine X.i2l 83 i49_82 rfl rfl ?_
      refine X.llF 84 .lmul (fun x y => x * y) i49_83 rfl rfl rfl (fun _ _ => rfl) (fun z511 hz511 => ?_)
      refine X.lload 86 i49_84 rfl rfl rfl ?_
      refine X.callv 89 [zi a2, zl z507, zl z511, zl z508] [] [(0, zr g0 23), (1, zi a2), (2, zl z507), (4, zl z511), (6, zl z508)] i49_86 rfl (by decide) rfl rfl (by omega) rfl rfl (by decide) rfl t50 (Nat.le_of_ble_eq_true rfl) (Nat.le_of_ble_eq_true rfl) rfl ?_
      refine c50_1 (B := B) g0 a2 z507 z511 z508 (by omega) (hJ.up (by omega)) (by omega) (by omega) (fun m512 hJ513 km512 => ?_)
      show X (EE s) d 49 89 [(0, zr g0 8), (1, zi a1), (2, zi a2), (3, zl z507), (5, zl z508), (7, zl z510)] [] m512 _
      refine X.aload_n 90 i49_89 rfl rfl rfl ?_
      refine X.getR 93 i49_90 rfl rfl (by decide) rfl rfl ?_
      refine X.iload_n 94 i49_93 rfl rfl rfl ?_
      refine X.callv 97 [zi a2] [] [(0, zr g0 23), (1, zi a2)] i49_94 rfl (by decide) rfl rfl (by omega) rfl rfl (by decide) rfl t47 (Nat.le_of_ble_eq_true rfl) (Nat.le_of_ble_eq_true rfl) rfl ?_
      refine X.aload_n 1 i47_0 rfl rfl rfl ?_
      refine X.getR 4 i47_1 rfl rfl (by decide) rfl rfl ?_
      refine X.iconst 5 i47_4 rfl rfl (by decide) ?_
      refine X.iload_n 6 i47_5 rfl rfl rfl ?_
      refine X.iadd 7 i47_6 rfl rfl (by omega) ?_
      refine X.lald 8 i47_7 rfl rfl (by decide) rfl (by omega) ?_
      refine X.retl i47_8 rfl t47 ?_
      show X (EE s) d 49 97 [(0, zr g0 8), (1, zi a1), (2, zi a2), (3, zl z507), (5, zl z508), (7, zl z510)] [zl (m512 g0 24 (0 + a2))] m512 _
      refine X.aload_n 98 i49_97 rfl rfl rfl ?_
      refine X.getR 101 i49_98 rfl rfl (by decide) rfl rfl ?_
      refine X.callv 104 [] [zl (m512 g0 24 (0 + a2))] [(0, zr g0 9)] i49_101 rfl (by decide) rfl rfl (by omega) rfl rfl (by decide) rfl t48 (Nat.le_of_ble_eq_true rfl) (Nat.le_of_ble_eq_true rfl) rfl ?_
      refine X.iconst 1 i48_0 rfl rfl (by decide) ?_
      refine X.aload_n 2 i48_1 rfl rfl rfl ?_
      refine X.getR 5 i48_2 rfl rfl (by decide) rfl rfl ?_
      refine X.iconst 6 i48_5 rfl rfl (by decide) ?_
      refine X.iald 7 i48_6 rfl rfl (by decide) rfl (by omega) ?_
      have h515 := r10_0 hJ513 g0 (i := 1) (by omega)
      refine X.maxI 10 i48_7 rfl rfl (by omega) (Nat.le_of_ble_eq_true rfl) ?_
      refine X.reti i48_10 rfl t48 ?_
      show X (EE s) d 49 104 [(0, zr g0 8), (1, zi a1), (2, zi a2), (3, zl z507), (5, zl z508), (7, zl z510)] [zi (max 1 (m512 g0 10 1)), zl (m512 g0 24 (0 + a2))] m512 _
      refine X.i2l 105 i49_104 rfl rfl ?_
      refine X.ldivF 106 i49_105 rfl rfl (by omega) (fun z516 => ?_)
      refine X.lload 108 i49_106 rfl rfl rfl ?_
      refine X.llF 109 .lsub (fun x y => x - y) i49_108 rfl rfl rfl (fun _ _ => rfl) (fun z517 hz517 => ?_)
      refine X.lstore 111 [(0, zr g0 8), (1, zi a1), (2, zi a2), (3, zl z507), (5, zl z508), (7, zl z510), (9, zl z517)] i49_109 rfl rfl rfl ?_
      refine X.aload_n 112 i49_111 rfl rfl rfl ?_
      refine X.dup 113 i49_112 rfl rfl rfl ?_
      refine X.getL 116 10 i49_113 rfl rfl (by decide) rfl rfl rfl ?_
      refine X.lload 118 i49_116 rfl rfl rfl ?_
      refine X.aload_n 119 i49_118 rfl rfl rfl ?_
      refine X.getR 122 i49_119 rfl rfl (by decide) rfl rfl ?_
      refine X.iload_n 123 i49_122 rfl rfl rfl ?_
      refine X.callv 126 [zi a2] [zl z517, zl (m512 g0 8 10), zr g0 8] [(0, zr g0 9), (1, zi a2)] i49_123 rfl (by decide) rfl rfl (by omega) rfl rfl (by decide) rfl t43 (Nat.le_of_ble_eq_true rfl) (Nat.le_of_ble_eq_true rfl) rfl ?_
      refine X.aload_n 1 i43_0 rfl rfl rfl ?_
      refine X.getR 4 i43_1 rfl rfl (by decide) rfl rfl ?_
      refine X.bipush 6 i43_4 rfl rfl (by decide) ?_
      refine X.iload_n 7 i43_6 rfl rfl rfl ?_
      refine X.iadd 8 i43_7 rfl rfl (by omega) ?_
      refine X.iald 9 i43_8 rfl rfl (by decide) rfl (by omega) ?_
      have h518 := r10_6 hJ513 g0 (i := (6 + a2)) (by omega)
      refine X.reti i43_9 rfl t43 ?_
      show X (EE s) d 49 126 [(0, zr g0 8), (1, zi a1), (2, zi a2), (3, zl z507), (5, zl z508), (7, zl z510), (9, zl z517)] [zi (m512 g0 10 (6 + a2)), zl z517, zl (m512 g0 8 10), zr g0 8] m512 _
      refine X.i2l 127 i49_126 rfl rfl ?_
      refine X.llF 128 .lmul (fun x y => x * y) i49_127 rfl rfl rfl (fun _ _ => rfl) (fun z519 hz519 => ?_)
      refine X.llF 129 .lsub (fun x y => x - y) i49_128 rfl rfl rfl (fun _ _ => rfl) (fun z520 hz520 => ?_)
      refine X.putL' 132 10 i49_129 rfl rfl (by decide) rfl rfl rfl (fun hrm521 m521 hm521 => ?_)
      have hJ522 := w8_10 hJ513 hm521 hrm521
      have km521 : ∀ g, m521 g 8 9 = m512 g 8 9 := fun g9 => by rw [hm521]; exact z_upd_o _ _ rfl
      refine X.aload_n 133 i49_132 rfl rfl rfl ?_
      refine X.getR 136 i49_133 rfl rfl (by decide) rfl rfl ?_
      refine X.lload_n 137 i49_136 rfl rfl rfl ?_
      refine X.lload 139 i49_137 rfl rfl rfl ?_
      refine X.callv 142 [zl z507, zl z508] [] [(0, zr g0 27), (1, zl z507), (3, zl z508)] i49_139 rfl (by decide) rfl rfl (by omega) rfl rfl (by decide) rfl t52 (Nat.le_of_ble_eq_true rfl) (Nat.le_of_ble_eq_true rfl) rfl ?_
      refine X.lload_n 1 i52_0 rfl rfl rfl ?_
      refine X.lconst (y := 0) 2 i52_1 rfl rfl rfl ?_
      refine X.lcmp 3 i52_2 rfl rfl (fun z523 hz523 => ?_)
      refine X.ifle 19 6 i52_3 rfl rfl rfl (fun h524 => ?_) (fun h524 => ?_)
      · have h524c : z507 ≤ 0 := by omega
        clear h524 hz523
        refine X.aload_n 20 i52_19 rfl rfl rfl ?_
        refine X.dup 21 i52_20 rfl rfl rfl ?_
        refine X.getL 24 4 i52_21 rfl rfl (by decide) rfl rfl rfl ?_
        refine X.lload_n 25 i52_24 rfl rfl rfl ?_
        refine X.llF 26 .lsub (fun x y => x - y) i52_25 rfl rfl rfl (fun _ _ => rfl) (fun z525 hz525 => ?_)
        refine X.putL' 29 4 i52_26 rfl rfl (by decide) rfl rfl rfl (fun hrm526 m526 hm526 => ?_)
        have hJ527 := w27_3 hJ522 hm526 (by omega) hrm526
        have km526 : ∀ g, m526 g 8 9 = m521 g 8 9 := fun g9 => by rw [hm526]; exact z_upd_o _ _ rfl
        refine X.cut [(0, zr g0 27), (3, zl z508)] i52_29 rfl ?_
        refine X.aload_n 30 i52_29 rfl rfl rfl ?_
        refine X.dup 31 i52_30 rfl rfl rfl ?_
        refine X.getL 34 5 i52_31 rfl rfl (by decide) rfl rfl rfl ?_
        refine X.lload_n 35 i52_34 rfl rfl rfl ?_
        refine X.llF 36 .ladd (fun x y => x + y) i52_35 rfl rfl rfl (fun _ _ => rfl) (fun z528 hz528 => ?_)
        refine X.putL' 39 5 i52_36 rfl rfl (by decide) rfl rfl rfl (fun hrm529 m529 hm529 => ?_)
        have hJ530 := w27_3 hJ527 hm529 (by omega) hrm529
        have km529 : ∀ g, m529 g 8 9 = m526 g 8 9 := fun g9 => by rw [hm529]; exact z_upd_o _ _ rfl
        refine X.retv i52_39 rfl t52 ?_
        show X (EE s) d 49 142 [(0, zr g0 8), (1, zi a1), (2, zi a2), (3, zl z507), (5, zl z508), (7, zl z510), (9, zl z517)] [] m529 _
        refine X.retv i49_142 rfl t49 ?_
        exact hQ  m529  (hJ530.up (by omega)) (fun g => by simp only [km512, km521, km526, km529]) 
      · have h524c : z507 > 0 := by omega
        clear h524 hz523
        refine X.aload_n 7 i52_6 rfl rfl rfl ?_
        refine X.dup 8 i52_7 rfl rfl rfl ?_
        refine X.getL 11 3 i52_8 rfl rfl (by decide) rfl rfl rfl ?_
        refine X.lload_n 12 i52_11 rfl rfl rfl ?_
        refine X.llF 13 .ladd (fun x y => x + y) i52_12 rfl rfl rfl (fun _ _ => rfl) (fun z531 hz531 => ?_)
        refine X.putL' 16 3 i52_13 rfl rfl (by decide) rfl rfl rfl (fun hrm532 m532 hm532 => ?_)
        have hJ533 := w27_3 hJ522 hm532 (by omega) hrm532
        have km532 : ∀ g, m532 g 8 9 = m521 g 8 9 := fun g9 => by rw [hm532]; exact z_upd_o _ _ rfl
        refine X.goto 29 i52_16 rfl rfl ?_
        refine X.cut [(0, zr g0 27), (3, zl z508)] i52_29 rfl ?_
        refine X.aload_n 30 i52_29 rfl rfl rfl ?_
        refine X.dup 31 i52_30 rfl rfl rfl ?_
        refine X.getL 34 5 i52_31 rfl rfl (by decide) rfl rfl rfl ?_
        refine X.lload_n 35 i52_34 rfl rfl rfl ?_
        refine X.llF 36 .ladd (fun x y => x + y) i52_35 rfl rfl rfl (fun _ _ => rfl) (fun z534 hz534 => ?_)
        refine X.putL' 39 5 i52_36 rfl rfl (by decide) rfl rfl rfl (fun hrm535 m535 hm535 => ?_)
        have hJ536 := w27_3 hJ533 hm535 (by omega) hrm535
        have km535 : ∀ g, m535 g 8 9 = m532 g 8 9 := fun g9 => by rw [hm535]; exact z_upd_o _ _ rfl
        refine X.retv i52_39 rfl t52 ?_
        show X (EE s) d 49 142 [(0, zr g0 8), (1, zi a1), (2, zi a2), (3, zl z507), (5, zl z508), (7, zl z510), (9, zl z517)] [] m535 _
        refine X.retv i49_142 rfl t49 ?_
        exact hQ  m535  (hJ536.up (by omega)) (fun g => by simp only [km512, km521, km532, km535]) 
    · refine X.retv i49_25 rfl t49 ?_
      exact hQ  m  (hJ.up (by omega)) (fun g => rfl) 
  · refine X.aload_n 8 i49_7 rfl rfl rfl ?_
    refine X.dup 9 i49_8 rfl rfl rfl ?_
    refine X.getIr 12 14 i49_9 rfl rfl (by decide) rfl rfl rfl (fun h537 => ?_)
    refine X.iload_n 13 i49_12 rfl rfl rfl ?_
    refine X.iiF 14 .iadd (fun x y => x + y) i49_13 rfl rfl rfl (fun _ _ => rfl) (fun z538 hz538 => ?_)
    refine X.putI' 17 14 i49_14 rfl rfl (by decide) rfl rfl rfl (fun hrm539 m539 hm539 => ?_)
    have hJ540 := w8_13 hJ hm539 (by omega) hrm539
    have km539 : ∀ g, m539 g 8 9 = m g 8 9 := fun g9 => by rw [hm539]; exact z_upd_o _ _ rfl
    refine X.retv i49_17 rfl t49 ?_
    exact hQ  m539  (hJ540.up (by omega)) (fun g => by simp only [km539]) 
-- WorkMeter$Marks.turn
theorem c57_3 {s : Nat × (Nat → Int32)} {m0 m : zM} {B : Int} {d : Nat} {Q : Option zV → zM → Prop} (g0 g3 : Nat) (a1 a2 a4 : Int) (hd : 13 ≤ d) (hJ : J m0 B m) (hB : B + 1 ≤ 1000000000) (ha1 : 2 ≤ a1 ∧ a1 ≤ 4) (ha2 : 1 ≤ a2 ∧ a2 ≤ 1) (ha4 : (-2000000000) ≤ a4 ∧ a4 ≤ 2000999999) (hQ : ∀ m', J m0 (B + 1) m' → (∀ g, m' g 8 9 = m g 8 9) → Q none m') : X (EE s) d 57 0 [(0, zr g0 33), (1, zi a1), (2, zi a2), (3, zr g3 37), (4, zi a4)] [] m Q := by
  refine X.iload_n 1 i57_0 rfl rfl rfl ?_
  refine X.ifeq 37 4 i57_1 rfl rfl rfl (fun h501 => (by exfalso; omega)) (fun h501 => ?_)
  refine X.aload_n 5 i57_4 rfl rfl rfl ?_
  refine X.dup 6 i57_5 rfl rfl rfl ?_
  refine X.getIr 9 3 i57_6 rfl rfl (by decide) rfl rfl rfl (fun h502 => ?_)
  refine X.iconst 10 i57_9 rfl rfl (by decide) ?_
  refine X.iload_n 11 i57_10 rfl rfl rfl ?_
  refine X.iiF 12 .ishl (fun x y => x <<< (y &&& 31)) i57_11 rfl rfl rfl (fun _ _ => rfl) (fun z503 hz503 => ?_)
  refine X.iiF 13 .ior (fun x y => x ||| y) i57_12 rfl rfl rfl (fun _ _ => rfl) (fun z504 hz504 => ?_)
  refine X.putI' 16 3 i57_13 rfl rfl (by decide) rfl rfl rfl (fun hrm505 m505 hm505 => ?_)
  have hJ506 := w33_0 hJ hm505 (by omega) hrm505
  have km505 : ∀ g, m505 g 8 9 = m g 8 9 := fun g9 => by rw [hm505]; exact z_upd_o _ _ rfl
  refine X.aload_n 17 i57_16 rfl rfl rfl ?_
  refine X.getR 20 i57_17 rfl rfl (by decide) rfl rfl ?_
  refine X.iload_n 21 i57_20 rfl rfl rfl ?_
  refine X.dup2 22 i57_21 rfl rfl ?_
  refine X.ialdr 23 i57_22 rfl rfl (by decide) rfl (by omega) (fun h507 => ?_)
  refine X.iconst 24 i57_23 rfl rfl (by decide) ?_
  refine X.iiF 25 .iadd (fun x y => x + y) i57_24 rfl rfl rfl (fun _ _ => rfl) (fun z508 hz508 => ?_)
  refine X.iast' 26 i57_25 rfl rfl (by decide) rfl (by omega) (fun hrm509 m509 hm509 => ?_)
  have hJ510 := w34_0 hJ506 hm509 (by omega) hrm509
  have km509 : ∀ g, m509 g 8 9 = m505 g 8 9 := fun g9 => by rw [hm509]; exact z_upd_o _ _ rfl
  refine X.aload_n 27 i57_26 rfl rfl rfl ?_
  refine X.iload 29 i57_27 rfl rfl rfl ?_
  refine X.iload_n 30 i57_29 rfl rfl rfl ?_
  refine X.iconst 31 i57_30 rfl rfl (by decide) ?_
  refine X.callv 34 [zi a4, zi a1, zi 0] [] [(0, zr g3 37), (1, zi a4), (2, zi a1), (3, zi 0)] i57_31 rfl (by decide) rfl rfl (by omega) rfl rfl (by decide) rfl t55 (Nat.le_of_ble_eq_true rfl) (Nat.le_of_ble_eq_true rfl) rfl ?_
  refine X.aload_n 1 i55_0 rfl rfl rfl ?_
  refine X.getI 4 1 i55_1 rfl rfl (by decide) rfl rfl rfl ?_
  have h511 := r37_1 hJ510 g3
  refine X.bipush 6 i55_4 rfl rfl (by decide) ?_
  refine X.irem 7 i55_6 rfl rfl (by omega) ?_
  refine X.iconst 8 i55_7 rfl rfl (by decide) ?_
  refine X.imul 9 i55_8 rfl rfl (by omega) ?_
  refine X.istore 11 [(0, zr g3 37), (1, zi a4), (2, zi a1), (3, zi 0), (4, zi (((m509 g3 37 1) % 40) * 3))] i55_9 rfl rfl rfl ?_
  refine X.aload_n 12 i55_11 rfl rfl rfl ?_
  refine X.getR 15 i55_12 rfl rfl (by decide) rfl rfl ?_
  refine X.iload 17 i55_15 rfl rfl rfl ?_
  refine X.iload_n 18 i55_17 rfl rfl rfl ?_
  refine X.iast' 19 i55_18 rfl rfl (by decide) rfl (by omega) (fun hrm512 m512 hm512 => ?_)
  have hJ513 := w38_0 hJ510 hm512 (by omega) hrm512
  have km512 : ∀ g, m512 g 8 9 = m509 g 8 9 := fun g9 => by rw [hm512]; exact z_upd_o _ _ rfl
  refine X.aload_n 20 i55_19 rfl rfl rfl ?_
  refine X.getR 23 i55_20 rfl rfl (by decide) rfl rfl ?_
  refine X.iload 25 i55_23 rfl rfl rfl ?_
  refine X.iconst 26 i55_25 rfl rfl (by decide) ?_
  refine X.iadd 27 i55_26 rfl rfl (by omega) ?_
  refine X.iload_n 28 i55_27 rfl rfl rfl ?_
  refine X.iast' 29 i55_28 rfl rfl (by decide) rfl (by omega) (fun hrm514 m514 hm514 => ?_)
  have hJ515 := w38_0 hJ513 hm514 (by omega) hrm514
  have km514 : ∀ g, m514 g 8 9 = m512 g 8 9 := fun g9 => by rw [hm514]; exact z_upd_o _ _ rfl
  refine X.aload_n 30 i55_29 rfl rfl rfl ?_
  refine X.getR 33 i55_30 rfl rfl (by decide) rfl rfl ?_
  refine X.iload 35 i55_33 rfl rfl rfl ?_
  refine X.iconst 36 i55_35 rfl rfl (by decide) ?_
  refine X.iadd 37 i55_36 rfl rfl (by omega) ?_
  refine X.iload_n 38 i55_37 rfl rfl rfl ?_
  refine X.iast' 39 i55_38 rfl rfl (by decide) rfl (by omega) (fun hrm516 m516 hm516 => ?_)
  have hJ517 := w38_0 hJ515 hm516 (by omega) hrm516
  have km516 : ∀ g, m516 g 8 9 = m514 g 8 9 := fun g9 => by rw [hm516]; exact z_upd_o _ _ rfl
  refine X.aload_n 40 i55_39 rfl rfl rfl ?_
  refine X.dup 41 i55_40 rfl rfl rfl ?_
  refine X.getI 44 1 i55_41 rfl rfl (by decide) rfl rfl rfl ?_
  have h518 := r37_1 hJ517 g3
  refine X.iconst 45 i55_44 rfl rfl (by decide) ?_
  refine X.iadd 46 i55_45 rfl rfl (by omega) ?_
  refine X.putI' 49 1 i55_46 rfl rfl (by decide) rfl rfl rfl (fun hrm519 m519 hm519 => ?_)
  have hJ520 := w37_1 (hJ517.up (B' := B + 1) (by omega)) hm519 (by omega)
  have km519 : ∀ g, m519 g 8 9 = m516 g 8 9 := fun g9 => by rw [hm519]; exact z_upd_o _ _ rfl
  refine X.retv i55_49 rfl t55 ?_
  show X (EE s) d 57 34 [(0, zr g0 33), (1, zi a1), (2, zi a2), (3, zr g3 37), (4, zi a4)] [] m519 _
  refine X.goto 62 i57_34 rfl rfl ?_
  refine X.cut [] i57_62 rfl ?_
  refine X.retv i57_62 rfl t57 ?_
  exact hQ  m519  (hJ520.up (by omega)) (fun g => by simp only [km505, km509, km512, km514, km516, km519]) 
-- WorkMeter$Marks.turn
theorem c57_4 {s : Nat × (Nat → Int32)} {m0 m : zM} {B : Int} {d : Nat} {Q : Option zV → zM → Prop} (g0 g3 : Nat) (a1 a2 a4 : Int) (hd : 13 ≤ d) (hJ : J m0 B m) (hB : B + 1 ≤ 1000000000) (ha1 : 2 ≤ a1 ∧ a1 ≤ 4) (ha2 : 0 ≤ a2 ∧ a2 ≤ 0) (ha4 : (-2000000000) ≤ a4 ∧ a4 ≤ 2000999999) (hQ : ∀ m', J m0 (B + 1) m' → (∀ g, m' g 8 9 = m g 8 9) → Q none m') : X (EE s) d 57 0 [(0, zr g0 33), (1, zi a1), (2, zi a2), (3, zr g3 37), (4, zi a4)] [] m Q := by
  refine X.iload_n 1 i57_0 rfl rfl rfl ?_
  refine X.ifeq 37 4 i57_1 rfl rfl rfl (fun h501 => ?_) (fun h501 => (by exfalso; omega))
  refine X.cut [(0, zr g0 33), (1, zi a1), (3, zr g3 37), (4, zi a4)] i57_37 rfl ?_
  refine X.aload_n 38 i57_37 rfl rfl rfl ?_
  refine X.dup 39 i57_38 rfl rfl rfl ?_
  refine X.getIr 42 3 i57_39 rfl rfl (by decide) rfl rfl rfl (fun h502 => ?_)
  refine X.iconst 43 i57_42 rfl rfl (by decide) ?_
  refine X.iload_n 44 i57_43 rfl rfl rfl ?_
  refine X.iiF 45 .ishl (fun x y => x <<< (y &&& 31)) i57_44 rfl rfl rfl (fun _ _ => rfl) (fun z503 hz503 => ?_)
  refine X.iconst 46 i57_45 rfl rfl (by decide) ?_
  refine X.iiF 47 .ixor (fun x y => x ^^^ y) i57_46 rfl rfl rfl (fun _ _ => rfl) (fun z504 hz504 => ?_)
  refine X.iiF 48 .iand (fun x y => x &&& y) i57_47 rfl rfl rfl (fun _ _ => rfl) (fun z505 hz505 => ?_)
  refine X.putI' 51 3 i57_48 rfl rfl (by decide) rfl rfl rfl (fun hrm506 m506 hm506 => ?_)
  have hJ507 := w33_0 hJ hm506 (by omega) hrm506
  have km506 : ∀ g, m506 g 8 9 = m g 8 9 := fun g9 => by rw [hm506]; exact z_upd_o _ _ rfl
  refine X.aload_n 52 i57_51 rfl rfl rfl ?_
  refine X.iload 54 i57_52 rfl rfl rfl ?_
  refine X.iload_n 55 i57_54 rfl rfl rfl ?_
  refine X.bipush 57 i57_55 rfl rfl (by decide) ?_
  refine X.iadd 58 i57_57 rfl rfl (by omega) ?_
  refine X.iconst 59 i57_58 rfl rfl (by decide) ?_
  refine X.callv 62 [zi a4, zi (a1 + 10), zi 0] [] [(0, zr g3 37), (1, zi a4), (2, zi (a1 + 10)), (3, zi 0)] i57_59 rfl (by decide) rfl rfl (by omega) rfl rfl (by decide) rfl t55 (Nat.le_of_ble_eq_true rfl) (Nat.le_of_ble_eq_true rfl) rfl ?_
  refine X.aload_n 1 i55_0 rfl rfl rfl ?_
  refine X.getI 4 1 i55_1 rfl rfl (by decide) rfl rfl rfl ?_
  have h508 := r37_1 hJ507 g3
  refine X.bipush 6 i55_4 rfl rfl (by decide) ?_
  refine X.irem 7 i55_6 rfl rfl (by omega) ?_
  refine X.iconst 8 i55_7 rfl rfl (by decide) ?_
  refine X.imul 9 i55_8 rfl rfl (by omega) ?_
  refine X.istore 11 [(0, zr g3 37), (1, zi a4), (2, zi (a1 + 10)), (3, zi 0), (4, zi (((m506 g3 37 1) % 40) * 3))] i55_9 rfl rfl rfl ?_
  refine X.aload_n 12 i55_11 rfl rfl rfl ?_
  refine X.getR 15 i55_12 rfl rfl (by decide) rfl rfl ?_
  refine X.iload 17 i55_15 rfl rfl rfl ?_
  refine X.iload_n 18 i55_17 rfl rfl rfl ?_
  refine X.iast' 19 i55_18 rfl rfl (by decide) rfl (by omega) (fun hrm509 m509 hm509 => ?_)
  have hJ510 := w38_0 hJ507 hm509 (by omega) hrm509
  have km509 : ∀ g, m509 g 8 9 = m506 g 8 9 := fun g9 => by rw [hm509]; exact z_upd_o _ _ rfl
  refine X.aload_n 20 i55_19 rfl rfl rfl ?_
  refine X.getR 23 i55_20 rfl rfl (by decide) rfl rfl ?_
  refine X.iload 25 i55_23 rfl rfl rfl ?_
  refine X.iconst 26 i55_25 rfl rfl (by decide) ?_
  refine X.iadd 27 i55_26 rfl rfl (by omega) ?_
  refine X.iload_n 28 i55_27 rfl rfl rfl ?_
  refine X.iast' 29 i55_28 rfl rfl (by decide) rfl (by omega) (fun hrm511 m511 hm511 => ?_)
  have hJ512 := w38_0 hJ510 hm511 (by omega) hrm511
  have km511 : ∀ g, m511 g 8 9 = m509 g 8 9 := fun g9 => by rw [hm511]; exact z_upd_o _ _ rfl
  refine X.aload_n 30 i55_29 rfl rfl rfl ?_
  refine X.getR 33 i55_30 rfl rfl (by decide) rfl rfl ?_
  refine X.iload 35 i55_33 rfl rfl rfl ?_
  refine X.iconst 36 i55_35 rfl rfl (by decide) ?_
  refine X.iadd 37 i55_36 rfl rfl (by omega) ?_
  refine X.iload_n 38 i55_37 rfl rfl rfl ?_
  refine X.iast' 39 i55_38 rfl rfl (by decide) rfl (by omega) (fun hrm513 m513 hm513 => ?_)
  have hJ514 := w38_0 hJ512 hm513 (by omega) hrm513
  have km513 : ∀ g, m513 g 8 9 = m511 g 8 9 := fun g9 => by rw [hm513]; exact z_upd_o _ _ rfl
  refine X.aload_n 40 i55_39 rfl rfl rfl ?_
  refine X.dup 41 i55_40 rfl rfl rfl ?_
  refine X.getI 44 1 i55_41 rfl rfl (by decide) rfl rfl rfl ?_
  have h515 := r37_1 hJ514 g3
  refine X.iconst 45 i55_44 rfl rfl (by decide) ?_
  refine X.iadd 46 i55_45 rfl rfl (by omega) ?_
  refine X.putI' 49 1 i55_46 rfl rfl (by decide) rfl rfl rfl (fun hrm516 m516 hm516 => ?_)
  have hJ517 := w37_1 (hJ514.up (B' := B + 1) (by omega)) hm516 (by omega)
  have km516 : ∀ g, m516 g 8 9 = m513 g 8 9 := fun g9 => by rw [hm516]; exact z_upd_o _ _ rfl
  refine X.retv i55_49 rfl t55 ?_
  show X (EE s) d 57 62 [(0, zr g0 33), (1, zi a1), (3, zr g3 37), (4, zi a4)] [] m516 _
  refine X.cut [] i57_62 rfl ?_
  refine X.retv i57_62 rfl t57 ?_
  exact hQ  m516  (hJ517.up (by omega)) (fun g => by simp only [km506, km509, km511, km513, km516]) 
theorem l56_3_2 {s : Nat × (Nat → Int32)} {m0 : zM} {d : Nat} {Q : Option zV → zM → Prop} (g0 g4 : Nat) (y1 y2 y3 y5 : Int) (T9 : Nat → Int) (BE : Int) (hE : BE ≤ 1000000000) (hd : 14 ≤ d) (hy1 : (-1999999999) ≤ y1 ∧ y1 ≤ 1000000) (hy2 : (-2147483648) ≤ y2 ∧ y2 ≤ 2147483647) (hy3 : 0 ≤ y3 ∧ y3 ≤ 1000000) (hy5 : (-2000000000) ≤ y5 ∧ y5 ≤ 2000999999)
    (K149 : ∀ (m' : zM) (B' : Int), J m0 B' m' → B' ≤ BE → (∀ g, m' g 8 9 = T9 g) → X (EE s) d 56 149 [] [] m' Q) :
    ∀ (n : Nat) (y6 : Int) (m : zM) (B : Int), J m0 B m → B + 1 * (n : Int) ≤ BE → (∀ g, m g 8 9 = T9 g) → (0 ≤ y6 ∧ y6 ≤ 5) → 5 - y6 < (n : Int) → X (EE s) d 56 3 [(0, zr g0 33), (1, zi y1), (2, zi y2), (3, zi y3), (4, zr g4 37), (5, zi y5), (6, zi y6)] [] m Q := by
  intro n
  induction n with
  | zero =>
    intro y6 m B hJ hB hT hy6 hn
    exfalso
    omega
  | succ n ih =>
    intro y6 m B hJ hB hT hy6 hn
    refine X.iload 5 i56_3 rfl rfl rfl ?_
    refine X.iconst 6 i56_5 rfl rfl (by decide) ?_
    refine X.icmpge 149 9 i56_6 rfl rfl rfl (fun h623 => ?_) (fun h623 => ?_)
    · refine X.cut [] i56_149 rfl ?_
      exact K149  m (B) (hJ.up (by omega)) (by omega) (fun g => by simp only [hT]) 
    · refine X.aload_n 10 i56_9 rfl rfl rfl ?_
      refine X.iload 12 i56_10 rfl rfl rfl ?_
      refine X.callv 15 [zi y6] [] [(0, zr g0 33), (1, zi y6)] i56_12 rfl (by decide) rfl rfl (by omega) rfl rfl (by decide) rfl t40 (Nat.le_of_ble_eq_true rfl) (Nat.le_of_ble_eq_true rfl) rfl ?_
      refine X.aload_n 1 i40_0 rfl rfl rfl ?_
      refine X.getIr 4 3 i40_1 rfl rfl (by decide) rfl rfl rfl (fun h624 => ?_)
      refine X.iload_n 5 i40_4 rfl rfl rfl ?_
      refine X.iiF 6 .ishr (fun x y => x >>> (y &&& 31)) i40_5 rfl rfl rfl (fun _ _ => rfl) (fun z625 hz625 => ?_)
      refine X.iconst 7 i40_6 rfl rfl (by decide) ?_
      refine X.andF 8 1 i40_7 rfl rfl (by decide) (.inl rfl) (fun z626 hz626 => ?_)
      refine X.iconst 9 i40_8 rfl rfl (by decide) ?_
      refine X.icmpne 16 12 i40_9 rfl rfl rfl (fun h627 => ?_) (fun h627 => ?_)
      · refine X.cut [] i40_16 rfl ?_
        refine X.iconst 17 i40_16 rfl rfl (by decide) ?_
        refine X.retz i40_17 rfl t40 (by omega) ?_
        show X (EE s) d 56 15 [(0, zr g0 33), (1, zi y1), (2, zi y2), (3, zi y3), (4, zr g4 37), (5, zi y5), (6, zi y6)] [zi 0] m _
        refine X.istore 17 [(0, zr g0 33), (1, zi y1), (2, zi y2), (3, zi y3), (4, zr g4 37), (5, zi y5), (6, zi y6), (7, zi 0)] i56_15 rfl rfl rfl ?_
        refine X.iload 19 i56_17 rfl rfl rfl ?_
        refine X.iconst 20 i56_19 rfl rfl (by decide) ?_
        refine X.icmplt 114 23 i56_20 rfl rfl rfl (fun h628 => ?_) (fun h628 => ?_)
        · refine X.aload_n 115 i56_114 rfl rfl rfl ?_
          refine X.iload 117 i56_115 rfl rfl rfl ?_
          refine X.callv 120 [zi y6] [] [(0, zr g0 33), (1, zi y6)] i56_117 rfl (by decide) rfl rfl (by omega) rfl rfl (by decide) rfl t40 (Nat.le_of_ble_eq_true rfl) (Nat.le_of_ble_eq_true rfl) rfl ?_
          refine X.aload_n 1 i40_0 rfl rfl rfl ?_
          refine X.getI 4 3 i40_1 rfl rfl (by decide) rfl rfl rfl ?_
          refine X.iload_n 5 i40_4 rfl rfl rfl ?_
          refine X.iiF 6 .ishr (fun x y => x >>> (y &&& 31)) i40_5 rfl rfl rfl (fun _ _ => rfl) (fun z629 hz629 => ?_)
          refine X.iconst 7 i40_6 rfl rfl (by decide) ?_
          refine X.andF 8 1 i40_7 rfl rfl (by decide) (.inl rfl) (fun z630 hz630 => ?_)
          refine X.iconst 9 i40_8 rfl rfl (by decide) ?_
          refine X.icmpne 16 12 i40_9 rfl rfl rfl (fun h631 => ?_) (fun h631 => ?_)
          · refine X.cut [] i40_16 rfl ?_
            refine X.iconst 17 i40_16 rfl rfl (by decide) ?_
            refine X.retz i40_17 rfl t40 (by omega) ?_
            show X (EE s) d 56 120 [(0, zr g0 33), (1, zi y1), (2, zi y2), (3, zi y3), (4, zr g4 37), (5, zi y5), (6, zi y6), (7, zi 0)] [zi 0] m _
            refine X.ifeq 143 123 i56_120 rfl rfl rfl (fun h632 => ?_) (fun h632 => (by exfalso; omega))
            refine X.cut [(0, zr g0 33), (1, zi y1), (2, zi y2), (3, zi y3), (4, zr g4 37), (5, zi y5), (6, zi y6)] i56_143 rfl ?_
            refine X.iinc 146 [(0, zr g0 33), (1, zi y1), (2, zi y2), (3, zi y3), (4, zr g4 37), (5, zi y5), (6, zi (y6 + 1))] i56_143 rfl rfl rfl (by omega) rfl ?_
            refine X.goto 3 i56_146 rfl rfl ?_
            exact ih (y6 + 1) m (B) (hJ.up (by omega)) (by omega) (fun g => by simp only [hT]) (by omega) (by omega)
          · refine X.iconst 13 i40_12 rfl rfl (by decide) ?_
            refine X.goto 17 i40_13 rfl rfl ?_
            refine X.cut [] i40_17 rfl ?_
            refine X.retz i40_17 rfl t40 (by omega) ?_
            show X (EE s) d 56 120 [(0, zr g0 33), (1, zi y1), (2, zi y2), (3, zi y3), (4, zr g4 37), (5, zi y5), (6, zi y6), (7, zi 0)] [zi 1] m _
            refine X.ifeq 143 123 i56_120 rfl rfl rfl (fun h633 => (by exfalso; omega)) (fun h633 => ?_)
            refine X.aload_n 124 i56_123 rfl rfl rfl ?_
            refine X.getR 127 i56_124 rfl rfl (by decide) rfl rfl ?_
            refine X.iload 129 i56_127 rfl rfl rfl ?_
            refine X.dup2 130 i56_129 rfl rfl ?_
            refine X.ialdr 131 i56_130 rfl rfl (by decide) rfl (by omega) (fun h634 => ?_)
            refine X.iload 133 i56_131 rfl rfl rfl ?_
            refine X.ifeq 140 136 i56_133 rfl rfl rfl (fun h635 => ?_) (fun h635 => (by exfalso; omega))
            refine X.cut [(0, zr g0 33), (1, zi y1), (2, zi y2), (3, zi y3), (4, zr g4 37), (5, zi y5), (6, zi y6)] i56_140 rfl ?_
            refine X.iconst 141 i56_140 rfl rfl (by decide) ?_
            refine X.iiF 142 .iadd (fun x y => x + y) i56_141 rfl rfl rfl (fun _ _ => rfl) (fun z636 hz636 => ?_)
            refine X.iast' 143 i56_142 rfl rfl (by decide) rfl (by omega) (fun hrm637 m637 hm637 => ?_)
            have hJ638 := w35_0 hJ hm637 (by omega) hrm637
            have km637 : ∀ g, m637 g 8 9 = m g 8 9 := fun g9 => by rw [hm637]; exact z_upd_o _ _ rfl
            refine X.iinc 146 [(0, zr g0 33), (1, zi y1), (2, zi y2), (3, zi y3), (4, zr g4 37), (5, zi y5), (6, zi (y6 + 1))] i56_143 rfl rfl rfl (by omega) rfl ?_
            refine X.goto 3 i56_146 rfl rfl ?_
            exact ih (y6 + 1) m637 (B) (hJ638.up (by omega)) (by omega) (fun g => by simp only [km637, hT]) (by omega) (by omega)
        · refine X.iload_n 24 i56_23 rfl rfl rfl ?_
          refine X.iload 26 i56_24 rfl rfl rfl ?_
          refine X.iiF 27 .ishr (fun x y => x >>> (y &&& 31)) i56_26 rfl rfl rfl (fun _ _ => rfl) (fun z639 hz639 => ?_)
          refine X.iconst 28 i56_27 rfl rfl (by decide) ?_
          refine X.andF 29 1 i56_28 rfl rfl (by decide) (.inl rfl) (fun z640 hz640 => ?_)
          refine X.iconst 30 i56_29 rfl rfl (by decide) ?_
          refine X.icmpne 37 33 i56_30 rfl rfl rfl (fun h641 => ?_) (fun h641 => ?_)
          · refine X.iconst 38 i56_37 rfl rfl (by decide) ?_
            refine X.istore 40 [(0, zr g0 33), (1, zi y1), (2, zi y2), (3, zi y3), (4, zr g4 37), (5, zi y5), (6, zi y6), (7, zi 0), (8, zi 0)] i56_38 rfl rfl rfl ?_
            refine X.aload_n 41 i56_40 rfl rfl rfl ?_
            refine X.getR 44 i56_41 rfl rfl (by decide) rfl rfl ?_
            refine X.iload 46 i56_44 rfl rfl rfl ?_
            refine X.iload 48 i56_46 rfl rfl rfl ?_
            refine X.ifeq 63 51 i56_48 rfl rfl rfl (fun h642 => ?_) (fun h642 => (by exfalso; omega))
            refine X.iconst 64 i56_63 rfl rfl (by decide) ?_
            refine X.iast' 65 i56_64 rfl rfl (by decide) rfl (by omega) (fun hrm643 m643 hm643 => ?_)
            have hJ644 := w36_0 hJ hm643 (by omega) hrm643
            have km643 : ∀ g, m643 g 8 9 = m g 8 9 := fun g9 => by rw [hm643]; exact z_upd_o _ _ rfl
            refine X.iload 67 i56_65 rfl rfl rfl ?_
            refine X.ifeq 78 70 i56_67 rfl rfl rfl (fun h645 => ?_) (fun h645 => (by exfalso; omega))
            refine X.iload 80 i56_78 rfl rfl rfl ?_
            refine X.ifeq 114 83 i56_80 rfl rfl rfl (fun h646 => ?_) (fun h646 => (by exfalso; omega))
            refine X.cut [(0, zr g0 33), (1, zi y1), (2, zi y2), (3, zi y3), (4, zr g4 37), (5, zi y5), (6, zi y6), (7, zi 0)] i56_114 rfl ?_
            refine X.aload_n 115 i56_114 rfl rfl rfl ?_
            refine X.iload 117 i56_115 rfl rfl rfl ?_
            refine X.callv 120 [zi y6] [] [(0, zr g0 33), (1, zi y6)] i56_117 rfl (by decide) rfl rfl (by omega) rfl rfl (by decide) rfl t40 (Nat.le_of_ble_eq_true rfl) (Nat.le_of_ble_eq_true rfl) rfl ?_
            refine X.aload_n 1 i40_0 rfl rfl rfl ?_
            refine X.getIr 4 3 i40_1 rfl rfl (by decide) rfl rfl rfl (fun h647 => ?_)
            refine X.iload_n 5 i40_4 rfl rfl rfl ?_
            refine X.iiF 6 .ishr (fun x y => x >>> (y &&& 31)) i40_5 rfl rfl rfl (fun _ _ => rfl) (fun z648 hz648 => ?_)
            refine X.iconst 7 i40_6 rfl rfl (by decide) ?_
            refine X.andF 8 1 i40_7 rfl rfl (by decide) (.inl rfl) (fun z649 hz649 => ?_)
            refine X.iconst 9 i40_8 rfl rfl (by decide) ?_
            refine X.icmpne 16 12 i40_9 rfl rfl rfl (fun h650 => ?_) (fun h650 => ?_)
            · refine X.cut [] i40_16 rfl ?_
              refine X.iconst 17 i40_16 rfl rfl (by decide) ?_
              refine X.retz i40_17 rfl t40 (by omega) ?_
              show X (EE s) d 56 120 [(0, zr g0 33), (1, zi y1), (2, zi y2), (3, zi y3), (4, zr g4 37), (5, zi y5), (6, zi y6), (7, zi 0)] [zi 0] m643 _
              refine X.ifeq 143 123 i56_120 rfl rfl rfl (fun h651 => ?_) (fun h651 => (by exfalso; omega))
              refine X.cut [(0, zr g0 33), (1, zi y1), (2, zi y2), (3, zi y3), (4, zr g4 37), (5, zi y5), (6, zi y6)] i56_143 rfl ?_
              refine X.iinc 146 [(0, zr g0 33), (1, zi y1), (2, zi y2), (3, zi y3), (4, zr g4 37), (5, zi y5), (6, zi (y6 + 1))] i56_143 rfl rfl rfl (by omega) rfl ?_
              refine X.goto 3 i56_146 rfl rfl ?_
              exact ih (y6 + 1) m643 (B) (hJ644.up (by omega)) (by omega) (fun g => by simp only [km643, hT]) (by omega) (by omega)
            · refine X.iconst 13 i40_12 rfl rfl (by decide) ?_
              refine X.goto 17 i40_13 rfl rfl ?_
              refine X.cut [] i40_17 rfl ?_
              refine X.retz i40_17 rfl t40 (by omega) ?_
              show X (EE s) d 56 120 [(0, zr g0 33), (1, zi y1), (2, zi y2), (3, zi y3), (4, zr g4 37), (5, zi y5), (6, zi y6), (7, zi 0)] [zi 1] m643 _
              refine X.ifeq 143 123 i56_120 rfl rfl rfl (fun h652 => (by exfalso; omega)) (fun h652 => ?_)
              refine X.aload_n 124 i56_123 rfl rfl rfl ?_
              refine X.getR 127 i56_124 rfl rfl (by decide) rfl rfl ?_
              refine X.iload 129 i56_127 rfl rfl rfl ?_
              refine X.dup2 130 i56_129 rfl rfl ?_
              refine X.ialdr 131 i56_130 rfl rfl (by decide) rfl (by omega) (fun h653 => ?_)
              refine X.iload 133 i56_131 rfl rfl rfl ?_
              refine X.ifeq 140 136 i56_133 rfl rfl rfl (fun h654 => ?_) (fun h654 => (by exfalso; omega))
              refine X.cut [(0, zr g0 33), (1, zi y1), (2, zi y2), (3, zi y3), (4, zr g4 37), (5, zi y5), (6, zi y6)] i56_140 rfl ?_
              refine X.iconst 141 i56_140 rfl rfl (by decide) ?_
              refine X.iiF 142 .iadd (fun x y => x + y) i56_141 rfl rfl rfl (fun _ _ => rfl) (fun z655 hz655 => ?_)
              refine X.iast' 143 i56_142 rfl rfl (by decide) rfl (by omega) (fun hrm656 m656 hm656 => ?_)
              have hJ657 := w35_0 hJ644 hm656 (by omega) hrm656
              have km656 : ∀ g, m656 g 8 9 = m643 g 8 9 := fun g9 => by rw [hm656]; exact z_upd_o _ _ rfl
              refine X.iinc 146 [(0, zr g0 33), (1, zi y1), (2, zi y2), (3, zi y3), (4, zr g4 37), (5, zi y5), (6, zi (y6 + 1))] i56_143 rfl rfl rfl (by omega) rfl ?_
              refine X.goto 3 i56_146 rfl rfl ?_
              exact ih (y6 + 1) m656 (B) (hJ657.up (by omega)) (by omega) (fun g => by simp only [km643, km656, hT]) (by omega) (by omega)
          · refine X.iconst 34 i56_33 rfl rfl (by decide) ?_
            refine X.goto 38 i56_34 rfl rfl ?_
            refine X.istore 40 [(0, zr g0 33), (1, zi y1), (2, zi y2), (3, zi y3), (4, zr g4 37), (5, zi y5), (6, zi y6), (7, zi 0), (8, zi 1)] i56_38 rfl rfl rfl ?_
            refine X.aload_n 41 i56_40 rfl rfl rfl ?_
            refine X.getR 44 i56_41 rfl rfl (by decide) rfl rfl ?_
            refine X.iload 46 i56_44 rfl rfl rfl ?_
            refine X.iload 48 i56_46 rfl rfl rfl ?_
            refine X.ifeq 63 51 i56_48 rfl rfl rfl (fun h658 => (by exfalso; omega)) (fun h658 => ?_)
            refine X.aload_n 52 i56_51 rfl rfl rfl ?_
            refine X.getR 55 i56_52 rfl rfl (by decide) rfl rfl ?_
            refine X.iload 57 i56_55 rfl rfl rfl ?_
            refine X.ialdr 58 i56_57 rfl rfl (by decide) rfl (by omega) (fun h659 => ?_)
            refine X.iload_n 59 i56_58 rfl rfl rfl ?_
            refine X.iiF 60 .iadd (fun x y => x + y) i56_59 rfl rfl rfl (fun _ _ => rfl) (fun z660 hz660 => ?_)
            refine X.goto 64 i56_60 rfl rfl ?_
            refine X.iast' 65 i56_64 rfl rfl (by decide) rfl (by omega) (fun hrm661 m661 hm661 => ?_)
            have hJ662 := w36_0 hJ hm661 (by omega) hrm661
            have km661 : ∀ g, m661 g 8 9 = m g 8 9 := fun g9 => by rw [hm661]; exact z_upd_o _ _ rfl
            refine X.iload 67 i56_65 rfl rfl rfl ?_
            refine X.ifeq 78 70 i56_67 rfl rfl rfl (fun h663 => ?_) (fun h663 => (by exfalso; omega))
            refine X.iload 80 i56_78 rfl rfl rfl ?_
            refine X.ifeq 114 83 i56_80 rfl rfl rfl (fun h664 => (by exfalso; omega)) (fun h664 => ?_)
            refine X.aload_n 84 i56_83 rfl rfl rfl ?_
            refine X.getR 87 i56_84 rfl rfl (by decide) rfl rfl ?_
            refine X.iload 89 i56_87 rfl rfl rfl ?_
            refine X.ialdr 90 i56_89 rfl rfl (by decide) rfl (by omega) (fun h665 => ?_)
            refine X.iload_n 91 i56_90 rfl rfl rfl ?_
            refine X.icmple 114 94 i56_91 rfl rfl rfl (fun h666 => ?_) (fun h666 => ?_)
            · refine X.cut [(0, zr g0 33), (1, zi y1), (2, zi y2), (3, zi y3), (4, zr g4 37), (5, zi y5), (6, zi y6), (7, zi 0)] i56_114 rfl ?_
              refine X.aload_n 115 i56_114 rfl rfl rfl ?_
              refine X.iload 117 i56_115 rfl rfl rfl ?_
              refine X.callv 120 [zi y6] [] [(0, zr g0 33), (1, zi y6)] i56_117 rfl (by decide) rfl rfl (by omega) rfl rfl (by decide) rfl t40 (Nat.le_of_ble_eq_true rfl) (Nat.le_of_ble_eq_true rfl) rfl ?_
              refine X.aload_n 1 i40_0 rfl rfl rfl ?_
              refine X.getIr 4 3 i40_1 rfl rfl (by decide) rfl rfl rfl (fun h667 => ?_)
              refine X.iload_n 5 i40_4 rfl rfl rfl ?_
              refine X.iiF 6 .ishr (fun x y => x >>> (y &&& 31)) i40_5 rfl rfl rfl (fun _ _ => rfl) (fun z668 hz668 => ?_)
              refine X.iconst 7 i40_6 rfl rfl (by decide) ?_
              refine X.andF 8 1 i40_7 rfl rfl (by decide) (.inl rfl) (fun z669 hz669 => ?_)
              refine X.iconst 9 i40_8 rfl rfl (by decide) ?_
              refine X.icmpne 16 12 i40_9 rfl rfl rfl (fun h670 => ?_) (fun h670 => ?_)
              · refine X.cut [] i40_16 rfl ?_
                refine X.iconst 17 i40_16 rfl rfl (by decide) ?_
                refine X.retz i40_17 rfl t40 (by omega) ?_
                show X (EE s) d 56 120 [(0, zr g0 33), (1, zi y1), (2, zi y2), (3, zi y3), (4, zr g4 37), (5, zi y5), (6, zi y6), (7, zi 0)] [zi 0] m661 _
                refine X.ifeq 143 123 i56_120 rfl rfl rfl (fun h671 => ?_) (fun h671 => (by exfalso; omega))
                refine X.cut [(0, zr g0 33), (1, zi y1), (2, zi y2), (3, zi y3), (4, zr g4 37), (5, zi y5), (6, zi y6)] i56_143 rfl ?_
                refine X.iinc 146 [(0, zr g0 33), (1, zi y1), (2, zi y2), (3, zi y3), (4, zr g4 37), (5, zi y5), (6, zi (y6 + 1))] i56_143 rfl rfl rfl (by omega) rfl ?_
                refine X.goto 3 i56_146 rfl rfl ?_
                exact ih (y6 + 1) m661 (B) (hJ662.up (by omega)) (by omega) (fun g => by simp only [km661, hT]) (by omega) (by omega)
              · refine X.iconst 13 i40_12 rfl rfl (by decide) ?_
                refine X.goto 17 i40_13 rfl rfl ?_
                refine X.cut [] i40_17 rfl ?_
                refine X.retz i40_17 rfl t40 (by omega) ?_
                show X (EE s) d 56 120 [(0, zr g0 33), (1, zi y1), (2, zi y2), (3, zi y3), (4, zr g4 37), (5, zi y5), (6, zi y6), (7, zi 0)] [zi 1] m661 _
                refine X.ifeq 143 123 i56_120 rfl rfl rfl (fun h672 => (by exfalso; omega)) (fun h672 => ?_)
                refine X.aload_n 124 i56_123 rfl rfl rfl ?_
                refine X.getR 127 i56_124 rfl rfl (by decide) rfl rfl ?_
                refine X.iload 129 i56_127 rfl rfl rfl ?_
                refine X.dup2 130 i56_129 rfl rfl ?_
                refine X.ialdr 131 i56_130 rfl rfl (by decide) rfl (by omega) (fun h673 => ?_)
                refine X.iload 133 i56_131 rfl rfl rfl ?_
                refine X.ifeq 140 136 i56_133 rfl rfl rfl (fun h674 => ?_) (fun h674 => (by exfalso; omega))
                refine X.cut [(0, zr g0 33), (1, zi y1), (2, zi y2), (3, zi y3), (4, zr g4 37), (5, zi y5), (6, zi y6)] i56_140 rfl ?_
                refine X.iconst 141 i56_140 rfl rfl (by decide) ?_
                refine X.iiF 142 .iadd (fun x y => x + y) i56_141 rfl rfl rfl (fun _ _ => rfl) (fun z675 hz675 => ?_)
                refine X.iast' 143 i56_142 rfl rfl (by decide) rfl (by omega) (fun hrm676 m676 hm676 => ?_)
                have hJ677 := w35_0 hJ662 hm676 (by omega) hrm676
                have km676 : ∀ g, m676 g 8 9 = m661 g 8 9 := fun g9 => by rw [hm676]; exact z_upd_o _ _ rfl
                refine X.iinc 146 [(0, zr g0 33), (1, zi y1), (2, zi y2), (3, zi y3), (4, zr g4 37), (5, zi y5), (6, zi (y6 + 1))] i56_143 rfl rfl rfl (by omega) rfl ?_
                refine X.goto 3 i56_146 rfl rfl ?_
                exact ih (y6 + 1) m676 (B) (hJ677.up (by omega)) (by omega) (fun g => by simp only [km661, km676, hT]) (by omega) (by omega)
            · refine X.cut [(0, zr g0 33), (1, zi y1), (2, zi y2), (3, zi y3), (4, zr g4 37), (5, zi y5), (6, zi y6), (7, zi 0)] i56_94 rfl ?_
              refine X.aload_n 95 i56_94 rfl rfl rfl ?_
              refine X.iload 97 i56_95 rfl rfl rfl ?_
              refine X.iload 99 i56_97 rfl rfl rfl ?_
              refine X.ifne 106 102 i56_99 rfl rfl rfl (fun h678 => (by exfalso; omega)) (fun h678 => ?_)
              refine X.iconst 103 i56_102 rfl rfl (by decide) ?_
              refine X.goto 107 i56_103 rfl rfl ?_
              refine X.aload 109 i56_107 rfl rfl rfl ?_
              refine X.iload 111 i56_109 rfl rfl rfl ?_
              refine X.callv 114 [zi y6, zi 1, zr g4 37, zi y5] [] [(0, zr g0 33), (1, zi y6), (2, zi 1), (3, zr g4 37), (4, zi y5)] i56_111 rfl (by decide) rfl rfl (by omega) rfl rfl (by decide) rfl t57 (Nat.le_of_ble_eq_true rfl) (Nat.le_of_ble_eq_true rfl) rfl ?_
              refine c57_3 (B := B) g0 g4 y6 1 y5 (by omega) (hJ662.up (by omega)) (by omega) (by omega) (by omega) (by omega) (fun m679 hJ680 km679 => ?_)
              show X (EE s) d 56 114 [(0, zr g0 33), (1, zi y1), (2, zi y2), (3, zi y3), (4, zr g4 37), (5, zi y5), (6, zi y6), (7, zi 0)] [] m679 _
              refine X.aload_n 115 i56_114 rfl rfl rfl ?_
              refine X.iload 117 i56_115 rfl rfl rfl ?_
              refine X.callv 120 [zi y6] [] [(0, zr g0 33), (1, zi y6)] i56_117 rfl (by decide) rfl rfl (by omega) rfl rfl (by decide) rfl t40 (Nat.le_of_ble_eq_true rfl) (Nat.le_of_ble_eq_true rfl) rfl ?_
              refine X.aload_n 1 i40_0 rfl rfl rfl ?_
              refine X.getIr 4 3 i40_1 rfl rfl (by decide) rfl rfl rfl (fun h682 => ?_)
              refine X.iload_n 5 i40_4 rfl rfl rfl ?_
              refine X.iiF 6 .ishr (fun x y => x >>> (y &&& 31)) i40_5 rfl rfl rfl (fun _ _ => rfl) (fun z683 hz683 => ?_)
              refine X.iconst 7 i40_6 rfl rfl (by decide) ?_
              refine X.andF 8 1 i40_7 rfl rfl (by decide) (.inl rfl) (fun z684 hz684 => ?_)
              refine X.iconst 9 i40_8 rfl rfl (by decide) ?_
              refine X.icmpne 16 12 i40_9 rfl rfl rfl (fun h685 => ?_) (fun h685 => ?_)
              · refine X.cut [] i40_16 rfl ?_
                refine X.iconst 17 i40_16 rfl rfl (by decide) ?_
                refine X.retz i40_17 rfl t40 (by omega) ?_
                show X (EE s) d 56 120 [(0, zr g0 33), (1, zi y1), (2, zi y2), (3, zi y3), (4, zr g4 37), (5, zi y5), (6, zi y6), (7, zi 0)] [zi 0] m679 _
                refine X.ifeq 143 123 i56_120 rfl rfl rfl (fun h686 => ?_) (fun h686 => (by exfalso; omega))
                refine X.cut [(0, zr g0 33), (1, zi y1), (2, zi y2), (3, zi y3), (4, zr g4 37), (5, zi y5), (6, zi y6)] i56_143 rfl ?_
                refine X.iinc 146 [(0, zr g0 33), (1, zi y1), (2, zi y2), (3, zi y3), (4, zr g4 37), (5, zi y5), (6, zi (y6 + 1))] i56_143 rfl rfl rfl (by omega) rfl ?_
                refine X.goto 3 i56_146 rfl rfl ?_
                exact ih (y6 + 1) m679 (B + 1) (hJ680.up (by omega)) (by omega) (fun g => by simp only [km661, km679, hT]) (by omega) (by omega)
              · refine X.iconst 13 i40_12 rfl rfl (by decide) ?_
                refine X.goto 17 i40_13 rfl rfl ?_
                refine X.cut [] i40_17 rfl ?_
                refine X.retz i40_17 rfl t40 (by omega) ?_
                show X (EE s) d 56 120 [(0, zr g0 33), (1, zi y1), (2, zi y2), (3, zi y3), (4, zr g4 37), (5, zi y5), (6, zi y6), (7, zi 0)] [zi 1] m679 _
                refine X.ifeq 143 123 i56_120 rfl rfl rfl (fun h687 => (by exfalso; omega)) (fun h687 => ?_)
                refine X.aload_n 124 i56_123 rfl rfl rfl ?_
                refine X.getR 127 i56_124 rfl rfl (by decide) rfl rfl ?_
                refine X.iload 129 i56_127 rfl rfl rfl ?_
                refine X.dup2 130 i56_129 rfl rfl ?_
                refine X.ialdr 131 i56_130 rfl rfl (by decide) rfl (by omega) (fun h688 => ?_)
                refine X.iload 133 i56_131 rfl rfl rfl ?_
                refine X.ifeq 140 136 i56_133 rfl rfl rfl (fun h689 => ?_) (fun h689 => (by exfalso; omega))
                refine X.cut [(0, zr g0 33), (1, zi y1), (2, zi y2), (3, zi y3), (4, zr g4 37), (5, zi y5), (6, zi y6)] i56_140 rfl ?_
                refine X.iconst 141 i56_140 rfl rfl (by decide) ?_
                refine X.iiF 142 .iadd (fun x y => x + y) i56_141 rfl rfl rfl (fun _ _ => rfl) (fun z690 hz690 => ?_)
                refine X.iast' 143 i56_142 rfl rfl (by decide) rfl (by omega) (fun hrm691 m691 hm691 => ?_)
                have hJ692 := w35_0 hJ680 hm691 (by omega) hrm691
                have km691 : ∀ g, m691 g 8 9 = m679 g 8 9 := fun g9 => by rw [hm691]; exact z_upd_o _ _ rfl
                refine X.iinc 146 [(0, zr g0 33), (1, zi y1), (2, zi y2), (3, zi y3), (4, zr g4 37), (5, zi y5), (6, zi (y6 + 1))] i56_143 rfl rfl rfl (by omega) rfl ?_
                refine X.goto 3 i56_146 rfl rfl ?_
                exact ih (y6 + 1) m691 (B + 1) (hJ692.up (by omega)) (by omega) (fun g => by simp only [km661, km679, km691, hT]) (by omega) (by omega)
      · refine X.iconst 13 i40_12 rfl rfl (by decide) ?_
        refine X.goto 17 i40_13 rfl rfl ?_
        refine X.cut [] i40_17 rfl ?_
        refine X.retz i40_17 rfl t40 (by omega) ?_
        show X (EE s) d 56 15 [(0, zr g0 33), (1, zi y1), (2, zi y2), (3, zi y3), (4, zr g4 37), (5, zi y5), (6, zi y6)] [zi 1] m _
        refine X.istore 17 [(0, zr g0 33), (1, zi y1), (2, zi y2), (3, zi y3), (4, zr g4 37), (5, zi y5), (6, zi y6), (7, zi 1)] i56_15 rfl rfl rfl ?_
        refine X.iload 19 i56_17 rfl rfl rfl ?_
        refine X.iconst 20 i56_19 rfl rfl (by decide) ?_
        refine X.icmplt 114 23 i56_20 rfl rfl rfl (fun h693 => ?_) (fun h693 => ?_)
        · refine X.aload_n 115 i56_114 rfl rfl rfl ?_
          refine X.iload 117 i56_115 rfl rfl rfl ?_
          refine X.callv 120 [zi y6] [] [(0, zr g0 33), (1, zi y6)] i56_117 rfl (by decide) rfl rfl (by omega) rfl rfl (by decide) rfl t40 (Nat.le_of_ble_eq_true rfl) (Nat.le_of_ble_eq_true rfl) rfl ?_
          refine X.aload_n 1 i40_0 rfl rfl rfl ?_
          refine X.getI 4 3 i40_1 rfl rfl (by decide) rfl rfl rfl ?_
          refine X.iload_n 5 i40_4 rfl rfl rfl ?_
          refine X.iiF 6 .ishr (fun x y => x >>> (y &&& 31)) i40_5 rfl rfl rfl (fun _ _ => rfl) (fun z694 hz694 => ?_)
          refine X.iconst 7 i40_6 rfl rfl (by decide) ?_
          refine X.andF 8 1 i40_7 rfl rfl (by decide) (.inl rfl) (fun z695 hz695 => ?_)
          refine X.iconst 9 i40_8 rfl rfl (by decide) ?_
          refine X.icmpne 16 12 i40_9 rfl rfl rfl (fun h696 => ?_) (fun h696 => ?_)
          · refine X.cut [] i40_16 rfl ?_
            refine X.iconst 17 i40_16 rfl rfl (by decide) ?_
            refine X.retz i40_17 rfl t40 (by omega) ?_
            show X (EE s) d 56 120 [(0, zr g0 33), (1, zi y1), (2, zi y2), (3, zi y3), (4, zr g4 37), (5, zi y5), (6, zi y6), (7, zi 1)] [zi 0] m _
            refine X.ifeq 143 123 i56_120 rfl rfl rfl (fun h697 => ?_) (fun h697 => (by exfalso; omega))
            refine X.cut [(0, zr g0 33), (1, zi y1), (2, zi y2), (3, zi y3), (4, zr g4 37), (5, zi y5), (6, zi y6)] i56_143 rfl ?_
            refine X.iinc 146 [(0, zr g0 33), (1, zi y1), (2, zi y2), (3, zi y3), (4, zr g4 37), (5, zi y5), (6, zi (y6 + 1))] i56_143 rfl rfl rfl (by omega) rfl ?_
            refine X.goto 3 i56_146 rfl rfl ?_
            exact ih (y6 + 1) m (B) (hJ.up (by omega)) (by omega) (fun g => by simp only [hT]) (by omega) (by omega)
          · refine X.iconst 13 i40_12 rfl rfl (by decide) ?_
            refine X.goto 17 i40_13 rfl rfl ?_
            refine X.cut [] i40_17 rfl ?_
            refine X.retz i40_17 rfl t40 (by omega) ?_
            show X (EE s) d 56 120 [(0, zr g0 33), (1, zi y1), (2, zi y2), (3, zi y3), (4, zr g4 37), (5, zi y5), (6, zi y6), (7, zi 1)] [zi 1] m _
            refine X.ifeq 143 123 i56_120 rfl rfl rfl (fun h698 => (by exfalso; omega)) (fun h698 => ?_)
            refine X.aload_n 124 i56_123 rfl rfl rfl ?_
            refine X.getR 127 i56_124 rfl rfl (by decide) rfl rfl ?_
            refine X.iload 129 i56_127 rfl rfl rfl ?_
            refine X.dup2 130 i56_129 rfl rfl ?_
            refine X.ialdr 131 i56_130 rfl rfl (by decide) rfl (by omega) (fun h699 => ?_)
            refine X.iload 133 i56_131 rfl rfl rfl ?_
            refine X.ifeq 140 136 i56_133 rfl rfl rfl (fun h700 => (by exfalso; omega)) (fun h700 => ?_)
            refine X.iload_n 137 i56_136 rfl rfl rfl ?_
            refine X.goto 141 i56_137 rfl rfl ?_
            refine X.cut [(0, zr g0 33), (1, zi y1), (2, zi y2), (3, zi y3), (4, zr g4 37), (5, zi y5), (6, zi y6)] i56_141 rfl ?_
            refine X.iiF 142 .iadd (fun x y => x + y) i56_141 rfl rfl rfl (fun _ _ => rfl) (fun z701 hz701 => ?_)
            refine X.iast' 143 i56_142 rfl rfl (by decide) rfl (by omega) (fun hrm702 m702 hm702 => ?_)
            have hJ703 := w35_0 hJ hm702 (by omega) hrm702
            have km702 : ∀ g, m702 g 8 9 = m g 8 9 := fun g9 => by rw [hm702]; exact z_upd_o _ _ rfl
            refine X.iinc 146 [(0, zr g0 33), (1, zi y1), (2, zi y2), (3, zi y3), (4, zr g4 37), (5, zi y5), (6, zi (y6 + 1))] i56_143 rfl rfl rfl (by omega) rfl ?_
            refine X.goto 3 i56_146 rfl rfl ?_
            exact ih (y6 + 1) m702 (B) (hJ703.up (by omega)) (by omega) (fun g => by simp only [km702, hT]) (by omega) (by omega)
        · refine X.iload_n 24 i56_23 rfl rfl rfl ?_
          refine X.iload 26 i56_24 rfl rfl rfl ?_
          refine X.iiF 27 .ishr (fun x y => x >>> (y &&& 31)) i56_26 rfl rfl rfl (fun _ _ => rfl) (fun z704 hz704 => ?_)
          refine X.iconst 28 i56_27 rfl rfl (by decide) ?_
          refine X.andF 29 1 i56_28 rfl rfl (by decide) (.inl rfl) (fun z705 hz705 => ?_)
          refine X.iconst 30 i56_29 rfl rfl (by decide) ?_
          refine X.icmpne 37 33 i56_30 rfl rfl rfl (fun h706 => ?_) (fun h706 => ?_)
          · refine X.iconst 38 i56_37 rfl rfl (by decide) ?_
            refine X.istore 40 [(0, zr g0 33), (1, zi y1), (2, zi y2), (3, zi y3), (4, zr g4 37), (5, zi y5), (6, zi y6), (7, zi 1), (8, zi 0)] i56_38 rfl rfl rfl ?_
            refine X.aload_n 41 i56_40 rfl rfl rfl ?_
            refine X.getR 44 i56_41 rfl rfl (by decide) rfl rfl ?_
            refine X.iload 46 i56_44 rfl rfl rfl ?_
            refine X.iload 48 i56_46 rfl rfl rfl ?_
            refine X.ifeq 63 51 i56_48 rfl rfl rfl (fun h707 => ?_) (fun h707 => (by exfalso; omega))
            refine X.iconst 64 i56_63 rfl rfl (by decide) ?_
            refine X.iast' 65 i56_64 rfl rfl (by decide) rfl (by omega) (fun hrm708 m708 hm708 => ?_)
            have hJ709 := w36_0 hJ hm708 (by omega) hrm708
            have km708 : ∀ g, m708 g 8 9 = m g 8 9 := fun g9 => by rw [hm708]; exact z_upd_o _ _ rfl
            refine X.iload 67 i56_65 rfl rfl rfl ?_
            refine X.ifeq 78 70 i56_67 rfl rfl rfl (fun h710 => (by exfalso; omega)) (fun h710 => ?_)
            refine X.iload 72 i56_70 rfl rfl rfl ?_
            refine X.ifne 114 75 i56_72 rfl rfl rfl (fun h711 => (by exfalso; omega)) (fun h711 => ?_)
            refine X.goto 94 i56_75 rfl rfl ?_
            refine X.cut [(0, zr g0 33), (1, zi y1), (2, zi y2), (3, zi y3), (4, zr g4 37), (5, zi y5), (6, zi y6), (7, zi 1)] i56_94 rfl ?_
            refine X.aload_n 95 i56_94 rfl rfl rfl ?_
            refine X.iload 97 i56_95 rfl rfl rfl ?_
            refine X.iload 99 i56_97 rfl rfl rfl ?_
            refine X.ifne 106 102 i56_99 rfl rfl rfl (fun h712 => ?_) (fun h712 => (by exfalso; omega))
            refine X.iconst 107 i56_106 rfl rfl (by decide) ?_
            refine X.aload 109 i56_107 rfl rfl rfl ?_
            refine X.iload 111 i56_109 rfl rfl rfl ?_
            refine X.callv 114 [zi y6, zi 0, zr g4 37, zi y5] [] [(0, zr g0 33), (1, zi y6), (2, zi 0), (3, zr g4 37), (4, zi y5)] i56_111 rfl (by decide) rfl rfl (by omega) rfl rfl (by decide) rfl t57 (Nat.le_of_ble_eq_true rfl) (Nat.le_of_ble_eq_true rfl) rfl ?_
            refine c57_4 (B := B) g0 g4 y6 0 y5 (by omega) (hJ709.up (by omega)) (by omega) (by omega) (by omega) (by omega) (fun m713 hJ714 km713 => ?_)
            show X (EE s) d 56 114 [(0, zr g0 33), (1, zi y1), (2, zi y2), (3, zi y3), (4, zr g4 37), (5, zi y5), (6, zi y6), (7, zi 1)] [] m713 _
            refine X.aload_n 115 i56_114 rfl rfl rfl ?_
            refine X.iload 117 i56_115 rfl rfl rfl ?_
            refine X.callv 120 [zi y6] [] [(0, zr g0 33), (1, zi y6)] i56_117 rfl (by decide) rfl rfl (by omega) rfl rfl (by decide) rfl t40 (Nat.le_of_ble_eq_true rfl) (Nat.le_of_ble_eq_true rfl) rfl ?_
            refine X.aload_n 1 i40_0 rfl rfl rfl ?_
            refine X.getIr 4 3 i40_1 rfl rfl (by decide) rfl rfl rfl (fun h716 => ?_)
            refine X.iload_n 5 i40_4 rfl rfl rfl ?_
            refine X.iiF 6 .ishr (fun x y => x >>> (y &&& 31)) i40_5 rfl rfl rfl (fun _ _ => rfl) (fun z717 hz717 => ?_)
            refine X.iconst 7 i40_6 rfl rfl (by decide) ?_
            refine X.andF 8 1 i40_7 rfl rfl (by decide) (.inl rfl) (fun z718 hz718 => ?_)
            refine X.iconst 9 i40_8 rfl rfl (by decide) ?_
            refine X.icmpne 16 12 i40_9 rfl rfl rfl (fun h719 => ?_) (fun h719 => ?_)
            · refine X.cut [] i40_16 rfl ?_
              refine X.iconst 17 i40_16 rfl rfl (by decide) ?_
              refine X.retz i40_17 rfl t40 (by omega) ?_
              show X (EE s) d 56 120 [(0, zr g0 33), (1, zi y1), (2, zi y2), (3, zi y3), (4, zr g4 37), (5, zi y5), (6, zi y6), (7, zi 1)] [zi 0] m713 _
              refine X.ifeq 143 123 i56_120 rfl rfl rfl (fun h720 => ?_) (fun h720 => (by exfalso; omega))
              refine X.cut [(0, zr g0 33), (1, zi y1), (2, zi y2), (3, zi y3), (4, zr g4 37), (5, zi y5), (6, zi y6)] i56_143 rfl ?_
              refine X.iinc 146 [(0, zr g0 33), (1, zi y1), (2, zi y2), (3, zi y3), (4, zr g4 37), (5, zi y5), (6, zi (y6 + 1))] i56_143 rfl rfl rfl (by omega) rfl ?_
              refine X.goto 3 i56_146 rfl rfl ?_
              exact ih (y6 + 1) m713 (B + 1) (hJ714.up (by omega)) (by omega) (fun g => by simp only [km708, km713, hT]) (by omega) (by omega)
            · refine X.iconst 13 i40_12 rfl rfl (by decide) ?_
              refine X.goto 17 i40_13 rfl rfl ?_
              refine X.cut [] i40_17 rfl ?_
              refine X.retz i40_17 rfl t40 (by omega) ?_
              show X (EE s) d 56 120 [(0, zr g0 33), (1, zi y1), (2, zi y2), (3, zi y3), (4, zr g4 37), (5, zi y5), (6, zi y6), (7, zi 1)] [zi 1] m713 _
              refine X.ifeq 143 123 i56_120 rfl rfl rfl (fun h721 => (by exfalso; omega)) (fun h721 => ?_)
              refine X.aload_n 124 i56_123 rfl rfl rfl ?_
              refine X.getR 127 i56_124 rfl rfl (by decide) rfl rfl ?_
              refine X.iload 129 i56_127 rfl rfl rfl ?_
              refine X.dup2 130 i56_129 rfl rfl ?_
              refine X.ialdr 131 i56_130 rfl rfl (by decide) rfl (by omega) (fun h722 => ?_)
              refine X.iload 133 i56_131 rfl rfl rfl ?_
              refine X.ifeq 140 136 i56_133 rfl rfl rfl (fun h723 => (by exfalso; omega)) (fun h723 => ?_)
              refine X.iload_n 137 i56_136 rfl rfl rfl ?_
              refine X.goto 141 i56_137 rfl rfl ?_
              refine X.cut [(0, zr g0 33), (1, zi y1), (2, zi y2), (3, zi y3), (4, zr g4 37), (5, zi y5), (6, zi y6)] i56_141 rfl ?_
              refine X.iiF 142 .iadd (fun x y => x + y) i56_141 rfl rfl rfl (fun _ _ => rfl) (fun z724 hz724 => ?_)
              refine X.iast' 143 i56_142 rfl rfl (by decide) rfl (by omega) (fun hrm725 m725 hm725 => ?_)
              have hJ726 := w35_0 hJ714 hm725 (by omega) hrm725
              have km725 : ∀ g, m725 g 8 9 = m713 g 8 9 := fun g9 => by rw [hm725]; exact z_upd_o _ _ rfl
              refine X.iinc 146 [(0, zr g0 33), (1, zi y1), (2, zi y2), (3, zi y3), (4, zr g4 37), (5, zi y5), (6, zi (y6 + 1))] i56_143 rfl rfl rfl (by omega) rfl ?_
              refine X.goto 3 i56_146 rfl rfl ?_
              exact ih (y6 + 1) m725 (B + 1) (hJ726.up (by omega)) (by omega) (fun g => by simp only [km708, km713, km725, hT]) (by omega) (by omega)
          · refine X.iconst 34 i56_33 rfl rfl (by decide) ?_
            refine X.goto 38 i56_34 rfl rfl ?_
            refine X.istore 40 [(0, zr g0 33), (1, zi y1), (2, zi y2), (3, zi y3), (4, zr g4 37), (5, zi y5), (6, zi y6), (7, zi 1), (8, zi 1)] i56_38 rfl rfl rfl ?_
            refine X.aload_n 41 i56_40 rfl rfl rfl ?_
            refine X.getR 44 i56_41 rfl rfl (by decide) rfl rfl ?_
            refine X.iload 46 i56_44 rfl rfl rfl ?_
            refine X.iload 48 i56_46 rfl rfl rfl ?_
            refine X.ifeq 63 51 i56_48 rfl rfl rfl (fun h727 => (by exfalso; omega)) (fun h727 => ?_)
            refine X.aload_n 52 i56_51 rfl rfl rfl ?_
            refine X.getR 55 i56_52 rfl rfl (by decide) rfl rfl ?_
            refine X.iload 57 i56_55 rfl rfl rfl ?_
            refine X.ialdr 58 i56_57 rfl rfl (by decide) rfl (by omega) (fun h728 => ?_)
            refine X.iload_n 59 i56_58 rfl rfl rfl ?_
            refine X.iiF 60 .iadd (fun x y => x + y) i56_59 rfl rfl rfl (fun _ _ => rfl) (fun z729 hz729 => ?_)
            refine X.goto 64 i56_60 rfl rfl ?_
            refine X.iast' 65 i56_64 rfl rfl (by decide) rfl (by omega) (fun hrm730 m730 hm730 => ?_)
            have hJ731 := w36_0 hJ hm730 (by omega) hrm730
            have km730 : ∀ g, m730 g 8 9 = m g 8 9 := fun g9 => by rw [hm730]; exact z_upd_o _ _ rfl
            refine X.iload 67 i56_65 rfl rfl rfl ?_
            refine X.ifeq 78 70 i56_67 rfl rfl rfl (fun h732 => (by exfalso; omega)) (fun h732 => ?_)
            refine X.iload 72 i56_70 rfl rfl rfl ?_
            refine X.ifne 114 75 i56_72 rfl rfl rfl (fun h733 => ?_) (fun h733 => (by exfalso; omega))
            refine X.cut [(0, zr g0 33), (1, zi y1), (2, zi y2), (3, zi y3), (4, zr g4 37), (5, zi y5), (6, zi y6), (7, zi 1)] i56_114 rfl ?_
            refine X.aload_n 115 i56_114 rfl rfl rfl ?_
            refine X.iload 117 i56_115 rfl rfl rfl ?_
            refine X.callv 120 [zi y6] [] [(0, zr g0 33), (1, zi y6)] i56_117 rfl (by decide) rfl rfl (by omega) rfl rfl (by decide) rfl t40 (Nat.le_of_ble_eq_true rfl) (Nat.le_of_ble_eq_true rfl) rfl ?_
            refine X.aload_n 1 i40_0 rfl rfl rfl ?_
            refine X.getIr 4 3 i40_1 rfl rfl (by decide) rfl rfl rfl (fun h734 => ?_)
            refine X.iload_n 5 i40_4 rfl rfl rfl ?_
            refine X.iiF 6 .ishr (fun x y => x >>> (y &&& 31)) i40_5 rfl rfl rfl (fun _ _ => rfl) (fun z735 hz735 => ?_)
            refine X.iconst 7 i40_6 rfl rfl (by decide) ?_
            refine X.andF 8 1 i40_7 rfl rfl (by decide) (.inl rfl) (fun z736 hz736 => ?_)
            refine X.iconst 9 i40_8 rfl rfl (by decide) ?_
            refine X.icmpne 16 12 i40_9 rfl rfl rfl (fun h737 => ?_) (fun h737 => ?_)
            · refine X.cut [] i40_16 rfl ?_
              refine X.iconst 17 i40_16 rfl rfl (by decide) ?_
              refine X.retz i40_17 rfl t40 (by omega) ?_
              show X (EE s) d 56 120 [(0, zr g0 33), (1, zi y1), (2, zi y2), (3, zi y3), (4, zr g4 37), (5, zi y5), (6, zi y6), (7, zi 1)] [zi 0] m730 _
              refine X.ifeq 143 123 i56_120 rfl rfl rfl (fun h738 => ?_) (fun h738 => (by exfalso; omega))
              refine X.cut [(0, zr g0 33), (1, zi y1), (2, zi y2), (3, zi y3), (4, zr g4 37), (5, zi y5), (6, zi y6)] i56_143 rfl ?_
              refine X.iinc 146 [(0, zr g0 33), (1, zi y1), (2, zi y2), (3, zi y3), (4, zr g4 37), (5, zi y5), (6, zi (y6 + 1))] i56_143 rfl rfl rfl (by omega) rfl ?_
              refine X.goto 3 i56_146 rfl rfl ?_
              exact ih (y6 + 1) m730 (B) (hJ731.up (by omega)) (by omega) (fun g => by simp only [km730, hT]) (by omega) (by omega)
            · refine X.iconst 13 i40_12 rfl rfl (by decide) ?_
              refine X.goto 17 i40_13 rfl rfl ?_
              refine X.cut [] i40_17 rfl ?_
              refine X.retz i40_17 rfl t40 (by omega) ?_
              show X (EE s) d 56 120 [(0, zr g0 33), (1, zi y1), (2, zi y2), (3, zi y3), (4, zr g4 37), (5, zi y5), (6, zi y6), (7, zi 1)] [zi 1] m730 _
              refine X.ifeq 143 123 i56_120 rfl rfl rfl (fun h739 => (by exfalso; omega)) (fun h739 => ?_)
              refine X.aload_n 124 i56_123 rfl rfl rfl ?_
              refine X.getR 127 i56_124 rfl rfl (by decide) rfl rfl ?_
              refine X.iload 129 i56_127 rfl rfl rfl ?_
              refine X.dup2 130 i56_129 rfl rfl ?_
              refine X.ialdr 131 i56_130 rfl rfl (by decide) rfl (by omega) (fun h740 => ?_)
              refine X.iload 133 i56_131 rfl rfl rfl ?_
              refine X.ifeq 140 136 i56_133 rfl rfl rfl (fun h741 => (by exfalso; omega)) (fun h741 => ?_)
              refine X.iload_n 137 i56_136 rfl rfl rfl ?_
              refine X.goto 141 i56_137 rfl rfl ?_
              refine X.cut [(0, zr g0 33), (1, zi y1), (2, zi y2), (3, zi y3), (4, zr g4 37), (5, zi y5), (6, zi y6)] i56_141 rfl ?_
              refine X.iiF 142 .iadd (fun x y => x + y) i56_141 rfl rfl rfl (fun _ _ => rfl) (fun z742 hz742 => ?_)
              refine X.iast' 143 i56_142 rfl rfl (by decide) rfl (by omega) (fun hrm743 m743 hm743 => ?_)
              have hJ744 := w35_0 hJ731 hm743 (by omega) hrm743
              have km743 : ∀ g, m743 g 8 9 = m730 g 8 9 := fun g9 => by rw [hm743]; exact z_upd_o _ _ rfl
              refine X.iinc 146 [(0, zr g0 33), (1, zi y1), (2, zi y2), (3, zi y3), (4, zr g4 37), (5, zi y5), (6, zi (y6 + 1))] i56_143 rfl rfl rfl (by omega) rfl ?_
              refine X.goto 3 i56_146 rfl rfl ?_
              exact ih (y6 + 1) m743 (B) (hJ744.up (by omega)) (by omega) (fun g => by simp only [km730, km743, hT]) (by omega) (by omega)
-- WorkMeter$Marks.passSeconds
theorem c56_2 {s : Nat × (Nat → Int32)} {m0 m : zM} {B : Int} {d : Nat} {Q : Option zV → zM → Prop} (g0 g4 : Nat) (a1 a2 a3 a5 : Int) (hd : 14 ≤ d) (hJ : J m0 B m) (hB : B + 6 ≤ 1000000000) (ha1 : (-1999999999) ≤ a1 ∧ a1 ≤ 1000000) (ha2 : (-2147483648) ≤ a2 ∧ a2 ≤ 2147483647) (ha3 : 0 ≤ a3 ∧ a3 ≤ 1000000) (ha5 : (-2000000000) ≤ a5 ∧ a5 ≤ 2000999999) (hQ : ∀ m', J m0 (B + 6) m' → (∀ g, m' g 8 9 = m g 8 9) → Q none m') : X (EE s) d 56 0 [(0, zr g0 33), (1, zi a1), (2, zi a2), (3, zi a3), (4, zr g4 37), (5, zi a5)] [] m Q := by
  refine X.iconst 1 i56_0 rfl rfl (by decide) ?_
  refine X.istore 3 [(0, zr g0 33), (1, zi a1), (2, zi a2), (3, zi a3), (4, zr g4 37), (5, zi a5), (6, zi 0)] i56_1 rfl rfl rfl ?_
  refine l56_3_2 (s := s) (m0 := m0) (d := d) g0 g4 a1 a2 a3 a5 (fun g => m g 8 9) (BE := B + 6) (by omega) (by omega) (by omega) (by omega) (by omega) (by omega) (fun  m501 B502 hJ503 hBB502 hkm501 => ?_) ((5 - 0 : Int).toNat + 1) 0 m (B) (hJ.up (by omega)) (by omega) (fun g => rfl) (by omega) (by omega)
  refine X.retv i56_149 rfl t56 ?_
  exact hQ  m501  (hJ503.up (by omega)) (fun g => by simp only [hkm501]) 
-- WorkMeter$Meter.meterStretch
theorem c26_2 {s : Nat × (Nat → Int32)} {m0 m : zM} {B : Int} {d : Nat} {Q : Option zV → zM → Prop} (g0 : Nat) (a1 : Int) (hd : 17 ≤ d) (hJ : J m0 B m) (hB : B + 8 ≤ 1000000000) (ha1 : 1 ≤ a1 ∧ a1 ≤ 2000000000) (hp0 : 1 ≤ a1) (hQ : ∀ (v : Int) m', ((-1999999999) ≤ v ∧ v ≤ 1000000) → J m0 (B + 8) m' → (1 ≤ v) → (v ≤ a1) → Q (some (zi v)) m') : X (EE s) d 26 0 [(0, zr g0 8), (1, zi a1)] [] m Q := by
  refine X.aload_n 1 i26_0 rfl rfl rfl ?_
  refine X.getR 4 i26_1 rfl rfl (by decide) rfl rfl ?_
  refine X.aload_n 5 i26_4 rfl rfl rfl ?_
  refine X.getI 8 9 i26_5 rfl rfl (by decide) rfl rfl rfl ?_
  have h501 := r8_9 hJ g0
  refine X.callv 11 [zi (m g0 8 9)] [] [(0, zr g0 11), (1, zi (m g0 8 9))] i26_8 rfl (by decide) rfl rfl (by omega) rfl rfl (by decide) rfl t27 (Nat.le_of_ble_eq_true rfl) (Nat.le_of_ble_eq_true rfl) rfl ?_
  refine X.aload_n 1 i27_0 rfl rfl rfl ?_
  refine X.aload_n 2 i27_1 rfl rfl rfl ?_
  refine X.iload_n 3 i27_2 rfl rfl rfl ?_
  refine X.ldc 5 i27_3 rfl rfl (by decide) ?_
  refine X.idiv 6 i27_5 rfl rfl (by omega) ?_
  refine X.callv 9 [zi ((m g0 8 9) / 86400)] [zr g0 11] [(0, zr g0 11), (1, zi ((m g0 8 9) / 86400))] i27_6 rfl (by decide) rfl rfl (by omega) rfl rfl (by decide) rfl t28 (Nat.le_of_ble_eq_true rfl) (Nat.le_of_ble_eq_true rfl) rfl ?_
  refine c28_1 (B := B) g0 ((m g0 8 9) / 86400) (by omega) (hJ.up (by omega)) (by omega) (by omega) (fun v504 hv504 => ?_)
  show X (EE s) (d - 1) 27 9 [(0, zr g0 11), (1, zi (m g0 8 9))] [zi v504, zr g0 11] m _
  refine X.iload_n 10 i27_9 rfl rfl rfl ?_
  refine X.ldc 12 i27_10 rfl rfl (by decide) ?_
  refine X.irem 13 i27_12 rfl rfl (by omega) ?_
  refine X.callv 16 [zi v504, zi ((m g0 8 9) % 86400)] [] [(0, zr g0 11), (1, zi v504), (2, zi ((m g0 8 9) % 86400))] i27_13 rfl (by decide) rfl rfl (by omega) rfl rfl (by decide) rfl t31 (Nat.le_of_ble_eq_true rfl) (Nat.le_of_ble_eq_true rfl) rfl ?_
  refine c31_1 (B := B) g0 v504 ((m g0 8 9) % 86400) (by omega) (hJ.up (by omega)) (by omega) (by omega) (by omega) (fun v507 hv507 => ?_)
  show X (EE s) (d - 1) 27 16 [(0, zr g0 11), (1, zi (m g0 8 9))] [zi v507] m _
  refine X.reti i27_16 rfl t27 ?_
  show X (EE s) d 26 11 [(0, zr g0 8), (1, zi a1)] [zi v507] m _
  refine X.istore_n 12 [(0, zr g0 8), (1, zi a1), (2, zi v507)] i26_11 rfl rfl rfl ?_
  refine X.aload_n 13 i26_12 rfl rfl rfl ?_
  refine X.getR 16 i26_13 rfl rfl (by decide) rfl rfl ?_
  refine X.aload_n 17 i26_16 rfl rfl rfl ?_
  refine X.getR 20 i26_17 rfl rfl (by decide) rfl rfl ?_
  refine X.callv 23 [] [zr g0 19] [(0, zr g0 9)] i26_20 rfl (by decide) rfl rfl (by omega) rfl rfl (by decide) rfl t33 (Nat.le_of_ble_eq_true rfl) (Nat.le_of_ble_eq_true rfl) rfl ?_
  refine X.aload_n 1 i33_0 rfl rfl rfl ?_
  refine X.getR 4 i33_1 rfl rfl (by decide) rfl rfl ?_
  refine X.iconst 5 i33_4 rfl rfl (by decide) ?_
  refine X.iald 6 i33_5 rfl rfl (by decide) rfl (by omega) ?_
  have h508 := r10_0 hJ g0 (i := 2) (by omega)
  refine X.reti i33_6 rfl t33 ?_
  show X (EE s) d 26 23 [(0, zr g0 8), (1, zi a1), (2, zi v507)] [zi (m g0 10 2), zr g0 19] m _
  refine X.callv 26 [zi (m g0 10 2)] [] [(0, zr g0 19), (1, zi (m g0 10 2))] i26_23 rfl (by decide) rfl rfl (by omega) rfl rfl (by decide) rfl t34 (Nat.le_of_ble_eq_true rfl) (Nat.le_of_ble_eq_true rfl) rfl ?_
  refine c34_1 (B := B) g0 (m g0 10 2) (by omega) (hJ.up (by omega)) (by omega) (by omega) (fun v511 hv511 => ?_)
  show X (EE s) d 26 26 [(0, zr g0 8), (1, zi a1), (2, zi v507)] [zi v511] m _
  refine X.istore_n 27 [(0, zr g0 8), (1, zi a1), (2, zi v507), (3, zi v511)] i26_26 rfl rfl rfl ?_
  refine X.aload_n 28 i26_27 rfl rfl rfl ?_
  refine X.iload_n 29 i26_28 rfl rfl rfl ?_
  refine X.iload_n 30 i26_29 rfl rfl rfl ?_
  refine X.iload_n 31 i26_30 rfl rfl rfl ?_
  refine X.callv 34 [zi a1, zi v507, zi v511] [] [(0, zr g0 8), (1, zi a1), (2, zi v507), (3, zi v511)] i26_31 rfl (by decide) rfl rfl (by omega) rfl rfl (by decide) rfl t35 (Nat.le_of_ble_eq_true rfl) (Nat.le_of_ble_eq_true rfl) rfl ?_
  refine c35_2 (B := B) g0 a1 v507 v511 (by omega) (hJ.up (by omega)) (by omega) (by omega) (by omega) (by omega) (by omega) (fun v514 hv514 hqv5140 hqv5141 hqv5142 => ?_)
  show X (EE s) d 26 34 [(0, zr g0 8), (1, zi a1), (2, zi v507), (3, zi v511)] [zi v514] m _
  refine X.istore 36 [(0, zr g0 8), (1, zi a1), (2, zi v507), (3, zi v511), (4, zi v514)] i26_34 rfl rfl rfl ?_
  refine X.aload_n 37 i26_36 rfl rfl rfl ?_
  refine X.iload 39 i26_37 rfl rfl rfl ?_
  refine X.iload_n 40 i26_39 rfl rfl rfl ?_
  refine X.callv 43 [zi v514, zi v507] [] [(0, zr g0 8), (1, zi v514), (2, zi v507)] i26_40 rfl (by decide) rfl rfl (by omega) rfl rfl (by decide) rfl t49 (Nat.le_of_ble_eq_true rfl) (Nat.le_of_ble_eq_true rfl) rfl ?_
  refine c49_2 (B := B) g0 v514 v507 (by omega) (hJ.up (by omega)) (by omega) (by omega) (by omega) (fun m515 hJ516 km515 => ?_)
  have kkm5150 := km515 0
  have kkm515g0 := km515 g0
  show X (EE s) d 26 43 [(0, zr g0 8), (1, zi a1), (2, zi v507), (3, zi v511), (4, zi v514)] [] m515 _
  refine X.aload_n 44 i26_43 rfl rfl rfl ?_
  refine X.dup 45 i26_44 rfl rfl rfl ?_
  refine X.getIr 48 13 i26_45 rfl rfl (by decide) rfl rfl rfl (fun h518 => ?_)
  refine X.iload 50 i26_48 rfl rfl rfl ?_
  refine X.iiF 51 .iadd (fun x y => x + y) i26_50 rfl rfl rfl (fun _ _ => rfl) (fun z519 hz519 => ?_)
  refine X.putI' 54 13 i26_51 rfl rfl (by decide) rfl rfl rfl (fun hrm520 m520 hm520 => ?_)
  have hJ521 := w8_13 hJ516 hm520 (by omega) hrm520
  have kum520 : m520 g0 8 9 = m515 g0 8 9 := by rw [hm520]; exact z_upd_o _ _ rfl
  refine X.aload_n 55 i26_54 rfl rfl rfl ?_
  refine X.dup 56 i26_55 rfl rfl rfl ?_
  refine X.getI 59 9 i26_56 rfl rfl (by decide) rfl rfl rfl ?_
  have h522 := r8_9 hJ521 g0
  refine X.iload 61 i26_59 rfl rfl rfl ?_
  refine X.iconst 62 i26_61 rfl rfl (by decide) ?_
  refine X.isub 63 i26_62 rfl rfl (by omega) ?_
  refine X.iadd 64 i26_63 rfl rfl (by omega) ?_
  refine X.putI' 67 9 i26_64 rfl rfl (by decide) rfl rfl rfl (fun hrm523 m523 hm523 => ?_)
  have hJ524 := w8_9 hJ521 hm523 (by omega)
  have em523 : m523 g0 8 9 = ((m520 g0 8 9) + (v514 - 1)) := by rw [hm523]; exact z_upd_same _ _ _ _ _
  refine X.aload_n 68 i26_67 rfl rfl rfl ?_
  refine X.callv 71 [] [] [(0, zr g0 8)] i26_68 rfl (by decide) rfl rfl (by omega) rfl rfl (by decide) rfl t53 (Nat.le_of_ble_eq_true rfl) (Nat.le_of_ble_eq_true rfl) rfl ?_
  refine X.aload_n 1 i53_0 rfl rfl rfl ?_
  refine X.getZ 4 11 i53_1 rfl rfl (by decide) rfl rfl rfl (fun h525 => ?_)
  refine X.ifeq 20 7 i53_4 rfl rfl rfl (fun h526 => ?_) (fun h526 => ?_)
  · refine X.iconst 21 i53_20 rfl rfl (by decide) ?_
    refine X.istore_n 22 [(0, zr g0 8), (1, zi 0)] i53_21 rfl rfl rfl ?_
    refine X.iload_n 23 i53_22 rfl rfl rfl ?_
    refine X.aload_n 24 i53_23 rfl rfl rfl ?_
    refine X.getZ 27 12 i53_24 rfl rfl (by decide) rfl rfl rfl (fun h527 => ?_)
    refine X.icmpeq 54 30 i53_27 rfl rfl rfl (fun h528 => ?_) (fun h528 => ?_)
    · refine X.cut [] i53_54 rfl ?_
      refine X.retv i53_54 rfl t53 ?_
      show X (EE s) d 26 71 [(0, zr g0 8), (1, zi a1), (2, zi v507), (3, zi v511), (4, zi v514)] [] m523 _
      refine X.aload_n 72 i26_71 rfl rfl rfl ?_
      refine X.getR 75 i26_72 rfl rfl (by decide) rfl rfl ?_
      refine X.iload 77 i26_75 rfl rfl rfl ?_
      refine X.iload_n 78 i26_77 rfl rfl rfl ?_
      refine X.aload_n 79 i26_78 rfl rfl rfl ?_
      refine X.getR 82 i26_79 rfl rfl (by decide) rfl rfl ?_
      refine X.callv 85 [] [zi v511, zi v514, zr g0 33] [(0, zr g0 9)] i26_82 rfl (by decide) rfl rfl (by omega) rfl rfl (by decide) rfl t38 (Nat.le_of_ble_eq_true rfl) (Nat.le_of_ble_eq_true rfl) rfl ?_
      refine X.aload_n 1 i38_0 rfl rfl rfl ?_
      refine X.getR 4 i38_1 rfl rfl (by decide) rfl rfl ?_
      refine X.iconst 5 i38_4 rfl rfl (by decide) ?_
      refine X.iald 6 i38_5 rfl rfl (by decide) rfl (by omega) ?_
      have h529 := r10_0 hJ524 g0 (i := 3) (by omega)
      refine X.reti i38_6 rfl t38 ?_
      show X (EE s) d 26 85 [(0, zr g0 8), (1, zi a1), (2, zi v507), (3, zi v511), (4, zi v514)] [zi (m523 g0 10 3), zi v511, zi v514, zr g0 33] m523 _
      refine X.aload_n 86 i26_85 rfl rfl rfl ?_
      refine X.getR 89 i26_86 rfl rfl (by decide) rfl rfl ?_
      refine X.aload_n 90 i26_89 rfl rfl rfl ?_
      refine X.getI 93 9 i26_90 rfl rfl (by decide) rfl rfl rfl ?_
      refine X.callv 96 [zi v514, zi v511, zi (m523 g0 10 3), zr g0 37, zi (m523 g0 8 9)] [] [(0, zr g0 33), (1, zi v514), (2, zi v511), (3, zi (m523 g0 10 3)), (4, zr g0 37), (5, zi (m523 g0 8 9))] i26_93 rfl (by decide) rfl rfl (by omega) rfl rfl (by decide) rfl t56 (Nat.le_of_ble_eq_true rfl) (Nat.le_of_ble_eq_true rfl) rfl ?_
      refine c56_2 (B := B) g0 g0 v514 v511 (m523 g0 10 3) (m523 g0 8 9) (by omega) (hJ524.up (by omega)) (by omega) (by omega) (by omega) (by omega) (by omega) (fun m530 hJ531 km530 => ?_)
      have kkm5300 := km530 0
      have kkm530g0 := km530 g0
      show X (EE s) d 26 96 [(0, zr g0 8), (1, zi a1), (2, zi v507), (3, zi v511), (4, zi v514)] [] m530 _
      refine X.aload_n 97 i26_96 rfl rfl rfl ?_
      refine X.getR 100 i26_97 rfl rfl (by decide) rfl rfl ?_
      refine X.iload 102 i26_100 rfl rfl rfl ?_
      refine X.aload_n 103 i26_102 rfl rfl rfl ?_
      refine X.getR 106 i26_103 rfl rfl (by decide) rfl rfl ?_
      refine X.getIr 109 3 i26_106 rfl rfl (by decide) rfl rfl rfl (fun h533 => ?_)
      refine X.callv 112 [zi v514, zi (m530 g0 33 3)] [] [(0, zr g0 27), (1, zi v514), (2, zi (m530 g0 33 3))] i26_109 rfl (by decide) rfl rfl (by omega) rfl rfl (by decide) rfl t58 (Nat.le_of_ble_eq_true rfl) (Nat.le_of_ble_eq_true rfl) rfl ?_
      refine X.aload_n 1 i58_0 rfl rfl rfl ?_
      refine X.dup 2 i58_1 rfl rfl rfl ?_
      refine X.getIr 5 6 i58_2 rfl rfl (by decide) rfl rfl rfl (fun h534 => ?_)
      refine X.iload_n 6 i58_5 rfl rfl rfl ?_
      refine X.iiF 7 .iadd (fun x y => x + y) i58_6 rfl rfl rfl (fun _ _ => rfl) (fun z535 hz535 => ?_)
      refine X.putI' 10 6 i58_7 rfl rfl (by decide) rfl rfl rfl (fun hrm536 m536 hm536 => ?_)
      have hJ537 := w27_3 hJ531 hm536 (by omega) hrm536
      have kum536 : m536 g0 8 9 = m530 g0 8 9 := by rw [hm536]; exact z_upd_o _ _ rfl
      refine X.aload_n 11 i58_10 rfl rfl rfl ?_
      refine X.dup 12 i58_11 rfl rfl rfl ?_
      refine X.getIr 15 8 i58_12 rfl rfl (by decide) rfl rfl rfl (fun h538 => ?_)
      refine X.iload_n 16 i58_15 rfl rfl rfl ?_
      refine X.iiF 17 .ior (fun x y => x ||| y) i58_16 rfl rfl rfl (fun _ _ => rfl) (fun z539 hz539 => ?_)
      refine X.putI' 20 8 i58_17 rfl rfl (by decide) rfl rfl rfl (fun hrm540 m540 hm540 => ?_)
      have hJ541 := w27_3 hJ537 hm540 (by omega) hrm540
      have kum540 : m540 g0 8 9 = m536 g0 8 9 := by rw [hm540]; exact z_upd_o _ _ rfl
      refine X.retv i58_20 rfl t58 ?_
      show X (EE s) d 26 112 [(0, zr g0 8), (1, zi a1), (2, zi v507), (3, zi v511), (4, zi v514)] [] m540 _
      refine X.aload_n 113 i26_112 rfl rfl rfl ?_
      refine X.getI 116 9 i26_113 rfl rfl (by decide) rfl rfl rfl ?_
      have h542 := r8_9 hJ541 g0
      refine X.ldc 118 i26_116 rfl rfl (by decide) ?_
      refine X.icmpge 131 121 i26_118 rfl rfl rfl (fun h543 => ?_) (fun h543 => ?_)
      · refine X.cut [(0, zr g0 8), (2, zi v507), (4, zi v514)] i26_131 rfl ?_
        refine X.aload_n 132 i26_131 rfl rfl rfl ?_
        refine X.iload_n 133 i26_132 rfl rfl rfl ?_
        refine X.callv 136 [zi v507] [] [(0, zr g0 8), (1, zi v507)] i26_133 rfl (by decide) rfl rfl (by omega) rfl rfl (by decide) rfl t59 (Nat.le_of_ble_eq_true rfl) (Nat.le_of_ble_eq_true rfl) rfl ?_
        refine c59_1 (B := B + 6) g0 v507 (by omega) (hJ541.up (by omega)) (by omega) (by omega) (fun m544 hJ545 km544 => ?_)
        have kkm5440 := km544 0
        have kkm544g0 := km544 g0
        show X (EE s) d 26 136 [(0, zr g0 8), (2, zi v507), (4, zi v514)] [] m544 _
        refine X.iload 138 i26_136 rfl rfl rfl ?_
        refine X.reti i26_138 rfl t26 ?_
        exact hQ v514 m544 (by first | trivial | omega) (hJ545.up (by omega))  (by omega) (by omega)
      · refine X.aload_n 122 i26_121 rfl rfl rfl ?_
        refine X.dup 123 i26_122 rfl rfl rfl ?_
        refine X.getI 126 9 i26_123 rfl rfl (by decide) rfl rfl rfl ?_
        refine X.iconst 127 i26_126 rfl rfl (by decide) ?_
        refine X.iadd 128 i26_127 rfl rfl (by omega) ?_
        refine X.putI' 131 9 i26_128 rfl rfl (by decide) rfl rfl rfl (fun hrm547 m547 hm547 => ?_)
        have hJ548 := w8_9 hJ541 hm547 (by omega)
        have em547 : m547 g0 8 9 = ((m540 g0 8 9) + 1) := by rw [hm547]; exact z_upd_same _ _ _ _ _
        refine X.cut [(0, zr g0 8), (2, zi v507), (4, zi v514)] i26_131 rfl ?_
        refine X.aload_n 132 i26_131 rfl rfl rfl ?_
        refine X.iload_n 133 i26_132 rfl rfl rfl ?_
        refine X.callv 136 [zi v507] [] [(0, zr g0 8), (1, zi v507)] i26_133 rfl (by decide) rfl rfl (by omega) rfl rfl (by decide) rfl t59 (Nat.le_of_ble_eq_true rfl) (Nat.le_of_ble_eq_true rfl) rfl ?_
        refine c59_1 (B := B + 6) g0 v507 (by omega) (hJ548.up (by omega)) (by omega) (by omega) (fun m549 hJ550 km549 => ?_)
        have kkm5490 := km549 0
        have kkm549g0 := km549 g0
        show X (EE s) d 26 136 [(0, zr g0 8), (2, zi v507), (4, zi v514)] [] m549 _
        refine X.iload 138 i26_136 rfl rfl rfl ?_
        refine X.reti i26_138 rfl t26 ?_
        exact hQ v514 m549 (by first | trivial | omega) (hJ550.up (by omega))  (by omega) (by omega)
    · refine X.aload_n 31 i53_30 rfl rfl rfl ?_
      refine X.iload_n 32 i53_31 rfl rfl rfl ?_
      refine X.putZ' 35 12 i53_32 rfl rfl (by decide) rfl rfl rfl (by omega) (fun hrm552 m552 hm552 => ?_)
      have hJ553 := w8_12 hJ524 hm552 (by omega)
      have kum552 : m552 g0 8 9 = m523 g0 8 9 := by rw [hm552]; exact z_upd_o _ _ rfl
      refine X.aload_n 36 i53_35 rfl rfl rfl ?_
      refine X.aload_n 37 i53_36 rfl rfl rfl ?_
      refine X.getZ 40 12 i53_37 rfl rfl (by decide) rfl rfl rfl (fun h554 => ?_)
      refine X.ifeq 48 43 i53_40 rfl rfl rfl (fun h555 => ?_) (fun h555 => ?_)
      · refine X.cut [] i53_48 rfl ?_
        refine X.bipush 50 i53_48 rfl rfl (by decide) ?_
        refine X.iconst 51 i53_50 rfl rfl (by decide) ?_
        refine X.callv 54 [zi 23, zi 0] [] [(0, zr g0 8), (1, zi 23), (2, zi 0)] i53_51 rfl (by decide) rfl rfl (by omega) rfl rfl (by decide) rfl t54 (Nat.le_of_ble_eq_true rfl) (Nat.le_of_ble_eq_true rfl) rfl ?_
        refine X.aload_n 1 i54_0 rfl rfl rfl ?_
        refine X.getR 4 i54_1 rfl rfl (by decide) rfl rfl ?_
        refine X.aload_n 5 i54_4 rfl rfl rfl ?_
        refine X.getI 8 9 i54_5 rfl rfl (by decide) rfl rfl rfl ?_
        have h556 := r8_9 hJ553 g0
        refine X.iload_n 9 i54_8 rfl rfl rfl ?_
        refine X.iload_n 10 i54_9 rfl rfl rfl ?_
        refine X.callv 13 [zi (m552 g0 8 9), zi 23, zi 0] [] [(0, zr g0 37), (1, zi (m552 g0 8 9)), (2, zi 23), (3, zi 0)] i54_10 rfl (by decide) rfl rfl (by omega) rfl rfl (by decide) rfl t55 (Nat.le_of_ble_eq_true rfl) (Nat.le_of_ble_eq_true rfl) rfl ?_
        refine X.aload_n 1 i55_0 rfl rfl rfl ?_
        refine X.getI 4 1 i55_1 rfl rfl (by decide) rfl rfl rfl ?_
        have h557 := r37_1 hJ553 g0
        refine X.bipush 6 i55_4 rfl rfl (by decide) ?_
        refine X.irem 7 i55_6 rfl rfl (by omega) ?_
        refine X.iconst 8 i55_7 rfl rfl (by decide) ?_
        refine X.imul 9 i55_8 rfl rfl (by omega) ?_
        refine X.istore 11 [(0, zr g0 37), (1, zi (m552 g0 8 9)), (2, zi 23), (3, zi 0), (4, zi (((m552 g0 37 1) % 40) * 3))] i55_9 rfl rfl rfl ?_
        refine X.aload_n 12 i55_11 rfl rfl rfl ?_
        refine X.getR 15 i55_12 rfl rfl (by decide) rfl rfl ?_
        refine X.iload 17 i55_15 rfl rfl rfl ?_
        refine X.iload_n 18 i55_17 rfl rfl rfl ?_
        refine X.iast' 19 i55_18 rfl rfl (by decide) rfl (by omega) (fun hrm558 m558 hm558 => ?_)
        have hJ559 := w38_0 hJ553 hm558 (by omega) hrm558
        have kum558 : m558 g0 8 9 = m552 g0 8 9 := by rw [hm558]; exact z_upd_o _ _ rfl
        refine X.aload_n 20 i55_19 rfl rfl rfl ?_
        refine X.getR 23 i55_20 rfl rfl (by decide) rfl rfl ?_
        refine X.iload 25 i55_23 rfl rfl rfl ?_
        refine X.iconst 26 i55_25 rfl rfl (by decide) ?_
        refine X.iadd 27 i55_26 rfl rfl (by omega) ?_
        refine X.iload_n 28 i55_27 rfl rfl rfl ?_
        refine X.iast' 29 i55_28 rfl rfl (by decide) rfl (by omega) (fun hrm560 m560 hm560 => ?_)
        have hJ561 := w38_0 hJ559 hm560 (by omega) hrm560
        have kum560 : m560 g0 8 9 = m558 g0 8 9 := by rw [hm560]; exact z_upd_o _ _ rfl
        refine X.aload_n 30 i55_29 rfl rfl rfl ?_
        refine X.getR 33 i55_30 rfl rfl (by decide) rfl rfl ?_
        refine X.iload 35 i55_33 rfl rfl rfl ?_
        refine X.iconst 36 i55_35 rfl rfl (by decide) ?_
        refine X.iadd 37 i55_36 rfl rfl (by omega) ?_
        refine X.iload_n 38 i55_37 rfl rfl rfl ?_
        refine X.iast' 39 i55_38 rfl rfl (by decide) rfl (by omega) (fun hrm562 m562 hm562 => ?_)
        have hJ563 := w38_0 hJ561 hm562 (by omega) hrm562
        have kum562 : m562 g0 8 9 = m560 g0 8 9 := by rw [hm562]; exact z_upd_o _ _ rfl
        refine X.aload_n 40 i55_39 rfl rfl rfl ?_
        refine X.dup 41 i55_40 rfl rfl rfl ?_
        refine X.getI 44 1 i55_41 rfl rfl (by decide) rfl rfl rfl ?_
        have h564 := r37_1 hJ563 g0
        refine X.iconst 45 i55_44 rfl rfl (by decide) ?_
        refine X.iadd 46 i55_45 rfl rfl (by omega) ?_
        refine X.putI' 49 1 i55_46 rfl rfl (by decide) rfl rfl rfl (fun hrm565 m565 hm565 => ?_)
        have hJ566 := w37_1 (hJ563.up (B' := B + 1) (by omega)) hm565 (by omega)
        have kum565 : m565 g0 8 9 = m562 g0 8 9 := by rw [hm565]; exact z_upd_o _ _ rfl
        refine X.retv i55_49 rfl t55 ?_
        show X (EE s) ((d - 1) - 1) 54 13 [(0, zr g0 8), (1, zi 23), (2, zi 0)] [] m565 _
        refine X.retv i54_13 rfl t54 ?_
        show X (EE s) (d - 1) 53 54 [] [] m565 _
        refine X.retv i53_54 rfl t53 ?_
        show X (EE s) d 26 71 [(0, zr g0 8), (1, zi a1), (2, zi v507), (3, zi v511), (4, zi v514)] [] m565 _
        refine X.aload_n 72 i26_71 rfl rfl rfl ?_
        refine X.getR 75 i26_72 rfl rfl (by decide) rfl rfl ?_
        refine X.iload 77 i26_75 rfl rfl rfl ?_
        refine X.iload_n 78 i26_77 rfl rfl rfl ?_
        refine X.aload_n 79 i26_78 rfl rfl rfl ?_
        refine X.getR 82 i26_79 rfl rfl (by decide) rfl rfl ?_
        refine X.callv 85 [] [zi v511, zi v514, zr g0 33] [(0, zr g0 9)] i26_82 rfl (by decide) rfl rfl (by omega) rfl rfl (by decide) rfl t38 (Nat.le_of_ble_eq_true rfl) (Nat.le_of_ble_eq_true rfl) rfl ?_
        refine X.aload_n 1 i38_0 rfl rfl rfl ?_
        refine X.getR 4 i38_1 rfl rfl (by decide) rfl rfl ?_
        refine X.iconst 5 i38_4 rfl rfl (by decide) ?_
        refine X.iald 6 i38_5 rfl rfl (by decide) rfl (by omega) ?_
        have h567 := r10_0 hJ566 g0 (i := 3) (by omega)
        refine X.reti i38_6 rfl t38 ?_
        show X (EE s) d 26 85 [(0, zr g0 8), (1, zi a1), (2, zi v507), (3, zi v511), (4, zi v514)] [zi (m565 g0 10 3), zi v511, zi v514, zr g0 33] m565 _
        refine X.aload_n 86 i26_85 rfl rfl rfl ?_
        refine X.getR 89 i26_86 rfl rfl (by decide) rfl rfl ?_
        refine X.aload_n 90 i26_89 rfl rfl rfl ?_
        refine X.getI 93 9 i26_90 rfl rfl (by decide) rfl rfl rfl ?_
        have h568 := r8_9 hJ566 g0
        refine X.callv 96 [zi v514, zi v511, zi (m565 g0 10 3), zr g0 37, zi (m565 g0 8 9)] [] [(0, zr g0 33), (1, zi v514), (2, zi v511), (3, zi (m565 g0 10 3)), (4, zr g0 37), (5, zi (m565 g0 8 9))] i26_93 rfl (by decide) rfl rfl (by omega) rfl rfl (by decide) rfl t56 (Nat.le_of_ble_eq_true rfl) (Nat.le_of_ble_eq_true rfl) rfl ?_
        refine c56_2 (B := B + 1) g0 g0 v514 v511 (m565 g0 10 3) (m565 g0 8 9) (by omega) (hJ566.up (by omega)) (by omega) (by omega) (by omega) (by omega) (by omega) (fun m569 hJ570 km569 => ?_)
        have kkm5690 := km569 0
        have kkm569g0 := km569 g0
        show X (EE s) d 26 96 [(0, zr g0 8), (1, zi a1), (2, zi v507), (3, zi v511), (4, zi v514)] [] m569 _
        refine X.aload_n 97 i26_96 rfl rfl rfl ?_
        refine X.getR 100 i26_97 rfl rfl (by decide) rfl rfl ?_
        refine X.iload 102 i26_100 rfl rfl rfl ?_
        refine X.aload_n 103 i26_102 rfl rfl rfl ?_
        refine X.getR 106 i26_103 rfl rfl (by decide) rfl rfl ?_
        refine X.getIr 109 3 i26_106 rfl rfl (by decide) rfl rfl rfl (fun h572 => ?_)
        refine X.callv 112 [zi v514, zi (m569 g0 33 3)] [] [(0, zr g0 27), (1, zi v514), (2, zi (m569 g0 33 3))] i26_109 rfl (by decide) rfl rfl (by omega) rfl rfl (by decide) rfl t58 (Nat.le_of_ble_eq_true rfl) (Nat.le_of_ble_eq_true rfl) rfl ?_
        refine X.aload_n 1 i58_0 rfl rfl rfl ?_
        refine X.dup 2 i58_1 rfl rfl rfl ?_
        refine X.getIr 5 6 i58_2 rfl rfl (by decide) rfl rfl rfl (fun h573 => ?_)
        refine X.iload_n 6 i58_5 rfl rfl rfl ?_
        refine X.iiF 7 .iadd (fun x y => x + y) i58_6 rfl rfl rfl (fun _ _ => rfl) (fun z574 hz574 => ?_)
        refine X.putI' 10 6 i58_7 rfl rfl (by decide) rfl rfl rfl (fun hrm575 m575 hm575 => ?_)
        have hJ576 := w27_3 hJ570 hm575 (by omega) hrm575
        have kum575 : m575 g0 8 9 = m569 g0 8 9 := by rw [hm575]; exact z_upd_o _ _ rfl
        refine X.aload_n 11 i58_10 rfl rfl rfl ?_
        refine X.dup 12 i58_11 rfl rfl rfl ?_
        refine X.getIr 15 8 i58_12 rfl rfl (by decide) rfl rfl rfl (fun h577 => ?_)
        refine X.iload_n 16 i58_15 rfl rfl rfl ?_
        refine X.iiF 17 .ior (fun x y => x ||| y) i58_16 rfl rfl rfl (fun _ _ => rfl) (fun z578 hz578 => ?_)
        refine X.putI' 20 8 i58_17 rfl rfl (by decide) rfl rfl rfl (fun hrm579 m579 hm579 => ?_)
        have hJ580 := w27_3 hJ576 hm579 (by omega) hrm579
        have kum579 : m579 g0 8 9 = m575 g0 8 9 := by rw [hm579]; exact z_upd_o _ _ rfl
        refine X.retv i58_20 rfl t58 ?_
        show X (EE s) d 26 112 [(0, zr g0 8), (1, zi a1), (2, zi v507), (3, zi v511), (4, zi v514)] [] m579 _
        refine X.aload_n 113 i26_112 rfl rfl rfl ?_
        refine X.getI 116 9 i26_113 rfl rfl (by decide) rfl rfl rfl ?_
        have h581 := r8_9 hJ580 g0
        refine X.ldc 118 i26_116 rfl rfl (by decide) ?_
        refine X.icmpge 131 121 i26_118 rfl rfl rfl (fun h582 => ?_) (fun h582 => ?_)
        · refine X.cut [(0, zr g0 8), (2, zi v507), (4, zi v514)] i26_131 rfl ?_
          refine X.aload_n 132 i26_131 rfl rfl rfl ?_
          refine X.iload_n 133 i26_132 rfl rfl rfl ?_
          refine X.callv 136 [zi v507] [] [(0, zr g0 8), (1, zi v507)] i26_133 rfl (by decide) rfl rfl (by omega) rfl rfl (by decide) rfl t59 (Nat.le_of_ble_eq_true rfl) (Nat.le_of_ble_eq_true rfl) rfl ?_
          refine c59_1 (B := B + 7) g0 v507 (by omega) (hJ580.up (by omega)) (by omega) (by omega) (fun m583 hJ584 km583 => ?_)
          have kkm5830 := km583 0
          have kkm583g0 := km583 g0
          show X (EE s) d 26 136 [(0, zr g0 8), (2, zi v507), (4, zi v514)] [] m583 _
          refine X.iload 138 i26_136 rfl rfl rfl ?_
          refine X.reti i26_138 rfl t26 ?_
          exact hQ v514 m583 (by first | trivial | omega) (hJ584.up (by omega))  (by omega) (by omega)
        · refine X.aload_n 122 i26_121 rfl rfl rfl ?_
          refine X.dup 123 i26_122 rfl rfl rfl ?_
          refine X.getI 126 9 i26_123 rfl rfl (by decide) rfl rfl rfl ?_
          refine X.iconst 127 i26_126 rfl rfl (by decide) ?_
          refine X.iadd 128 i26_127 rfl rfl (by omega) ?_
          refine X.putI' 131 9 i26_128 rfl rfl (by decide) rfl rfl rfl (fun hrm586 m586 hm586 => ?_)
          have hJ587 := w8_9 hJ580 hm586 (by omega)
          have em586 : m586 g0 8 9 = ((m579 g0 8 9) + 1) := by rw [hm586]; exact z_upd_same _ _ _ _ _
          refine X.cut [(0, zr g0 8), (2, zi v507), (4, zi v514)] i26_131 rfl ?_
          refine X.aload_n 132 i26_131 rfl rfl rfl ?_
          refine X.iload_n 133 i26_132 rfl rfl rfl ?_
          refine X.callv 136 [zi v507] [] [(0, zr g0 8), (1, zi v507)] i26_133 rfl (by decide) rfl rfl (by omega) rfl rfl (by decide) rfl t59 (Nat.le_of_ble_eq_true rfl) (Nat.le_of_ble_eq_true rfl) rfl ?_
          refine c59_1 (B := B + 7) g0 v507 (by omega) (hJ587.up (by omega)) (by omega) (by omega) (fun m588 hJ589 km588 => ?_)
          have kkm5880 := km588 0
          have kkm588g0 := km588 g0
          show X (EE s) d 26 136 [(0, zr g0 8), (2, zi v507), (4, zi v514)] [] m588 _
          refine X.iload 138 i26_136 rfl rfl rfl ?_
          refine X.reti i26_138 rfl t26 ?_
          exact hQ v514 m588 (by first | trivial | omega) (hJ589.up (by omega))  (by omega) (by omega)
      · refine X.bipush 45 i53_43 rfl rfl (by decide) ?_
        refine X.goto 50 i53_45 rfl rfl ?_
        refine X.cut [] i53_50 rfl ?_
        refine X.iconst 51 i53_50 rfl rfl (by decide) ?_
        refine X.callv 54 [zi 22, zi 0] [] [(0, zr g0 8), (1, zi 22), (2, zi 0)] i53_51 rfl (by decide) rfl rfl (by omega) rfl rfl (by decide) rfl t54 (Nat.le_of_ble_eq_true rfl) (Nat.le_of_ble_eq_true rfl) rfl ?_
        refine X.aload_n 1 i54_0 rfl rfl rfl ?_
        refine X.getR 4 i54_1 rfl rfl (by decide) rfl rfl ?_
        refine X.aload_n 5 i54_4 rfl rfl rfl ?_
        refine X.getI 8 9 i54_5 rfl rfl (by decide) rfl rfl rfl ?_
        have h591 := r8_9 hJ553 g0
        refine X.iload_n 9 i54_8 rfl rfl rfl ?_
        refine X.iload_n 10 i54_9 rfl rfl rfl ?_
        refine X.callv 13 [zi (m552 g0 8 9), zi 22, zi 0] [] [(0, zr g0 37), (1, zi (m552 g0 8 9)), (2, zi 22), (3, zi 0)] i54_10 rfl (by decide) rfl rfl (by omega) rfl rfl (by decide) rfl t55 (Nat.le_of_ble_eq_true rfl) (Nat.le_of_ble_eq_true rfl) rfl ?_
        refine X.aload_n 1 i55_0 rfl rfl rfl ?_
        refine X.getI 4 1 i55_1 rfl rfl (by decide) rfl rfl rfl ?_
        have h592 := r37_1 hJ553 g0
        refine X.bipush 6 i55_4 rfl rfl (by decide) ?_
        refine X.irem 7 i55_6 rfl rfl (by omega) ?_
        refine X.iconst 8 i55_7 rfl rfl (by decide) ?_
        refine X.imul 9 i55_8 rfl rfl (by omega) ?_
        refine X.istore 11 [(0, zr g0 37), (1, zi (m552 g0 8 9)), (2, zi 22), (3, zi 0), (4, zi (((m552 g0 37 1) % 40) * 3))] i55_9 rfl rfl rfl ?_
        refine X.aload_n 12 i55_11 rfl rfl rfl ?_
        refine X.getR 15 i55_12 rfl rfl (by decide) rfl rfl ?_
        refine X.iload 17 i55_15 rfl rfl rfl ?_
        refine X.iload_n 18 i55_17 rfl rfl rfl ?_
        refine X.iast' 19 i55_18 rfl rfl (by decide) rfl (by omega) (fun hrm593 m593 hm593 => ?_)
        have hJ594 := w38_0 hJ553 hm593 (by omega) hrm593
        have kum593 : m593 g0 8 9 = m552 g0 8 9 := by rw [hm593]; exact z_upd_o _ _ rfl
        refine X.aload_n 20 i55_19 rfl rfl rfl ?_
        refine X.getR 23 i55_20 rfl rfl (by decide) rfl rfl ?_
        refine X.iload 25 i55_23 rfl rfl rfl ?_
        refine X.iconst 26 i55_25 rfl rfl (by decide) ?_
        refine X.iadd 27 i55_26 rfl rfl (by omega) ?_
        refine X.iload_n 28 i55_27 rfl rfl rfl ?_
        refine X.iast' 29 i55_28 rfl rfl (by decide) rfl (by omega) (fun hrm595 m595 hm595 => ?_)
        have hJ596 := w38_0 hJ594 hm595 (by omega) hrm595
        have kum595 : m595 g0 8 9 = m593 g0 8 9 := by rw [hm595]; exact z_upd_o _ _ rfl
        refine X.aload_n 30 i55_29 rfl rfl rfl ?_
        refine X.getR 33 i55_30 rfl rfl (by decide) rfl rfl ?_
        refine X.iload 35 i55_33 rfl rfl rfl ?_
        refine X.iconst 36 i55_35 rfl rfl (by decide) ?_
        refine X.iadd 37 i55_36 rfl rfl (by omega) ?_
        refine X.iload_n 38 i55_37 rfl rfl rfl ?_
        refine X.iast' 39 i55_38 rfl rfl (by decide) rfl (by omega) (fun hrm597 m597 hm597 => ?_)
        have hJ598 := w38_0 hJ596 hm597 (by omega) hrm597
        have kum597 : m597 g0 8 9 = m595 g0 8 9 := by rw [hm597]; exact z_upd_o _ _ rfl
        refine X.aload_n 40 i55_39 rfl rfl rfl ?_
        refine X.dup 41 i55_40 rfl rfl rfl ?_
        refine X.getI 44 1 i55_41 rfl rfl (by decide) rfl rfl rfl ?_
        have h599 := r37_1 hJ598 g0
        refine X.iconst 45 i55_44 rfl rfl (by decide) ?_
        refine X.iadd 46 i55_45 rfl rfl (by omega) ?_
        refine X.putI' 49 1 i55_46 rfl rfl (by decide) rfl rfl rfl (fun hrm600 m600 hm600 => ?_)
        have hJ601 := w37_1 (hJ598.up (B' := B + 1) (by omega)) hm600 (by omega)
        have kum600 : m600 g0 8 9 = m597 g0 8 9 := by rw [hm600]; exact z_upd_o _ _ rfl
        refine X.retv i55_49 rfl t55 ?_
        show X (EE s) ((d - 1) - 1) 54 13 [(0, zr g0 8), (1, zi 22), (2, zi 0)] [] m600 _
        refine X.retv i54_13 rfl t54 ?_
        show X (EE s) (d - 1) 53 54 [] [] m600 _
        refine X.retv i53_54 rfl t53 ?_
        show X (EE s) d 26 71 [(0, zr g0 8), (1, zi a1), (2, zi v507), (3, zi v511), (4, zi v514)] [] m600 _
        refine X.aload_n 72 i26_71 rfl rfl rfl ?_
        refine X.getR 75 i26_72 rfl rfl (by decide) rfl rfl ?_
        refine X.iload 77 i26_75 rfl rfl rfl ?_
        refine X.iload_n 78 i26_77 rfl rfl rfl ?_
        refine X.aload_n 79 i26_78 rfl rfl rfl ?_
        refine X.getR 82 i26_79 rfl rfl (by decide) rfl rfl ?_
        refine X.callv 85 [] [zi v511, zi v514, zr g0 33] [(0, zr g0 9)] i26_82 rfl (by decide) rfl rfl (by omega) rfl rfl (by decide) rfl t38 (Nat.le_of_ble_eq_true rfl) (Nat.le_of_ble_eq_true rfl) rfl ?_
        refine X.aload_n 1 i38_0 rfl rfl rfl ?_
        refine X.getR 4 i38_1 rfl rfl (by decide) rfl rfl ?_
        refine X.iconst 5 i38_4 rfl rfl (by decide) ?_
        refine X.iald 6 i38_5 rfl rfl (by decide) rfl (by omega) ?_
        have h602 := r10_0 hJ601 g0 (i := 3) (by omega)
        refine X.reti i38_6 rfl t38 ?_
        show X (EE s) d 26 85 [(0, zr g0 8), (1, zi a1), (2, zi v507), (3, zi v511), (4, zi v514)] [zi (m600 g0 10 3), zi v511, zi v514, zr g0 33] m600 _
        refine X.aload_n 86 i26_85 rfl rfl rfl ?_
        refine X.getR 89 i26_86 rfl rfl (by decide) rfl rfl ?_
        refine X.aload_n 90 i26_89 rfl rfl rfl ?_
        refine X.getI 93 9 i26_90 rfl rfl (by decide) rfl rfl rfl ?_
        have h603 := r8_9 hJ601 g0
        refine X.callv 96 [zi v514, zi v511, zi (m600 g0 10 3), zr g0 37, zi (m600 g0 8 9)] [] [(0, zr g0 33), (1, zi v514), (2, zi v511), (3, zi (m600 g0 10 3)), (4, zr g0 37), (5, zi (m600 g0 8 9))] i26_93 rfl (by decide) rfl rfl (by omega) rfl rfl (by decide) rfl t56 (Nat.le_of_ble_eq_true rfl) (Nat.le_of_ble_eq_true rfl) rfl ?_
        refine c56_2 (B := B + 1) g0 g0 v514 v511 (m600 g0 10 3) (m600 g0 8 9) (by omega) (hJ601.up (by omega)) (by omega) (by omega) (by omega) (by omega) (by omega) (fun m604 hJ605 km604 => ?_)
        have kkm6040 := km604 0
        have kkm604g0 := km604 g0
        show X (EE s) d 26 96 [(0, zr g0 8), (1, zi a1), (2, zi v507), (3, zi v511), (4, zi v514)] [] m604 _
        refine X.aload_n 97 i26_96 rfl rfl rfl ?_
        refine X.getR 100 i26_97 rfl rfl (by decide) rfl rfl ?_
        refine X.iload 102 i26_100 rfl rfl rfl ?_
        refine X.aload_n 103 i26_102 rfl rfl rfl ?_
        refine X.getR 106 i26_103 rfl rfl (by decide) rfl rfl ?_
        refine X.getIr 109 3 i26_106 rfl rfl (by decide) rfl rfl rfl (fun h607 => ?_)
        refine X.callv 112 [zi v514, zi (m604 g0 33 3)] [] [(0, zr g0 27), (1, zi v514), (2, zi (m604 g0 33 3))] i26_109 rfl (by decide) rfl rfl (by omega) rfl rfl (by decide) rfl t58 (Nat.le_of_ble_eq_true rfl) (Nat.le_of_ble_eq_true rfl) rfl ?_
        refine X.aload_n 1 i58_0 rfl rfl rfl ?_
        refine X.dup 2 i58_1 rfl rfl rfl ?_
        refine X.getIr 5 6 i58_2 rfl rfl (by decide) rfl rfl rfl (fun h608 => ?_)
        refine X.iload_n 6 i58_5 rfl rfl rfl ?_
        refine X.iiF 7 .iadd (fun x y => x + y) i58_6 rfl rfl rfl (fun _ _ => rfl) (fun z609 hz609 => ?_)
        refine X.putI' 10 6 i58_7 rfl rfl (by decide) rfl rfl rfl (fun hrm610 m610 hm610 => ?_)
        have hJ611 := w27_3 hJ605 hm610 (by omega) hrm610
        have kum610 : m610 g0 8 9 = m604 g0 8 9 := by rw [hm610]; exact z_upd_o _ _ rfl
        refine X.aload_n 11 i58_10 rfl rfl rfl ?_
        refine X.dup 12 i58_11 rfl rfl rfl ?_
        refine X.getIr 15 8 i58_12 rfl rfl (by decide) rfl rfl rfl (fun h612 => ?_)
        refine X.iload_n 16 i58_15 rfl rfl rfl ?_
        refine X.iiF 17 .ior (fun x y => x ||| y) i58_16 rfl rfl rfl (fun _ _ => rfl) (fun z613 hz613 => ?_)
        refine X.putI' 20 8 i58_17 rfl rfl (by decide) rfl rfl rfl (fun hrm614 m614 hm614 => ?_)
        have hJ615 := w27_3 hJ611 hm614 (by omega) hrm614
        have kum614 : m614 g0 8 9 = m610 g0 8 9 := by rw [hm614]; exact z_upd_o _ _ rfl
        refine X.retv i58_20 rfl t58 ?_
        show X (EE s) d 26 112 [(0, zr g0 8), (1, zi a1), (2, zi v507), (3, zi v511), (4, zi v514)] [] m614 _
        refine X.aload_n 113 i26_112 rfl rfl rfl ?_
        refine X.getI 116 9 i26_113 rfl rfl (by decide) rfl rfl rfl ?_
        have h616 := r8_9 hJ615 g0
        refine X.ldc 118 i26_116 rfl rfl (by decide) ?_
        refine X.icmpge 131 121 i26_118 rfl rfl rfl (fun h617 => ?_) (fun h617 => ?_)
        · refine X.cut [(0, zr g0 8), (2, zi v507), (4, zi v514)] i26_131 rfl ?_
          refine X.aload_n 132 i26_131 rfl rfl rfl ?_
          refine X.iload_n 133 i26_132 rfl rfl rfl ?_
          refine X.callv 136 [zi v507] [] [(0, zr g0 8), (1, zi v507)] i26_133 rfl (by decide) rfl rfl (by omega) rfl rfl (by decide) rfl t59 (Nat.le_of_ble_eq_true rfl) (Nat.le_of_ble_eq_true rfl) rfl ?_
          refine c59_1 (B := B + 7) g0 v507 (by omega) (hJ615.up (by omega)) (by omega) (by omega) (fun m618 hJ619 km618 => ?_)
          have kkm6180 := km618 0
          have kkm618g0 := km618 g0
          show X (EE s) d 26 136 [(0, zr g0 8), (2, zi v507), (4, zi v514)] [] m618 _
          refine X.iload 138 i26_136 rfl rfl rfl ?_
          refine X.reti i26_138 rfl t26 ?_
          exact hQ v514 m618 (by first | trivial | omega) (hJ619.up (by omega))  (by omega) (by omega)
        · refine X.aload_n 122 i26_121 rfl rfl rfl ?_
          refine X.dup 123 i26_122 rfl rfl rfl ?_
          refine X.getI 126 9 i26_123 rfl rfl (by decide) rfl rfl rfl ?_
          refine X.iconst 127 i26_126 rfl rfl (by decide) ?_
          refine X.iadd 128 i26_127 rfl rfl (by omega) ?_
          refine X.putI' 131 9 i26_128 rfl rfl (by decide) rfl rfl rfl (fun hrm621 m621 hm621 => ?_)
          have hJ622 := w8_9 hJ615 hm621 (by omega)
          have em621 : m621 g0 8 9 = ((m614 g0 8 9) + 1) := by rw [hm621]; exact z_upd_same _ _ _ _ _
          refine X.cut [(0, zr g0 8), (2, zi v507), (4, zi v514)] i26_131 rfl ?_
          refine X.aload_n 132 i26_131 rfl rfl rfl ?_
          refine X.iload_n 133 i26_132 rfl rfl rfl ?_
          refine X.callv 136 [zi v507] [] [(0, zr g0 8), (1, zi v507)] i26_133 rfl (by decide) rfl rfl (by omega) rfl rfl (by decide) rfl t59 (Nat.le_of_ble_eq_true rfl) (Nat.le_of_ble_eq_true rfl) rfl ?_
          refine c59_1 (B := B + 7) g0 v507 (by omega) (hJ622.up (by omega)) (by omega) (by omega) (fun m623 hJ624 km623 => ?_)
          have kkm6230 := km623 0
          have kkm623g0 := km623 g0
          show X (EE s) d 26 136 [(0, zr g0 8), (2, zi v507), (4, zi v514)] [] m623 _
          refine X.iload 138 i26_136 rfl rfl rfl ?_
          refine X.reti i26_138 rfl t26 ?_
          exact hQ v514 m623 (by first | trivial | omega) (hJ624.up (by omega))  (by omega) (by omega)
  · refine X.aload_n 8 i53_7 rfl rfl rfl ?_
    refine X.getL 11 10 i53_8 rfl rfl (by decide) rfl rfl rfl ?_
    refine X.lconst (y := 0) 12 i53_11 rfl rfl rfl ?_
    refine X.lcmp 13 i53_12 rfl rfl (fun z626 hz626 => ?_)
    refine X.ifgt 20 16 i53_13 rfl rfl rfl (fun h627 => ?_) (fun h627 => ?_)
    · have h627c : (m523 g0 8 10) > 0 := by omega
      clear h627 hz626
      refine X.iconst 21 i53_20 rfl rfl (by decide) ?_
      refine X.istore_n 22 [(0, zr g0 8), (1, zi 0)] i53_21 rfl rfl rfl ?_
      refine X.iload_n 23 i53_22 rfl rfl rfl ?_
      refine X.aload_n 24 i53_23 rfl rfl rfl ?_
      refine X.getZ 27 12 i53_24 rfl rfl (by decide) rfl rfl rfl (fun h628 => ?_)
      refine X.icmpeq 54 30 i53_27 rfl rfl rfl (fun h629 => ?_) (fun h629 => ?_)
      · refine X.cut [] i53_54 rfl ?_
        refine X.retv i53_54 rfl t53 ?_
        show X (EE s) d 26 71 [(0, zr g0 8), (1, zi a1), (2, zi v507), (3, zi v511), (4, zi v514)] [] m523 _
        refine X.aload_n 72 i26_71 rfl rfl rfl ?_
        refine X.getR 75 i26_72 rfl rfl (by decide) rfl rfl ?_
        refine X.iload 77 i26_75 rfl rfl rfl ?_
        refine X.iload_n 78 i26_77 rfl rfl rfl ?_
        refine X.aload_n 79 i26_78 rfl rfl rfl ?_
        refine X.getR 82 i26_79 rfl rfl (by decide) rfl rfl ?_
        refine X.callv 85 [] [zi v511, zi v514, zr g0 33] [(0, zr g0 9)] i26_82 rfl (by decide) rfl rfl (by omega) rfl rfl (by decide) rfl t38 (Nat.le_of_ble_eq_true rfl) (Nat.le_of_ble_eq_true rfl) rfl ?_
        refine X.aload_n 1 i38_0 rfl rfl rfl ?_
        refine X.getR 4 i38_1 rfl rfl (by decide) rfl rfl ?_
        refine X.iconst 5 i38_4 rfl rfl (by decide) ?_
        refine X.iald 6 i38_5 rfl rfl (by decide) rfl (by omega) ?_
        have h630 := r10_0 hJ524 g0 (i := 3) (by omega)
        refine X.reti i38_6 rfl t38 ?_
        show X (EE s) d 26 85 [(0, zr g0 8), (1, zi a1), (2, zi v507), (3, zi v511), (4, zi v514)] [zi (m523 g0 10 3), zi v511, zi v514, zr g0 33] m523 _
        refine X.aload_n 86 i26_85 rfl rfl rfl ?_
        refine X.getR 89 i26_86 rfl rfl (by decide) rfl rfl ?_
        refine X.aload_n 90 i26_89 rfl rfl rfl ?_
        refine X.getI 93 9 i26_90 rfl rfl (by decide) rfl rfl rfl ?_
        refine X.callv 96 [zi v514, zi v511, zi (m523 g0 10 3), zr g0 37, zi (m523 g0 8 9)] [] [(0, zr g0 33), (1, zi v514), (2, zi v511), (3, zi (m523 g0 10 3)), (4, zr g0 37), (5, zi (m523 g0 8 9))] i26_93 rfl (by decide) rfl rfl (by omega) rfl rfl (by decide) rfl t56 (Nat.le_of_ble_eq_true rfl) (Nat.le_of_ble_eq_true rfl) rfl ?_
        refine c56_2 (B := B) g0 g0 v514 v511 (m523 g0 10 3) (m523 g0 8 9) (by omega) (hJ524.up (by omega)) (by omega) (by omega) (by omega) (by omega) (by omega) (fun m631 hJ632 km631 => ?_)
        have kkm6310 := km631 0
        have kkm631g0 := km631 g0
        show X (EE s) d 26 96 [(0, zr g0 8), (1, zi a1), (2, zi v507), (3, zi v511), (4, zi v514)] [] m631 _
        refine X.aload_n 97 i26_96 rfl rfl rfl ?_
        refine X.getR 100 i26_97 rfl rfl (by decide) rfl rfl ?_
        refine X.iload 102 i26_100 rfl rfl rfl ?_
        refine X.aload_n 103 i26_102 rfl rfl rfl ?_
        refine X.getR 106 i26_103 rfl rfl (by decide) rfl rfl ?_
        refine X.getIr 109 3 i26_106 rfl rfl (by decide) rfl rfl rfl (fun h634 => ?_)
        refine X.callv 112 [zi v514, zi (m631 g0 33 3)] [] [(0, zr g0 27), (1, zi v514), (2, zi (m631 g0 33 3))] i26_109 rfl (by decide) rfl rfl (by omega) rfl rfl (by decide) rfl t58 (Nat.le_of_ble_eq_true rfl) (Nat.le_of_ble_eq_true rfl) rfl ?_
        refine X.aload_n 1 i58_0 rfl rfl rfl ?_
        refine X.dup 2 i58_1 rfl rfl rfl ?_
        refine X.getIr 5 6 i58_2 rfl rfl (by decide) rfl rfl rfl (fun h635 => ?_)
        refine X.iload_n 6 i58_5 rfl rfl rfl ?_
        refine X.iiF 7 .iadd (fun x y => x + y) i58_6 rfl rfl rfl (fun _ _ => rfl) (fun z636 hz636 => ?_)
        refine X.putI' 10 6 i58_7 rfl rfl (by decide) rfl rfl rfl (fun hrm637 m637 hm637 => ?_)
        have hJ638 := w27_3 hJ632 hm637 (by omega) hrm637
        have kum637 : m637 g0 8 9 = m631 g0 8 9 := by rw [hm637]; exact z_upd_o _ _ rfl
        refine X.aload_n 11 i58_10 rfl rfl rfl ?_
        refine X.dup 12 i58_11 rfl rfl rfl ?_
        refine X.getIr 15 8 i58_12 rfl rfl (by decide) rfl rfl rfl (fun h639 => ?_)
        refine X.iload_n 16 i58_15 rfl rfl rfl ?_
        refine X.iiF 17 .ior (fun x y => x ||| y) i58_16 rfl rfl rfl (fun _ _ => rfl) (fun z640 hz640 => ?_)
        refine X.putI' 20 8 i58_17 rfl rfl (by decide) rfl rfl rfl (fun hrm641 m641 hm641 => ?_)
        have hJ642 := w27_3 hJ638 hm641 (by omega) hrm641
        have kum641 : m641 g0 8 9 = m637 g0 8 9 := by rw [hm641]; exact z_upd_o _ _ rfl
        refine X.retv i58_20 rfl t58 ?_
        show X (EE s) d 26 112 [(0, zr g0 8), (1, zi a1), (2, zi v507), (3, zi v511), (4, zi v514)] [] m641 _
        refine X.aload_n 113 i26_112 rfl rfl rfl ?_
        refine X.getI 116 9 i26_113 rfl rfl (by decide) rfl rfl rfl ?_
        have h643 := r8_9 hJ642 g0
        refine X.ldc 118 i26_116 rfl rfl (by decide) ?_
        refine X.icmpge 131 121 i26_118 rfl rfl rfl (fun h644 => ?_) (fun h644 => ?_)
        · refine X.cut [(0, zr g0 8), (2, zi v507), (4, zi v514)] i26_131 rfl ?_
          refine X.aload_n 132 i26_131 rfl rfl rfl ?_
          refine X.iload_n 133 i26_132 rfl rfl rfl ?_
          refine X.callv 136 [zi v507] [] [(0, zr g0 8), (1, zi v507)] i26_133 rfl (by decide) rfl rfl (by omega) rfl rfl (by decide) rfl t59 (Nat.le_of_ble_eq_true rfl) (Nat.le_of_ble_eq_true rfl) rfl ?_
          refine c59_1 (B := B + 6) g0 v507 (by omega) (hJ642.up (by omega)) (by omega) (by omega) (fun m645 hJ646 km645 => ?_)
          have kkm6450 := km645 0
          have kkm645g0 := km645 g0
          show X (EE s) d 26 136 [(0, zr g0 8), (2, zi v507), (4, zi v514)] [] m645 _
          refine X.iload 138 i26_136 rfl rfl rfl ?_
          refine X.reti i26_138 rfl t26 ?_
          exact hQ v514 m645 (by first | trivial | omega) (hJ646.up (by omega))  (by omega) (by omega)
        · refine X.aload_n 122 i26_121 rfl rfl rfl ?_
          refine X.dup 123 i26_122 rfl rfl rfl ?_
          refine X.getI 126 9 i26_123 rfl rfl (by decide) rfl rfl rfl ?_
          refine X.iconst 127 i26_126 rfl rfl (by decide) ?_
          refine X.iadd 128 i26_127 rfl rfl (by omega) ?_
          refine X.putI' 131 9 i26_128 rfl rfl (by decide) rfl rfl rfl (fun hrm648 m648 hm648 => ?_)
          have hJ649 := w8_9 hJ642 hm648 (by omega)
          have em648 : m648 g0 8 9 = ((m641 g0 8 9) + 1) := by rw [hm648]; exact z_upd_same _ _ _ _ _
          refine X.cut [(0, zr g0 8), (2, zi v507), (4, zi v514)] i26_131 rfl ?_
          refine X.aload_n 132 i26_131 rfl rfl rfl ?_
          refine X.iload_n 133 i26_132 rfl rfl rfl ?_
          refine X.callv 136 [zi v507] [] [(0, zr g0 8), (1, zi v507)] i26_133 rfl (by decide) rfl rfl (by omega) rfl rfl (by decide) rfl t59 (Nat.le_of_ble_eq_true rfl) (Nat.le_of_ble_eq_true rfl) rfl ?_
          refine c59_1 (B := B + 6) g0 v507 (by omega) (hJ649.up (by omega)) (by omega) (by omega) (fun m650 hJ651 km650 => ?_)
          have kkm6500 := km650 0
          have kkm650g0 := km650 g0
          show X (EE s) d 26 136 [(0, zr g0 8), (2, zi v507), (4, zi v514)] [] m650 _
          refine X.iload 138 i26_136 rfl rfl rfl ?_
          refine X.reti i26_138 rfl t26 ?_
          exact hQ v514 m650 (by first | trivial | omega) (hJ651.up (by omega))  (by omega) (by omega)
      · refine X.aload_n 31 i53_30 rfl rfl rfl ?_
        refine X.iload_n 32 i53_31 rfl rfl rfl ?_
        refine X.putZ' 35 12 i53_32 rfl rfl (by decide) rfl rfl rfl (by omega) (fun hrm653 m653 hm653 => ?_)
        have hJ654 := w8_12 hJ524 hm653 (by omega)
        have kum653 : m653 g0 8 9 = m523 g0 8 9 := by rw [hm653]; exact z_upd_o _ _ rfl
        refine X.aload_n 36 i53_35 rfl rfl rfl ?_
        refine X.aload_n 37 i53_36 rfl rfl rfl ?_
        refine X.getZ 40 12 i53_37 rfl rfl (by decide) rfl rfl rfl (fun h655 => ?_)
        refine X.ifeq 48 43 i53_40 rfl rfl rfl (fun h656 => ?_) (fun h656 => ?_)
        · refine X.cut [] i53_48 rfl ?_
          refine X.bipush 50 i53_48 rfl rfl (by decide) ?_
          refine X.iconst 51 i53_50 rfl rfl (by decide) ?_
          refine X.callv 54 [zi 23, zi 0] [] [(0, zr g0 8), (1, zi 23), (2, zi 0)] i53_51 rfl (by decide) rfl rfl (by omega) rfl rfl (by decide) rfl t54 (Nat.le_of_ble_eq_true rfl) (Nat.le_of_ble_eq_true rfl) rfl ?_
          refine X.aload_n 1 i54_0 rfl rfl rfl ?_
          refine X.getR 4 i54_1 rfl rfl (by decide) rfl rfl ?_
          refine X.aload_n 5 i54_4 rfl rfl rfl ?_
          refine X.getI 8 9 i54_5 rfl rfl (by decide) rfl rfl rfl ?_
          have h657 := r8_9 hJ654 g0
          refine X.iload_n 9 i54_8 rfl rfl rfl ?_
          refine X.iload_n 10 i54_9 rfl rfl rfl ?_
          refine X.callv 13 [zi (m653 g0 8 9), zi 23, zi 0] [] [(0, zr g0 37), (1, zi (m653 g0 8 9)), (2, zi 23), (3, zi 0)] i54_10 rfl (by decide) rfl rfl (by omega) rfl rfl (by decide) rfl t55 (Nat.le_of_ble_eq_true rfl) (Nat.le_of_ble_eq_true rfl) rfl ?_
          refine X.aload_n 1 i55_0 rfl rfl rfl ?_
          refine X.getI 4 1 i55_1 rfl rfl (by decide) rfl rfl rfl ?_
          have h658 := r37_1 hJ654 g0
          refine X.bipush 6 i55_4 rfl rfl (by decide) ?_
          refine X.irem 7 i55_6 rfl rfl (by omega) ?_
          refine X.iconst 8 i55_7 rfl rfl (by decide) ?_
          refine X.imul 9 i55_8 rfl rfl (by omega) ?_
          refine X.istore 11 [(0, zr g0 37), (1, zi (m653 g0 8 9)), (2, zi 23), (3, zi 0), (4, zi (((m653 g0 37 1) % 40) * 3))] i55_9 rfl rfl rfl ?_
          refine X.aload_n 12 i55_11 rfl rfl rfl ?_
          refine X.getR 15 i55_12 rfl rfl (by decide) rfl rfl ?_
          refine X.iload 17 i55_15 rfl rfl rfl ?_
          refine X.iload_n 18 i55_17 rfl rfl rfl ?_
          refine X.iast' 19 i55_18 rfl rfl (by decide) rfl (by omega) (fun hrm659 m659 hm659 => ?_)
          have hJ660 := w38_0 hJ654 hm659 (by omega) hrm659
          have kum659 : m659 g0 8 9 = m653 g0 8 9 := by rw [hm659]; exact z_upd_o _ _ rfl
          refine X.aload_n 20 i55_19 rfl rfl rfl ?_
          refine X.getR 23 i55_20 rfl rfl (by decide) rfl rfl ?_
          refine X.iload 25 i55_23 rfl rfl rfl ?_
          refine X.iconst 26 i55_25 rfl rfl (by decide) ?_
          refine X.iadd 27 i55_26 rfl rfl (by omega) ?_
          refine X.iload_n 28 i55_27 rfl rfl rfl ?_
          refine X.iast' 29 i55_28 rfl rfl (by decide) rfl (by omega) (fun hrm661 m661 hm661 => ?_)
          have hJ662 := w38_0 hJ660 hm661 (by omega) hrm661
          have kum661 : m661 g0 8 9 = m659 g0 8 9 := by rw [hm661]; exact z_upd_o _ _ rfl
          refine X.aload_n 30 i55_29 rfl rfl rfl ?_
          refine X.getR 33 i55_30 rfl rfl (by decide) rfl rfl ?_
          refine X.iload 35 i55_33 rfl rfl rfl ?_
          refine X.iconst 36 i55_35 rfl rfl (by decide) ?_
          refine X.iadd 37 i55_36 rfl rfl (by omega) ?_
          refine X.iload_n 38 i55_37 rfl rfl rfl ?_
          refine X.iast' 39 i55_38 rfl rfl (by decide) rfl (by omega) (fun hrm663 m663 hm663 => ?_)
          have hJ664 := w38_0 hJ662 hm663 (by omega) hrm663
          have kum663 : m663 g0 8 9 = m661 g0 8 9 := by rw [hm663]; exact z_upd_o _ _ rfl
          refine X.aload_n 40 i55_39 rfl rfl rfl ?_
          refine X.dup 41 i55_40 rfl rfl rfl ?_
          refine X.getI 44 1 i55_41 rfl rfl (by decide) rfl rfl rfl ?_
          have h665 := r37_1 hJ664 g0
          refine X.iconst 45 i55_44 rfl rfl (by decide) ?_
          refine X.iadd 46 i55_45 rfl rfl (by omega) ?_
          refine X.putI' 49 1 i55_46 rfl rfl (by decide) rfl rfl rfl (fun hrm666 m666 hm666 => ?_)
          have hJ667 := w37_1 (hJ664.up (B' := B + 1) (by omega)) hm666 (by omega)
          have kum666 : m666 g0 8 9 = m663 g0 8 9 := by rw [hm666]; exact z_upd_o _ _ rfl
          refine X.retv i55_49 rfl t55 ?_
          show X (EE s) ((d - 1) - 1) 54 13 [(0, zr g0 8), (1, zi 23), (2, zi 0)] [] m666 _
          refine X.retv i54_13 rfl t54 ?_
          show X (EE s) (d - 1) 53 54 [] [] m666 _
          refine X.retv i53_54 rfl t53 ?_
          show X (EE s) d 26 71 [(0, zr g0 8), (1, zi a1), (2, zi v507), (3, zi v511), (4, zi v514)] [] m666 _
          refine X.aload_n 72 i26_71 rfl rfl rfl ?_
          refine X.getR 75 i26_72 rfl rfl (by decide) rfl rfl ?_
          refine X.iload 77 i26_75 rfl rfl rfl ?_
          refine X.iload_n 78 i26_77 rfl rfl rfl ?_
          refine X.aload_n 79 i26_78 rfl rfl rfl ?_
          refine X.getR 82 i26_79 rfl rfl (by decide) rfl rfl ?_
          refine X.callv 85 [] [zi v511, zi v514, zr g0 33] [(0, zr g0 9)] i26_82 rfl (by decide) rfl rfl (by omega) rfl rfl (by decide) rfl t38 (Nat.le_of_ble_eq_true rfl) (Nat.le_of_ble_eq_true rfl) rfl ?_
          refine X.aload_n 1 i38_0 rfl rfl rfl ?_
          refine X.getR 4 i38_1 rfl rfl (by decide) rfl rfl ?_
          refine X.iconst 5 i38_4 rfl rfl (by decide) ?_
          refine X.iald 6 i38_5 rfl rfl (by decide) rfl (by omega) ?_
          have h668 := r10_0 hJ667 g0 (i := 3) (by omega)
          refine X.reti i38_6 rfl t38 ?_
          show X (EE s) d 26 85 [(0, zr g0 8), (1, zi a1), (2, zi v507), (3, zi v511), (4, zi v514)] [zi (m666 g0 10 3), zi v511, zi v514, zr g0 33] m666 _
          refine X.aload_n 86 i26_85 rfl rfl rfl ?_
          refine X.getR 89 i26_86 rfl rfl (by decide) rfl rfl ?_
          refine X.aload_n 90 i26_89 rfl rfl rfl ?_
          refine X.getI 93 9 i26_90 rfl rfl (by decide) rfl rfl rfl ?_
          have h669 := r8_9 hJ667 g0
          refine X.callv 96 [zi v514, zi v511, zi (m666 g0 10 3), zr g0 37, zi (m666 g0 8 9)] [] [(0, zr g0 33), (1, zi v514), (2, zi v511), (3, zi (m666 g0 10 3)), (4, zr g0 37), (5, zi (m666 g0 8 9))] i26_93 rfl (by decide) rfl rfl (by omega) rfl rfl (by decide) rfl t56 (Nat.le_of_ble_eq_true rfl) (Nat.le_of_ble_eq_true rfl) rfl ?_
          refine c56_2 (B := B + 1) g0 g0 v514 v511 (m666 g0 10 3) (m666 g0 8 9) (by omega) (hJ667.up (by omega)) (by omega) (by omega) (by omega) (by omega) (by omega) (fun m670 hJ671 km670 => ?_)
          have kkm6700 := km670 0
          have kkm670g0 := km670 g0
          show X (EE s) d 26 96 [(0, zr g0 8), (1, zi a1), (2, zi v507), (3, zi v511), (4, zi v514)] [] m670 _
          refine X.aload_n 97 i26_96 rfl rfl rfl ?_
          refine X.getR 100 i26_97 rfl rfl (by decide) rfl rfl ?_
          refine X.iload 102 i26_100 rfl rfl rfl ?_
          refine X.aload_n 103 i26_102 rfl rfl rfl ?_
          refine X.getR 106 i26_103 rfl rfl (by decide) rfl rfl ?_
          refine X.getIr 109 3 i26_106 rfl rfl (by decide) rfl rfl rfl (fun h673 => ?_)
          refine X.callv 112 [zi v514, zi (m670 g0 33 3)] [] [(0, zr g0 27), (1, zi v514), (2, zi (m670 g0 33 3))] i26_109 rfl (by decide) rfl rfl (by omega) rfl rfl (by decide) rfl t58 (Nat.le_of_ble_eq_true rfl) (Nat.le_of_ble_eq_true rfl) rfl ?_
          refine X.aload_n 1 i58_0 rfl rfl rfl ?_
          refine X.dup 2 i58_1 rfl rfl rfl ?_
          refine X.getIr 5 6 i58_2 rfl rfl (by decide) rfl rfl rfl (fun h674 => ?_)
          refine X.iload_n 6 i58_5 rfl rfl rfl ?_
          refine X.iiF 7 .iadd (fun x y => x + y) i58_6 rfl rfl rfl (fun _ _ => rfl) (fun z675 hz675 => ?_)
          refine X.putI' 10 6 i58_7 rfl rfl (by decide) rfl rfl rfl (fun hrm676 m676 hm676 => ?_)
          have hJ677 := w27_3 hJ671 hm676 (by omega) hrm676
          have kum676 : m676 g0 8 9 = m670 g0 8 9 := by rw [hm676]; exact z_upd_o _ _ rfl
          refine X.aload_n 11 i58_10 rfl rfl rfl ?_
          refine X.dup 12 i58_11 rfl rfl rfl ?_
          refine X.getIr 15 8 i58_12 rfl rfl (by decide) rfl rfl rfl (fun h678 => ?_)
          refine X.iload_n 16 i58_15 rfl rfl rfl ?_
          refine X.iiF 17 .ior (fun x y => x ||| y) i58_16 rfl rfl rfl (fun _ _ => rfl) (fun z679 hz679 => ?_)
          refine X.putI' 20 8 i58_17 rfl rfl (by decide) rfl rfl rfl (fun hrm680 m680 hm680 => ?_)
          have hJ681 := w27_3 hJ677 hm680 (by omega) hrm680
          have kum680 : m680 g0 8 9 = m676 g0 8 9 := by rw [hm680]; exact z_upd_o _ _ rfl
          refine X.retv i58_20 rfl t58 ?_
          show X (EE s) d 26 112 [(0, zr g0 8), (1, zi a1), (2, zi v507), (3, zi v511), (4, zi v514)] [] m680 _
          refine X.aload_n 113 i26_112 rfl rfl rfl ?_
          refine X.getI 116 9 i26_113 rfl rfl (by decide) rfl rfl rfl ?_
          have h682 := r8_9 hJ681 g0
          refine X.ldc 118 i26_116 rfl rfl (by decide) ?_
          refine X.icmpge 131 121 i26_118 rfl rfl rfl (fun h683 => ?_) (fun h683 => ?_)
          · refine X.cut [(0, zr g0 8), (2, zi v507), (4, zi v514)] i26_131 rfl ?_
            refine X.aload_n 132 i26_131 rfl rfl rfl ?_
            refine X.iload_n 133 i26_132 rfl rfl rfl ?_
            refine X.callv 136 [zi v507] [] [(0, zr g0 8), (1, zi v507)] i26_133 rfl (by decide) rfl rfl (by omega) rfl rfl (by decide) rfl t59 (Nat.le_of_ble_eq_true rfl) (Nat.le_of_ble_eq_true rfl) rfl ?_
            refine c59_1 (B := B + 7) g0 v507 (by omega) (hJ681.up (by omega)) (by omega) (by omega) (fun m684 hJ685 km684 => ?_)
            have kkm6840 := km684 0
            have kkm684g0 := km684 g0
            show X (EE s) d 26 136 [(0, zr g0 8), (2, zi v507), (4, zi v514)] [] m684 _
            refine X.iload 138 i26_136 rfl rfl rfl ?_
            refine X.reti i26_138 rfl t26 ?_
            exact hQ v514 m684 (by first | trivial | omega) (hJ685.up (by omega))  (by omega) (by omega)
          · refine X.aload_n 122 i26_121 rfl rfl rfl ?_
            refine X.dup 123 i26_122 rfl rfl rfl ?_
            refine X.getI 126 9 i26_123 rfl rfl (by decide) rfl rfl rfl ?_
            refine X.iconst 127 i26_126 rfl rfl (by decide) ?_
            refine X.iadd 128 i26_127 rfl rfl (by omega) ?_
            refine X.putI' 131 9 i26_128 rfl rfl (by decide) rfl rfl rfl (fun hrm687 m687 hm687 => ?_)
            have hJ688 := w8_9 hJ681 hm687 (by omega)
            have em687 : m687 g0 8 9 = ((m680 g0 8 9) + 1) := by rw [hm687]; exact z_upd_same _ _ _ _ _
            refine X.cut [(0, zr g0 8), (2, zi v507), (4, zi v514)] i26_131 rfl ?_
            refine X.aload_n 132 i26_131 rfl rfl rfl ?_
            refine X.iload_n 133 i26_132 rfl rfl rfl ?_
            refine X.callv 136 [zi v507] [] [(0, zr g0 8), (1, zi v507)] i26_133 rfl (by decide) rfl rfl (by omega) rfl rfl (by decide) rfl t59 (Nat.le_of_ble_eq_true rfl) (Nat.le_of_ble_eq_true rfl) rfl ?_
            refine c59_1 (B := B + 7) g0 v507 (by omega) (hJ688.up (by omega)) (by omega) (by omega) (fun m689 hJ690 km689 => ?_)
            have kkm6890 := km689 0
            have kkm689g0 := km689 g0
            show X (EE s) d 26 136 [(0, zr g0 8), (2, zi v507), (4, zi v514)] [] m689 _
            refine X.iload 138 i26_136 rfl rfl rfl ?_
            refine X.reti i26_138 rfl t26 ?_
            exact hQ v514 m689 (by first | trivial | omega) (hJ690.up (by omega))  (by omega) (by omega)
        · refine X.bipush 45 i53_43 rfl rfl (by decide) ?_
          refine X.goto 50 i53_45 rfl rfl ?_
          refine X.cut [] i53_50 rfl ?_
          refine X.iconst 51 i53_50 rfl rfl (by decide) ?_
          refine X.callv 54 [zi 22, zi 0] [] [(0, zr g0 8), (1, zi 22), (2, zi 0)] i53_51 rfl (by decide) rfl rfl (by omega) rfl rfl (by decide) rfl t54 (Nat.le_of_ble_eq_true rfl) (Nat.le_of_ble_eq_true rfl) rfl ?_
          refine X.aload_n 1 i54_0 rfl rfl rfl ?_
          refine X.getR 4 i54_1 rfl rfl (by decide) rfl rfl ?_
          refine X.aload_n 5 i54_4 rfl rfl rfl ?_
          refine X.getI 8 9 i54_5 rfl rfl (by decide) rfl rfl rfl ?_
          have h692 := r8_9 hJ654 g0
          refine X.iload_n 9 i54_8 rfl rfl rfl ?_
          refine X.iload_n 10 i54_9 rfl rfl rfl ?_
          refine X.callv 13 [zi (m653 g0 8 9), zi 22, zi 0] [] [(0, zr g0 37), (1, zi (m653 g0 8 9)), (2, zi 22), (3, zi 0)] i54_10 rfl (by decide) rfl rfl (by omega) rfl rfl (by decide) rfl t55 (Nat.le_of_ble_eq_true rfl) (Nat.le_of_ble_eq_true rfl) rfl ?_
          refine X.aload_n 1 i55_0 rfl rfl rfl ?_
          refine X.getI 4 1 i55_1 rfl rfl (by decide) rfl rfl rfl ?_
          have h693 := r37_1 hJ654 g0
          refine X.bipush 6 i55_4 rfl rfl (by decide) ?_
          refine X.irem 7 i55_6 rfl rfl (by omega) ?_
          refine X.iconst 8 i55_7 rfl rfl (by decide) ?_
          refine X.imul 9 i55_8 rfl rfl (by omega) ?_
          refine X.istore 11 [(0, zr g0 37), (1, zi (m653 g0 8 9)), (2, zi 22), (3, zi 0), (4, zi (((m653 g0 37 1) % 40) * 3))] i55_9 rfl rfl rfl ?_
          refine X.aload_n 12 i55_11 rfl rfl rfl ?_
          refine X.getR 15 i55_12 rfl rfl (by decide) rfl rfl ?_
          refine X.iload 17 i55_15 rfl rfl rfl ?_
          refine X.iload_n 18 i55_17 rfl rfl rfl ?_
          refine X.iast' 19 i55_18 rfl rfl (by decide) rfl (by omega) (fun hrm694 m694 hm694 => ?_)
          have hJ695 := w38_0 hJ654 hm694 (by omega) hrm694
          have kum694 : m694 g0 8 9 = m653 g0 8 9 := by rw [hm694]; exact z_upd_o _ _ rfl
          refine X.aload_n 20 i55_19 rfl rfl rfl ?_
          refine X.getR 23 i55_20 rfl rfl (by decide) rfl rfl ?_
          refine X.iload 25 i55_23 rfl rfl rfl ?_
          refine X.iconst 26 i55_25 rfl rfl (by decide) ?_
          refine X.iadd 27 i55_26 rfl rfl (by omega) ?_
          refine X.iload_n 28 i55_27 rfl rfl rfl ?_
          refine X.iast' 29 i55_28 rfl rfl (by decide) rfl (by omega) (fun hrm696 m696 hm696 => ?_)
          have hJ697 := w38_0 hJ695 hm696 (by omega) hrm696
          have kum696 : m696 g0 8 9 = m694 g0 8 9 := by rw [hm696]; exact z_upd_o _ _ rfl
          refine X.aload_n 30 i55_29 rfl rfl rfl ?_
          refine X.getR 33 i55_30 rfl rfl (by decide) rfl rfl ?_
          refine X.iload 35 i55_33 rfl rfl rfl ?_
          refine X.iconst 36 i55_35 rfl rfl (by decide) ?_
          refine X.iadd 37 i55_36 rfl rfl (by omega) ?_
          refine X.iload_n 38 i55_37 rfl rfl rfl ?_
          refine X.iast' 39 i55_38 rfl rfl (by decide) rfl (by omega) (fun hrm698 m698 hm698 => ?_)
          have hJ699 := w38_0 hJ697 hm698 (by omega) hrm698
          have kum698 : m698 g0 8 9 = m696 g0 8 9 := by rw [hm698]; exact z_upd_o _ _ rfl
          refine X.aload_n 40 i55_39 rfl rfl rfl ?_
          refine X.dup 41 i55_40 rfl rfl rfl ?_
          refine X.getI 44 1 i55_41 rfl rfl (by decide) rfl rfl rfl ?_
          have h700 := r37_1 hJ699 g0
          refine X.iconst 45 i55_44 rfl rfl (by decide) ?_
          refine X.iadd 46 i55_45 rfl rfl (by omega) ?_
          refine X.putI' 49 1 i55_46 rfl rfl (by decide) rfl rfl rfl (fun hrm701 m701 hm701 => ?_)
          have hJ702 := w37_1 (hJ699.up (B' := B + 1) (by omega)) hm701 (by omega)
          have kum701 : m701 g0 8 9 = m698 g0 8 9 := by rw [hm701]; exact z_upd_o _ _ rfl
          refine X.retv i55_49 rfl t55 ?_
          show X (EE s) ((d - 1) - 1) 54 13 [(0, zr g0 8), (1, zi 22), (2, zi 0)] [] m701 _
          refine X.retv i54_13 rfl t54 ?_
          show X (EE s) (d - 1) 53 54 [] [] m701 _
          refine X.retv i53_54 rfl t53 ?_
          show X (EE s) d 26 71 [(0, zr g0 8), (1, zi a1), (2, zi v507), (3, zi v511), (4, zi v514)] [] m701 _
          refine X.aload_n 72 i26_71 rfl rfl rfl ?_
          refine X.getR 75 i26_72 rfl rfl (by decide) rfl rfl ?_
          refine X.iload 77 i26_75 rfl rfl rfl ?_
          refine X.iload_n 78 i26_77 rfl rfl rfl ?_
          refine X.aload_n 79 i26_78 rfl rfl rfl ?_
          refine X.getR 82 i26_79 rfl rfl (by decide) rfl rfl ?_
          refine X.callv 85 [] [zi v511, zi v514, zr g0 33] [(0, zr g0 9)] i26_82 rfl (by decide) rfl rfl (by omega) rfl rfl (by decide) rfl t38 (Nat.le_of_ble_eq_true rfl) (Nat.le_of_ble_eq_true rfl) rfl ?_
          refine X.aload_n 1 i38_0 rfl rfl rfl ?_
          refine X.getR 4 i38_1 rfl rfl (by decide) rfl rfl ?_
          refine X.iconst 5 i38_4 rfl rfl (by decide) ?_
          refine X.iald 6 i38_5 rfl rfl (by decide) rfl (by omega) ?_
          have h703 := r10_0 hJ702 g0 (i := 3) (by omega)
          refine X.reti i38_6 rfl t38 ?_
          show X (EE s) d 26 85 [(0, zr g0 8), (1, zi a1), (2, zi v507), (3, zi v511), (4, zi v514)] [zi (m701 g0 10 3), zi v511, zi v514, zr g0 33] m701 _
          refine X.aload_n 86 i26_85 rfl rfl rfl ?_
          refine X.getR 89 i26_86 rfl rfl (by decide) rfl rfl ?_
          refine X.aload_n 90 i26_89 rfl rfl rfl ?_
          refine X.getI 93 9 i26_90 rfl rfl (by decide) rfl rfl rfl ?_
          have h704 := r8_9 hJ702 g0
          refine X.callv 96 [zi v514, zi v511, zi (m701 g0 10 3), zr g0 37, zi (m701 g0 8 9)] [] [(0, zr g0 33), (1, zi v514), (2, zi v511), (3, zi (m701 g0 10 3)), (4, zr g0 37), (5, zi (m701 g0 8 9))] i26_93 rfl (by decide) rfl rfl (by omega) rfl rfl (by decide) rfl t56 (Nat.le_of_ble_eq_true rfl) (Nat.le_of_ble_eq_true rfl) rfl ?_
          refine c56_2 (B := B + 1) g0 g0 v514 v511 (m701 g0 10 3) (m701 g0 8 9) (by omega) (hJ702.up (by omega)) (by omega) (by omega) (by omega) (by omega) (by omega) (fun m705 hJ706 km705 => ?_)
          have kkm7050 := km705 0
          have kkm705g0 := km705 g0
          show X (EE s) d 26 96 [(0, zr g0 8), (1, zi a1), (2, zi v507), (3, zi v511), (4, zi v514)] [] m705 _
          refine X.aload_n 97 i26_96 rfl rfl rfl ?_
          refine X.getR 100 i26_97 rfl rfl (by decide) rfl rfl ?_
          refine X.iload 102 i26_100 rfl rfl rfl ?_
          refine X.aload_n 103 i26_102 rfl rfl rfl ?_
          refine X.getR 106 i26_103 rfl rfl (by decide) rfl rfl ?_
          refine X.getIr 109 3 i26_106 rfl rfl (by decide) rfl rfl rfl (fun h708 => ?_)
          refine X.callv 112 [zi v514, zi (m705 g0 33 3)] [] [(0, zr g0 27), (1, zi v514), (2, zi (m705 g0 33 3))] i26_109 rfl (by decide) rfl rfl (by omega) rfl rfl (by decide) rfl t58 (Nat.le_of_ble_eq_true rfl) (Nat.le_of_ble_eq_true rfl) rfl ?_
          refine X.aload_n 1 i58_0 rfl rfl rfl ?_
          refine X.dup 2 i58_1 rfl rfl rfl ?_
          refine X.getIr 5 6 i58_2 rfl rfl (by decide) rfl rfl rfl (fun h709 => ?_)
          refine X.iload_n 6 i58_5 rfl rfl rfl ?_
          refine X.iiF 7 .iadd (fun x y => x + y) i58_6 rfl rfl rfl (fun _ _ => rfl) (fun z710 hz710 => ?_)
          refine X.putI' 10 6 i58_7 rfl rfl (by decide) rfl rfl rfl (fun hrm711 m711 hm711 => ?_)
          have hJ712 := w27_3 hJ706 hm711 (by omega) hrm711
          have kum711 : m711 g0 8 9 = m705 g0 8 9 := by rw [hm711]; exact z_upd_o _ _ rfl
          refine X.aload_n 11 i58_10 rfl rfl rfl ?_
          refine X.dup 12 i58_11 rfl rfl rfl ?_
          refine X.getIr 15 8 i58_12 rfl rfl (by decide) rfl rfl rfl (fun h713 => ?_)
          refine X.iload_n 16 i58_15 rfl rfl rfl ?_
          refine X.iiF 17 .ior (fun x y => x ||| y) i58_16 rfl rfl rfl (fun _ _ => rfl) (fun z714 hz714 => ?_)
          refine X.putI' 20 8 i58_17 rfl rfl (by decide) rfl rfl rfl (fun hrm715 m715 hm715 => ?_)
          have hJ716 := w27_3 hJ712 hm715 (by omega) hrm715
          have kum715 : m715 g0 8 9 = m711 g0 8 9 := by rw [hm715]; exact z_upd_o _ _ rfl
          refine X.retv i58_20 rfl t58 ?_
          show X (EE s) d 26 112 [(0, zr g0 8), (1, zi a1), (2, zi v507), (3, zi v511), (4, zi v514)] [] m715 _
          refine X.aload_n 113 i26_112 rfl rfl rfl ?_
          refine X.getI 116 9 i26_113 rfl rfl (by decide) rfl rfl rfl ?_
          have h717 := r8_9 hJ716 g0
          refine X.ldc 118 i26_116 rfl rfl (by decide) ?_
          refine X.icmpge 131 121 i26_118 rfl rfl rfl (fun h718 => ?_) (fun h718 => ?_)
          · refine X.cut [(0, zr g0 8), (2, zi v507), (4, zi v514)] i26_131 rfl ?_
            refine X.aload_n 132 i26_131 rfl rfl rfl ?_
            refine X.iload_n 133 i26_132 rfl rfl rfl ?_
            refine X.callv 136 [zi v507] [] [(0, zr g0 8), (1, zi v507)] i26_133 rfl (by decide) rfl rfl (by omega) rfl rfl (by decide) rfl t59 (Nat.le_of_ble_eq_true rfl) (Nat.le_of_ble_eq_true rfl) rfl ?_
            refine c59_1 (B := B + 7) g0 v507 (by omega) (hJ716.up (by omega)) (by omega) (by omega) (fun m719 hJ720 km719 => ?_)
            have kkm7190 := km719 0
            have kkm719g0 := km719 g0
            show X (EE s) d 26 136 [(0, zr g0 8), (2, zi v507), (4, zi v514)] [] m719 _
            refine X.iload 138 i26_136 rfl rfl rfl ?_
            refine X.reti i26_138 rfl t26 ?_
            exact hQ v514 m719 (by first | trivial | omega) (hJ720.up (by omega))  (by omega) (by omega)
          · refine X.aload_n 122 i26_121 rfl rfl rfl ?_
            refine X.dup 123 i26_122 rfl rfl rfl ?_
            refine X.getI 126 9 i26_123 rfl rfl (by decide) rfl rfl rfl ?_
            refine X.iconst 127 i26_126 rfl rfl (by decide) ?_
            refine X.iadd 128 i26_127 rfl rfl (by omega) ?_
            refine X.putI' 131 9 i26_128 rfl rfl (by decide) rfl rfl rfl (fun hrm722 m722 hm722 => ?_)
            have hJ723 := w8_9 hJ716 hm722 (by omega)
            have em722 : m722 g0 8 9 = ((m715 g0 8 9) + 1) := by rw [hm722]; exact z_upd_same _ _ _ _ _
            refine X.cut [(0, zr g0 8), (2, zi v507), (4, zi v514)] i26_131 rfl ?_
            refine X.aload_n 132 i26_131 rfl rfl rfl ?_
            refine X.iload_n 133 i26_132 rfl rfl rfl ?_
            refine X.callv 136 [zi v507] [] [(0, zr g0 8), (1, zi v507)] i26_133 rfl (by decide) rfl rfl (by omega) rfl rfl (by decide) rfl t59 (Nat.le_of_ble_eq_true rfl) (Nat.le_of_ble_eq_true rfl) rfl ?_
            refine c59_1 (B := B + 7) g0 v507 (by omega) (hJ723.up (by omega)) (by omega) (by omega) (fun m724 hJ725 km724 => ?_)
            have kkm7240 := km724 0
            have kkm724g0 := km724 g0
            show X (EE s) d 26 136 [(0, zr g0 8), (2, zi v507), (4, zi v514)] [] m724 _
            refine X.iload 138 i26_136 rfl rfl rfl ?_
            refine X.reti i26_138 rfl t26 ?_
            exact hQ v514 m724 (by first | trivial | omega) (hJ725.up (by omega))  (by omega) (by omega)
    · have h627c : (m523 g0 8 10) ≤ 0 := by omega
      clear h627 hz626
      refine X.iconst 17 i53_16 rfl rfl (by decide) ?_
      refine X.goto 21 i53_17 rfl rfl ?_
      refine X.istore_n 22 [(0, zr g0 8), (1, zi 1)] i53_21 rfl rfl rfl ?_
      refine X.iload_n 23 i53_22 rfl rfl rfl ?_
      refine X.aload_n 24 i53_23 rfl rfl rfl ?_
      refine X.getZ 27 12 i53_24 rfl rfl (by decide) rfl rfl rfl (fun h727 => ?_)
      refine X.icmpeq 54 30 i53_27 rfl rfl rfl (fun h728 => ?_) (fun h728 => ?_)
      · refine X.cut [] i53_54 rfl ?_
        refine X.retv i53_54 rfl t53 ?_
        show X (EE s) d 26 71 [(0, zr g0 8), (1, zi a1), (2, zi v507), (3, zi v511), (4, zi v514)] [] m523 _
        refine X.aload_n 72 i26_71 rfl rfl rfl ?_
        refine X.getR 75 i26_72 rfl rfl (by decide) rfl rfl ?_
        refine X.iload 77 i26_75 rfl rfl rfl ?_
        refine X.iload_n 78 i26_77 rfl rfl rfl ?_
        refine X.aload_n 79 i26_78 rfl rfl rfl ?_
        refine X.getR 82 i26_79 rfl rfl (by decide) rfl rfl ?_
        refine X.callv 85 [] [zi v511, zi v514, zr g0 33] [(0, zr g0 9)] i26_82 rfl (by decide) rfl rfl (by omega) rfl rfl (by decide) rfl t38 (Nat.le_of_ble_eq_true rfl) (Nat.le_of_ble_eq_true rfl) rfl ?_
        refine X.aload_n 1 i38_0 rfl rfl rfl ?_
        refine X.getR 4 i38_1 rfl rfl (by decide) rfl rfl ?_
        refine X.iconst 5 i38_4 rfl rfl (by decide) ?_
        refine X.iald 6 i38_5 rfl rfl (by decide) rfl (by omega) ?_
        have h729 := r10_0 hJ524 g0 (i := 3) (by omega)
        refine X.reti i38_6 rfl t38 ?_
        show X (EE s) d 26 85 [(0, zr g0 8), (1, zi a1), (2, zi v507), (3, zi v511), (4, zi v514)] [zi (m523 g0 10 3), zi v511, zi v514, zr g0 33] m523 _
        refine X.aload_n 86 i26_85 rfl rfl rfl ?_
        refine X.getR 89 i26_86 rfl rfl (by decide) rfl rfl ?_
        refine X.aload_n 90 i26_89 rfl rfl rfl ?_
        refine X.getI 93 9 i26_90 rfl rfl (by decide) rfl rfl rfl ?_
        refine X.callv 96 [zi v514, zi v511, zi (m523 g0 10 3), zr g0 37, zi (m523 g0 8 9)] [] [(0, zr g0 33), (1, zi v514), (2, zi v511), (3, zi (m523 g0 10 3)), (4, zr g0 37), (5, zi (m523 g0 8 9))] i26_93 rfl (by decide) rfl rfl (by omega) rfl rfl (by decide) rfl t56 (Nat.le_of_ble_eq_true rfl) (Nat.le_of_ble_eq_true rfl) rfl ?_
        refine c56_2 (B := B) g0 g0 v514 v511 (m523 g0 10 3) (m523 g0 8 9) (by omega) (hJ524.up (by omega)) (by omega) (by omega) (by omega) (by omega) (by omega) (fun m730 hJ731 km730 => ?_)
        have kkm7300 := km730 0
        have kkm730g0 := km730 g0
        show X (EE s) d 26 96 [(0, zr g0 8), (1, zi a1), (2, zi v507), (3, zi v511), (4, zi v514)] [] m730 _
        refine X.aload_n 97 i26_96 rfl rfl rfl ?_
        refine X.getR 100 i26_97 rfl rfl (by decide) rfl rfl ?_
        refine X.iload 102 i26_100 rfl rfl rfl ?_
        refine X.aload_n 103 i26_102 rfl rfl rfl ?_
        refine X.getR 106 i26_103 rfl rfl (by decide) rfl rfl ?_
        refine X.getIr 109 3 i26_106 rfl rfl (by decide) rfl rfl rfl (fun h733 => ?_)
        refine X.callv 112 [zi v514, zi (m730 g0 33 3)] [] [(0, zr g0 27), (1, zi v514), (2, zi (m730 g0 33 3))] i26_109 rfl (by decide) rfl rfl (by omega) rfl rfl (by decide) rfl t58 (Nat.le_of_ble_eq_true rfl) (Nat.le_of_ble_eq_true rfl) rfl ?_
        refine X.aload_n 1 i58_0 rfl rfl rfl ?_
        refine X.dup 2 i58_1 rfl rfl rfl ?_
        refine X.getIr 5 6 i58_2 rfl rfl (by decide) rfl rfl rfl (fun h734 => ?_)
        refine X.iload_n 6 i58_5 rfl rfl rfl ?_
        refine X.iiF 7 .iadd (fun x y => x + y) i58_6 rfl rfl rfl (fun _ _ => rfl) (fun z735 hz735 => ?_)
        refine X.putI' 10 6 i58_7 rfl rfl (by decide) rfl rfl rfl (fun hrm736 m736 hm736 => ?_)
        have hJ737 := w27_3 hJ731 hm736 (by omega) hrm736
        have kum736 : m736 g0 8 9 = m730 g0 8 9 := by rw [hm736]; exact z_upd_o _ _ rfl
        refine X.aload_n 11 i58_10 rfl rfl rfl ?_
        refine X.dup 12 i58_11 rfl rfl rfl ?_
        refine X.getIr 15 8 i58_12 rfl rfl (by decide) rfl rfl rfl (fun h738 => ?_)
        refine X.iload_n 16 i58_15 rfl rfl rfl ?_
        refine X.iiF 17 .ior (fun x y => x ||| y) i58_16 rfl rfl rfl (fun _ _ => rfl) (fun z739 hz739 => ?_)
        refine X.putI' 20 8 i58_17 rfl rfl (by decide) rfl rfl rfl (fun hrm740 m740 hm740 => ?_)
        have hJ741 := w27_3 hJ737 hm740 (by omega) hrm740
        have kum740 : m740 g0 8 9 = m736 g0 8 9 := by rw [hm740]; exact z_upd_o _ _ rfl
        refine X.retv i58_20 rfl t58 ?_
        show X (EE s) d 26 112 [(0, zr g0 8), (1, zi a1), (2, zi v507), (3, zi v511), (4, zi v514)] [] m740 _
        refine X.aload_n 113 i26_112 rfl rfl rfl ?_
        refine X.getI 116 9 i26_113 rfl rfl (by decide) rfl rfl rfl ?_
        have h742 := r8_9 hJ741 g0
        refine X.ldc 118 i26_116 rfl rfl (by decide) ?_
        refine X.icmpge 131 121 i26_118 rfl rfl rfl (fun h743 => ?_) (fun h743 => ?_)
        · refine X.cut [(0, zr g0 8), (2, zi v507), (4, zi v514)] i26_131 rfl ?_
          refine X.aload_n 132 i26_131 rfl rfl rfl ?_
          refine X.iload_n 133 i26_132 rfl rfl rfl ?_
          refine X.callv 136 [zi v507] [] [(0, zr g0 8), (1, zi v507)] i26_133 rfl (by decide) rfl rfl (by omega) rfl rfl (by decide) rfl t59 (Nat.le_of_ble_eq_true rfl) (Nat.le_of_ble_eq_true rfl) rfl ?_
          refine c59_1 (B := B + 6) g0 v507 (by omega) (hJ741.up (by omega)) (by omega) (by omega) (fun m744 hJ745 km744 => ?_)
          have kkm7440 := km744 0
          have kkm744g0 := km744 g0
          show X (EE s) d 26 136 [(0, zr g0 8), (2, zi v507), (4, zi v514)] [] m744 _
          refine X.iload 138 i26_136 rfl rfl rfl ?_
          refine X.reti i26_138 rfl t26 ?_
          exact hQ v514 m744 (by first | trivial | omega) (hJ745.up (by omega))  (by omega) (by omega)
        · refine X.aload_n 122 i26_121 rfl rfl rfl ?_
          refine X.dup 123 i26_122 rfl rfl rfl ?_
          refine X.getI 126 9 i26_123 rfl rfl (by decide) rfl rfl rfl ?_
          refine X.iconst 127 i26_126 rfl rfl (by decide) ?_
          refine X.iadd 128 i26_127 rfl rfl (by omega) ?_
          refine X.putI' 131 9 i26_128 rfl rfl (by decide) rfl rfl rfl (fun hrm747 m747 hm747 => ?_)
          have hJ748 := w8_9 hJ741 hm747 (by omega)
          have em747 : m747 g0 8 9 = ((m740 g0 8 9) + 1) := by rw [hm747]; exact z_upd_same _ _ _ _ _
          refine X.cut [(0, zr g0 8), (2, zi v507), (4, zi v514)] i26_131 rfl ?_
          refine X.aload_n 132 i26_131 rfl rfl rfl ?_
          refine X.iload_n 133 i26_132 rfl rfl rfl ?_
          refine X.callv 136 [zi v507] [] [(0, zr g0 8), (1, zi v507)] i26_133 rfl (by decide) rfl rfl (by omega) rfl rfl (by decide) rfl t59 (Nat.le_of_ble_eq_true rfl) (Nat.le_of_ble_eq_true rfl) rfl ?_
          refine c59_1 (B := B + 6) g0 v507 (by omega) (hJ748.up (by omega)) (by omega) (by omega) (fun m749 hJ750 km749 => ?_)
          have kkm7490 := km749 0
          have kkm749g0 := km749 g0
          show X (EE s) d 26 136 [(0, zr g0 8), (2, zi v507), (4, zi v514)] [] m749 _
          refine X.iload 138 i26_136 rfl rfl rfl ?_
          refine X.reti i26_138 rfl t26 ?_
          exact hQ v514 m749 (by first | trivial | omega) (hJ750.up (by omega))  (by omega) (by omega)
      · refine X.aload_n 31 i53_30 rfl rfl rfl ?_
        refine X.iload_n 32 i53_31 rfl rfl rfl ?_
        refine X.putZ' 35 12 i53_32 rfl rfl (by decide) rfl rfl rfl (by omega) (fun hrm752 m752 hm752 => ?_)
        have hJ753 := w8_12 hJ524 hm752 (by omega)
        have kum752 : m752 g0 8 9 = m523 g0 8 9 := by rw [hm752]; exact z_upd_o _ _ rfl
        refine X.aload_n 36 i53_35 rfl rfl rfl ?_
        refine X.aload_n 37 i53_36 rfl rfl rfl ?_
        refine X.getZ 40 12 i53_37 rfl rfl (by decide) rfl rfl rfl (fun h754 => ?_)
        refine X.ifeq 48 43 i53_40 rfl rfl rfl (fun h755 => ?_) (fun h755 => ?_)
        · refine X.cut [] i53_48 rfl ?_
          refine X.bipush 50 i53_48 rfl rfl (by decide) ?_
          refine X.iconst 51 i53_50 rfl rfl (by decide) ?_
          refine X.callv 54 [zi 23, zi 0] [] [(0, zr g0 8), (1, zi 23), (2, zi 0)] i53_51 rfl (by decide) rfl rfl (by omega) rfl rfl (by decide) rfl t54 (Nat.le_of_ble_eq_true rfl) (Nat.le_of_ble_eq_true rfl) rfl ?_
          refine X.aload_n 1 i54_0 rfl rfl rfl ?_
          refine X.getR 4 i54_1 rfl rfl (by decide) rfl rfl ?_
          refine X.aload_n 5 i54_4 rfl rfl rfl ?_
          refine X.getI 8 9 i54_5 rfl rfl (by decide) rfl rfl rfl ?_
          have h756 := r8_9 hJ753 g0
          refine X.iload_n 9 i54_8 rfl rfl rfl ?_
          refine X.iload_n 10 i54_9 rfl rfl rfl ?_
          refine X.callv 13 [zi (m752 g0 8 9), zi 23, zi 0] [] [(0, zr g0 37), (1, zi (m752 g0 8 9)), (2, zi 23), (3, zi 0)] i54_10 rfl (by decide) rfl rfl (by omega) rfl rfl (by decide) rfl t55 (Nat.le_of_ble_eq_true rfl) (Nat.le_of_ble_eq_true rfl) rfl ?_
          refine X.aload_n 1 i55_0 rfl rfl rfl ?_
          refine X.getI 4 1 i55_1 rfl rfl (by decide) rfl rfl rfl ?_
          have h757 := r37_1 hJ753 g0
          refine X.bipush 6 i55_4 rfl rfl (by decide) ?_
          refine X.irem 7 i55_6 rfl rfl (by omega) ?_
          refine X.iconst 8 i55_7 rfl rfl (by decide) ?_
          refine X.imul 9 i55_8 rfl rfl (by omega) ?_
          refine X.istore 11 [(0, zr g0 37), (1, zi (m752 g0 8 9)), (2, zi 23), (3, zi 0), (4, zi (((m752 g0 37 1) % 40) * 3))] i55_9 rfl rfl rfl ?_
          refine X.aload_n 12 i55_11 rfl rfl rfl ?_
          refine X.getR 15 i55_12 rfl rfl (by decide) rfl rfl ?_
          refine X.iload 17 i55_15 rfl rfl rfl ?_
          refine X.iload_n 18 i55_17 rfl rfl rfl ?_
          refine X.iast' 19 i55_18 rfl rfl (by decide) rfl (by omega) (fun hrm758 m758 hm758 => ?_)
          have hJ759 := w38_0 hJ753 hm758 (by omega) hrm758
          have kum758 : m758 g0 8 9 = m752 g0 8 9 := by rw [hm758]; exact z_upd_o _ _ rfl
          refine X.aload_n 20 i55_19 rfl rfl rfl ?_
          refine X.getR 23 i55_20 rfl rfl (by decide) rfl rfl ?_
          refine X.iload 25 i55_23 rfl rfl rfl ?_
          refine X.iconst 26 i55_25 rfl rfl (by decide) ?_
          refine X.iadd 27 i55_26 rfl rfl (by omega) ?_
          refine X.iload_n 28 i55_27 rfl rfl rfl ?_
          refine X.iast' 29 i55_28 rfl rfl (by decide) rfl (by omega) (fun hrm760 m760 hm760 => ?_)
          have hJ761 := w38_0 hJ759 hm760 (by omega) hrm760
          have kum760 : m760 g0 8 9 = m758 g0 8 9 := by rw [hm760]; exact z_upd_o _ _ rfl
          refine X.aload_n 30 i55_29 rfl rfl rfl ?_
          refine X.getR 33 i55_30 rfl rfl (by decide) rfl rfl ?_
          refine X.iload 35 i55_33 rfl rfl rfl ?_
          refine X.iconst 36 i55_35 rfl rfl (by decide) ?_
          refine X.iadd 37 i55_36 rfl rfl (by omega) ?_
          refine X.iload_n 38 i55_37 rfl rfl rfl ?_
          refine X.iast' 39 i55_38 rfl rfl (by decide) rfl (by omega) (fun hrm762 m762 hm762 => ?_)
          have hJ763 := w38_0 hJ761 hm762 (by omega) hrm762
          have kum762 : m762 g0 8 9 = m760 g0 8 9 := by rw [hm762]; exact z_upd_o _ _ rfl
          refine X.aload_n 40 i55_39 rfl rfl rfl ?_
          refine X.dup 41 i55_40 rfl rfl rfl ?_
          refine X.getI 44 1 i55_41 rfl rfl (by decide) rfl rfl rfl ?_
          have h764 := r37_1 hJ763 g0
          refine X.iconst 45 i55_44 rfl rfl (by decide) ?_
          refine X.iadd 46 i55_45 rfl rfl (by omega) ?_
          refine X.putI' 49 1 i55_46 rfl rfl (by decide) rfl rfl rfl (fun hrm765 m765 hm765 => ?_)
          have hJ766 := w37_1 (hJ763.up (B' := B + 1) (by omega)) hm765 (by omega)
          have kum765 : m765 g0 8 9 = m762 g0 8 9 := by rw [hm765]; exact z_upd_o _ _ rfl
          refine X.retv i55_49 rfl t55 ?_
          show X (EE s) ((d - 1) - 1) 54 13 [(0, zr g0 8), (1, zi 23), (2, zi 0)] [] m765 _
          refine X.retv i54_13 rfl t54 ?_
          show X (EE s) (d - 1) 53 54 [] [] m765 _
          refine X.retv i53_54 rfl t53 ?_
          show X (EE s) d 26 71 [(0, zr g0 8), (1, zi a1), (2, zi v507), (3, zi v511), (4, zi v514)] [] m765 _
          refine X.aload_n 72 i26_71 rfl rfl rfl ?_
          refine X.getR 75 i26_72 rfl rfl (by decide) rfl rfl ?_
          refine X.iload 77 i26_75 rfl rfl rfl ?_
          refine X.iload_n 78 i26_77 rfl rfl rfl ?_
          refine X.aload_n 79 i26_78 rfl rfl rfl ?_
          refine X.getR 82 i26_79 rfl rfl (by decide) rfl rfl ?_
          refine X.callv 85 [] [zi v511, zi v514, zr g0 33] [(0, zr g0 9)] i26_82 rfl (by decide) rfl rfl (by omega) rfl rfl (by decide) rfl t38 (Nat.le_of_ble_eq_true rfl) (Nat.le_of_ble_eq_true rfl) rfl ?_
          refine X.aload_n 1 i38_0 rfl rfl rfl ?_
          refine X.getR 4 i38_1 rfl rfl (by decide) rfl rfl ?_
          refine X.iconst 5 i38_4 rfl rfl (by decide) ?_
          refine X.iald 6 i38_5 rfl rfl (by decide) rfl (by omega) ?_
          have h767 := r10_0 hJ766 g0 (i := 3) (by omega)
          refine X.reti i38_6 rfl t38 ?_
          show X (EE s) d 26 85 [(0, zr g0 8), (1, zi a1), (2, zi v507), (3, zi v511), (4, zi v514)] [zi (m765 g0 10 3), zi v511, zi v514, zr g0 33] m765 _
          refine X.aload_n 86 i26_85 rfl rfl rfl ?_
          refine X.getR 89 i26_86 rfl rfl (by decide) rfl rfl ?_
          refine X.aload_n 90 i26_89 rfl rfl rfl ?_
          refine X.getI 93 9 i26_90 rfl rfl (by decide) rfl rfl rfl ?_
          have h768 := r8_9 hJ766 g0
          refine X.callv 96 [zi v514, zi v511, zi (m765 g0 10 3), zr g0 37, zi (m765 g0 8 9)] [] [(0, zr g0 33), (1, zi v514), (2, zi v511), (3, zi (m765 g0 10 3)), (4, zr g0 37), (5, zi (m765 g0 8 9))] i26_93 rfl (by decide) rfl rfl (by omega) rfl rfl (by decide) rfl t56 (Nat.le_of_ble_eq_true rfl) (Nat.le_of_ble_eq_true rfl) rfl ?_
          refine c56_2 (B := B + 1) g0 g0 v514 v511 (m765 g0 10 3) (m765 g0 8 9) (by omega) (hJ766.up (by omega)) (by omega) (by omega) (by omega) (by omega) (by omega) (fun m769 hJ770 km769 => ?_)
          have kkm7690 := km769 0
          have kkm769g0 := km769 g0
          show X (EE s) d 26 96 [(0, zr g0 8), (1, zi a1), (2, zi v507), (3, zi v511), (4, zi v514)] [] m769 _
          refine X.aload_n 97 i26_96 rfl rfl rfl ?_
          refine X.getR 100 i26_97 rfl rfl (by decide) rfl rfl ?_
          refine X.iload 102 i26_100 rfl rfl rfl ?_
          refine X.aload_n 103 i26_102 rfl rfl rfl ?_
          refine X.getR 106 i26_103 rfl rfl (by decide) rfl rfl ?_
          refine X.getIr 109 3 i26_106 rfl rfl (by decide) rfl rfl rfl (fun h772 => ?_)
          refine X.callv 112 [zi v514, zi (m769 g0 33 3)] [] [(0, zr g0 27), (1, zi v514), (2, zi (m769 g0 33 3))] i26_109 rfl (by decide) rfl rfl (by omega) rfl rfl (by decide) rfl t58 (Nat.le_of_ble_eq_true rfl) (Nat.le_of_ble_eq_true rfl) rfl ?_
          refine X.aload_n 1 i58_0 rfl rfl rfl ?_
          refine X.dup 2 i58_1 rfl rfl rfl ?_
          refine X.getIr 5 6 i58_2 rfl rfl (by decide) rfl rfl rfl (fun h773 => ?_)
          refine X.iload_n 6 i58_5 rfl rfl rfl ?_
          refine X.iiF 7 .iadd (fun x y => x + y) i58_6 rfl rfl rfl (fun _ _ => rfl) (fun z774 hz774 => ?_)
          refine X.putI' 10 6 i58_7 rfl rfl (by decide) rfl rfl rfl (fun hrm775 m775 hm775 => ?_)
          have hJ776 := w27_3 hJ770 hm775 (by omega) hrm775
          have kum775 : m775 g0 8 9 = m769 g0 8 9 := by rw [hm775]; exact z_upd_o _ _ rfl
          refine X.aload_n 11 i58_10 rfl rfl rfl ?_
          refine X.dup 12 i58_11 rfl rfl rfl ?_
          refine X.getIr 15 8 i58_12 rfl rfl (by decide) rfl rfl rfl (fun h777 => ?_)
          refine X.iload_n 16 i58_15 rfl rfl rfl ?_
          refine X.iiF 17 .ior (fun x y => x ||| y) i58_16 rfl rfl rfl (fun _ _ => rfl) (fun z778 hz778 => ?_)
          refine X.putI' 20 8 i58_17 rfl rfl (by decide) rfl rfl rfl (fun hrm779 m779 hm779 => ?_)
          have hJ780 := w27_3 hJ776 hm779 (by omega) hrm779
          have kum779 : m779 g0 8 9 = m775 g0 8 9 := by rw [hm779]; exact z_upd_o _ _ rfl
          refine X.retv i58_20 rfl t58 ?_
          show X (EE s) d 26 112 [(0, zr g0 8), (1, zi a1), (2, zi v507), (3, zi v511), (4, zi v514)] [] m779 _
          refine X.aload_n 113 i26_112 rfl rfl rfl ?_
          refine X.getI 116 9 i26_113 rfl rfl (by decide) rfl rfl rfl ?_
          have h781 := r8_9 hJ780 g0
          refine X.ldc 118 i26_116 rfl rfl (by decide) ?_
          refine X.icmpge 131 121 i26_118 rfl rfl rfl (fun h782 => ?_) (fun h782 => ?_)
          · refine X.cut [(0, zr g0 8), (2, zi v507), (4, zi v514)] i26_131 rfl ?_
            refine X.aload_n 132 i26_131 rfl rfl rfl ?_
            refine X.iload_n 133 i26_132 rfl rfl rfl ?_
            refine X.callv 136 [zi v507] [] [(0, zr g0 8), (1, zi v507)] i26_133 rfl (by decide) rfl rfl (by omega) rfl rfl (by decide) rfl t59 (Nat.le_of_ble_eq_true rfl) (Nat.le_of_ble_eq_true rfl) rfl ?_
            refine c59_1 (B := B + 7) g0 v507 (by omega) (hJ780.up (by omega)) (by omega) (by omega) (fun m783 hJ784 km783 => ?_)
            have kkm7830 := km783 0
            have kkm783g0 := km783 g0
            show X (EE s) d 26 136 [(0, zr g0 8), (2, zi v507), (4, zi v514)] [] m783 _
            refine X.iload 138 i26_136 rfl rfl rfl ?_
            refine X.reti i26_138 rfl t26 ?_
            exact hQ v514 m783 (by first | trivial | omega) (hJ784.up (by omega))  (by omega) (by omega)
          · refine X.aload_n 122 i26_121 rfl rfl rfl ?_
            refine X.dup 123 i26_122 rfl rfl rfl ?_
            refine X.getI 126 9 i26_123 rfl rfl (by decide) rfl rfl rfl ?_
            refine X.iconst 127 i26_126 rfl rfl (by decide) ?_
            refine X.iadd 128 i26_127 rfl rfl (by omega) ?_
            refine X.putI' 131 9 i26_128 rfl rfl (by decide) rfl rfl rfl (fun hrm786 m786 hm786 => ?_)
            have hJ787 := w8_9 hJ780 hm786 (by omega)
            have em786 : m786 g0 8 9 = ((m779 g0 8 9) + 1) := by rw [hm786]; exact z_upd_same _ _ _ _ _
            refine X.cut [(0, zr g0 8), (2, zi v507), (4, zi v514)] i26_131 rfl ?_
            refine X.aload_n 132 i26_131 rfl rfl rfl ?_
            refine X.iload_n 133 i26_132 rfl rfl rfl ?_
            refine X.callv 136 [zi v507] [] [(0, zr g0 8), (1, zi v507)] i26_133 rfl (by decide) rfl rfl (by omega) rfl rfl (by decide) rfl t59 (Nat.le_of_ble_eq_true rfl) (Nat.le_of_ble_eq_true rfl) rfl ?_
            refine c59_1 (B := B + 7) g0 v507 (by omega) (hJ787.up (by omega)) (by omega) (by omega) (fun m788 hJ789 km788 => ?_)
            have kkm7880 := km788 0
            have kkm788g0 := km788 g0
            show X (EE s) d 26 136 [(0, zr g0 8), (2, zi v507), (4, zi v514)] [] m788 _
            refine X.iload 138 i26_136 rfl rfl rfl ?_
            refine X.reti i26_138 rfl t26 ?_
            exact hQ v514 m788 (by first | trivial | omega) (hJ789.up (by omega))  (by omega) (by omega)
        · refine X.bipush 45 i53_43 rfl rfl (by decide) ?_
          refine X.goto 50 i53_45 rfl rfl ?_
          refine X.cut [] i53_50 rfl ?_
          refine X.iconst 51 i53_50 rfl rfl (by decide) ?_
          refine X.callv 54 [zi 22, zi 0] [] [(0, zr g0 8), (1, zi 22), (2, zi 0)] i53_51 rfl (by decide) rfl rfl (by omega) rfl rfl (by decide) rfl t54 (Nat.le_of_ble_eq_true rfl) (Nat.le_of_ble_eq_true rfl) rfl ?_
          refine X.aload_n 1 i54_0 rfl rfl rfl ?_
          refine X.getR 4 i54_1 rfl rfl (by decide) rfl rfl ?_
          refine X.aload_n 5 i54_4 rfl rfl rfl ?_
          refine X.getI 8 9 i54_5 rfl rfl (by decide) rfl rfl rfl ?_
          have h791 := r8_9 hJ753 g0
          refine X.iload_n 9 i54_8 rfl rfl rfl ?_
          refine X.iload_n 10 i54_9 rfl rfl rfl ?_
          refine X.callv 13 [zi (m752 g0 8 9), zi 22, zi 0] [] [(0, zr g0 37), (1, zi (m752 g0 8 9)), (2, zi 22), (3, zi 0)] i54_10 rfl (by decide) rfl rfl (by omega) rfl rfl (by decide) rfl t55 (Nat.le_of_ble_eq_true rfl) (Nat.le_of_ble_eq_true rfl) rfl ?_
          refine X.aload_n 1 i55_0 rfl rfl rfl ?_
          refine X.getI 4 1 i55_1 rfl rfl (by decide) rfl rfl rfl ?_
          have h792 := r37_1 hJ753 g0
          refine X.bipush 6 i55_4 rfl rfl (by decide) ?_
          refine X.irem 7 i55_6 rfl rfl (by omega) ?_
          refine X.iconst 8 i55_7 rfl rfl (by decide) ?_
          refine X.imul 9 i55_8 rfl rfl (by omega) ?_
          refine X.istore 11 [(0, zr g0 37), (1, zi (m752 g0 8 9)), (2, zi 22), (3, zi 0), (4, zi (((m752 g0 37 1) % 40) * 3))] i55_9 rfl rfl rfl ?_
          refine X.aload_n 12 i55_11 rfl rfl rfl ?_
          refine X.getR 15 i55_12 rfl rfl (by decide) rfl rfl ?_
          refine X.iload 17 i55_15 rfl rfl rfl ?_
          refine X.iload_n 18 i55_17 rfl rfl rfl ?_
          refine X.iast' 19 i55_18 rfl rfl (by decide) rfl (by omega) (fun hrm793 m793 hm793 => ?_)
          have hJ794 := w38_0 hJ753 hm793 (by omega) hrm793
          have kum793 : m793 g0 8 9 = m752 g0 8 9 := by rw [hm793]; exact z_upd_o _ _ rfl
          refine X.aload_n 20 i55_19 rfl rfl rfl ?_
          refine X.getR 23 i55_20 rfl rfl (by decide) rfl rfl ?_
          refine X.iload 25 i55_23 rfl rfl rfl ?_
          refine X.iconst 26 i55_25 rfl rfl (by decide) ?_
          refine X.iadd 27 i55_26 rfl rfl (by omega) ?_
          refine X.iload_n 28 i55_27 rfl rfl rfl ?_
          refine X.iast' 29 i55_28 rfl rfl (by decide) rfl (by omega) (fun hrm795 m795 hm795 => ?_)
          have hJ796 := w38_0 hJ794 hm795 (by omega) hrm795
          have kum795 : m795 g0 8 9 = m793 g0 8 9 := by rw [hm795]; exact z_upd_o _ _ rfl
          refine X.aload_n 30 i55_29 rfl rfl rfl ?_
          refine X.getR 33 i55_30 rfl rfl (by decide) rfl rfl ?_
          refine X.iload 35 i55_33 rfl rfl rfl ?_
          refine X.iconst 36 i55_35 rfl rfl (by decide) ?_
          refine X.iadd 37 i55_36 rfl rfl (by omega) ?_
          refine X.iload_n 38 i55_37 rfl rfl rfl ?_
          refine X.iast' 39 i55_38 rfl rfl (by decide) rfl (by omega) (fun hrm797 m797 hm797 => ?_)
          have hJ798 := w38_0 hJ796 hm797 (by omega) hrm797
          have kum797 : m797 g0 8 9 = m795 g0 8 9 := by rw [hm797]; exact z_upd_o _ _ rfl
          refine X.aload_n 40 i55_39 rfl rfl rfl ?_
          refine X.dup 41 i55_40 rfl rfl rfl ?_
          refine X.getI 44 1 i55_41 rfl rfl (by decide) rfl rfl rfl ?_
          have h799 := r37_1 hJ798 g0
          refine X.iconst 45 i55_44 rfl rfl (by decide) ?_
          refine X.iadd 46 i55_45 rfl rfl (by omega) ?_
          refine X.putI' 49 1 i55_46 rfl rfl (by decide) rfl rfl rfl (fun hrm800 m800 hm800 => ?_)
          have hJ801 := w37_1 (hJ798.up (B' := B + 1) (by omega)) hm800 (by omega)
          have kum800 : m800 g0 8 9 = m797 g0 8 9 := by rw [hm800]; exact z_upd_o _ _ rfl
          refine X.retv i55_49 rfl t55 ?_
          show X (EE s) ((d - 1) - 1) 54 13 [(0, zr g0 8), (1, zi 22), (2, zi 0)] [] m800 _
          refine X.retv i54_13 rfl t54 ?_
          show X (EE s) (d - 1) 53 54 [] [] m800 _
          refine X.retv i53_54 rfl t53 ?_
          show X (EE s) d 26 71 [(0, zr g0 8), (1, zi a1), (2, zi v507), (3, zi v511), (4, zi v514)] [] m800 _
          refine X.aload_n 72 i26_71 rfl rfl rfl ?_
          refine X.getR 75 i26_72 rfl rfl (by decide) rfl rfl ?_
          refine X.iload 77 i26_75 rfl rfl rfl ?_
          refine X.iload_n 78 i26_77 rfl rfl rfl ?_
          refine X.aload_n 79 i26_78 rfl rfl rfl ?_
          refine X.getR 82 i26_79 rfl rfl (by decide) rfl rfl ?_
          refine X.callv 85 [] [zi v511, zi v514, zr g0 33] [(0, zr g0 9)] i26_82 rfl (by decide) rfl rfl (by omega) rfl rfl (by decide) rfl t38 (Nat.le_of_ble_eq_true rfl) (Nat.le_of_ble_eq_true rfl) rfl ?_
          refine X.aload_n 1 i38_0 rfl rfl rfl ?_
          refine X.getR 4 i38_1 rfl rfl (by decide) rfl rfl ?_
          refine X.iconst 5 i38_4 rfl rfl (by decide) ?_
          refine X.iald 6 i38_5 rfl rfl (by decide) rfl (by omega) ?_
          have h802 := r10_0 hJ801 g0 (i := 3) (by omega)
          refine X.reti i38_6 rfl t38 ?_
          show X (EE s) d 26 85 [(0, zr g0 8), (1, zi a1), (2, zi v507), (3, zi v511), (4, zi v514)] [zi (m800 g0 10 3), zi v511, zi v514, zr g0 33] m800 _
          refine X.aload_n 86 i26_85 rfl rfl rfl ?_
          refine X.getR 89 i26_86 rfl rfl (by decide) rfl rfl ?_
          refine X.aload_n 90 i26_89 rfl rfl rfl ?_
          refine X.getI 93 9 i26_90 rfl rfl (by decide) rfl rfl rfl ?_
          have h803 := r8_9 hJ801 g0
          refine X.callv 96 [zi v514, zi v511, zi (m800 g0 10 3), zr g0 37, zi (m800 g0 8 9)] [] [(0, zr g0 33), (1, zi v514), (2, zi v511), (3, zi (m800 g0 10 3)), (4, zr g0 37), (5, zi (m800 g0 8 9))] i26_93 rfl (by decide) rfl rfl (by omega) rfl rfl (by decide) rfl t56 (Nat.le_of_ble_eq_true rfl) (Nat.le_of_ble_eq_true rfl) rfl ?_
          refine c56_2 (B := B + 1) g0 g0 v514 v511 (m800 g0 10 3) (m800 g0 8 9) (by omega) (hJ801.up (by omega)) (by omega) (by omega) (by omega) (by omega) (by omega) (fun m804 hJ805 km804 => ?_)
          have kkm8040 := km804 0
          have kkm804g0 := km804 g0
          show X (EE s) d 26 96 [(0, zr g0 8), (1, zi a1), (2, zi v507), (3, zi v511), (4, zi v514)] [] m804 _
          refine X.aload_n 97 i26_96 rfl rfl rfl ?_
          refine X.getR 100 i26_97 rfl rfl (by decide) rfl rfl ?_
          refine X.iload 102 i26_100 rfl rfl rfl ?_
          refine X.aload_n 103 i26_102 rfl rfl rfl ?_
          refine X.getR 106 i26_103 rfl rfl (by decide) rfl rfl ?_
          refine X.getIr 109 3 i26_106 rfl rfl (by decide) rfl rfl rfl (fun h807 => ?_)
          refine X.callv 112 [zi v514, zi (m804 g0 33 3)] [] [(0, zr g0 27), (1, zi v514), (2, zi (m804 g0 33 3))] i26_109 rfl (by decide) rfl rfl (by omega) rfl rfl (by decide) rfl t58 (Nat.le_of_ble_eq_true rfl) (Nat.le_of_ble_eq_true rfl) rfl ?_
          refine X.aload_n 1 i58_0 rfl rfl rfl ?_
          refine X.dup 2 i58_1 rfl rfl rfl ?_
          refine X.getIr 5 6 i58_2 rfl rfl (by decide) rfl rfl rfl (fun h808 => ?_)
          refine X.iload_n 6 i58_5 rfl rfl rfl ?_
          refine X.iiF 7 .iadd (fun x y => x + y) i58_6 rfl rfl rfl (fun _ _ => rfl) (fun z809 hz809 => ?_)
          refine X.putI' 10 6 i58_7 rfl rfl (by decide) rfl rfl rfl (fun hrm810 m810 hm810 => ?_)
          have hJ811 := w27_3 hJ805 hm810 (by omega) hrm810
          have kum810 : m810 g0 8 9 = m804 g0 8 9 := by rw [hm810]; exact z_upd_o _ _ rfl
          refine X.aload_n 11 i58_10 rfl rfl rfl ?_
          refine X.dup 12 i58_11 rfl rfl rfl ?_
          refine X.getIr 15 8 i58_12 rfl rfl (by decide) rfl rfl rfl (fun h812 => ?_)
          refine X.iload_n 16 i58_15 rfl rfl rfl ?_
          refine X.iiF 17 .ior (fun x y => x ||| y) i58_16 rfl rfl rfl (fun _ _ => rfl) (fun z813 hz813 => ?_)
          refine X.putI' 20 8 i58_17 rfl rfl (by decide) rfl rfl rfl (fun hrm814 m814 hm814 => ?_)
          have hJ815 := w27_3 hJ811 hm814 (by omega) hrm814
          have kum814 : m814 g0 8 9 = m810 g0 8 9 := by rw [hm814]; exact z_upd_o _ _ rfl
          refine X.retv i58_20 rfl t58 ?_
          show X (EE s) d 26 112 [(0, zr g0 8), (1, zi a1), (2, zi v507), (3, zi v511), (4, zi v514)] [] m814 _
          refine X.aload_n 113 i26_112 rfl rfl rfl ?_
          refine X.getI 116 9 i26_113 rfl rfl (by decide) rfl rfl rfl ?_
          have h816 := r8_9 hJ815 g0
          refine X.ldc 118 i26_116 rfl rfl (by decide) ?_
          refine X.icmpge 131 121 i26_118 rfl rfl rfl (fun h817 => ?_) (fun h817 => ?_)
          · refine X.cut [(0, zr g0 8), (2, zi v507), (4, zi v514)] i26_131 rfl ?_
            refine X.aload_n 132 i26_131 rfl rfl rfl ?_
            refine X.iload_n 133 i26_132 rfl rfl rfl ?_
            refine X.callv 136 [zi v507] [] [(0, zr g0 8), (1, zi v507)] i26_133 rfl (by decide) rfl rfl (by omega) rfl rfl (by decide) rfl t59 (Nat.le_of_ble_eq_true rfl) (Nat.le_of_ble_eq_true rfl) rfl ?_
            refine c59_1 (B := B + 7) g0 v507 (by omega) (hJ815.up (by omega)) (by omega) (by omega) (fun m818 hJ819 km818 => ?_)
            have kkm8180 := km818 0
            have kkm818g0 := km818 g0
            show X (EE s) d 26 136 [(0, zr g0 8), (2, zi v507), (4, zi v514)] [] m818 _
            refine X.iload 138 i26_136 rfl rfl rfl ?_
            refine X.reti i26_138 rfl t26 ?_
            exact hQ v514 m818 (by first | trivial | omega) (hJ819.up (by omega))  (by omega) (by omega)
          · refine X.aload_n 122 i26_121 rfl rfl rfl ?_
            refine X.dup 123 i26_122 rfl rfl rfl ?_
            refine X.getI 126 9 i26_123 rfl rfl (by decide) rfl rfl rfl ?_
            refine X.iconst 127 i26_126 rfl rfl (by decide) ?_
            refine X.iadd 128 i26_127 rfl rfl (by omega) ?_
            refine X.putI' 131 9 i26_128 rfl rfl (by decide) rfl rfl rfl (fun hrm821 m821 hm821 => ?_)
            have hJ822 := w8_9 hJ815 hm821 (by omega)
            have em821 : m821 g0 8 9 = ((m814 g0 8 9) + 1) := by rw [hm821]; exact z_upd_same _ _ _ _ _
            refine X.cut [(0, zr g0 8), (2, zi v507), (4, zi v514)] i26_131 rfl ?_
            refine X.aload_n 132 i26_131 rfl rfl rfl ?_
            refine X.iload_n 133 i26_132 rfl rfl rfl ?_
            refine X.callv 136 [zi v507] [] [(0, zr g0 8), (1, zi v507)] i26_133 rfl (by decide) rfl rfl (by omega) rfl rfl (by decide) rfl t59 (Nat.le_of_ble_eq_true rfl) (Nat.le_of_ble_eq_true rfl) rfl ?_
            refine c59_1 (B := B + 7) g0 v507 (by omega) (hJ822.up (by omega)) (by omega) (by omega) (fun m823 hJ824 km823 => ?_)
            have kkm8230 := km823 0
            have kkm823g0 := km823 g0
            show X (EE s) d 26 136 [(0, zr g0 8), (2, zi v507), (4, zi v514)] [] m823 _
            refine X.iload 138 i26_136 rfl rfl rfl ?_
            refine X.reti i26_138 rfl t26 ?_
            exact hQ v514 m823 (by first | trivial | omega) (hJ824.up (by omega))  (by omega) (by omega)
-- WorkMeter$Meter.stretch
theorem c35_3 {s : Nat × (Nat → Int32)} {m0 m : zM} {B : Int} {d : Nat} {Q : Option zV → zM → Prop} (g0 : Nat) (a1 a2 a3 : Int) (hd : 16 ≤ d) (hJ : J m0 B m) (hB : B + 0 ≤ 1000000000) (ha1 : 1 ≤ a1 ∧ a1 ≤ 2147483647) (ha2 : 0 ≤ a2 ∧ a2 ≤ 3) (ha3 : (-2147483648) ≤ a3 ∧ a3 ≤ 2147483647) (hp0 : 1 ≤ a1) (hQ : ∀ (v : Int), ((-1999999999) ≤ v ∧ v ≤ 1000000) → (1 ≤ v) → (v + m g0 8 9 ≤ 2000000001) → (v ≤ a1) → Q (some (zi v)) m) : X (EE s) d 35 0 [(0, zr g0 8), (1, zi a1), (2, zi a2), (3, zi a3)] [] m Q := by
  refine X.aload_n 1 i35_0 rfl rfl rfl ?_
  refine X.getI 4 9 i35_1 rfl rfl (by decide) rfl rfl rfl ?_
  have h501 := r8_9 hJ g0
  refine X.ldc 6 i35_4 rfl rfl (by decide) ?_
  refine X.icmplt 11 9 i35_6 rfl rfl rfl (fun h502 => ?_) (fun h502 => ?_)
  · refine X.aload_n 12 i35_11 rfl rfl rfl ?_
    refine X.getR 15 i35_12 rfl rfl (by decide) rfl rfl ?_
    refine X.callv 18 [] [] [(0, zr g0 9)] i35_15 rfl (by decide) rfl rfl (by omega) rfl rfl (by decide) rfl t36 (Nat.le_of_ble_eq_true rfl) (Nat.le_of_ble_eq_true rfl) rfl ?_
    refine X.iconst 1 i36_0 rfl rfl (by decide) ?_
    refine X.aload_n 2 i36_1 rfl rfl rfl ?_
    refine X.getR 5 i36_2 rfl rfl (by decide) rfl rfl ?_
    refine X.iconst 6 i36_5 rfl rfl (by decide) ?_
    refine X.iald 7 i36_6 rfl rfl (by decide) rfl (by omega) ?_
    have h503 := r10_0 hJ g0 (i := 4) (by omega)
    refine X.maxI 10 i36_7 rfl rfl (by omega) (Nat.le_of_ble_eq_true rfl) ?_
    refine X.reti i36_10 rfl t36 ?_
    show X (EE s) d 35 18 [(0, zr g0 8), (1, zi a1), (2, zi a2), (3, zi a3)] [zi (max 1 (m g0 10 4))] m _
    refine X.istore 20 [(0, zr g0 8), (1, zi a1), (2, zi a2), (3, zi a3), (4, zi (max 1 (m g0 10 4)))] i35_18 rfl rfl rfl ?_
    refine X.iload_n 21 i35_20 rfl rfl rfl ?_
    refine X.ldc 23 i35_21 rfl rfl (by decide) ?_
    refine X.aload_n 24 i35_23 rfl rfl rfl ?_
    refine X.getI 27 9 i35_24 rfl rfl (by decide) rfl rfl rfl ?_
    refine X.isub 28 i35_27 rfl rfl (by omega) ?_
    refine X.minI 31 i35_28 rfl rfl (by omega) (Nat.le_of_ble_eq_true rfl) ?_
    refine X.istore 33 [(0, zr g0 8), (1, zi a1), (2, zi a2), (3, zi a3), (4, zi (max 1 (m g0 10 4))), (5, zi (min a1 (2000000000 - (m g0 8 9))))] i35_31 rfl rfl rfl ?_
    refine X.iload 35 i35_33 rfl rfl rfl ?_
    refine X.aload_n 36 i35_35 rfl rfl rfl ?_
    refine X.getR 39 i35_36 rfl rfl (by decide) rfl rfl ?_
    refine X.aload_n 40 i35_39 rfl rfl rfl ?_
    refine X.getI 43 9 i35_40 rfl rfl (by decide) rfl rfl rfl ?_
    refine X.callv 46 [zi (m g0 8 9)] [zi (min a1 (2000000000 - (m g0 8 9)))] [(0, zr g0 11), (1, zi (m g0 8 9))] i35_43 rfl (by decide) rfl rfl (by omega) rfl rfl (by decide) rfl t37 (Nat.le_of_ble_eq_true rfl) (Nat.le_of_ble_eq_true rfl) rfl ?_
    refine c37_1 (B := B) g0 (m g0 8 9) (by omega) (hJ.up (by omega)) (by omega) (by omega) (fun v506 hv506 hqv5060 => ?_)
    show X (EE s) d 35 46 [(0, zr g0 8), (1, zi a1), (2, zi a2), (3, zi a3), (4, zi (max 1 (m g0 10 4))), (5, zi (min a1 (2000000000 - (m g0 8 9))))] [zi v506, zi (min a1 (2000000000 - (m g0 8 9)))] m _
    refine X.aload_n 47 i35_46 rfl rfl rfl ?_
    refine X.getI 50 9 i35_47 rfl rfl (by decide) rfl rfl rfl ?_
    refine X.isub 51 i35_50 rfl rfl (by omega) ?_
    refine X.minI 54 i35_51 rfl rfl (by omega) (Nat.le_of_ble_eq_true rfl) ?_
    refine X.istore 56 [(0, zr g0 8), (1, zi a1), (2, zi a2), (3, zi a3), (4, zi (max 1 (m g0 10 4))), (5, zi (min (min a1 (2000000000 - (m g0 8 9))) (v506 - (m g0 8 9))))] i35_54 rfl rfl rfl ?_
    refine X.iload 58 i35_56 rfl rfl rfl ?_
    refine X.iload 60 i35_58 rfl rfl rfl ?_
    refine X.aload_n 61 i35_60 rfl rfl rfl ?_
    refine X.getI 64 9 i35_61 rfl rfl (by decide) rfl rfl rfl ?_
    refine X.iload 66 i35_64 rfl rfl rfl ?_
    refine X.irem 67 i35_66 rfl rfl (by omega) ?_
    have hz507 := z_modb (x := (m g0 8 9)) (y := (max 1 (m g0 10 4))) (by omega) (by omega)
    obtain ⟨z507, ez507⟩ : ∃ z, z = ((m g0 8 9) % (max 1 (m g0 10 4))) := ⟨_, rfl⟩
    rw [← ez507] at hz507 ⊢
    clear ez507
    refine X.isub 68 i35_67 rfl rfl (by omega) ?_
    refine X.minI 71 i35_68 rfl rfl (by omega) (Nat.le_of_ble_eq_true rfl) ?_
    refine X.istore 73 [(0, zr g0 8), (1, zi a1), (2, zi a2), (3, zi a3), (4, zi (max 1 (m g0 10 4))), (5, zi (min (min (min a1 (2000000000 - (m g0 8 9))) (v506 - (m g0 8 9))) ((max 1 (m g0 10 4)) - z507)))] i35_71 rfl rfl rfl ?_
    refine X.aload_n 74 i35_73 rfl rfl rfl ?_
    refine X.getR 77 i35_74 rfl rfl (by decide) rfl rfl ?_
    refine X.iload_n 78 i35_77 rfl rfl rfl ?_
    refine X.aload_n 79 i35_78 rfl rfl rfl ?_
    refine X.getR 82 i35_79 rfl rfl (by decide) rfl rfl ?_
    refine X.callv 85 [] [zi a3, zr g0 33] [(0, zr g0 9)] i35_82 rfl (by decide) rfl rfl (by omega) rfl rfl (by decide) rfl t38 (Nat.le_of_ble_eq_true rfl) (Nat.le_of_ble_eq_true rfl) rfl ?_
    refine X.aload_n 1 i38_0 rfl rfl rfl ?_
    refine X.getR 4 i38_1 rfl rfl (by decide) rfl rfl ?_
    refine X.iconst 5 i38_4 rfl rfl (by decide) ?_
    refine X.iald 6 i38_5 rfl rfl (by decide) rfl (by omega) ?_
    have h508 := r10_0 hJ g0 (i := 3) (by omega)
    refine X.reti i38_6 rfl t38 ?_
    show X (EE s) d 35 85 [(0, zr g0 8), (1, zi a1), (2, zi a2), (3, zi a3), (4, zi (max 1 (m g0 10 4))), (5, zi (min (min (min a1 (2000000000 - (m g0 8 9))) (v506 - (m g0 8 9))) ((max 1 (m g0 10 4)) - z507)))] [zi (m g0 10 3), zi a3, zr g0 33] m _
    refine X.iload 87 i35_85 rfl rfl rfl ?_
    refine X.callv 90 [zi a3, zi (m g0 10 3), zi (min (min (min a1 (2000000000 - (m g0 8 9))) (v506 - (m g0 8 9))) ((max 1 (m g0 10 4)) - z507))] [] [(0, zr g0 33), (1, zi a3), (2, zi (m g0 10 3)), (3, zi (min (min (min a1 (2000000000 - (m g0 8 9))) (v506 - (m g0 8 9))) ((max 1 (m g0 10 4)) - z507)))] i35_87 rfl (by decide) rfl rfl (by omega) rfl rfl (by decide) rfl t39 (Nat.le_of_ble_eq_true rfl) (Nat.le_of_ble_eq_true rfl) rfl ?_
    refine c39_2 (B := B) g0 a3 (m g0 10 3) (min (min (min a1 (2000000000 - (m g0 8 9))) (v506 - (m g0 8 9))) ((max 1 (m g0 10 4)) - z507)) (by omega) (hJ.up (by omega)) (by omega) (by omega) (by omega) (by omega) (by omega) (fun v511 hv511 hqv5110 hqv5111 => ?_)
    show X (EE s) d 35 90 [(0, zr g0 8), (1, zi a1), (2, zi a2), (3, zi a3), (4, zi (max 1 (m g0 10 4))), (5, zi (min (min (min a1 (2000000000 - (m g0 8 9))) (v506 - (m g0 8 9))) ((max 1 (m g0 10 4)) - z507)))] [zi v511] m _
    refine X.istore 92 [(0, zr g0 8), (1, zi a1), (2, zi a2), (3, zi a3), (4, zi (max 1 (m g0 10 4))), (5, zi v511)] i35_90 rfl rfl rfl ?_
    refine X.aload_n 93 i35_92 rfl rfl rfl ?_
    refine X.iload_n 94 i35_93 rfl rfl rfl ?_
    refine X.iload 96 i35_94 rfl rfl rfl ?_
    refine X.callv 99 [zi a2, zi v511] [] [(0, zr g0 8), (1, zi a2), (2, zi v511)] i35_96 rfl (by decide) rfl rfl (by omega) rfl rfl (by decide) rfl t41 (Nat.le_of_ble_eq_true rfl) (Nat.le_of_ble_eq_true rfl) rfl ?_
    refine c41_2 (B := B) g0 a2 v511 (by omega) (hJ.up (by omega)) (by omega) (by omega) (by omega) (by omega) (fun v514 hv514 hqv5140 hqv5141 => ?_)
    show X (EE s) d 35 99 [(0, zr g0 8), (1, zi a1), (2, zi a2), (3, zi a3), (4, zi (max 1 (m g0 10 4))), (5, zi v511)] [zi v514] m _
    refine X.reti i35_99 rfl t35 ?_
    exact hQ v514 (by first | trivial | omega) (by omega) (by omega) (by omega)
  · refine X.iconst 10 i35_9 rfl rfl (by decide) ?_
    refine X.reti i35_10 rfl t35 ?_
    exact hQ 1 (by first | trivial | omega) (by omega) (by omega) (by omega)
-- WorkMeter$Meter.meterStretch
theorem c26_3 {s : Nat × (Nat → Int32)} {m0 m : zM} {B : Int} {d : Nat} {Q : Option zV → zM → Prop} (g0 : Nat) (a1 : Int) (hd : 17 ≤ d) (hJ : J m0 B m) (hB : B + 8 ≤ 1000000000) (ha1 : 1 ≤ a1 ∧ a1 ≤ 2147483647) (hp0 : 1 ≤ a1) (hQ : ∀ (v : Int) m', ((-1999999999) ≤ v ∧ v ≤ 1000000) → J m0 (B + 8) m' → (1 ≤ v) → (v ≤ a1) → Q (some (zi v)) m') : X (EE s) d 26 0 [(0, zr g0 8), (1, zi a1)] [] m Q := by
  refine X.aload_n 1 i26_0 rfl rfl rfl ?_
  refine X.getR 4 i26_1 rfl rfl (by decide) rfl rfl ?_
  refine X.aload_n 5 i26_4 rfl rfl rfl ?_
  refine X.getI 8 9 i26_5 rfl rfl (by decide) rfl rfl rfl ?_
  have h501 := r8_9 hJ g0
  refine X.callv 11 [zi (m g0 8 9)] [] [(0, zr g0 11), (1, zi (m g0 8 9))] i26_8 rfl (by decide) rfl rfl (by omega) rfl rfl (by decide) rfl t27 (Nat.le_of_ble_eq_true rfl) (Nat.le_of_ble_eq_true rfl) rfl ?_
  refine X.aload_n 1 i27_0 rfl rfl rfl ?_
  refine X.aload_n 2 i27_1 rfl rfl rfl ?_
  refine X.iload_n 3 i27_2 rfl rfl rfl ?_
  refine X.ldc 5 i27_3 rfl rfl (by decide) ?_
  refine X.idiv 6 i27_5 rfl rfl (by omega) ?_
  refine X.callv 9 [zi ((m g0 8 9) / 86400)] [zr g0 11] [(0, zr g0 11), (1, zi ((m g0 8 9) / 86400))] i27_6 rfl (by decide) rfl rfl (by omega) rfl rfl (by decide) rfl t28 (Nat.le_of_ble_eq_true rfl) (Nat.le_of_ble_eq_true rfl) rfl ?_
  refine c28_1 (B := B) g0 ((m g0 8 9) / 86400) (by omega) (hJ.up (by omega)) (by omega) (by omega) (fun v504 hv504 => ?_)
  show X (EE s) (d - 1) 27 9 [(0, zr g0 11), (1, zi (m g0 8 9))] [zi v504, zr g0 11] m _
  refine X.iload_n 10 i27_9 rfl rfl rfl ?_
  refine X.ldc 12 i27_10 rfl rfl (by decide) ?_
  refine X.irem 13 i27_12 rfl rfl (by omega) ?_
  refine X.callv 16 [zi v504, zi ((m g0 8 9) % 86400)] [] [(0, zr g0 11), (1, zi v504), (2, zi ((m g0 8 9) % 86400))] i27_13 rfl (by decide) rfl rfl (by omega) rfl rfl (by decide) rfl t31 (Nat.le_of_ble_eq_true rfl) (Nat.le_of_ble_eq_true rfl) rfl ?_
  refine c31_1 (B := B) g0 v504 ((m g0 8 9) % 86400) (by omega) (hJ.up (by omega)) (by omega) (by omega) (by omega) (fun v507 hv507 => ?_)
  show X (EE s) (d - 1) 27 16 [(0, zr g0 11), (1, zi (m g0 8 9))] [zi v507] m _
  refine X.reti i27_16 rfl t27 ?_
  show X (EE s) d 26 11 [(0, zr g0 8), (1, zi a1)] [zi v507] m _
  refine X.istore_n 12 [(0, zr g0 8), (1, zi a1), (2, zi v507)] i26_11 rfl rfl rfl ?_
  refine X.aload_n 13 i26_12 rfl rfl rfl ?_
  refine X.getR 16 i26_13 rfl rfl (by decide) rfl rfl ?_
  refine X.aload_n 17 i26_16 rfl rfl rfl ?_
  refine X.getR 20 i26_17 rfl rfl (by decide) rfl rfl ?_
  refine X.callv 23 [] [zr g0 19] [(0, zr g0 9)] i26_20 rfl (by decide) rfl rfl (by omega) rfl rfl (by decide) rfl t33 (Nat.le_of_ble_eq_true rfl) (Nat.le_of_ble_eq_true rfl) rfl ?_
  refine X.aload_n 1 i33_0 rfl rfl rfl ?_
  refine X.getR 4 i33_1 rfl rfl (by decide) rfl rfl ?_
  refine X.iconst 5 i33_4 rfl rfl (by decide) ?_
  refine X.iald 6 i33_5 rfl rfl (by decide) rfl (by omega) ?_
  have h508 := r10_0 hJ g0 (i := 2) (by omega)
  refine X.reti i33_6 rfl t33 ?_
  show X (EE s) d 26 23 [(0, zr g0 8), (1, zi a1), (2, zi v507)] [zi (m g0 10 2), zr g0 19] m _
  refine X.callv 26 [zi (m g0 10 2)] [] [(0, zr g0 19), (1, zi (m g0 10 2))] i26_23 rfl (by decide) rfl rfl (by omega) rfl rfl (by decide) rfl t34 (Nat.le_of_ble_eq_true rfl) (Nat.le_of_ble_eq_true rfl) rfl ?_
  refine c34_1 (B := B) g0 (m g0 10 2) (by omega) (hJ.up (by omega)) (by omega) (by omega) (fun v511 hv511 => ?_)
  show X (EE s) d 26 26 [(0, zr g0 8), (1, zi a1), (2, zi v507)] [zi v511] m _
  refine X.istore_n 27 [(0, zr g0 8), (1, zi a1), (2, zi v507), (3, zi v511)] i26_26 rfl rfl rfl ?_
  refine X.aload_n 28 i26_27 rfl rfl rfl ?_
  refine X.iload_n 29 i26_28 rfl rfl rfl ?_
  refine X.iload_n 30 i26_29 rfl rfl rfl ?_
  refine X.iload_n 31 i26_30 rfl rfl rfl ?_
  refine X.callv 34 [zi a1, zi v507, zi v511] [] [(0, zr g0 8), (1, zi a1), (2, zi v507), (3, zi v511)] i26_31 rfl (by decide) rfl rfl (by omega) rfl rfl (by decide) rfl t35 (Nat.le_of_ble_eq_true rfl) (Nat.le_of_ble_eq_true rfl) rfl ?_
  refine c35_3 (B := B) g0 a1 v507 v511 (by omega) (hJ.up (by omega)) (by omega) (by omega) (by omega) (by omega) (by omega) (fun v514 hv514 hqv5140 hqv5141 hqv5142 => ?_)
  show X (EE s) d 26 34 [(0, zr g0 8), (1, zi a1), (2, zi v507), (3, zi v511)] [zi v514] m _
  refine X.istore 36 [(0, zr g0 8), (1, zi a1), (2, zi v507), (3, zi v511), (4, zi v514)] i26_34 rfl rfl rfl ?_
  refine X.aload_n 37 i26_36 rfl rfl rfl ?_
  refine X.iload 39 i26_37 rfl rfl rfl ?_
  refine X.iload_n 40 i26_39 rfl rfl rfl ?_
  refine X.callv 43 [zi v514, zi v507] [] [(0, zr g0 8), (1, zi v514), (2, zi v507)] i26_40 rfl (by decide) rfl rfl (by omega) rfl rfl (by decide) rfl t49 (Nat.le_of_ble_eq_true rfl) (Nat.le_of_ble_eq_true rfl) rfl ?_
  refine c49_2 (B := B) g0 v514 v507 (by omega) (hJ.up (by omega)) (by omega) (by omega) (by omega) (fun m515 hJ516 km515 => ?_)
  have kkm5150 := km515 0
  have kkm515g0 := km515 g0
  show X (EE s) d 26 43 [(0, zr g0 8), (1, zi a1), (2, zi v507), (3, zi v511), (4, zi v514)] [] m515 _
  refine X.aload_n 44 i26_43 rfl rfl rfl ?_
  refine X.dup 45 i26_44 rfl rfl rfl ?_
  refine X.getIr 48 13 i26_45 rfl rfl (by decide) rfl rfl rfl (fun h518 => ?_)
  refine X.iload 50 i26_48 rfl rfl rfl ?_
  refine X.iiF 51 .iadd (fun x y => x + y) i26_50 rfl rfl rfl (fun _ _ => rfl) (fun z519 hz519 => ?_)
  refine X.putI' 54 13 i26_51 rfl rfl (by decide) rfl rfl rfl (fun hrm520 m520 hm520 => ?_)
  have hJ521 := w8_13 hJ516 hm520 (by omega) hrm520
  have kum520 : m520 g0 8 9 = m515 g0 8 9 := by rw [hm520]; exact z_upd_o _ _ rfl
  refine X.aload_n 55 i26_54 rfl rfl rfl ?_
  refine X.dup 56 i26_55 rfl rfl rfl ?_
  refine X.getI 59 9 i26_56 rfl rfl (by decide) rfl rfl rfl ?_
  have h522 := r8_9 hJ521 g0
  refine X.iload 61 i26_59 rfl rfl rfl ?_
  refine X.iconst 62 i26_61 rfl rfl (by decide) ?_
  refine X.isub 63 i26_62 rfl rfl (by omega) ?_
  refine X.iadd 64 i26_63 rfl rfl (by omega) ?_
  refine X.putI' 67 9 i26_64 rfl rfl (by decide) rfl rfl rfl (fun hrm523 m523 hm523 => ?_)
  have hJ524 := w8_9 hJ521 hm523 (by omega)
  have em523 : m523 g0 8 9 = ((m520 g0 8 9) + (v514 - 1)) := by rw [hm523]; exact z_upd_same _ _ _ _ _
  refine X.aload_n 68 i26_67 rfl rfl rfl ?_
  refine X.callv 71 [] [] [(0, zr g0 8)] i26_68 rfl (by decide) rfl rfl (by omega) rfl rfl (by decide) rfl t53 (Nat.le_of_ble_eq_true rfl) (Nat.le_of_ble_eq_true rfl) rfl ?_
  refine X.aload_n 1 i53_0 rfl rfl rfl ?_
  refine X.getZ 4 11 i53_1 rfl rfl (by decide) rfl rfl rfl (fun h525 => ?_)
  refine X.ifeq 20 7 i53_4 rfl rfl rfl (fun h526 => ?_) (fun h526 => ?_)
  · refine X.iconst 21 i53_20 rfl rfl (by decide) ?_
    refine X.istore_n 22 [(0, zr g0 8), (1, zi 0)] i53_21 rfl rfl rfl ?_
    refine X.iload_n 23 i53_22 rfl rfl rfl ?_
    refine X.aload_n 24 i53_23 rfl rfl rfl ?_
    refine X.getZ 27 12 i53_24 rfl rfl (by decide) rfl rfl rfl (fun h527 => ?_)
    refine X.icmpeq 54 30 i53_27 rfl rfl rfl (fun h528 => ?_) (fun h528 => ?_)
    · refine X.cut [] i53_54 rfl ?_
      refine X.retv i53_54 rfl t53 ?_
      show X (EE s) d 26 71 [(0, zr g0 8), (1, zi a1), (2, zi v507), (3, zi v511), (4, zi v514)] [] m523 _
      refine X.aload_n 72 i26_71 rfl rfl rfl ?_
      refine X.getR 75 i26_72 rfl rfl (by decide) rfl rfl ?_
      refine X.iload 77 i26_75 rfl rfl rfl ?_
      refine X.iload_n 78 i26_77 rfl rfl rfl ?_
      refine X.aload_n 79 i26_78 rfl rfl rfl ?_
      refine X.getR 82 i26_79 rfl rfl (by decide) rfl rfl ?_
      refine X.callv 85 [] [zi v511, zi v514, zr g0 33] [(0, zr g0 9)] i26_82 rfl (by decide) rfl rfl (by omega) rfl rfl (by decide) rfl t38 (Nat.le_of_ble_eq_true rfl) (Nat.le_of_ble_eq_true rfl) rfl ?_
      refine X.aload_n 1 i38_0 rfl rfl rfl ?_
      refine X.getR 4 i38_1 rfl rfl (by decide) rfl rfl ?_
      refine X.iconst 5 i38_4 rfl rfl (by decide) ?_
      refine X.iald 6 i38_5 rfl rfl (by decide) rfl (by omega) ?_
      have h529 := r10_0 hJ524 g0 (i := 3) (by omega)
      refine X.reti i38_6 rfl t38 ?_
      show X (EE s) d 26 85 [(0, zr g0 8), (1, zi a1), (2, zi v507), (3, zi v511), (4, zi v514)] [zi (m523 g0 10 3), zi v511, zi v514, zr g0 33] m523 _
      refine X.aload_n 86 i26_85 rfl rfl rfl ?_
      refine X.getR 89 i26_86 rfl rfl (by decide) rfl rfl ?_
      refine X.aload_n 90 i26_89 rfl rfl rfl ?_
      refine X.getI 93 9 i26_90 rfl rfl (by decide) rfl rfl rfl ?_
      refine X.callv 96 [zi v514, zi v511, zi (m523 g0 10 3), zr g0 37, zi (m523 g0 8 9)] [] [(0, zr g0 33), (1, zi v514), (2, zi v511), (3, zi (m523 g0 10 3)), (4, zr g0 37), (5, zi (m523 g0 8 9))] i26_93 rfl (by decide) rfl rfl (by omega) rfl rfl (by decide) rfl t56 (Nat.le_of_ble_eq_true rfl) (Nat.le_of_ble_eq_true rfl) rfl ?_
      refine c56_2 (B := B) g0 g0 v514 v511 (m523 g0 10 3) (m523 g0 8 9) (by omega) (hJ524.up (by omega)) (by omega) (by omega) (by omega) (by omega) (by omega) (fun m530 hJ531 km530 => ?_)
      have kkm5300 := km530 0
      have kkm530g0 := km530 g0
      show X (EE s) d 26 96 [(0, zr g0 8), (1, zi a1), (2, zi v507), (3, zi v511), (4, zi v514)] [] m530 _
      refine X.aload_n 97 i26_96 rfl rfl rfl ?_
      refine X.getR 100 i26_97 rfl rfl (by decide) rfl rfl ?_
      refine X.iload 102 i26_100 rfl rfl rfl ?_
      refine X.aload_n 103 i26_102 rfl rfl rfl ?_
      refine X.getR 106 i26_103 rfl rfl (by decide) rfl rfl ?_
      refine X.getIr 109 3 i26_106 rfl rfl (by decide) rfl rfl rfl (fun h533 => ?_)
      refine X.callv 112 [zi v514, zi (m530 g0 33 3)] [] [(0, zr g0 27), (1, zi v514), (2, zi (m530 g0 33 3))] i26_109 rfl (by decide) rfl rfl (by omega) rfl rfl (by decide) rfl t58 (Nat.le_of_ble_eq_true rfl) (Nat.le_of_ble_eq_true rfl) rfl ?_
      refine X.aload_n 1 i58_0 rfl rfl rfl ?_
      refine X.dup 2 i58_1 rfl rfl rfl ?_
      refine X.getIr 5 6 i58_2 rfl rfl (by decide) rfl rfl rfl (fun h534 => ?_)
      refine X.iload_n 6 i58_5 rfl rfl rfl ?_
      refine X.iiF 7 .iadd (fun x y => x + y) i58_6 rfl rfl rfl (fun _ _ => rfl) (fun z535 hz535 => ?_)
      refine X.putI' 10 6 i58_7 rfl rfl (by decide) rfl rfl rfl (fun hrm536 m536 hm536 => ?_)
      have hJ537 := w27_3 hJ531 hm536 (by omega) hrm536
      have kum536 : m536 g0 8 9 = m530 g0 8 9 := by rw [hm536]; exact z_upd_o _ _ rfl
      refine X.aload_n 11 i58_10 rfl rfl rfl ?_
      refine X.dup 12 i58_11 rfl rfl rfl ?_
      refine X.getIr 15 8 i58_12 rfl rfl (by decide) rfl rfl rfl (fun h538 => ?_)
      refine X.iload_n 16 i58_15 rfl rfl rfl ?_
      refine X.iiF 17 .ior (fun x y => x ||| y) i58_16 rfl rfl rfl (fun _ _ => rfl) (fun z539 hz539 => ?_)
      refine X.putI' 20 8 i58_17 rfl rfl (by decide) rfl rfl rfl (fun hrm540 m540 hm540 => ?_)
      have hJ541 := w27_3 hJ537 hm540 (by omega) hrm540
      have kum540 : m540 g0 8 9 = m536 g0 8 9 := by rw [hm540]; exact z_upd_o _ _ rfl
      refine X.retv i58_20 rfl t58 ?_
      show X (EE s) d 26 112 [(0, zr g0 8), (1, zi a1), (2, zi v507), (3, zi v511), (4, zi v514)] [] m540 _
      refine X.aload_n 113 i26_112 rfl rfl rfl ?_
      refine X.getI 116 9 i26_113 rfl rfl (by decide) rfl rfl rfl ?_
      have h542 := r8_9 hJ541 g0
      refine X.ldc 118 i26_116 rfl rfl (by decide) ?_
      refine X.icmpge 131 121 i26_118 rfl rfl rfl (fun h543 => ?_) (fun h543 => ?_)
      · refine X.cut [(0, zr g0 8), (2, zi v507), (4, zi v514)] i26_131 rfl ?_
        refine X.aload_n 132 i26_131 rfl rfl rfl ?_
        refine X.iload_n 133 i26_132 rfl rfl rfl ?_
        refine X.callv 136 [zi v507] [] [(0, zr g0 8), (1, zi v507)] i26_133 rfl (by decide) rfl rfl (by omega) rfl rfl (by decide) rfl t59 (Nat.le_of_ble_eq_true rfl) (Nat.le_of_ble_eq_true rfl) rfl ?_
        refine c59_1 (B := B + 6) g0 v507 (by omega) (hJ541.up (by omega)) (by omega) (by omega) (fun m544 hJ545 km544 => ?_)
        have kkm5440 := km544 0
        have kkm544g0 := km544 g0
        show X (EE s) d 26 136 [(0, zr g0 8), (2, zi v507), (4, zi v514)] [] m544 _
        refine X.iload 138 i26_136 rfl rfl rfl ?_
        refine X.reti i26_138 rfl t26 ?_
        exact hQ v514 m544 (by first | trivial | omega) (hJ545.up (by omega))  (by omega) (by omega)
      · refine X.aload_n 122 i26_121 rfl rfl rfl ?_
        refine X.dup 123 i26_122 rfl rfl rfl ?_
        refine X.getI 126 9 i26_123 rfl rfl (by decide) rfl rfl rfl ?_
        refine X.iconst 127 i26_126 rfl rfl (by decide) ?_
        refine X.iadd 128 i26_127 rfl rfl (by omega) ?_
        refine X.putI' 131 9 i26_128 rfl rfl (by decide) rfl rfl rfl (fun hrm547 m547 hm547 => ?_)
        have hJ548 := w8_9 hJ541 hm547 (by omega)
        have em547 : m547 g0 8 9 = ((m540 g0 8 9) + 1) := by rw [hm547]; exact z_upd_same _ _ _ _ _
        refine X.cut [(0, zr g0 8), (2, zi v507), (4, zi v514)] i26_131 rfl ?_
        refine X.aload_n 132 i26_131 rfl rfl rfl ?_
        refine X.iload_n 133 i26_132 rfl rfl rfl ?_
        refine X.callv 136 [zi v507] [] [(0, zr g0 8), (1, zi v507)] i26_133 rfl (by decide) rfl rfl (by omega) rfl rfl (by decide) rfl t59 (Nat.le_of_ble_eq_true rfl) (Nat.le_of_ble_eq_true rfl) rfl ?_
        refine c59_1 (B := B + 6) g0 v507 (by omega) (hJ548.up (by omega)) (by omega) (by omega) (fun m549 hJ550 km549 => ?_)
        have kkm5490 := km549 0
        have kkm549g0 := km549 g0
        show X (EE s) d 26 136 [(0, zr g0 8), (2, zi v507), (4, zi v514)] [] m549 _
        refine X.iload 138 i26_136 rfl rfl rfl ?_
        refine X.reti i26_138 rfl t26 ?_
        exact hQ v514 m549 (by first | trivial | omega) (hJ550.up (by omega))  (by omega) (by omega)
    · refine X.aload_n 31 i53_30 rfl rfl rfl ?_
      refine X.iload_n 32 i53_31 rfl rfl rfl ?_
      refine X.putZ' 35 12 i53_32 rfl rfl (by decide) rfl rfl rfl (by omega) (fun hrm552 m552 hm552 => ?_)
      have hJ553 := w8_12 hJ524 hm552 (by omega)
      have kum552 : m552 g0 8 9 = m523 g0 8 9 := by rw [hm552]; exact z_upd_o _ _ rfl
      refine X.aload_n 36 i53_35 rfl rfl rfl ?_
      refine X.aload_n 37 i53_36 rfl rfl rfl ?_
      refine X.getZ 40 12 i53_37 rfl rfl (by decide) rfl rfl rfl (fun h554 => ?_)
      refine X.ifeq 48 43 i53_40 rfl rfl rfl (fun h555 => ?_) (fun h555 => ?_)
      · refine X.cut [] i53_48 rfl ?_
        refine X.bipush 50 i53_48 rfl rfl (by decide) ?_
        refine X.iconst 51 i53_50 rfl rfl (by decide) ?_
        refine X.callv 54 [zi 23, zi 0] [] [(0, zr g0 8), (1, zi 23), (2, zi 0)] i53_51 rfl (by decide) rfl rfl (by omega) rfl rfl (by decide) rfl t54 (Nat.le_of_ble_eq_true rfl) (Nat.le_of_ble_eq_true rfl) rfl ?_
        refine X.aload_n 1 i54_0 rfl rfl rfl ?_
        refine X.getR 4 i54_1 rfl rfl (by decide) rfl rfl ?_
        refine X.aload_n 5 i54_4 rfl rfl rfl ?_
        refine X.getI 8 9 i54_5 rfl rfl (by decide) rfl rfl rfl ?_
        have h556 := r8_9 hJ553 g0
        refine X.iload_n 9 i54_8 rfl rfl rfl ?_
        refine X.iload_n 10 i54_9 rfl rfl rfl ?_
        refine X.callv 13 [zi (m552 g0 8 9), zi 23, zi 0] [] [(0, zr g0 37), (1, zi (m552 g0 8 9)), (2, zi 23), (3, zi 0)] i54_10 rfl (by decide) rfl rfl (by omega) rfl rfl (by decide) rfl t55 (Nat.le_of_ble_eq_true rfl) (Nat.le_of_ble_eq_true rfl) rfl ?_
        refine X.aload_n 1 i55_0 rfl rfl rfl ?_
        refine X.getI 4 1 i55_1 rfl rfl (by decide) rfl rfl rfl ?_
        have h557 := r37_1 hJ553 g0
        refine X.bipush 6 i55_4 rfl rfl (by decide) ?_
        refine X.irem 7 i55_6 rfl rfl (by omega) ?_
        refine X.iconst 8 i55_7 rfl rfl (by decide) ?_
        refine X.imul 9 i55_8 rfl rfl (by omega) ?_
        refine X.istore 11 [(0, zr g0 37), (1, zi (m552 g0 8 9)), (2, zi 23), (3, zi 0), (4, zi (((m552 g0 37 1) % 40) * 3))] i55_9 rfl rfl rfl ?_
        refine X.aload_n 12 i55_11 rfl rfl rfl ?_
        refine X.getR 15 i55_12 rfl rfl (by decide) rfl rfl ?_
        refine X.iload 17 i55_15 rfl rfl rfl ?_
        refine X.iload_n 18 i55_17 rfl rfl rfl ?_
        refine X.iast' 19 i55_18 rfl rfl (by decide) rfl (by omega) (fun hrm558 m558 hm558 => ?_)
        have hJ559 := w38_0 hJ553 hm558 (by omega) hrm558
        have kum558 : m558 g0 8 9 = m552 g0 8 9 := by rw [hm558]; exact z_upd_o _ _ rfl
        refine X.aload_n 20 i55_19 rfl rfl rfl ?_
        refine X.getR 23 i55_20 rfl rfl (by decide) rfl rfl ?_
        refine X.iload 25 i55_23 rfl rfl rfl ?_
        refine X.iconst 26 i55_25 rfl rfl (by decide) ?_
        refine X.iadd 27 i55_26 rfl rfl (by omega) ?_
        refine X.iload_n 28 i55_27 rfl rfl rfl ?_
        refine X.iast' 29 i55_28 rfl rfl (by decide) rfl (by omega) (fun hrm560 m560 hm560 => ?_)
        have hJ561 := w38_0 hJ559 hm560 (by omega) hrm560
        have kum560 : m560 g0 8 9 = m558 g0 8 9 := by rw [hm560]; exact z_upd_o _ _ rfl
        refine X.aload_n 30 i55_29 rfl rfl rfl ?_
        refine X.getR 33 i55_30 rfl rfl (by decide) rfl rfl ?_
        refine X.iload 35 i55_33 rfl rfl rfl ?_
        refine X.iconst 36 i55_35 rfl rfl (by decide) ?_
        refine X.iadd 37 i55_36 rfl rfl (by omega) ?_
        refine X.iload_n 38 i55_37 rfl rfl rfl ?_
        refine X.iast' 39 i55_38 rfl rfl (by decide) rfl (by omega) (fun hrm562 m562 hm562 => ?_)
        have hJ563 := w38_0 hJ561 hm562 (by omega) hrm562
        have kum562 : m562 g0 8 9 = m560 g0 8 9 := by rw [hm562]; exact z_upd_o _ _ rfl
        refine X.aload_n 40 i55_39 rfl rfl rfl ?_
        refine X.dup 41 i55_40 rfl rfl rfl ?_
        refine X.getI 44 1 i55_41 rfl rfl (by decide) rfl rfl rfl ?_
        have h564 := r37_1 hJ563 g0
        refine X.iconst 45 i55_44 rfl rfl (by decide) ?_
        refine X.iadd 46 i55_45 rfl rfl (by omega) ?_
        refine X.putI' 49 1 i55_46 rfl rfl (by decide) rfl rfl rfl (fun hrm565 m565 hm565 => ?_)
        have hJ566 := w37_1 (hJ563.up (B' := B + 1) (by omega)) hm565 (by omega)
        have kum565 : m565 g0 8 9 = m562 g0 8 9 := by rw [hm565]; exact z_upd_o _ _ rfl
        refine X.retv i55_49 rfl t55 ?_
        show X (EE s) ((d - 1) - 1) 54 13 [(0, zr g0 8), (1, zi 23), (2, zi 0)] [] m565 _
        refine X.retv i54_13 rfl t54 ?_
        show X (EE s) (d - 1) 53 54 [] [] m565 _
        refine X.retv i53_54 rfl t53 ?_
        show X (EE s) d 26 71 [(0, zr g0 8), (1, zi a1), (2, zi v507), (3, zi v511), (4, zi v514)] [] m565 _
        refine X.aload_n 72 i26_71 rfl rfl rfl ?_
        refine X.getR 75 i26_72 rfl rfl (by decide) rfl rfl ?_
        refine X.iload 77 i26_75 rfl rfl rfl ?_
        refine X.iload_n 78 i26_77 rfl rfl rfl ?_
        refine X.aload_n 79 i26_78 rfl rfl rfl ?_
        refine X.getR 82 i26_79 rfl rfl (by decide) rfl rfl ?_
        refine X.callv 85 [] [zi v511, zi v514, zr g0 33] [(0, zr g0 9)] i26_82 rfl (by decide) rfl rfl (by omega) rfl rfl (by decide) rfl t38 (Nat.le_of_ble_eq_true rfl) (Nat.le_of_ble_eq_true rfl) rfl ?_
        refine X.aload_n 1 i38_0 rfl rfl rfl ?_
        refine X.getR 4 i38_1 rfl rfl (by decide) rfl rfl ?_
        refine X.iconst 5 i38_4 rfl rfl (by decide) ?_
        refine X.iald 6 i38_5 rfl rfl (by decide) rfl (by omega) ?_
        have h567 := r10_0 hJ566 g0 (i := 3) (by omega)
        refine X.reti i38_6 rfl t38 ?_
        show X (EE s) d 26 85 [(0, zr g0 8), (1, zi a1), (2, zi v507), (3, zi v511), (4, zi v514)] [zi (m565 g0 10 3), zi v511, zi v514, zr g0 33] m565 _
        refine X.aload_n 86 i26_85 rfl rfl rfl ?_
        refine X.getR 89 i26_86 rfl rfl (by decide) rfl rfl ?_
        refine X.aload_n 90 i26_89 rfl rfl rfl ?_
        refine X.getI 93 9 i26_90 rfl rfl (by decide) rfl rfl rfl ?_
        have h568 := r8_9 hJ566 g0
        refine X.callv 96 [zi v514, zi v511, zi (m565 g0 10 3), zr g0 37, zi (m565 g0 8 9)] [] [(0, zr g0 33), (1, zi v514), (2, zi v511), (3, zi (m565 g0 10 3)), (4, zr g0 37), (5, zi (m565 g0 8 9))] i26_93 rfl (by decide) rfl rfl (by omega) rfl rfl (by decide) rfl t56 (Nat.le_of_ble_eq_true rfl) (Nat.le_of_ble_eq_true rfl) rfl ?_
        refine c56_2 (B := B + 1) g0 g0 v514 v511 (m565 g0 10 3) (m565 g0 8 9) (by omega) (hJ566.up (by omega)) (by omega) (by omega) (by omega) (by omega) (by omega) (fun m569 hJ570 km569 => ?_)
        have kkm5690 := km569 0
        have kkm569g0 := km569 g0
        show X (EE s) d 26 96 [(0, zr g0 8), (1, zi a1), (2, zi v507), (3, zi v511), (4, zi v514)] [] m569 _
        refine X.aload_n 97 i26_96 rfl rfl rfl ?_
        refine X.getR 100 i26_97 rfl rfl (by decide) rfl rfl ?_
        refine X.iload 102 i26_100 rfl rfl rfl ?_
        refine X.aload_n 103 i26_102 rfl rfl rfl ?_
        refine X.getR 106 i26_103 rfl rfl (by decide) rfl rfl ?_
        refine X.getIr 109 3 i26_106 rfl rfl (by decide) rfl rfl rfl (fun h572 => ?_)
        refine X.callv 112 [zi v514, zi (m569 g0 33 3)] [] [(0, zr g0 27), (1, zi v514), (2, zi (m569 g0 33 3))] i26_109 rfl (by decide) rfl rfl (by omega) rfl rfl (by decide) rfl t58 (Nat.le_of_ble_eq_true rfl) (Nat.le_of_ble_eq_true rfl) rfl ?_
        refine X.aload_n 1 i58_0 rfl rfl rfl ?_
        refine X.dup 2 i58_1 rfl rfl rfl ?_
        refine X.getIr 5 6 i58_2 rfl rfl (by decide) rfl rfl rfl (fun h573 => ?_)
        refine X.iload_n 6 i58_5 rfl rfl rfl ?_
        refine X.iiF 7 .iadd (fun x y => x + y) i58_6 rfl rfl rfl (fun _ _ => rfl) (fun z574 hz574 => ?_)
        refine X.putI' 10 6 i58_7 rfl rfl (by decide) rfl rfl rfl (fun hrm575 m575 hm575 => ?_)
        have hJ576 := w27_3 hJ570 hm575 (by omega) hrm575
        have kum575 : m575 g0 8 9 = m569 g0 8 9 := by rw [hm575]; exact z_upd_o _ _ rfl
        refine X.aload_n 11 i58_10 rfl rfl rfl ?_
        refine X.dup 12 i58_11 rfl rfl rfl ?_
        refine X.getIr 15 8 i58_12 rfl rfl (by decide) rfl rfl rfl (fun h577 => ?_)
        refine X.iload_n 16 i58_15 rfl rfl rfl ?_
        refine X.iiF 17 .ior (fun x y => x ||| y) i58_16 rfl rfl rfl (fun _ _ => rfl) (fun z578 hz578 => ?_)
        refine X.putI' 20 8 i58_17 rfl rfl (by decide) rfl rfl rfl (fun hrm579 m579 hm579 => ?_)
        have hJ580 := w27_3 hJ576 hm579 (by omega) hrm579
        have kum579 : m579 g0 8 9 = m575 g0 8 9 := by rw [hm579]; exact z_upd_o _ _ rfl
        refine X.retv i58_20 rfl t58 ?_
        show X (EE s) d 26 112 [(0, zr g0 8), (1, zi a1), (2, zi v507), (3, zi v511), (4, zi v514)] [] m579 _
        refine X.aload_n 113 i26_112 rfl rfl rfl ?_
        refine X.getI 116 9 i26_113 rfl rfl (by decide) rfl rfl rfl ?_
        have h581 := r8_9 hJ580 g0
        refine X.ldc 118 i26_116 rfl rfl (by decide) ?_
        refine X.icmpge 131 121 i26_118 rfl rfl rfl (fun h582 => ?_) (fun h582 => ?_)
        · refine X.cut [(0, zr g0 8), (2, zi v507), (4, zi v514)] i26_131 rfl ?_
          refine X.aload_n 132 i26_131 rfl rfl rfl ?_
          refine X.iload_n 133 i26_132 rfl rfl rfl ?_
          refine X.callv 136 [zi v507] [] [(0, zr g0 8), (1, zi v507)] i26_133 rfl (by decide) rfl rfl (by omega) rfl rfl (by decide) rfl t59 (Nat.le_of_ble_eq_true rfl) (Nat.le_of_ble_eq_true rfl) rfl ?_
          refine c59_1 (B := B + 7) g0 v507 (by omega) (hJ580.up (by omega)) (by omega) (by omega) (fun m583 hJ584 km583 => ?_)
          have kkm5830 := km583 0
          have kkm583g0 := km583 g0
          show X (EE s) d 26 136 [(0, zr g0 8), (2, zi v507), (4, zi v514)] [] m583 _
          refine X.iload 138 i26_136 rfl rfl rfl ?_
          refine X.reti i26_138 rfl t26 ?_
          exact hQ v514 m583 (by first | trivial | omega) (hJ584.up (by omega))  (by omega) (by omega)
        · refine X.aload_n 122 i26_121 rfl rfl rfl ?_
          refine X.dup 123 i26_122 rfl rfl rfl ?_
          refine X.getI 126 9 i26_123 rfl rfl (by decide) rfl rfl rfl ?_
          refine X.iconst 127 i26_126 rfl rfl (by decide) ?_
          refine X.iadd 128 i26_127 rfl rfl (by omega) ?_
          refine X.putI' 131 9 i26_128 rfl rfl (by decide) rfl rfl rfl (fun hrm586 m586 hm586 => ?_)
          have hJ587 := w8_9 hJ580 hm586 (by omega)
          have em586 : m586 g0 8 9 = ((m579 g0 8 9) + 1) := by rw [hm586]; exact z_upd_same _ _ _ _ _
          refine X.cut [(0, zr g0 8), (2, zi v507), (4, zi v514)] i26_131 rfl ?_
          refine X.aload_n 132 i26_131 rfl rfl rfl ?_
          refine X.iload_n 133 i26_132 rfl rfl rfl ?_
          refine X.callv 136 [zi v507] [] [(0, zr g0 8), (1, zi v507)] i26_133 rfl (by decide) rfl rfl (by omega) rfl rfl (by decide) rfl t59 (Nat.le_of_ble_eq_true rfl) (Nat.le_of_ble_eq_true rfl) rfl ?_
          refine c59_1 (B := B + 7) g0 v507 (by omega) (hJ587.up (by omega)) (by omega) (by omega) (fun m588 hJ589 km588 => ?_)
          have kkm5880 := km588 0
          have kkm588g0 := km588 g0
          show X (EE s) d 26 136 [(0, zr g0 8), (2, zi v507), (4, zi v514)] [] m588 _
          refine X.iload 138 i26_136 rfl rfl rfl ?_
          refine X.reti i26_138 rfl t26 ?_
          exact hQ v514 m588 (by first | trivial | omega) (hJ589.up (by omega))  (by omega) (by omega)
      · refine X.bipush 45 i53_43 rfl rfl (by decide) ?_
        refine X.goto 50 i53_45 rfl rfl ?_
        refine X.cut [] i53_50 rfl ?_
        refine X.iconst 51 i53_50 rfl rfl (by decide) ?_
        refine X.callv 54 [zi 22, zi 0] [] [(0, zr g0 8), (1, zi 22), (2, zi 0)] i53_51 rfl (by decide) rfl rfl (by omega) rfl rfl (by decide) rfl t54 (Nat.le_of_ble_eq_true rfl) (Nat.le_of_ble_eq_true rfl) rfl ?_
        refine X.aload_n 1 i54_0 rfl rfl rfl ?_
        refine X.getR 4 i54_1 rfl rfl (by decide) rfl rfl ?_
        refine X.aload_n 5 i54_4 rfl rfl rfl ?_
        refine X.getI 8 9 i54_5 rfl rfl (by decide) rfl rfl rfl ?_
        have h591 := r8_9 hJ553 g0
        refine X.iload_n 9 i54_8 rfl rfl rfl ?_
        refine X.iload_n 10 i54_9 rfl rfl rfl ?_
        refine X.callv 13 [zi (m552 g0 8 9), zi 22, zi 0] [] [(0, zr g0 37), (1, zi (m552 g0 8 9)), (2, zi 22), (3, zi 0)] i54_10 rfl (by decide) rfl rfl (by omega) rfl rfl (by decide) rfl t55 (Nat.le_of_ble_eq_true rfl) (Nat.le_of_ble_eq_true rfl) rfl ?_
        refine X.aload_n 1 i55_0 rfl rfl rfl ?_
        refine X.getI 4 1 i55_1 rfl rfl (by decide) rfl rfl rfl ?_
        have h592 := r37_1 hJ553 g0
        refine X.bipush 6 i55_4 rfl rfl (by decide) ?_
        refine X.irem 7 i55_6 rfl rfl (by omega) ?_
        refine X.iconst 8 i55_7 rfl rfl (by decide) ?_
        refine X.imul 9 i55_8 rfl rfl (by omega) ?_
        refine X.istore 11 [(0, zr g0 37), (1, zi (m552 g0 8 9)), (2, zi 22), (3, zi 0), (4, zi (((m552 g0 37 1) % 40) * 3))] i55_9 rfl rfl rfl ?_
        refine X.aload_n 12 i55_11 rfl rfl rfl ?_
        refine X.getR 15 i55_12 rfl rfl (by decide) rfl rfl ?_
        refine X.iload 17 i55_15 rfl rfl rfl ?_
        refine X.iload_n 18 i55_17 rfl rfl rfl ?_
        refine X.iast' 19 i55_18 rfl rfl (by decide) rfl (by omega) (fun hrm593 m593 hm593 => ?_)
        have hJ594 := w38_0 hJ553 hm593 (by omega) hrm593
        have kum593 : m593 g0 8 9 = m552 g0 8 9 := by rw [hm593]; exact z_upd_o _ _ rfl
        refine X.aload_n 20 i55_19 rfl rfl rfl ?_
        refine X.getR 23 i55_20 rfl rfl (by decide) rfl rfl ?_
        refine X.iload 25 i55_23 rfl rfl rfl ?_
        refine X.iconst 26 i55_25 rfl rfl (by decide) ?_
        refine X.iadd 27 i55_26 rfl rfl (by omega) ?_
        refine X.iload_n 28 i55_27 rfl rfl rfl ?_
        refine X.iast' 29 i55_28 rfl rfl (by decide) rfl (by omega) (fun hrm595 m595 hm595 => ?_)
        have hJ596 := w38_0 hJ594 hm595 (by omega) hrm595
        have kum595 : m595 g0 8 9 = m593 g0 8 9 := by rw [hm595]; exact z_upd_o _ _ rfl
        refine X.aload_n 30 i55_29 rfl rfl rfl ?_
        refine X.getR 33 i55_30 rfl rfl (by decide) rfl rfl ?_
        refine X.iload 35 i55_33 rfl rfl rfl ?_
        refine X.iconst 36 i55_35 rfl rfl (by decide) ?_
        refine X.iadd 37 i55_36 rfl rfl (by omega) ?_
        refine X.iload_n 38 i55_37 rfl rfl rfl ?_
        refine X.iast' 39 i55_38 rfl rfl (by decide) rfl (by omega) (fun hrm597 m597 hm597 => ?_)
        have hJ598 := w38_0 hJ596 hm597 (by omega) hrm597
        have kum597 : m597 g0 8 9 = m595 g0 8 9 := by rw [hm597]; exact z_upd_o _ _ rfl
        refine X.aload_n 40 i55_39 rfl rfl rfl ?_
        refine X.dup 41 i55_40 rfl rfl rfl ?_
        refine X.getI 44 1 i55_41 rfl rfl (by decide) rfl rfl rfl ?_
        have h599 := r37_1 hJ598 g0
        refine X.iconst 45 i55_44 rfl rfl (by decide) ?_
        refine X.iadd 46 i55_45 rfl rfl (by omega) ?_
        refine X.putI' 49 1 i55_46 rfl rfl (by decide) rfl rfl rfl (fun hrm600 m600 hm600 => ?_)
        have hJ601 := w37_1 (hJ598.up (B' := B + 1) (by omega)) hm600 (by omega)
        have kum600 : m600 g0 8 9 = m597 g0 8 9 := by rw [hm600]; exact z_upd_o _ _ rfl
        refine X.retv i55_49 rfl t55 ?_
        show X (EE s) ((d - 1) - 1) 54 13 [(0, zr g0 8), (1, zi 22), (2, zi 0)] [] m600 _
        refine X.retv i54_13 rfl t54 ?_
        show X (EE s) (d - 1) 53 54 [] [] m600 _
        refine X.retv i53_54 rfl t53 ?_
        show X (EE s) d 26 71 [(0, zr g0 8), (1, zi a1), (2, zi v507), (3, zi v511), (4, zi v514)] [] m600 _
        refine X.aload_n 72 i26_71 rfl rfl rfl ?_
        refine X.getR 75 i26_72 rfl rfl (by decide) rfl rfl ?_
        refine X.iload 77 i26_75 rfl rfl rfl ?_
        refine X.iload_n 78 i26_77 rfl rfl rfl ?_
        refine X.aload_n 79 i26_78 rfl rfl rfl ?_
        refine X.getR 82 i26_79 rfl rfl (by decide) rfl rfl ?_
        refine X.callv 85 [] [zi v511, zi v514, zr g0 33] [(0, zr g0 9)] i26_82 rfl (by decide) rfl rfl (by omega) rfl rfl (by decide) rfl t38 (Nat.le_of_ble_eq_true rfl) (Nat.le_of_ble_eq_true rfl) rfl ?_
        refine X.aload_n 1 i38_0 rfl rfl rfl ?_
        refine X.getR 4 i38_1 rfl rfl (by decide) rfl rfl ?_
        refine X.iconst 5 i38_4 rfl rfl (by decide) ?_
        refine X.iald 6 i38_5 rfl rfl (by decide) rfl (by omega) ?_
        have h602 := r10_0 hJ601 g0 (i := 3) (by omega)
        refine X.reti i38_6 rfl t38 ?_
        show X (EE s) d 26 85 [(0, zr g0 8), (1, zi a1), (2, zi v507), (3, zi v511), (4, zi v514)] [zi (m600 g0 10 3), zi v511, zi v514, zr g0 33] m600 _
        refine X.aload_n 86 i26_85 rfl rfl rfl ?_
        refine X.getR 89 i26_86 rfl rfl (by decide) rfl rfl ?_
        refine X.aload_n 90 i26_89 rfl rfl rfl ?_
        refine X.getI 93 9 i26_90 rfl rfl (by decide) rfl rfl rfl ?_
        have h603 := r8_9 hJ601 g0
        refine X.callv 96 [zi v514, zi v511, zi (m600 g0 10 3), zr g0 37, zi (m600 g0 8 9)] [] [(0, zr g0 33), (1, zi v514), (2, zi v511), (3, zi (m600 g0 10 3)), (4, zr g0 37), (5, zi (m600 g0 8 9))] i26_93 rfl (by decide) rfl rfl (by omega) rfl rfl (by decide) rfl t56 (Nat.le_of_ble_eq_true rfl) (Nat.le_of_ble_eq_true rfl) rfl ?_
        refine c56_2 (B := B + 1) g0 g0 v514 v511 (m600 g0 10 3) (m600 g0 8 9) (by omega) (hJ601.up (by omega)) (by omega) (by omega) (by omega) (by omega) (by omega) (fun m604 hJ605 km604 => ?_)
        have kkm6040 := km604 0
        have kkm604g0 := km604 g0
        show X (EE s) d 26 96 [(0, zr g0 8), (1, zi a1), (2, zi v507), (3, zi v511), (4, zi v514)] [] m604 _
        refine X.aload_n 97 i26_96 rfl rfl rfl ?_
        refine X.getR 100 i26_97 rfl rfl (by decide) rfl rfl ?_
        refine X.iload 102 i26_100 rfl rfl rfl ?_
        refine X.aload_n 103 i26_102 rfl rfl rfl ?_
        refine X.getR 106 i26_103 rfl rfl (by decide) rfl rfl ?_
        refine X.getIr 109 3 i26_106 rfl rfl (by decide) rfl rfl rfl (fun h607 => ?_)
        refine X.callv 112 [zi v514, zi (m604 g0 33 3)] [] [(0, zr g0 27), (1, zi v514), (2, zi (m604 g0 33 3))] i26_109 rfl (by decide) rfl rfl (by omega) rfl rfl (by decide) rfl t58 (Nat.le_of_ble_eq_true rfl) (Nat.le_of_ble_eq_true rfl) rfl ?_
        refine X.aload_n 1 i58_0 rfl rfl rfl ?_
        refine X.dup 2 i58_1 rfl rfl rfl ?_
        refine X.getIr 5 6 i58_2 rfl rfl (by decide) rfl rfl rfl (fun h608 => ?_)
        refine X.iload_n 6 i58_5 rfl rfl rfl ?_
        refine X.iiF 7 .iadd (fun x y => x + y) i58_6 rfl rfl rfl (fun _ _ => rfl) (fun z609 hz609 => ?_)
        refine X.putI' 10 6 i58_7 rfl rfl (by decide) rfl rfl rfl (fun hrm610 m610 hm610 => ?_)
        have hJ611 := w27_3 hJ605 hm610 (by omega) hrm610
        have kum610 : m610 g0 8 9 = m604 g0 8 9 := by rw [hm610]; exact z_upd_o _ _ rfl
        refine X.aload_n 11 i58_10 rfl rfl rfl ?_
        refine X.dup 12 i58_11 rfl rfl rfl ?_
        refine X.getIr 15 8 i58_12 rfl rfl (by decide) rfl rfl rfl (fun h612 => ?_)
        refine X.iload_n 16 i58_15 rfl rfl rfl ?_
        refine X.iiF 17 .ior (fun x y => x ||| y) i58_16 rfl rfl rfl (fun _ _ => rfl) (fun z613 hz613 => ?_)
        refine X.putI' 20 8 i58_17 rfl rfl (by decide) rfl rfl rfl (fun hrm614 m614 hm614 => ?_)
        have hJ615 := w27_3 hJ611 hm614 (by omega) hrm614
        have kum614 : m614 g0 8 9 = m610 g0 8 9 := by rw [hm614]; exact z_upd_o _ _ rfl
        refine X.retv i58_20 rfl t58 ?_
        show X (EE s) d 26 112 [(0, zr g0 8), (1, zi a1), (2, zi v507), (3, zi v511), (4, zi v514)] [] m614 _
        refine X.aload_n 113 i26_112 rfl rfl rfl ?_
        refine X.getI 116 9 i26_113 rfl rfl (by decide) rfl rfl rfl ?_
        have h616 := r8_9 hJ615 g0
        refine X.ldc 118 i26_116 rfl rfl (by decide) ?_
        refine X.icmpge 131 121 i26_118 rfl rfl rfl (fun h617 => ?_) (fun h617 => ?_)
        · refine X.cut [(0, zr g0 8), (2, zi v507), (4, zi v514)] i26_131 rfl ?_
          refine X.aload_n 132 i26_131 rfl rfl rfl ?_
          refine X.iload_n 133 i26_132 rfl rfl rfl ?_
          refine X.callv 136 [zi v507] [] [(0, zr g0 8), (1, zi v507)] i26_133 rfl (by decide) rfl rfl (by omega) rfl rfl (by decide) rfl t59 (Nat.le_of_ble_eq_true rfl) (Nat.le_of_ble_eq_true rfl) rfl ?_
          refine c59_1 (B := B + 7) g0 v507 (by omega) (hJ615.up (by omega)) (by omega) (by omega) (fun m618 hJ619 km618 => ?_)
          have kkm6180 := km618 0
          have kkm618g0 := km618 g0
          show X (EE s) d 26 136 [(0, zr g0 8), (2, zi v507), (4, zi v514)] [] m618 _
          refine X.iload 138 i26_136 rfl rfl rfl ?_
          refine X.reti i26_138 rfl t26 ?_
          exact hQ v514 m618 (by first | trivial | omega) (hJ619.up (by omega))  (by omega) (by omega)
        · refine X.aload_n 122 i26_121 rfl rfl rfl ?_
          refine X.dup 123 i26_122 rfl rfl rfl ?_
          refine X.getI 126 9 i26_123 rfl rfl (by decide) rfl rfl rfl ?_
          refine X.iconst 127 i26_126 rfl rfl (by decide) ?_
          refine X.iadd 128 i26_127 rfl rfl (by omega) ?_
          refine X.putI' 131 9 i26_128 rfl rfl (by decide) rfl rfl rfl (fun hrm621 m621 hm621 => ?_)
          have hJ622 := w8_9 hJ615 hm621 (by omega)
          have em621 : m621 g0 8 9 = ((m614 g0 8 9) + 1) := by rw [hm621]; exact z_upd_same _ _ _ _ _
          refine X.cut [(0, zr g0 8), (2, zi v507), (4, zi v514)] i26_131 rfl ?_
          refine X.aload_n 132 i26_131 rfl rfl rfl ?_
          refine X.iload_n 133 i26_132 rfl rfl rfl ?_
          refine X.callv 136 [zi v507] [] [(0, zr g0 8), (1, zi v507)] i26_133 rfl (by decide) rfl rfl (by omega) rfl rfl (by decide) rfl t59 (Nat.le_of_ble_eq_true rfl) (Nat.le_of_ble_eq_true rfl) rfl ?_
          refine c59_1 (B := B + 7) g0 v507 (by omega) (hJ622.up (by omega)) (by omega) (by omega) (fun m623 hJ624 km623 => ?_)
          have kkm6230 := km623 0
          have kkm623g0 := km623 g0
          show X (EE s) d 26 136 [(0, zr g0 8), (2, zi v507), (4, zi v514)] [] m623 _
          refine X.iload 138 i26_136 rfl rfl rfl ?_
          refine X.reti i26_138 rfl t26 ?_
          exact hQ v514 m623 (by first | trivial | omega) (hJ624.up (by omega))  (by omega) (by omega)
  · refine X.aload_n 8 i53_7 rfl rfl rfl ?_
    refine X.getL 11 10 i53_8 rfl rfl (by decide) rfl rfl rfl ?_
    refine X.lconst (y := 0) 12 i53_11 rfl rfl rfl ?_
    refine X.lcmp 13 i53_12 rfl rfl (fun z626 hz626 => ?_)
    refine X.ifgt 20 16 i53_13 rfl rfl rfl (fun h627 => ?_) (fun h627 => ?_)
    · have h627c : (m523 g0 8 10) > 0 := by omega
      clear h627 hz626
      refine X.iconst 21 i53_20 rfl rfl (by decide) ?_
      refine X.istore_n 22 [(0, zr g0 8), (1, zi 0)] i53_21 rfl rfl rfl ?_
      refine X.iload_n 23 i53_22 rfl rfl rfl ?_
      refine X.aload_n 24 i53_23 rfl rfl rfl ?_
      refine X.getZ 27 12 i53_24 rfl rfl (by decide) rfl rfl rfl (fun h628 => ?_)
      refine X.icmpeq 54 30 i53_27 rfl rfl rfl (fun h629 => ?_) (fun h629 => ?_)
      · refine X.cut [] i53_54 rfl ?_
        refine X.retv i53_54 rfl t53 ?_
        show X (EE s) d 26 71 [(0, zr g0 8), (1, zi a1), (2, zi v507), (3, zi v511), (4, zi v514)] [] m523 _
        refine X.aload_n 72 i26_71 rfl rfl rfl ?_
        refine X.getR 75 i26_72 rfl rfl (by decide) rfl rfl ?_
        refine X.iload 77 i26_75 rfl rfl rfl ?_
        refine X.iload_n 78 i26_77 rfl rfl rfl ?_
        refine X.aload_n 79 i26_78 rfl rfl rfl ?_
        refine X.getR 82 i26_79 rfl rfl (by decide) rfl rfl ?_
        refine X.callv 85 [] [zi v511, zi v514, zr g0 33] [(0, zr g0 9)] i26_82 rfl (by decide) rfl rfl (by omega) rfl rfl (by decide) rfl t38 (Nat.le_of_ble_eq_true rfl) (Nat.le_of_ble_eq_true rfl) rfl ?_
        refine X.aload_n 1 i38_0 rfl rfl rfl ?_
        refine X.getR 4 i38_1 rfl rfl (by decide) rfl rfl ?_
        refine X.iconst 5 i38_4 rfl rfl (by decide) ?_
        refine X.iald 6 i38_5 rfl rfl (by decide) rfl (by omega) ?_
        have h630 := r10_0 hJ524 g0 (i := 3) (by omega)
        refine X.reti i38_6 rfl t38 ?_
        show X (EE s) d 26 85 [(0, zr g0 8), (1, zi a1), (2, zi v507), (3, zi v511), (4, zi v514)] [zi (m523 g0 10 3), zi v511, zi v514, zr g0 33] m523 _
        refine X.aload_n 86 i26_85 rfl rfl rfl ?_
        refine X.getR 89 i26_86 rfl rfl (by decide) rfl rfl ?_
        refine X.aload_n 90 i26_89 rfl rfl rfl ?_
        refine X.getI 93 9 i26_90 rfl rfl (by decide) rfl rfl rfl ?_
        refine X.callv 96 [zi v514, zi v511, zi (m523 g0 10 3), zr g0 37, zi (m523 g0 8 9)] [] [(0, zr g0 33), (1, zi v514), (2, zi v511), (3, zi (m523 g0 10 3)), (4, zr g0 37), (5, zi (m523 g0 8 9))] i26_93 rfl (by decide) rfl rfl (by omega) rfl rfl (by decide) rfl t56 (Nat.le_of_ble_eq_true rfl) (Nat.le_of_ble_eq_true rfl) rfl ?_
        refine c56_2 (B := B) g0 g0 v514 v511 (m523 g0 10 3) (m523 g0 8 9) (by omega) (hJ524.up (by omega)) (by omega) (by omega) (by omega) (by omega) (by omega) (fun m631 hJ632 km631 => ?_)
        have kkm6310 := km631 0
        have kkm631g0 := km631 g0
        show X (EE s) d 26 96 [(0, zr g0 8), (1, zi a1), (2, zi v507), (3, zi v511), (4, zi v514)] [] m631 _
        refine X.aload_n 97 i26_96 rfl rfl rfl ?_
        refine X.getR 100 i26_97 rfl rfl (by decide) rfl rfl ?_
        refine X.iload 102 i26_100 rfl rfl rfl ?_
        refine X.aload_n 103 i26_102 rfl rfl rfl ?_
        refine X.getR 106 i26_103 rfl rfl (by decide) rfl rfl ?_
        refine X.getIr 109 3 i26_106 rfl rfl (by decide) rfl rfl rfl (fun h634 => ?_)
        refine X.callv 112 [zi v514, zi (m631 g0 33 3)] [] [(0, zr g0 27), (1, zi v514), (2, zi (m631 g0 33 3))] i26_109 rfl (by decide) rfl rfl (by omega) rfl rfl (by decide) rfl t58 (Nat.le_of_ble_eq_true rfl) (Nat.le_of_ble_eq_true rfl) rfl ?_
        refine X.aload_n 1 i58_0 rfl rfl rfl ?_
        refine X.dup 2 i58_1 rfl rfl rfl ?_
        refine X.getIr 5 6 i58_2 rfl rfl (by decide) rfl rfl rfl (fun h635 => ?_)
        refine X.iload_n 6 i58_5 rfl rfl rfl ?_
        refine X.iiF 7 .iadd (fun x y => x + y) i58_6 rfl rfl rfl (fun _ _ => rfl) (fun z636 hz636 => ?_)
        refine X.putI' 10 6 i58_7 rfl rfl (by decide) rfl rfl rfl (fun hrm637 m637 hm637 => ?_)
        have hJ638 := w27_3 hJ632 hm637 (by omega) hrm637
        have kum637 : m637 g0 8 9 = m631 g0 8 9 := by rw [hm637]; exact z_upd_o _ _ rfl
        refine X.aload_n 11 i58_10 rfl rfl rfl ?_
        refine X.dup 12 i58_11 rfl rfl rfl ?_
        refine X.getIr 15 8 i58_12 rfl rfl (by decide) rfl rfl rfl (fun h639 => ?_)
        refine X.iload_n 16 i58_15 rfl rfl rfl ?_
        refine X.iiF 17 .ior (fun x y => x ||| y) i58_16 rfl rfl rfl (fun _ _ => rfl) (fun z640 hz640 => ?_)
        refine X.putI' 20 8 i58_17 rfl rfl (by decide) rfl rfl rfl (fun hrm641 m641 hm641 => ?_)
        have hJ642 := w27_3 hJ638 hm641 (by omega) hrm641
        have kum641 : m641 g0 8 9 = m637 g0 8 9 := by rw [hm641]; exact z_upd_o _ _ rfl
        refine X.retv i58_20 rfl t58 ?_
        show X (EE s) d 26 112 [(0, zr g0 8), (1, zi a1), (2, zi v507), (3, zi v511), (4, zi v514)] [] m641 _
        refine X.aload_n 113 i26_112 rfl rfl rfl ?_
        refine X.getI 116 9 i26_113 rfl rfl (by decide) rfl rfl rfl ?_
        have h643 := r8_9 hJ642 g0
        refine X.ldc 118 i26_116 rfl rfl (by decide) ?_
        refine X.icmpge 131 121 i26_118 rfl rfl rfl (fun h644 => ?_) (fun h644 => ?_)
        · refine X.cut [(0, zr g0 8), (2, zi v507), (4, zi v514)] i26_131 rfl ?_
          refine X.aload_n 132 i26_131 rfl rfl rfl ?_
          refine X.iload_n 133 i26_132 rfl rfl rfl ?_
          refine X.callv 136 [zi v507] [] [(0, zr g0 8), (1, zi v507)] i26_133 rfl (by decide) rfl rfl (by omega) rfl rfl (by decide) rfl t59 (Nat.le_of_ble_eq_true rfl) (Nat.le_of_ble_eq_true rfl) rfl ?_
          refine c59_1 (B := B + 6) g0 v507 (by omega) (hJ642.up (by omega)) (by omega) (by omega) (fun m645 hJ646 km645 => ?_)
          have kkm6450 := km645 0
          have kkm645g0 := km645 g0
          show X (EE s) d 26 136 [(0, zr g0 8), (2, zi v507), (4, zi v514)] [] m645 _
          refine X.iload 138 i26_136 rfl rfl rfl ?_
          refine X.reti i26_138 rfl t26 ?_
          exact hQ v514 m645 (by first | trivial | omega) (hJ646.up (by omega))  (by omega) (by omega)
        · refine X.aload_n 122 i26_121 rfl rfl rfl ?_
          refine X.dup 123 i26_122 rfl rfl rfl ?_
          refine X.getI 126 9 i26_123 rfl rfl (by decide) rfl rfl rfl ?_
          refine X.iconst 127 i26_126 rfl rfl (by decide) ?_
          refine X.iadd 128 i26_127 rfl rfl (by omega) ?_
          refine X.putI' 131 9 i26_128 rfl rfl (by decide) rfl rfl rfl (fun hrm648 m648 hm648 => ?_)
          have hJ649 := w8_9 hJ642 hm648 (by omega)
          have em648 : m648 g0 8 9 = ((m641 g0 8 9) + 1) := by rw [hm648]; exact z_upd_same _ _ _ _ _
          refine X.cut [(0, zr g0 8), (2, zi v507), (4, zi v514)] i26_131 rfl ?_
          refine X.aload_n 132 i26_131 rfl rfl rfl ?_
          refine X.iload_n 133 i26_132 rfl rfl rfl ?_
          refine X.callv 136 [zi v507] [] [(0, zr g0 8), (1, zi v507)] i26_133 rfl (by decide) rfl rfl (by omega) rfl rfl (by decide) rfl t59 (Nat.le_of_ble_eq_true rfl) (Nat.le_of_ble_eq_true rfl) rfl ?_
          refine c59_1 (B := B + 6) g0 v507 (by omega) (hJ649.up (by omega)) (by omega) (by omega) (fun m650 hJ651 km650 => ?_)
          have kkm6500 := km650 0
          have kkm650g0 := km650 g0
          show X (EE s) d 26 136 [(0, zr g0 8), (2, zi v507), (4, zi v514)] [] m650 _
          refine X.iload 138 i26_136 rfl rfl rfl ?_
          refine X.reti i26_138 rfl t26 ?_
          exact hQ v514 m650 (by first | trivial | omega) (hJ651.up (by omega))  (by omega) (by omega)
      · refine X.aload_n 31 i53_30 rfl rfl rfl ?_
        refine X.iload_n 32 i53_31 rfl rfl rfl ?_
        refine X.putZ' 35 12 i53_32 rfl rfl (by decide) rfl rfl rfl (by omega) (fun hrm653 m653 hm653 => ?_)
        have hJ654 := w8_12 hJ524 hm653 (by omega)
        have kum653 : m653 g0 8 9 = m523 g0 8 9 := by rw [hm653]; exact z_upd_o _ _ rfl
        refine X.aload_n 36 i53_35 rfl rfl rfl ?_
        refine X.aload_n 37 i53_36 rfl rfl rfl ?_
        refine X.getZ 40 12 i53_37 rfl rfl (by decide) rfl rfl rfl (fun h655 => ?_)
        refine X.ifeq 48 43 i53_40 rfl rfl rfl (fun h656 => ?_) (fun h656 => ?_)
        · refine X.cut [] i53_48 rfl ?_
          refine X.bipush 50 i53_48 rfl rfl (by decide) ?_
          refine X.iconst 51 i53_50 rfl rfl (by decide) ?_
          refine X.callv 54 [zi 23, zi 0] [] [(0, zr g0 8), (1, zi 23), (2, zi 0)] i53_51 rfl (by decide) rfl rfl (by omega) rfl rfl (by decide) rfl t54 (Nat.le_of_ble_eq_true rfl) (Nat.le_of_ble_eq_true rfl) rfl ?_
          refine X.aload_n 1 i54_0 rfl rfl rfl ?_
          refine X.getR 4 i54_1 rfl rfl (by decide) rfl rfl ?_
          refine X.aload_n 5 i54_4 rfl rfl rfl ?_
          refine X.getI 8 9 i54_5 rfl rfl (by decide) rfl rfl rfl ?_
          have h657 := r8_9 hJ654 g0
          refine X.iload_n 9 i54_8 rfl rfl rfl ?_
          refine X.iload_n 10 i54_9 rfl rfl rfl ?_
          refine X.callv 13 [zi (m653 g0 8 9), zi 23, zi 0] [] [(0, zr g0 37), (1, zi (m653 g0 8 9)), (2, zi 23), (3, zi 0)] i54_10 rfl (by decide) rfl rfl (by omega) rfl rfl (by decide) rfl t55 (Nat.le_of_ble_eq_true rfl) (Nat.le_of_ble_eq_true rfl) rfl ?_
          refine X.aload_n 1 i55_0 rfl rfl rfl ?_
          refine X.getI 4 1 i55_1 rfl rfl (by decide) rfl rfl rfl ?_
          have h658 := r37_1 hJ654 g0
          refine X.bipush 6 i55_4 rfl rfl (by decide) ?_
          refine X.irem 7 i55_6 rfl rfl (by omega) ?_
          refine X.iconst 8 i55_7 rfl rfl (by decide) ?_
          refine X.imul 9 i55_8 rfl rfl (by omega) ?_
          refine X.istore 11 [(0, zr g0 37), (1, zi (m653 g0 8 9)), (2, zi 23), (3, zi 0), (4, zi (((m653 g0 37 1) % 40) * 3))] i55_9 rfl rfl rfl ?_
          refine X.aload_n 12 i55_11 rfl rfl rfl ?_
          refine X.getR 15 i55_12 rfl rfl (by decide) rfl rfl ?_
          refine X.iload 17 i55_15 rfl rfl rfl ?_
          refine X.iload_n 18 i55_17 rfl rfl rfl ?_
          refine X.iast' 19 i55_18 rfl rfl (by decide) rfl (by omega) (fun hrm659 m659 hm659 => ?_)
          have hJ660 := w38_0 hJ654 hm659 (by omega) hrm659
          have kum659 : m659 g0 8 9 = m653 g0 8 9 := by rw [hm659]; exact z_upd_o _ _ rfl
          refine X.aload_n 20 i55_19 rfl rfl rfl ?_
          refine X.getR 23 i55_20 rfl rfl (by decide) rfl rfl ?_
          refine X.iload 25 i55_23 rfl rfl rfl ?_
          refine X.iconst 26 i55_25 rfl rfl (by decide) ?_
          refine X.iadd 27 i55_26 rfl rfl (by omega) ?_
          refine X.iload_n 28 i55_27 rfl rfl rfl ?_
          refine X.iast' 29 i55_28 rfl rfl (by decide) rfl (by omega) (fun hrm661 m661 hm661 => ?_)
          have hJ662 := w38_0 hJ660 hm661 (by omega) hrm661
          have kum661 : m661 g0 8 9 = m659 g0 8 9 := by rw [hm661]; exact z_upd_o _ _ rfl
          refine X.aload_n 30 i55_29 rfl rfl rfl ?_
          refine X.getR 33 i55_30 rfl rfl (by decide) rfl rfl ?_
          refine X.iload 35 i55_33 rfl rfl rfl ?_
          refine X.iconst 36 i55_35 rfl rfl (by decide) ?_
          refine X.iadd 37 i55_36 rfl rfl (by omega) ?_
          refine X.iload_n 38 i55_37 rfl rfl rfl ?_
          refine X.iast' 39 i55_38 rfl rfl (by decide) rfl (by omega) (fun hrm663 m663 hm663 => ?_)
          have hJ664 := w38_0 hJ662 hm663 (by omega) hrm663
          have kum663 : m663 g0 8 9 = m661 g0 8 9 := by rw [hm663]; exact z_upd_o _ _ rfl
          refine X.aload_n 40 i55_39 rfl rfl rfl ?_
          refine X.dup 41 i55_40 rfl rfl rfl ?_
          refine X.getI 44 1 i55_41 rfl rfl (by decide) rfl rfl rfl ?_
          have h665 := r37_1 hJ664 g0
          refine X.iconst 45 i55_44 rfl rfl (by decide) ?_
          refine X.iadd 46 i55_45 rfl rfl (by omega) ?_
          refine X.putI' 49 1 i55_46 rfl rfl (by decide) rfl rfl rfl (fun hrm666 m666 hm666 => ?_)
          have hJ667 := w37_1 (hJ664.up (B' := B + 1) (by omega)) hm666 (by omega)
          have kum666 : m666 g0 8 9 = m663 g0 8 9 := by rw [hm666]; exact z_upd_o _ _ rfl
          refine X.retv i55_49 rfl t55 ?_
          show X (EE s) ((d - 1) - 1) 54 13 [(0, zr g0 8), (1, zi 23), (2, zi 0)] [] m666 _
          refine X.retv i54_13 rfl t54 ?_
          show X (EE s) (d - 1) 53 54 [] [] m666 _
          refine X.retv i53_54 rfl t53 ?_
          show X (EE s) d 26 71 [(0, zr g0 8), (1, zi a1), (2, zi v507), (3, zi v511), (4, zi v514)] [] m666 _
          refine X.aload_n 72 i26_71 rfl rfl rfl ?_
          refine X.getR 75 i26_72 rfl rfl (by decide) rfl rfl ?_
          refine X.iload 77 i26_75 rfl rfl rfl ?_
          refine X.iload_n 78 i26_77 rfl rfl rfl ?_
          refine X.aload_n 79 i26_78 rfl rfl rfl ?_
          refine X.getR 82 i26_79 rfl rfl (by decide) rfl rfl ?_
          refine X.callv 85 [] [zi v511, zi v514, zr g0 33] [(0, zr g0 9)] i26_82 rfl (by decide) rfl rfl (by omega) rfl rfl (by decide) rfl t38 (Nat.le_of_ble_eq_true rfl) (Nat.le_of_ble_eq_true rfl) rfl ?_
          refine X.aload_n 1 i38_0 rfl rfl rfl ?_
          refine X.getR 4 i38_1 rfl rfl (by decide) rfl rfl ?_
          refine X.iconst 5 i38_4 rfl rfl (by decide) ?_
          refine X.iald 6 i38_5 rfl rfl (by decide) rfl (by omega) ?_
          have h668 := r10_0 hJ667 g0 (i := 3) (by omega)
          refine X.reti i38_6 rfl t38 ?_
          show X (EE s) d 26 85 [(0, zr g0 8), (1, zi a1), (2, zi v507), (3, zi v511), (4, zi v514)] [zi (m666 g0 10 3), zi v511, zi v514, zr g0 33] m666 _
          refine X.aload_n 86 i26_85 rfl rfl rfl ?_
          refine X.getR 89 i26_86 rfl rfl (by decide) rfl rfl ?_
          refine X.aload_n 90 i26_89 rfl rfl rfl ?_
          refine X.getI 93 9 i26_90 rfl rfl (by decide) rfl rfl rfl ?_
          have h669 := r8_9 hJ667 g0
          refine X.callv 96 [zi v514, zi v511, zi (m666 g0 10 3), zr g0 37, zi (m666 g0 8 9)] [] [(0, zr g0 33), (1, zi v514), (2, zi v511), (3, zi (m666 g0 10 3)), (4, zr g0 37), (5, zi (m666 g0 8 9))] i26_93 rfl (by decide) rfl rfl (by omega) rfl rfl (by decide) rfl t56 (Nat.le_of_ble_eq_true rfl) (Nat.le_of_ble_eq_true rfl) rfl ?_
          refine c56_2 (B := B + 1) g0 g0 v514 v511 (m666 g0 10 3) (m666 g0 8 9) (by omega) (hJ667.up (by omega)) (by omega) (by omega) (by omega) (by omega) (by omega) (fun m670 hJ671 km670 => ?_)
          have kkm6700 := km670 0
          have kkm670g0 := km670 g0
          show X (EE s) d 26 96 [(0, zr g0 8), (1, zi a1), (2, zi v507), (3, zi v511), (4, zi v514)] [] m670 _
          refine X.aload_n 97 i26_96 rfl rfl rfl ?_
          refine X.getR 100 i26_97 rfl rfl (by decide) rfl rfl ?_
          refine X.iload 102 i26_100 rfl rfl rfl ?_
          refine X.aload_n 103 i26_102 rfl rfl rfl ?_
          refine X.getR 106 i26_103 rfl rfl (by decide) rfl rfl ?_
          refine X.getIr 109 3 i26_106 rfl rfl (by decide) rfl rfl rfl (fun h673 => ?_)
          refine X.callv 112 [zi v514, zi (m670 g0 33 3)] [] [(0, zr g0 27), (1, zi v514), (2, zi (m670 g0 33 3))] i26_109 rfl (by decide) rfl rfl (by omega) rfl rfl (by decide) rfl t58 (Nat.le_of_ble_eq_true rfl) (Nat.le_of_ble_eq_true rfl) rfl ?_
          refine X.aload_n 1 i58_0 rfl rfl rfl ?_
          refine X.dup 2 i58_1 rfl rfl rfl ?_
          refine X.getIr 5 6 i58_2 rfl rfl (by decide) rfl rfl rfl (fun h674 => ?_)
          refine X.iload_n 6 i58_5 rfl rfl rfl ?_
          refine X.iiF 7 .iadd (fun x y => x + y) i58_6 rfl rfl rfl (fun _ _ => rfl) (fun z675 hz675 => ?_)
          refine X.putI' 10 6 i58_7 rfl rfl (by decide) rfl rfl rfl (fun hrm676 m676 hm676 => ?_)
          have hJ677 := w27_3 hJ671 hm676 (by omega) hrm676
          have kum676 : m676 g0 8 9 = m670 g0 8 9 := by rw [hm676]; exact z_upd_o _ _ rfl
          refine X.aload_n 11 i58_10 rfl rfl rfl ?_
          refine X.dup 12 i58_11 rfl rfl rfl ?_
          refine X.getIr 15 8 i58_12 rfl rfl (by decide) rfl rfl rfl (fun h678 => ?_)
          refine X.iload_n 16 i58_15 rfl rfl rfl ?_
          refine X.iiF 17 .ior (fun x y => x ||| y) i58_16 rfl rfl rfl (fun _ _ => rfl) (fun z679 hz679 => ?_)
          refine X.putI' 20 8 i58_17 rfl rfl (by decide) rfl rfl rfl (fun hrm680 m680 hm680 => ?_)
          have hJ681 := w27_3 hJ677 hm680 (by omega) hrm680
          have kum680 : m680 g0 8 9 = m676 g0 8 9 := by rw [hm680]; exact z_upd_o _ _ rfl
          refine X.retv i58_20 rfl t58 ?_
          show X (EE s) d 26 112 [(0, zr g0 8), (1, zi a1), (2, zi v507), (3, zi v511), (4, zi v514)] [] m680 _
          refine X.aload_n 113 i26_112 rfl rfl rfl ?_
          refine X.getI 116 9 i26_113 rfl rfl (by decide) rfl rfl rfl ?_
          have h682 := r8_9 hJ681 g0
          refine X.ldc 118 i26_116 rfl rfl (by decide) ?_
          refine X.icmpge 131 121 i26_118 rfl rfl rfl (fun h683 => ?_) (fun h683 => ?_)
          · refine X.cut [(0, zr g0 8), (2, zi v507), (4, zi v514)] i26_131 rfl ?_
            refine X.aload_n 132 i26_131 rfl rfl rfl ?_
            refine X.iload_n 133 i26_132 rfl rfl rfl ?_
            refine X.callv 136 [zi v507] [] [(0, zr g0 8), (1, zi v507)] i26_133 rfl (by decide) rfl rfl (by omega) rfl rfl (by decide) rfl t59 (Nat.le_of_ble_eq_true rfl) (Nat.le_of_ble_eq_true rfl) rfl ?_
            refine c59_1 (B := B + 7) g0 v507 (by omega) (hJ681.up (by omega)) (by omega) (by omega) (fun m684 hJ685 km684 => ?_)
            have kkm6840 := km684 0
            have kkm684g0 := km684 g0
            show X (EE s) d 26 136 [(0, zr g0 8), (2, zi v507), (4, zi v514)] [] m684 _
            refine X.iload 138 i26_136 rfl rfl rfl ?_
            refine X.reti i26_138 rfl t26 ?_
            exact hQ v514 m684 (by first | trivial | omega) (hJ685.up (by omega))  (by omega) (by omega)
          · refine X.aload_n 122 i26_121 rfl rfl rfl ?_
            refine X.dup 123 i26_122 rfl rfl rfl ?_
            refine X.getI 126 9 i26_123 rfl rfl (by decide) rfl rfl rfl ?_
            refine X.iconst 127 i26_126 rfl rfl (by decide) ?_
            refine X.iadd 128 i26_127 rfl rfl (by omega) ?_
            refine X.putI' 131 9 i26_128 rfl rfl (by decide) rfl rfl rfl (fun hrm687 m687 hm687 => ?_)
            have hJ688 := w8_9 hJ681 hm687 (by omega)
            have em687 : m687 g0 8 9 = ((m680 g0 8 9) + 1) := by rw [hm687]; exact z_upd_same _ _ _ _ _
            refine X.cut [(0, zr g0 8), (2, zi v507), (4, zi v514)] i26_131 rfl ?_
            refine X.aload_n 132 i26_131 rfl rfl rfl ?_
            refine X.iload_n 133 i26_132 rfl rfl rfl ?_
            refine X.callv 136 [zi v507] [] [(0, zr g0 8), (1, zi v507)] i26_133 rfl (by decide) rfl rfl (by omega) rfl rfl (by decide) rfl t59 (Nat.le_of_ble_eq_true rfl) (Nat.le_of_ble_eq_true rfl) rfl ?_
            refine c59_1 (B := B + 7) g0 v507 (by omega) (hJ688.up (by omega)) (by omega) (by omega) (fun m689 hJ690 km689 => ?_)
            have kkm6890 := km689 0
            have kkm689g0 := km689 g0
            show X (EE s) d 26 136 [(0, zr g0 8), (2, zi v507), (4, zi v514)] [] m689 _
            refine X.iload 138 i26_136 rfl rfl rfl ?_
            refine X.reti i26_138 rfl t26 ?_
            exact hQ v514 m689 (by first | trivial | omega) (hJ690.up (by omega))  (by omega) (by omega)
        · refine X.bipush 45 i53_43 rfl rfl (by decide) ?_
          refine X.goto 50 i53_45 rfl rfl ?_
          refine X.cut [] i53_50 rfl ?_
          refine X.iconst 51 i53_50 rfl rfl (by decide) ?_
          refine X.callv 54 [zi 22, zi 0] [] [(0, zr g0 8), (1, zi 22), (2, zi 0)] i53_51 rfl (by decide) rfl rfl (by omega) rfl rfl (by decide) rfl t54 (Nat.le_of_ble_eq_true rfl) (Nat.le_of_ble_eq_true rfl) rfl ?_
          refine X.aload_n 1 i54_0 rfl rfl rfl ?_
          refine X.getR 4 i54_1 rfl rfl (by decide) rfl rfl ?_
          refine X.aload_n 5 i54_4 rfl rfl rfl ?_
          refine X.getI 8 9 i54_5 rfl rfl (by decide) rfl rfl rfl ?_
          have h692 := r8_9 hJ654 g0
          refine X.iload_n 9 i54_8 rfl rfl rfl ?_
          refine X.iload_n 10 i54_9 rfl rfl rfl ?_
          refine X.callv 13 [zi (m653 g0 8 9), zi 22, zi 0] [] [(0, zr g0 37), (1, zi (m653 g0 8 9)), (2, zi 22), (3, zi 0)] i54_10 rfl (by decide) rfl rfl (by omega) rfl rfl (by decide) rfl t55 (Nat.le_of_ble_eq_true rfl) (Nat.le_of_ble_eq_true rfl) rfl ?_
          refine X.aload_n 1 i55_0 rfl rfl rfl ?_
          refine X.getI 4 1 i55_1 rfl rfl (by decide) rfl rfl rfl ?_
          have h693 := r37_1 hJ654 g0
          refine X.bipush 6 i55_4 rfl rfl (by decide) ?_
          refine X.irem 7 i55_6 rfl rfl (by omega) ?_
          refine X.iconst 8 i55_7 rfl rfl (by decide) ?_
          refine X.imul 9 i55_8 rfl rfl (by omega) ?_
          refine X.istore 11 [(0, zr g0 37), (1, zi (m653 g0 8 9)), (2, zi 22), (3, zi 0), (4, zi (((m653 g0 37 1) % 40) * 3))] i55_9 rfl rfl rfl ?_
          refine X.aload_n 12 i55_11 rfl rfl rfl ?_
          refine X.getR 15 i55_12 rfl rfl (by decide) rfl rfl ?_
          refine X.iload 17 i55_15 rfl rfl rfl ?_
          refine X.iload_n 18 i55_17 rfl rfl rfl ?_
          refine X.iast' 19 i55_18 rfl rfl (by decide) rfl (by omega) (fun hrm694 m694 hm694 => ?_)
          have hJ695 := w38_0 hJ654 hm694 (by omega) hrm694
          have kum694 : m694 g0 8 9 = m653 g0 8 9 := by rw [hm694]; exact z_upd_o _ _ rfl
          refine X.aload_n 20 i55_19 rfl rfl rfl ?_
          refine X.getR 23 i55_20 rfl rfl (by decide) rfl rfl ?_
          refine X.iload 25 i55_23 rfl rfl rfl ?_
          refine X.iconst 26 i55_25 rfl rfl (by decide) ?_
          refine X.iadd 27 i55_26 rfl rfl (by omega) ?_
          refine X.iload_n 28 i55_27 rfl rfl rfl ?_
          refine X.iast' 29 i55_28 rfl rfl (by decide) rfl (by omega) (fun hrm696 m696 hm696 => ?_)
          have hJ697 := w38_0 hJ695 hm696 (by omega) hrm696
          have kum696 : m696 g0 8 9 = m694 g0 8 9 := by rw [hm696]; exact z_upd_o _ _ rfl
          refine X.aload_n 30 i55_29 rfl rfl rfl ?_
          refine X.getR 33 i55_30 rfl rfl (by decide) rfl rfl ?_
          refine X.iload 35 i55_33 rfl rfl rfl ?_
          refine X.iconst 36 i55_35 rfl rfl (by decide) ?_
          refine X.iadd 37 i55_36 rfl rfl (by omega) ?_
          refine X.iload_n 38 i55_37 rfl rfl rfl ?_
          refine X.iast' 39 i55_38 rfl rfl (by decide) rfl (by omega) (fun hrm698 m698 hm698 => ?_)
          have hJ699 := w38_0 hJ697 hm698 (by omega) hrm698
          have kum698 : m698 g0 8 9 = m696 g0 8 9 := by rw [hm698]; exact z_upd_o _ _ rfl
          refine X.aload_n 40 i55_39 rfl rfl rfl ?_
          refine X.dup 41 i55_40 rfl rfl rfl ?_
          refine X.getI 44 1 i55_41 rfl rfl (by decide) rfl rfl rfl ?_
          have h700 := r37_1 hJ699 g0
          refine X.iconst 45 i55_44 rfl rfl (by decide) ?_
          refine X.iadd 46 i55_45 rfl rfl (by omega) ?_
          refine X.putI' 49 1 i55_46 rfl rfl (by decide) rfl rfl rfl (fun hrm701 m701 hm701 => ?_)
          have hJ702 := w37_1 (hJ699.up (B' := B + 1) (by omega)) hm701 (by omega)
          have kum701 : m701 g0 8 9 = m698 g0 8 9 := by rw [hm701]; exact z_upd_o _ _ rfl
          refine X.retv i55_49 rfl t55 ?_
          show X (EE s) ((d - 1) - 1) 54 13 [(0, zr g0 8), (1, zi 22), (2, zi 0)] [] m701 _
          refine X.retv i54_13 rfl t54 ?_
          show X (EE s) (d - 1) 53 54 [] [] m701 _
          refine X.retv i53_54 rfl t53 ?_
          show X (EE s) d 26 71 [(0, zr g0 8), (1, zi a1), (2, zi v507), (3, zi v511), (4, zi v514)] [] m701 _
          refine X.aload_n 72 i26_71 rfl rfl rfl ?_
          refine X.getR 75 i26_72 rfl rfl (by decide) rfl rfl ?_
          refine X.iload 77 i26_75 rfl rfl rfl ?_
          refine X.iload_n 78 i26_77 rfl rfl rfl ?_
          refine X.aload_n 79 i26_78 rfl rfl rfl ?_
          refine X.getR 82 i26_79 rfl rfl (by decide) rfl rfl ?_
          refine X.callv 85 [] [zi v511, zi v514, zr g0 33] [(0, zr g0 9)] i26_82 rfl (by decide) rfl rfl (by omega) rfl rfl (by decide) rfl t38 (Nat.le_of_ble_eq_true rfl) (Nat.le_of_ble_eq_true rfl) rfl ?_
          refine X.aload_n 1 i38_0 rfl rfl rfl ?_
          refine X.getR 4 i38_1 rfl rfl (by decide) rfl rfl ?_
          refine X.iconst 5 i38_4 rfl rfl (by decide) ?_
          refine X.iald 6 i38_5 rfl rfl (by decide) rfl (by omega) ?_
          have h703 := r10_0 hJ702 g0 (i := 3) (by omega)
          refine X.reti i38_6 rfl t38 ?_
          show X (EE s) d 26 85 [(0, zr g0 8), (1, zi a1), (2, zi v507), (3, zi v511), (4, zi v514)] [zi (m701 g0 10 3), zi v511, zi v514, zr g0 33] m701 _
          refine X.aload_n 86 i26_85 rfl rfl rfl ?_
          refine X.getR 89 i26_86 rfl rfl (by decide) rfl rfl ?_
          refine X.aload_n 90 i26_89 rfl rfl rfl ?_
          refine X.getI 93 9 i26_90 rfl rfl (by decide) rfl rfl rfl ?_
          have h704 := r8_9 hJ702 g0
          refine X.callv 96 [zi v514, zi v511, zi (m701 g0 10 3), zr g0 37, zi (m701 g0 8 9)] [] [(0, zr g0 33), (1, zi v514), (2, zi v511), (3, zi (m701 g0 10 3)), (4, zr g0 37), (5, zi (m701 g0 8 9))] i26_93 rfl (by decide) rfl rfl (by omega) rfl rfl (by decide) rfl t56 (Nat.le_of_ble_eq_true rfl) (Nat.le_of_ble_eq_true rfl) rfl ?_
          refine c56_2 (B := B + 1) g0 g0 v514 v511 (m701 g0 10 3) (m701 g0 8 9) (by omega) (hJ702.up (by omega)) (by omega) (by omega) (by omega) (by omega) (by omega) (fun m705 hJ706 km705 => ?_)
          have kkm7050 := km705 0
          have kkm705g0 := km705 g0
          show X (EE s) d 26 96 [(0, zr g0 8), (1, zi a1), (2, zi v507), (3, zi v511), (4, zi v514)] [] m705 _
          refine X.aload_n 97 i26_96 rfl rfl rfl ?_
          refine X.getR 100 i26_97 rfl rfl (by decide) rfl rfl ?_
          refine X.iload 102 i26_100 rfl rfl rfl ?_
          refine X.aload_n 103 i26_102 rfl rfl rfl ?_
          refine X.getR 106 i26_103 rfl rfl (by decide) rfl rfl ?_
          refine X.getIr 109 3 i26_106 rfl rfl (by decide) rfl rfl rfl (fun h708 => ?_)
          refine X.callv 112 [zi v514, zi (m705 g0 33 3)] [] [(0, zr g0 27), (1, zi v514), (2, zi (m705 g0 33 3))] i26_109 rfl (by decide) rfl rfl (by omega) rfl rfl (by decide) rfl t58 (Nat.le_of_ble_eq_true rfl) (Nat.le_of_ble_eq_true rfl) rfl ?_
          refine X.aload_n 1 i58_0 rfl rfl rfl ?_
          refine X.dup 2 i58_1 rfl rfl rfl ?_
          refine X.getIr 5 6 i58_2 rfl rfl (by decide) rfl rfl rfl (fun h709 => ?_)
          refine X.iload_n 6 i58_5 rfl rfl rfl ?_
          refine X.iiF 7 .iadd (fun x y => x + y) i58_6 rfl rfl rfl (fun _ _ => rfl) (fun z710 hz710 => ?_)
          refine X.putI' 10 6 i58_7 rfl rfl (by decide) rfl rfl rfl (fun hrm711 m711 hm711 => ?_)
          have hJ712 := w27_3 hJ706 hm711 (by omega) hrm711
          have kum711 : m711 g0 8 9 = m705 g0 8 9 := by rw [hm711]; exact z_upd_o _ _ rfl
          refine X.aload_n 11 i58_10 rfl rfl rfl ?_
          refine X.dup 12 i58_11 rfl rfl rfl ?_
          refine X.getIr 15 8 i58_12 rfl rfl (by decide) rfl rfl rfl (fun h713 => ?_)
          refine X.iload_n 16 i58_15 rfl rfl rfl ?_
          refine X.iiF 17 .ior (fun x y => x ||| y) i58_16 rfl rfl rfl (fun _ _ => rfl) (fun z714 hz714 => ?_)
          refine X.putI' 20 8 i58_17 rfl rfl (by decide) rfl rfl rfl (fun hrm715 m715 hm715 => ?_)
          have hJ716 := w27_3 hJ712 hm715 (by omega) hrm715
          have kum715 : m715 g0 8 9 = m711 g0 8 9 := by rw [hm715]; exact z_upd_o _ _ rfl
          refine X.retv i58_20 rfl t58 ?_
          show X (EE s) d 26 112 [(0, zr g0 8), (1, zi a1), (2, zi v507), (3, zi v511), (4, zi v514)] [] m715 _
          refine X.aload_n 113 i26_112 rfl rfl rfl ?_
          refine X.getI 116 9 i26_113 rfl rfl (by decide) rfl rfl rfl ?_
          have h717 := r8_9 hJ716 g0
          refine X.ldc 118 i26_116 rfl rfl (by decide) ?_
          refine X.icmpge 131 121 i26_118 rfl rfl rfl (fun h718 => ?_) (fun h718 => ?_)
          · refine X.cut [(0, zr g0 8), (2, zi v507), (4, zi v514)] i26_131 rfl ?_
            refine X.aload_n 132 i26_131 rfl rfl rfl ?_
            refine X.iload_n 133 i26_132 rfl rfl rfl ?_
            refine X.callv 136 [zi v507] [] [(0, zr g0 8), (1, zi v507)] i26_133 rfl (by decide) rfl rfl (by omega) rfl rfl (by decide) rfl t59 (Nat.le_of_ble_eq_true rfl) (Nat.le_of_ble_eq_true rfl) rfl ?_
            refine c59_1 (B := B + 7) g0 v507 (by omega) (hJ716.up (by omega)) (by omega) (by omega) (fun m719 hJ720 km719 => ?_)
            have kkm7190 := km719 0
            have kkm719g0 := km719 g0
            show X (EE s) d 26 136 [(0, zr g0 8), (2, zi v507), (4, zi v514)] [] m719 _
            refine X.iload 138 i26_136 rfl rfl rfl ?_
            refine X.reti i26_138 rfl t26 ?_
            exact hQ v514 m719 (by first | trivial | omega) (hJ720.up (by omega))  (by omega) (by omega)
          · refine X.aload_n 122 i26_121 rfl rfl rfl ?_
            refine X.dup 123 i26_122 rfl rfl rfl ?_
            refine X.getI 126 9 i26_123 rfl rfl (by decide) rfl rfl rfl ?_
            refine X.iconst 127 i26_126 rfl rfl (by decide) ?_
            refine X.iadd 128 i26_127 rfl rfl (by omega) ?_
            refine X.putI' 131 9 i26_128 rfl rfl (by decide) rfl rfl rfl (fun hrm722 m722 hm722 => ?_)
            have hJ723 := w8_9 hJ716 hm722 (by omega)
            have em722 : m722 g0 8 9 = ((m715 g0 8 9) + 1) := by rw [hm722]; exact z_upd_same _ _ _ _ _
            refine X.cut [(0, zr g0 8), (2, zi v507), (4, zi v514)] i26_131 rfl ?_
            refine X.aload_n 132 i26_131 rfl rfl rfl ?_
            refine X.iload_n 133 i26_132 rfl rfl rfl ?_
            refine X.callv 136 [zi v507] [] [(0, zr g0 8), (1, zi v507)] i26_133 rfl (by decide) rfl rfl (by omega) rfl rfl (by decide) rfl t59 (Nat.le_of_ble_eq_true rfl) (Nat.le_of_ble_eq_true rfl) rfl ?_
            refine c59_1 (B := B + 7) g0 v507 (by omega) (hJ723.up (by omega)) (by omega) (by omega) (fun m724 hJ725 km724 => ?_)
            have kkm7240 := km724 0
            have kkm724g0 := km724 g0
            show X (EE s) d 26 136 [(0, zr g0 8), (2, zi v507), (4, zi v514)] [] m724 _
            refine X.iload 138 i26_136 rfl rfl rfl ?_
            refine X.reti i26_138 rfl t26 ?_
            exact hQ v514 m724 (by first | trivial | omega) (hJ725.up (by omega))  (by omega) (by omega)
    · have h627c : (m523 g0 8 10) ≤ 0 := by omega
      clear h627 hz626
      refine X.iconst 17 i53_16 rfl rfl (by decide) ?_
      refine X.goto 21 i53_17 rfl rfl ?_
      refine X.istore_n 22 [(0, zr g0 8), (1, zi 1)] i53_21 rfl rfl rfl ?_
      refine X.iload_n 23 i53_22 rfl rfl rfl ?_
      refine X.aload_n 24 i53_23 rfl rfl rfl ?_
      refine X.getZ 27 12 i53_24 rfl rfl (by decide) rfl rfl rfl (fun h727 => ?_)
      refine X.icmpeq 54 30 i53_27 rfl rfl rfl (fun h728 => ?_) (fun h728 => ?_)
      · refine X.cut [] i53_54 rfl ?_
        refine X.retv i53_54 rfl t53 ?_
        show X (EE s) d 26 71 [(0, zr g0 8), (1, zi a1), (2, zi v507), (3, zi v511), (4, zi v514)] [] m523 _
        refine X.aload_n 72 i26_71 rfl rfl rfl ?_
        refine X.getR 75 i26_72 rfl rfl (by decide) rfl rfl ?_
        refine X.iload 77 i26_75 rfl rfl rfl ?_
        refine X.iload_n 78 i26_77 rfl rfl rfl ?_
        refine X.aload_n 79 i26_78 rfl rfl rfl ?_
        refine X.getR 82 i26_79 rfl rfl (by decide) rfl rfl ?_
        refine X.callv 85 [] [zi v511, zi v514, zr g0 33] [(0, zr g0 9)] i26_82 rfl (by decide) rfl rfl (by omega) rfl rfl (by decide) rfl t38 (Nat.le_of_ble_eq_true rfl) (Nat.le_of_ble_eq_true rfl) rfl ?_
        refine X.aload_n 1 i38_0 rfl rfl rfl ?_
        refine X.getR 4 i38_1 rfl rfl (by decide) rfl rfl ?_
        refine X.iconst 5 i38_4 rfl rfl (by decide) ?_
        refine X.iald 6 i38_5 rfl rfl (by decide) rfl (by omega) ?_
        have h729 := r10_0 hJ524 g0 (i := 3) (by omega)
        refine X.reti i38_6 rfl t38 ?_
        show X (EE s) d 26 85 [(0, zr g0 8), (1, zi a1), (2, zi v507), (3, zi v511), (4, zi v514)] [zi (m523 g0 10 3), zi v511, zi v514, zr g0 33] m523 _
        refine X.aload_n 86 i26_85 rfl rfl rfl ?_
        refine X.getR 89 i26_86 rfl rfl (by decide) rfl rfl ?_
        refine X.aload_n 90 i26_89 rfl rfl rfl ?_
        refine X.getI 93 9 i26_90 rfl rfl (by decide) rfl rfl rfl ?_
        refine X.callv 96 [zi v514, zi v511, zi (m523 g0 10 3), zr g0 37, zi (m523 g0 8 9)] [] [(0, zr g0 33), (1, zi v514), (2, zi v511), (3, zi (m523 g0 10 3)), (4, zr g0 37), (5, zi (m523 g0 8 9))] i26_93 rfl (by decide) rfl rfl (by omega) rfl rfl (by decide) rfl t56 (Nat.le_of_ble_eq_true rfl) (Nat.le_of_ble_eq_true rfl) rfl ?_
        refine c56_2 (B := B) g0 g0 v514 v511 (m523 g0 10 3) (m523 g0 8 9) (by omega) (hJ524.up (by omega)) (by omega) (by omega) (by omega) (by omega) (by omega) (fun m730 hJ731 km730 => ?_)
        have kkm7300 := km730 0
        have kkm730g0 := km730 g0
        show X (EE s) d 26 96 [(0, zr g0 8), (1, zi a1), (2, zi v507), (3, zi v511), (4, zi v514)] [] m730 _
        refine X.aload_n 97 i26_96 rfl rfl rfl ?_
        refine X.getR 100 i26_97 rfl rfl (by decide) rfl rfl ?_
        refine X.iload 102 i26_100 rfl rfl rfl ?_
        refine X.aload_n 103 i26_102 rfl rfl rfl ?_
        refine X.getR 106 i26_103 rfl rfl (by decide) rfl rfl ?_
        refine X.getIr 109 3 i26_106 rfl rfl (by decide) rfl rfl rfl (fun h733 => ?_)
        refine X.callv 112 [zi v514, zi (m730 g0 33 3)] [] [(0, zr g0 27), (1, zi v514), (2, zi (m730 g0 33 3))] i26_109 rfl (by decide) rfl rfl (by omega) rfl rfl (by decide) rfl t58 (Nat.le_of_ble_eq_true rfl) (Nat.le_of_ble_eq_true rfl) rfl ?_
        refine X.aload_n 1 i58_0 rfl rfl rfl ?_
        refine X.dup 2 i58_1 rfl rfl rfl ?_
        refine X.getIr 5 6 i58_2 rfl rfl (by decide) rfl rfl rfl (fun h734 => ?_)
        refine X.iload_n 6 i58_5 rfl rfl rfl ?_
        refine X.iiF 7 .iadd (fun x y => x + y) i58_6 rfl rfl rfl (fun _ _ => rfl) (fun z735 hz735 => ?_)
        refine X.putI' 10 6 i58_7 rfl rfl (by decide) rfl rfl rfl (fun hrm736 m736 hm736 => ?_)
        have hJ737 := w27_3 hJ731 hm736 (by omega) hrm736
        have kum736 : m736 g0 8 9 = m730 g0 8 9 := by rw [hm736]; exact z_upd_o _ _ rfl
        refine X.aload_n 11 i58_10 rfl rfl rfl ?_
        refine X.dup 12 i58_11 rfl rfl rfl ?_
        refine X.getIr 15 8 i58_12 rfl rfl (by decide) rfl rfl rfl (fun h738 => ?_)
        refine X.iload_n 16 i58_15 rfl rfl rfl ?_
        refine X.iiF 17 .ior (fun x y => x ||| y) i58_16 rfl rfl rfl (fun _ _ => rfl) (fun z739 hz739 => ?_)
        refine X.putI' 20 8 i58_17 rfl rfl (by decide) rfl rfl rfl (fun hrm740 m740 hm740 => ?_)
        have hJ741 := w27_3 hJ737 hm740 (by omega) hrm740
        have kum740 : m740 g0 8 9 = m736 g0 8 9 := by rw [hm740]; exact z_upd_o _ _ rfl
        refine X.retv i58_20 rfl t58 ?_
        show X (EE s) d 26 112 [(0, zr g0 8), (1, zi a1), (2, zi v507), (3, zi v511), (4, zi v514)] [] m740 _
        refine X.aload_n 113 i26_112 rfl rfl rfl ?_
        refine X.getI 116 9 i26_113 rfl rfl (by decide) rfl rfl rfl ?_
        have h742 := r8_9 hJ741 g0
        refine X.ldc 118 i26_116 rfl rfl (by decide) ?_
        refine X.icmpge 131 121 i26_118 rfl rfl rfl (fun h743 => ?_) (fun h743 => ?_)
        · refine X.cut [(0, zr g0 8), (2, zi v507), (4, zi v514)] i26_131 rfl ?_
          refine X.aload_n 132 i26_131 rfl rfl rfl ?_
          refine X.iload_n 133 i26_132 rfl rfl rfl ?_
          refine X.callv 136 [zi v507] [] [(0, zr g0 8), (1, zi v507)] i26_133 rfl (by decide) rfl rfl (by omega) rfl rfl (by decide) rfl t59 (Nat.le_of_ble_eq_true rfl) (Nat.le_of_ble_eq_true rfl) rfl ?_
          refine c59_1 (B := B + 6) g0 v507 (by omega) (hJ741.up (by omega)) (by omega) (by omega) (fun m744 hJ745 km744 => ?_)
          have kkm7440 := km744 0
          have kkm744g0 := km744 g0
          show X (EE s) d 26 136 [(0, zr g0 8), (2, zi v507), (4, zi v514)] [] m744 _
          refine X.iload 138 i26_136 rfl rfl rfl ?_
          refine X.reti i26_138 rfl t26 ?_
          exact hQ v514 m744 (by first | trivial | omega) (hJ745.up (by omega))  (by omega) (by omega)
        · refine X.aload_n 122 i26_121 rfl rfl rfl ?_
          refine X.dup 123 i26_122 rfl rfl rfl ?_
          refine X.getI 126 9 i26_123 rfl rfl (by decide) rfl rfl rfl ?_
          refine X.iconst 127 i26_126 rfl rfl (by decide) ?_
          refine X.iadd 128 i26_127 rfl rfl (by omega) ?_
          refine X.putI' 131 9 i26_128 rfl rfl (by decide) rfl rfl rfl (fun hrm747 m747 hm747 => ?_)
          have hJ748 := w8_9 hJ741 hm747 (by omega)
          have em747 : m747 g0 8 9 = ((m740 g0 8 9) + 1) := by rw [hm747]; exact z_upd_same _ _ _ _ _
          refine X.cut [(0, zr g0 8), (2, zi v507), (4, zi v514)] i26_131 rfl ?_
          refine X.aload_n 132 i26_131 rfl rfl rfl ?_
          refine X.iload_n 133 i26_132 rfl rfl rfl ?_
          refine X.callv 136 [zi v507] [] [(0, zr g0 8), (1, zi v507)] i26_133 rfl (by decide) rfl rfl (by omega) rfl rfl (by decide) rfl t59 (Nat.le_of_ble_eq_true rfl) (Nat.le_of_ble_eq_true rfl) rfl ?_
          refine c59_1 (B := B + 6) g0 v507 (by omega) (hJ748.up (by omega)) (by omega) (by omega) (fun m749 hJ750 km749 => ?_)
          have kkm7490 := km749 0
          have kkm749g0 := km749 g0
          show X (EE s) d 26 136 [(0, zr g0 8), (2, zi v507), (4, zi v514)] [] m749 _
          refine X.iload 138 i26_136 rfl rfl rfl ?_
          refine X.reti i26_138 rfl t26 ?_
          exact hQ v514 m749 (by first | trivial | omega) (hJ750.up (by omega))  (by omega) (by omega)
      · refine X.aload_n 31 i53_30 rfl rfl rfl ?_
        refine X.iload_n 32 i53_31 rfl rfl rfl ?_
        refine X.putZ' 35 12 i53_32 rfl rfl (by decide) rfl rfl rfl (by omega) (fun hrm752 m752 hm752 => ?_)
        have hJ753 := w8_12 hJ524 hm752 (by omega)
        have kum752 : m752 g0 8 9 = m523 g0 8 9 := by rw [hm752]; exact z_upd_o _ _ rfl
        refine X.aload_n 36 i53_35 rfl rfl rfl ?_
        refine X.aload_n 37 i53_36 rfl rfl rfl ?_
        refine X.getZ 40 12 i53_37 rfl rfl (by decide) rfl rfl rfl (fun h754 => ?_)
        refine X.ifeq 48 43 i53_40 rfl rfl rfl (fun h755 => ?_) (fun h755 => ?_)
        · refine X.cut [] i53_48 rfl ?_
          refine X.bipush 50 i53_48 rfl rfl (by decide) ?_
          refine X.iconst 51 i53_50 rfl rfl (by decide) ?_
          refine X.callv 54 [zi 23, zi 0] [] [(0, zr g0 8), (1, zi 23), (2, zi 0)] i53_51 rfl (by decide) rfl rfl (by omega) rfl rfl (by decide) rfl t54 (Nat.le_of_ble_eq_true rfl) (Nat.le_of_ble_eq_true rfl) rfl ?_
          refine X.aload_n 1 i54_0 rfl rfl rfl ?_
          refine X.getR 4 i54_1 rfl rfl (by decide) rfl rfl ?_
          refine X.aload_n 5 i54_4 rfl rfl rfl ?_
          refine X.getI 8 9 i54_5 rfl rfl (by decide) rfl rfl rfl ?_
          have h756 := r8_9 hJ753 g0
          refine X.iload_n 9 i54_8 rfl rfl rfl ?_
          refine X.iload_n 10 i54_9 rfl rfl rfl ?_
          refine X.callv 13 [zi (m752 g0 8 9), zi 23, zi 0] [] [(0, zr g0 37), (1, zi (m752 g0 8 9)), (2, zi 23), (3, zi 0)] i54_10 rfl (by decide) rfl rfl (by omega) rfl rfl (by decide) rfl t55 (Nat.le_of_ble_eq_true rfl) (Nat.le_of_ble_eq_true rfl) rfl ?_
          refine X.aload_n 1 i55_0 rfl rfl rfl ?_
          refine X.getI 4 1 i55_1 rfl rfl (by decide) rfl rfl rfl ?_
          have h757 := r37_1 hJ753 g0
          refine X.bipush 6 i55_4 rfl rfl (by decide) ?_
          refine X.irem 7 i55_6 rfl rfl (by omega) ?_
          refine X.iconst 8 i55_7 rfl rfl (by decide) ?_
          refine X.imul 9 i55_8 rfl rfl (by omega) ?_
          refine X.istore 11 [(0, zr g0 37), (1, zi (m752 g0 8 9)), (2, zi 23), (3, zi 0), (4, zi (((m752 g0 37 1) % 40) * 3))] i55_9 rfl rfl rfl ?_
          refine X.aload_n 12 i55_11 rfl rfl rfl ?_
          refine X.getR 15 i55_12 rfl rfl (by decide) rfl rfl ?_
          refine X.iload 17 i55_15 rfl rfl rfl ?_
          refine X.iload_n 18 i55_17 rfl rfl rfl ?_
          refine X.iast' 19 i55_18 rfl rfl (by decide) rfl (by omega) (fun hrm758 m758 hm758 => ?_)
          have hJ759 := w38_0 hJ753 hm758 (by omega) hrm758
          have kum758 : m758 g0 8 9 = m752 g0 8 9 := by rw [hm758]; exact z_upd_o _ _ rfl
          refine X.aload_n 20 i55_19 rfl rfl rfl ?_
          refine X.getR 23 i55_20 rfl rfl (by decide) rfl rfl ?_
          refine X.iload 25 i55_23 rfl rfl rfl ?_
          refine X.iconst 26 i55_25 rfl rfl (by decide) ?_
          refine X.iadd 27 i55_26 rfl rfl (by omega) ?_
          refine X.iload_n 28 i55_27 rfl rfl rfl ?_
          refine X.iast' 29 i55_28 rfl rfl (by decide) rfl (by omega) (fun hrm760 m760 hm760 => ?_)
          have hJ761 := w38_0 hJ759 hm760 (by omega) hrm760
          have kum760 : m760 g0 8 9 = m758 g0 8 9 := by rw [hm760]; exact z_upd_o _ _ rfl
          refine X.aload_n 30 i55_29 rfl rfl rfl ?_
          refine X.getR 33 i55_30 rfl rfl (by decide) rfl rfl ?_
          refine X.iload 35 i55_33 rfl rfl rfl ?_
          refine X.iconst 36 i55_35 rfl rfl (by decide) ?_
          refine X.iadd 37 i55_36 rfl rfl (by omega) ?_
          refine X.iload_n 38 i55_37 rfl rfl rfl ?_
          refine X.iast' 39 i55_38 rfl rfl (by decide) rfl (by omega) (fun hrm762 m762 hm762 => ?_)
          have hJ763 := w38_0 hJ761 hm762 (by omega) hrm762
          have kum762 : m762 g0 8 9 = m760 g0 8 9 := by rw [hm762]; exact z_upd_o _ _ rfl
          refine X.aload_n 40 i55_39 rfl rfl rfl ?_
          refine X.dup 41 i55_40 rfl rfl rfl ?_
          refine X.getI 44 1 i55_41 rfl rfl (by decide) rfl rfl rfl ?_
          have h764 := r37_1 hJ763 g0
          refine X.iconst 45 i55_44 rfl rfl (by decide) ?_
          refine X.iadd 46 i55_45 rfl rfl (by omega) ?_
          refine X.putI' 49 1 i55_46 rfl rfl (by decide) rfl rfl rfl (fun hrm765 m765 hm765 => ?_)
          have hJ766 := w37_1 (hJ763.up (B' := B + 1) (by omega)) hm765 (by omega)
          have kum765 : m765 g0 8 9 = m762 g0 8 9 := by rw [hm765]; exact z_upd_o _ _ rfl
          refine X.retv i55_49 rfl t55 ?_
          show X (EE s) ((d - 1) - 1) 54 13 [(0, zr g0 8), (1, zi 23), (2, zi 0)] [] m765 _
          refine X.retv i54_13 rfl t54 ?_
          show X (EE s) (d - 1) 53 54 [] [] m765 _
          refine X.retv i53_54 rfl t53 ?_
          show X (EE s) d 26 71 [(0, zr g0 8), (1, zi a1), (2, zi v507), (3, zi v511), (4, zi v514)] [] m765 _
          refine X.aload_n 72 i26_71 rfl rfl rfl ?_
          refine X.getR 75 i26_72 rfl rfl (by decide) rfl rfl ?_
          refine X.iload 77 i26_75 rfl rfl rfl ?_
          refine X.iload_n 78 i26_77 rfl rfl rfl ?_
          refine X.aload_n 79 i26_78 rfl rfl rfl ?_
          refine X.getR 82 i26_79 rfl rfl (by decide) rfl rfl ?_
          refine X.callv 85 [] [zi v511, zi v514, zr g0 33] [(0, zr g0 9)] i26_82 rfl (by decide) rfl rfl (by omega) rfl rfl (by decide) rfl t38 (Nat.le_of_ble_eq_true rfl) (Nat.le_of_ble_eq_true rfl) rfl ?_
          refine X.aload_n 1 i38_0 rfl rfl rfl ?_
          refine X.getR 4 i38_1 rfl rfl (by decide) rfl rfl ?_
          refine X.iconst 5 i38_4 rfl rfl (by decide) ?_
          refine X.iald 6 i38_5 rfl rfl (by decide) rfl (by omega) ?_
          have h767 := r10_0 hJ766 g0 (i := 3) (by omega)
          refine X.reti i38_6 rfl t38 ?_
          show X (EE s) d 26 85 [(0, zr g0 8), (1, zi a1), (2, zi v507), (3, zi v511), (4, zi v514)] [zi (m765 g0 10 3), zi v511, zi v514, zr g0 33] m765 _
          refine X.aload_n 86 i26_85 rfl rfl rfl ?_
          refine X.getR 89 i26_86 rfl rfl (by decide) rfl rfl ?_
          refine X.aload_n 90 i26_89 rfl rfl rfl ?_
          refine X.getI 93 9 i26_90 rfl rfl (by decide) rfl rfl rfl ?_
          have h768 := r8_9 hJ766 g0
          refine X.callv 96 [zi v514, zi v511, zi (m765 g0 10 3), zr g0 37, zi (m765 g0 8 9)] [] [(0, zr g0 33), (1, zi v514), (2, zi v511), (3, zi (m765 g0 10 3)), (4, zr g0 37), (5, zi (m765 g0 8 9))] i26_93 rfl (by decide) rfl rfl (by omega) rfl rfl (by decide) rfl t56 (Nat.le_of_ble_eq_true rfl) (Nat.le_of_ble_eq_true rfl) rfl ?_
          refine c56_2 (B := B + 1) g0 g0 v514 v511 (m765 g0 10 3) (m765 g0 8 9) (by omega) (hJ766.up (by omega)) (by omega) (by omega) (by omega) (by omega) (by omega) (fun m769 hJ770 km769 => ?_)
          have kkm7690 := km769 0
          have kkm769g0 := km769 g0
          show X (EE s) d 26 96 [(0, zr g0 8), (1, zi a1), (2, zi v507), (3, zi v511), (4, zi v514)] [] m769 _
          refine X.aload_n 97 i26_96 rfl rfl rfl ?_
          refine X.getR 100 i26_97 rfl rfl (by decide) rfl rfl ?_
          refine X.iload 102 i26_100 rfl rfl rfl ?_
          refine X.aload_n 103 i26_102 rfl rfl rfl ?_
          refine X.getR 106 i26_103 rfl rfl (by decide) rfl rfl ?_
          refine X.getIr 109 3 i26_106 rfl rfl (by decide) rfl rfl rfl (fun h772 => ?_)
          refine X.callv 112 [zi v514, zi (m769 g0 33 3)] [] [(0, zr g0 27), (1, zi v514), (2, zi (m769 g0 33 3))] i26_109 rfl (by decide) rfl rfl (by omega) rfl rfl (by decide) rfl t58 (Nat.le_of_ble_eq_true rfl) (Nat.le_of_ble_eq_true rfl) rfl ?_
          refine X.aload_n 1 i58_0 rfl rfl rfl ?_
          refine X.dup 2 i58_1 rfl rfl rfl ?_
          refine X.getIr 5 6 i58_2 rfl rfl (by decide) rfl rfl rfl (fun h773 => ?_)
          refine X.iload_n 6 i58_5 rfl rfl rfl ?_
          refine X.iiF 7 .iadd (fun x y => x + y) i58_6 rfl rfl rfl (fun _ _ => rfl) (fun z774 hz774 => ?_)
          refine X.putI' 10 6 i58_7 rfl rfl (by decide) rfl rfl rfl (fun hrm775 m775 hm775 => ?_)
          have hJ776 := w27_3 hJ770 hm775 (by omega) hrm775
          have kum775 : m775 g0 8 9 = m769 g0 8 9 := by rw [hm775]; exact z_upd_o _ _ rfl
          refine X.aload_n 11 i58_10 rfl rfl rfl ?_
          refine X.dup 12 i58_11 rfl rfl rfl ?_
          refine X.getIr 15 8 i58_12 rfl rfl (by decide) rfl rfl rfl (fun h777 => ?_)
          refine X.iload_n 16 i58_15 rfl rfl rfl ?_
          refine X.iiF 17 .ior (fun x y => x ||| y) i58_16 rfl rfl rfl (fun _ _ => rfl) (fun z778 hz778 => ?_)
          refine X.putI' 20 8 i58_17 rfl rfl (by decide) rfl rfl rfl (fun hrm779 m779 hm779 => ?_)
          have hJ780 := w27_3 hJ776 hm779 (by omega) hrm779
          have kum779 : m779 g0 8 9 = m775 g0 8 9 := by rw [hm779]; exact z_upd_o _ _ rfl
          refine X.retv i58_20 rfl t58 ?_
          show X (EE s) d 26 112 [(0, zr g0 8), (1, zi a1), (2, zi v507), (3, zi v511), (4, zi v514)] [] m779 _
          refine X.aload_n 113 i26_112 rfl rfl rfl ?_
          refine X.getI 116 9 i26_113 rfl rfl (by decide) rfl rfl rfl ?_
          have h781 := r8_9 hJ780 g0
          refine X.ldc 118 i26_116 rfl rfl (by decide) ?_
          refine X.icmpge 131 121 i26_118 rfl rfl rfl (fun h782 => ?_) (fun h782 => ?_)
          · refine X.cut [(0, zr g0 8), (2, zi v507), (4, zi v514)] i26_131 rfl ?_
            refine X.aload_n 132 i26_131 rfl rfl rfl ?_
            refine X.iload_n 133 i26_132 rfl rfl rfl ?_
            refine X.callv 136 [zi v507] [] [(0, zr g0 8), (1, zi v507)] i26_133 rfl (by decide) rfl rfl (by omega) rfl rfl (by decide) rfl t59 (Nat.le_of_ble_eq_true rfl) (Nat.le_of_ble_eq_true rfl) rfl ?_
            refine c59_1 (B := B + 7) g0 v507 (by omega) (hJ780.up (by omega)) (by omega) (by omega) (fun m783 hJ784 km783 => ?_)
            have kkm7830 := km783 0
            have kkm783g0 := km783 g0
            show X (EE s) d 26 136 [(0, zr g0 8), (2, zi v507), (4, zi v514)] [] m783 _
            refine X.iload 138 i26_136 rfl rfl rfl ?_
            refine X.reti i26_138 rfl t26 ?_
            exact hQ v514 m783 (by first | trivial | omega) (hJ784.up (by omega))  (by omega) (by omega)
          · refine X.aload_n 122 i26_121 rfl rfl rfl ?_
            refine X.dup 123 i26_122 rfl rfl rfl ?_
            refine X.getI 126 9 i26_123 rfl rfl (by decide) rfl rfl rfl ?_
            refine X.iconst 127 i26_126 rfl rfl (by decide) ?_
            refine X.iadd 128 i26_127 rfl rfl (by omega) ?_
            refine X.putI' 131 9 i26_128 rfl rfl (by decide) rfl rfl rfl (fun hrm786 m786 hm786 => ?_)
            have hJ787 := w8_9 hJ780 hm786 (by omega)
            have em786 : m786 g0 8 9 = ((m779 g0 8 9) + 1) := by rw [hm786]; exact z_upd_same _ _ _ _ _
            refine X.cut [(0, zr g0 8), (2, zi v507), (4, zi v514)] i26_131 rfl ?_
            refine X.aload_n 132 i26_131 rfl rfl rfl ?_
            refine X.iload_n 133 i26_132 rfl rfl rfl ?_
            refine X.callv 136 [zi v507] [] [(0, zr g0 8), (1, zi v507)] i26_133 rfl (by decide) rfl rfl (by omega) rfl rfl (by decide) rfl t59 (Nat.le_of_ble_eq_true rfl) (Nat.le_of_ble_eq_true rfl) rfl ?_
            refine c59_1 (B := B + 7) g0 v507 (by omega) (hJ787.up (by omega)) (by omega) (by omega) (fun m788 hJ789 km788 => ?_)
            have kkm7880 := km788 0
            have kkm788g0 := km788 g0
            show X (EE s) d 26 136 [(0, zr g0 8), (2, zi v507), (4, zi v514)] [] m788 _
            refine X.iload 138 i26_136 rfl rfl rfl ?_
            refine X.reti i26_138 rfl t26 ?_
            exact hQ v514 m788 (by first | trivial | omega) (hJ789.up (by omega))  (by omega) (by omega)
        · refine X.bipush 45 i53_43 rfl rfl (by decide) ?_
          refine X.goto 50 i53_45 rfl rfl ?_
          refine X.cut [] i53_50 rfl ?_
          refine X.iconst 51 i53_50 rfl rfl (by decide) ?_
          refine X.callv 54 [zi 22, zi 0] [] [(0, zr g0 8), (1, zi 22), (2, zi 0)] i53_51 rfl (by decide) rfl rfl (by omega) rfl rfl (by decide) rfl t54 (Nat.le_of_ble_eq_true rfl) (Nat.le_of_ble_eq_true rfl) rfl ?_
          refine X.aload_n 1 i54_0 rfl rfl rfl ?_
          refine X.getR 4 i54_1 rfl rfl (by decide) rfl rfl ?_
          refine X.aload_n 5 i54_4 rfl rfl rfl ?_
          refine X.getI 8 9 i54_5 rfl rfl (by decide) rfl rfl rfl ?_
          have h791 := r8_9 hJ753 g0
          refine X.iload_n 9 i54_8 rfl rfl rfl ?_
          refine X.iload_n 10 i54_9 rfl rfl rfl ?_
          refine X.callv 13 [zi (m752 g0 8 9), zi 22, zi 0] [] [(0, zr g0 37), (1, zi (m752 g0 8 9)), (2, zi 22), (3, zi 0)] i54_10 rfl (by decide) rfl rfl (by omega) rfl rfl (by decide) rfl t55 (Nat.le_of_ble_eq_true rfl) (Nat.le_of_ble_eq_true rfl) rfl ?_
          refine X.aload_n 1 i55_0 rfl rfl rfl ?_
          refine X.getI 4 1 i55_1 rfl rfl (by decide) rfl rfl rfl ?_
          have h792 := r37_1 hJ753 g0
          refine X.bipush 6 i55_4 rfl rfl (by decide) ?_
          refine X.irem 7 i55_6 rfl rfl (by omega) ?_
          refine X.iconst 8 i55_7 rfl rfl (by decide) ?_
          refine X.imul 9 i55_8 rfl rfl (by omega) ?_
          refine X.istore 11 [(0, zr g0 37), (1, zi (m752 g0 8 9)), (2, zi 22), (3, zi 0), (4, zi (((m752 g0 37 1) % 40) * 3))] i55_9 rfl rfl rfl ?_
          refine X.aload_n 12 i55_11 rfl rfl rfl ?_
          refine X.getR 15 i55_12 rfl rfl (by decide) rfl rfl ?_
          refine X.iload 17 i55_15 rfl rfl rfl ?_
          refine X.iload_n 18 i55_17 rfl rfl rfl ?_
          refine X.iast' 19 i55_18 rfl rfl (by decide) rfl (by omega) (fun hrm793 m793 hm793 => ?_)
          have hJ794 := w38_0 hJ753 hm793 (by omega) hrm793
          have kum793 : m793 g0 8 9 = m752 g0 8 9 := by rw [hm793]; exact z_upd_o _ _ rfl
          refine X.aload_n 20 i55_19 rfl rfl rfl ?_
          refine X.getR 23 i55_20 rfl rfl (by decide) rfl rfl ?_
          refine X.iload 25 i55_23 rfl rfl rfl ?_
          refine X.iconst 26 i55_25 rfl rfl (by decide) ?_
          refine X.iadd 27 i55_26 rfl rfl (by omega) ?_
          refine X.iload_n 28 i55_27 rfl rfl rfl ?_
          refine X.iast' 29 i55_28 rfl rfl (by decide) rfl (by omega) (fun hrm795 m795 hm795 => ?_)
          have hJ796 := w38_0 hJ794 hm795 (by omega) hrm795
          have kum795 : m795 g0 8 9 = m793 g0 8 9 := by rw [hm795]; exact z_upd_o _ _ rfl
          refine X.aload_n 30 i55_29 rfl rfl rfl ?_
          refine X.getR 33 i55_30 rfl rfl (by decide) rfl rfl ?_
          refine X.iload 35 i55_33 rfl rfl rfl ?_
          refine X.iconst 36 i55_35 rfl rfl (by decide) ?_
          refine X.iadd 37 i55_36 rfl rfl (by omega) ?_
          refine X.iload_n 38 i55_37 rfl rfl rfl ?_
          refine X.iast' 39 i55_38 rfl rfl (by decide) rfl (by omega) (fun hrm797 m797 hm797 => ?_)
          have hJ798 := w38_0 hJ796 hm797 (by omega) hrm797
          have kum797 : m797 g0 8 9 = m795 g0 8 9 := by rw [hm797]; exact z_upd_o _ _ rfl
          refine X.aload_n 40 i55_39 rfl rfl rfl ?_
          refine X.dup 41 i55_40 rfl rfl rfl ?_
          refine X.getI 44 1 i55_41 rfl rfl (by decide) rfl rfl rfl ?_
          have h799 := r37_1 hJ798 g0
          refine X.iconst 45 i55_44 rfl rfl (by decide) ?_
          refine X.iadd 46 i55_45 rfl rfl (by omega) ?_
          refine X.putI' 49 1 i55_46 rfl rfl (by decide) rfl rfl rfl (fun hrm800 m800 hm800 => ?_)
          have hJ801 := w37_1 (hJ798.up (B' := B + 1) (by omega)) hm800 (by omega)
          have kum800 : m800 g0 8 9 = m797 g0 8 9 := by rw [hm800]; exact z_upd_o _ _ rfl
          refine X.retv i55_49 rfl t55 ?_
          show X (EE s) ((d - 1) - 1) 54 13 [(0, zr g0 8), (1, zi 22), (2, zi 0)] [] m800 _
          refine X.retv i54_13 rfl t54 ?_
          show X (EE s) (d - 1) 53 54 [] [] m800 _
          refine X.retv i53_54 rfl t53 ?_
          show X (EE s) d 26 71 [(0, zr g0 8), (1, zi a1), (2, zi v507), (3, zi v511), (4, zi v514)] [] m800 _
          refine X.aload_n 72 i26_71 rfl rfl rfl ?_
          refine X.getR 75 i26_72 rfl rfl (by decide) rfl rfl ?_
          refine X.iload 77 i26_75 rfl rfl rfl ?_
          refine X.iload_n 78 i26_77 rfl rfl rfl ?_
          refine X.aload_n 79 i26_78 rfl rfl rfl ?_
          refine X.getR 82 i26_79 rfl rfl (by decide) rfl rfl ?_
          refine X.callv 85 [] [zi v511, zi v514, zr g0 33] [(0, zr g0 9)] i26_82 rfl (by decide) rfl rfl (by omega) rfl rfl (by decide) rfl t38 (Nat.le_of_ble_eq_true rfl) (Nat.le_of_ble_eq_true rfl) rfl ?_
          refine X.aload_n 1 i38_0 rfl rfl rfl ?_
          refine X.getR 4 i38_1 rfl rfl (by decide) rfl rfl ?_
          refine X.iconst 5 i38_4 rfl rfl (by decide) ?_
          refine X.iald 6 i38_5 rfl rfl (by decide) rfl (by omega) ?_
          have h802 := r10_0 hJ801 g0 (i := 3) (by omega)
          refine X.reti i38_6 rfl t38 ?_
          show X (EE s) d 26 85 [(0, zr g0 8), (1, zi a1), (2, zi v507), (3, zi v511), (4, zi v514)] [zi (m800 g0 10 3), zi v511, zi v514, zr g0 33] m800 _
          refine X.aload_n 86 i26_85 rfl rfl rfl ?_
          refine X.getR 89 i26_86 rfl rfl (by decide) rfl rfl ?_
          refine X.aload_n 90 i26_89 rfl rfl rfl ?_
          refine X.getI 93 9 i26_90 rfl rfl (by decide) rfl rfl rfl ?_
          have h803 := r8_9 hJ801 g0
          refine X.callv 96 [zi v514, zi v511, zi (m800 g0 10 3), zr g0 37, zi (m800 g0 8 9)] [] [(0, zr g0 33), (1, zi v514), (2, zi v511), (3, zi (m800 g0 10 3)), (4, zr g0 37), (5, zi (m800 g0 8 9))] i26_93 rfl (by decide) rfl rfl (by omega) rfl rfl (by decide) rfl t56 (Nat.le_of_ble_eq_true rfl) (Nat.le_of_ble_eq_true rfl) rfl ?_
          refine c56_2 (B := B + 1) g0 g0 v514 v511 (m800 g0 10 3) (m800 g0 8 9) (by omega) (hJ801.up (by omega)) (by omega) (by omega) (by omega) (by omega) (by omega) (fun m804 hJ805 km804 => ?_)
          have kkm8040 := km804 0
          have kkm804g0 := km804 g0
          show X (EE s) d 26 96 [(0, zr g0 8), (1, zi a1), (2, zi v507), (3, zi v511), (4, zi v514)] [] m804 _
          refine X.aload_n 97 i26_96 rfl rfl rfl ?_
          refine X.getR 100 i26_97 rfl rfl (by decide) rfl rfl ?_
          refine X.iload 102 i26_100 rfl rfl rfl ?_
          refine X.aload_n 103 i26_102 rfl rfl rfl ?_
          refine X.getR 106 i26_103 rfl rfl (by decide) rfl rfl ?_
          refine X.getIr 109 3 i26_106 rfl rfl (by decide) rfl rfl rfl (fun h807 => ?_)
          refine X.callv 112 [zi v514, zi (m804 g0 33 3)] [] [(0, zr g0 27), (1, zi v514), (2, zi (m804 g0 33 3))] i26_109 rfl (by decide) rfl rfl (by omega) rfl rfl (by decide) rfl t58 (Nat.le_of_ble_eq_true rfl) (Nat.le_of_ble_eq_true rfl) rfl ?_
          refine X.aload_n 1 i58_0 rfl rfl rfl ?_
          refine X.dup 2 i58_1 rfl rfl rfl ?_
          refine X.getIr 5 6 i58_2 rfl rfl (by decide) rfl rfl rfl (fun h808 => ?_)
          refine X.iload_n 6 i58_5 rfl rfl rfl ?_
          refine X.iiF 7 .iadd (fun x y => x + y) i58_6 rfl rfl rfl (fun _ _ => rfl) (fun z809 hz809 => ?_)
          refine X.putI' 10 6 i58_7 rfl rfl (by decide) rfl rfl rfl (fun hrm810 m810 hm810 => ?_)
          have hJ811 := w27_3 hJ805 hm810 (by omega) hrm810
          have kum810 : m810 g0 8 9 = m804 g0 8 9 := by rw [hm810]; exact z_upd_o _ _ rfl
          refine X.aload_n 11 i58_10 rfl rfl rfl ?_
          refine X.dup 12 i58_11 rfl rfl rfl ?_
          refine X.getIr 15 8 i58_12 rfl rfl (by decide) rfl rfl rfl (fun h812 => ?_)
          refine X.iload_n 16 i58_15 rfl rfl rfl ?_
          refine X.iiF 17 .ior (fun x y => x ||| y) i58_16 rfl rfl rfl (fun _ _ => rfl) (fun z813 hz813 => ?_)
          refine X.putI' 20 8 i58_17 rfl rfl (by decide) rfl rfl rfl (fun hrm814 m814 hm814 => ?_)
          have hJ815 := w27_3 hJ811 hm814 (by omega) hrm814
          have kum814 : m814 g0 8 9 = m810 g0 8 9 := by rw [hm814]; exact z_upd_o _ _ rfl
          refine X.retv i58_20 rfl t58 ?_
          show X (EE s) d 26 112 [(0, zr g0 8), (1, zi a1), (2, zi v507), (3, zi v511), (4, zi v514)] [] m814 _
          refine X.aload_n 113 i26_112 rfl rfl rfl ?_
          refine X.getI 116 9 i26_113 rfl rfl (by decide) rfl rfl rfl ?_
          have h816 := r8_9 hJ815 g0
          refine X.ldc 118 i26_116 rfl rfl (by decide) ?_
          refine X.icmpge 131 121 i26_118 rfl rfl rfl (fun h817 => ?_) (fun h817 => ?_)
          · refine X.cut [(0, zr g0 8), (2, zi v507), (4, zi v514)] i26_131 rfl ?_
            refine X.aload_n 132 i26_131 rfl rfl rfl ?_
            refine X.iload_n 133 i26_132 rfl rfl rfl ?_
            refine X.callv 136 [zi v507] [] [(0, zr g0 8), (1, zi v507)] i26_133 rfl (by decide) rfl rfl (by omega) rfl rfl (by decide) rfl t59 (Nat.le_of_ble_eq_true rfl) (Nat.le_of_ble_eq_true rfl) rfl ?_
            refine c59_1 (B := B + 7) g0 v507 (by omega) (hJ815.up (by omega)) (by omega) (by omega) (fun m818 hJ819 km818 => ?_)
            have kkm8180 := km818 0
            have kkm818g0 := km818 g0
            show X (EE s) d 26 136 [(0, zr g0 8), (2, zi v507), (4, zi v514)] [] m818 _
            refine X.iload 138 i26_136 rfl rfl rfl ?_
            refine X.reti i26_138 rfl t26 ?_
            exact hQ v514 m818 (by first | trivial | omega) (hJ819.up (by omega))  (by omega) (by omega)
          · refine X.aload_n 122 i26_121 rfl rfl rfl ?_
            refine X.dup 123 i26_122 rfl rfl rfl ?_
            refine X.getI 126 9 i26_123 rfl rfl (by decide) rfl rfl rfl ?_
            refine X.iconst 127 i26_126 rfl rfl (by decide) ?_
            refine X.iadd 128 i26_127 rfl rfl (by omega) ?_
            refine X.putI' 131 9 i26_128 rfl rfl (by decide) rfl rfl rfl (fun hrm821 m821 hm821 => ?_)
            have hJ822 := w8_9 hJ815 hm821 (by omega)
            have em821 : m821 g0 8 9 = ((m814 g0 8 9) + 1) := by rw [hm821]; exact z_upd_same _ _ _ _ _
            refine X.cut [(0, zr g0 8), (2, zi v507), (4, zi v514)] i26_131 rfl ?_
            refine X.aload_n 132 i26_131 rfl rfl rfl ?_
            refine X.iload_n 133 i26_132 rfl rfl rfl ?_
            refine X.callv 136 [zi v507] [] [(0, zr g0 8), (1, zi v507)] i26_133 rfl (by decide) rfl rfl (by omega) rfl rfl (by decide) rfl t59 (Nat.le_of_ble_eq_true rfl) (Nat.le_of_ble_eq_true rfl) rfl ?_
            refine c59_1 (B := B + 7) g0 v507 (by omega) (hJ822.up (by omega)) (by omega) (by omega) (fun m823 hJ824 km823 => ?_)
            have kkm8230 := km823 0
            have kkm823g0 := km823 g0
            show X (EE s) d 26 136 [(0, zr g0 8), (2, zi v507), (4, zi v514)] [] m823 _
            refine X.iload 138 i26_136 rfl rfl rfl ?_
            refine X.reti i26_138 rfl t26 ?_
            exact hQ v514 m823 (by first | trivial | omega) (hJ824.up (by omega))  (by omega) (by omega)
theorem l25_4_1 {s : Nat × (Nat → Int32)} {m0 : zM} {d : Nat} {Q : Option zV → zM → Prop} (g0 : Nat) (y1 : Int) (BE : Int) (hE : BE ≤ 1000000000) (hd : 18 ≤ d) (hy1 : 1 ≤ y1 ∧ y1 ≤ 1)
    (K27 : ∀ (m' : zM) (B' : Int), J m0 B' m' → B' ≤ BE → X (EE s) d 25 27 [] [] m' Q) :
    ∀ (n : Nat) (y2 y3 : Int) (m : zM) (B : Int), J m0 B m → B + 8 * (n : Int) ≤ BE → ((-2147483648) ≤ y2 ∧ y2 ≤ 2147483647) → (0 ≤ y3 ∧ y3 ≤ 1) → 1 - y3 < (n : Int) → X (EE s) d 25 4 [(0, zr g0 8), (1, zi y1), (2, zi y2), (3, zi y3)] [] m Q := by
  intro n
  induction n with
  | zero =>
    intro y2 y3 m B hJ hB  hy2 hy3 hn
    exfalso
    omega
  | succ n ih =>
    intro y2 y3 m B hJ hB  hy2 hy3 hn
    refine X.iload_n 5 i25_4 rfl rfl rfl ?_
    refine X.iload_n 6 i25_5 rfl rfl rfl ?_
    refine X.icmpge 27 9 i25_6 rfl rfl rfl (fun h518 => ?_) (fun h518 => ?_)
    · refine X.cut [] i25_27 rfl ?_
      exact K27  m (B) (hJ.up (by omega)) (by omega)  
    · refine X.iload_n 10 i25_9 rfl rfl rfl ?_
      refine X.ifle 27 13 i25_10 rfl rfl rfl (fun h519 => ?_) (fun h519 => ?_)
      · refine X.cut [] i25_27 rfl ?_
        exact K27  m (B) (hJ.up (by omega)) (by omega)  
      · refine X.iload_n 14 i25_13 rfl rfl rfl ?_
        refine X.aload_n 15 i25_14 rfl rfl rfl ?_
        refine X.iload_n 16 i25_15 rfl rfl rfl ?_
        refine X.callv 19 [zi y2] [zi y2] [(0, zr g0 8), (1, zi y2)] i25_16 rfl (by decide) rfl rfl (by omega) rfl rfl (by decide) rfl t26 (Nat.le_of_ble_eq_true rfl) (Nat.le_of_ble_eq_true rfl) rfl ?_
        refine c26_3 (B := B) g0 y2 (by omega) (hJ.up (by omega)) (by omega) (by omega) (by omega) (fun v522 m520 hv522 hJ521 hqv5220 hqv5221 => ?_)
        show X (EE s) d 25 19 [(0, zr g0 8), (1, zi y1), (2, zi y2), (3, zi y3)] [zi v522, zi y2] m520 _
        refine X.iiF 20 .isub (fun x y => x - y) i25_19 rfl rfl rfl (fun _ _ => rfl) (fun z523 hz523 => ?_)
        refine X.istore_n 21 [(0, zr g0 8), (1, zi y1), (2, zi z523), (3, zi y3)] i25_20 rfl rfl rfl ?_
        refine X.iinc 24 [(0, zr g0 8), (1, zi y1), (2, zi z523), (3, zi (y3 + 1))] i25_21 rfl rfl rfl (by omega) rfl ?_
        refine X.goto 4 i25_24 rfl rfl ?_
        exact ih z523 (y3 + 1) m520 (B + 8) (hJ521.up (by omega)) (by omega)  (by omega) (by omega) (by omega)
-- WorkMeter$Meter.meterTimes
theorem c25_1 {s : Nat × (Nat → Int32)} {m0 m : zM} {B : Int} {d : Nat} {Q : Option zV → zM → Prop} (g0 : Nat) (a1 : Int) (hd : 18 ≤ d) (hJ : J m0 B m) (hB : B + 16 ≤ 1000000000) (ha1 : 1 ≤ a1 ∧ a1 ≤ 1) (hQ : ∀ m', J m0 (B + 16) m' → Q none m') : X (EE s) d 25 0 [(0, zr g0 8), (1, zi a1)] [] m Q := by
  refine X.iload_n 1 i25_0 rfl rfl rfl ?_
  refine X.istore_n 2 [(0, zr g0 8), (1, zi a1), (2, zi a1)] i25_1 rfl rfl rfl ?_
  refine X.iconst 3 i25_2 rfl rfl (by decide) ?_
  refine X.istore_n 4 [(0, zr g0 8), (1, zi a1), (2, zi a1), (3, zi 0)] i25_3 rfl rfl rfl ?_
  refine l25_4_1 (s := s) (m0 := m0) (d := d) g0 a1  (BE := B + 16) (by omega) (by omega) (by omega) (fun  m501 B502 hJ503 hBB502 => ?_) ((1 - 0 : Int).toNat + 1) a1 0 m (B) (hJ.up (by omega)) (by omega)  (by omega) (by omega) (by omega)
  refine X.retv i25_27 rfl t25 ?_
  exact hQ  m501  (hJ503.up (by omega))  
-- WorkMeter.sample
theorem c19_1 {s : Nat × (Nat → Int32)} {m0 m : zM} {B : Int} {d : Nat} {Q : Option zV → zM → Prop} (g0 : Nat) (a1 a2 : Int) (hd : 19 ≤ d) (hJ : J m0 B m) (hB : B + 16 ≤ 1000000000) (ha1 : (-2147483648) ≤ a1 ∧ a1 ≤ 2147483647) (ha2 : (-2147483648) ≤ a2 ∧ a2 ≤ 2147483647) (hQ : ∀ (v : Int) m', ((-1) ≤ v ∧ v ≤ 47) → J m0 (B + 16) m' → Q (some (zi v)) m') : X (EE s) d 19 0 [(0, zr g0 40), (1, zi a1), (2, zi a2)] [] m Q := by
  refine X.iload_n 1 i19_0 rfl rfl rfl ?_
  refine X.sipush 4 i19_1 rfl rfl (by decide) ?_
  refine X.icmplt 28 7 i19_4 rfl rfl rfl (fun h501 => ?_) (fun h501 => ?_)
  · refine X.cut [] i19_28 rfl ?_
    refine X.iconst 29 i19_28 rfl rfl (by decide) ?_
    refine X.reti i19_29 rfl t19 ?_
    exact hQ (-1) m (by first | trivial | omega) (hJ.up (by omega))  
  · refine X.iload_n 8 i19_7 rfl rfl rfl ?_
    refine X.sipush 11 i19_8 rfl rfl (by decide) ?_
    refine X.icmpgt 28 14 i19_11 rfl rfl rfl (fun h502 => ?_) (fun h502 => ?_)
    · refine X.cut [] i19_28 rfl ?_
      refine X.iconst 29 i19_28 rfl rfl (by decide) ?_
      refine X.reti i19_29 rfl t19 ?_
      exact hQ (-1) m (by first | trivial | omega) (hJ.up (by omega))  
    · refine X.iload_n 15 i19_14 rfl rfl rfl ?_
      refine X.sipush 18 i19_15 rfl rfl (by decide) ?_
      refine X.icmplt 28 21 i19_18 rfl rfl rfl (fun h503 => ?_) (fun h503 => ?_)
      · refine X.cut [] i19_28 rfl ?_
        refine X.iconst 29 i19_28 rfl rfl (by decide) ?_
        refine X.reti i19_29 rfl t19 ?_
        exact hQ (-1) m (by first | trivial | omega) (hJ.up (by omega))  
      · refine X.iload_n 22 i19_21 rfl rfl rfl ?_
        refine X.sipush 25 i19_22 rfl rfl (by decide) ?_
        refine X.icmple 30 28 i19_25 rfl rfl rfl (fun h504 => ?_) (fun h504 => ?_)
        · refine X.aload_n 31 i19_30 rfl rfl rfl ?_
          refine X.getF 34 i19_31 rfl rfl (by decide) rfl rfl ?_
          refine X.getR 37 i19_34 rfl rfl (by decide) rfl rfl ?_
          refine X.iload_n 38 i19_37 rfl rfl rfl ?_
          refine X.iload_n 39 i19_38 rfl rfl rfl ?_
          refine X.callv 42 [zi a1, zi a2] [] [(0, zr 0 19), (1, zi a1), (2, zi a2)] i19_39 rfl (by decide) rfl rfl (by omega) rfl rfl (by decide) rfl t20 (Nat.le_of_ble_eq_true rfl) (Nat.le_of_ble_eq_true rfl) rfl ?_
          refine c20_1 (B := B) 0 a1 a2 (by omega) (hJ.up (by omega)) (by omega) (by omega) (by omega) (fun v507 m505 hv507 hJ506 km505 => ?_)
          show X (EE s) d 19 42 [(0, zr g0 40), (1, zi a1), (2, zi a2)] [zi v507] m505 _
          refine X.ifeq 53 45 i19_42 rfl rfl rfl (fun h508 => ?_) (fun h508 => ?_)
          · refine X.cut [(0, zr g0 40)] i19_53 rfl ?_
            refine X.aload_n 54 i19_53 rfl rfl rfl ?_
            refine X.getF 57 i19_54 rfl rfl (by decide) rfl rfl ?_
            refine X.getR 60 i19_57 rfl rfl (by decide) rfl rfl ?_
            refine X.getI 63 5 i19_60 rfl rfl (by decide) rfl rfl rfl ?_
            have h509 := r19_5 hJ506 0
            refine X.reti i19_63 rfl t19 ?_
            exact hQ (m505 0 19 5) m505 (by first | trivial | omega) (hJ506.up (by omega))  
          · refine X.aload_n 46 i19_45 rfl rfl rfl ?_
            refine X.getF 49 i19_46 rfl rfl (by decide) rfl rfl ?_
            refine X.iconst 50 i19_49 rfl rfl (by decide) ?_
            refine X.callv 53 [zi 1] [] [(0, zr 0 8), (1, zi 1)] i19_50 rfl (by decide) rfl rfl (by omega) rfl rfl (by decide) rfl t25 (Nat.le_of_ble_eq_true rfl) (Nat.le_of_ble_eq_true rfl) rfl ?_
            refine c25_1 (B := B) 0 1 (by omega) (hJ506.up (by omega)) (by omega) (by omega) (fun m510 hJ511 => ?_)
            show X (EE s) d 19 53 [(0, zr g0 40), (1, zi a1), (2, zi a2)] [] m510 _
            refine X.cut [(0, zr g0 40)] i19_53 rfl ?_
            refine X.aload_n 54 i19_53 rfl rfl rfl ?_
            refine X.getF 57 i19_54 rfl rfl (by decide) rfl rfl ?_
            refine X.getR 60 i19_57 rfl rfl (by decide) rfl rfl ?_
            refine X.getI 63 5 i19_60 rfl rfl (by decide) rfl rfl rfl ?_
            have h513 := r19_5 hJ511 0
            refine X.reti i19_63 rfl t19 ?_
            exact hQ (m510 0 19 5) m510 (by first | trivial | omega) (hJ511.up (by omega))  
        · refine X.cut [] i19_28 rfl ?_
          refine X.iconst 29 i19_28 rfl rfl (by decide) ?_
          refine X.reti i19_29 rfl t19 ?_
          exact hQ (-1) m (by first | trivial | omega) (hJ.up (by omega))  
theorem l205_139_1 {s : Nat × (Nat → Int32)} {m0 : zM} {d : Nat} {Q : Option zV → zM → Prop} (g0 : Nat) (T9 : Nat → Int) (BE : Int) (hE : BE ≤ 1000000000) (hd : 13 ≤ d)
    (K173 : ∀ (m' : zM) (B' : Int), J m0 B' m' → B' ≤ BE → (∀ g, m' g 8 9 = T9 g) → X (EE s) d 205 173 [(0, zr g0 44)] [] m' Q) :
    ∀ (n : Nat) (y4 : Int) (m : zM) (B : Int), J m0 B m → B + 0 * (n : Int) ≤ BE → (∀ g, m g 8 9 = T9 g) → (0 ≤ y4 ∧ y4 ≤ 96) → 96 - y4 < (n : Int) → X (EE s) d 205 139 [(0, zr g0 44), (4, zi y4)] [] m Q := by
  intro n
  induction n with
  | zero =>
    intro y4 m B hJ hB hT hy4 hn
    exfalso
    omega
  | succ n ih =>
    intro y4 m B hJ hB hT hy4 hn
    refine X.iload 141 i205_139 rfl rfl rfl ?_
    refine X.bipush 143 i205_141 rfl rfl (by decide) ?_
    refine X.icmpge 173 146 i205_143 rfl rfl rfl (fun h504 => ?_) (fun h504 => ?_)
    · refine X.cut [(0, zr g0 44)] i205_173 rfl ?_
      exact K173  m (B) (hJ.up (by omega)) (by omega) (fun g => by simp only [hT]) 
    · refine X.aload_n 147 i205_146 rfl rfl rfl ?_
      refine X.getF 150 i205_147 rfl rfl (by decide) rfl rfl ?_
      refine X.bipush 152 i205_150 rfl rfl (by decide) ?_
      refine X.iload 154 i205_152 rfl rfl rfl ?_
      refine X.iadd 155 i205_154 rfl rfl (by omega) ?_
      refine X.aload_n 156 i205_155 rfl rfl rfl ?_
      refine X.getF 159 i205_156 rfl rfl (by decide) rfl rfl ?_
      refine X.sipush 162 i205_159 rfl rfl (by decide) ?_
      refine X.iload 164 i205_162 rfl rfl rfl ?_
      refine X.iadd 165 i205_164 rfl rfl (by omega) ?_
      refine X.lald 166 i205_165 rfl rfl (by decide) rfl (by omega) ?_
      refine X.last' 167 i205_166 rfl rfl (by decide) rfl (by omega) (fun hrm505 m505 hm505 => ?_)
      have hJ506 := w45_19 hJ hm505 (by omega) hrm505
      have km505 : ∀ g, m505 g 8 9 = m g 8 9 := fun g9 => by rw [hm505]; exact z_upd_o _ _ rfl
      refine X.iinc 170 [(0, zr g0 44), (4, zi (y4 + 1))] i205_167 rfl rfl rfl (by omega) rfl ?_
      refine X.goto 139 i205_170 rfl rfl ?_
      exact ih (y4 + 1) m505 (B) (hJ506.up (by omega)) (by omega) (fun g => by simp only [km505, hT]) (by omega) (by omega)
theorem l213_5_1 {s : Nat × (Nat → Int32)} {m0 m : zM} {B : Int} {d : Nat} {Q : Option zV → zM → Prop} (g0 : Nat) (y1 y2 : Int) (hd : 13 ≤ d) (hJ : J m0 B m) (hB9 : B ≤ 1000000000) (hy1 : 95 ≤ y1 ∧ y1 ≤ 143) (hy2 : 0 ≤ y2 ∧ y2 ≤ 2)
    (K48 : ∀ (x3 : Int) , (True) → X (EE s) d 213 48 [(3, zl x3)] [] m Q) :
    ∀ (n : Nat) (y3 y5 : Int) , (0 ≤ y5 ∧ y5 ≤ 16) → 16 - y5 < (n : Int) → X (EE s) d 213 5 [(0, zr g0 44), (1, zi y1), (2, zi y2), (3, zl y3), (5, zi y5)] [] m Q := by
  intro n
  induction n with
  | zero =>
    intro y3 y5 hy5 hn
    exfalso
    omega
  | succ n ih =>
    intro y3 y5 hy5 hn
    refine X.iload 7 i213_5 rfl rfl rfl ?_
    refine X.aload_n 8 i213_7 rfl rfl rfl ?_
    refine X.callv 11 [] [zi y5] [(0, zr g0 44)] i213_8 rfl (by decide) rfl rfl (by omega) rfl rfl (by decide) rfl t211 (Nat.le_of_ble_eq_true rfl) (Nat.le_of_ble_eq_true rfl) rfl ?_
    refine X.aload_n 1 i211_0 rfl rfl rfl ?_
    refine X.getF 4 i211_1 rfl rfl (by decide) rfl rfl ?_
    refine X.iconst 5 i211_4 rfl rfl (by decide) ?_
    refine X.lald 6 i211_5 rfl rfl (by decide) rfl (by omega) ?_
    have h509 := r45_2 hJ 4
    refine X.l2i 7 i211_6 rfl rfl (by omega) ?_
    refine X.reti i211_7 rfl t211 ?_
    show X (EE s) d 213 11 [(0, zr g0 44), (1, zi y1), (2, zi y2), (3, zl y3), (5, zi y5)] [zi (m 4 45 2), zi y5] m _
    refine X.icmpge 48 14 i213_11 rfl rfl rfl (fun h510 => ?_) (fun h510 => ?_)
    · refine X.cut [(3, zl y3)] i213_48 rfl ?_
      exact K48 y3 (by first | trivial | omega)
    · refine X.lload_n 15 i213_14 rfl rfl rfl ?_
      refine X.aload_n 16 i213_15 rfl rfl rfl ?_
      refine X.getF 19 i213_16 rfl rfl (by decide) rfl rfl ?_
      refine X.iload_n 20 i213_19 rfl rfl rfl ?_
      refine X.iload_n 21 i213_20 rfl rfl rfl ?_
      refine X.iload 23 i213_21 rfl rfl rfl ?_
      refine X.calls 26 [zi y1, zi y2, zi y5] [zr 4 45, zl y3] [(0, zi y1), (1, zi y2), (2, zi y5)] i213_23 (by decide) rfl rfl (by omega) rfl rfl t207 (Nat.le_of_ble_eq_true rfl) (Nat.le_of_ble_eq_true rfl) rfl ?_
      refine X.iload_n 1 i207_0 rfl rfl rfl ?_
      refine X.bipush 3 i207_1 rfl rfl (by decide) ?_
      refine X.iload_n 4 i207_3 rfl rfl rfl ?_
      refine X.imul 5 i207_4 rfl rfl (by omega) ?_
      refine X.iadd 6 i207_5 rfl rfl (by omega) ?_
      refine X.iload_n 7 i207_6 rfl rfl rfl ?_
      refine X.iadd 8 i207_7 rfl rfl (by omega) ?_
      refine X.reti i207_8 rfl t207 ?_
      show X (EE s) d 213 26 [(0, zr g0 44), (1, zi y1), (2, zi y2), (3, zl y3), (5, zi y5)] [zi ((y1 + (16 * y2)) + y5), zr 4 45, zl y3] m _
      refine X.lald 27 i213_26 rfl rfl (by decide) rfl (by omega) ?_
      refine X.aload_n 28 i213_27 rfl rfl rfl ?_
      refine X.getF 31 i213_28 rfl rfl (by decide) rfl rfl ?_
      refine X.iload_n 32 i213_31 rfl rfl rfl ?_
      refine X.iload_n 33 i213_32 rfl rfl rfl ?_
      refine X.iload 35 i213_33 rfl rfl rfl ?_
      refine X.calls 38 [zi y1, zi y2, zi y5] [zr 4 45, zl (m 4 45 ((y1 + (16 * y2)) + y5)), zl y3] [(0, zi y1), (1, zi y2), (2, zi y5)] i213_35 (by decide) rfl rfl (by omega) rfl rfl t207 (Nat.le_of_ble_eq_true rfl) (Nat.le_of_ble_eq_true rfl) rfl ?_
      refine X.iload_n 1 i207_0 rfl rfl rfl ?_
      refine X.bipush 3 i207_1 rfl rfl (by decide) ?_
      refine X.iload_n 4 i207_3 rfl rfl rfl ?_
      refine X.imul 5 i207_4 rfl rfl (by omega) ?_
      refine X.iadd 6 i207_5 rfl rfl (by omega) ?_
      refine X.iload_n 7 i207_6 rfl rfl rfl ?_
      refine X.iadd 8 i207_7 rfl rfl (by omega) ?_
      refine X.reti i207_8 rfl t207 ?_
      show X (EE s) d 213 38 [(0, zr g0 44), (1, zi y1), (2, zi y2), (3, zl y3), (5, zi y5)] [zi ((y1 + (16 * y2)) + y5), zr 4 45, zl (m 4 45 ((y1 + (16 * y2)) + y5)), zl y3] m _
      refine X.lald 39 i213_38 rfl rfl (by decide) rfl (by omega) ?_
      refine X.llF 40 .lmul (fun x y => x * y) i213_39 rfl rfl rfl (fun _ _ => rfl) (fun z511 hz511 => ?_)
      refine X.llF 41 .ladd (fun x y => x + y) i213_40 rfl rfl rfl (fun _ _ => rfl) (fun z512 hz512 => ?_)
      refine X.lstore_n 42 [(0, zr g0 44), (1, zi y1), (2, zi y2), (3, zl z512), (5, zi y5)] i213_41 rfl rfl rfl ?_
      refine X.iinc 45 [(0, zr g0 44), (1, zi y1), (2, zi y2), (3, zl z512), (5, zi (y5 + 1))] i213_42 rfl rfl rfl (by omega) rfl ?_
      refine X.goto 5 i213_45 rfl rfl ?_
      exact ih z512 (y5 + 1) (by omega) (by omega)
-- WorkMeterModel.squares
theorem c213_1 {s : Nat × (Nat → Int32)} {m0 m : zM} {B : Int} {d : Nat} {Q : Option zV → zM → Prop} (g0 : Nat) (a1 a2 : Int) (hd : 13 ≤ d) (hJ : J m0 B m) (hB : B + 0 ≤ 1000000000) (ha1 : 95 ≤ a1 ∧ a1 ≤ 143) (ha2 : 0 ≤ a2 ∧ a2 ≤ 2) (hQ : ∀ (v : Int), (True) → Q (some (zl v)) m) : X (EE s) d 213 0 [(0, zr g0 44), (1, zi a1), (2, zi a2)] [] m Q := by
  refine X.lconst (y := 0) 1 i213_0 rfl rfl rfl ?_
  refine X.lstore_n 2 [(0, zr g0 44), (1, zi a1), (2, zi a2), (3, zl 0)] i213_1 rfl rfl rfl ?_
  refine X.iconst 3 i213_2 rfl rfl (by decide) ?_
  refine X.istore 5 [(0, zr g0 44), (1, zi a1), (2, zi a2), (3, zl 0), (5, zi 0)] i213_3 rfl rfl rfl ?_
  refine l213_5_1 (s := s) (m0 := m0) (m := m) (B := B) (d := d) g0 a1 a2 (by omega) (hJ.up (by omega)) (by omega) (by omega) (by omega) (fun y501 hby501 => ?_) ((16 - 0 : Int).toNat + 1) 0 0 (by omega) (by omega)
  refine X.lload_n 49 i213_48 rfl rfl rfl ?_
  refine X.retl i213_49 rfl t213 ?_
  exact hQ y501 (by first | trivial | omega) 
theorem l212_5_1 {s : Nat × (Nat → Int32)} {m0 m : zM} {B : Int} {d : Nat} {Q : Option zV → zM → Prop} (g0 : Nat) (y1 : Int) (hd : 13 ≤ d) (hJ : J m0 B m) (hB9 : B ≤ 1000000000) (hy1 : 0 ≤ y1 ∧ y1 ≤ 2)
    (K63 : ∀ (x2 : Int) , (True) → X (EE s) d 212 63 [(2, zl x2)] [] m Q) :
    ∀ (n : Nat) (y2 y4 : Int) , (0 ≤ y4 ∧ y4 ≤ 16) → 16 - y4 < (n : Int) → X (EE s) d 212 5 [(0, zr g0 44), (1, zi y1), (2, zl y2), (4, zi y4)] [] m Q := by
  intro n
  induction n with
  | zero =>
    intro y2 y4 hy4 hn
    exfalso
    omega
  | succ n ih =>
    intro y2 y4 hy4 hn
    refine X.iload 7 i212_5 rfl rfl rfl ?_
    refine X.aload_n 8 i212_7 rfl rfl rfl ?_
    refine X.callv 11 [] [zi y4] [(0, zr g0 44)] i212_8 rfl (by decide) rfl rfl (by omega) rfl rfl (by decide) rfl t211 (Nat.le_of_ble_eq_true rfl) (Nat.le_of_ble_eq_true rfl) rfl ?_
    refine X.aload_n 1 i211_0 rfl rfl rfl ?_
    refine X.getF 4 i211_1 rfl rfl (by decide) rfl rfl ?_
    refine X.iconst 5 i211_4 rfl rfl (by decide) ?_
    refine X.lald 6 i211_5 rfl rfl (by decide) rfl (by omega) ?_
    have h511 := r45_2 hJ 4
    refine X.l2i 7 i211_6 rfl rfl (by omega) ?_
    refine X.reti i211_7 rfl t211 ?_
    show X (EE s) d 212 11 [(0, zr g0 44), (1, zi y1), (2, zl y2), (4, zi y4)] [zi (m 4 45 2), zi y4] m _
    refine X.icmpge 63 14 i212_11 rfl rfl rfl (fun h512 => ?_) (fun h512 => ?_)
    · refine X.cut [(2, zl y2)] i212_63 rfl ?_
      exact K63 y2 (by first | trivial | omega)
    · refine X.lload_n 15 i212_14 rfl rfl rfl ?_
      refine X.aload_n 16 i212_15 rfl rfl rfl ?_
      refine X.getF 19 i212_16 rfl rfl (by decide) rfl rfl ?_
      refine X.bipush 21 i212_19 rfl rfl (by decide) ?_
      refine X.iload_n 22 i212_21 rfl rfl rfl ?_
      refine X.iload 24 i212_22 rfl rfl rfl ?_
      refine X.calls 27 [zi 95, zi y1, zi y4] [zr 4 45, zl y2] [(0, zi 95), (1, zi y1), (2, zi y4)] i212_24 (by decide) rfl rfl (by omega) rfl rfl t207 (Nat.le_of_ble_eq_true rfl) (Nat.le_of_ble_eq_true rfl) rfl ?_
      refine X.iload_n 1 i207_0 rfl rfl rfl ?_
      refine X.bipush 3 i207_1 rfl rfl (by decide) ?_
      refine X.iload_n 4 i207_3 rfl rfl rfl ?_
      refine X.imul 5 i207_4 rfl rfl (by omega) ?_
      refine X.iadd 6 i207_5 rfl rfl (by omega) ?_
      refine X.iload_n 7 i207_6 rfl rfl rfl ?_
      refine X.iadd 8 i207_7 rfl rfl (by omega) ?_
      refine X.reti i207_8 rfl t207 ?_
      show X (EE s) d 212 27 [(0, zr g0 44), (1, zi y1), (2, zl y2), (4, zi y4)] [zi ((95 + (16 * y1)) + y4), zr 4 45, zl y2] m _
      refine X.lald 28 i212_27 rfl rfl (by decide) rfl (by omega) ?_
      refine X.aload_n 29 i212_28 rfl rfl rfl ?_
      refine X.getF 32 i212_29 rfl rfl (by decide) rfl rfl ?_
      refine X.sipush 35 i212_32 rfl rfl (by decide) ?_
      refine X.iload_n 36 i212_35 rfl rfl rfl ?_
      refine X.iload 38 i212_36 rfl rfl rfl ?_
      refine X.aload_n 39 i212_38 rfl rfl rfl ?_
      refine X.callv 42 [] [zi y4, zi y1, zi 143, zr 4 45, zl (m 4 45 ((95 + (16 * y1)) + y4)), zl y2] [(0, zr g0 44)] i212_39 rfl (by decide) rfl rfl (by omega) rfl rfl (by decide) rfl t211 (Nat.le_of_ble_eq_true rfl) (Nat.le_of_ble_eq_true rfl) rfl ?_
      refine X.aload_n 1 i211_0 rfl rfl rfl ?_
      refine X.getF 4 i211_1 rfl rfl (by decide) rfl rfl ?_
      refine X.iconst 5 i211_4 rfl rfl (by decide) ?_
      refine X.lald 6 i211_5 rfl rfl (by decide) rfl (by omega) ?_
      refine X.l2i 7 i211_6 rfl rfl (by omega) ?_
      refine X.reti i211_7 rfl t211 ?_
      show X (EE s) d 212 42 [(0, zr g0 44), (1, zi y1), (2, zl y2), (4, zi y4)] [zi (m 4 45 2), zi y4, zi y1, zi 143, zr 4 45, zl (m 4 45 ((95 + (16 * y1)) + y4)), zl y2] m _
      refine X.iconst 43 i212_42 rfl rfl (by decide) ?_
      refine X.idiv 44 i212_43 rfl rfl (by omega) ?_
      refine X.iadd 45 i212_44 rfl rfl (by omega) ?_
      refine X.aload_n 46 i212_45 rfl rfl rfl ?_
      refine X.callv 49 [] [zi (y4 + ((m 4 45 2) / 4)), zi y1, zi 143, zr 4 45, zl (m 4 45 ((95 + (16 * y1)) + y4)), zl y2] [(0, zr g0 44)] i212_46 rfl (by decide) rfl rfl (by omega) rfl rfl (by decide) rfl t211 (Nat.le_of_ble_eq_true rfl) (Nat.le_of_ble_eq_true rfl) rfl ?_
      refine X.aload_n 1 i211_0 rfl rfl rfl ?_
      refine X.getF 4 i211_1 rfl rfl (by decide) rfl rfl ?_
      refine X.iconst 5 i211_4 rfl rfl (by decide) ?_
      refine X.lald 6 i211_5 rfl rfl (by decide) rfl (by omega) ?_
      refine X.l2i 7 i211_6 rfl rfl (by omega) ?_
      refine X.reti i211_7 rfl t211 ?_
      show X (EE s) d 212 49 [(0, zr g0 44), (1, zi y1), (2, zl y2), (4, zi y4)] [zi (m 4 45 2), zi (y4 + ((m 4 45 2) / 4)), zi y1, zi 143, zr 4 45, zl (m 4 45 ((95 + (16 * y1)) + y4)), zl y2] m _
      refine X.irem 50 i212_49 rfl rfl (by omega) ?_
      have hz513 := z_modb (x := (y4 + ((m 4 45 2) / 4))) (y := (m 4 45 2)) (by omega) (by omega)
      obtain ⟨z513, ez513⟩ : ∃ z, z = ((y4 + ((m 4 45 2) / 4)) % (m 4 45 2)) := ⟨_, rfl⟩
      rw [← ez513] at hz513 ⊢
      clear ez513
      refine X.calls 53 [zi 143, zi y1, zi z513] [zr 4 45, zl (m 4 45 ((95 + (16 * y1)) + y4)), zl y2] [(0, zi 143), (1, zi y1), (2, zi z513)] i212_50 (by decide) rfl rfl (by omega) rfl rfl t207 (Nat.le_of_ble_eq_true rfl) (Nat.le_of_ble_eq_true rfl) rfl ?_
      refine X.iload_n 1 i207_0 rfl rfl rfl ?_
      refine X.bipush 3 i207_1 rfl rfl (by decide) ?_
      refine X.iload_n 4 i207_3 rfl rfl rfl ?_
      refine X.imul 5 i207_4 rfl rfl (by omega) ?_
      refine X.iadd 6 i207_5 rfl rfl (by omega) ?_
      refine X.iload_n 7 i207_6 rfl rfl rfl ?_
      refine X.iadd 8 i207_7 rfl rfl (by omega) ?_
      refine X.reti i207_8 rfl t207 ?_
      show X (EE s) d 212 53 [(0, zr g0 44), (1, zi y1), (2, zl y2), (4, zi y4)] [zi ((143 + (16 * y1)) + z513), zr 4 45, zl (m 4 45 ((95 + (16 * y1)) + y4)), zl y2] m _
      refine X.lald 54 i212_53 rfl rfl (by decide) rfl (by omega) ?_
      refine X.llF 55 .lmul (fun x y => x * y) i212_54 rfl rfl rfl (fun _ _ => rfl) (fun z514 hz514 => ?_)
      refine X.llF 56 .ladd (fun x y => x + y) i212_55 rfl rfl rfl (fun _ _ => rfl) (fun z515 hz515 => ?_)
      refine X.lstore_n 57 [(0, zr g0 44), (1, zi y1), (2, zl z515), (4, zi y4)] i212_56 rfl rfl rfl ?_
      refine X.iinc 60 [(0, zr g0 44), (1, zi y1), (2, zl z515), (4, zi (y4 + 1))] i212_57 rfl rfl rfl (by omega) rfl ?_
      refine X.goto 5 i212_60 rfl rfl ?_
      exact ih z515 (y4 + 1) (by omega) (by omega)
-- WorkMeterModel.reactive
theorem c212_1 {s : Nat × (Nat → Int32)} {m0 m : zM} {B : Int} {d : Nat} {Q : Option zV → zM → Prop} (g0 : Nat) (a1 : Int) (hd : 13 ≤ d) (hJ : J m0 B m) (hB : B + 0 ≤ 1000000000) (ha1 : 0 ≤ a1 ∧ a1 ≤ 2) (hQ : ∀ (v : Int), (True) → Q (some (zl v)) m) : X (EE s) d 212 0 [(0, zr g0 44), (1, zi a1)] [] m Q := by
  refine X.lconst (y := 0) 1 i212_0 rfl rfl rfl ?_
  refine X.lstore_n 2 [(0, zr g0 44), (1, zi a1), (2, zl 0)] i212_1 rfl rfl rfl ?_
  refine X.iconst 3 i212_2 rfl rfl (by decide) ?_
  refine X.istore 5 [(0, zr g0 44), (1, zi a1), (2, zl 0), (4, zi 0)] i212_3 rfl rfl rfl ?_
  refine l212_5_1 (s := s) (m0 := m0) (m := m) (B := B) (d := d) g0 a1 (by omega) (hJ.up (by omega)) (by omega) (by omega) (fun y501 hby501 => ?_) ((16 - 0 : Int).toNat + 1) 0 0 (by omega) (by omega)
  refine X.lload_n 64 i212_63 rfl rfl rfl ?_
  refine X.retl i212_64 rfl t212 ?_
  exact hQ y501 (by first | trivial | omega) 
theorem l210_5_1 {s : Nat × (Nat → Int32)} {m0 m : zM} {B : Int} {d : Nat} {Q : Option zV → zM → Prop} (g0 : Nat) (y1 : Int) (hd : 13 ≤ d) (hJ : J m0 B m) (hB9 : B ≤ 1000000000) (hy1 : 0 ≤ y1 ∧ y1 ≤ 2)
    (K51 : ∀ (x2 : Int) , (True) → X (EE s) d 210 51 [(2, zl x2)] [] m Q) :
    ∀ (n : Nat) (y2 y4 : Int) , (0 ≤ y4 ∧ y4 ≤ 16) → 16 - y4 < (n : Int) → X (EE s) d 210 5 [(0, zr g0 44), (1, zi y1), (2, zl y2), (4, zi y4)] [] m Q := by
  intro n
  induction n with
  | zero =>
    intro y2 y4 hy4 hn
    exfalso
    omega
  | succ n ih =>
    intro y2 y4 hy4 hn
    refine X.iload 7 i210_5 rfl rfl rfl ?_
    refine X.aload_n 8 i210_7 rfl rfl rfl ?_
    refine X.callv 11 [] [zi y4] [(0, zr g0 44)] i210_8 rfl (by decide) rfl rfl (by omega) rfl rfl (by decide) rfl t211 (Nat.le_of_ble_eq_true rfl) (Nat.le_of_ble_eq_true rfl) rfl ?_
    refine X.aload_n 1 i211_0 rfl rfl rfl ?_
    refine X.getF 4 i211_1 rfl rfl (by decide) rfl rfl ?_
    refine X.iconst 5 i211_4 rfl rfl (by decide) ?_
    refine X.lald 6 i211_5 rfl rfl (by decide) rfl (by omega) ?_
    have h509 := r45_2 hJ 4
    refine X.l2i 7 i211_6 rfl rfl (by omega) ?_
    refine X.reti i211_7 rfl t211 ?_
    show X (EE s) d 210 11 [(0, zr g0 44), (1, zi y1), (2, zl y2), (4, zi y4)] [zi (m 4 45 2), zi y4] m _
    refine X.icmpge 51 14 i210_11 rfl rfl rfl (fun h510 => ?_) (fun h510 => ?_)
    · refine X.cut [(2, zl y2)] i210_51 rfl ?_
      exact K51 y2 (by first | trivial | omega)
    · refine X.lload_n 15 i210_14 rfl rfl rfl ?_
      refine X.aload_n 16 i210_15 rfl rfl rfl ?_
      refine X.getF 19 i210_16 rfl rfl (by decide) rfl rfl ?_
      refine X.bipush 21 i210_19 rfl rfl (by decide) ?_
      refine X.iload_n 22 i210_21 rfl rfl rfl ?_
      refine X.iload 24 i210_22 rfl rfl rfl ?_
      refine X.calls 27 [zi 95, zi y1, zi y4] [zr 4 45, zl y2] [(0, zi 95), (1, zi y1), (2, zi y4)] i210_24 (by decide) rfl rfl (by omega) rfl rfl t207 (Nat.le_of_ble_eq_true rfl) (Nat.le_of_ble_eq_true rfl) rfl ?_
      refine X.iload_n 1 i207_0 rfl rfl rfl ?_
      refine X.bipush 3 i207_1 rfl rfl (by decide) ?_
      refine X.iload_n 4 i207_3 rfl rfl rfl ?_
      refine X.imul 5 i207_4 rfl rfl (by omega) ?_
      refine X.iadd 6 i207_5 rfl rfl (by omega) ?_
      refine X.iload_n 7 i207_6 rfl rfl rfl ?_
      refine X.iadd 8 i207_7 rfl rfl (by omega) ?_
      refine X.reti i207_8 rfl t207 ?_
      show X (EE s) d 210 27 [(0, zr g0 44), (1, zi y1), (2, zl y2), (4, zi y4)] [zi ((95 + (16 * y1)) + y4), zr 4 45, zl y2] m _
      refine X.lald 28 i210_27 rfl rfl (by decide) rfl (by omega) ?_
      refine X.aload_n 29 i210_28 rfl rfl rfl ?_
      refine X.getF 32 i210_29 rfl rfl (by decide) rfl rfl ?_
      refine X.sipush 35 i210_32 rfl rfl (by decide) ?_
      refine X.iload_n 36 i210_35 rfl rfl rfl ?_
      refine X.iload 38 i210_36 rfl rfl rfl ?_
      refine X.calls 41 [zi 143, zi y1, zi y4] [zr 4 45, zl (m 4 45 ((95 + (16 * y1)) + y4)), zl y2] [(0, zi 143), (1, zi y1), (2, zi y4)] i210_38 (by decide) rfl rfl (by omega) rfl rfl t207 (Nat.le_of_ble_eq_true rfl) (Nat.le_of_ble_eq_true rfl) rfl ?_
      refine X.iload_n 1 i207_0 rfl rfl rfl ?_
      refine X.bipush 3 i207_1 rfl rfl (by decide) ?_
      refine X.iload_n 4 i207_3 rfl rfl rfl ?_
      refine X.imul 5 i207_4 rfl rfl (by omega) ?_
      refine X.iadd 6 i207_5 rfl rfl (by omega) ?_
      refine X.iload_n 7 i207_6 rfl rfl rfl ?_
      refine X.iadd 8 i207_7 rfl rfl (by omega) ?_
      refine X.reti i207_8 rfl t207 ?_
      show X (EE s) d 210 41 [(0, zr g0 44), (1, zi y1), (2, zl y2), (4, zi y4)] [zi ((143 + (16 * y1)) + y4), zr 4 45, zl (m 4 45 ((95 + (16 * y1)) + y4)), zl y2] m _
      refine X.lald 42 i210_41 rfl rfl (by decide) rfl (by omega) ?_
      refine X.llF 43 .lmul (fun x y => x * y) i210_42 rfl rfl rfl (fun _ _ => rfl) (fun z511 hz511 => ?_)
      refine X.llF 44 .ladd (fun x y => x + y) i210_43 rfl rfl rfl (fun _ _ => rfl) (fun z512 hz512 => ?_)
      refine X.lstore_n 45 [(0, zr g0 44), (1, zi y1), (2, zl z512), (4, zi y4)] i210_44 rfl rfl rfl ?_
      refine X.iinc 48 [(0, zr g0 44), (1, zi y1), (2, zl z512), (4, zi (y4 + 1))] i210_45 rfl rfl rfl (by omega) rfl ?_
      refine X.goto 5 i210_48 rfl rfl ?_
      exact ih z512 (y4 + 1) (by omega) (by omega)
-- WorkMeterModel.active
theorem c210_1 {s : Nat × (Nat → Int32)} {m0 m : zM} {B : Int} {d : Nat} {Q : Option zV → zM → Prop} (g0 : Nat) (a1 : Int) (hd : 13 ≤ d) (hJ : J m0 B m) (hB : B + 0 ≤ 1000000000) (ha1 : 0 ≤ a1 ∧ a1 ≤ 2) (hQ : ∀ (v : Int), (True) → Q (some (zl v)) m) : X (EE s) d 210 0 [(0, zr g0 44), (1, zi a1)] [] m Q := by
  refine X.lconst (y := 0) 1 i210_0 rfl rfl rfl ?_
  refine X.lstore_n 2 [(0, zr g0 44), (1, zi a1), (2, zl 0)] i210_1 rfl rfl rfl ?_
  refine X.iconst 3 i210_2 rfl rfl (by decide) ?_
  refine X.istore 5 [(0, zr g0 44), (1, zi a1), (2, zl 0), (4, zi 0)] i210_3 rfl rfl rfl ?_
  refine l210_5_1 (s := s) (m0 := m0) (m := m) (B := B) (d := d) g0 a1 (by omega) (hJ.up (by omega)) (by omega) (by omega) (fun y501 hby501 => ?_) ((16 - 0 : Int).toNat + 1) 0 0 (by omega) (by omega)
  refine X.lload_n 52 i210_51 rfl rfl rfl ?_
  refine X.retl i210_52 rfl t210 ?_
  exact hQ y501 (by first | trivial | omega) 
theorem l209_5_1 {s : Nat × (Nat → Int32)} {m0 m : zM} {B : Int} {d : Nat} {Q : Option zV → zM → Prop} (g0 : Nat) (y1 : Int) (hd : 14 ≤ d) (hJ : J m0 B m) (hB9 : B ≤ 1000000000) (hy1 : 0 ≤ y1 ∧ y1 ≤ 3)
    (K75 : ∀ (x2 : Int) , (True) → X (EE s) d 209 75 [(2, zl x2)] [] m Q) :
    ∀ (n : Nat) (y2 y4 : Int) , (0 ≤ y4 ∧ y4 ≤ 3) → 3 - y4 < (n : Int) → X (EE s) d 209 5 [(0, zr g0 44), (1, zi y1), (2, zl y2), (4, zi y4)] [] m Q := by
  intro n
  induction n with
  | zero =>
    intro y2 y4 hy4 hn
    exfalso
    omega
  | succ n ih =>
    intro y2 y4 hy4 hn
    refine X.iload 7 i209_5 rfl rfl rfl ?_
    refine X.aload_n 8 i209_7 rfl rfl rfl ?_
    refine X.callv 11 [] [zi y4] [(0, zr g0 44)] i209_8 rfl (by decide) rfl rfl (by omega) rfl rfl (by decide) rfl t206 (Nat.le_of_ble_eq_true rfl) (Nat.le_of_ble_eq_true rfl) rfl ?_
    refine X.aload_n 1 i206_0 rfl rfl rfl ?_
    refine X.getF 4 i206_1 rfl rfl (by decide) rfl rfl ?_
    refine X.iconst 5 i206_4 rfl rfl (by decide) ?_
    refine X.lald 6 i206_5 rfl rfl (by decide) rfl (by omega) ?_
    have h544 := r45_1 hJ 4
    refine X.l2i 7 i206_6 rfl rfl (by omega) ?_
    refine X.reti i206_7 rfl t206 ?_
    show X (EE s) d 209 11 [(0, zr g0 44), (1, zi y1), (2, zl y2), (4, zi y4)] [zi (m 4 45 1), zi y4] m _
    refine X.icmpge 75 14 i209_11 rfl rfl rfl (fun h545 => ?_) (fun h545 => ?_)
    · refine X.cut [(2, zl y2)] i209_75 rfl ?_
      exact K75 y2 (by first | trivial | omega)
    · refine X.lload_n 15 i209_14 rfl rfl rfl ?_
      refine X.iload_n 16 i209_15 rfl rfl rfl ?_
      refine X.ifne 28 19 i209_16 rfl rfl rfl (fun h546 => ?_) (fun h546 => ?_)
      · refine X.cut [(0, zr g0 44), (1, zi y1), (4, zi y4)] i209_28 rfl ?_
        refine X.iload_n 29 i209_28 rfl rfl rfl ?_
        refine X.iconst 30 i209_29 rfl rfl (by decide) ?_
        refine X.icmpne 42 33 i209_30 rfl rfl rfl (fun h547 => ?_) (fun h547 => ?_)
        · refine X.iload_n 43 i209_42 rfl rfl rfl ?_
          refine X.iconst 44 i209_43 rfl rfl (by decide) ?_
          refine X.icmpne 58 47 i209_44 rfl rfl rfl (fun h548 => ?_) (fun h548 => ?_)
          · refine X.aload_n 59 i209_58 rfl rfl rfl ?_
            refine X.sipush 62 i209_59 rfl rfl (by decide) ?_
            refine X.iload 64 i209_62 rfl rfl rfl ?_
            refine X.callv 67 [zi 143, zi y4] [zl y2] [(0, zr g0 44), (1, zi 143), (2, zi y4)] i209_64 rfl (by decide) rfl rfl (by omega) rfl rfl (by decide) rfl t213 (Nat.le_of_ble_eq_true rfl) (Nat.le_of_ble_eq_true rfl) rfl ?_
            refine c213_1 (B := B) g0 143 y4 (by omega) (hJ.up (by omega)) (by omega) (by omega) (by omega) (fun v551 hv551 => ?_)
            show X (EE s) d 209 67 [(0, zr g0 44), (1, zi y1), (4, zi y4)] [zl v551, zl y2] m _
            refine X.llF 68 .ladd (fun x y => x + y) i209_67 rfl rfl rfl (fun _ _ => rfl) (fun z552 hz552 => ?_)
            refine X.lstore_n 69 [(0, zr g0 44), (1, zi y1), (2, zl z552), (4, zi y4)] i209_68 rfl rfl rfl ?_
            refine X.iinc 72 [(0, zr g0 44), (1, zi y1), (2, zl z552), (4, zi (y4 + 1))] i209_69 rfl rfl rfl (by omega) rfl ?_
            refine X.goto 5 i209_72 rfl rfl ?_
            exact ih z552 (y4 + 1) (by omega) (by omega)
          · refine X.aload_n 48 i209_47 rfl rfl rfl ?_
            refine X.bipush 50 i209_48 rfl rfl (by decide) ?_
            refine X.iload 52 i209_50 rfl rfl rfl ?_
            refine X.callv 55 [zi 95, zi y4] [zl y2] [(0, zr g0 44), (1, zi 95), (2, zi y4)] i209_52 rfl (by decide) rfl rfl (by omega) rfl rfl (by decide) rfl t213 (Nat.le_of_ble_eq_true rfl) (Nat.le_of_ble_eq_true rfl) rfl ?_
            refine c213_1 (B := B) g0 95 y4 (by omega) (hJ.up (by omega)) (by omega) (by omega) (by omega) (fun v555 hv555 => ?_)
            show X (EE s) d 209 55 [(0, zr g0 44), (1, zi y1), (4, zi y4)] [zl v555, zl y2] m _
            refine X.goto 67 i209_55 rfl rfl ?_
            refine X.llF 68 .ladd (fun x y => x + y) i209_67 rfl rfl rfl (fun _ _ => rfl) (fun z556 hz556 => ?_)
            refine X.lstore_n 69 [(0, zr g0 44), (1, zi y1), (2, zl z556), (4, zi y4)] i209_68 rfl rfl rfl ?_
            refine X.iinc 72 [(0, zr g0 44), (1, zi y1), (2, zl z556), (4, zi (y4 + 1))] i209_69 rfl rfl rfl (by omega) rfl ?_
            refine X.goto 5 i209_72 rfl rfl ?_
            exact ih z556 (y4 + 1) (by omega) (by omega)
        · refine X.aload_n 34 i209_33 rfl rfl rfl ?_
          refine X.iload 36 i209_34 rfl rfl rfl ?_
          refine X.callv 39 [zi y4] [zl y2] [(0, zr g0 44), (1, zi y4)] i209_36 rfl (by decide) rfl rfl (by omega) rfl rfl (by decide) rfl t212 (Nat.le_of_ble_eq_true rfl) (Nat.le_of_ble_eq_true rfl) rfl ?_
          refine c212_1 (B := B) g0 y4 (by omega) (hJ.up (by omega)) (by omega) (by omega) (fun v559 hv559 => ?_)
          show X (EE s) d 209 39 [(0, zr g0 44), (1, zi y1), (4, zi y4)] [zl v559, zl y2] m _
          refine X.goto 67 i209_39 rfl rfl ?_
          refine X.llF 68 .ladd (fun x y => x + y) i209_67 rfl rfl rfl (fun _ _ => rfl) (fun z560 hz560 => ?_)
          refine X.lstore_n 69 [(0, zr g0 44), (1, zi y1), (2, zl z560), (4, zi y4)] i209_68 rfl rfl rfl ?_
          refine X.iinc 72 [(0, zr g0 44), (1, zi y1), (2, zl z560), (4, zi (y4 + 1))] i209_69 rfl rfl rfl (by omega) rfl ?_
          refine X.goto 5 i209_72 rfl rfl ?_
          exact ih z560 (y4 + 1) (by omega) (by omega)
      · refine X.aload_n 20 i209_19 rfl rfl rfl ?_
        refine X.iload 22 i209_20 rfl rfl rfl ?_
        refine X.callv 25 [zi y4] [zl y2] [(0, zr g0 44), (1, zi y4)] i209_22 rfl (by decide) rfl rfl (by omega) rfl rfl (by decide) rfl t210 (Nat.le_of_ble_eq_true rfl) (Nat.le_of_ble_eq_true rfl) rfl ?_
        refine c210_1 (B := B) g0 y4 (by omega) (hJ.up (by omega)) (by omega) (by omega) (fun v563 hv563 => ?_)
        show X (EE s) d 209 25 [(0, zr g0 44), (1, zi y1), (2, zl y2), (4, zi y4)] [zl v563, zl y2] m _
        refine X.goto 67 i209_25 rfl rfl ?_
        refine X.cut [(0, zr g0 44), (1, zi y1), (4, zi y4)] i209_67 rfl ?_
        refine X.llF 68 .ladd (fun x y => x + y) i209_67 rfl rfl rfl (fun _ _ => rfl) (fun z564 hz564 => ?_)
        refine X.lstore_n 69 [(0, zr g0 44), (1, zi y1), (2, zl z564), (4, zi y4)] i209_68 rfl rfl rfl ?_
        refine X.iinc 72 [(0, zr g0 44), (1, zi y1), (2, zl z564), (4, zi (y4 + 1))] i209_69 rfl rfl rfl (by omega) rfl ?_
        refine X.goto 5 i209_72 rfl rfl ?_
        exact ih z564 (y4 + 1) (by omega) (by omega)
-- WorkMeterModel.together
theorem c209_1 {s : Nat × (Nat → Int32)} {m0 m : zM} {B : Int} {d : Nat} {Q : Option zV → zM → Prop} (g0 : Nat) (a1 : Int) (hd : 14 ≤ d) (hJ : J m0 B m) (hB : B + 0 ≤ 1000000000) (ha1 : 0 ≤ a1 ∧ a1 ≤ 3) (hQ : ∀ (v : Int), (True) → Q (some (zl v)) m) : X (EE s) d 209 0 [(0, zr g0 44), (1, zi a1)] [] m Q := by
  refine X.lconst (y := 0) 1 i209_0 rfl rfl rfl ?_
  refine X.lstore_n 2 [(0, zr g0 44), (1, zi a1), (2, zl 0)] i209_1 rfl rfl rfl ?_
  refine X.iconst 3 i209_2 rfl rfl (by decide) ?_
  refine X.istore 5 [(0, zr g0 44), (1, zi a1), (2, zl 0), (4, zi 0)] i209_3 rfl rfl rfl ?_
  refine l209_5_1 (s := s) (m0 := m0) (m := m) (B := B) (d := d) g0 a1 (by omega) (hJ.up (by omega)) (by omega) (by omega) (fun y501 hby501 => ?_) ((3 - 0 : Int).toNat + 1) 0 0 (by omega) (by omega)
  refine X.lload_n 76 i209_75 rfl rfl rfl ?_
  refine X.retl i209_76 rfl t209 ?_
  exact hQ y501 (by first | trivial | omega) 
theorem l214_7_1 {s : Nat × (Nat → Int32)} {m0 m : zM} {B : Int} {d : Nat} {Q : Option zV → zM → Prop} (y0 : Int) (hd : 13 ≤ d) (hJ : J m0 B m) (hB9 : B ≤ 1000000000)
    (K51 : ∀ (x2 : Int) , (0 ≤ x2 ∧ x2 ≤ 3000000000) → X (EE s) d 214 51 [(2, zl x2)] [] m Q) :
    ∀ (n : Nat) (y2 y4 : Int) , (0 ≤ y2 ∧ y2 ≤ 3000000000) → (0 ≤ y4 ∧ y4 ≤ 3000000000) → (y2 ≤ y4) → y4 - y2 < (n : Int) → X (EE s) d 214 7 [(0, zl y0), (2, zl y2), (4, zl y4)] [] m Q := by
  intro n
  induction n with
  | zero =>
    intro y2 y4 hy2 hy4 hr0 hn
    exfalso
    omega
  | succ n ih =>
    intro y2 y4 hy2 hy4 hr0 hn
    refine X.lload_n 8 i214_7 rfl rfl rfl ?_
    refine X.lload 10 i214_8 rfl rfl rfl ?_
    refine X.lcmp 11 i214_10 rfl rfl (fun z507 hz507 => ?_)
    refine X.ifge 51 14 i214_11 rfl rfl rfl (fun h508 => ?_) (fun h508 => ?_)
    · have h508c : y2 ≥ y4 := by omega
      clear h508 hz507
      refine X.cut [(2, zl y2)] i214_51 rfl ?_
      exact K51 y2 (by first | trivial | omega)
    · have h508c : y2 < y4 := by omega
      clear h508 hz507
      refine X.lload_n 15 i214_14 rfl rfl rfl ?_
      refine X.lload 17 i214_15 rfl rfl rfl ?_
      refine X.ladd 18 i214_17 rfl rfl (by omega) ?_
      refine X.lconst (y := 1) 19 i214_18 rfl rfl rfl ?_
      refine X.ladd 20 i214_19 rfl rfl (by omega) ?_
      refine X.ldc2 23 i214_20 rfl rfl (by decide) ?_
      refine X.ldivp 24 i214_23 rfl rfl (by omega) ?_
      refine X.lstore 26 [(0, zl y0), (2, zl y2), (4, zl y4), (6, zl (((y2 + y4) + 1) / 2))] i214_24 rfl rfl rfl ?_
      refine X.lload 28 i214_26 rfl rfl rfl ?_
      refine X.lload 30 i214_28 rfl rfl rfl ?_
      have hz510 := z_mulr (a := 1) (b := 3000000000) (c := 1) (e := 3000000000) (x := (((y2 + y4) + 1) / 2)) (y := (((y2 + y4) + 1) / 2)) (by omega) (by omega)
      refine X.lmul 31 i214_30 rfl rfl (z_in3 hz510 (by decide) (by decide)) ?_
      obtain ⟨z510, ez510⟩ : ∃ z, z = ((((y2 + y4) + 1) / 2) * (((y2 + y4) + 1) / 2)) := ⟨_, rfl⟩
      rw [← ez510] at hz510 ⊢
      have gz510 : 1 ≤ z510 ∧ z510 ≤ 9000000000000000000 := z_in3 hz510 (by decide) (by decide)
      clear hz510
      refine X.lload_n 32 i214_31 rfl rfl rfl ?_
      refine X.lcmp 33 i214_32 rfl rfl (fun z511 hz511 => ?_)
      refine X.ifgt 42 36 i214_33 rfl rfl rfl (fun h512 => ?_) (fun h512 => ?_)
      · have h512c : z510 > y0 := by omega
        clear h512 hz511
        refine X.cut [(0, zl y0), (2, zl y2), (6, zl (((y2 + y4) + 1) / 2))] i214_42 rfl ?_
        refine X.lload 44 i214_42 rfl rfl rfl ?_
        refine X.lconst (y := 1) 45 i214_44 rfl rfl rfl ?_
        refine X.lsub 46 i214_45 rfl rfl (by omega) ?_
        refine X.lstore 48 [(0, zl y0), (2, zl y2), (4, zl ((((y2 + y4) + 1) / 2) - 1)), (6, zl (((y2 + y4) + 1) / 2))] i214_46 rfl rfl rfl ?_
        refine X.cut [(0, zl y0), (2, zl y2), (4, zl ((((y2 + y4) + 1) / 2) - 1))] i214_48 rfl ?_
        refine X.goto 7 i214_48 rfl rfl ?_
        exact ih y2 ((((y2 + y4) + 1) / 2) - 1) (by omega) (by omega) (by omega) (by omega)
      · have h512c : z510 ≤ y0 := by omega
        clear h512 hz511
        refine X.lload 38 i214_36 rfl rfl rfl ?_
        refine X.lstore_n 39 [(0, zl y0), (2, zl (((y2 + y4) + 1) / 2)), (4, zl y4), (6, zl (((y2 + y4) + 1) / 2))] i214_38 rfl rfl rfl ?_
        refine X.goto 48 i214_39 rfl rfl ?_
        refine X.cut [(0, zl y0), (2, zl (((y2 + y4) + 1) / 2)), (4, zl y4)] i214_48 rfl ?_
        refine X.goto 7 i214_48 rfl rfl ?_
        exact ih (((y2 + y4) + 1) / 2) y4 (by omega) (by omega) (by omega) (by omega)
-- WorkMeterModel.root
theorem c214_1 {s : Nat × (Nat → Int32)} {m0 m : zM} {B : Int} {d : Nat} {Q : Option zV → zM → Prop} (a0 : Int) (hd : 13 ≤ d) (hJ : J m0 B m) (hB : B + 0 ≤ 1000000000) (hQ : ∀ (v : Int), (0 ≤ v ∧ v ≤ 3000000000) → Q (some (zl v)) m) : X (EE s) d 214 0 [(0, zl a0)] [] m Q := by
  refine X.lconst (y := 0) 1 i214_0 rfl rfl rfl ?_
  refine X.lstore_n 2 [(0, zl a0), (2, zl 0)] i214_1 rfl rfl rfl ?_
  refine X.ldc2 5 i214_2 rfl rfl (by decide) ?_
  refine X.lstore 7 [(0, zl a0), (2, zl 0), (4, zl 3000000000)] i214_5 rfl rfl rfl ?_
  refine l214_7_1 (s := s) (m0 := m0) (m := m) (B := B) (d := d)  a0 (by omega) (hJ.up (by omega)) (by omega) (fun y501 hby501 => ?_) ((3000000000 - 0 : Int).toNat + 1) 0 3000000000 (by omega) (by omega) (by omega) (by omega)
  refine X.lload_n 52 i214_51 rfl rfl rfl ?_
  refine X.retl i214_52 rfl t214 ?_
  exact hQ y501 (by first | trivial | omega) 
theorem l219_7_1 {s : Nat × (Nat → Int32)} {m0 m : zM} {B : Int} {d : Nat} {Q : Option zV → zM → Prop} (g0 : Nat) (y1 : Int) (hd : 13 ≤ d) (hJ : J m0 B m) (hB9 : B ≤ 1000000000) (hy1 : 0 ≤ y1 ∧ y1 ≤ 364)
    (K95 : ∀ (x2 x3 : Int) , ((-1) ≤ x2 ∧ x2 ≤ 3) → (0 ≤ x3 ∧ x3 ≤ 3) → X (EE s) d 219 95 [(2, zi x2), (3, zi x3)] [] m Q) :
    ∀ (n : Nat) (y2 y3 y4 : Int) , ((-1) ≤ y2 ∧ y2 ≤ 3) → (0 ≤ y3 ∧ y3 ≤ 3) → (0 ≤ y4 ∧ y4 ≤ 4) → 4 - y4 < (n : Int) → X (EE s) d 219 7 [(0, zr g0 44), (1, zi y1), (2, zi y2), (3, zi y3), (4, zi y4)] [] m Q := by
  intro n
  induction n with
  | zero =>
    intro y2 y3 y4 hy2 hy3 hy4 hn
    exfalso
    omega
  | succ n ih =>
    intro y2 y3 y4 hy2 hy3 hy4 hn
    refine X.iload 9 i219_7 rfl rfl rfl ?_
    refine X.iconst 10 i219_9 rfl rfl (by decide) ?_
    refine X.icmpge 95 13 i219_10 rfl rfl rfl (fun h536 => ?_) (fun h536 => ?_)
    · refine X.cut [(2, zi y2), (3, zi y3)] i219_95 rfl ?_
      exact K95 y2 y3 (by first | trivial | omega) (by first | trivial | omega)
    · refine X.aload_n 14 i219_13 rfl rfl rfl ?_
      refine X.getF 17 i219_14 rfl rfl (by decide) rfl rfl ?_
      refine X.sipush 20 i219_17 rfl rfl (by decide) ?_
      refine X.iload 22 i219_20 rfl rfl rfl ?_
      refine X.iadd 23 i219_22 rfl rfl (by omega) ?_
      refine X.lald 24 i219_23 rfl rfl (by decide) rfl (by omega) ?_
      have h537 := r45_391 hJ 4 (i := (391 + y4)) (by omega)
      refine X.lstore 26 [(0, zr g0 44), (1, zi y1), (2, zi y2), (3, zi y3), (4, zi y4), (5, zl (m 4 45 (391 + y4)))] i219_24 rfl rfl rfl ?_
      refine X.lload 28 i219_26 rfl rfl rfl ?_
      refine X.ldc2 31 i219_28 rfl rfl (by decide) ?_
      refine X.lcmp 32 i219_31 rfl rfl (fun z538 hz538 => ?_)
      refine X.ifne 38 35 i219_32 rfl rfl rfl (fun h539 => ?_) (fun h539 => ?_)
      · have h539c : (m 4 45 (391 + y4)) ≠ (-1) := by omega
        clear h539 hz538
        refine X.lload 40 i219_38 rfl rfl rfl ?_
        refine X.iload_n 41 i219_40 rfl rfl rfl ?_
        refine X.i2l 42 i219_41 rfl rfl ?_
        refine X.lcmp 43 i219_42 rfl rfl (fun z540 hz540 => ?_)
        refine X.ifgt 70 46 i219_43 rfl rfl rfl (fun h541 => ?_) (fun h541 => ?_)
        · have h541c : (m 4 45 (391 + y4)) > y1 := by omega
          clear h541 hz540
          refine X.lload 72 i219_70 rfl rfl rfl ?_
          refine X.aload_n 73 i219_72 rfl rfl rfl ?_
          refine X.getF 76 i219_73 rfl rfl (by decide) rfl rfl ?_
          refine X.sipush 79 i219_76 rfl rfl (by decide) ?_
          refine X.iload_n 80 i219_79 rfl rfl rfl ?_
          refine X.iadd 81 i219_80 rfl rfl (by omega) ?_
          refine X.lald 82 i219_81 rfl rfl (by decide) rfl (by omega) ?_
          have h542 := r45_391 hJ 4 (i := (391 + y3)) (by omega)
          refine X.lcmp 83 i219_82 rfl rfl (fun z543 hz543 => ?_)
          refine X.ifle 89 86 i219_83 rfl rfl rfl (fun h544 => ?_) (fun h544 => ?_)
          · have h544c : (m 4 45 (391 + y4)) ≤ (m 4 45 (391 + y3)) := by omega
            clear h544 hz543
            refine X.cut [(0, zr g0 44), (1, zi y1), (2, zi y2), (3, zi y3), (4, zi y4)] i219_89 rfl ?_
            refine X.iinc 92 [(0, zr g0 44), (1, zi y1), (2, zi y2), (3, zi y3), (4, zi (y4 + 1))] i219_89 rfl rfl rfl (by omega) rfl ?_
            refine X.goto 7 i219_92 rfl rfl ?_
            exact ih y2 y3 (y4 + 1) (by omega) (by omega) (by omega) (by omega)
          · have h544c : (m 4 45 (391 + y4)) > (m 4 45 (391 + y3)) := by omega
            clear h544 hz543
            refine X.iload 88 i219_86 rfl rfl rfl ?_
            refine X.istore_n 89 [(0, zr g0 44), (1, zi y1), (2, zi y2), (3, zi y4), (4, zi y4), (5, zl (m 4 45 (391 + y4)))] i219_88 rfl rfl rfl ?_
            refine X.cut [(0, zr g0 44), (1, zi y1), (2, zi y2), (3, zi y4), (4, zi y4)] i219_89 rfl ?_
            refine X.iinc 92 [(0, zr g0 44), (1, zi y1), (2, zi y2), (3, zi y4), (4, zi (y4 + 1))] i219_89 rfl rfl rfl (by omega) rfl ?_
            refine X.goto 7 i219_92 rfl rfl ?_
            exact ih y2 y4 (y4 + 1) (by omega) (by omega) (by omega) (by omega)
        · have h541c : (m 4 45 (391 + y4)) ≤ y1 := by omega
          clear h541 hz540
          refine X.iload_n 47 i219_46 rfl rfl rfl ?_
          refine X.iconst 48 i219_47 rfl rfl (by decide) ?_
          refine X.icmpeq 67 51 i219_48 rfl rfl rfl (fun h545 => ?_) (fun h545 => ?_)
          · refine X.cut [(0, zr g0 44), (1, zi y1), (3, zi y3), (4, zi y4), (5, zl (m 4 45 (391 + y4)))] i219_67 rfl ?_
            refine X.iload 69 i219_67 rfl rfl rfl ?_
            refine X.istore_n 70 [(0, zr g0 44), (1, zi y1), (2, zi y4), (3, zi y3), (4, zi y4), (5, zl (m 4 45 (391 + y4)))] i219_69 rfl rfl rfl ?_
            refine X.lload 72 i219_70 rfl rfl rfl ?_
            refine X.aload_n 73 i219_72 rfl rfl rfl ?_
            refine X.getF 76 i219_73 rfl rfl (by decide) rfl rfl ?_
            refine X.sipush 79 i219_76 rfl rfl (by decide) ?_
            refine X.iload_n 80 i219_79 rfl rfl rfl ?_
            refine X.iadd 81 i219_80 rfl rfl (by omega) ?_
            refine X.lald 82 i219_81 rfl rfl (by decide) rfl (by omega) ?_
            have h546 := r45_391 hJ 4 (i := (391 + y3)) (by omega)
            refine X.lcmp 83 i219_82 rfl rfl (fun z547 hz547 => ?_)
            refine X.ifle 89 86 i219_83 rfl rfl rfl (fun h548 => ?_) (fun h548 => ?_)
            · have h548c : (m 4 45 (391 + y4)) ≤ (m 4 45 (391 + y3)) := by omega
              clear h548 hz547
              refine X.cut [(0, zr g0 44), (1, zi y1), (2, zi y4), (3, zi y3), (4, zi y4)] i219_89 rfl ?_
              refine X.iinc 92 [(0, zr g0 44), (1, zi y1), (2, zi y4), (3, zi y3), (4, zi (y4 + 1))] i219_89 rfl rfl rfl (by omega) rfl ?_
              refine X.goto 7 i219_92 rfl rfl ?_
              exact ih y4 y3 (y4 + 1) (by omega) (by omega) (by omega) (by omega)
            · have h548c : (m 4 45 (391 + y4)) > (m 4 45 (391 + y3)) := by omega
              clear h548 hz547
              refine X.iload 88 i219_86 rfl rfl rfl ?_
              refine X.istore_n 89 [(0, zr g0 44), (1, zi y1), (2, zi y4), (3, zi y4), (4, zi y4), (5, zl (m 4 45 (391 + y4)))] i219_88 rfl rfl rfl ?_
              refine X.cut [(0, zr g0 44), (1, zi y1), (2, zi y4), (3, zi y4), (4, zi y4)] i219_89 rfl ?_
              refine X.iinc 92 [(0, zr g0 44), (1, zi y1), (2, zi y4), (3, zi y4), (4, zi (y4 + 1))] i219_89 rfl rfl rfl (by omega) rfl ?_
              refine X.goto 7 i219_92 rfl rfl ?_
              exact ih y4 y4 (y4 + 1) (by omega) (by omega) (by omega) (by omega)
          · refine X.lload 53 i219_51 rfl rfl rfl ?_
            refine X.aload_n 54 i219_53 rfl rfl rfl ?_
            refine X.getF 57 i219_54 rfl rfl (by decide) rfl rfl ?_
            refine X.sipush 60 i219_57 rfl rfl (by decide) ?_
            refine X.iload_n 61 i219_60 rfl rfl rfl ?_
            refine X.iadd 62 i219_61 rfl rfl (by omega) ?_
            refine X.lald 63 i219_62 rfl rfl (by decide) rfl (by omega) ?_
            have h549 := r45_391 hJ 4 (i := (391 + y2)) (by omega)
            refine X.lcmp 64 i219_63 rfl rfl (fun z550 hz550 => ?_)
            refine X.ifle 70 67 i219_64 rfl rfl rfl (fun h551 => ?_) (fun h551 => ?_)
            · have h551c : (m 4 45 (391 + y4)) ≤ (m 4 45 (391 + y2)) := by omega
              clear h551 hz550
              refine X.lload 72 i219_70 rfl rfl rfl ?_
              refine X.aload_n 73 i219_72 rfl rfl rfl ?_
              refine X.getF 76 i219_73 rfl rfl (by decide) rfl rfl ?_
              refine X.sipush 79 i219_76 rfl rfl (by decide) ?_
              refine X.iload_n 80 i219_79 rfl rfl rfl ?_
              refine X.iadd 81 i219_80 rfl rfl (by omega) ?_
              refine X.lald 82 i219_81 rfl rfl (by decide) rfl (by omega) ?_
              have h552 := r45_391 hJ 4 (i := (391 + y3)) (by omega)
              refine X.lcmp 83 i219_82 rfl rfl (fun z553 hz553 => ?_)
              refine X.ifle 89 86 i219_83 rfl rfl rfl (fun h554 => ?_) (fun h554 => ?_)
              · have h554c : (m 4 45 (391 + y4)) ≤ (m 4 45 (391 + y3)) := by omega
                clear h554 hz553
                refine X.cut [(0, zr g0 44), (1, zi y1), (2, zi y2), (3, zi y3), (4, zi y4)] i219_89 rfl ?_
                refine X.iinc 92 [(0, zr g0 44), (1, zi y1), (2, zi y2), (3, zi y3), (4, zi (y4 + 1))] i219_89 rfl rfl rfl (by omega) rfl ?_
                refine X.goto 7 i219_92 rfl rfl ?_
                exact ih y2 y3 (y4 + 1) (by omega) (by omega) (by omega) (by omega)
              · have h554c : (m 4 45 (391 + y4)) > (m 4 45 (391 + y3)) := by omega
                clear h554 hz553
                refine X.iload 88 i219_86 rfl rfl rfl ?_
                refine X.istore_n 89 [(0, zr g0 44), (1, zi y1), (2, zi y2), (3, zi y4), (4, zi y4), (5, zl (m 4 45 (391 + y4)))] i219_88 rfl rfl rfl ?_
                refine X.cut [(0, zr g0 44), (1, zi y1), (2, zi y2), (3, zi y4), (4, zi y4)] i219_89 rfl ?_
                refine X.iinc 92 [(0, zr g0 44), (1, zi y1), (2, zi y2), (3, zi y4), (4, zi (y4 + 1))] i219_89 rfl rfl rfl (by omega) rfl ?_
                refine X.goto 7 i219_92 rfl rfl ?_
                exact ih y2 y4 (y4 + 1) (by omega) (by omega) (by omega) (by omega)
            · have h551c : (m 4 45 (391 + y4)) > (m 4 45 (391 + y2)) := by omega
              clear h551 hz550
              refine X.cut [(0, zr g0 44), (1, zi y1), (3, zi y3), (4, zi y4), (5, zl (m 4 45 (391 + y4)))] i219_67 rfl ?_
              refine X.iload 69 i219_67 rfl rfl rfl ?_
              refine X.istore_n 70 [(0, zr g0 44), (1, zi y1), (2, zi y4), (3, zi y3), (4, zi y4), (5, zl (m 4 45 (391 + y4)))] i219_69 rfl rfl rfl ?_
              refine X.lload 72 i219_70 rfl rfl rfl ?_
              refine X.aload_n 73 i219_72 rfl rfl rfl ?_
              refine X.getF 76 i219_73 rfl rfl (by decide) rfl rfl ?_
              refine X.sipush 79 i219_76 rfl rfl (by decide) ?_
              refine X.iload_n 80 i219_79 rfl rfl rfl ?_
              refine X.iadd 81 i219_80 rfl rfl (by omega) ?_
              refine X.lald 82 i219_81 rfl rfl (by decide) rfl (by omega) ?_
              have h555 := r45_391 hJ 4 (i := (391 + y3)) (by omega)
              refine X.lcmp 83 i219_82 rfl rfl (fun z556 hz556 => ?_)
              refine X.ifle 89 86 i219_83 rfl rfl rfl (fun h557 => ?_) (fun h557 => ?_)
              · have h557c : (m 4 45 (391 + y4)) ≤ (m 4 45 (391 + y3)) := by omega
                clear h557 hz556
                refine X.cut [(0, zr g0 44), (1, zi y1), (2, zi y4), (3, zi y3), (4, zi y4)] i219_89 rfl ?_
                refine X.iinc 92 [(0, zr g0 44), (1, zi y1), (2, zi y4), (3, zi y3), (4, zi (y4 + 1))] i219_89 rfl rfl rfl (by omega) rfl ?_
                refine X.goto 7 i219_92 rfl rfl ?_
                exact ih y4 y3 (y4 + 1) (by omega) (by omega) (by omega) (by omega)
              · have h557c : (m 4 45 (391 + y4)) > (m 4 45 (391 + y3)) := by omega
                clear h557 hz556
                refine X.iload 88 i219_86 rfl rfl rfl ?_
                refine X.istore_n 89 [(0, zr g0 44), (1, zi y1), (2, zi y4), (3, zi y4), (4, zi y4), (5, zl (m 4 45 (391 + y4)))] i219_88 rfl rfl rfl ?_
                refine X.cut [(0, zr g0 44), (1, zi y1), (2, zi y4), (3, zi y4), (4, zi y4)] i219_89 rfl ?_
                refine X.iinc 92 [(0, zr g0 44), (1, zi y1), (2, zi y4), (3, zi y4), (4, zi (y4 + 1))] i219_89 rfl rfl rfl (by omega) rfl ?_
                refine X.goto 7 i219_92 rfl rfl ?_
                exact ih y4 y4 (y4 + 1) (by omega) (by omega) (by omega) (by omega)
      · have h539c : (m 4 45 (391 + y4)) = (-1) := by omega
        clear h539 hz538
        refine X.goto 89 i219_35 rfl rfl ?_
        refine X.cut [(0, zr g0 44), (1, zi y1), (2, zi y2), (3, zi y3), (4, zi y4)] i219_89 rfl ?_
        refine X.iinc 92 [(0, zr g0 44), (1, zi y1), (2, zi y2), (3, zi y3), (4, zi (y4 + 1))] i219_89 rfl rfl rfl (by omega) rfl ?_
        refine X.goto 7 i219_92 rfl rfl ?_
        exact ih y2 y3 (y4 + 1) (by omega) (by omega) (by omega) (by omega)
-- WorkMeterModel.seasonOf
theorem c219_1 {s : Nat × (Nat → Int32)} {m0 m : zM} {B : Int} {d : Nat} {Q : Option zV → zM → Prop} (g0 : Nat) (a1 : Int) (hd : 13 ≤ d) (hJ : J m0 B m) (hB : B + 0 ≤ 1000000000) (ha1 : 0 ≤ a1 ∧ a1 ≤ 364) (hQ : ∀ (v : Int), (0 ≤ v ∧ v ≤ 3) → Q (some (zi v)) m) : X (EE s) d 219 0 [(0, zr g0 44), (1, zi a1)] [] m Q := by
  refine X.iconst 1 i219_0 rfl rfl (by decide) ?_
  refine X.istore_n 2 [(0, zr g0 44), (1, zi a1), (2, zi (-1))] i219_1 rfl rfl rfl ?_
  refine X.iconst 3 i219_2 rfl rfl (by decide) ?_
  refine X.istore_n 4 [(0, zr g0 44), (1, zi a1), (2, zi (-1)), (3, zi 0)] i219_3 rfl rfl rfl ?_
  refine X.iconst 5 i219_4 rfl rfl (by decide) ?_
  refine X.istore 7 [(0, zr g0 44), (1, zi a1), (2, zi (-1)), (3, zi 0), (4, zi 0)] i219_5 rfl rfl rfl ?_
  refine l219_7_1 (s := s) (m0 := m0) (m := m) (B := B) (d := d) g0 a1 (by omega) (hJ.up (by omega)) (by omega) (by omega) (fun y501 y502 hby501 hby502 => ?_) ((4 - 0 : Int).toNat + 1) (-1) 0 0 (by omega) (by omega) (by omega) (by omega)
  refine X.iload_n 96 i219_95 rfl rfl rfl ?_
  refine X.iconst 97 i219_96 rfl rfl (by decide) ?_
  refine X.icmpne 104 100 i219_97 rfl rfl rfl (fun h506 => ?_) (fun h506 => ?_)
  · refine X.cut [(2, zi y501)] i219_104 rfl ?_
    refine X.iload_n 105 i219_104 rfl rfl rfl ?_
    refine X.cut [] i219_105 rfl ?_
    refine X.reti i219_105 rfl t219 ?_
    exact hQ y501 (by first | trivial | omega) 
  · refine X.iload_n 101 i219_100 rfl rfl rfl ?_
    refine X.goto 105 i219_101 rfl rfl ?_
    refine X.cut [] i219_105 rfl ?_
    refine X.reti i219_105 rfl t219 ?_
    exact hQ y502 (by first | trivial | omega) 
-- WorkMeterModel.tableAt
theorem c218_1 {s : Nat × (Nat → Int32)} {m0 m : zM} {B : Int} {d : Nat} {Q : Option zV → zM → Prop} (g0 : Nat) (a1 : Int) (hd : 14 ≤ d) (hJ : J m0 B m) (hB : B + 0 ≤ 1000000000) (ha1 : 0 ≤ a1 ∧ a1 ≤ 23150) (hQ : ∀ (v : Int), (0 ≤ v ∧ v ≤ 7) → Q (some (zi v)) m) : X (EE s) d 218 0 [(0, zr g0 44), (1, zi a1)] [] m Q := by
  refine X.iload_n 1 i218_0 rfl rfl rfl ?_
  refine X.sipush 4 i218_1 rfl rfl (by decide) ?_
  refine X.irem 5 i218_4 rfl rfl (by omega) ?_
  refine X.istore_n 6 [(0, zr g0 44), (1, zi a1), (2, zi (a1 % 365))] i218_5 rfl rfl rfl ?_
  refine X.aload_n 7 i218_6 rfl rfl rfl ?_
  refine X.getF 10 i218_7 rfl rfl (by decide) rfl rfl ?_
  refine X.sipush 13 i218_10 rfl rfl (by decide) ?_
  refine X.iload_n 14 i218_13 rfl rfl rfl ?_
  refine X.iadd 15 i218_14 rfl rfl (by omega) ?_
  refine X.lald 16 i218_15 rfl rfl (by decide) rfl (by omega) ?_
  have h501 := r45_423 hJ 4 (i := (423 + (a1 % 365))) (by omega)
  refine X.ldc2 19 i218_16 rfl rfl (by decide) ?_
  refine X.lcmp 20 i218_19 rfl rfl (fun z502 hz502 => ?_)
  refine X.ifeq 35 23 i218_20 rfl rfl rfl (fun h503 => ?_) (fun h503 => ?_)
  · have h503c : (m 4 45 (423 + (a1 % 365))) = (-1) := by omega
    clear h503 hz502
    refine X.aload_n 36 i218_35 rfl rfl rfl ?_
    refine X.getF 39 i218_36 rfl rfl (by decide) rfl rfl ?_
    refine X.sipush 42 i218_39 rfl rfl (by decide) ?_
    refine X.bipush 44 i218_42 rfl rfl (by decide) ?_
    refine X.aload_n 45 i218_44 rfl rfl rfl ?_
    refine X.iload_n 46 i218_45 rfl rfl rfl ?_
    refine X.callv 49 [zi (a1 % 365)] [zi 7, zi 395, zr 4 45] [(0, zr g0 44), (1, zi (a1 % 365))] i218_46 rfl (by decide) rfl rfl (by omega) rfl rfl (by decide) rfl t219 (Nat.le_of_ble_eq_true rfl) (Nat.le_of_ble_eq_true rfl) rfl ?_
    refine c219_1 (B := B) g0 (a1 % 365) (by omega) (hJ.up (by omega)) (by omega) (by omega) (fun v506 hv506 => ?_)
    show X (EE s) d 218 49 [(0, zr g0 44), (1, zi a1), (2, zi (a1 % 365))] [zi v506, zi 7, zi 395, zr 4 45] m _
    refine X.imul 50 i218_49 rfl rfl (by omega) ?_
    refine X.iadd 51 i218_50 rfl rfl (by omega) ?_
    refine X.iload_n 52 i218_51 rfl rfl rfl ?_
    refine X.bipush 54 i218_52 rfl rfl (by decide) ?_
    refine X.irem 55 i218_54 rfl rfl (by omega) ?_
    refine X.iadd 56 i218_55 rfl rfl (by omega) ?_
    refine X.lald 57 i218_56 rfl rfl (by decide) rfl (by omega) ?_
    have h507 := r45_395 hJ 4 (i := ((395 + (7 * v506)) + (a1 % 7))) (by omega)
    refine X.l2i 58 i218_57 rfl rfl (by omega) ?_
    refine X.reti i218_58 rfl t218 ?_
    exact hQ (m 4 45 ((395 + (7 * v506)) + (a1 % 7))) (by first | trivial | omega) 
  · have h503c : (m 4 45 (423 + (a1 % 365))) ≠ (-1) := by omega
    clear h503 hz502
    refine X.aload_n 24 i218_23 rfl rfl rfl ?_
    refine X.getF 27 i218_24 rfl rfl (by decide) rfl rfl ?_
    refine X.sipush 30 i218_27 rfl rfl (by decide) ?_
    refine X.iload_n 31 i218_30 rfl rfl rfl ?_
    refine X.iadd 32 i218_31 rfl rfl (by omega) ?_
    refine X.lald 33 i218_32 rfl rfl (by decide) rfl (by omega) ?_
    refine X.l2i 34 i218_33 rfl rfl (by omega) ?_
    refine X.reti i218_34 rfl t218 ?_
    exact hQ (m 4 45 (423 + (a1 % 365))) (by first | trivial | omega) 
theorem l217_14_1 {s : Nat × (Nat → Int32)} {m0 m : zM} {B : Int} {d : Nat} {Q : Option zV → zM → Prop} (g0 : Nat) (y1 y2 : Int) (hd : 13 ≤ d) (hJ : J m0 B m) (hB9 : B ≤ 1000000000) (hy1 : (-1) ≤ y1 ∧ y1 ≤ 2000000000) (hy2 : 0 ≤ y2 ∧ y2 ≤ 7)
    (K80 : ∀ (x3 : Int) , (0 ≤ x3 ∧ x3 ≤ 3) → X (EE s) d 217 80 [(3, zi x3)] [] m Q) :
    ∀ (n : Nat) (y3 y4 : Int) , (0 ≤ y3 ∧ y3 ≤ 3) → (0 ≤ y4 ∧ y4 ≤ 6) → 6 - y4 < (n : Int) → X (EE s) d 217 14 [(0, zr g0 44), (1, zi y1), (2, zi y2), (3, zi y3), (4, zi y4)] [] m Q := by
  intro n
  induction n with
  | zero =>
    intro y3 y4 hy3 hy4 hn
    exfalso
    omega
  | succ n ih =>
    intro y3 y4 hy3 hy4 hn
    refine X.iload 16 i217_14 rfl rfl rfl ?_
    refine X.i2l 17 i217_16 rfl rfl ?_
    refine X.aload_n 18 i217_17 rfl rfl rfl ?_
    refine X.getF 21 i217_18 rfl rfl (by decide) rfl rfl ?_
    refine X.sipush 24 i217_21 rfl rfl (by decide) ?_
    refine X.iload_n 25 i217_24 rfl rfl rfl ?_
    refine X.iadd 26 i217_25 rfl rfl (by omega) ?_
    refine X.lald 27 i217_26 rfl rfl (by decide) rfl (by omega) ?_
    have h519 := r45_287 hJ 4 (i := (287 + y2)) (by omega)
    refine X.lcmp 28 i217_27 rfl rfl (fun z520 hz520 => ?_)
    refine X.ifge 80 31 i217_28 rfl rfl rfl (fun h521 => ?_) (fun h521 => ?_)
    · have h521c : y4 ≥ (m 4 45 (287 + y2)) := by omega
      clear h521 hz520
      refine X.cut [(3, zi y3)] i217_80 rfl ?_
      exact K80 y3 (by first | trivial | omega)
    · have h521c : y4 < (m 4 45 (287 + y2)) := by omega
      clear h521 hz520
      refine X.aload_n 32 i217_31 rfl rfl rfl ?_
      refine X.getF 35 i217_32 rfl rfl (by decide) rfl rfl ?_
      refine X.sipush 38 i217_35 rfl rfl (by decide) ?_
      refine X.bipush 40 i217_38 rfl rfl (by decide) ?_
      refine X.iload_n 41 i217_40 rfl rfl rfl ?_
      refine X.imul 42 i217_41 rfl rfl (by omega) ?_
      refine X.iadd 43 i217_42 rfl rfl (by omega) ?_
      refine X.iload 45 i217_43 rfl rfl rfl ?_
      refine X.iadd 46 i217_45 rfl rfl (by omega) ?_
      refine X.lald 47 i217_46 rfl rfl (by decide) rfl (by omega) ?_
      have h522 := r45_295 hJ 4 (i := ((295 + (6 * y2)) + y4)) (by omega)
      refine X.iload_n 48 i217_47 rfl rfl rfl ?_
      refine X.ldc 50 i217_48 rfl rfl (by decide) ?_
      refine X.iremT 51 i217_50 rfl rfl (by decide) (fun z523 hz523 => ?_)
      refine X.i2l 52 i217_51 rfl rfl ?_
      refine X.lcmp 53 i217_52 rfl rfl (fun z524 hz524 => ?_)
      refine X.ifgt 74 56 i217_53 rfl rfl rfl (fun h525 => ?_) (fun h525 => ?_)
      · have h525c : (m 4 45 ((295 + (6 * y2)) + y4)) > z523 := by omega
        clear h525 hz524
        refine X.iinc 77 [(0, zr g0 44), (1, zi y1), (2, zi y2), (3, zi y3), (4, zi (y4 + 1))] i217_74 rfl rfl rfl (by omega) rfl ?_
        refine X.goto 14 i217_77 rfl rfl ?_
        exact ih y3 (y4 + 1) (by omega) (by omega) (by omega)
      · have h525c : (m 4 45 ((295 + (6 * y2)) + y4)) ≤ z523 := by omega
        clear h525 hz524
        refine X.aload_n 57 i217_56 rfl rfl rfl ?_
        refine X.getF 60 i217_57 rfl rfl (by decide) rfl rfl ?_
        refine X.sipush 63 i217_60 rfl rfl (by decide) ?_
        refine X.bipush 65 i217_63 rfl rfl (by decide) ?_
        refine X.iload_n 66 i217_65 rfl rfl rfl ?_
        refine X.imul 67 i217_66 rfl rfl (by omega) ?_
        refine X.iadd 68 i217_67 rfl rfl (by omega) ?_
        refine X.iload 70 i217_68 rfl rfl rfl ?_
        refine X.iadd 71 i217_70 rfl rfl (by omega) ?_
        refine X.lald 72 i217_71 rfl rfl (by decide) rfl (by omega) ?_
        have h526 := r45_343 hJ 4 (i := ((343 + (6 * y2)) + y4)) (by omega)
        refine X.l2i 73 i217_72 rfl rfl (by omega) ?_
        refine X.istore_n 74 [(0, zr g0 44), (1, zi y1), (2, zi y2), (3, zi (m 4 45 ((343 + (6 * y2)) + y4))), (4, zi y4)] i217_73 rfl rfl rfl ?_
        refine X.iinc 77 [(0, zr g0 44), (1, zi y1), (2, zi y2), (3, zi (m 4 45 ((343 + (6 * y2)) + y4))), (4, zi (y4 + 1))] i217_74 rfl rfl rfl (by omega) rfl ?_
        refine X.goto 14 i217_77 rfl rfl ?_
        exact ih (m 4 45 ((343 + (6 * y2)) + y4)) (y4 + 1) (by omega) (by omega) (by omega)
-- WorkMeterModel.tariff
theorem c217_1 {s : Nat × (Nat → Int32)} {m0 m : zM} {B : Int} {d : Nat} {Q : Option zV → zM → Prop} (g0 : Nat) (a1 : Int) (hd : 15 ≤ d) (hJ : J m0 B m) (hB : B + 0 ≤ 1000000000) (ha1 : (-1) ≤ a1 ∧ a1 ≤ 2000000000) (hQ : ∀ (v : Int), (0 ≤ v ∧ v ≤ 3) → Q (some (zi v)) m) : X (EE s) d 217 0 [(0, zr g0 44), (1, zi a1)] [] m Q := by
  refine X.aload_n 1 i217_0 rfl rfl rfl ?_
  refine X.iload_n 2 i217_1 rfl rfl rfl ?_
  refine X.ldc 4 i217_2 rfl rfl (by decide) ?_
  refine X.idivT 5 i217_4 rfl rfl (by decide) (fun z501 hz501 => ?_)
  refine X.callv 8 [zi z501] [] [(0, zr g0 44), (1, zi z501)] i217_5 rfl (by decide) rfl rfl (by omega) rfl rfl (by decide) rfl t218 (Nat.le_of_ble_eq_true rfl) (Nat.le_of_ble_eq_true rfl) rfl ?_
  refine c218_1 (B := B) g0 z501 (by omega) (hJ.up (by omega)) (by omega) (by omega) (fun v504 hv504 => ?_)
  show X (EE s) d 217 8 [(0, zr g0 44), (1, zi a1)] [zi v504] m _
  refine X.istore_n 9 [(0, zr g0 44), (1, zi a1), (2, zi v504)] i217_8 rfl rfl rfl ?_
  refine X.iconst 10 i217_9 rfl rfl (by decide) ?_
  refine X.istore_n 11 [(0, zr g0 44), (1, zi a1), (2, zi v504), (3, zi 0)] i217_10 rfl rfl rfl ?_
  refine X.iconst 12 i217_11 rfl rfl (by decide) ?_
  refine X.istore 14 [(0, zr g0 44), (1, zi a1), (2, zi v504), (3, zi 0), (4, zi 0)] i217_12 rfl rfl rfl ?_
  refine l217_14_1 (s := s) (m0 := m0) (m := m) (B := B) (d := d) g0 a1 v504 (by omega) (hJ.up (by omega)) (by omega) (by omega) (by omega) (fun y505 hby505 => ?_) ((6 - 0 : Int).toNat + 1) 0 0 (by omega) (by omega) (by omega)
  refine X.iload_n 81 i217_80 rfl rfl rfl ?_
  refine X.reti i217_81 rfl t217 ?_
  exact hQ y505 (by first | trivial | omega) 
-- WorkMeterModel.registers
theorem c216_1 {s : Nat × (Nat → Int32)} {m0 m : zM} {B : Int} {d : Nat} {Q : Option zV → zM → Prop} (g0 : Nat) (a1 a2 a3 : Int) (hd : 16 ≤ d) (hJ : J m0 B m) (hB : B + 0 ≤ 1000000000) (ha1 : 0 ≤ a1) (ha3 : 0 ≤ a3 ∧ a3 ≤ 3000000000) (hQ : ∀ m', J m0 (B) m' → (∀ g, m' g 8 9 = m g 8 9) → Q none m') : X (EE s) d 216 0 [(0, zr g0 44), (1, zl a1), (3, zl a2), (5, zl a3)] [] m Q := by
  refine X.aload_n 1 i216_0 rfl rfl rfl ?_
  refine X.aload_n 2 i216_1 rfl rfl rfl ?_
  refine X.getF 5 i216_2 rfl rfl (by decide) rfl rfl ?_
  refine X.iconst 6 i216_5 rfl rfl (by decide) ?_
  refine X.lald 7 i216_6 rfl rfl (by decide) rfl (by omega) ?_
  have h501 := r45_0 hJ 4
  refine X.l2i 8 i216_7 rfl rfl (by omega) ?_
  refine X.callv 11 [zi (m 4 45 0)] [] [(0, zr g0 44), (1, zi (m 4 45 0))] i216_8 rfl (by decide) rfl rfl (by omega) rfl rfl (by decide) rfl t217 (Nat.le_of_ble_eq_true rfl) (Nat.le_of_ble_eq_true rfl) rfl ?_
  refine c217_1 (B := B) g0 (m 4 45 0) (by omega) (hJ.up (by omega)) (by omega) (by omega) (fun v504 hv504 => ?_)
  show X (EE s) d 216 11 [(0, zr g0 44), (1, zl a1), (3, zl a2), (5, zl a3)] [zi v504] m _
  refine X.istore 13 [(0, zr g0 44), (1, zl a1), (3, zl a2), (5, zl a3), (7, zi v504)] i216_11 rfl rfl rfl ?_
  refine X.aload_n 14 i216_13 rfl rfl rfl ?_
  refine X.getF 17 i216_14 rfl rfl (by decide) rfl rfl ?_
  refine X.bipush 19 i216_17 rfl rfl (by decide) ?_
  refine X.iload 21 i216_19 rfl rfl rfl ?_
  refine X.iadd 22 i216_21 rfl rfl (by omega) ?_
  refine X.lald 23 i216_22 rfl rfl (by decide) rfl (by omega) ?_
  refine X.aload_n 24 i216_23 rfl rfl rfl ?_
  refine X.getF 27 i216_24 rfl rfl (by decide) rfl rfl ?_
  refine X.iconst 28 i216_27 rfl rfl (by decide) ?_
  refine X.lald 29 i216_28 rfl rfl (by decide) rfl (by omega) ?_
  have h505 := r45_5 hJ 4
  refine X.ldivF 30 i216_29 rfl rfl (by omega) (fun z506 => ?_)
  refine X.lstore 32 [(0, zr g0 44), (1, zl a1), (3, zl a2), (5, zl a3), (7, zi v504), (8, zl z506)] i216_30 rfl rfl rfl ?_
  refine X.lload_n 33 i216_32 rfl rfl rfl ?_
  refine X.lconst (y := 0) 34 i216_33 rfl rfl rfl ?_
  refine X.lcmp 35 i216_34 rfl rfl (fun z507 hz507 => ?_)
  refine X.ifle 46 38 i216_35 rfl rfl rfl (fun h508 => ?_) (fun h508 => ?_)
  · have h508c : a1 ≤ 0 := by omega
    clear h508 hz507
    refine X.lload_n 47 i216_46 rfl rfl rfl ?_
    refine X.lconst (y := 0) 48 i216_47 rfl rfl rfl ?_
    refine X.lcmp 49 i216_48 rfl rfl (fun z509 hz509 => ?_)
    refine X.ifge 61 52 i216_49 rfl rfl rfl (fun h510 => ?_) (fun h510 => (by exfalso; omega))
    have h510c : a1 ≥ 0 := by omega
    clear h510 hz509
    refine X.aload_n 62 i216_61 rfl rfl rfl ?_
    refine X.iconst 63 i216_62 rfl rfl (by decide) ?_
    refine X.lload_n 64 i216_63 rfl rfl rfl ?_
    refine X.lload_n 65 i216_64 rfl rfl rfl ?_
    refine X.calls 68 [zl a1, zl a2] [zi 1, zr g0 44] [(0, zl a1), (2, zl a2)] i216_65 (by decide) rfl rfl (by omega) rfl rfl t221 (Nat.le_of_ble_eq_true rfl) (Nat.le_of_ble_eq_true rfl) rfl ?_
    refine X.lload_n 1 i221_0 rfl rfl rfl ?_
    refine X.lconst (y := 0) 2 i221_1 rfl rfl rfl ?_
    refine X.lcmp 3 i221_2 rfl rfl (fun z511 hz511 => ?_)
    refine X.iflt 20 6 i221_3 rfl rfl rfl (fun h512 => (by exfalso; omega)) (fun h512 => ?_)
    have h512c : a1 ≥ 0 := by omega
    clear h512 hz511
    refine X.lload_n 7 i221_6 rfl rfl rfl ?_
    refine X.lconst (y := 0) 8 i221_7 rfl rfl rfl ?_
    refine X.lcmp 9 i221_8 rfl rfl (fun z513 hz513 => ?_)
    refine X.iflt 16 12 i221_9 rfl rfl rfl (fun h514 => ?_) (fun h514 => ?_)
    · have h514c : a2 < 0 := by omega
      clear h514 hz513
      refine X.cut [] i221_16 rfl ?_
      refine X.iconst 17 i221_16 rfl rfl (by decide) ?_
      refine X.goto 31 i221_17 rfl rfl ?_
      refine X.reti i221_31 rfl t221 ?_
      show X (EE s) d 216 68 [(0, zr g0 44), (1, zl a1), (3, zl a2), (5, zl a3), (7, zi v504), (8, zl z506)] [zi 4, zi 1, zr g0 44] m _
      refine X.iadd 69 i216_68 rfl rfl (by omega) ?_
      refine X.iload 71 i216_69 rfl rfl rfl ?_
      refine X.lload_n 72 i216_71 rfl rfl rfl ?_
      refine X.calls 75 [zl a2] [zi v504, zi (1 + 4), zr g0 44] [(0, zl a2)] i216_72 (by decide) rfl rfl (by omega) rfl rfl t215 (Nat.le_of_ble_eq_true rfl) (Nat.le_of_ble_eq_true rfl) rfl ?_
      refine X.lload_n 1 i215_0 rfl rfl rfl ?_
      refine X.lconst (y := 0) 2 i215_1 rfl rfl rfl ?_
      refine X.lcmp 3 i215_2 rfl rfl (fun z515 hz515 => ?_)
      refine X.ifge 11 6 i215_3 rfl rfl rfl (fun h516 => (by exfalso; omega)) (fun h516 => ?_)
      have h516c : a2 < 0 := by omega
      clear h516 hz515
      refine X.lload_n 7 i215_6 rfl rfl rfl ?_
      refine X.lnegF 8 i215_7 rfl rfl (fun z517 hz517 => ?_)
      refine X.goto 12 i215_8 rfl rfl ?_
      refine X.cut [] i215_12 rfl ?_
      refine X.retl i215_12 rfl t215 ?_
      show X (EE s) d 216 75 [(0, zr g0 44), (1, zl a1), (3, zl a2), (5, zl a3), (7, zi v504), (8, zl z506)] [zl z517, zi v504, zi (1 + 4), zr g0 44] m _
      refine X.callv 78 [zi (1 + 4), zi v504, zl z517] [] [(0, zr g0 44), (1, zi (1 + 4)), (2, zi v504), (3, zl z517)] i216_75 rfl (by decide) rfl rfl (by omega) rfl rfl (by decide) rfl t220 (Nat.le_of_ble_eq_true rfl) (Nat.le_of_ble_eq_true rfl) rfl ?_
      refine X.aload_n 1 i220_0 rfl rfl rfl ?_
      refine X.getF 4 i220_1 rfl rfl (by decide) rfl rfl ?_
      refine X.bipush 6 i220_4 rfl rfl (by decide) ?_
      refine X.iconst 7 i220_6 rfl rfl (by decide) ?_
      refine X.iload_n 8 i220_7 rfl rfl rfl ?_
      refine X.imul 9 i220_8 rfl rfl (by omega) ?_
      refine X.iadd 10 i220_9 rfl rfl (by omega) ?_
      refine X.iload_n 11 i220_10 rfl rfl rfl ?_
      refine X.iadd 12 i220_11 rfl rfl (by omega) ?_
      refine X.dup2 13 i220_12 rfl rfl ?_
      refine X.lald 14 i220_13 rfl rfl (by decide) rfl (by omega) ?_
      refine X.lload_n 15 i220_14 rfl rfl rfl ?_
      refine X.llF 16 .ladd (fun x y => x + y) i220_15 rfl rfl rfl (fun _ _ => rfl) (fun z518 hz518 => ?_)
      refine X.last' 17 i220_16 rfl rfl (by decide) rfl (by omega) (fun hrm519 m519 hm519 => ?_)
      have hJ520 := w45_19 hJ hm519 (by omega) hrm519
      have km519 : ∀ g, m519 g 8 9 = m g 8 9 := fun g9 => by rw [hm519]; exact z_upd_o _ _ rfl
      refine X.aload_n 18 i220_17 rfl rfl rfl ?_
      refine X.getF 21 i220_18 rfl rfl (by decide) rfl rfl ?_
      refine X.bipush 23 i220_21 rfl rfl (by decide) ?_
      refine X.iconst 24 i220_23 rfl rfl (by decide) ?_
      refine X.iload_n 25 i220_24 rfl rfl rfl ?_
      refine X.imul 26 i220_25 rfl rfl (by omega) ?_
      refine X.iadd 27 i220_26 rfl rfl (by omega) ?_
      refine X.iconst 28 i220_27 rfl rfl (by decide) ?_
      refine X.iadd 29 i220_28 rfl rfl (by omega) ?_
      refine X.dup2 30 i220_29 rfl rfl ?_
      refine X.lald 31 i220_30 rfl rfl (by decide) rfl (by omega) ?_
      refine X.lload_n 32 i220_31 rfl rfl rfl ?_
      refine X.llF 33 .ladd (fun x y => x + y) i220_32 rfl rfl rfl (fun _ _ => rfl) (fun z521 hz521 => ?_)
      refine X.last' 34 i220_33 rfl rfl (by decide) rfl (by omega) (fun hrm522 m522 hm522 => ?_)
      have hJ523 := w45_19 hJ520 hm522 (by omega) hrm522
      have km522 : ∀ g, m522 g 8 9 = m519 g 8 9 := fun g9 => by rw [hm522]; exact z_upd_o _ _ rfl
      refine X.retv i220_34 rfl t220 ?_
      show X (EE s) d 216 78 [(0, zr g0 44), (1, zl a1), (3, zl a2), (5, zl a3), (7, zi v504), (8, zl z506)] [] m522 _
      refine X.aload_n 79 i216_78 rfl rfl rfl ?_
      refine X.bipush 81 i216_79 rfl rfl (by decide) ?_
      refine X.iload 83 i216_81 rfl rfl rfl ?_
      refine X.lload 85 i216_83 rfl rfl rfl ?_
      refine X.callv 88 [zi 6, zi v504, zl a3] [] [(0, zr g0 44), (1, zi 6), (2, zi v504), (3, zl a3)] i216_85 rfl (by decide) rfl rfl (by omega) rfl rfl (by decide) rfl t220 (Nat.le_of_ble_eq_true rfl) (Nat.le_of_ble_eq_true rfl) rfl ?_
      refine X.aload_n 1 i220_0 rfl rfl rfl ?_
      refine X.getF 4 i220_1 rfl rfl (by decide) rfl rfl ?_
      refine X.bipush 6 i220_4 rfl rfl (by decide) ?_
      refine X.iconst 7 i220_6 rfl rfl (by decide) ?_
      refine X.iload_n 8 i220_7 rfl rfl rfl ?_
      refine X.imul 9 i220_8 rfl rfl (by omega) ?_
      refine X.iadd 10 i220_9 rfl rfl (by omega) ?_
      refine X.iload_n 11 i220_10 rfl rfl rfl ?_
      refine X.iadd 12 i220_11 rfl rfl (by omega) ?_
      refine X.dup2 13 i220_12 rfl rfl ?_
      refine X.lald 14 i220_13 rfl rfl (by decide) rfl (by omega) ?_
      refine X.lload_n 15 i220_14 rfl rfl rfl ?_
      refine X.llF 16 .ladd (fun x y => x + y) i220_15 rfl rfl rfl (fun _ _ => rfl) (fun z524 hz524 => ?_)
      refine X.last' 17 i220_16 rfl rfl (by decide) rfl (by omega) (fun hrm525 m525 hm525 => ?_)
      have hJ526 := w45_19 hJ523 hm525 (by omega) hrm525
      have km525 : ∀ g, m525 g 8 9 = m522 g 8 9 := fun g9 => by rw [hm525]; exact z_upd_o _ _ rfl
      refine X.aload_n 18 i220_17 rfl rfl rfl ?_
      refine X.getF 21 i220_18 rfl rfl (by decide) rfl rfl ?_
      refine X.bipush 23 i220_21 rfl rfl (by decide) ?_
      refine X.iconst 24 i220_23 rfl rfl (by decide) ?_
      refine X.iload_n 25 i220_24 rfl rfl rfl ?_
      refine X.imul 26 i220_25 rfl rfl (by omega) ?_
      refine X.iadd 27 i220_26 rfl rfl (by omega) ?_
      refine X.iconst 28 i220_27 rfl rfl (by decide) ?_
      refine X.iadd 29 i220_28 rfl rfl (by omega) ?_
      refine X.dup2 30 i220_29 rfl rfl ?_
      refine X.lald 31 i220_30 rfl rfl (by decide) rfl (by omega) ?_
      refine X.lload_n 32 i220_31 rfl rfl rfl ?_
      refine X.llF 33 .ladd (fun x y => x + y) i220_32 rfl rfl rfl (fun _ _ => rfl) (fun z527 hz527 => ?_)
      refine X.last' 34 i220_33 rfl rfl (by decide) rfl (by omega) (fun hrm528 m528 hm528 => ?_)
      have hJ529 := w45_19 hJ526 hm528 (by omega) hrm528
      have km528 : ∀ g, m528 g 8 9 = m525 g 8 9 := fun g9 => by rw [hm528]; exact z_upd_o _ _ rfl
      refine X.retv i220_34 rfl t220 ?_
      show X (EE s) d 216 88 [(0, zr g0 44), (1, zl a1), (3, zl a2), (5, zl a3), (7, zi v504), (8, zl z506)] [] m528 _
      refine X.aload_n 89 i216_88 rfl rfl rfl ?_
      refine X.getF 92 i216_89 rfl rfl (by decide) rfl rfl ?_
      refine X.bipush 94 i216_92 rfl rfl (by decide) ?_
      refine X.dup2 95 i216_94 rfl rfl ?_
      refine X.lald 96 i216_95 rfl rfl (by decide) rfl (by omega) ?_
      refine X.aload_n 97 i216_96 rfl rfl rfl ?_
      refine X.getF 100 i216_97 rfl rfl (by decide) rfl rfl ?_
      refine X.bipush 102 i216_100 rfl rfl (by decide) ?_
      refine X.iload 104 i216_102 rfl rfl rfl ?_
      refine X.iadd 105 i216_104 rfl rfl (by omega) ?_
      refine X.lald 106 i216_105 rfl rfl (by decide) rfl (by omega) ?_
      refine X.aload_n 107 i216_106 rfl rfl rfl ?_
      refine X.getF 110 i216_107 rfl rfl (by decide) rfl rfl ?_
      refine X.iconst 111 i216_110 rfl rfl (by decide) ?_
      refine X.lald 112 i216_111 rfl rfl (by decide) rfl (by omega) ?_
      have h530 := r45_5 hJ529 4
      refine X.ldivF 113 i216_112 rfl rfl (by omega) (fun z531 => ?_)
      refine X.lload 115 i216_113 rfl rfl rfl ?_
      refine X.llF 116 .lsub (fun x y => x - y) i216_115 rfl rfl rfl (fun _ _ => rfl) (fun z532 hz532 => ?_)
      refine X.aload_n 117 i216_116 rfl rfl rfl ?_
      refine X.getF 120 i216_117 rfl rfl (by decide) rfl rfl ?_
      refine X.bipush 122 i216_120 rfl rfl (by decide) ?_
      refine X.iload 124 i216_122 rfl rfl rfl ?_
      refine X.iadd 125 i216_124 rfl rfl (by omega) ?_
      refine X.lald 126 i216_125 rfl rfl (by decide) rfl (by omega) ?_
      refine X.llF 127 .lmul (fun x y => x * y) i216_126 rfl rfl rfl (fun _ _ => rfl) (fun z533 hz533 => ?_)
      refine X.llF 128 .lsub (fun x y => x - y) i216_127 rfl rfl rfl (fun _ _ => rfl) (fun z534 hz534 => ?_)
      refine X.last' 129 i216_128 rfl rfl (by decide) rfl (by omega) (fun hrm535 m535 hm535 => ?_)
      have hJ536 := w45_10 hJ529 hm535 hrm535
      have km535 : ∀ g, m535 g 8 9 = m528 g 8 9 := fun g9 => by rw [hm535]; exact z_upd_o _ _ rfl
      refine X.aload_n 130 i216_129 rfl rfl rfl ?_
      refine X.getF 133 i216_130 rfl rfl (by decide) rfl rfl ?_
      refine X.bipush 135 i216_133 rfl rfl (by decide) ?_
      refine X.dup2 136 i216_135 rfl rfl ?_
      refine X.lald 137 i216_136 rfl rfl (by decide) rfl (by omega) ?_
      refine X.lload_n 138 i216_137 rfl rfl rfl ?_
      refine X.lconst (y := 0) 139 i216_138 rfl rfl rfl ?_
      refine X.lcmp 140 i216_139 rfl rfl (fun z537 hz537 => ?_)
      refine X.ifle 147 143 i216_140 rfl rfl rfl (fun h538 => ?_) (fun h538 => (by exfalso; omega))
      have h538c : a1 ≤ 0 := by omega
      clear h538 hz537
      refine X.cut [(0, zr g0 44), (1, zl a1), (5, zl a3)] i216_147 rfl ?_
      refine X.lconst (y := 0) 148 i216_147 rfl rfl rfl ?_
      refine X.llF 149 .ladd (fun x y => x + y) i216_148 rfl rfl rfl (fun _ _ => rfl) (fun z539 hz539 => ?_)
      refine X.last' 150 i216_149 rfl rfl (by decide) rfl (by omega) (fun hrm540 m540 hm540 => ?_)
      have hJ541 := w45_19 hJ536 hm540 (by omega) hrm540
      have km540 : ∀ g, m540 g 8 9 = m535 g 8 9 := fun g9 => by rw [hm540]; exact z_upd_o _ _ rfl
      refine X.aload_n 151 i216_150 rfl rfl rfl ?_
      refine X.getF 154 i216_151 rfl rfl (by decide) rfl rfl ?_
      refine X.bipush 156 i216_154 rfl rfl (by decide) ?_
      refine X.dup2 157 i216_156 rfl rfl ?_
      refine X.lald 158 i216_157 rfl rfl (by decide) rfl (by omega) ?_
      refine X.lload_n 159 i216_158 rfl rfl rfl ?_
      refine X.lconst (y := 0) 160 i216_159 rfl rfl rfl ?_
      refine X.lcmp 161 i216_160 rfl rfl (fun z542 hz542 => ?_)
      refine X.ifge 169 164 i216_161 rfl rfl rfl (fun h543 => ?_) (fun h543 => (by exfalso; omega))
      have h543c : a1 ≥ 0 := by omega
      clear h543 hz542
      refine X.cut [(0, zr g0 44), (5, zl a3)] i216_169 rfl ?_
      refine X.lconst (y := 0) 170 i216_169 rfl rfl rfl ?_
      refine X.llF 171 .ladd (fun x y => x + y) i216_170 rfl rfl rfl (fun _ _ => rfl) (fun z544 hz544 => ?_)
      refine X.last' 172 i216_171 rfl rfl (by decide) rfl (by omega) (fun hrm545 m545 hm545 => ?_)
      have hJ546 := w45_19 hJ541 hm545 (by omega) hrm545
      have km545 : ∀ g, m545 g 8 9 = m540 g 8 9 := fun g9 => by rw [hm545]; exact z_upd_o _ _ rfl
      refine X.aload_n 173 i216_172 rfl rfl rfl ?_
      refine X.getF 176 i216_173 rfl rfl (by decide) rfl rfl ?_
      refine X.bipush 178 i216_176 rfl rfl (by decide) ?_
      refine X.dup2 179 i216_178 rfl rfl ?_
      refine X.lald 180 i216_179 rfl rfl (by decide) rfl (by omega) ?_
      refine X.lload 182 i216_180 rfl rfl rfl ?_
      refine X.llF 183 .ladd (fun x y => x + y) i216_182 rfl rfl rfl (fun _ _ => rfl) (fun z547 hz547 => ?_)
      refine X.last' 184 i216_183 rfl rfl (by decide) rfl (by omega) (fun hrm548 m548 hm548 => ?_)
      have hJ549 := w45_19 hJ546 hm548 (by omega) hrm548
      have km548 : ∀ g, m548 g 8 9 = m545 g 8 9 := fun g9 => by rw [hm548]; exact z_upd_o _ _ rfl
      refine X.retv i216_184 rfl t216 ?_
      exact hQ  m548  (hJ549.up (by omega)) (fun g => by simp only [km519, km522, km525, km528, km535, km540, km545, km548]) 
    · have h514c : a2 ≥ 0 := by omega
      clear h514 hz513
      refine X.iconst 13 i221_12 rfl rfl (by decide) ?_
      refine X.goto 31 i221_13 rfl rfl ?_
      refine X.cut [] i221_31 rfl ?_
      refine X.reti i221_31 rfl t221 ?_
      show X (EE s) d 216 68 [(0, zr g0 44), (1, zl a1), (3, zl a2), (5, zl a3), (7, zi v504), (8, zl z506)] [zi 1, zi 1, zr g0 44] m _
      refine X.iadd 69 i216_68 rfl rfl (by omega) ?_
      refine X.iload 71 i216_69 rfl rfl rfl ?_
      refine X.lload_n 72 i216_71 rfl rfl rfl ?_
      refine X.calls 75 [zl a2] [zi v504, zi (1 + 1), zr g0 44] [(0, zl a2)] i216_72 (by decide) rfl rfl (by omega) rfl rfl t215 (Nat.le_of_ble_eq_true rfl) (Nat.le_of_ble_eq_true rfl) rfl ?_
      refine X.lload_n 1 i215_0 rfl rfl rfl ?_
      refine X.lconst (y := 0) 2 i215_1 rfl rfl rfl ?_
      refine X.lcmp 3 i215_2 rfl rfl (fun z550 hz550 => ?_)
      refine X.ifge 11 6 i215_3 rfl rfl rfl (fun h551 => ?_) (fun h551 => (by exfalso; omega))
      have h551c : a2 ≥ 0 := by omega
      clear h551 hz550
      refine X.lload_n 12 i215_11 rfl rfl rfl ?_
      refine X.cut [] i215_12 rfl ?_
      refine X.retl i215_12 rfl t215 ?_
      show X (EE s) d 216 75 [(0, zr g0 44), (1, zl a1), (3, zl a2), (5, zl a3), (7, zi v504), (8, zl z506)] [zl a2, zi v504, zi (1 + 1), zr g0 44] m _
      refine X.callv 78 [zi (1 + 1), zi v504, zl a2] [] [(0, zr g0 44), (1, zi (1 + 1)), (2, zi v504), (3, zl a2)] i216_75 rfl (by decide) rfl rfl (by omega) rfl rfl (by decide) rfl t220 (Nat.le_of_ble_eq_true rfl) (Nat.le_of_ble_eq_true rfl) rfl ?_
      refine X.aload_n 1 i220_0 rfl rfl rfl ?_
      refine X.getF 4 i220_1 rfl rfl (by decide) rfl rfl ?_
      refine X.bipush 6 i220_4 rfl rfl (by decide) ?_
      refine X.iconst 7 i220_6 rfl rfl (by decide) ?_
      refine X.iload_n 8 i220_7 rfl rfl rfl ?_
      refine X.imul 9 i220_8 rfl rfl (by omega) ?_
      refine X.iadd 10 i220_9 rfl rfl (by omega) ?_
      refine X.iload_n 11 i220_10 rfl rfl rfl ?_
      refine X.iadd 12 i220_11 rfl rfl (by omega) ?_
      refine X.dup2 13 i220_12 rfl rfl ?_
      refine X.lald 14 i220_13 rfl rfl (by decide) rfl (by omega) ?_
      refine X.lload_n 15 i220_14 rfl rfl rfl ?_
      refine X.llF 16 .ladd (fun x y => x + y) i220_15 rfl rfl rfl (fun _ _ => rfl) (fun z552 hz552 => ?_)
      refine X.last' 17 i220_16 rfl rfl (by decide) rfl (by omega) (fun hrm553 m553 hm553 => ?_)
      have hJ554 := w45_19 hJ hm553 (by omega) hrm553
      have km553 : ∀ g, m553 g 8 9 = m g 8 9 := fun g9 => by rw [hm553]; exact z_upd_o _ _ rfl
      refine X.aload_n 18 i220_17 rfl rfl rfl ?_
      refine X.getF 21 i220_18 rfl rfl (by decide) rfl rfl ?_
      refine X.bipush 23 i220_21 rfl rfl (by decide) ?_
      refine X.iconst 24 i220_23 rfl rfl (by decide) ?_
      refine X.iload_n 25 i220_24 rfl rfl rfl ?_
      refine X.imul 26 i220_25 rfl rfl (by omega) ?_
      refine X.iadd 27 i220_26 rfl rfl (by omega) ?_
      refine X.iconst 28 i220_27 rfl rfl (by decide) ?_
      refine X.iadd 29 i220_28 rfl rfl (by omega) ?_
      refine X.dup2 30 i220_29 rfl rfl ?_
      refine X.lald 31 i220_30 rfl rfl (by decide) rfl (by omega) ?_
      refine X.lload_n 32 i220_31 rfl rfl rfl ?_
      refine X.llF 33 .ladd (fun x y => x + y) i220_32 rfl rfl rfl (fun _ _ => rfl) (fun z555 hz555 => ?_)
      refine X.last' 34 i220_33 rfl rfl (by decide) rfl (by omega) (fun hrm556 m556 hm556 => ?_)
      have hJ557 := w45_19 hJ554 hm556 (by omega) hrm556
      have km556 : ∀ g, m556 g 8 9 = m553 g 8 9 := fun g9 => by rw [hm556]; exact z_upd_o _ _ rfl
      refine X.retv i220_34 rfl t220 ?_
      show X (EE s) d 216 78 [(0, zr g0 44), (1, zl a1), (3, zl a2), (5, zl a3), (7, zi v504), (8, zl z506)] [] m556 _
      refine X.aload_n 79 i216_78 rfl rfl rfl ?_
      refine X.bipush 81 i216_79 rfl rfl (by decide) ?_
      refine X.iload 83 i216_81 rfl rfl rfl ?_
      refine X.lload 85 i216_83 rfl rfl rfl ?_
      refine X.callv 88 [zi 6, zi v504, zl a3] [] [(0, zr g0 44), (1, zi 6), (2, zi v504), (3, zl a3)] i216_85 rfl (by decide) rfl rfl (by omega) rfl rfl (by decide) rfl t220 (Nat.le_of_ble_eq_true rfl) (Nat.le_of_ble_eq_true rfl) rfl ?_
      refine X.aload_n 1 i220_0 rfl rfl rfl ?_
      refine X.getF 4 i220_1 rfl rfl (by decide) rfl rfl ?_
      refine X.bipush 6 i220_4 rfl rfl (by decide) ?_
      refine X.iconst 7 i220_6 rfl rfl (by decide) ?_
      refine X.iload_n 8 i220_7 rfl rfl rfl ?_
      refine X.imul 9 i220_8 rfl rfl (by omega) ?_
      refine X.iadd 10 i220_9 rfl rfl (by omega) ?_
      refine X.iload_n 11 i220_10 rfl rfl rfl ?_
      refine X.iadd 12 i220_11 rfl rfl (by omega) ?_
      refine X.dup2 13 i220_12 rfl rfl ?_
      refine X.lald 14 i220_13 rfl rfl (by decide) rfl (by omega) ?_
      refine X.lload_n 15 i220_14 rfl rfl rfl ?_
      refine X.llF 16 .ladd (fun x y => x + y) i220_15 rfl rfl rfl (fun _ _ => rfl) (fun z558 hz558 => ?_)
      refine X.last' 17 i220_16 rfl rfl (by decide) rfl (by omega) (fun hrm559 m559 hm559 => ?_)
      have hJ560 := w45_19 hJ557 hm559 (by omega) hrm559
      have km559 : ∀ g, m559 g 8 9 = m556 g 8 9 := fun g9 => by rw [hm559]; exact z_upd_o _ _ rfl
      refine X.aload_n 18 i220_17 rfl rfl rfl ?_
      refine X.getF 21 i220_18 rfl rfl (by decide) rfl rfl ?_
      refine X.bipush 23 i220_21 rfl rfl (by decide) ?_
      refine X.iconst 24 i220_23 rfl rfl (by decide) ?_
      refine X.iload_n 25 i220_24 rfl rfl rfl ?_
      refine X.imul 26 i220_25 rfl rfl (by omega) ?_
      refine X.iadd 27 i220_26 rfl rfl (by omega) ?_
      refine X.iconst 28 i220_27 rfl rfl (by decide) ?_
      refine X.iadd 29 i220_28 rfl rfl (by omega) ?_
      refine X.dup2 30 i220_29 rfl rfl ?_
      refine X.lald 31 i220_30 rfl rfl (by decide) rfl (by omega) ?_
      refine X.lload_n 32 i220_31 rfl rfl rfl ?_
      refine X.llF 33 .ladd (fun x y => x + y) i220_32 rfl rfl rfl (fun _ _ => rfl) (fun z561 hz561 => ?_)
      refine X.last' 34 i220_33 rfl rfl (by decide) rfl (by omega) (fun hrm562 m562 hm562 => ?_)
      have hJ563 := w45_19 hJ560 hm562 (by omega) hrm562
      have km562 : ∀ g, m562 g 8 9 = m559 g 8 9 := fun g9 => by rw [hm562]; exact z_upd_o _ _ rfl
      refine X.retv i220_34 rfl t220 ?_
      show X (EE s) d 216 88 [(0, zr g0 44), (1, zl a1), (3, zl a2), (5, zl a3), (7, zi v504), (8, zl z506)] [] m562 _
      refine X.aload_n 89 i216_88 rfl rfl rfl ?_
      refine X.getF 92 i216_89 rfl rfl (by decide) rfl rfl ?_
      refine X.bipush 94 i216_92 rfl rfl (by decide) ?_
      refine X.dup2 95 i216_94 rfl rfl ?_
      refine X.lald 96 i216_95 rfl rfl (by decide) rfl (by omega) ?_
      refine X.aload_n 97 i216_96 rfl rfl rfl ?_
      refine X.getF 100 i216_97 rfl rfl (by decide) rfl rfl ?_
      refine X.bipush 102 i216_100 rfl rfl (by decide) ?_
      refine X.iload 104 i216_102 rfl rfl rfl ?_
      refine X.iadd 105 i216_104 rfl rfl (by omega) ?_
      refine X.lald 106 i216_105 rfl rfl (by decide) rfl (by omega) ?_
      refine X.aload_n 107 i216_106 rfl rfl rfl ?_
      refine X.getF 110 i216_107 rfl rfl (by decide) rfl rfl ?_
      refine X.iconst 111 i216_110 rfl rfl (by decide) ?_
      refine X.lald 112 i216_111 rfl rfl (by decide) rfl (by omega) ?_
      have h564 := r45_5 hJ563 4
      refine X.ldivF 113 i216_112 rfl rfl (by omega) (fun z565 => ?_)
      refine X.lload 115 i216_113 rfl rfl rfl ?_
      refine X.llF 116 .lsub (fun x y => x - y) i216_115 rfl rfl rfl (fun _ _ => rfl) (fun z566 hz566 => ?_)
      refine X.aload_n 117 i216_116 rfl rfl rfl ?_
      refine X.getF 120 i216_117 rfl rfl (by decide) rfl rfl ?_
      refine X.bipush 122 i216_120 rfl rfl (by decide) ?_
      refine X.iload 124 i216_122 rfl rfl rfl ?_
      refine X.iadd 125 i216_124 rfl rfl (by omega) ?_
      refine X.lald 126 i216_125 rfl rfl (by decide) rfl (by omega) ?_
      refine X.llF 127 .lmul (fun x y => x * y) i216_126 rfl rfl rfl (fun _ _ => rfl) (fun z567 hz567 => ?_)
      refine X.llF 128 .lsub (fun x y => x - y) i216_127 rfl rfl rfl (fun _ _ => rfl) (fun z568 hz568 => ?_)
      refine X.last' 129 i216_128 rfl rfl (by decide) rfl (by omega) (fun hrm569 m569 hm569 => ?_)
      have hJ570 := w45_10 hJ563 hm569 hrm569
      have km569 : ∀ g, m569 g 8 9 = m562 g 8 9 := fun g9 => by rw [hm569]; exact z_upd_o _ _ rfl
      refine X.aload_n 130 i216_129 rfl rfl rfl ?_
      refine X.getF 133 i216_130 rfl rfl (by decide) rfl rfl ?_
      refine X.bipush 135 i216_133 rfl rfl (by decide) ?_
      refine X.dup2 136 i216_135 rfl rfl ?_
      refine X.lald 137 i216_136 rfl rfl (by decide) rfl (by omega) ?_
      refine X.lload_n 138 i216_137 rfl rfl rfl ?_
      refine X.lconst (y := 0) 139 i216_138 rfl rfl rfl ?_
      refine X.lcmp 140 i216_139 rfl rfl (fun z571 hz571 => ?_)
      refine X.ifle 147 143 i216_140 rfl rfl rfl (fun h572 => ?_) (fun h572 => (by exfalso; omega))
      have h572c : a1 ≤ 0 := by omega
      clear h572 hz571
      refine X.cut [(0, zr g0 44), (1, zl a1), (5, zl a3)] i216_147 rfl ?_
      refine X.lconst (y := 0) 148 i216_147 rfl rfl rfl ?_
      refine X.llF 149 .ladd (fun x y => x + y) i216_148 rfl rfl rfl (fun _ _ => rfl) (fun z573 hz573 => ?_)
      refine X.last' 150 i216_149 rfl rfl (by decide) rfl (by omega) (fun hrm574 m574 hm574 => ?_)
      have hJ575 := w45_19 hJ570 hm574 (by omega) hrm574
      have km574 : ∀ g, m574 g 8 9 = m569 g 8 9 := fun g9 => by rw [hm574]; exact z_upd_o _ _ rfl
      refine X.aload_n 151 i216_150 rfl rfl rfl ?_
      refine X.getF 154 i216_151 rfl rfl (by decide) rfl rfl ?_
      refine X.bipush 156 i216_154 rfl rfl (by decide) ?_
      refine X.dup2 157 i216_156 rfl rfl ?_
      refine X.lald 158 i216_157 rfl rfl (by decide) rfl (by omega) ?_
      refine X.lload_n 159 i216_158 rfl rfl rfl ?_
      refine X.lconst (y := 0) 160 i216_159 rfl rfl rfl ?_
      refine X.lcmp 161 i216_160 rfl rfl (fun z576 hz576 => ?_)
      refine X.ifge 169 164 i216_161 rfl rfl rfl (fun h577 => ?_) (fun h577 => (by exfalso; omega))
      have h577c : a1 ≥ 0 := by omega
      clear h577 hz576
      refine X.cut [(0, zr g0 44), (5, zl a3)] i216_169 rfl ?_
      refine X.lconst (y := 0) 170 i216_169 rfl rfl rfl ?_
      refine X.llF 171 .ladd (fun x y => x + y) i216_170 rfl rfl rfl (fun _ _ => rfl) (fun z578 hz578 => ?_)
      refine X.last' 172 i216_171 rfl rfl (by decide) rfl (by omega) (fun hrm579 m579 hm579 => ?_)
      have hJ580 := w45_19 hJ575 hm579 (by omega) hrm579
      have km579 : ∀ g, m579 g 8 9 = m574 g 8 9 := fun g9 => by rw [hm579]; exact z_upd_o _ _ rfl
      refine X.aload_n 173 i216_172 rfl rfl rfl ?_
      refine X.getF 176 i216_173 rfl rfl (by decide) rfl rfl ?_
      refine X.bipush 178 i216_176 rfl rfl (by decide) ?_
      refine X.dup2 179 i216_178 rfl rfl ?_
      refine X.lald 180 i216_179 rfl rfl (by decide) rfl (by omega) ?_
      refine X.lload 182 i216_180 rfl rfl rfl ?_
      refine X.llF 183 .ladd (fun x y => x + y) i216_182 rfl rfl rfl (fun _ _ => rfl) (fun z581 hz581 => ?_)
      refine X.last' 184 i216_183 rfl rfl (by decide) rfl (by omega) (fun hrm582 m582 hm582 => ?_)
      have hJ583 := w45_19 hJ580 hm582 (by omega) hrm582
      have km582 : ∀ g, m582 g 8 9 = m579 g 8 9 := fun g9 => by rw [hm582]; exact z_upd_o _ _ rfl
      refine X.retv i216_184 rfl t216 ?_
      exact hQ  m582  (hJ583.up (by omega)) (fun g => by simp only [km553, km556, km559, km562, km569, km574, km579, km582]) 
  · have h508c : a1 > 0 := by omega
    clear h508 hz507
    refine X.aload_n 39 i216_38 rfl rfl rfl ?_
    refine X.iconst 40 i216_39 rfl rfl (by decide) ?_
    refine X.iload 42 i216_40 rfl rfl rfl ?_
    refine X.lload_n 43 i216_42 rfl rfl rfl ?_
    refine X.callv 46 [zi 0, zi v504, zl a1] [] [(0, zr g0 44), (1, zi 0), (2, zi v504), (3, zl a1)] i216_43 rfl (by decide) rfl rfl (by omega) rfl rfl (by decide) rfl t220 (Nat.le_of_ble_eq_true rfl) (Nat.le_of_ble_eq_true rfl) rfl ?_
    refine X.aload_n 1 i220_0 rfl rfl rfl ?_
    refine X.getF 4 i220_1 rfl rfl (by decide) rfl rfl ?_
    refine X.bipush 6 i220_4 rfl rfl (by decide) ?_
    refine X.iconst 7 i220_6 rfl rfl (by decide) ?_
    refine X.iload_n 8 i220_7 rfl rfl rfl ?_
    refine X.imul 9 i220_8 rfl rfl (by omega) ?_
    refine X.iadd 10 i220_9 rfl rfl (by omega) ?_
    refine X.iload_n 11 i220_10 rfl rfl rfl ?_
    refine X.iadd 12 i220_11 rfl rfl (by omega) ?_
    refine X.dup2 13 i220_12 rfl rfl ?_
    refine X.lald 14 i220_13 rfl rfl (by decide) rfl (by omega) ?_
    refine X.lload_n 15 i220_14 rfl rfl rfl ?_
    refine X.llF 16 .ladd (fun x y => x + y) i220_15 rfl rfl rfl (fun _ _ => rfl) (fun z584 hz584 => ?_)
    refine X.last' 17 i220_16 rfl rfl (by decide) rfl (by omega) (fun hrm585 m585 hm585 => ?_)
    have hJ586 := w45_19 hJ hm585 (by omega) hrm585
    have km585 : ∀ g, m585 g 8 9 = m g 8 9 := fun g9 => by rw [hm585]; exact z_upd_o _ _ rfl
    refine X.aload_n 18 i220_17 rfl rfl rfl ?_
    refine X.getF 21 i220_18 rfl rfl (by decide) rfl rfl ?_
    refine X.bipush 23 i220_21 rfl rfl (by decide) ?_
    refine X.iconst 24 i220_23 rfl rfl (by decide) ?_
    refine X.iload_n 25 i220_24 rfl rfl rfl ?_
    refine X.imul 26 i220_25 rfl rfl (by omega) ?_
    refine X.iadd 27 i220_26 rfl rfl (by omega) ?_
    refine X.iconst 28 i220_27 rfl rfl (by decide) ?_
    refine X.iadd 29 i220_28 rfl rfl (by omega) ?_
    refine X.dup2 30 i220_29 rfl rfl ?_
    refine X.lald 31 i220_30 rfl rfl (by decide) rfl (by omega) ?_
    refine X.lload_n 32 i220_31 rfl rfl rfl ?_
    refine X.llF 33 .ladd (fun x y => x + y) i220_32 rfl rfl rfl (fun _ _ => rfl) (fun z587 hz587 => ?_)
    refine X.last' 34 i220_33 rfl rfl (by decide) rfl (by omega) (fun hrm588 m588 hm588 => ?_)
    have hJ589 := w45_19 hJ586 hm588 (by omega) hrm588
    have km588 : ∀ g, m588 g 8 9 = m585 g 8 9 := fun g9 => by rw [hm588]; exact z_upd_o _ _ rfl
    refine X.retv i220_34 rfl t220 ?_
    show X (EE s) d 216 46 [(0, zr g0 44), (1, zl a1), (3, zl a2), (5, zl a3), (7, zi v504), (8, zl z506)] [] m588 _
    refine X.lload_n 47 i216_46 rfl rfl rfl ?_
    refine X.lconst (y := 0) 48 i216_47 rfl rfl rfl ?_
    refine X.lcmp 49 i216_48 rfl rfl (fun z590 hz590 => ?_)
    refine X.ifge 61 52 i216_49 rfl rfl rfl (fun h591 => ?_) (fun h591 => (by exfalso; omega))
    have h591c : a1 ≥ 0 := by omega
    clear h591 hz590
    refine X.aload_n 62 i216_61 rfl rfl rfl ?_
    refine X.iconst 63 i216_62 rfl rfl (by decide) ?_
    refine X.lload_n 64 i216_63 rfl rfl rfl ?_
    refine X.lload_n 65 i216_64 rfl rfl rfl ?_
    refine X.calls 68 [zl a1, zl a2] [zi 1, zr g0 44] [(0, zl a1), (2, zl a2)] i216_65 (by decide) rfl rfl (by omega) rfl rfl t221 (Nat.le_of_ble_eq_true rfl) (Nat.le_of_ble_eq_true rfl) rfl ?_
    refine X.lload_n 1 i221_0 rfl rfl rfl ?_
    refine X.lconst (y := 0) 2 i221_1 rfl rfl rfl ?_
    refine X.lcmp 3 i221_2 rfl rfl (fun z592 hz592 => ?_)
    refine X.iflt 20 6 i221_3 rfl rfl rfl (fun h593 => (by exfalso; omega)) (fun h593 => ?_)
    have h593c : a1 ≥ 0 := by omega
    clear h593 hz592
    refine X.lload_n 7 i221_6 rfl rfl rfl ?_
    refine X.lconst (y := 0) 8 i221_7 rfl rfl rfl ?_
    refine X.lcmp 9 i221_8 rfl rfl (fun z594 hz594 => ?_)
    refine X.iflt 16 12 i221_9 rfl rfl rfl (fun h595 => ?_) (fun h595 => ?_)
    · have h595c : a2 < 0 := by omega
      clear h595 hz594
      refine X.cut [] i221_16 rfl ?_
      refine X.iconst 17 i221_16 rfl rfl (by decide) ?_
      refine X.goto 31 i221_17 rfl rfl ?_
      refine X.reti i221_31 rfl t221 ?_
      show X (EE s) d 216 68 [(0, zr g0 44), (1, zl a1), (3, zl a2), (5, zl a3), (7, zi v504), (8, zl z506)] [zi 4, zi 1, zr g0 44] m588 _
      refine X.iadd 69 i216_68 rfl rfl (by omega) ?_
      refine X.iload 71 i216_69 rfl rfl rfl ?_
      refine X.lload_n 72 i216_71 rfl rfl rfl ?_
      refine X.calls 75 [zl a2] [zi v504, zi (1 + 4), zr g0 44] [(0, zl a2)] i216_72 (by decide) rfl rfl (by omega) rfl rfl t215 (Nat.le_of_ble_eq_true rfl) (Nat.le_of_ble_eq_true rfl) rfl ?_
      refine X.lload_n 1 i215_0 rfl rfl rfl ?_
      refine X.lconst (y := 0) 2 i215_1 rfl rfl rfl ?_
      refine X.lcmp 3 i215_2 rfl rfl (fun z596 hz596 => ?_)
      refine X.ifge 11 6 i215_3 rfl rfl rfl (fun h597 => (by exfalso; omega)) (fun h597 => ?_)
      have h597c : a2 < 0 := by omega
      clear h597 hz596
      refine X.lload_n 7 i215_6 rfl rfl rfl ?_
      refine X.lnegF 8 i215_7 rfl rfl (fun z598 hz598 => ?_)
      refine X.goto 12 i215_8 rfl rfl ?_
      refine X.cut [] i215_12 rfl ?_
      refine X.retl i215_12 rfl t215 ?_
      show X (EE s) d 216 75 [(0, zr g0 44), (1, zl a1), (3, zl a2), (5, zl a3), (7, zi v504), (8, zl z506)] [zl z598, zi v504, zi (1 + 4), zr g0 44] m588 _
      refine X.callv 78 [zi (1 + 4), zi v504, zl z598] [] [(0, zr g0 44), (1, zi (1 + 4)), (2, zi v504), (3, zl z598)] i216_75 rfl (by decide) rfl rfl (by omega) rfl rfl (by decide) rfl t220 (Nat.le_of_ble_eq_true rfl) (Nat.le_of_ble_eq_true rfl) rfl ?_
      refine X.aload_n 1 i220_0 rfl rfl rfl ?_
      refine X.getF 4 i220_1 rfl rfl (by decide) rfl rfl ?_
      refine X.bipush 6 i220_4 rfl rfl (by decide) ?_
      refine X.iconst 7 i220_6 rfl rfl (by decide) ?_
      refine X.iload_n 8 i220_7 rfl rfl rfl ?_
      refine X.imul 9 i220_8 rfl rfl (by omega) ?_
      refine X.iadd 10 i220_9 rfl rfl (by omega) ?_
      refine X.iload_n 11 i220_10 rfl rfl rfl ?_
      refine X.iadd 12 i220_11 rfl rfl (by omega) ?_
      refine X.dup2 13 i220_12 rfl rfl ?_
      refine X.lald 14 i220_13 rfl rfl (by decide) rfl (by omega) ?_
      refine X.lload_n 15 i220_14 rfl rfl rfl ?_
      refine X.llF 16 .ladd (fun x y => x + y) i220_15 rfl rfl rfl (fun _ _ => rfl) (fun z599 hz599 => ?_)
      refine X.last' 17 i220_16 rfl rfl (by decide) rfl (by omega) (fun hrm600 m600 hm600 => ?_)
      have hJ601 := w45_19 hJ589 hm600 (by omega) hrm600
      have km600 : ∀ g, m600 g 8 9 = m588 g 8 9 := fun g9 => by rw [hm600]; exact z_upd_o _ _ rfl
      refine X.aload_n 18 i220_17 rfl rfl rfl ?_
      refine X.getF 21 i220_18 rfl rfl (by decide) rfl rfl ?_
      refine X.bipush 23 i220_21 rfl rfl (by decide) ?_
      refine X.iconst 24 i220_23 rfl rfl (by decide) ?_
      refine X.iload_n 25 i220_24 rfl rfl rfl ?_
      refine X.imul 26 i220_25 rfl rfl (by omega) ?_
      refine X.iadd 27 i220_26 rfl rfl (by omega) ?_
      refine X.iconst 28 i220_27 rfl rfl (by decide) ?_
      refine X.iadd 29 i220_28 rfl rfl (by omega) ?_
      refine X.dup2 30 i220_29 rfl rfl ?_
      refine X.lald 31 i220_30 rfl rfl (by decide) rfl (by omega) ?_
      refine X.lload_n 32 i220_31 rfl rfl rfl ?_
      refine X.llF 33 .ladd (fun x y => x + y) i220_32 rfl rfl rfl (fun _ _ => rfl) (fun z602 hz602 => ?_)
      refine X.last' 34 i220_33 rfl rfl (by decide) rfl (by omega) (fun hrm603 m603 hm603 => ?_)
      have hJ604 := w45_19 hJ601 hm603 (by omega) hrm603
      have km603 : ∀ g, m603 g 8 9 = m600 g 8 9 := fun g9 => by rw [hm603]; exact z_upd_o _ _ rfl
      refine X.retv i220_34 rfl t220 ?_
      show X (EE s) d 216 78 [(0, zr g0 44), (1, zl a1), (3, zl a2), (5, zl a3), (7, zi v504), (8, zl z506)] [] m603 _
      refine X.aload_n 79 i216_78 rfl rfl rfl ?_
      refine X.bipush 81 i216_79 rfl rfl (by decide) ?_
      refine X.iload 83 i216_81 rfl rfl rfl ?_
      refine X.lload 85 i216_83 rfl rfl rfl ?_
      refine X.callv 88 [zi 6, zi v504, zl a3] [] [(0, zr g0 44), (1, zi 6), (2, zi v504), (3, zl a3)] i216_85 rfl (by decide) rfl rfl (by omega) rfl rfl (by decide) rfl t220 (Nat.le_of_ble_eq_true rfl) (Nat.le_of_ble_eq_true rfl) rfl ?_
      refine X.aload_n 1 i220_0 rfl rfl rfl ?_
      refine X.getF 4 i220_1 rfl rfl (by decide) rfl rfl ?_
      refine X.bipush 6 i220_4 rfl rfl (by decide) ?_
      refine X.iconst 7 i220_6 rfl rfl (by decide) ?_
      refine X.iload_n 8 i220_7 rfl rfl rfl ?_
      refine X.imul 9 i220_8 rfl rfl (by omega) ?_
      refine X.iadd 10 i220_9 rfl rfl (by omega) ?_
      refine X.iload_n 11 i220_10 rfl rfl rfl ?_
      refine X.iadd 12 i220_11 rfl rfl (by omega) ?_
      refine X.dup2 13 i220_12 rfl rfl ?_
      refine X.lald 14 i220_13 rfl rfl (by decide) rfl (by omega) ?_
      refine X.lload_n 15 i220_14 rfl rfl rfl ?_
      refine X.llF 16 .ladd (fun x y => x + y) i220_15 rfl rfl rfl (fun _ _ => rfl) (fun z605 hz605 => ?_)
      refine X.last' 17 i220_16 rfl rfl (by decide) rfl (by omega) (fun hrm606 m606 hm606 => ?_)
      have hJ607 := w45_19 hJ604 hm606 (by omega) hrm606
      have km606 : ∀ g, m606 g 8 9 = m603 g 8 9 := fun g9 => by rw [hm606]; exact z_upd_o _ _ rfl
      refine X.aload_n 18 i220_17 rfl rfl rfl ?_
      refine X.getF 21 i220_18 rfl rfl (by decide) rfl rfl ?_
      refine X.bipush 23 i220_21 rfl rfl (by decide) ?_
      refine X.iconst 24 i220_23 rfl rfl (by decide) ?_
      refine X.iload_n 25 i220_24 rfl rfl rfl ?_
      refine X.imul 26 i220_25 rfl rfl (by omega) ?_
      refine X.iadd 27 i220_26 rfl rfl (by omega) ?_
      refine X.iconst 28 i220_27 rfl rfl (by decide) ?_
      refine X.iadd 29 i220_28 rfl rfl (by omega) ?_
      refine X.dup2 30 i220_29 rfl rfl ?_
      refine X.lald 31 i220_30 rfl rfl (by decide) rfl (by omega) ?_
      refine X.lload_n 32 i220_31 rfl rfl rfl ?_
      refine X.llF 33 .ladd (fun x y => x + y) i220_32 rfl rfl rfl (fun _ _ => rfl) (fun z608 hz608 => ?_)
      refine X.last' 34 i220_33 rfl rfl (by decide) rfl (by omega) (fun hrm609 m609 hm609 => ?_)
      have hJ610 := w45_19 hJ607 hm609 (by omega) hrm609
      have km609 : ∀ g, m609 g 8 9 = m606 g 8 9 := fun g9 => by rw [hm609]; exact z_upd_o _ _ rfl
      refine X.retv i220_34 rfl t220 ?_
      show X (EE s) d 216 88 [(0, zr g0 44), (1, zl a1), (3, zl a2), (5, zl a3), (7, zi v504), (8, zl z506)] [] m609 _
      refine X.aload_n 89 i216_88 rfl rfl rfl ?_
      refine X.getF 92 i216_89 rfl rfl (by decide) rfl rfl ?_
      refine X.bipush 94 i216_92 rfl rfl (by decide) ?_
      refine X.dup2 95 i216_94 rfl rfl ?_
      refine X.lald 96 i216_95 rfl rfl (by decide) rfl (by omega) ?_
      refine X.aload_n 97 i216_96 rfl rfl rfl ?_
      refine X.getF 100 i216_97 rfl rfl (by decide) rfl rfl ?_
      refine X.bipush 102 i216_100 rfl rfl (by decide) ?_
      refine X.iload 104 i216_102 rfl rfl rfl ?_
      refine X.iadd 105 i216_104 rfl rfl (by omega) ?_
      refine X.lald 106 i216_105 rfl rfl (by decide) rfl (by omega) ?_
      refine X.aload_n 107 i216_106 rfl rfl rfl ?_
      refine X.getF 110 i216_107 rfl rfl (by decide) rfl rfl ?_
      refine X.iconst 111 i216_110 rfl rfl (by decide) ?_
      refine X.lald 112 i216_111 rfl rfl (by decide) rfl (by omega) ?_
      have h611 := r45_5 hJ610 4
      refine X.ldivF 113 i216_112 rfl rfl (by omega) (fun z612 => ?_)
      refine X.lload 115 i216_113 rfl rfl rfl ?_
      refine X.llF 116 .lsub (fun x y => x - y) i216_115 rfl rfl rfl (fun _ _ => rfl) (fun z613 hz613 => ?_)
      refine X.aload_n 117 i216_116 rfl rfl rfl ?_
      refine X.getF 120 i216_117 rfl rfl (by decide) rfl rfl ?_
      refine X.bipush 122 i216_120 rfl rfl (by decide) ?_
      refine X.iload 124 i216_122 rfl rfl rfl ?_
      refine X.iadd 125 i216_124 rfl rfl (by omega) ?_
      refine X.lald 126 i216_125 rfl rfl (by decide) rfl (by omega) ?_
      refine X.llF 127 .lmul (fun x y => x * y) i216_126 rfl rfl rfl (fun _ _ => rfl) (fun z614 hz614 => ?_)
      refine X.llF 128 .lsub (fun x y => x - y) i216_127 rfl rfl rfl (fun _ _ => rfl) (fun z615 hz615 => ?_)
      refine X.last' 129 i216_128 rfl rfl (by decide) rfl (by omega) (fun hrm616 m616 hm616 => ?_)
      have hJ617 := w45_10 hJ610 hm616 hrm616
      have km616 : ∀ g, m616 g 8 9 = m609 g 8 9 := fun g9 => by rw [hm616]; exact z_upd_o _ _ rfl
      refine X.aload_n 130 i216_129 rfl rfl rfl ?_
      refine X.getF 133 i216_130 rfl rfl (by decide) rfl rfl ?_
      refine X.bipush 135 i216_133 rfl rfl (by decide) ?_
      refine X.dup2 136 i216_135 rfl rfl ?_
      refine X.lald 137 i216_136 rfl rfl (by decide) rfl (by omega) ?_
      refine X.lload_n 138 i216_137 rfl rfl rfl ?_
      refine X.lconst (y := 0) 139 i216_138 rfl rfl rfl ?_
      refine X.lcmp 140 i216_139 rfl rfl (fun z618 hz618 => ?_)
      refine X.ifle 147 143 i216_140 rfl rfl rfl (fun h619 => (by exfalso; omega)) (fun h619 => ?_)
      have h619c : a1 > 0 := by omega
      clear h619 hz618
      refine X.lload_n 144 i216_143 rfl rfl rfl ?_
      refine X.goto 148 i216_144 rfl rfl ?_
      refine X.cut [(0, zr g0 44), (1, zl a1), (5, zl a3)] i216_148 rfl ?_
      refine X.llF 149 .ladd (fun x y => x + y) i216_148 rfl rfl rfl (fun _ _ => rfl) (fun z620 hz620 => ?_)
      refine X.last' 150 i216_149 rfl rfl (by decide) rfl (by omega) (fun hrm621 m621 hm621 => ?_)
      have hJ622 := w45_19 hJ617 hm621 (by omega) hrm621
      have km621 : ∀ g, m621 g 8 9 = m616 g 8 9 := fun g9 => by rw [hm621]; exact z_upd_o _ _ rfl
      refine X.aload_n 151 i216_150 rfl rfl rfl ?_
      refine X.getF 154 i216_151 rfl rfl (by decide) rfl rfl ?_
      refine X.bipush 156 i216_154 rfl rfl (by decide) ?_
      refine X.dup2 157 i216_156 rfl rfl ?_
      refine X.lald 158 i216_157 rfl rfl (by decide) rfl (by omega) ?_
      refine X.lload_n 159 i216_158 rfl rfl rfl ?_
      refine X.lconst (y := 0) 160 i216_159 rfl rfl rfl ?_
      refine X.lcmp 161 i216_160 rfl rfl (fun z623 hz623 => ?_)
      refine X.ifge 169 164 i216_161 rfl rfl rfl (fun h624 => ?_) (fun h624 => (by exfalso; omega))
      have h624c : a1 ≥ 0 := by omega
      clear h624 hz623
      refine X.cut [(0, zr g0 44), (5, zl a3)] i216_169 rfl ?_
      refine X.lconst (y := 0) 170 i216_169 rfl rfl rfl ?_
      refine X.llF 171 .ladd (fun x y => x + y) i216_170 rfl rfl rfl (fun _ _ => rfl) (fun z625 hz625 => ?_)
      refine X.last' 172 i216_171 rfl rfl (by decide) rfl (by omega) (fun hrm626 m626 hm626 => ?_)
      have hJ627 := w45_19 hJ622 hm626 (by omega) hrm626
      have km626 : ∀ g, m626 g 8 9 = m621 g 8 9 := fun g9 => by rw [hm626]; exact z_upd_o _ _ rfl
      refine X.aload_n 173 i216_172 rfl rfl rfl ?_
      refine X.getF 176 i216_173 rfl rfl (by decide) rfl rfl ?_
      refine X.bipush 178 i216_176 rfl rfl (by decide) ?_
      refine X.dup2 179 i216_178 rfl rfl ?_
      refine X.lald 180 i216_179 rfl rfl (by decide) rfl (by omega) ?_
      refine X.lload 182 i216_180 rfl rfl rfl ?_
      refine X.llF 183 .ladd (fun x y => x + y) i216_182 rfl rfl rfl (fun _ _ => rfl) (fun z628 hz628 => ?_)
      refine X.last' 184 i216_183 rfl rfl (by decide) rfl (by omega) (fun hrm629 m629 hm629 => ?_)
      have hJ630 := w45_19 hJ627 hm629 (by omega) hrm629
      have km629 : ∀ g, m629 g 8 9 = m626 g 8 9 := fun g9 => by rw [hm629]; exact z_upd_o _ _ rfl
      refine X.retv i216_184 rfl t216 ?_
      exact hQ  m629  (hJ630.up (by omega)) (fun g => by simp only [km585, km588, km600, km603, km606, km609, km616, km621, km626, km629]) 
    · have h595c : a2 ≥ 0 := by omega
      clear h595 hz594
      refine X.iconst 13 i221_12 rfl rfl (by decide) ?_
      refine X.goto 31 i221_13 rfl rfl ?_
      refine X.cut [] i221_31 rfl ?_
      refine X.reti i221_31 rfl t221 ?_
      show X (EE s) d 216 68 [(0, zr g0 44), (1, zl a1), (3, zl a2), (5, zl a3), (7, zi v504), (8, zl z506)] [zi 1, zi 1, zr g0 44] m588 _
      refine X.iadd 69 i216_68 rfl rfl (by omega) ?_
      refine X.iload 71 i216_69 rfl rfl rfl ?_
      refine X.lload_n 72 i216_71 rfl rfl rfl ?_
      refine X.calls 75 [zl a2] [zi v504, zi (1 + 1), zr g0 44] [(0, zl a2)] i216_72 (by decide) rfl rfl (by omega) rfl rfl t215 (Nat.le_of_ble_eq_true rfl) (Nat.le_of_ble_eq_true rfl) rfl ?_
      refine X.lload_n 1 i215_0 rfl rfl rfl ?_
      refine X.lconst (y := 0) 2 i215_1 rfl rfl rfl ?_
      refine X.lcmp 3 i215_2 rfl rfl (fun z631 hz631 => ?_)
      refine X.ifge 11 6 i215_3 rfl rfl rfl (fun h632 => ?_) (fun h632 => (by exfalso; omega))
      have h632c : a2 ≥ 0 := by omega
      clear h632 hz631
      refine X.lload_n 12 i215_11 rfl rfl rfl ?_
      refine X.cut [] i215_12 rfl ?_
      refine X.retl i215_12 rfl t215 ?_
      show X (EE s) d 216 75 [(0, zr g0 44), (1, zl a1), (3, zl a2), (5, zl a3), (7, zi v504), (8, zl z506)] [zl a2, zi v504, zi (1 + 1), zr g0 44] m588 _
      refine X.callv 78 [zi (1 + 1), zi v504, zl a2] [] [(0, zr g0 44), (1, zi (1 + 1)), (2, zi v504), (3, zl a2)] i216_75 rfl (by decide) rfl rfl (by omega) rfl rfl (by decide) rfl t220 (Nat.le_of_ble_eq_true rfl) (Nat.le_of_ble_eq_true rfl) rfl ?_
      refine X.aload_n 1 i220_0 rfl rfl rfl ?_
      refine X.getF 4 i220_1 rfl rfl (by decide) rfl rfl ?_
      refine X.bipush 6 i220_4 rfl rfl (by decide) ?_
      refine X.iconst 7 i220_6 rfl rfl (by decide) ?_
      refine X.iload_n 8 i220_7 rfl rfl rfl ?_
      refine X.imul 9 i220_8 rfl rfl (by omega) ?_
      refine X.iadd 10 i220_9 rfl rfl (by omega) ?_
      refine X.iload_n 11 i220_10 rfl rfl rfl ?_
      refine X.iadd 12 i220_11 rfl rfl (by omega) ?_
      refine X.dup2 13 i220_12 rfl rfl ?_
      refine X.lald 14 i220_13 rfl rfl (by decide) rfl (by omega) ?_
      refine X.lload_n 15 i220_14 rfl rfl rfl ?_
      refine X.llF 16 .ladd (fun x y => x + y) i220_15 rfl rfl rfl (fun _ _ => rfl) (fun z633 hz633 => ?_)
      refine X.last' 17 i220_16 rfl rfl (by decide) rfl (by omega) (fun hrm634 m634 hm634 => ?_)
      have hJ635 := w45_19 hJ589 hm634 (by omega) hrm634
      have km634 : ∀ g, m634 g 8 9 = m588 g 8 9 := fun g9 => by rw [hm634]; exact z_upd_o _ _ rfl
      refine X.aload_n 18 i220_17 rfl rfl rfl ?_
      refine X.getF 21 i220_18 rfl rfl (by decide) rfl rfl ?_
      refine X.bipush 23 i220_21 rfl rfl (by decide) ?_
      refine X.iconst 24 i220_23 rfl rfl (by decide) ?_
      refine X.iload_n 25 i220_24 rfl rfl rfl ?_
      refine X.imul 26 i220_25 rfl rfl (by omega) ?_
      refine X.iadd 27 i220_26 rfl rfl (by omega) ?_
      refine X.iconst 28 i220_27 rfl rfl (by decide) ?_
      refine X.iadd 29 i220_28 rfl rfl (by omega) ?_
      refine X.dup2 30 i220_29 rfl rfl ?_
      refine X.lald 31 i220_30 rfl rfl (by decide) rfl (by omega) ?_
      refine X.lload_n 32 i220_31 rfl rfl rfl ?_
      refine X.llF 33 .ladd (fun x y => x + y) i220_32 rfl rfl rfl (fun _ _ => rfl) (fun z636 hz636 => ?_)
      refine X.last' 34 i220_33 rfl rfl (by decide) rfl (by omega) (fun hrm637 m637 hm637 => ?_)
      have hJ638 := w45_19 hJ635 hm637 (by omega) hrm637
      have km637 : ∀ g, m637 g 8 9 = m634 g 8 9 := fun g9 => by rw [hm637]; exact z_upd_o _ _ rfl
      refine X.retv i220_34 rfl t220 ?_
      show X (EE s) d 216 78 [(0, zr g0 44), (1, zl a1), (3, zl a2), (5, zl a3), (7, zi v504), (8, zl z506)] [] m637 _
      refine X.aload_n 79 i216_78 rfl rfl rfl ?_
      refine X.bipush 81 i216_79 rfl rfl (by decide) ?_
      refine X.iload 83 i216_81 rfl rfl rfl ?_
      refine X.lload 85 i216_83 rfl rfl rfl ?_
      refine X.callv 88 [zi 6, zi v504, zl a3] [] [(0, zr g0 44), (1, zi 6), (2, zi v504), (3, zl a3)] i216_85 rfl (by decide) rfl rfl (by omega) rfl rfl (by decide) rfl t220 (Nat.le_of_ble_eq_true rfl) (Nat.le_of_ble_eq_true rfl) rfl ?_
      refine X.aload_n 1 i220_0 rfl rfl rfl ?_
      refine X.getF 4 i220_1 rfl rfl (by decide) rfl rfl ?_
      refine X.bipush 6 i220_4 rfl rfl (by decide) ?_
      refine X.iconst 7 i220_6 rfl rfl (by decide) ?_
      refine X.iload_n 8 i220_7 rfl rfl rfl ?_
      refine X.imul 9 i220_8 rfl rfl (by omega) ?_
      refine X.iadd 10 i220_9 rfl rfl (by omega) ?_
      refine X.iload_n 11 i220_10 rfl rfl rfl ?_
      refine X.iadd 12 i220_11 rfl rfl (by omega) ?_
      refine X.dup2 13 i220_12 rfl rfl ?_
      refine X.lald 14 i220_13 rfl rfl (by decide) rfl (by omega) ?_
      refine X.lload_n 15 i220_14 rfl rfl rfl ?_
      refine X.llF 16 .ladd (fun x y => x + y) i220_15 rfl rfl rfl (fun _ _ => rfl) (fun z639 hz639 => ?_)
      refine X.last' 17 i220_16 rfl rfl (by decide) rfl (by omega) (fun hrm640 m640 hm640 => ?_)
      have hJ641 := w45_19 hJ638 hm640 (by omega) hrm640
      have km640 : ∀ g, m640 g 8 9 = m637 g 8 9 := fun g9 => by rw [hm640]; exact z_upd_o _ _ rfl
      refine X.aload_n 18 i220_17 rfl rfl rfl ?_
      refine X.getF 21 i220_18 rfl rfl (by decide) rfl rfl ?_
      refine X.bipush 23 i220_21 rfl rfl (by decide) ?_
      refine X.iconst 24 i220_23 rfl rfl (by decide) ?_
      refine X.iload_n 25 i220_24 rfl rfl rfl ?_
      refine X.imul 26 i220_25 rfl rfl (by omega) ?_
      refine X.iadd 27 i220_26 rfl rfl (by omega) ?_
      refine X.iconst 28 i220_27 rfl rfl (by decide) ?_
      refine X.iadd 29 i220_28 rfl rfl (by omega) ?_
      refine X.dup2 30 i220_29 rfl rfl ?_
      refine X.lald 31 i220_30 rfl rfl (by decide) rfl (by omega) ?_
      refine X.lload_n 32 i220_31 rfl rfl rfl ?_
      refine X.llF 33 .ladd (fun x y => x + y) i220_32 rfl rfl rfl (fun _ _ => rfl) (fun z642 hz642 => ?_)
      refine X.last' 34 i220_33 rfl rfl (by decide) rfl (by omega) (fun hrm643 m643 hm643 => ?_)
      have hJ644 := w45_19 hJ641 hm643 (by omega) hrm643
      have km643 : ∀ g, m643 g 8 9 = m640 g 8 9 := fun g9 => by rw [hm643]; exact z_upd_o _ _ rfl
      refine X.retv i220_34 rfl t220 ?_
      show X (EE s) d 216 88 [(0, zr g0 44), (1, zl a1), (3, zl a2), (5, zl a3), (7, zi v504), (8, zl z506)] [] m643 _
      refine X.aload_n 89 i216_88 rfl rfl rfl ?_
      refine X.getF 92 i216_89 rfl rfl (by decide) rfl rfl ?_
      refine X.bipush 94 i216_92 rfl rfl (by decide) ?_
      refine X.dup2 95 i216_94 rfl rfl ?_
      refine X.lald 96 i216_95 rfl rfl (by decide) rfl (by omega) ?_
      refine X.aload_n 97 i216_96 rfl rfl rfl ?_
      refine X.getF 100 i216_97 rfl rfl (by decide) rfl rfl ?_
      refine X.bipush 102 i216_100 rfl rfl (by decide) ?_
      refine X.iload 104 i216_102 rfl rfl rfl ?_
      refine X.iadd 105 i216_104 rfl rfl (by omega) ?_
      refine X.lald 106 i216_105 rfl rfl (by decide) rfl (by omega) ?_
      refine X.aload_n 107 i216_106 rfl rfl rfl ?_
      refine X.getF 110 i216_107 rfl rfl (by decide) rfl rfl ?_
      refine X.iconst 111 i216_110 rfl rfl (by decide) ?_
      refine X.lald 112 i216_111 rfl rfl (by decide) rfl (by omega) ?_
      have h645 := r45_5 hJ644 4
      refine X.ldivF 113 i216_112 rfl rfl (by omega) (fun z646 => ?_)
      refine X.lload 115 i216_113 rfl rfl rfl ?_
      refine X.llF 116 .lsub (fun x y => x - y) i216_115 rfl rfl rfl (fun _ _ => rfl) (fun z647 hz647 => ?_)
      refine X.aload_n 117 i216_116 rfl rfl rfl ?_
      refine X.getF 120 i216_117 rfl rfl (by decide) rfl rfl ?_
      refine X.bipush 122 i216_120 rfl rfl (by decide) ?_
      refine X.iload 124 i216_122 rfl rfl rfl ?_
      refine X.iadd 125 i216_124 rfl rfl (by omega) ?_
      refine X.lald 126 i216_125 rfl rfl (by decide) rfl (by omega) ?_
      refine X.llF 127 .lmul (fun x y => x * y) i216_126 rfl rfl rfl (fun _ _ => rfl) (fun z648 hz648 => ?_)
      refine X.llF 128 .lsub (fun x y => x - y) i216_127 rfl rfl rfl (fun _ _ => rfl) (fun z649 hz649 => ?_)
      refine X.last' 129 i216_128 rfl rfl (by decide) rfl (by omega) (fun hrm650 m650 hm650 => ?_)
      have hJ651 := w45_10 hJ644 hm650 hrm650
      have km650 : ∀ g, m650 g 8 9 = m643 g 8 9 := fun g9 => by rw [hm650]; exact z_upd_o _ _ rfl
      refine X.aload_n 130 i216_129 rfl rfl rfl ?_
      refine X.getF 133 i216_130 rfl rfl (by decide) rfl rfl ?_
      refine X.bipush 135 i216_133 rfl rfl (by decide) ?_
      refine X.dup2 136 i216_135 rfl rfl ?_
      refine X.lald 137 i216_136 rfl rfl (by decide) rfl (by omega) ?_
      refine X.lload_n 138 i216_137 rfl rfl rfl ?_
      refine X.lconst (y := 0) 139 i216_138 rfl rfl rfl ?_
      refine X.lcmp 140 i216_139 rfl rfl (fun z652 hz652 => ?_)
      refine X.ifle 147 143 i216_140 rfl rfl rfl (fun h653 => (by exfalso; omega)) (fun h653 => ?_)
      have h653c : a1 > 0 := by omega
      clear h653 hz652
      refine X.lload_n 144 i216_143 rfl rfl rfl ?_
      refine X.goto 148 i216_144 rfl rfl ?_
      refine X.cut [(0, zr g0 44), (1, zl a1), (5, zl a3)] i216_148 rfl ?_
      refine X.llF 149 .ladd (fun x y => x + y) i216_148 rfl rfl rfl (fun _ _ => rfl) (fun z654 hz654 => ?_)
      refine X.last' 150 i216_149 rfl rfl (by decide) rfl (by omega) (fun hrm655 m655 hm655 => ?_)
      have hJ656 := w45_19 hJ651 hm655 (by omega) hrm655
      have km655 : ∀ g, m655 g 8 9 = m650 g 8 9 := fun g9 => by rw [hm655]; exact z_upd_o _ _ rfl
      refine X.aload_n 151 i216_150 rfl rfl rfl ?_
      refine X.getF 154 i216_151 rfl rfl (by decide) rfl rfl ?_
      refine X.bipush 156 i216_154 rfl rfl (by decide) ?_
      refine X.dup2 157 i216_156 rfl rfl ?_
      refine X.lald 158 i216_157 rfl rfl (by decide) rfl (by omega) ?_
      refine X.lload_n 159 i216_158 rfl rfl rfl ?_
      refine X.lconst (y := 0) 160 i216_159 rfl rfl rfl ?_
      refine X.lcmp 161 i216_160 rfl rfl (fun z657 hz657 => ?_)
      refine X.ifge 169 164 i216_161 rfl rfl rfl (fun h658 => ?_) (fun h658 => (by exfalso; omega))
      have h658c : a1 ≥ 0 := by omega
      clear h658 hz657
      refine X.cut [(0, zr g0 44), (5, zl a3)] i216_169 rfl ?_
      refine X.lconst (y := 0) 170 i216_169 rfl rfl rfl ?_
      refine X.llF 171 .ladd (fun x y => x + y) i216_170 rfl rfl rfl (fun _ _ => rfl) (fun z659 hz659 => ?_)
      refine X.last' 172 i216_171 rfl rfl (by decide) rfl (by omega) (fun hrm660 m660 hm660 => ?_)
      have hJ661 := w45_19 hJ656 hm660 (by omega) hrm660
      have km660 : ∀ g, m660 g 8 9 = m655 g 8 9 := fun g9 => by rw [hm660]; exact z_upd_o _ _ rfl
      refine X.aload_n 173 i216_172 rfl rfl rfl ?_
      refine X.getF 176 i216_173 rfl rfl (by decide) rfl rfl ?_
      refine X.bipush 178 i216_176 rfl rfl (by decide) ?_
      refine X.dup2 179 i216_178 rfl rfl ?_
      refine X.lald 180 i216_179 rfl rfl (by decide) rfl (by omega) ?_
      refine X.lload 182 i216_180 rfl rfl rfl ?_
      refine X.llF 183 .ladd (fun x y => x + y) i216_182 rfl rfl rfl (fun _ _ => rfl) (fun z662 hz662 => ?_)
      refine X.last' 184 i216_183 rfl rfl (by decide) rfl (by omega) (fun hrm663 m663 hm663 => ?_)
      have hJ664 := w45_19 hJ661 hm663 (by omega) hrm663
      have km663 : ∀ g, m663 g 8 9 = m660 g 8 9 := fun g9 => by rw [hm663]; exact z_upd_o _ _ rfl
      refine X.retv i216_184 rfl t216 ?_
      exact hQ  m663  (hJ664.up (by omega)) (fun g => by simp only [km585, km588, km634, km637, km640, km643, km650, km655, km660, km663]) 
theorem l223_17_1 {s : Nat × (Nat → Int32)} {m0 : zM} {d : Nat} {Q : Option zV → zM → Prop} (g0 : Nat) (y1 y2 : Int) (T9 : Nat → Int) (BE : Int) (hE : BE ≤ 1000000000) (hd : 13 ≤ d) (hy1 : 0 ≤ y1 ∧ y1 ≤ 40) (hy2 : 0 ≤ y2 ∧ y2 ≤ 0)
    (K54 : ∀ (m' : zM) (B' : Int), J m0 B' m' → B' ≤ BE → (∀ g, m' g 8 9 = T9 g) → X (EE s) d 223 54 [(0, zr g0 44), (1, zi y1), (2, zl y2)] [] m' Q) :
    ∀ (n : Nat) (y4 : Int) (m : zM) (B : Int), J m0 B m → B + 0 * (n : Int) ≤ BE → (∀ g, m g 8 9 = T9 g) → (3 ≤ y4 ∧ y4 ≤ 120) → 120 - y4 < (n : Int) → X (EE s) d 223 17 [(0, zr g0 44), (1, zi y1), (2, zl y2), (4, zi y4)] [] m Q := by
  intro n
  induction n with
  | zero =>
    intro y4 m B hJ hB hT hy4 hn
    exfalso
    omega
  | succ n ih =>
    intro y4 m B hJ hB hT hy4 hn
    refine X.iload 19 i223_17 rfl rfl rfl ?_
    refine X.bipush 21 i223_19 rfl rfl (by decide) ?_
    refine X.icmpge 54 24 i223_21 rfl rfl rfl (fun h504 => ?_) (fun h504 => ?_)
    · refine X.cut [(0, zr g0 44), (1, zi y1), (2, zl y2)] i223_54 rfl ?_
      exact K54  m (B) (hJ.up (by omega)) (by omega) (fun g => by simp only [hT]) 
    · refine X.aload_n 25 i223_24 rfl rfl rfl ?_
      refine X.getF 28 i223_25 rfl rfl (by decide) rfl rfl ?_
      refine X.sipush 31 i223_28 rfl rfl (by decide) ?_
      refine X.iload 33 i223_31 rfl rfl rfl ?_
      refine X.iadd 34 i223_33 rfl rfl (by omega) ?_
      refine X.iconst 35 i223_34 rfl rfl (by decide) ?_
      refine X.isub 36 i223_35 rfl rfl (by omega) ?_
      refine X.aload_n 37 i223_36 rfl rfl rfl ?_
      refine X.getF 40 i223_37 rfl rfl (by decide) rfl rfl ?_
      refine X.sipush 43 i223_40 rfl rfl (by decide) ?_
      refine X.iload 45 i223_43 rfl rfl rfl ?_
      refine X.iadd 46 i223_45 rfl rfl (by omega) ?_
      refine X.lald 47 i223_46 rfl rfl (by decide) rfl (by omega) ?_
      refine X.last' 48 i223_47 rfl rfl (by decide) rfl (by omega) (fun hrm505 m505 hm505 => ?_)
      have hJ506 := w45_788 hJ hm505 (by omega) hrm505
      have km505 : ∀ g, m505 g 8 9 = m g 8 9 := fun g9 => by rw [hm505]; exact z_upd_o _ _ rfl
      refine X.iinc 51 [(0, zr g0 44), (1, zi y1), (2, zl y2), (4, zi (y4 + 1))] i223_48 rfl rfl rfl (by omega) rfl ?_
      refine X.goto 17 i223_51 rfl rfl ?_
      exact ih (y4 + 1) m505 (B) (hJ506.up (by omega)) (by omega) (fun g => by simp only [km505, hT]) (by omega) (by omega)
-- WorkMeterModel.logs
theorem c223_1 {s : Nat × (Nat → Int32)} {m0 m : zM} {B : Int} {d : Nat} {Q : Option zV → zM → Prop} (g0 : Nat) (a1 a2 : Int) (hd : 13 ≤ d) (hJ : J m0 B m) (hB : B + 1 ≤ 1000000000) (ha1 : 0 ≤ a1 ∧ a1 ≤ 40) (ha2 : 0 ≤ a2 ∧ a2 ≤ 0) (hQ : ∀ m', J m0 (B + 1) m' → (∀ g, m' g 8 9 = m g 8 9) → Q none m') : X (EE s) d 223 0 [(0, zr g0 44), (1, zi a1), (2, zl a2)] [] m Q := by
  refine X.aload_n 1 i223_0 rfl rfl rfl ?_
  refine X.getF 4 i223_1 rfl rfl (by decide) rfl rfl ?_
  refine X.bipush 6 i223_4 rfl rfl (by decide) ?_
  refine X.lald 7 i223_6 rfl rfl (by decide) rfl (by omega) ?_
  have h501 := r45_16 hJ 4
  refine X.ldc2 10 i223_7 rfl rfl (by decide) ?_
  refine X.lcmp 11 i223_10 rfl rfl (fun z502 hz502 => ?_)
  refine X.iflt 54 14 i223_11 rfl rfl rfl (fun h503 => ?_) (fun h503 => ?_)
  · have h503c : (m 4 45 16) < 40 := by omega
    clear h503 hz502
    refine X.sipush 57 i223_54 rfl rfl (by decide) ?_
    refine X.iconst 58 i223_57 rfl rfl (by decide) ?_
    refine X.aload_n 59 i223_58 rfl rfl rfl ?_
    refine X.getF 62 i223_59 rfl rfl (by decide) rfl rfl ?_
    refine X.bipush 64 i223_62 rfl rfl (by decide) ?_
    refine X.lald 65 i223_64 rfl rfl (by decide) rfl (by omega) ?_
    refine X.ldc2 68 i223_65 rfl rfl (by decide) ?_
    refine X.lcmp 69 i223_68 rfl rfl (fun z504 hz504 => ?_)
    refine X.ifge 82 72 i223_69 rfl rfl rfl (fun h505 => (by exfalso; omega)) (fun h505 => ?_)
    have h505c : (m 4 45 16) < 40 := by omega
    clear h505 hz504
    refine X.aload_n 73 i223_72 rfl rfl rfl ?_
    refine X.getF 76 i223_73 rfl rfl (by decide) rfl rfl ?_
    refine X.bipush 78 i223_76 rfl rfl (by decide) ?_
    refine X.lald 79 i223_78 rfl rfl (by decide) rfl (by omega) ?_
    refine X.goto 85 i223_79 rfl rfl ?_
    refine X.l2i 86 i223_85 rfl rfl (by omega) ?_
    refine X.imul 87 i223_86 rfl rfl (by omega) ?_
    refine X.iadd 88 i223_87 rfl rfl (by omega) ?_
    refine X.istore 90 [(0, zr g0 44), (1, zi a1), (2, zl a2), (4, zi (1487 + (3 * (m 4 45 16))))] i223_88 rfl rfl rfl ?_
    refine X.aload_n 91 i223_90 rfl rfl rfl ?_
    refine X.getF 94 i223_91 rfl rfl (by decide) rfl rfl ?_
    refine X.iload 96 i223_94 rfl rfl rfl ?_
    refine X.aload_n 97 i223_96 rfl rfl rfl ?_
    refine X.getF 100 i223_97 rfl rfl (by decide) rfl rfl ?_
    refine X.iconst 101 i223_100 rfl rfl (by decide) ?_
    refine X.lald 102 i223_101 rfl rfl (by decide) rfl (by omega) ?_
    have h506 := r45_0 hJ 4
    refine X.last' 103 i223_102 rfl rfl (by decide) rfl (by omega) (fun hrm507 m507 hm507 => ?_)
    have hJ508 := w45_788 hJ hm507 (by omega) hrm507
    have km507 : ∀ g, m507 g 8 9 = m g 8 9 := fun g9 => by rw [hm507]; exact z_upd_o _ _ rfl
    refine X.aload_n 104 i223_103 rfl rfl rfl ?_
    refine X.getF 107 i223_104 rfl rfl (by decide) rfl rfl ?_
    refine X.iload 109 i223_107 rfl rfl rfl ?_
    refine X.iconst 110 i223_109 rfl rfl (by decide) ?_
    refine X.iadd 111 i223_110 rfl rfl (by omega) ?_
    refine X.iload_n 112 i223_111 rfl rfl rfl ?_
    refine X.i2l 113 i223_112 rfl rfl ?_
    refine X.last' 114 i223_113 rfl rfl (by decide) rfl (by omega) (fun hrm509 m509 hm509 => ?_)
    have hJ510 := w45_788 hJ508 hm509 (by omega) hrm509
    have km509 : ∀ g, m509 g 8 9 = m507 g 8 9 := fun g9 => by rw [hm509]; exact z_upd_o _ _ rfl
    refine X.aload_n 115 i223_114 rfl rfl rfl ?_
    refine X.getF 118 i223_115 rfl rfl (by decide) rfl rfl ?_
    refine X.iload 120 i223_118 rfl rfl rfl ?_
    refine X.iconst 121 i223_120 rfl rfl (by decide) ?_
    refine X.iadd 122 i223_121 rfl rfl (by omega) ?_
    refine X.lload_n 123 i223_122 rfl rfl rfl ?_
    refine X.last' 124 i223_123 rfl rfl (by decide) rfl (by omega) (fun hrm511 m511 hm511 => ?_)
    have hJ512 := w45_788 hJ510 hm511 (by omega) hrm511
    have km511 : ∀ g, m511 g 8 9 = m509 g 8 9 := fun g9 => by rw [hm511]; exact z_upd_o _ _ rfl
    refine X.aload_n 125 i223_124 rfl rfl rfl ?_
    refine X.getF 128 i223_125 rfl rfl (by decide) rfl rfl ?_
    refine X.bipush 130 i223_128 rfl rfl (by decide) ?_
    refine X.dup2 131 i223_130 rfl rfl ?_
    refine X.lald 132 i223_131 rfl rfl (by decide) rfl (by omega) ?_
    have h513 := r45_16 hJ512 4
    refine X.lconst (y := 1) 133 i223_132 rfl rfl rfl ?_
    refine X.ladd 134 i223_133 rfl rfl (by omega) ?_
    refine X.last' 135 i223_134 rfl rfl (by decide) rfl (by omega) (fun hrm514 m514 hm514 => ?_)
    have hJ515 := w45_16 (hJ512.up (B' := B + 1) (by omega)) hm514 (by omega)
    have km514 : ∀ g, m514 g 8 9 = m511 g 8 9 := fun g9 => by rw [hm514]; exact z_upd_o _ _ rfl
    refine X.retv i223_135 rfl t223 ?_
    exact hQ  m514  (hJ515.up (by omega)) (fun g => by simp only [km507, km509, km511, km514]) 
  · have h503c : (m 4 45 16) ≥ 40 := by omega
    clear h503 hz502
    refine X.iconst 15 i223_14 rfl rfl (by decide) ?_
    refine X.istore 17 [(0, zr g0 44), (1, zi a1), (2, zl a2), (4, zi 3)] i223_15 rfl rfl rfl ?_
    refine l223_17_1 (s := s) (m0 := m0) (d := d) g0 a1 a2 (fun g => m g 8 9) (BE := B + 0) (by omega) (by omega) (by omega) (by omega) (fun  m516 B517 hJ518 hBB517 hkm516 => ?_) ((120 - 3 : Int).toNat + 1) 3 m (B) (hJ.up (by omega)) (by omega) (fun g => rfl) (by omega) (by omega)
    refine X.sipush 57 i223_54 rfl rfl (by decide) ?_
    refine X.iconst 58 i223_57 rfl rfl (by decide) ?_
    refine X.aload_n 59 i223_58 rfl rfl rfl ?_
    refine X.getF 62 i223_59 rfl rfl (by decide) rfl rfl ?_
    refine X.bipush 64 i223_62 rfl rfl (by decide) ?_
    refine X.lald 65 i223_64 rfl rfl (by decide) rfl (by omega) ?_
    have h519 := r45_16 hJ518 4
    refine X.ldc2 68 i223_65 rfl rfl (by decide) ?_
    refine X.lcmp 69 i223_68 rfl rfl (fun z520 hz520 => ?_)
    refine X.ifge 82 72 i223_69 rfl rfl rfl (fun h521 => ?_) (fun h521 => ?_)
    · have h521c : (m516 4 45 16) ≥ 40 := by omega
      clear h521 hz520
      refine X.ldc2 85 i223_82 rfl rfl (by decide) ?_
      refine X.l2i 86 i223_85 rfl rfl (by omega) ?_
      refine X.imul 87 i223_86 rfl rfl (by omega) ?_
      refine X.iadd 88 i223_87 rfl rfl (by omega) ?_
      refine X.istore 90 [(0, zr g0 44), (1, zi a1), (2, zl a2), (4, zi (1487 + (3 * 39)))] i223_88 rfl rfl rfl ?_
      refine X.aload_n 91 i223_90 rfl rfl rfl ?_
      refine X.getF 94 i223_91 rfl rfl (by decide) rfl rfl ?_
      refine X.iload 96 i223_94 rfl rfl rfl ?_
      refine X.aload_n 97 i223_96 rfl rfl rfl ?_
      refine X.getF 100 i223_97 rfl rfl (by decide) rfl rfl ?_
      refine X.iconst 101 i223_100 rfl rfl (by decide) ?_
      refine X.lald 102 i223_101 rfl rfl (by decide) rfl (by omega) ?_
      have h522 := r45_0 hJ518 4
      refine X.last' 103 i223_102 rfl rfl (by decide) rfl (by omega) (fun hrm523 m523 hm523 => ?_)
      have hJ524 := w45_788 hJ518 hm523 (by omega) hrm523
      have km523 : ∀ g, m523 g 8 9 = m516 g 8 9 := fun g9 => by rw [hm523]; exact z_upd_o _ _ rfl
      refine X.aload_n 104 i223_103 rfl rfl rfl ?_
      refine X.getF 107 i223_104 rfl rfl (by decide) rfl rfl ?_
      refine X.iload 109 i223_107 rfl rfl rfl ?_
      refine X.iconst 110 i223_109 rfl rfl (by decide) ?_
      refine X.iadd 111 i223_110 rfl rfl (by omega) ?_
      refine X.iload_n 112 i223_111 rfl rfl rfl ?_
      refine X.i2l 113 i223_112 rfl rfl ?_
      refine X.last' 114 i223_113 rfl rfl (by decide) rfl (by omega) (fun hrm525 m525 hm525 => ?_)
      have hJ526 := w45_788 hJ524 hm525 (by omega) hrm525
      have km525 : ∀ g, m525 g 8 9 = m523 g 8 9 := fun g9 => by rw [hm525]; exact z_upd_o _ _ rfl
      refine X.aload_n 115 i223_114 rfl rfl rfl ?_
      refine X.getF 118 i223_115 rfl rfl (by decide) rfl rfl ?_
      refine X.iload 120 i223_118 rfl rfl rfl ?_
      refine X.iconst 121 i223_120 rfl rfl (by decide) ?_
      refine X.iadd 122 i223_121 rfl rfl (by omega) ?_
      refine X.lload_n 123 i223_122 rfl rfl rfl ?_
      refine X.last' 124 i223_123 rfl rfl (by decide) rfl (by omega) (fun hrm527 m527 hm527 => ?_)
      have hJ528 := w45_788 hJ526 hm527 (by omega) hrm527
      have km527 : ∀ g, m527 g 8 9 = m525 g 8 9 := fun g9 => by rw [hm527]; exact z_upd_o _ _ rfl
      refine X.aload_n 125 i223_124 rfl rfl rfl ?_
      refine X.getF 128 i223_125 rfl rfl (by decide) rfl rfl ?_
      refine X.bipush 130 i223_128 rfl rfl (by decide) ?_
      refine X.dup2 131 i223_130 rfl rfl ?_
      refine X.lald 132 i223_131 rfl rfl (by decide) rfl (by omega) ?_
      have h529 := r45_16 hJ528 4
      refine X.lconst (y := 1) 133 i223_132 rfl rfl rfl ?_
      refine X.ladd 134 i223_133 rfl rfl (by omega) ?_
      refine X.last' 135 i223_134 rfl rfl (by decide) rfl (by omega) (fun hrm530 m530 hm530 => ?_)
      have hJ531 := w45_16 (hJ528.up (B' := B517 + 1) (by omega)) hm530 (by omega)
      have km530 : ∀ g, m530 g 8 9 = m527 g 8 9 := fun g9 => by rw [hm530]; exact z_upd_o _ _ rfl
      refine X.retv i223_135 rfl t223 ?_
      exact hQ  m530  (hJ531.up (by omega)) (fun g => by simp only [hkm516, km523, km525, km527, km530]) 
    · have h521c : (m516 4 45 16) < 40 := by omega
      clear h521 hz520
      refine X.aload_n 73 i223_72 rfl rfl rfl ?_
      refine X.getF 76 i223_73 rfl rfl (by decide) rfl rfl ?_
      refine X.bipush 78 i223_76 rfl rfl (by decide) ?_
      refine X.lald 79 i223_78 rfl rfl (by decide) rfl (by omega) ?_
      refine X.goto 85 i223_79 rfl rfl ?_
      refine X.l2i 86 i223_85 rfl rfl (by omega) ?_
      refine X.imul 87 i223_86 rfl rfl (by omega) ?_
      refine X.iadd 88 i223_87 rfl rfl (by omega) ?_
      refine X.istore 90 [(0, zr g0 44), (1, zi a1), (2, zl a2), (4, zi (1487 + (3 * (m516 4 45 16))))] i223_88 rfl rfl rfl ?_
      refine X.aload_n 91 i223_90 rfl rfl rfl ?_
      refine X.getF 94 i223_91 rfl rfl (by decide) rfl rfl ?_
      refine X.iload 96 i223_94 rfl rfl rfl ?_
      refine X.aload_n 97 i223_96 rfl rfl rfl ?_
      refine X.getF 100 i223_97 rfl rfl (by decide) rfl rfl ?_
      refine X.iconst 101 i223_100 rfl rfl (by decide) ?_
      refine X.lald 102 i223_101 rfl rfl (by decide) rfl (by omega) ?_
      have h532 := r45_0 hJ518 4
      refine X.last' 103 i223_102 rfl rfl (by decide) rfl (by omega) (fun hrm533 m533 hm533 => ?_)
      have hJ534 := w45_788 hJ518 hm533 (by omega) hrm533
      have km533 : ∀ g, m533 g 8 9 = m516 g 8 9 := fun g9 => by rw [hm533]; exact z_upd_o _ _ rfl
      refine X.aload_n 104 i223_103 rfl rfl rfl ?_
      refine X.getF 107 i223_104 rfl rfl (by decide) rfl rfl ?_
      refine X.iload 109 i223_107 rfl rfl rfl ?_
      refine X.iconst 110 i223_109 rfl rfl (by decide) ?_
      refine X.iadd 111 i223_110 rfl rfl (by omega) ?_
      refine X.iload_n 112 i223_111 rfl rfl rfl ?_
      refine X.i2l 113 i223_112 rfl rfl ?_
      refine X.last' 114 i223_113 rfl rfl (by decide) rfl (by omega) (fun hrm535 m535 hm535 => ?_)
      have hJ536 := w45_788 hJ534 hm535 (by omega) hrm535
      have km535 : ∀ g, m535 g 8 9 = m533 g 8 9 := fun g9 => by rw [hm535]; exact z_upd_o _ _ rfl
      refine X.aload_n 115 i223_114 rfl rfl rfl ?_
      refine X.getF 118 i223_115 rfl rfl (by decide) rfl rfl ?_
      refine X.iload 120 i223_118 rfl rfl rfl ?_
      refine X.iconst 121 i223_120 rfl rfl (by decide) ?_
      refine X.iadd 122 i223_121 rfl rfl (by omega) ?_
      refine X.lload_n 123 i223_122 rfl rfl rfl ?_
      refine X.last' 124 i223_123 rfl rfl (by decide) rfl (by omega) (fun hrm537 m537 hm537 => ?_)
      have hJ538 := w45_788 hJ536 hm537 (by omega) hrm537
      have km537 : ∀ g, m537 g 8 9 = m535 g 8 9 := fun g9 => by rw [hm537]; exact z_upd_o _ _ rfl
      refine X.aload_n 125 i223_124 rfl rfl rfl ?_
      refine X.getF 128 i223_125 rfl rfl (by decide) rfl rfl ?_
      refine X.bipush 130 i223_128 rfl rfl (by decide) ?_
      refine X.dup2 131 i223_130 rfl rfl ?_
      refine X.lald 132 i223_131 rfl rfl (by decide) rfl (by omega) ?_
      have h539 := r45_16 hJ538 4
      refine X.lconst (y := 1) 133 i223_132 rfl rfl rfl ?_
      refine X.ladd 134 i223_133 rfl rfl (by omega) ?_
      refine X.last' 135 i223_134 rfl rfl (by decide) rfl (by omega) (fun hrm540 m540 hm540 => ?_)
      have hJ541 := w45_16 (hJ538.up (B' := B517 + 1) (by omega)) hm540 (by omega)
      have km540 : ∀ g, m540 g 8 9 = m537 g 8 9 := fun g9 => by rw [hm540]; exact z_upd_o _ _ rfl
      refine X.retv i223_135 rfl t223 ?_
      exact hQ  m540  (hJ541.up (by omega)) (fun g => by simp only [hkm516, km533, km535, km537, km540]) 
-- WorkMeterModel.switches
theorem c222_1 {s : Nat × (Nat → Int32)} {m0 m : zM} {B : Int} {d : Nat} {Q : Option zV → zM → Prop} (g0 : Nat) (hd : 14 ≤ d) (hJ : J m0 B m) (hB : B + 1 ≤ 1000000000) (hQ : ∀ m', J m0 (B + 1) m' → (∀ g, m' g 8 9 = m g 8 9) → Q none m') : X (EE s) d 222 0 [(0, zr g0 44)] [] m Q := by
  refine X.aload_n 1 i222_0 rfl rfl rfl ?_
  refine X.getF 4 i222_1 rfl rfl (by decide) rfl rfl ?_
  refine X.bipush 6 i222_4 rfl rfl (by decide) ?_
  refine X.lald 7 i222_6 rfl rfl (by decide) rfl (by omega) ?_
  have h501 := r45_11 hJ 4
  refine X.lconst (y := 1) 8 i222_7 rfl rfl rfl ?_
  refine X.lcmp 9 i222_8 rfl rfl (fun z502 hz502 => ?_)
  refine X.ifne 28 12 i222_9 rfl rfl rfl (fun h503 => ?_) (fun h503 => ?_)
  · have h503c : (m 4 45 11) ≠ 1 := by omega
    clear h503 hz502
    refine X.iconst 29 i222_28 rfl rfl (by decide) ?_
    refine X.istore_n 30 [(0, zr g0 44), (1, zi 0)] i222_29 rfl rfl rfl ?_
    refine X.aload_n 31 i222_30 rfl rfl rfl ?_
    refine X.getF 34 i222_31 rfl rfl (by decide) rfl rfl ?_
    refine X.bipush 36 i222_34 rfl rfl (by decide) ?_
    refine X.lald 37 i222_36 rfl rfl (by decide) rfl (by omega) ?_
    have h504 := r45_12 hJ 4
    refine X.iload_n 38 i222_37 rfl rfl rfl ?_
    refine X.i2l 39 i222_38 rfl rfl ?_
    refine X.lcmp 40 i222_39 rfl rfl (fun z505 hz505 => ?_)
    refine X.ifne 44 43 i222_40 rfl rfl rfl (fun h506 => ?_) (fun h506 => ?_)
    · have h506c : (m 4 45 12) ≠ 0 := by omega
      clear h506 hz505
      refine X.aload_n 45 i222_44 rfl rfl rfl ?_
      refine X.getF 48 i222_45 rfl rfl (by decide) rfl rfl ?_
      refine X.bipush 50 i222_48 rfl rfl (by decide) ?_
      refine X.iload_n 51 i222_50 rfl rfl rfl ?_
      refine X.i2l 52 i222_51 rfl rfl ?_
      refine X.last' 53 i222_52 rfl rfl (by decide) rfl (by omega) (fun hrm507 m507 hm507 => ?_)
      have hJ508 := w45_12 hJ hm507 (by omega)
      have km507 : ∀ g, m507 g 8 9 = m g 8 9 := fun g9 => by rw [hm507]; exact z_upd_o _ _ rfl
      refine X.aload_n 54 i222_53 rfl rfl rfl ?_
      refine X.iload_n 55 i222_54 rfl rfl rfl ?_
      refine X.iconst 56 i222_55 rfl rfl (by decide) ?_
      refine X.icmpne 64 59 i222_56 rfl rfl rfl (fun h509 => ?_) (fun h509 => (by exfalso; omega))
      refine X.cut [] i222_64 rfl ?_
      refine X.bipush 66 i222_64 rfl rfl (by decide) ?_
      refine X.lconst (y := 0) 67 i222_66 rfl rfl rfl ?_
      refine X.callv 70 [zi 23, zl 0] [] [(0, zr g0 44), (1, zi 23), (2, zl 0)] i222_67 rfl (by decide) rfl rfl (by omega) rfl rfl (by decide) rfl t223 (Nat.le_of_ble_eq_true rfl) (Nat.le_of_ble_eq_true rfl) rfl ?_
      refine c223_1 (B := B) g0 23 0 (by omega) (hJ508.up (by omega)) (by omega) (by omega) (by omega) (fun m510 hJ511 km510 => ?_)
      show X (EE s) d 222 70 [] [] m510 _
      refine X.retv i222_70 rfl t222 ?_
      exact hQ  m510  (hJ511.up (by omega)) (fun g => by simp only [km507, km510]) 
    · have h506c : (m 4 45 12) = 0 := by omega
      clear h506 hz505
      refine X.retv i222_43 rfl t222 ?_
      exact hQ  m  (hJ.up (by omega)) (fun g => rfl) 
  · have h503c : (m 4 45 11) = 1 := by omega
    clear h503 hz502
    refine X.aload_n 13 i222_12 rfl rfl rfl ?_
    refine X.getF 16 i222_13 rfl rfl (by decide) rfl rfl ?_
    refine X.bipush 18 i222_16 rfl rfl (by decide) ?_
    refine X.lald 19 i222_18 rfl rfl (by decide) rfl (by omega) ?_
    refine X.lconst (y := 0) 20 i222_19 rfl rfl rfl ?_
    refine X.lcmp 21 i222_20 rfl rfl (fun z513 hz513 => ?_)
    refine X.ifgt 28 24 i222_21 rfl rfl rfl (fun h514 => ?_) (fun h514 => ?_)
    · have h514c : (m 4 45 10) > 0 := by omega
      clear h514 hz513
      refine X.iconst 29 i222_28 rfl rfl (by decide) ?_
      refine X.istore_n 30 [(0, zr g0 44), (1, zi 0)] i222_29 rfl rfl rfl ?_
      refine X.aload_n 31 i222_30 rfl rfl rfl ?_
      refine X.getF 34 i222_31 rfl rfl (by decide) rfl rfl ?_
      refine X.bipush 36 i222_34 rfl rfl (by decide) ?_
      refine X.lald 37 i222_36 rfl rfl (by decide) rfl (by omega) ?_
      have h515 := r45_12 hJ 4
      refine X.iload_n 38 i222_37 rfl rfl rfl ?_
      refine X.i2l 39 i222_38 rfl rfl ?_
      refine X.lcmp 40 i222_39 rfl rfl (fun z516 hz516 => ?_)
      refine X.ifne 44 43 i222_40 rfl rfl rfl (fun h517 => ?_) (fun h517 => ?_)
      · have h517c : (m 4 45 12) ≠ 0 := by omega
        clear h517 hz516
        refine X.aload_n 45 i222_44 rfl rfl rfl ?_
        refine X.getF 48 i222_45 rfl rfl (by decide) rfl rfl ?_
        refine X.bipush 50 i222_48 rfl rfl (by decide) ?_
        refine X.iload_n 51 i222_50 rfl rfl rfl ?_
        refine X.i2l 52 i222_51 rfl rfl ?_
        refine X.last' 53 i222_52 rfl rfl (by decide) rfl (by omega) (fun hrm518 m518 hm518 => ?_)
        have hJ519 := w45_12 hJ hm518 (by omega)
        have km518 : ∀ g, m518 g 8 9 = m g 8 9 := fun g9 => by rw [hm518]; exact z_upd_o _ _ rfl
        refine X.aload_n 54 i222_53 rfl rfl rfl ?_
        refine X.iload_n 55 i222_54 rfl rfl rfl ?_
        refine X.iconst 56 i222_55 rfl rfl (by decide) ?_
        refine X.icmpne 64 59 i222_56 rfl rfl rfl (fun h520 => ?_) (fun h520 => (by exfalso; omega))
        refine X.cut [] i222_64 rfl ?_
        refine X.bipush 66 i222_64 rfl rfl (by decide) ?_
        refine X.lconst (y := 0) 67 i222_66 rfl rfl rfl ?_
        refine X.callv 70 [zi 23, zl 0] [] [(0, zr g0 44), (1, zi 23), (2, zl 0)] i222_67 rfl (by decide) rfl rfl (by omega) rfl rfl (by decide) rfl t223 (Nat.le_of_ble_eq_true rfl) (Nat.le_of_ble_eq_true rfl) rfl ?_
        refine c223_1 (B := B) g0 23 0 (by omega) (hJ519.up (by omega)) (by omega) (by omega) (by omega) (fun m521 hJ522 km521 => ?_)
        show X (EE s) d 222 70 [] [] m521 _
        refine X.retv i222_70 rfl t222 ?_
        exact hQ  m521  (hJ522.up (by omega)) (fun g => by simp only [km518, km521]) 
      · have h517c : (m 4 45 12) = 0 := by omega
        clear h517 hz516
        refine X.retv i222_43 rfl t222 ?_
        exact hQ  m  (hJ.up (by omega)) (fun g => rfl) 
    · have h514c : (m 4 45 10) ≤ 0 := by omega
      clear h514 hz513
      refine X.iconst 25 i222_24 rfl rfl (by decide) ?_
      refine X.goto 29 i222_25 rfl rfl ?_
      refine X.istore_n 30 [(0, zr g0 44), (1, zi 1)] i222_29 rfl rfl rfl ?_
      refine X.aload_n 31 i222_30 rfl rfl rfl ?_
      refine X.getF 34 i222_31 rfl rfl (by decide) rfl rfl ?_
      refine X.bipush 36 i222_34 rfl rfl (by decide) ?_
      refine X.lald 37 i222_36 rfl rfl (by decide) rfl (by omega) ?_
      have h524 := r45_12 hJ 4
      refine X.iload_n 38 i222_37 rfl rfl rfl ?_
      refine X.i2l 39 i222_38 rfl rfl ?_
      refine X.lcmp 40 i222_39 rfl rfl (fun z525 hz525 => ?_)
      refine X.ifne 44 43 i222_40 rfl rfl rfl (fun h526 => ?_) (fun h526 => ?_)
      · have h526c : (m 4 45 12) ≠ 1 := by omega
        clear h526 hz525
        refine X.aload_n 45 i222_44 rfl rfl rfl ?_
        refine X.getF 48 i222_45 rfl rfl (by decide) rfl rfl ?_
        refine X.bipush 50 i222_48 rfl rfl (by decide) ?_
        refine X.iload_n 51 i222_50 rfl rfl rfl ?_
        refine X.i2l 52 i222_51 rfl rfl ?_
        refine X.last' 53 i222_52 rfl rfl (by decide) rfl (by omega) (fun hrm527 m527 hm527 => ?_)
        have hJ528 := w45_12 hJ hm527 (by omega)
        have km527 : ∀ g, m527 g 8 9 = m g 8 9 := fun g9 => by rw [hm527]; exact z_upd_o _ _ rfl
        refine X.aload_n 54 i222_53 rfl rfl rfl ?_
        refine X.iload_n 55 i222_54 rfl rfl rfl ?_
        refine X.iconst 56 i222_55 rfl rfl (by decide) ?_
        refine X.icmpne 64 59 i222_56 rfl rfl rfl (fun h529 => (by exfalso; omega)) (fun h529 => ?_)
        refine X.bipush 61 i222_59 rfl rfl (by decide) ?_
        refine X.goto 66 i222_61 rfl rfl ?_
        refine X.cut [] i222_66 rfl ?_
        refine X.lconst (y := 0) 67 i222_66 rfl rfl rfl ?_
        refine X.callv 70 [zi 22, zl 0] [] [(0, zr g0 44), (1, zi 22), (2, zl 0)] i222_67 rfl (by decide) rfl rfl (by omega) rfl rfl (by decide) rfl t223 (Nat.le_of_ble_eq_true rfl) (Nat.le_of_ble_eq_true rfl) rfl ?_
        refine c223_1 (B := B) g0 22 0 (by omega) (hJ528.up (by omega)) (by omega) (by omega) (by omega) (fun m530 hJ531 km530 => ?_)
        show X (EE s) d 222 70 [] [] m530 _
        refine X.retv i222_70 rfl t222 ?_
        exact hQ  m530  (hJ531.up (by omega)) (fun g => by simp only [km527, km530]) 
      · have h526c : (m 4 45 12) = 1 := by omega
        clear h526 hz525
        refine X.retv i222_43 rfl t222 ?_
        exact hQ  m  (hJ.up (by omega)) (fun g => rfl) 
theorem l227_2_1 {s : Nat × (Nat → Int32)} {m0 m : zM} {B : Int} {d : Nat} {Q : Option zV → zM → Prop} (g0 : Nat) (hd : 14 ≤ d) (hJ : J m0 B m) (hB9 : B ≤ 1000000000)
    (K35 : ∀ (x1 : Int) , (0 ≤ x1 ∧ x1 ≤ 2) → X (EE s) d 227 35 [(0, zr g0 44), (1, zi x1)] [] m Q)
    (K43 : X (EE s) d 227 43 [] [] m Q) :
    ∀ (n : Nat) (y1 : Int) , (0 ≤ y1 ∧ y1 ≤ 3) → 3 - y1 < (n : Int) → X (EE s) d 227 2 [(0, zr g0 44), (1, zi y1)] [] m Q := by
  intro n
  induction n with
  | zero =>
    intro y1 hy1 hn
    exfalso
    omega
  | succ n ih =>
    intro y1 hy1 hn
    refine X.iload_n 3 i227_2 rfl rfl rfl ?_
    refine X.aload_n 4 i227_3 rfl rfl rfl ?_
    refine X.callv 7 [] [zi y1] [(0, zr g0 44)] i227_4 rfl (by decide) rfl rfl (by omega) rfl rfl (by decide) rfl t206 (Nat.le_of_ble_eq_true rfl) (Nat.le_of_ble_eq_true rfl) rfl ?_
    refine X.aload_n 1 i206_0 rfl rfl rfl ?_
    refine X.getF 4 i206_1 rfl rfl (by decide) rfl rfl ?_
    refine X.iconst 5 i206_4 rfl rfl (by decide) ?_
    refine X.lald 6 i206_5 rfl rfl (by decide) rfl (by omega) ?_
    have h514 := r45_1 hJ 4
    refine X.l2i 7 i206_6 rfl rfl (by omega) ?_
    refine X.reti i206_7 rfl t206 ?_
    show X (EE s) d 227 7 [(0, zr g0 44), (1, zi y1)] [zi (m 4 45 1), zi y1] m _
    refine X.icmpge 43 10 i227_7 rfl rfl rfl (fun h515 => ?_) (fun h515 => ?_)
    · refine X.cut [] i227_43 rfl ?_
      exact K43  
    · refine X.aload_n 11 i227_10 rfl rfl rfl ?_
      refine X.sipush 14 i227_11 rfl rfl (by decide) ?_
      refine X.iload_n 15 i227_14 rfl rfl rfl ?_
      refine X.callv 18 [zi 143, zi y1] [] [(0, zr g0 44), (1, zi 143), (2, zi y1)] i227_15 rfl (by decide) rfl rfl (by omega) rfl rfl (by decide) rfl t213 (Nat.le_of_ble_eq_true rfl) (Nat.le_of_ble_eq_true rfl) rfl ?_
      refine c213_1 (B := B) g0 143 y1 (by omega) (hJ.up (by omega)) (by omega) (by omega) (by omega) (fun v518 hv518 => ?_)
      show X (EE s) d 227 18 [(0, zr g0 44), (1, zi y1)] [zl v518] m _
      refine X.lconst (y := 0) 19 i227_18 rfl rfl rfl ?_
      refine X.lcmp 20 i227_19 rfl rfl (fun z519 hz519 => ?_)
      refine X.ifle 37 23 i227_20 rfl rfl rfl (fun h520 => ?_) (fun h520 => ?_)
      · have h520c : v518 ≤ 0 := by omega
        clear h520 hz519
        refine X.iinc 40 [(0, zr g0 44), (1, zi (y1 + 1))] i227_37 rfl rfl rfl (by omega) rfl ?_
        refine X.goto 2 i227_40 rfl rfl ?_
        exact ih (y1 + 1) (by omega) (by omega)
      · have h520c : v518 > 0 := by omega
        clear h520 hz519
        refine X.aload_n 24 i227_23 rfl rfl rfl ?_
        refine X.bipush 26 i227_24 rfl rfl (by decide) ?_
        refine X.iload_n 27 i227_26 rfl rfl rfl ?_
        refine X.callv 30 [zi 95, zi y1] [] [(0, zr g0 44), (1, zi 95), (2, zi y1)] i227_27 rfl (by decide) rfl rfl (by omega) rfl rfl (by decide) rfl t213 (Nat.le_of_ble_eq_true rfl) (Nat.le_of_ble_eq_true rfl) rfl ?_
        refine c213_1 (B := B) g0 95 y1 (by omega) (hJ.up (by omega)) (by omega) (by omega) (by omega) (fun v523 hv523 => ?_)
        show X (EE s) d 227 30 [(0, zr g0 44), (1, zi y1)] [zl v523] m _
        refine X.lconst (y := 0) 31 i227_30 rfl rfl rfl ?_
        refine X.lcmp 32 i227_31 rfl rfl (fun z524 hz524 => ?_)
        refine X.ifne 37 35 i227_32 rfl rfl rfl (fun h525 => ?_) (fun h525 => ?_)
        · have h525c : v523 ≠ 0 := by omega
          clear h525 hz524
          refine X.iinc 40 [(0, zr g0 44), (1, zi (y1 + 1))] i227_37 rfl rfl rfl (by omega) rfl ?_
          refine X.goto 2 i227_40 rfl rfl ?_
          exact ih (y1 + 1) (by omega) (by omega)
        · have h525c : v523 = 0 := by omega
          clear h525 hz524
          exact K35 y1 (by first | trivial | omega)
-- WorkMeterModel.isStrange
theorem c227_1 {s : Nat × (Nat → Int32)} {m0 m : zM} {B : Int} {d : Nat} {Q : Option zV → zM → Prop} (g0 : Nat) (hd : 14 ≤ d) (hJ : J m0 B m) (hB : B + 0 ≤ 1000000000) (hQ : ∀ (v : Int), (0 ≤ v ∧ v ≤ 1) → Q (some (zi v)) m) : X (EE s) d 227 0 [(0, zr g0 44)] [] m Q := by
  refine X.iconst 1 i227_0 rfl rfl (by decide) ?_
  refine X.istore_n 2 [(0, zr g0 44), (1, zi 0)] i227_1 rfl rfl rfl ?_
  refine l227_2_1 (s := s) (m0 := m0) (m := m) (B := B) (d := d) g0  (by omega) (hJ.up (by omega)) (by omega) (fun y501 hby501 => ?_) ?_ ((3 - 0 : Int).toNat + 1) 0 (by omega) (by omega)
  · refine X.iconst 36 i227_35 rfl rfl (by decide) ?_
    refine X.retz i227_36 rfl t227 (by omega) ?_
    exact hQ 1 (by first | trivial | omega) 
  · refine X.iconst 44 i227_43 rfl rfl (by decide) ?_
    refine X.retz i227_44 rfl t227 (by omega) ?_
    exact hQ 0 (by first | trivial | omega) 
-- WorkMeterModel.turnsOn
theorem c228_1 {s : Nat × (Nat → Int32)} {m0 m : zM} {B : Int} {d : Nat} {Q : Option zV → zM → Prop} (g0 : Nat) (a1 : Int) (hd : 14 ≤ d) (hJ : J m0 B m) (hB : B + 1 ≤ 1000000000) (ha1 : 4 ≤ a1 ∧ a1 ≤ 4) (hQ : ∀ m', J m0 (B + 1) m' → (∀ g, m' g 8 9 = m g 8 9) → Q none m') : X (EE s) d 228 0 [(0, zr g0 44), (1, zi a1)] [] m Q := by
  refine X.aload_n 1 i228_0 rfl rfl rfl ?_
  refine X.getF 4 i228_1 rfl rfl (by decide) rfl rfl ?_
  refine X.bipush 6 i228_4 rfl rfl (by decide) ?_
  refine X.iload_n 7 i228_6 rfl rfl rfl ?_
  refine X.iadd 8 i228_7 rfl rfl (by omega) ?_
  refine X.lconst (y := 1) 9 i228_8 rfl rfl rfl ?_
  refine X.last' 10 i228_9 rfl rfl (by decide) rfl (by omega) (fun hrm501 m501 hm501 => ?_)
  have hJ502 := w45_19 hJ hm501 (by omega) hrm501
  have km501 : ∀ g, m501 g 8 9 = m g 8 9 := fun g9 => by rw [hm501]; exact z_upd_o _ _ rfl
  refine X.aload_n 11 i228_10 rfl rfl rfl ?_
  refine X.getF 14 i228_11 rfl rfl (by decide) rfl rfl ?_
  refine X.bipush 16 i228_14 rfl rfl (by decide) ?_
  refine X.iload_n 17 i228_16 rfl rfl rfl ?_
  refine X.iadd 18 i228_17 rfl rfl (by omega) ?_
  refine X.dup2 19 i228_18 rfl rfl ?_
  refine X.lald 20 i228_19 rfl rfl (by decide) rfl (by omega) ?_
  refine X.lconst (y := 1) 21 i228_20 rfl rfl rfl ?_
  refine X.llF 22 .ladd (fun x y => x + y) i228_21 rfl rfl rfl (fun _ _ => rfl) (fun z503 hz503 => ?_)
  refine X.last' 23 i228_22 rfl rfl (by decide) rfl (by omega) (fun hrm504 m504 hm504 => ?_)
  have hJ505 := w45_19 hJ502 hm504 (by omega) hrm504
  have km504 : ∀ g, m504 g 8 9 = m501 g 8 9 := fun g9 => by rw [hm504]; exact z_upd_o _ _ rfl
  refine X.aload_n 24 i228_23 rfl rfl rfl ?_
  refine X.iload_n 25 i228_24 rfl rfl rfl ?_
  refine X.lconst (y := 0) 26 i228_25 rfl rfl rfl ?_
  refine X.callv 29 [zi a1, zl 0] [] [(0, zr g0 44), (1, zi a1), (2, zl 0)] i228_26 rfl (by decide) rfl rfl (by omega) rfl rfl (by decide) rfl t223 (Nat.le_of_ble_eq_true rfl) (Nat.le_of_ble_eq_true rfl) rfl ?_
  refine c223_1 (B := B) g0 a1 0 (by omega) (hJ505.up (by omega)) (by omega) (by omega) (by omega) (fun m506 hJ507 km506 => ?_)
  show X (EE s) d 228 29 [(0, zr g0 44), (1, zi a1)] [] m506 _
  refine X.retv i228_29 rfl t228 ?_
  exact hQ  m506  (hJ507.up (by omega)) (fun g => by simp only [km501, km504, km506]) 
theorem l226_6_1 {s : Nat × (Nat → Int32)} {m0 m : zM} {B : Int} {d : Nat} {Q : Option zV → zM → Prop} (g0 : Nat) (hd : 14 ≤ d) (hJ : J m0 B m) (hB9 : B ≤ 1000000000)
    (K60 : ∀ (x1 x2 : Int) , (0 ≤ x1 ∧ x1 ≤ 1) → (0 ≤ x2 ∧ x2 ≤ 1) → X (EE s) d 226 60 [(1, zi x1), (2, zi x2)] [] m Q) :
    ∀ (n : Nat) (y1 y2 y3 : Int) , (0 ≤ y1 ∧ y1 ≤ 1) → (0 ≤ y2 ∧ y2 ≤ 1) → (0 ≤ y3 ∧ y3 ≤ 3) → 3 - y3 < (n : Int) → X (EE s) d 226 6 [(0, zr g0 44), (1, zi y1), (2, zi y2), (3, zi y3)] [] m Q := by
  intro n
  induction n with
  | zero =>
    intro y1 y2 y3 hy1 hy2 hy3 hn
    exfalso
    omega
  | succ n ih =>
    intro y1 y2 y3 hy1 hy2 hy3 hn
    refine X.iload_n 7 i226_6 rfl rfl rfl ?_
    refine X.aload_n 8 i226_7 rfl rfl rfl ?_
    refine X.callv 11 [] [zi y3] [(0, zr g0 44)] i226_8 rfl (by decide) rfl rfl (by omega) rfl rfl (by decide) rfl t206 (Nat.le_of_ble_eq_true rfl) (Nat.le_of_ble_eq_true rfl) rfl ?_
    refine X.aload_n 1 i206_0 rfl rfl rfl ?_
    refine X.getF 4 i206_1 rfl rfl (by decide) rfl rfl ?_
    refine X.iconst 5 i206_4 rfl rfl (by decide) ?_
    refine X.lald 6 i206_5 rfl rfl (by decide) rfl (by omega) ?_
    have h548 := r45_1 hJ 4
    refine X.l2i 7 i206_6 rfl rfl (by omega) ?_
    refine X.reti i206_7 rfl t206 ?_
    show X (EE s) d 226 11 [(0, zr g0 44), (1, zi y1), (2, zi y2), (3, zi y3)] [zi (m 4 45 1), zi y3] m _
    refine X.icmpge 60 14 i226_11 rfl rfl rfl (fun h549 => ?_) (fun h549 => ?_)
    · refine X.cut [(1, zi y1), (2, zi y2)] i226_60 rfl ?_
      exact K60 y1 y2 (by first | trivial | omega) (by first | trivial | omega)
    · refine X.iload_n 15 i226_14 rfl rfl rfl ?_
      refine X.ifne 28 18 i226_15 rfl rfl rfl (fun h550 => ?_) (fun h550 => ?_)
      · refine X.cut [(0, zr g0 44), (2, zi y2), (3, zi y3)] i226_28 rfl ?_
        refine X.iconst 29 i226_28 rfl rfl (by decide) ?_
        refine X.goto 33 i226_29 rfl rfl ?_
        refine X.istore_n 34 [(0, zr g0 44), (1, zi 1), (2, zi y2), (3, zi y3)] i226_33 rfl rfl rfl ?_
        refine X.iload_n 35 i226_34 rfl rfl rfl ?_
        refine X.ifne 48 38 i226_35 rfl rfl rfl (fun h551 => ?_) (fun h551 => ?_)
        · refine X.cut [(0, zr g0 44), (1, zi 1), (3, zi y3)] i226_48 rfl ?_
          refine X.iconst 49 i226_48 rfl rfl (by decide) ?_
          refine X.goto 53 i226_49 rfl rfl ?_
          refine X.istore_n 54 [(0, zr g0 44), (1, zi 1), (2, zi 1), (3, zi y3)] i226_53 rfl rfl rfl ?_
          refine X.iinc 57 [(0, zr g0 44), (1, zi 1), (2, zi 1), (3, zi (y3 + 1))] i226_54 rfl rfl rfl (by omega) rfl ?_
          refine X.goto 6 i226_57 rfl rfl ?_
          exact ih 1 1 (y3 + 1) (by omega) (by omega) (by omega) (by omega)
        · refine X.aload_n 39 i226_38 rfl rfl rfl ?_
          refine X.iload_n 40 i226_39 rfl rfl rfl ?_
          refine X.callv 43 [zi y3] [] [(0, zr g0 44), (1, zi y3)] i226_40 rfl (by decide) rfl rfl (by omega) rfl rfl (by decide) rfl t210 (Nat.le_of_ble_eq_true rfl) (Nat.le_of_ble_eq_true rfl) rfl ?_
          refine c210_1 (B := B) g0 y3 (by omega) (hJ.up (by omega)) (by omega) (by omega) (fun v554 hv554 => ?_)
          show X (EE s) d 226 43 [(0, zr g0 44), (1, zi 1), (2, zi y2), (3, zi y3)] [zl v554] m _
          refine X.lconst (y := 0) 44 i226_43 rfl rfl rfl ?_
          refine X.lcmp 45 i226_44 rfl rfl (fun z555 hz555 => ?_)
          refine X.ifle 52 48 i226_45 rfl rfl rfl (fun h556 => ?_) (fun h556 => ?_)
          · have h556c : v554 ≤ 0 := by omega
            clear h556 hz555
            refine X.cut [(0, zr g0 44), (1, zi 1), (3, zi y3)] i226_52 rfl ?_
            refine X.iconst 53 i226_52 rfl rfl (by decide) ?_
            refine X.istore_n 54 [(0, zr g0 44), (1, zi 1), (2, zi 0), (3, zi y3)] i226_53 rfl rfl rfl ?_
            refine X.iinc 57 [(0, zr g0 44), (1, zi 1), (2, zi 0), (3, zi (y3 + 1))] i226_54 rfl rfl rfl (by omega) rfl ?_
            refine X.goto 6 i226_57 rfl rfl ?_
            exact ih 1 0 (y3 + 1) (by omega) (by omega) (by omega) (by omega)
          · have h556c : v554 > 0 := by omega
            clear h556 hz555
            refine X.cut [(0, zr g0 44), (1, zi 1), (3, zi y3)] i226_48 rfl ?_
            refine X.iconst 49 i226_48 rfl rfl (by decide) ?_
            refine X.goto 53 i226_49 rfl rfl ?_
            refine X.istore_n 54 [(0, zr g0 44), (1, zi 1), (2, zi 1), (3, zi y3)] i226_53 rfl rfl rfl ?_
            refine X.iinc 57 [(0, zr g0 44), (1, zi 1), (2, zi 1), (3, zi (y3 + 1))] i226_54 rfl rfl rfl (by omega) rfl ?_
            refine X.goto 6 i226_57 rfl rfl ?_
            exact ih 1 1 (y3 + 1) (by omega) (by omega) (by omega) (by omega)
      · refine X.aload_n 19 i226_18 rfl rfl rfl ?_
        refine X.iload_n 20 i226_19 rfl rfl rfl ?_
        refine X.callv 23 [zi y3] [] [(0, zr g0 44), (1, zi y3)] i226_20 rfl (by decide) rfl rfl (by omega) rfl rfl (by decide) rfl t210 (Nat.le_of_ble_eq_true rfl) (Nat.le_of_ble_eq_true rfl) rfl ?_
        refine c210_1 (B := B) g0 y3 (by omega) (hJ.up (by omega)) (by omega) (by omega) (fun v559 hv559 => ?_)
        show X (EE s) d 226 23 [(0, zr g0 44), (1, zi y1), (2, zi y2), (3, zi y3)] [zl v559] m _
        refine X.lconst (y := 0) 24 i226_23 rfl rfl rfl ?_
        refine X.lcmp 25 i226_24 rfl rfl (fun z560 hz560 => ?_)
        refine X.ifge 32 28 i226_25 rfl rfl rfl (fun h561 => ?_) (fun h561 => ?_)
        · have h561c : v559 ≥ 0 := by omega
          clear h561 hz560
          refine X.cut [(0, zr g0 44), (2, zi y2), (3, zi y3)] i226_32 rfl ?_
          refine X.iconst 33 i226_32 rfl rfl (by decide) ?_
          refine X.istore_n 34 [(0, zr g0 44), (1, zi 0), (2, zi y2), (3, zi y3)] i226_33 rfl rfl rfl ?_
          refine X.iload_n 35 i226_34 rfl rfl rfl ?_
          refine X.ifne 48 38 i226_35 rfl rfl rfl (fun h562 => ?_) (fun h562 => ?_)
          · refine X.cut [(0, zr g0 44), (1, zi 0), (3, zi y3)] i226_48 rfl ?_
            refine X.iconst 49 i226_48 rfl rfl (by decide) ?_
            refine X.goto 53 i226_49 rfl rfl ?_
            refine X.istore_n 54 [(0, zr g0 44), (1, zi 0), (2, zi 1), (3, zi y3)] i226_53 rfl rfl rfl ?_
            refine X.iinc 57 [(0, zr g0 44), (1, zi 0), (2, zi 1), (3, zi (y3 + 1))] i226_54 rfl rfl rfl (by omega) rfl ?_
            refine X.goto 6 i226_57 rfl rfl ?_
            exact ih 0 1 (y3 + 1) (by omega) (by omega) (by omega) (by omega)
          · refine X.aload_n 39 i226_38 rfl rfl rfl ?_
            refine X.iload_n 40 i226_39 rfl rfl rfl ?_
            refine X.callv 43 [zi y3] [] [(0, zr g0 44), (1, zi y3)] i226_40 rfl (by decide) rfl rfl (by omega) rfl rfl (by decide) rfl t210 (Nat.le_of_ble_eq_true rfl) (Nat.le_of_ble_eq_true rfl) rfl ?_
            refine c210_1 (B := B) g0 y3 (by omega) (hJ.up (by omega)) (by omega) (by omega) (fun v565 hv565 => ?_)
            show X (EE s) d 226 43 [(0, zr g0 44), (1, zi 0), (2, zi y2), (3, zi y3)] [zl v565] m _
            refine X.lconst (y := 0) 44 i226_43 rfl rfl rfl ?_
            refine X.lcmp 45 i226_44 rfl rfl (fun z566 hz566 => ?_)
            refine X.ifle 52 48 i226_45 rfl rfl rfl (fun h567 => ?_) (fun h567 => ?_)
            · have h567c : v565 ≤ 0 := by omega
              clear h567 hz566
              refine X.cut [(0, zr g0 44), (1, zi 0), (3, zi y3)] i226_52 rfl ?_
              refine X.iconst 53 i226_52 rfl rfl (by decide) ?_
              refine X.istore_n 54 [(0, zr g0 44), (1, zi 0), (2, zi 0), (3, zi y3)] i226_53 rfl rfl rfl ?_
              refine X.iinc 57 [(0, zr g0 44), (1, zi 0), (2, zi 0), (3, zi (y3 + 1))] i226_54 rfl rfl rfl (by omega) rfl ?_
              refine X.goto 6 i226_57 rfl rfl ?_
              exact ih 0 0 (y3 + 1) (by omega) (by omega) (by omega) (by omega)
            · have h567c : v565 > 0 := by omega
              clear h567 hz566
              refine X.cut [(0, zr g0 44), (1, zi 0), (3, zi y3)] i226_48 rfl ?_
              refine X.iconst 49 i226_48 rfl rfl (by decide) ?_
              refine X.goto 53 i226_49 rfl rfl ?_
              refine X.istore_n 54 [(0, zr g0 44), (1, zi 0), (2, zi 1), (3, zi y3)] i226_53 rfl rfl rfl ?_
              refine X.iinc 57 [(0, zr g0 44), (1, zi 0), (2, zi 1), (3, zi (y3 + 1))] i226_54 rfl rfl rfl (by omega) rfl ?_
              refine X.goto 6 i226_57 rfl rfl ?_
              exact ih 0 1 (y3 + 1) (by omega) (by omega) (by omega) (by omega)
        · have h561c : v559 < 0 := by omega
          clear h561 hz560
          refine X.cut [(0, zr g0 44), (2, zi y2), (3, zi y3)] i226_28 rfl ?_
          refine X.iconst 29 i226_28 rfl rfl (by decide) ?_
          refine X.goto 33 i226_29 rfl rfl ?_
          refine X.istore_n 34 [(0, zr g0 44), (1, zi 1), (2, zi y2), (3, zi y3)] i226_33 rfl rfl rfl ?_
          refine X.iload_n 35 i226_34 rfl rfl rfl ?_
          refine X.ifne 48 38 i226_35 rfl rfl rfl (fun h568 => ?_) (fun h568 => ?_)
          · refine X.cut [(0, zr g0 44), (1, zi 1), (3, zi y3)] i226_48 rfl ?_
            refine X.iconst 49 i226_48 rfl rfl (by decide) ?_
            refine X.goto 53 i226_49 rfl rfl ?_
            refine X.istore_n 54 [(0, zr g0 44), (1, zi 1), (2, zi 1), (3, zi y3)] i226_53 rfl rfl rfl ?_
            refine X.iinc 57 [(0, zr g0 44), (1, zi 1), (2, zi 1), (3, zi (y3 + 1))] i226_54 rfl rfl rfl (by omega) rfl ?_
            refine X.goto 6 i226_57 rfl rfl ?_
            exact ih 1 1 (y3 + 1) (by omega) (by omega) (by omega) (by omega)
          · refine X.aload_n 39 i226_38 rfl rfl rfl ?_
            refine X.iload_n 40 i226_39 rfl rfl rfl ?_
            refine X.callv 43 [zi y3] [] [(0, zr g0 44), (1, zi y3)] i226_40 rfl (by decide) rfl rfl (by omega) rfl rfl (by decide) rfl t210 (Nat.le_of_ble_eq_true rfl) (Nat.le_of_ble_eq_true rfl) rfl ?_
            refine c210_1 (B := B) g0 y3 (by omega) (hJ.up (by omega)) (by omega) (by omega) (fun v571 hv571 => ?_)
            show X (EE s) d 226 43 [(0, zr g0 44), (1, zi 1), (2, zi y2), (3, zi y3)] [zl v571] m _
            refine X.lconst (y := 0) 44 i226_43 rfl rfl rfl ?_
            refine X.lcmp 45 i226_44 rfl rfl (fun z572 hz572 => ?_)
            refine X.ifle 52 48 i226_45 rfl rfl rfl (fun h573 => ?_) (fun h573 => ?_)
            · have h573c : v571 ≤ 0 := by omega
              clear h573 hz572
              refine X.cut [(0, zr g0 44), (1, zi 1), (3, zi y3)] i226_52 rfl ?_
              refine X.iconst 53 i226_52 rfl rfl (by decide) ?_
              refine X.istore_n 54 [(0, zr g0 44), (1, zi 1), (2, zi 0), (3, zi y3)] i226_53 rfl rfl rfl ?_
              refine X.iinc 57 [(0, zr g0 44), (1, zi 1), (2, zi 0), (3, zi (y3 + 1))] i226_54 rfl rfl rfl (by omega) rfl ?_
              refine X.goto 6 i226_57 rfl rfl ?_
              exact ih 1 0 (y3 + 1) (by omega) (by omega) (by omega) (by omega)
            · have h573c : v571 > 0 := by omega
              clear h573 hz572
              refine X.cut [(0, zr g0 44), (1, zi 1), (3, zi y3)] i226_48 rfl ?_
              refine X.iconst 49 i226_48 rfl rfl (by decide) ?_
              refine X.goto 53 i226_49 rfl rfl ?_
              refine X.istore_n 54 [(0, zr g0 44), (1, zi 1), (2, zi 1), (3, zi y3)] i226_53 rfl rfl rfl ?_
              refine X.iinc 57 [(0, zr g0 44), (1, zi 1), (2, zi 1), (3, zi (y3 + 1))] i226_54 rfl rfl rfl (by omega) rfl ?_
              refine X.goto 6 i226_57 rfl rfl ?_
              exact ih 1 1 (y3 + 1) (by omega) (by omega) (by omega) (by omega)
-- WorkMeterModel.isReversed
theorem c226_1 {s : Nat × (Nat → Int32)} {m0 m : zM} {B : Int} {d : Nat} {Q : Option zV → zM → Prop} (g0 : Nat) (hd : 14 ≤ d) (hJ : J m0 B m) (hB : B + 0 ≤ 1000000000) (hQ : ∀ (v : Int), (0 ≤ v ∧ v ≤ 1) → Q (some (zi v)) m) : X (EE s) d 226 0 [(0, zr g0 44)] [] m Q := by
  refine X.iconst 1 i226_0 rfl rfl (by decide) ?_
  refine X.istore_n 2 [(0, zr g0 44), (1, zi 0)] i226_1 rfl rfl rfl ?_
  refine X.iconst 3 i226_2 rfl rfl (by decide) ?_
  refine X.istore_n 4 [(0, zr g0 44), (1, zi 0), (2, zi 0)] i226_3 rfl rfl rfl ?_
  refine X.iconst 5 i226_4 rfl rfl (by decide) ?_
  refine X.istore_n 6 [(0, zr g0 44), (1, zi 0), (2, zi 0), (3, zi 0)] i226_5 rfl rfl rfl ?_
  refine l226_6_1 (s := s) (m0 := m0) (m := m) (B := B) (d := d) g0  (by omega) (hJ.up (by omega)) (by omega) (fun y501 y502 hby501 hby502 => ?_) ((3 - 0 : Int).toNat + 1) 0 0 0 (by omega) (by omega) (by omega) (by omega)
  refine X.iload_n 61 i226_60 rfl rfl rfl ?_
  refine X.ifeq 72 64 i226_61 rfl rfl rfl (fun h506 => ?_) (fun h506 => ?_)
  · refine X.cut [] i226_72 rfl ?_
    refine X.iconst 73 i226_72 rfl rfl (by decide) ?_
    refine X.retz i226_73 rfl t226 (by omega) ?_
    exact hQ 0 (by first | trivial | omega) 
  · refine X.iload_n 65 i226_64 rfl rfl rfl ?_
    refine X.ifeq 72 68 i226_65 rfl rfl rfl (fun h507 => ?_) (fun h507 => ?_)
    · refine X.cut [] i226_72 rfl ?_
      refine X.iconst 73 i226_72 rfl rfl (by decide) ?_
      refine X.retz i226_73 rfl t226 (by omega) ?_
      exact hQ 0 (by first | trivial | omega) 
    · refine X.iconst 69 i226_68 rfl rfl (by decide) ?_
      refine X.goto 73 i226_69 rfl rfl ?_
      refine X.cut [] i226_73 rfl ?_
      refine X.retz i226_73 rfl t226 (by omega) ?_
      exact hQ 1 (by first | trivial | omega) 
-- WorkMeterModel.turnsOn
theorem c228_2 {s : Nat × (Nat → Int32)} {m0 m : zM} {B : Int} {d : Nat} {Q : Option zV → zM → Prop} (g0 : Nat) (a1 : Int) (hd : 14 ≤ d) (hJ : J m0 B m) (hB : B + 1 ≤ 1000000000) (ha1 : 3 ≤ a1 ∧ a1 ≤ 3) (hQ : ∀ m', J m0 (B + 1) m' → (∀ g, m' g 8 9 = m g 8 9) → Q none m') : X (EE s) d 228 0 [(0, zr g0 44), (1, zi a1)] [] m Q := by
  refine X.aload_n 1 i228_0 rfl rfl rfl ?_
  refine X.getF 4 i228_1 rfl rfl (by decide) rfl rfl ?_
  refine X.bipush 6 i228_4 rfl rfl (by decide) ?_
  refine X.iload_n 7 i228_6 rfl rfl rfl ?_
  refine X.iadd 8 i228_7 rfl rfl (by omega) ?_
  refine X.lconst (y := 1) 9 i228_8 rfl rfl rfl ?_
  refine X.last' 10 i228_9 rfl rfl (by decide) rfl (by omega) (fun hrm501 m501 hm501 => ?_)
  have hJ502 := w45_19 hJ hm501 (by omega) hrm501
  have km501 : ∀ g, m501 g 8 9 = m g 8 9 := fun g9 => by rw [hm501]; exact z_upd_o _ _ rfl
  refine X.aload_n 11 i228_10 rfl rfl rfl ?_
  refine X.getF 14 i228_11 rfl rfl (by decide) rfl rfl ?_
  refine X.bipush 16 i228_14 rfl rfl (by decide) ?_
  refine X.iload_n 17 i228_16 rfl rfl rfl ?_
  refine X.iadd 18 i228_17 rfl rfl (by omega) ?_
  refine X.dup2 19 i228_18 rfl rfl ?_
  refine X.lald 20 i228_19 rfl rfl (by decide) rfl (by omega) ?_
  refine X.lconst (y := 1) 21 i228_20 rfl rfl rfl ?_
  refine X.llF 22 .ladd (fun x y => x + y) i228_21 rfl rfl rfl (fun _ _ => rfl) (fun z503 hz503 => ?_)
  refine X.last' 23 i228_22 rfl rfl (by decide) rfl (by omega) (fun hrm504 m504 hm504 => ?_)
  have hJ505 := w45_19 hJ502 hm504 (by omega) hrm504
  have km504 : ∀ g, m504 g 8 9 = m501 g 8 9 := fun g9 => by rw [hm504]; exact z_upd_o _ _ rfl
  refine X.aload_n 24 i228_23 rfl rfl rfl ?_
  refine X.iload_n 25 i228_24 rfl rfl rfl ?_
  refine X.lconst (y := 0) 26 i228_25 rfl rfl rfl ?_
  refine X.callv 29 [zi a1, zl 0] [] [(0, zr g0 44), (1, zi a1), (2, zl 0)] i228_26 rfl (by decide) rfl rfl (by omega) rfl rfl (by decide) rfl t223 (Nat.le_of_ble_eq_true rfl) (Nat.le_of_ble_eq_true rfl) rfl ?_
  refine c223_1 (B := B) g0 a1 0 (by omega) (hJ505.up (by omega)) (by omega) (by omega) (by omega) (fun m506 hJ507 km506 => ?_)
  show X (EE s) d 228 29 [(0, zr g0 44), (1, zi a1)] [] m506 _
  refine X.retv i228_29 rfl t228 ?_
  exact hQ  m506  (hJ507.up (by omega)) (fun g => by simp only [km501, km504, km506]) 
theorem l225_6_1 {s : Nat × (Nat → Int32)} {m0 m : zM} {B : Int} {d : Nat} {Q : Option zV → zM → Prop} (g0 : Nat) (hd : 14 ≤ d) (hJ : J m0 B m) (hB9 : B ≤ 1000000000)
    (K82 : ∀ (x1 x2 : Int) , (0 ≤ x1 ∧ x1 ≤ 1) → (0 ≤ x2 ∧ x2 ≤ 1) → X (EE s) d 225 82 [(1, zi x1), (2, zi x2)] [] m Q) :
    ∀ (n : Nat) (y1 y2 y3 : Int) , (0 ≤ y1 ∧ y1 ≤ 1) → (0 ≤ y2 ∧ y2 ≤ 1) → (0 ≤ y3 ∧ y3 ≤ 3) → 3 - y3 < (n : Int) → X (EE s) d 225 6 [(0, zr g0 44), (1, zi y1), (2, zi y2), (3, zi y3)] [] m Q := by
  intro n
  induction n with
  | zero =>
    intro y1 y2 y3 hy1 hy2 hy3 hn
    exfalso
    omega
  | succ n ih =>
    intro y1 y2 y3 hy1 hy2 hy3 hn
    refine X.iload_n 7 i225_6 rfl rfl rfl ?_
    refine X.aload_n 8 i225_7 rfl rfl rfl ?_
    refine X.callv 11 [] [zi y3] [(0, zr g0 44)] i225_8 rfl (by decide) rfl rfl (by omega) rfl rfl (by decide) rfl t206 (Nat.le_of_ble_eq_true rfl) (Nat.le_of_ble_eq_true rfl) rfl ?_
    refine X.aload_n 1 i206_0 rfl rfl rfl ?_
    refine X.getF 4 i206_1 rfl rfl (by decide) rfl rfl ?_
    refine X.iconst 5 i206_4 rfl rfl (by decide) ?_
    refine X.lald 6 i206_5 rfl rfl (by decide) rfl (by omega) ?_
    have h540 := r45_1 hJ 4
    refine X.l2i 7 i206_6 rfl rfl (by omega) ?_
    refine X.reti i206_7 rfl t206 ?_
    show X (EE s) d 225 11 [(0, zr g0 44), (1, zi y1), (2, zi y2), (3, zi y3)] [zi (m 4 45 1), zi y3] m _
    refine X.icmpge 82 14 i225_11 rfl rfl rfl (fun h541 => ?_) (fun h541 => ?_)
    · refine X.cut [(1, zi y1), (2, zi y2)] i225_82 rfl ?_
      exact K82 y1 y2 (by first | trivial | omega) (by first | trivial | omega)
    · refine X.aload_n 15 i225_14 rfl rfl rfl ?_
      refine X.bipush 17 i225_15 rfl rfl (by decide) ?_
      refine X.iload_n 18 i225_17 rfl rfl rfl ?_
      refine X.callv 21 [zi 95, zi y3] [] [(0, zr g0 44), (1, zi 95), (2, zi y3)] i225_18 rfl (by decide) rfl rfl (by omega) rfl rfl (by decide) rfl t213 (Nat.le_of_ble_eq_true rfl) (Nat.le_of_ble_eq_true rfl) rfl ?_
      refine c213_1 (B := B) g0 95 y3 (by omega) (hJ.up (by omega)) (by omega) (by omega) (by omega) (fun v544 hv544 => ?_)
      show X (EE s) d 225 21 [(0, zr g0 44), (1, zi y1), (2, zi y2), (3, zi y3)] [zl v544] m _
      refine X.aload_n 22 i225_21 rfl rfl rfl ?_
      refine X.getF 25 i225_22 rfl rfl (by decide) rfl rfl ?_
      refine X.iconst 26 i225_25 rfl rfl (by decide) ?_
      refine X.lald 27 i225_26 rfl rfl (by decide) rfl (by omega) ?_
      have h545 := r45_2 hJ 4
      refine X.aload_n 28 i225_27 rfl rfl rfl ?_
      refine X.getF 31 i225_28 rfl rfl (by decide) rfl rfl ?_
      refine X.bipush 33 i225_31 rfl rfl (by decide) ?_
      refine X.lald 34 i225_33 rfl rfl (by decide) rfl (by omega) ?_
      refine X.llF 35 .lmul (fun x y => x * y) i225_34 rfl rfl rfl (fun _ _ => rfl) (fun z546 hz546 => ?_)
      refine X.lcmp 36 i225_35 rfl rfl (fun z547 hz547 => ?_)
      refine X.ifge 43 39 i225_36 rfl rfl rfl (fun h548 => ?_) (fun h548 => ?_)
      · have h548c : v544 ≥ z546 := by omega
        clear h548 hz547
        refine X.iconst 44 i225_43 rfl rfl (by decide) ?_
        refine X.istore 46 [(0, zr g0 44), (1, zi y1), (2, zi y2), (3, zi y3), (4, zi 0)] i225_44 rfl rfl rfl ?_
        refine X.iload_n 47 i225_46 rfl rfl rfl ?_
        refine X.ifne 55 50 i225_47 rfl rfl rfl (fun h549 => ?_) (fun h549 => ?_)
        · refine X.cut [(0, zr g0 44), (2, zi y2), (3, zi y3), (4, zi 0)] i225_55 rfl ?_
          refine X.iconst 56 i225_55 rfl rfl (by decide) ?_
          refine X.goto 60 i225_56 rfl rfl ?_
          refine X.istore_n 61 [(0, zr g0 44), (1, zi 1), (2, zi y2), (3, zi y3), (4, zi 0)] i225_60 rfl rfl rfl ?_
          refine X.iload_n 62 i225_61 rfl rfl rfl ?_
          refine X.ifne 70 65 i225_62 rfl rfl rfl (fun h550 => ?_) (fun h550 => ?_)
          · refine X.cut [(0, zr g0 44), (1, zi 1), (3, zi y3)] i225_70 rfl ?_
            refine X.iconst 71 i225_70 rfl rfl (by decide) ?_
            refine X.goto 75 i225_71 rfl rfl ?_
            refine X.istore_n 76 [(0, zr g0 44), (1, zi 1), (2, zi 1), (3, zi y3)] i225_75 rfl rfl rfl ?_
            refine X.iinc 79 [(0, zr g0 44), (1, zi 1), (2, zi 1), (3, zi (y3 + 1))] i225_76 rfl rfl rfl (by omega) rfl ?_
            refine X.goto 6 i225_79 rfl rfl ?_
            exact ih 1 1 (y3 + 1) (by omega) (by omega) (by omega) (by omega)
          · refine X.iload 67 i225_65 rfl rfl rfl ?_
            refine X.ifne 74 70 i225_67 rfl rfl rfl (fun h551 => (by exfalso; omega)) (fun h551 => ?_)
            refine X.cut [(0, zr g0 44), (1, zi 1), (3, zi y3)] i225_70 rfl ?_
            refine X.iconst 71 i225_70 rfl rfl (by decide) ?_
            refine X.goto 75 i225_71 rfl rfl ?_
            refine X.istore_n 76 [(0, zr g0 44), (1, zi 1), (2, zi 1), (3, zi y3)] i225_75 rfl rfl rfl ?_
            refine X.iinc 79 [(0, zr g0 44), (1, zi 1), (2, zi 1), (3, zi (y3 + 1))] i225_76 rfl rfl rfl (by omega) rfl ?_
            refine X.goto 6 i225_79 rfl rfl ?_
            exact ih 1 1 (y3 + 1) (by omega) (by omega) (by omega) (by omega)
        · refine X.iload 52 i225_50 rfl rfl rfl ?_
          refine X.ifeq 59 55 i225_52 rfl rfl rfl (fun h552 => ?_) (fun h552 => (by exfalso; omega))
          refine X.cut [(0, zr g0 44), (2, zi y2), (3, zi y3), (4, zi 0)] i225_59 rfl ?_
          refine X.iconst 60 i225_59 rfl rfl (by decide) ?_
          refine X.istore_n 61 [(0, zr g0 44), (1, zi 0), (2, zi y2), (3, zi y3), (4, zi 0)] i225_60 rfl rfl rfl ?_
          refine X.iload_n 62 i225_61 rfl rfl rfl ?_
          refine X.ifne 70 65 i225_62 rfl rfl rfl (fun h553 => ?_) (fun h553 => ?_)
          · refine X.cut [(0, zr g0 44), (1, zi 0), (3, zi y3)] i225_70 rfl ?_
            refine X.iconst 71 i225_70 rfl rfl (by decide) ?_
            refine X.goto 75 i225_71 rfl rfl ?_
            refine X.istore_n 76 [(0, zr g0 44), (1, zi 0), (2, zi 1), (3, zi y3)] i225_75 rfl rfl rfl ?_
            refine X.iinc 79 [(0, zr g0 44), (1, zi 0), (2, zi 1), (3, zi (y3 + 1))] i225_76 rfl rfl rfl (by omega) rfl ?_
            refine X.goto 6 i225_79 rfl rfl ?_
            exact ih 0 1 (y3 + 1) (by omega) (by omega) (by omega) (by omega)
          · refine X.iload 67 i225_65 rfl rfl rfl ?_
            refine X.ifne 74 70 i225_67 rfl rfl rfl (fun h554 => (by exfalso; omega)) (fun h554 => ?_)
            refine X.cut [(0, zr g0 44), (1, zi 0), (3, zi y3)] i225_70 rfl ?_
            refine X.iconst 71 i225_70 rfl rfl (by decide) ?_
            refine X.goto 75 i225_71 rfl rfl ?_
            refine X.istore_n 76 [(0, zr g0 44), (1, zi 0), (2, zi 1), (3, zi y3)] i225_75 rfl rfl rfl ?_
            refine X.iinc 79 [(0, zr g0 44), (1, zi 0), (2, zi 1), (3, zi (y3 + 1))] i225_76 rfl rfl rfl (by omega) rfl ?_
            refine X.goto 6 i225_79 rfl rfl ?_
            exact ih 0 1 (y3 + 1) (by omega) (by omega) (by omega) (by omega)
      · have h548c : v544 < z546 := by omega
        clear h548 hz547
        refine X.iconst 40 i225_39 rfl rfl (by decide) ?_
        refine X.goto 44 i225_40 rfl rfl ?_
        refine X.istore 46 [(0, zr g0 44), (1, zi y1), (2, zi y2), (3, zi y3), (4, zi 1)] i225_44 rfl rfl rfl ?_
        refine X.iload_n 47 i225_46 rfl rfl rfl ?_
        refine X.ifne 55 50 i225_47 rfl rfl rfl (fun h555 => ?_) (fun h555 => ?_)
        · refine X.cut [(0, zr g0 44), (2, zi y2), (3, zi y3), (4, zi 1)] i225_55 rfl ?_
          refine X.iconst 56 i225_55 rfl rfl (by decide) ?_
          refine X.goto 60 i225_56 rfl rfl ?_
          refine X.istore_n 61 [(0, zr g0 44), (1, zi 1), (2, zi y2), (3, zi y3), (4, zi 1)] i225_60 rfl rfl rfl ?_
          refine X.iload_n 62 i225_61 rfl rfl rfl ?_
          refine X.ifne 70 65 i225_62 rfl rfl rfl (fun h556 => ?_) (fun h556 => ?_)
          · refine X.cut [(0, zr g0 44), (1, zi 1), (3, zi y3)] i225_70 rfl ?_
            refine X.iconst 71 i225_70 rfl rfl (by decide) ?_
            refine X.goto 75 i225_71 rfl rfl ?_
            refine X.istore_n 76 [(0, zr g0 44), (1, zi 1), (2, zi 1), (3, zi y3)] i225_75 rfl rfl rfl ?_
            refine X.iinc 79 [(0, zr g0 44), (1, zi 1), (2, zi 1), (3, zi (y3 + 1))] i225_76 rfl rfl rfl (by omega) rfl ?_
            refine X.goto 6 i225_79 rfl rfl ?_
            exact ih 1 1 (y3 + 1) (by omega) (by omega) (by omega) (by omega)
          · refine X.iload 67 i225_65 rfl rfl rfl ?_
            refine X.ifne 74 70 i225_67 rfl rfl rfl (fun h557 => ?_) (fun h557 => (by exfalso; omega))
            refine X.cut [(0, zr g0 44), (1, zi 1), (3, zi y3)] i225_74 rfl ?_
            refine X.iconst 75 i225_74 rfl rfl (by decide) ?_
            refine X.istore_n 76 [(0, zr g0 44), (1, zi 1), (2, zi 0), (3, zi y3)] i225_75 rfl rfl rfl ?_
            refine X.iinc 79 [(0, zr g0 44), (1, zi 1), (2, zi 0), (3, zi (y3 + 1))] i225_76 rfl rfl rfl (by omega) rfl ?_
            refine X.goto 6 i225_79 rfl rfl ?_
            exact ih 1 0 (y3 + 1) (by omega) (by omega) (by omega) (by omega)
        · refine X.iload 52 i225_50 rfl rfl rfl ?_
          refine X.ifeq 59 55 i225_52 rfl rfl rfl (fun h558 => (by exfalso; omega)) (fun h558 => ?_)
          refine X.cut [(0, zr g0 44), (2, zi y2), (3, zi y3), (4, zi 1)] i225_55 rfl ?_
          refine X.iconst 56 i225_55 rfl rfl (by decide) ?_
          refine X.goto 60 i225_56 rfl rfl ?_
          refine X.istore_n 61 [(0, zr g0 44), (1, zi 1), (2, zi y2), (3, zi y3), (4, zi 1)] i225_60 rfl rfl rfl ?_
          refine X.iload_n 62 i225_61 rfl rfl rfl ?_
          refine X.ifne 70 65 i225_62 rfl rfl rfl (fun h559 => ?_) (fun h559 => ?_)
          · refine X.cut [(0, zr g0 44), (1, zi 1), (3, zi y3)] i225_70 rfl ?_
            refine X.iconst 71 i225_70 rfl rfl (by decide) ?_
            refine X.goto 75 i225_71 rfl rfl ?_
            refine X.istore_n 76 [(0, zr g0 44), (1, zi 1), (2, zi 1), (3, zi y3)] i225_75 rfl rfl rfl ?_
            refine X.iinc 79 [(0, zr g0 44), (1, zi 1), (2, zi 1), (3, zi (y3 + 1))] i225_76 rfl rfl rfl (by omega) rfl ?_
            refine X.goto 6 i225_79 rfl rfl ?_
            exact ih 1 1 (y3 + 1) (by omega) (by omega) (by omega) (by omega)
          · refine X.iload 67 i225_65 rfl rfl rfl ?_
            refine X.ifne 74 70 i225_67 rfl rfl rfl (fun h560 => ?_) (fun h560 => (by exfalso; omega))
            refine X.cut [(0, zr g0 44), (1, zi 1), (3, zi y3)] i225_74 rfl ?_
            refine X.iconst 75 i225_74 rfl rfl (by decide) ?_
            refine X.istore_n 76 [(0, zr g0 44), (1, zi 1), (2, zi 0), (3, zi y3)] i225_75 rfl rfl rfl ?_
            refine X.iinc 79 [(0, zr g0 44), (1, zi 1), (2, zi 0), (3, zi (y3 + 1))] i225_76 rfl rfl rfl (by omega) rfl ?_
            refine X.goto 6 i225_79 rfl rfl ?_
            exact ih 1 0 (y3 + 1) (by omega) (by omega) (by omega) (by omega)
-- WorkMeterModel.isMissing
theorem c225_1 {s : Nat × (Nat → Int32)} {m0 m : zM} {B : Int} {d : Nat} {Q : Option zV → zM → Prop} (g0 : Nat) (hd : 14 ≤ d) (hJ : J m0 B m) (hB : B + 0 ≤ 1000000000) (hQ : ∀ (v : Int), (0 ≤ v ∧ v ≤ 1) → Q (some (zi v)) m) : X (EE s) d 225 0 [(0, zr g0 44)] [] m Q := by
  refine X.iconst 1 i225_0 rfl rfl (by decide) ?_
  refine X.istore_n 2 [(0, zr g0 44), (1, zi 0)] i225_1 rfl rfl rfl ?_
  refine X.iconst 3 i225_2 rfl rfl (by decide) ?_
  refine X.istore_n 4 [(0, zr g0 44), (1, zi 0), (2, zi 0)] i225_3 rfl rfl rfl ?_
  refine X.iconst 5 i225_4 rfl rfl (by decide) ?_
  refine X.istore_n 6 [(0, zr g0 44), (1, zi 0), (2, zi 0), (3, zi 0)] i225_5 rfl rfl rfl ?_
  refine l225_6_1 (s := s) (m0 := m0) (m := m) (B := B) (d := d) g0  (by omega) (hJ.up (by omega)) (by omega) (fun y501 y502 hby501 hby502 => ?_) ((3 - 0 : Int).toNat + 1) 0 0 0 (by omega) (by omega) (by omega) (by omega)
  refine X.iload_n 83 i225_82 rfl rfl rfl ?_
  refine X.ifeq 94 86 i225_83 rfl rfl rfl (fun h506 => ?_) (fun h506 => ?_)
  · refine X.cut [] i225_94 rfl ?_
    refine X.iconst 95 i225_94 rfl rfl (by decide) ?_
    refine X.retz i225_95 rfl t225 (by omega) ?_
    exact hQ 0 (by first | trivial | omega) 
  · refine X.iload_n 87 i225_86 rfl rfl rfl ?_
    refine X.ifeq 94 90 i225_87 rfl rfl rfl (fun h507 => ?_) (fun h507 => ?_)
    · refine X.cut [] i225_94 rfl ?_
      refine X.iconst 95 i225_94 rfl rfl (by decide) ?_
      refine X.retz i225_95 rfl t225 (by omega) ?_
      exact hQ 0 (by first | trivial | omega) 
    · refine X.iconst 91 i225_90 rfl rfl (by decide) ?_
      refine X.goto 95 i225_91 rfl rfl ?_
      refine X.cut [] i225_95 rfl ?_
      refine X.retz i225_95 rfl t225 (by omega) ?_
      exact hQ 1 (by first | trivial | omega) 
-- WorkMeterModel.turnsOn
theorem c228_3 {s : Nat × (Nat → Int32)} {m0 m : zM} {B : Int} {d : Nat} {Q : Option zV → zM → Prop} (g0 : Nat) (a1 : Int) (hd : 14 ≤ d) (hJ : J m0 B m) (hB : B + 1 ≤ 1000000000) (ha1 : 2 ≤ a1 ∧ a1 ≤ 2) (hQ : ∀ m', J m0 (B + 1) m' → (∀ g, m' g 8 9 = m g 8 9) → Q none m') : X (EE s) d 228 0 [(0, zr g0 44), (1, zi a1)] [] m Q := by
  refine X.aload_n 1 i228_0 rfl rfl rfl ?_
  refine X.getF 4 i228_1 rfl rfl (by decide) rfl rfl ?_
  refine X.bipush 6 i228_4 rfl rfl (by decide) ?_
  refine X.iload_n 7 i228_6 rfl rfl rfl ?_
  refine X.iadd 8 i228_7 rfl rfl (by omega) ?_
  refine X.lconst (y := 1) 9 i228_8 rfl rfl rfl ?_
  refine X.last' 10 i228_9 rfl rfl (by decide) rfl (by omega) (fun hrm501 m501 hm501 => ?_)
  have hJ502 := w45_19 hJ hm501 (by omega) hrm501
  have km501 : ∀ g, m501 g 8 9 = m g 8 9 := fun g9 => by rw [hm501]; exact z_upd_o _ _ rfl
  refine X.aload_n 11 i228_10 rfl rfl rfl ?_
  refine X.getF 14 i228_11 rfl rfl (by decide) rfl rfl ?_
  refine X.bipush 16 i228_14 rfl rfl (by decide) ?_
  refine X.iload_n 17 i228_16 rfl rfl rfl ?_
  refine X.iadd 18 i228_17 rfl rfl (by omega) ?_
  refine X.dup2 19 i228_18 rfl rfl ?_
  refine X.lald 20 i228_19 rfl rfl (by decide) rfl (by omega) ?_
  refine X.lconst (y := 1) 21 i228_20 rfl rfl rfl ?_
  refine X.llF 22 .ladd (fun x y => x + y) i228_21 rfl rfl rfl (fun _ _ => rfl) (fun z503 hz503 => ?_)
  refine X.last' 23 i228_22 rfl rfl (by decide) rfl (by omega) (fun hrm504 m504 hm504 => ?_)
  have hJ505 := w45_19 hJ502 hm504 (by omega) hrm504
  have km504 : ∀ g, m504 g 8 9 = m501 g 8 9 := fun g9 => by rw [hm504]; exact z_upd_o _ _ rfl
  refine X.aload_n 24 i228_23 rfl rfl rfl ?_
  refine X.iload_n 25 i228_24 rfl rfl rfl ?_
  refine X.lconst (y := 0) 26 i228_25 rfl rfl rfl ?_
  refine X.callv 29 [zi a1, zl 0] [] [(0, zr g0 44), (1, zi a1), (2, zl 0)] i228_26 rfl (by decide) rfl rfl (by omega) rfl rfl (by decide) rfl t223 (Nat.le_of_ble_eq_true rfl) (Nat.le_of_ble_eq_true rfl) rfl ?_
  refine c223_1 (B := B) g0 a1 0 (by omega) (hJ505.up (by omega)) (by omega) (by omega) (by omega) (fun m506 hJ507 km506 => ?_)
  show X (EE s) d 228 29 [(0, zr g0 44), (1, zi a1)] [] m506 _
  refine X.retv i228_29 rfl t228 ?_
  exact hQ  m506  (hJ507.up (by omega)) (fun g => by simp only [km501, km504, km506]) 
