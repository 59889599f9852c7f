-- WorkMeter$Meter.meterStretch
theorem c26_1 {s : Nat × (Nat → Int32)} {S : zS} {m0 m : zM} {B : Int} {d : Nat} {Q : Option zV → zM → Prop} (g0 : Nat) (a1 : Int) (hd : 17 ≤ d) (hJ : J S m0 B m) (hB : B + 8 ≤ 1000000000) (ha1 : 1 ≤ a1 ∧ a1 ≤ 3600) (hp0 : 1 ≤ a1) (hp1 : m g0 8 13 ≤ 1500000000) (hs0 : S.1 g0 8 9) (hs1 : S.1 g0 8 13) (hQ : ∀ (v : Int) m', ((-1999999999) ≤ v ∧ v ≤ 3600) → J S m0 (B + 8) m' → (1 ≤ v) → (v ≤ a1) → (m' g0 8 9 = min (m g0 8 9 + v) 2000000000 ∧ m' g0 8 13 = m g0 8 13 + v) → Q (some (zi v)) m') : X (EE s) d 26 0 [(0, zr g0 8), (1, zi a1)] [] m Q := by
  refine X.aload_n 1 i26_0 rfl rfl rfl ?_
  refine X.getR 4 i26_1 rfl rfl (by decide) rfl rfl ?_
  refine X.aload_n 5 i26_4 rfl rfl rfl ?_
  refine X.getI 8 9 i26_5 rfl rfl (by decide) rfl rfl rfl ?_
  have h501 := r8_9 hJ g0
  refine X.callv 11 [zi (m g0 8 9)] [] [(0, zr g0 11), (1, zi (m g0 8 9))] i26_8 rfl (by decide) rfl rfl (by omega) rfl rfl (by decide) rfl t27 (Nat.le_of_ble_eq_true rfl) (Nat.le_of_ble_eq_true rfl) rfl ?_
  refine X.aload_n 1 i27_0 rfl rfl rfl ?_
  refine X.aload_n 2 i27_1 rfl rfl rfl ?_
  refine X.iload_n 3 i27_2 rfl rfl rfl ?_
  refine X.ldc 5 i27_3 rfl rfl (by decide) ?_
  refine X.idiv 6 i27_5 rfl rfl (by omega) ?_
  refine X.callv 9 [zi ((m g0 8 9) / 86400)] [zr g0 11] [(0, zr g0 11), (1, zi ((m g0 8 9) / 86400))] i27_6 rfl (by decide) rfl rfl (by omega) rfl rfl (by decide) rfl t28 (Nat.le_of_ble_eq_true rfl) (Nat.le_of_ble_eq_true rfl) rfl ?_
  refine c28_1 (B := B) g0 ((m g0 8 9) / 86400) (by omega) (hJ.up (by omega)) (by omega) (by omega) (fun v504 hv504 => ?_)
  show X (EE s) (d - 1) 27 9 [(0, zr g0 11), (1, zi (m g0 8 9))] [zi v504, zr g0 11] m _
  refine X.iload_n 10 i27_9 rfl rfl rfl ?_
  refine X.ldc 12 i27_10 rfl rfl (by decide) ?_
  refine X.irem 13 i27_12 rfl rfl (by omega) ?_
  refine X.callv 16 [zi v504, zi ((m g0 8 9) % 86400)] [] [(0, zr g0 11), (1, zi v504), (2, zi ((m g0 8 9) % 86400))] i27_13 rfl (by decide) rfl rfl (by omega) rfl rfl (by decide) rfl t31 (Nat.le_of_ble_eq_true rfl) (Nat.le_of_ble_eq_true rfl) rfl ?_
  refine c31_1 (B := B) g0 v504 ((m g0 8 9) % 86400) (by omega) (hJ.up (by omega)) (by omega) (by omega) (by omega) (fun v507 hv507 => ?_)
  show X (EE s) (d - 1) 27 16 [(0, zr g0 11), (1, zi (m g0 8 9))] [zi v507] m _
  refine X.reti i27_16 rfl t27 ?_
  show X (EE s) d 26 11 [(0, zr g0 8), (1, zi a1)] [zi v507] m _
  refine X.istore_n 12 [(0, zr g0 8), (1, zi a1), (2, zi v507)] i26_11 rfl rfl rfl ?_
  refine X.aload_n 13 i26_12 rfl rfl rfl ?_
  refine X.getR 16 i26_13 rfl rfl (by decide) rfl rfl ?_
  refine X.aload_n 17 i26_16 rfl rfl rfl ?_
  refine X.getR 20 i26_17 rfl rfl (by decide) rfl rfl ?_
  refine X.callv 23 [] [zr g0 19] [(0, zr g0 9)] i26_20 rfl (by decide) rfl rfl (by omega) rfl rfl (by decide) rfl t33 (Nat.le_of_ble_eq_true rfl) (Nat.le_of_ble_eq_true rfl) rfl ?_
  refine X.aload_n 1 i33_0 rfl rfl rfl ?_
  refine X.getR 4 i33_1 rfl rfl (by decide) rfl rfl ?_
  refine X.iconst 5 i33_4 rfl rfl (by decide) ?_
  refine X.iald 6 i33_5 rfl rfl (by decide) rfl (by omega) ?_
  have h508 := r10_0 hJ g0 (i := 2) (by omega)
  refine X.reti i33_6 rfl t33 ?_
  show X (EE s) d 26 23 [(0, zr g0 8), (1, zi a1), (2, zi v507)] [zi (m g0 10 2), zr g0 19] m _
  refine X.callv 26 [zi (m g0 10 2)] [] [(0, zr g0 19), (1, zi (m g0 10 2))] i26_23 rfl (by decide) rfl rfl (by omega) rfl rfl (by decide) rfl t34 (Nat.le_of_ble_eq_true rfl) (Nat.le_of_ble_eq_true rfl) rfl ?_
  refine c34_1 (B := B) g0 (m g0 10 2) (by omega) (hJ.up (by omega)) (by omega) (by omega) (fun v511 hv511 => ?_)
  show X (EE s) d 26 26 [(0, zr g0 8), (1, zi a1), (2, zi v507)] [zi v511] m _
  refine X.istore_n 27 [(0, zr g0 8), (1, zi a1), (2, zi v507), (3, zi v511)] i26_26 rfl rfl rfl ?_
  refine X.aload_n 28 i26_27 rfl rfl rfl ?_
  refine X.iload_n 29 i26_28 rfl rfl rfl ?_
  refine X.iload_n 30 i26_29 rfl rfl rfl ?_
  refine X.iload_n 31 i26_30 rfl rfl rfl ?_
  refine X.callv 34 [zi a1, zi v507, zi v511] [] [(0, zr g0 8), (1, zi a1), (2, zi v507), (3, zi v511)] i26_31 rfl (by decide) rfl rfl (by omega) rfl rfl (by decide) rfl t35 (Nat.le_of_ble_eq_true rfl) (Nat.le_of_ble_eq_true rfl) rfl ?_
  refine c35_1 (B := B) g0 a1 v507 v511 (by omega) (hJ.up (by omega)) (by omega) (by omega) (by omega) (by omega) (by omega) (fun v514 hv514 hqv5140 hqv5141 hqv5142 => ?_)
  show X (EE s) d 26 34 [(0, zr g0 8), (1, zi a1), (2, zi v507), (3, zi v511)] [zi v514] m _
  refine X.istore 36 [(0, zr g0 8), (1, zi a1), (2, zi v507), (3, zi v511), (4, zi v514)] i26_34 rfl rfl rfl ?_
  refine X.aload_n 37 i26_36 rfl rfl rfl ?_
  refine X.iload 39 i26_37 rfl rfl rfl ?_
  refine X.iload_n 40 i26_39 rfl rfl rfl ?_
  refine X.callv 43 [zi v514, zi v507] [] [(0, zr g0 8), (1, zi v514), (2, zi v507)] i26_40 rfl (by decide) rfl rfl (by omega) rfl rfl (by decide) rfl t49 (Nat.le_of_ble_eq_true rfl) (Nat.le_of_ble_eq_true rfl) rfl ?_
  refine c49_1 (S := zfr [] S) (m0 := m) (B := B) g0 v514 v507 (by omega) (hJ.ow.up (by omega)) (by omega) (by omega) (by omega) (fun m515 hJ516 => ?_)
  have hJ518 := hJ.trans hJ516 zi_n
  have wt519 : m515 g0 8 9 = (m g0 8 9) := hJ516.eq rfl rfl
  have wt520 : m515 g0 8 13 = (m g0 8 13) := hJ516.eq rfl rfl
  show X (EE s) d 26 43 [(0, zr g0 8), (1, zi a1), (2, zi v507), (3, zi v511), (4, zi v514)] [] m515 _
  refine X.aload_n 44 i26_43 rfl rfl rfl ?_
  refine X.dup 45 i26_44 rfl rfl rfl ?_
  refine X.getI 48 13 i26_45 rfl rfl (by decide) rfl rfl rfl ?_
  have h521 := r8_13 hJ518 g0
  refine X.iload 50 i26_48 rfl rfl rfl ?_
  refine X.iadd 51 i26_50 rfl rfl (by omega) ?_
  refine X.putI' 54 13 i26_51 rfl rfl (by decide) rfl rfl rfl (fun hrm522 m522 hm522 => ?_)
  have hJ523 := w8_13 hJ518 hm522 (by omega) hs1
  have wt524 : m522 g0 8 9 = (m g0 8 9) := Eq.trans (by rw [hm522]; exact z_upd_o _ _ rfl) wt519
  have wt525 : m522 g0 8 13 = ((m515 g0 8 13) + v514) := by rw [hm522]; exact z_upd_same _ _ _ _ _
  clear wt519
  refine X.aload_n 55 i26_54 rfl rfl rfl ?_
  refine X.dup 56 i26_55 rfl rfl rfl ?_
  refine X.getI 59 9 i26_56 rfl rfl (by decide) rfl rfl rfl ?_
  have h526 := r8_9 hJ523 g0
  refine X.iload 61 i26_59 rfl rfl rfl ?_
  refine X.iconst 62 i26_61 rfl rfl (by decide) ?_
  refine X.isub 63 i26_62 rfl rfl (by omega) ?_
  refine X.iadd 64 i26_63 rfl rfl (by omega) ?_
  refine X.putI' 67 9 i26_64 rfl rfl (by decide) rfl rfl rfl (fun hrm527 m527 hm527 => ?_)
  have hJ528 := w8_9 hJ523 hm527 (by omega) hs0
  have wt529 : m527 g0 8 9 = ((m522 g0 8 9) + (v514 - 1)) := by rw [hm527]; exact z_upd_same _ _ _ _ _
  have wt530 : m527 g0 8 13 = ((m515 g0 8 13) + v514) := Eq.trans (by rw [hm527]; exact z_upd_o _ _ rfl) wt525
  clear wt525
  have em527 : m527 g0 8 9 = ((m522 g0 8 9) + (v514 - 1)) := by rw [hm527]; exact z_upd_same _ _ _ _ _
  refine X.aload_n 68 i26_67 rfl rfl rfl ?_
  refine X.callv 71 [] [] [(0, zr g0 8)] i26_68 rfl (by decide) rfl rfl (by omega) rfl rfl (by decide) rfl t53 (Nat.le_of_ble_eq_true rfl) (Nat.le_of_ble_eq_true rfl) rfl ?_
  refine X.aload_n 1 i53_0 rfl rfl rfl ?_
  refine X.getZ 4 11 i53_1 rfl rfl (by decide) rfl rfl rfl (fun h531 => ?_)
  refine X.ifeq 20 7 i53_4 rfl rfl rfl (fun h532 => ?_) (fun h532 => ?_)
  · refine X.iconst 21 i53_20 rfl rfl (by decide) ?_
    refine X.istore_n 22 [(0, zr g0 8), (1, zi 0)] i53_21 rfl rfl rfl ?_
    refine X.iload_n 23 i53_22 rfl rfl rfl ?_
    refine X.aload_n 24 i53_23 rfl rfl rfl ?_
    refine X.getZ 27 12 i53_24 rfl rfl (by decide) rfl rfl rfl (fun h533 => ?_)
    refine X.icmpeq 54 30 i53_27 rfl rfl rfl (fun h534 => ?_) (fun h534 => ?_)
    · refine X.cut [] i53_54 rfl ?_
      refine X.retv i53_54 rfl t53 ?_
      show X (EE s) d 26 71 [(0, zr g0 8), (1, zi a1), (2, zi v507), (3, zi v511), (4, zi v514)] [] m527 _
      refine X.aload_n 72 i26_71 rfl rfl rfl ?_
      refine X.getR 75 i26_72 rfl rfl (by decide) rfl rfl ?_
      refine X.iload 77 i26_75 rfl rfl rfl ?_
      refine X.iload_n 78 i26_77 rfl rfl rfl ?_
      refine X.aload_n 79 i26_78 rfl rfl rfl ?_
      refine X.getR 82 i26_79 rfl rfl (by decide) rfl rfl ?_
      refine X.callv 85 [] [zi v511, zi v514, zr g0 33] [(0, zr g0 9)] i26_82 rfl (by decide) rfl rfl (by omega) rfl rfl (by decide) rfl t38 (Nat.le_of_ble_eq_true rfl) (Nat.le_of_ble_eq_true rfl) rfl ?_
      refine X.aload_n 1 i38_0 rfl rfl rfl ?_
      refine X.getR 4 i38_1 rfl rfl (by decide) rfl rfl ?_
      refine X.iconst 5 i38_4 rfl rfl (by decide) ?_
      refine X.iald 6 i38_5 rfl rfl (by decide) rfl (by omega) ?_
      have h535 := r10_0 hJ528 g0 (i := 3) (by omega)
      refine X.reti i38_6 rfl t38 ?_
      show X (EE s) d 26 85 [(0, zr g0 8), (1, zi a1), (2, zi v507), (3, zi v511), (4, zi v514)] [zi (m527 g0 10 3), zi v511, zi v514, zr g0 33] m527 _
      refine X.aload_n 86 i26_85 rfl rfl rfl ?_
      refine X.getR 89 i26_86 rfl rfl (by decide) rfl rfl ?_
      refine X.aload_n 90 i26_89 rfl rfl rfl ?_
      refine X.getI 93 9 i26_90 rfl rfl (by decide) rfl rfl rfl ?_
      refine X.callv 96 [zi v514, zi v511, zi (m527 g0 10 3), zr g0 37, zi (m527 g0 8 9)] [] [(0, zr g0 33), (1, zi v514), (2, zi v511), (3, zi (m527 g0 10 3)), (4, zr g0 37), (5, zi (m527 g0 8 9))] i26_93 rfl (by decide) rfl rfl (by omega) rfl rfl (by decide) rfl t56 (Nat.le_of_ble_eq_true rfl) (Nat.le_of_ble_eq_true rfl) rfl ?_
      refine c56_1 (S := zfr [] S) (m0 := m527) (B := B) g0 g0 v514 v511 (m527 g0 10 3) (m527 g0 8 9) (by omega) (hJ528.ow.up (by omega)) (by omega) (by omega) (by omega) (by omega) (by omega) (fun m536 hJ537 => ?_)
      have hJ539 := hJ528.trans hJ537 zi_n
      have wt540 : m536 g0 8 9 = ((m522 g0 8 9) + (v514 - 1)) := Eq.trans (hJ537.eq rfl rfl) wt529
      have wt541 : m536 g0 8 13 = ((m515 g0 8 13) + v514) := Eq.trans (hJ537.eq rfl rfl) wt530
      clear wt530
      show X (EE s) d 26 96 [(0, zr g0 8), (1, zi a1), (2, zi v507), (3, zi v511), (4, zi v514)] [] m536 _
      refine X.aload_n 97 i26_96 rfl rfl rfl ?_
      refine X.getR 100 i26_97 rfl rfl (by decide) rfl rfl ?_
      refine X.iload 102 i26_100 rfl rfl rfl ?_
      refine X.aload_n 103 i26_102 rfl rfl rfl ?_
      refine X.getR 106 i26_103 rfl rfl (by decide) rfl rfl ?_
      refine X.getIr 109 3 i26_106 rfl rfl (by decide) rfl rfl rfl (fun h542 => ?_)
      refine X.callv 112 [zi v514, zi (m536 g0 33 3)] [] [(0, zr g0 27), (1, zi v514), (2, zi (m536 g0 33 3))] i26_109 rfl (by decide) rfl rfl (by omega) rfl rfl (by decide) rfl t58 (Nat.le_of_ble_eq_true rfl) (Nat.le_of_ble_eq_true rfl) rfl ?_
      refine X.aload_n 1 i58_0 rfl rfl rfl ?_
      refine X.dup 2 i58_1 rfl rfl rfl ?_
      refine X.getIr 5 6 i58_2 rfl rfl (by decide) rfl rfl rfl (fun h543 => ?_)
      refine X.iload_n 6 i58_5 rfl rfl rfl ?_
      refine X.iiF 7 .iadd (fun x y => x + y) i58_6 rfl rfl rfl (fun _ _ => rfl) (fun z544 hz544 => ?_)
      refine X.putI' 10 6 i58_7 rfl rfl (by decide) rfl rfl rfl (fun hrm545 m545 hm545 => ?_)
      have hJ546 := w27_3 hJ539 hm545 (by omega) hrm545
      have wt547 : m545 g0 8 9 = ((m522 g0 8 9) + (v514 - 1)) := Eq.trans (by rw [hm545]; exact z_upd_o _ _ rfl) wt540
      have wt548 : m545 g0 8 13 = ((m515 g0 8 13) + v514) := Eq.trans (by rw [hm545]; exact z_upd_o _ _ rfl) wt541
      clear wt540 wt541
      refine X.aload_n 11 i58_10 rfl rfl rfl ?_
      refine X.dup 12 i58_11 rfl rfl rfl ?_
      refine X.getIr 15 8 i58_12 rfl rfl (by decide) rfl rfl rfl (fun h549 => ?_)
      refine X.iload_n 16 i58_15 rfl rfl rfl ?_
      refine X.iiF 17 .ior (fun x y => x ||| y) i58_16 rfl rfl rfl (fun _ _ => rfl) (fun z550 hz550 => ?_)
      refine X.putI' 20 8 i58_17 rfl rfl (by decide) rfl rfl rfl (fun hrm551 m551 hm551 => ?_)
      have hJ552 := w27_3 hJ546 hm551 (by omega) hrm551
      have wt553 : m551 g0 8 9 = ((m522 g0 8 9) + (v514 - 1)) := Eq.trans (by rw [hm551]; exact z_upd_o _ _ rfl) wt547
      have wt554 : m551 g0 8 13 = ((m515 g0 8 13) + v514) := Eq.trans (by rw [hm551]; exact z_upd_o _ _ rfl) wt548
      clear wt547 wt548
      refine X.retv i58_20 rfl t58 ?_
      show X (EE s) d 26 112 [(0, zr g0 8), (1, zi a1), (2, zi v507), (3, zi v511), (4, zi v514)] [] m551 _
      refine X.aload_n 113 i26_112 rfl rfl rfl ?_
      refine X.getI 116 9 i26_113 rfl rfl (by decide) rfl rfl rfl ?_
      have h555 := r8_9 hJ552 g0
      refine X.ldc 118 i26_116 rfl rfl (by decide) ?_
      refine X.icmpge 131 121 i26_118 rfl rfl rfl (fun h556 => ?_) (fun h556 => ?_)
      · refine X.cut [(0, zr g0 8), (2, zi v507), (4, zi v514)] i26_131 rfl ?_
        refine X.aload_n 132 i26_131 rfl rfl rfl ?_
        refine X.iload_n 133 i26_132 rfl rfl rfl ?_
        refine X.callv 136 [zi v507] [] [(0, zr g0 8), (1, zi v507)] i26_133 rfl (by decide) rfl rfl (by omega) rfl rfl (by decide) rfl t59 (Nat.le_of_ble_eq_true rfl) (Nat.le_of_ble_eq_true rfl) rfl ?_
        refine c59_1 (S := zfr [] S) (m0 := m551) (B := B + 6) g0 v507 (by omega) (hJ552.ow.up (by omega)) (by omega) (by omega) (fun m557 hJ558 => ?_)
        have hJ560 := hJ552.trans hJ558 zi_n
        have wt561 : m557 g0 8 9 = ((m522 g0 8 9) + (v514 - 1)) := Eq.trans (hJ558.eq rfl rfl) wt553
        have wt562 : m557 g0 8 13 = ((m515 g0 8 13) + v514) := Eq.trans (hJ558.eq rfl rfl) wt554
        clear wt554
        show X (EE s) d 26 136 [(0, zr g0 8), (2, zi v507), (4, zi v514)] [] m557 _
        refine X.iload 138 i26_136 rfl rfl rfl ?_
        refine X.reti i26_138 rfl t26 ?_
        exact hQ v514 m557 (by first | trivial | omega) (hJ560.up (by omega)) (by omega) (by omega) (by exact ⟨by omega, by omega⟩)
      · refine X.aload_n 122 i26_121 rfl rfl rfl ?_
        refine X.dup 123 i26_122 rfl rfl rfl ?_
        refine X.getI 126 9 i26_123 rfl rfl (by decide) rfl rfl rfl ?_
        refine X.iconst 127 i26_126 rfl rfl (by decide) ?_
        refine X.iadd 128 i26_127 rfl rfl (by omega) ?_
        refine X.putI' 131 9 i26_128 rfl rfl (by decide) rfl rfl rfl (fun hrm563 m563 hm563 => ?_)
        have hJ564 := w8_9 hJ552 hm563 (by omega) hs0
        have wt565 : m563 g0 8 9 = ((m551 g0 8 9) + 1) := by rw [hm563]; exact z_upd_same _ _ _ _ _
        have wt566 : m563 g0 8 13 = ((m515 g0 8 13) + v514) := Eq.trans (by rw [hm563]; exact z_upd_o _ _ rfl) wt554
        clear wt554
        have em563 : m563 g0 8 9 = ((m551 g0 8 9) + 1) := by rw [hm563]; exact z_upd_same _ _ _ _ _
        refine X.cut [(0, zr g0 8), (2, zi v507), (4, zi v514)] i26_131 rfl ?_
        refine X.aload_n 132 i26_131 rfl rfl rfl ?_
        refine X.iload_n 133 i26_132 rfl rfl rfl ?_
        refine X.callv 136 [zi v507] [] [(0, zr g0 8), (1, zi v507)] i26_133 rfl (by decide) rfl rfl (by omega) rfl rfl (by decide) rfl t59 (Nat.le_of_ble_eq_true rfl) (Nat.le_of_ble_eq_true rfl) rfl ?_
        refine c59_1 (S := zfr [] S) (m0 := m563) (B := B + 6) g0 v507 (by omega) (hJ564.ow.up (by omega)) (by omega) (by omega) (fun m567 hJ568 => ?_)
        have hJ570 := hJ564.trans hJ568 zi_n
        have wt571 : m567 g0 8 9 = ((m551 g0 8 9) + 1) := Eq.trans (hJ568.eq rfl rfl) wt565
        have wt572 : m567 g0 8 13 = ((m515 g0 8 13) + v514) := Eq.trans (hJ568.eq rfl rfl) wt566
        clear wt565 wt566
        show X (EE s) d 26 136 [(0, zr g0 8), (2, zi v507), (4, zi v514)] [] m567 _
        refine X.iload 138 i26_136 rfl rfl rfl ?_
        refine X.reti i26_138 rfl t26 ?_
        exact hQ v514 m567 (by first | trivial | omega) (hJ570.up (by omega)) (by omega) (by omega) (by exact ⟨by omega, by omega⟩)
    · refine X.aload_n 31 i53_30 rfl rfl rfl ?_
      refine X.iload_n 32 i53_31 rfl rfl rfl ?_
      refine X.putZ' 35 12 i53_32 rfl rfl (by decide) rfl rfl rfl (by omega) (fun hrm573 m573 hm573 => ?_)
      have hJ574 := w8_12 hJ528 hm573 (by omega)
      have wt575 : m573 g0 8 9 = ((m522 g0 8 9) + (v514 - 1)) := Eq.trans (by rw [hm573]; exact z_upd_o _ _ rfl) wt529
      have wt576 : m573 g0 8 13 = ((m515 g0 8 13) + v514) := Eq.trans (by rw [hm573]; exact z_upd_o _ _ rfl) wt530
      clear wt529 wt530
      refine X.aload_n 36 i53_35 rfl rfl rfl ?_
      refine X.aload_n 37 i53_36 rfl rfl rfl ?_
      refine X.getZ 40 12 i53_37 rfl rfl (by decide) rfl rfl rfl (fun h577 => ?_)
      refine X.ifeq 48 43 i53_40 rfl rfl rfl (fun h578 => ?_) (fun h578 => ?_)
      · refine X.cut [] i53_48 rfl ?_
        refine X.bipush 50 i53_48 rfl rfl (by decide) ?_
        refine X.iconst 51 i53_50 rfl rfl (by decide) ?_
        refine X.callv 54 [zi 23, zi 0] [] [(0, zr g0 8), (1, zi 23), (2, zi 0)] i53_51 rfl (by decide) rfl rfl (by omega) rfl rfl (by decide) rfl t54 (Nat.le_of_ble_eq_true rfl) (Nat.le_of_ble_eq_true rfl) rfl ?_
        refine X.aload_n 1 i54_0 rfl rfl rfl ?_
        refine X.getR 4 i54_1 rfl rfl (by decide) rfl rfl ?_
        refine X.aload_n 5 i54_4 rfl rfl rfl ?_
        refine X.getI 8 9 i54_5 rfl rfl (by decide) rfl rfl rfl ?_
        have h579 := r8_9 hJ574 g0
        refine X.iload_n 9 i54_8 rfl rfl rfl ?_
        refine X.iload_n 10 i54_9 rfl rfl rfl ?_
        refine X.callv 13 [zi (m573 g0 8 9), zi 23, zi 0] [] [(0, zr g0 37), (1, zi (m573 g0 8 9)), (2, zi 23), (3, zi 0)] i54_10 rfl (by decide) rfl rfl (by omega) rfl rfl (by decide) rfl t55 (Nat.le_of_ble_eq_true rfl) (Nat.le_of_ble_eq_true rfl) rfl ?_
        refine X.aload_n 1 i55_0 rfl rfl rfl ?_
        refine X.getI 4 1 i55_1 rfl rfl (by decide) rfl rfl rfl ?_
        have h580 := r37_1 hJ574 g0
        refine X.bipush 6 i55_4 rfl rfl (by decide) ?_
        refine X.irem 7 i55_6 rfl rfl (by omega) ?_
        refine X.iconst 8 i55_7 rfl rfl (by decide) ?_
        refine X.imul 9 i55_8 rfl rfl (by omega) ?_
        refine X.istore 11 [(0, zr g0 37), (1, zi (m573 g0 8 9)), (2, zi 23), (3, zi 0), (4, zi (((m573 g0 37 1) % 40) * 3))] i55_9 rfl rfl rfl ?_
        refine X.aload_n 12 i55_11 rfl rfl rfl ?_
        refine X.getR 15 i55_12 rfl rfl (by decide) rfl rfl ?_
        refine X.iload 17 i55_15 rfl rfl rfl ?_
        refine X.iload_n 18 i55_17 rfl rfl rfl ?_
        refine X.iast' 19 i55_18 rfl rfl (by decide) rfl (by omega) (fun hrm581 m581 hm581 => ?_)
        have hJ582 := w38_0 hJ574 hm581 (by omega) hrm581
        have wt583 : m581 g0 8 9 = ((m522 g0 8 9) + (v514 - 1)) := Eq.trans (by rw [hm581]; exact z_upd_o _ _ rfl) wt575
        have wt584 : m581 g0 8 13 = ((m515 g0 8 13) + v514) := Eq.trans (by rw [hm581]; exact z_upd_o _ _ rfl) wt576
        clear wt576
        refine X.aload_n 20 i55_19 rfl rfl rfl ?_
        refine X.getR 23 i55_20 rfl rfl (by decide) rfl rfl ?_
        refine X.iload 25 i55_23 rfl rfl rfl ?_
        refine X.iconst 26 i55_25 rfl rfl (by decide) ?_
        refine X.iadd 27 i55_26 rfl rfl (by omega) ?_
        refine X.iload_n 28 i55_27 rfl rfl rfl ?_
        refine X.iast' 29 i55_28 rfl rfl (by decide) rfl (by omega) (fun hrm585 m585 hm585 => ?_)
        have hJ586 := w38_0 hJ582 hm585 (by omega) hrm585
        have wt587 : m585 g0 8 9 = ((m522 g0 8 9) + (v514 - 1)) := Eq.trans (by rw [hm585]; exact z_upd_o _ _ rfl) wt583
        have wt588 : m585 g0 8 13 = ((m515 g0 8 13) + v514) := Eq.trans (by rw [hm585]; exact z_upd_o _ _ rfl) wt584
        clear wt583 wt584
        refine X.aload_n 30 i55_29 rfl rfl rfl ?_
        refine X.getR 33 i55_30 rfl rfl (by decide) rfl rfl ?_
        refine X.iload 35 i55_33 rfl rfl rfl ?_
        refine X.iconst 36 i55_35 rfl rfl (by decide) ?_
        refine X.iadd 37 i55_36 rfl rfl (by omega) ?_
        refine X.iload_n 38 i55_37 rfl rfl rfl ?_
        refine X.iast' 39 i55_38 rfl rfl (by decide) rfl (by omega) (fun hrm589 m589 hm589 => ?_)
        have hJ590 := w38_0 hJ586 hm589 (by omega) hrm589
        have wt591 : m589 g0 8 9 = ((m522 g0 8 9) + (v514 - 1)) := Eq.trans (by rw [hm589]; exact z_upd_o _ _ rfl) wt587
        have wt592 : m589 g0 8 13 = ((m515 g0 8 13) + v514) := Eq.trans (by rw [hm589]; exact z_upd_o _ _ rfl) wt588
        clear wt587 wt588
        refine X.aload_n 40 i55_39 rfl rfl rfl ?_
        refine X.dup 41 i55_40 rfl rfl rfl ?_
        refine X.getI 44 1 i55_41 rfl rfl (by decide) rfl rfl rfl ?_
        have h593 := r37_1 hJ590 g0
        refine X.iconst 45 i55_44 rfl rfl (by decide) ?_
        refine X.iadd 46 i55_45 rfl rfl (by omega) ?_
        refine X.putI' 49 1 i55_46 rfl rfl (by decide) rfl rfl rfl (fun hrm594 m594 hm594 => ?_)
        have hJ595 := w37_1 (hJ590.up (B' := B + 1) (by omega)) hm594 (by omega)
        have wt596 : m594 g0 8 9 = ((m522 g0 8 9) + (v514 - 1)) := Eq.trans (by rw [hm594]; exact z_upd_o _ _ rfl) wt591
        have wt597 : m594 g0 8 13 = ((m515 g0 8 13) + v514) := Eq.trans (by rw [hm594]; exact z_upd_o _ _ rfl) wt592
        clear wt591 wt592
        refine X.retv i55_49 rfl t55 ?_
        show X (EE s) ((d - 1) - 1) 54 13 [(0, zr g0 8), (1, zi 23), (2, zi 0)] [] m594 _
        refine X.retv i54_13 rfl t54 ?_
        show X (EE s) (d - 1) 53 54 [] [] m594 _
        refine X.retv i53_54 rfl t53 ?_
        show X (EE s) d 26 71 [(0, zr g0 8), (1, zi a1), (2, zi v507), (3, zi v511), (4, zi v514)] [] m594 _
        refine X.aload_n 72 i26_71 rfl rfl rfl ?_
        refine X.getR 75 i26_72 rfl rfl (by decide) rfl rfl ?_
        refine X.iload 77 i26_75 rfl rfl rfl ?_
        refine X.iload_n 78 i26_77 rfl rfl rfl ?_
        refine X.aload_n 79 i26_78 rfl rfl rfl ?_
        refine X.getR 82 i26_79 rfl rfl (by decide) rfl rfl ?_
        refine X.callv 85 [] [zi v511, zi v514, zr g0 33] [(0, zr g0 9)] i26_82 rfl (by decide) rfl rfl (by omega) rfl rfl (by decide) rfl t38 (Nat.le_of_ble_eq_true rfl) (Nat.le_of_ble_eq_true rfl) rfl ?_
        refine X.aload_n 1 i38_0 rfl rfl rfl ?_
        refine X.getR 4 i38_1 rfl rfl (by decide) rfl rfl ?_
        refine X.iconst 5 i38_4 rfl rfl (by decide) ?_
        refine X.iald 6 i38_5 rfl rfl (by decide) rfl (by omega) ?_
        have h598 := r10_0 hJ595 g0 (i := 3) (by omega)
        refine X.reti i38_6 rfl t38 ?_
        show X (EE s) d 26 85 [(0, zr g0 8), (1, zi a1), (2, zi v507), (3, zi v511), (4, zi v514)] [zi (m594 g0 10 3), zi v511, zi v514, zr g0 33] m594 _
        refine X.aload_n 86 i26_85 rfl rfl rfl ?_
        refine X.getR 89 i26_86 rfl rfl (by decide) rfl rfl ?_
        refine X.aload_n 90 i26_89 rfl rfl rfl ?_
        refine X.getI 93 9 i26_90 rfl rfl (by decide) rfl rfl rfl ?_
        have h599 := r8_9 hJ595 g0
        refine X.callv 96 [zi v514, zi v511, zi (m594 g0 10 3), zr g0 37, zi (m594 g0 8 9)] [] [(0, zr g0 33), (1, zi v514), (2, zi v511), (3, zi (m594 g0 10 3)), (4, zr g0 37), (5, zi (m594 g0 8 9))] i26_93 rfl (by decide) rfl rfl (by omega) rfl rfl (by decide) rfl t56 (Nat.le_of_ble_eq_true rfl) (Nat.le_of_ble_eq_true rfl) rfl ?_
        refine c56_1 (S := zfr [] S) (m0 := m594) (B := B + 1) g0 g0 v514 v511 (m594 g0 10 3) (m594 g0 8 9) (by omega) (hJ595.ow.up (by omega)) (by omega) (by omega) (by omega) (by omega) (by omega) (fun m600 hJ601 => ?_)
        have hJ603 := hJ595.trans hJ601 zi_n
        have wt604 : m600 g0 8 9 = ((m522 g0 8 9) + (v514 - 1)) := Eq.trans (hJ601.eq rfl rfl) wt596
        have wt605 : m600 g0 8 13 = ((m515 g0 8 13) + v514) := Eq.trans (hJ601.eq rfl rfl) wt597
        clear wt597
        show X (EE s) d 26 96 [(0, zr g0 8), (1, zi a1), (2, zi v507), (3, zi v511), (4, zi v514)] [] m600 _
        refine X.aload_n 97 i26_96 rfl rfl rfl ?_
        refine X.getR 100 i26_97 rfl rfl (by decide) rfl rfl ?_
        refine X.iload 102 i26_100 rfl rfl rfl ?_
        refine X.aload_n 103 i26_102 rfl rfl rfl ?_
        refine X.getR 106 i26_103 rfl rfl (by decide) rfl rfl ?_
        refine X.getIr 109 3 i26_106 rfl rfl (by decide) rfl rfl rfl (fun h606 => ?_)
        refine X.callv 112 [zi v514, zi (m600 g0 33 3)] [] [(0, zr g0 27), (1, zi v514), (2, zi (m600 g0 33 3))] i26_109 rfl (by decide) rfl rfl (by omega) rfl rfl (by decide) rfl t58 (Nat.le_of_ble_eq_true rfl) (Nat.le_of_ble_eq_true rfl) rfl ?_
        refine X.aload_n 1 i58_0 rfl rfl rfl ?_
        refine X.dup 2 i58_1 rfl rfl rfl ?_
        refine X.getIr 5 6 i58_2 rfl rfl (by decide) rfl rfl rfl (fun h607 => ?_)
        refine X.iload_n 6 i58_5 rfl rfl rfl ?_
        refine X.iiF 7 .iadd (fun x y => x + y) i58_6 rfl rfl rfl (fun _ _ => rfl) (fun z608 hz608 => ?_)
        refine X.putI' 10 6 i58_7 rfl rfl (by decide) rfl rfl rfl (fun hrm609 m609 hm609 => ?_)
        have hJ610 := w27_3 hJ603 hm609 (by omega) hrm609
        have wt611 : m609 g0 8 9 = ((m522 g0 8 9) + (v514 - 1)) := Eq.trans (by rw [hm609]; exact z_upd_o _ _ rfl) wt604
        have wt612 : m609 g0 8 13 = ((m515 g0 8 13) + v514) := Eq.trans (by rw [hm609]; exact z_upd_o _ _ rfl) wt605
        clear wt604 wt605
        refine X.aload_n 11 i58_10 rfl rfl rfl ?_
        refine X.dup 12 i58_11 rfl rfl rfl ?_
        refine X.getIr 15 8 i58_12 rfl rfl (by decide) rfl rfl rfl (fun h613 => ?_)
        refine X.iload_n 16 i58_15 rfl rfl rfl ?_
        refine X.iiF 17 .ior (fun x y => x ||| y) i58_16 rfl rfl rfl (fun _ _ => rfl) (fun z614 hz614 => ?_)
        refine X.putI' 20 8 i58_17 rfl rfl (by decide) rfl rfl rfl (fun hrm615 m615 hm615 => ?_)
        have hJ616 := w27_3 hJ610 hm615 (by omega) hrm615
        have wt617 : m615 g0 8 9 = ((m522 g0 8 9) + (v514 - 1)) := Eq.trans (by rw [hm615]; exact z_upd_o _ _ rfl) wt611
        have wt618 : m615 g0 8 13 = ((m515 g0 8 13) + v514) := Eq.trans (by rw [hm615]; exact z_upd_o _ _ rfl) wt612
        clear wt611 wt612
        refine X.retv i58_20 rfl t58 ?_
        show X (EE s) d 26 112 [(0, zr g0 8), (1, zi a1), (2, zi v507), (3, zi v511), (4, zi v514)] [] m615 _
        refine X.aload_n 113 i26_112 rfl rfl rfl ?_
        refine X.getI 116 9 i26_113 rfl rfl (by decide) rfl rfl rfl ?_
        have h619 := r8_9 hJ616 g0
        refine X.ldc 118 i26_116 rfl rfl (by decide) ?_
        refine X.icmpge 131 121 i26_118 rfl rfl rfl (fun h620 => ?_) (fun h620 => ?_)
        · refine X.cut [(0, zr g0 8), (2, zi v507), (4, zi v514)] i26_131 rfl ?_
          refine X.aload_n 132 i26_131 rfl rfl rfl ?_
          refine X.iload_n 133 i26_132 rfl rfl rfl ?_
          refine X.callv 136 [zi v507] [] [(0, zr g0 8), (1, zi v507)] i26_133 rfl (by decide) rfl rfl (by omega) rfl rfl (by decide) rfl t59 (Nat.le_of_ble_eq_true rfl) (Nat.le_of_ble_eq_true rfl) rfl ?_
          refine c59_1 (S := zfr [] S) (m0 := m615) (B := B + 7) g0 v507 (by omega) (hJ616.ow.up (by omega)) (by omega) (by omega) (fun m621 hJ622 => ?_)
          have hJ624 := hJ616.trans hJ622 zi_n
          have wt625 : m621 g0 8 9 = ((m522 g0 8 9) + (v514 - 1)) := Eq.trans (hJ622.eq rfl rfl) wt617
          have wt626 : m621 g0 8 13 = ((m515 g0 8 13) + v514) := Eq.trans (hJ622.eq rfl rfl) wt618
          clear wt618
          show X (EE s) d 26 136 [(0, zr g0 8), (2, zi v507), (4, zi v514)] [] m621 _
          refine X.iload 138 i26_136 rfl rfl rfl ?_
          refine X.reti i26_138 rfl t26 ?_
          exact hQ v514 m621 (by first | trivial | omega) (hJ624.up (by omega)) (by omega) (by omega) (by exact ⟨by omega, by omega⟩)
        · refine X.aload_n 122 i26_121 rfl rfl rfl ?_
          refine X.dup 123 i26_122 rfl rfl rfl ?_
          refine X.getI 126 9 i26_123 rfl rfl (by decide) rfl rfl rfl ?_
          refine X.iconst 127 i26_126 rfl rfl (by decide) ?_
          refine X.iadd 128 i26_127 rfl rfl (by omega) ?_
          refine X.putI' 131 9 i26_128 rfl rfl (by decide) rfl rfl rfl (fun hrm627 m627 hm627 => ?_)
          have hJ628 := w8_9 hJ616 hm627 (by omega) hs0
          have wt629 : m627 g0 8 9 = ((m615 g0 8 9) + 1) := by rw [hm627]; exact z_upd_same _ _ _ _ _
          have wt630 : m627 g0 8 13 = ((m515 g0 8 13) + v514) := Eq.trans (by rw [hm627]; exact z_upd_o _ _ rfl) wt618
          clear wt618
          have em627 : m627 g0 8 9 = ((m615 g0 8 9) + 1) := by rw [hm627]; exact z_upd_same _ _ _ _ _
          refine X.cut [(0, zr g0 8), (2, zi v507), (4, zi v514)] i26_131 rfl ?_
          refine X.aload_n 132 i26_131 rfl rfl rfl ?_
          refine X.iload_n 133 i26_132 rfl rfl rfl ?_
          refine X.callv 136 [zi v507] [] [(0, zr g0 8), (1, zi v507)] i26_133 rfl (by decide) rfl rfl (by omega) rfl rfl (by decide) rfl t59 (Nat.le_of_ble_eq_true rfl) (Nat.le_of_ble_eq_true rfl) rfl ?_
          refine c59_1 (S := zfr [] S) (m0 := m627) (B := B + 7) g0 v507 (by omega) (hJ628.ow.up (by omega)) (by omega) (by omega) (fun m631 hJ632 => ?_)
          have hJ634 := hJ628.trans hJ632 zi_n
          have wt635 : m631 g0 8 9 = ((m615 g0 8 9) + 1) := Eq.trans (hJ632.eq rfl rfl) wt629
          have wt636 : m631 g0 8 13 = ((m515 g0 8 13) + v514) := Eq.trans (hJ632.eq rfl rfl) wt630
          clear wt629 wt630
          show X (EE s) d 26 136 [(0, zr g0 8), (2, zi v507), (4, zi v514)] [] m631 _
          refine X.iload 138 i26_136 rfl rfl rfl ?_
          refine X.reti i26_138 rfl t26 ?_
          exact hQ v514 m631 (by first | trivial | omega) (hJ634.up (by omega)) (by omega) (by omega) (by exact ⟨by omega, by omega⟩)
      · refine X.bipush 45 i53_43 rfl rfl (by decide) ?_
        refine X.goto 50 i53_45 rfl rfl ?_
        refine X.cut [] i53_50 rfl ?_
        refine X.iconst 51 i53_50 rfl rfl (by decide) ?_
        refine X.callv 54 [zi 22, zi 0] [] [(0, zr g0 8), (1, zi 22), (2, zi 0)] i53_51 rfl (by decide) rfl rfl (by omega) rfl rfl (by decide) rfl t54 (Nat.le_of_ble_eq_true rfl) (Nat.le_of_ble_eq_true rfl) rfl ?_
        refine X.aload_n 1 i54_0 rfl rfl rfl ?_
        refine X.getR 4 i54_1 rfl rfl (by decide) rfl rfl ?_
        refine X.aload_n 5 i54_4 rfl rfl rfl ?_
        refine X.getI 8 9 i54_5 rfl rfl (by decide) rfl rfl rfl ?_
        have h637 := r8_9 hJ574 g0
        refine X.iload_n 9 i54_8 rfl rfl rfl ?_
        refine X.iload_n 10 i54_9 rfl rfl rfl ?_
        refine X.callv 13 [zi (m573 g0 8 9), zi 22, zi 0] [] [(0, zr g0 37), (1, zi (m573 g0 8 9)), (2, zi 22), (3, zi 0)] i54_10 rfl (by decide) rfl rfl (by omega) rfl rfl (by decide) rfl t55 (Nat.le_of_ble_eq_true rfl) (Nat.le_of_ble_eq_true rfl) rfl ?_
        refine X.aload_n 1 i55_0 rfl rfl rfl ?_
        refine X.getI 4 1 i55_1 rfl rfl (by decide) rfl rfl rfl ?_
        have h638 := r37_1 hJ574 g0
        refine X.bipush 6 i55_4 rfl rfl (by decide) ?_
        refine X.irem 7 i55_6 rfl rfl (by omega) ?_
        refine X.iconst 8 i55_7 rfl rfl (by decide) ?_
        refine X.imul 9 i55_8 rfl rfl (by omega) ?_
        refine X.istore 11 [(0, zr g0 37), (1, zi (m573 g0 8 9)), (2, zi 22), (3, zi 0), (4, zi (((m573 g0 37 1) % 40) * 3))] i55_9 rfl rfl rfl ?_
        refine X.aload_n 12 i55_11 rfl rfl rfl ?_
        refine X.getR 15 i55_12 rfl rfl (by decide) rfl rfl ?_
        refine X.iload 17 i55_15 rfl rfl rfl ?_
        refine X.iload_n 18 i55_17 rfl rfl rfl ?_
        refine X.iast' 19 i55_18 rfl rfl (by decide) rfl (by omega) (fun hrm639 m639 hm639 => ?_)
        have hJ640 := w38_0 hJ574 hm639 (by omega) hrm639
        have wt641 : m639 g0 8 9 = ((m522 g0 8 9) + (v514 - 1)) := Eq.trans (by rw [hm639]; exact z_upd_o _ _ rfl) wt575
        have wt642 : m639 g0 8 13 = ((m515 g0 8 13) + v514) := Eq.trans (by rw [hm639]; exact z_upd_o _ _ rfl) wt576
        clear wt576
        refine X.aload_n 20 i55_19 rfl rfl rfl ?_
        refine X.getR 23 i55_20 rfl rfl (by decide) rfl rfl ?_
        refine X.iload 25 i55_23 rfl rfl rfl ?_
        refine X.iconst 26 i55_25 rfl rfl (by decide) ?_
        refine X.iadd 27 i55_26 rfl rfl (by omega) ?_
        refine X.iload_n 28 i55_27 rfl rfl rfl ?_
        refine X.iast' 29 i55_28 rfl rfl (by decide) rfl (by omega) (fun hrm643 m643 hm643 => ?_)
        have hJ644 := w38_0 hJ640 hm643 (by omega) hrm643
        have wt645 : m643 g0 8 9 = ((m522 g0 8 9) + (v514 - 1)) := Eq.trans (by rw [hm643]; exact z_upd_o _ _ rfl) wt641
        have wt646 : m643 g0 8 13 = ((m515 g0 8 13) + v514) := Eq.trans (by rw [hm643]; exact z_upd_o _ _ rfl) wt642
        clear wt641 wt642
        refine X.aload_n 30 i55_29 rfl rfl rfl ?_
        refine X.getR 33 i55_30 rfl rfl (by decide) rfl rfl ?_
        refine X.iload 35 i55_33 rfl rfl rfl ?_
        refine X.iconst 36 i55_35 rfl rfl (by decide) ?_
        refine X.iadd 37 i55_36 rfl rfl (by omega) ?_
        refine X.iload_n 38 i55_37 rfl rfl rfl ?_
        refine X.iast' 39 i55_38 rfl rfl (by decide) rfl (by omega) (fun hrm647 m647 hm647 => ?_)
        have hJ648 := w38_0 hJ644 hm647 (by omega) hrm647
        have wt649 : m647 g0 8 9 = ((m522 g0 8 9) + (v514 - 1)) := Eq.trans (by rw [hm647]; exact z_upd_o _ _ rfl) wt645
        have wt650 : m647 g0 8 13 = ((m515 g0 8 13) + v514) := Eq.trans (by rw [hm647]; exact z_upd_o _ _ rfl) wt646
        clear wt645 wt646
        refine X.aload_n 40 i55_39 rfl rfl rfl ?_
        refine X.dup 41 i55_40 rfl rfl rfl ?_
        refine X.getI 44 1 i55_41 rfl rfl (by decide) rfl rfl rfl ?_
        have h651 := r37_1 hJ648 g0
        refine X.iconst 45 i55_44 rfl rfl (by decide) ?_
        refine X.iadd 46 i55_45 rfl rfl (by omega) ?_
        refine X.putI' 49 1 i55_46 rfl rfl (by decide) rfl rfl rfl (fun hrm652 m652 hm652 => ?_)
        have hJ653 := w37_1 (hJ648.up (B' := B + 1) (by omega)) hm652 (by omega)
        have wt654 : m652 g0 8 9 = ((m522 g0 8 9) + (v514 - 1)) := Eq.trans (by rw [hm652]; exact z_upd_o _ _ rfl) wt649
        have wt655 : m652 g0 8 13 = ((m515 g0 8 13) + v514) := Eq.trans (by rw [hm652]; exact z_upd_o _ _ rfl) wt650
        clear wt649 wt650
        refine X.retv i55_49 rfl t55 ?_
        show X (EE s) ((d - 1) - 1) 54 13 [(0, zr g0 8), (1, zi 22), (2, zi 0)] [] m652 _
        refine X.retv i54_13 rfl t54 ?_
        show X (EE s) (d - 1) 53 54 [] [] m652 _
        refine X.retv i53_54 rfl t53 ?_
        show X (EE s) d 26 71 [(0, zr g0 8), (1, zi a1), (2, zi v507), (3, zi v511), (4, zi v514)] [] m652 _
        refine X.aload_n 72 i26_71 rfl rfl rfl ?_
        refine X.getR 75 i26_72 rfl rfl (by decide) rfl rfl ?_
        refine X.iload 77 i26_75 rfl rfl rfl ?_
        refine X.iload_n 78 i26_77 rfl rfl rfl ?_
        refine X.aload_n 79 i26_78 rfl rfl rfl ?_
        refine X.getR 82 i26_79 rfl rfl (by decide) rfl rfl ?_
        refine X.callv 85 [] [zi v511, zi v514, zr g0 33] [(0, zr g0 9)] i26_82 rfl (by decide) rfl rfl (by omega) rfl rfl (by decide) rfl t38 (Nat.le_of_ble_eq_true rfl) (Nat.le_of_ble_eq_true rfl) rfl ?_
        refine X.aload_n 1 i38_0 rfl rfl rfl ?_
        refine X.getR 4 i38_1 rfl rfl (by decide) rfl rfl ?_
        refine X.iconst 5 i38_4 rfl rfl (by decide) ?_
        refine X.iald 6 i38_5 rfl rfl (by decide) rfl (by omega) ?_
        have h656 := r10_0 hJ653 g0 (i := 3) (by omega)
        refine X.reti i38_6 rfl t38 ?_
        show X (EE s) d 26 85 [(0, zr g0 8), (1, zi a1), (2, zi v507), (3, zi v511), (4, zi v514)] [zi (m652 g0 10 3), zi v511, zi v514, zr g0 33] m652 _
        refine X.aload_n 86 i26_85 rfl rfl rfl ?_
        refine X.getR 89 i26_86 rfl rfl (by decide) rfl rfl ?_
        refine X.aload_n 90 i26_89 rfl rfl rfl ?_
        refine X.getI 93 9 i26_90 rfl rfl (by decide) rfl rfl rfl ?_
        have h657 := r8_9 hJ653 g0
        refine X.callv 96 [zi v514, zi v511, zi (m652 g0 10 3), zr g0 37, zi (m652 g0 8 9)] [] [(0, zr g0 33), (1, zi v514), (2, zi v511), (3, zi (m652 g0 10 3)), (4, zr g0 37), (5, zi (m652 g0 8 9))] i26_93 rfl (by decide) rfl rfl (by omega) rfl rfl (by decide) rfl t56 (Nat.le_of_ble_eq_true rfl) (Nat.le_of_ble_eq_true rfl) rfl ?_
        refine c56_1 (S := zfr [] S) (m0 := m652) (B := B + 1) g0 g0 v514 v511 (m652 g0 10 3) (m652 g0 8 9) (by omega) (hJ653.ow.up (by omega)) (by omega) (by omega) (by omega) (by omega) (by omega) (fun m658 hJ659 => ?_)
        have hJ661 := hJ653.trans hJ659 zi_n
        have wt662 : m658 g0 8 9 = ((m522 g0 8 9) + (v514 - 1)) := Eq.trans (hJ659.eq rfl rfl) wt654
        have wt663 : m658 g0 8 13 = ((m515 g0 8 13) + v514) := Eq.trans (hJ659.eq rfl rfl) wt655
        clear wt655
        show X (EE s) d 26 96 [(0, zr g0 8), (1, zi a1), (2, zi v507), (3, zi v511), (4, zi v514)] [] m658 _
        refine X.aload_n 97 i26_96 rfl rfl rfl ?_
        refine X.getR 100 i26_97 rfl rfl (by decide) rfl rfl ?_
        refine X.iload 102 i26_100 rfl rfl rfl ?_
        refine X.aload_n 103 i26_102 rfl rfl rfl ?_
        refine X.getR 106 i26_103 rfl rfl (by decide) rfl rfl ?_
        refine X.getIr 109 3 i26_106 rfl rfl (by decide) rfl rfl rfl (fun h664 => ?_)
        refine X.callv 112 [zi v514, zi (m658 g0 33 3)] [] [(0, zr g0 27), (1, zi v514), (2, zi (m658 g0 33 3))] i26_109 rfl (by decide) rfl rfl (by omega) rfl rfl (by decide) rfl t58 (Nat.le_of_ble_eq_true rfl) (Nat.le_of_ble_eq_true rfl) rfl ?_
        refine X.aload_n 1 i58_0 rfl rfl rfl ?_
        refine X.dup 2 i58_1 rfl rfl rfl ?_
        refine X.getIr 5 6 i58_2 rfl rfl (by decide) rfl rfl rfl (fun h665 => ?_)
        refine X.iload_n 6 i58_5 rfl rfl rfl ?_
        refine X.iiF 7 .iadd (fun x y => x + y) i58_6 rfl rfl rfl (fun _ _ => rfl) (fun z666 hz666 => ?_)
        refine X.putI' 10 6 i58_7 rfl rfl (by decide) rfl rfl rfl (fun hrm667 m667 hm667 => ?_)
        have hJ668 := w27_3 hJ661 hm667 (by omega) hrm667
        have wt669 : m667 g0 8 9 = ((m522 g0 8 9) + (v514 - 1)) := Eq.trans (by rw [hm667]; exact z_upd_o _ _ rfl) wt662
        have wt670 : m667 g0 8 13 = ((m515 g0 8 13) + v514) := Eq.trans (by rw [hm667]; exact z_upd_o _ _ rfl) wt663
        clear wt662 wt663
        refine X.aload_n 11 i58_10 rfl rfl rfl ?_
        refine X.dup 12 i58_11 rfl rfl rfl ?_
        refine X.getIr 15 8 i58_12 rfl rfl (by decide) rfl rfl rfl (fun h671 => ?_)
        refine X.iload_n 16 i58_15 rfl rfl rfl ?_
        refine X.iiF 17 .ior (fun x y => x ||| y) i58_16 rfl rfl rfl (fun _ _ => rfl) (fun z672 hz672 => ?_)
        refine X.putI' 20 8 i58_17 rfl rfl (by decide) rfl rfl rfl (fun hrm673 m673 hm673 => ?_)
        have hJ674 := w27_3 hJ668 hm673 (by omega) hrm673
        have wt675 : m673 g0 8 9 = ((m522 g0 8 9) + (v514 - 1)) := Eq.trans (by rw [hm673]; exact z_upd_o _ _ rfl) wt669
        have wt676 : m673 g0 8 13 = ((m515 g0 8 13) + v514) := Eq.trans (by rw [hm673]; exact z_upd_o _ _ rfl) wt670
        clear wt669 wt670
        refine X.retv i58_20 rfl t58 ?_
        show X (EE s) d 26 112 [(0, zr g0 8), (1, zi a1), (2, zi v507), (3, zi v511), (4, zi v514)] [] m673 _
        refine X.aload_n 113 i26_112 rfl rfl rfl ?_
        refine X.getI 116 9 i26_113 rfl rfl (by decide) rfl rfl rfl ?_
        have h677 := r8_9 hJ674 g0
        refine X.ldc 118 i26_116 rfl rfl (by decide) ?_
        refine X.icmpge 131 121 i26_118 rfl rfl rfl (fun h678 => ?_) (fun h678 => ?_)
        · refine X.cut [(0, zr g0 8), (2, zi v507), (4, zi v514)] i26_131 rfl ?_
          refine X.aload_n 132 i26_131 rfl rfl rfl ?_
          refine X.iload_n 133 i26_132 rfl rfl rfl ?_
          refine X.callv 136 [zi v507] [] [(0, zr g0 8), (1, zi v507)] i26_133 rfl (by decide) rfl rfl (by omega) rfl rfl (by decide) rfl t59 (Nat.le_of_ble_eq_true rfl) (Nat.le_of_ble_eq_true rfl) rfl ?_
          refine c59_1 (S := zfr [] S) (m0 := m673) (B := B + 7) g0 v507 (by omega) (hJ674.ow.up (by omega)) (by omega) (by omega) (fun m679 hJ680 => ?_)
          have hJ682 := hJ674.trans hJ680 zi_n
          have wt683 : m679 g0 8 9 = ((m522 g0 8 9) + (v514 - 1)) := Eq.trans (hJ680.eq rfl rfl) wt675
          have wt684 : m679 g0 8 13 = ((m515 g0 8 13) + v514) := Eq.trans (hJ680.eq rfl rfl) wt676
          clear wt676
          show X (EE s) d 26 136 [(0, zr g0 8), (2, zi v507), (4, zi v514)] [] m679 _
          refine X.iload 138 i26_136 rfl rfl rfl ?_
          refine X.reti i26_138 rfl t26 ?_
          exact hQ v514 m679 (by first | trivial | omega) (hJ682.up (by omega)) (by omega) (by omega) (by exact ⟨by omega, by omega⟩)
        · refine X.aload_n 122 i26_121 rfl rfl rfl ?_
          refine X.dup 123 i26_122 rfl rfl rfl ?_
          refine X.getI 126 9 i26_123 rfl rfl (by decide) rfl rfl rfl ?_
          refine X.iconst 127 i26_126 rfl rfl (by decide) ?_
          refine X.iadd 128 i26_127 rfl rfl (by omega) ?_
          refine X.putI' 131 9 i26_128 rfl rfl (by decide) rfl rfl rfl (fun hrm685 m685 hm685 => ?_)
          have hJ686 := w8_9 hJ674 hm685 (by omega) hs0
          have wt687 : m685 g0 8 9 = ((m673 g0 8 9) + 1) := by rw [hm685]; exact z_upd_same _ _ _ _ _
          have wt688 : m685 g0 8 13 = ((m515 g0 8 13) + v514) := Eq.trans (by rw [hm685]; exact z_upd_o _ _ rfl) wt676
          clear wt676
          have em685 : m685 g0 8 9 = ((m673 g0 8 9) + 1) := by rw [hm685]; exact z_upd_same _ _ _ _ _
          refine X.cut [(0, zr g0 8), (2, zi v507), (4, zi v514)] i26_131 rfl ?_
          refine X.aload_n 132 i26_131 rfl rfl rfl ?_
          refine X.iload_n 133 i26_132 rfl rfl rfl ?_
          refine X.callv 136 [zi v507] [] [(0, zr g0 8), (1, zi v507)] i26_133 rfl (by decide) rfl rfl (by omega) rfl rfl (by decide) rfl t59 (Nat.le_of_ble_eq_true rfl) (Nat.le_of_ble_eq_true rfl) rfl ?_
          refine c59_1 (S := zfr [] S) (m0 := m685) (B := B + 7) g0 v507 (by omega) (hJ686.ow.up (by omega)) (by omega) (by omega) (fun m689 hJ690 => ?_)
          have hJ692 := hJ686.trans hJ690 zi_n
          have wt693 : m689 g0 8 9 = ((m673 g0 8 9) + 1) := Eq.trans (hJ690.eq rfl rfl) wt687
          have wt694 : m689 g0 8 13 = ((m515 g0 8 13) + v514) := Eq.trans (hJ690.eq rfl rfl) wt688
          clear wt687 wt688
          show X (EE s) d 26 136 [(0, zr g0 8), (2, zi v507), (4, zi v514)] [] m689 _
          refine X.iload 138 i26_136 rfl rfl rfl ?_
          refine X.reti i26_138 rfl t26 ?_
          exact hQ v514 m689 (by first | trivial | omega) (hJ692.up (by omega)) (by omega) (by omega) (by exact ⟨by omega, by omega⟩)
  · refine X.aload_n 8 i53_7 rfl rfl rfl ?_
    refine X.getL 11 10 i53_8 rfl rfl (by decide) rfl rfl rfl ?_
    refine X.lconst (y := 0) 12 i53_11 rfl rfl rfl ?_
    refine X.lcmp 13 i53_12 rfl rfl (fun z695 hz695 => ?_)
    refine X.ifgt 20 16 i53_13 rfl rfl rfl (fun h696 => ?_) (fun h696 => ?_)
    · have h696c : (m527 g0 8 10) > 0 := by omega
      clear h696 hz695
      refine X.iconst 21 i53_20 rfl rfl (by decide) ?_
      refine X.istore_n 22 [(0, zr g0 8), (1, zi 0)] i53_21 rfl rfl rfl ?_
      refine X.iload_n 23 i53_22 rfl rfl rfl ?_
      refine X.aload_n 24 i53_23 rfl rfl rfl ?_
      refine X.getZ 27 12 i53_24 rfl rfl (by decide) rfl rfl rfl (fun h697 => ?_)
      refine X.icmpeq 54 30 i53_27 rfl rfl rfl (fun h698 => ?_) (fun h698 => ?_)
      · refine X.cut [] i53_54 rfl ?_
        refine X.retv i53_54 rfl t53 ?_
        show X (EE s) d 26 71 [(0, zr g0 8), (1, zi a1), (2, zi v507), (3, zi v511), (4, zi v514)] [] m527 _
        refine X.aload_n 72 i26_71 rfl rfl rfl ?_
        refine X.getR 75 i26_72 rfl rfl (by decide) rfl rfl ?_
        refine X.iload 77 i26_75 rfl rfl rfl ?_
        refine X.iload_n 78 i26_77 rfl rfl rfl ?_
        refine X.aload_n 79 i26_78 rfl rfl rfl ?_
        refine X.getR 82 i26_79 rfl rfl (by decide) rfl rfl ?_
        refine X.callv 85 [] [zi v511, zi v514, zr g0 33] [(0, zr g0 9)] i26_82 rfl (by decide) rfl rfl (by omega) rfl rfl (by decide) rfl t38 (Nat.le_of_ble_eq_true rfl) (Nat.le_of_ble_eq_true rfl) rfl ?_
        refine X.aload_n 1 i38_0 rfl rfl rfl ?_
        refine X.getR 4 i38_1 rfl rfl (by decide) rfl rfl ?_
        refine X.iconst 5 i38_4 rfl rfl (by decide) ?_
        refine X.iald 6 i38_5 rfl rfl (by decide) rfl (by omega) ?_
        have h699 := r10_0 hJ528 g0 (i := 3) (by omega)
        refine X.reti i38_6 rfl t38 ?_
        show X (EE s) d 26 85 [(0, zr g0 8), (1, zi a1), (2, zi v507), (3, zi v511), (4, zi v514)] [zi (m527 g0 10 3), zi v511, zi v514, zr g0 33] m527 _
        refine X.aload_n 86 i26_85 rfl rfl rfl ?_
        refine X.getR 89 i26_86 rfl rfl (by decide) rfl rfl ?_
        refine X.aload_n 90 i26_89 rfl rfl rfl ?_
        refine X.getI 93 9 i26_90 rfl rfl (by decide) rfl rfl rfl ?_
        refine X.callv 96 [zi v514, zi v511, zi (m527 g0 10 3), zr g0 37, zi (m527 g0 8 9)] [] [(0, zr g0 33), (1, zi v514), (2, zi v511), (3, zi (m527 g0 10 3)), (4, zr g0 37), (5, zi (m527 g0 8 9))] i26_93 rfl (by decide) rfl rfl (by omega) rfl rfl (by decide) rfl t56 (Nat.le_of_ble_eq_true rfl) (Nat.le_of_ble_eq_true rfl) rfl ?_
        refine c56_1 (S := zfr [] S) (m0 := m527) (B := B) g0 g0 v514 v511 (m527 g0 10 3) (m527 g0 8 9) (by omega) (hJ528.ow.up (by omega)) (by omega) (by omega) (by omega) (by omega) (by omega) (fun m700 hJ701 => ?_)
        have hJ703 := hJ528.trans hJ701 zi_n
        have wt704 : m700 g0 8 9 = ((m522 g0 8 9) + (v514 - 1)) := Eq.trans (hJ701.eq rfl rfl) wt529
        have wt705 : m700 g0 8 13 = ((m515 g0 8 13) + v514) := Eq.trans (hJ701.eq rfl rfl) wt530
        clear wt530
        show X (EE s) d 26 96 [(0, zr g0 8), (1, zi a1), (2, zi v507), (3, zi v511), (4, zi v514)] [] m700 _
        refine X.aload_n 97 i26_96 rfl rfl rfl ?_
        refine X.getR 100 i26_97 rfl rfl (by decide) rfl rfl ?_
        refine X.iload 102 i26_100 rfl rfl rfl ?_
        refine X.aload_n 103 i26_102 rfl rfl rfl ?_
        refine X.getR 106 i26_103 rfl rfl (by decide) rfl rfl ?_
        refine X.getIr 109 3 i26_106 rfl rfl (by decide) rfl rfl rfl (fun h706 => ?_)
        refine X.callv 112 [zi v514, zi (m700 g0 33 3)] [] [(0, zr g0 27), (1, zi v514), (2, zi (m700 g0 33 3))] i26_109 rfl (by decide) rfl rfl (by omega) rfl rfl (by decide) rfl t58 (Nat.le_of_ble_eq_true rfl) (Nat.le_of_ble_eq_true rfl) rfl ?_
        refine X.aload_n 1 i58_0 rfl rfl rfl ?_
        refine X.dup 2 i58_1 rfl rfl rfl ?_
        refine X.getIr 5 6 i58_2 rfl rfl (by decide) rfl rfl rfl (fun h707 => ?_)
        refine X.iload_n 6 i58_5 rfl rfl rfl ?_
        refine X.iiF 7 .iadd (fun x y => x + y) i58_6 rfl rfl rfl (fun _ _ => rfl) (fun z708 hz708 => ?_)
        refine X.putI' 10 6 i58_7 rfl rfl (by decide) rfl rfl rfl (fun hrm709 m709 hm709 => ?_)
        have hJ710 := w27_3 hJ703 hm709 (by omega) hrm709
        have wt711 : m709 g0 8 9 = ((m522 g0 8 9) + (v514 - 1)) := Eq.trans (by rw [hm709]; exact z_upd_o _ _ rfl) wt704
        have wt712 : m709 g0 8 13 = ((m515 g0 8 13) + v514) := Eq.trans (by rw [hm709]; exact z_upd_o _ _ rfl) wt705
        clear wt704 wt705
        refine X.aload_n 11 i58_10 rfl rfl rfl ?_
        refine X.dup 12 i58_11 rfl rfl rfl ?_
        refine X.getIr 15 8 i58_12 rfl rfl (by decide) rfl rfl rfl (fun h713 => ?_)
        refine X.iload_n 16 i58_15 rfl rfl rfl ?_
        refine X.iiF 17 .ior (fun x y => x ||| y) i58_16 rfl rfl rfl (fun _ _ => rfl) (fun z714 hz714 => ?_)
        refine X.putI' 20 8 i58_17 rfl rfl (by decide) rfl rfl rfl (fun hrm715 m715 hm715 => ?_)
        have hJ716 := w27_3 hJ710 hm715 (by omega) hrm715
        have wt717 : m715 g0 8 9 = ((m522 g0 8 9) + (v514 - 1)) := Eq.trans (by rw [hm715]; exact z_upd_o _ _ rfl) wt711
        have wt718 : m715 g0 8 13 = ((m515 g0 8 13) + v514) := Eq.trans (by rw [hm715]; exact z_upd_o _ _ rfl) wt712
        clear wt711 wt712
        refine X.retv i58_20 rfl t58 ?_
        show X (EE s) d 26 112 [(0, zr g0 8), (1, zi a1), (2, zi v507), (3, zi v511), (4, zi v514)] [] m715 _
        refine X.aload_n 113 i26_112 rfl rfl rfl ?_
        refine X.getI 116 9 i26_113 rfl rfl (by decide) rfl rfl rfl ?_
        have h719 := r8_9 hJ716 g0
        refine X.ldc 118 i26_116 rfl rfl (by decide) ?_
        refine X.icmpge 131 121 i26_118 rfl rfl rfl (fun h720 => ?_) (fun h720 => ?_)
        · refine X.cut [(0, zr g0 8), (2, zi v507), (4, zi v514)] i26_131 rfl ?_
          refine X.aload_n 132 i26_131 rfl rfl rfl ?_
          refine X.iload_n 133 i26_132 rfl rfl rfl ?_
          refine X.callv 136 [zi v507] [] [(0, zr g0 8), (1, zi v507)] i26_133 rfl (by decide) rfl rfl (by omega) rfl rfl (by decide) rfl t59 (Nat.le_of_ble_eq_true rfl) (Nat.le_of_ble_eq_true rfl) rfl ?_
          refine c59_1 (S := zfr [] S) (m0 := m715) (B := B + 6) g0 v507 (by omega) (hJ716.ow.up (by omega)) (by omega) (by omega) (fun m721 hJ722 => ?_)
          have hJ724 := hJ716.trans hJ722 zi_n
          have wt725 : m721 g0 8 9 = ((m522 g0 8 9) + (v514 - 1)) := Eq.trans (hJ722.eq rfl rfl) wt717
          have wt726 : m721 g0 8 13 = ((m515 g0 8 13) + v514) := Eq.trans (hJ722.eq rfl rfl) wt718
          clear wt718
          show X (EE s) d 26 136 [(0, zr g0 8), (2, zi v507), (4, zi v514)] [] m721 _
          refine X.iload 138 i26_136 rfl rfl rfl ?_
          refine X.reti i26_138 rfl t26 ?_
          exact hQ v514 m721 (by first | trivial | omega) (hJ724.up (by omega)) (by omega) (by omega) (by exact ⟨by omega, by omega⟩)
        · refine X.aload_n 122 i26_121 rfl rfl rfl ?_
          refine X.dup 123 i26_122 rfl rfl rfl ?_
          refine X.getI 126 9 i26_123 rfl rfl (by decide) rfl rfl rfl ?_
          refine X.iconst 127 i26_126 rfl rfl (by decide) ?_
          refine X.iadd 128 i26_127 rfl rfl (by omega) ?_
          refine X.putI' 131 9 i26_128 rfl rfl (by decide) rfl rfl rfl (fun hrm727 m727 hm727 => ?_)
          have hJ728 := w8_9 hJ716 hm727 (by omega) hs0
          have wt729 : m727 g0 8 9 = ((m715 g0 8 9) + 1) := by rw [hm727]; exact z_upd_same _ _ _ _ _
          have wt730 : m727 g0 8 13 = ((m515 g0 8 13) + v514) := Eq.trans (by rw [hm727]; exact z_upd_o _ _ rfl) wt718
          clear wt718
          have em727 : m727 g0 8 9 = ((m715 g0 8 9) + 1) := by rw [hm727]; exact z_upd_same _ _ _ _ _
          refine X.cut [(0, zr g0 8), (2, zi v507), (4, zi v514)] i26_131 rfl ?_
          refine X.aload_n 132 i26_131 rfl rfl rfl ?_
          refine X.iload_n 133 i26_132 rfl rfl rfl ?_
          refine X.callv 136 [zi v507] [] [(0, zr g0 8), (1, zi v507)] i26_133 rfl (by decide) rfl rfl (by omega) rfl rfl (by decide) rfl t59 (Nat.le_of_ble_eq_true rfl) (Nat.le_of_ble_eq_true rfl) rfl ?_
          refine c59_1 (S := zfr [] S) (m0 := m727) (B := B + 6) g0 v507 (by omega) (hJ728.ow.up (by omega)) (by omega) (by omega) (fun m731 hJ732 => ?_)
          have hJ734 := hJ728.trans hJ732 zi_n
          have wt735 : m731 g0 8 9 = ((m715 g0 8 9) + 1) := Eq.trans (hJ732.eq rfl rfl) wt729
          have wt736 : m731 g0 8 13 = ((m515 g0 8 13) + v514) := Eq.trans (hJ732.eq rfl rfl) wt730
          clear wt729 wt730
          show X (EE s) d 26 136 [(0, zr g0 8), (2, zi v507), (4, zi v514)] [] m731 _
          refine X.iload 138 i26_136 rfl rfl rfl ?_
          refine X.reti i26_138 rfl t26 ?_
          exact hQ v514 m731 (by first | trivial | omega) (hJ734.up (by omega)) (by omega) (by omega) (by exact ⟨by omega, by omega⟩)
      · refine X.aload_n 31 i53_30 rfl rfl rfl ?_
        refine X.iload_n 32 i53_31 rfl rfl rfl ?_
        refine X.putZ' 35 12 i53_32 rfl rfl (by decide) rfl rfl rfl (by omega) (fun hrm737 m737 hm737 => ?_)
        have hJ738 := w8_12 hJ528 hm737 (by omega)
        have wt739 : m737 g0 8 9 = ((m522 g0 8 9) + (v514 - 1)) := Eq.trans (by rw [hm737]; exact z_upd_o _ _ rfl) wt529
        have wt740 : m737 g0 8 13 = ((m515 g0 8 13) + v514) := Eq.trans (by rw [hm737]; exact z_upd_o _ _ rfl) wt530
        clear wt529 wt530
        refine X.aload_n 36 i53_35 rfl rfl rfl ?_
        refine X.aload_n 37 i53_36 rfl rfl rfl ?_
        refine X.getZ 40 12 i53_37 rfl rfl (by decide) rfl rfl rfl (fun h741 => ?_)
        refine X.ifeq 48 43 i53_40 rfl rfl rfl (fun h742 => ?_) (fun h742 => ?_)
        · refine X.cut [] i53_48 rfl ?_
          refine X.bipush 50 i53_48 rfl rfl (by decide) ?_
          refine X.iconst 51 i53_50 rfl rfl (by decide) ?_
          refine X.callv 54 [zi 23, zi 0] [] [(0, zr g0 8), (1, zi 23), (2, zi 0)] i53_51 rfl (by decide) rfl rfl (by omega) rfl rfl (by decide) rfl t54 (Nat.le_of_ble_eq_true rfl) (Nat.le_of_ble_eq_true rfl) rfl ?_
          refine X.aload_n 1 i54_0 rfl rfl rfl ?_
          refine X.getR 4 i54_1 rfl rfl (by decide) rfl rfl ?_
          refine X.aload_n 5 i54_4 rfl rfl rfl ?_
          refine X.getI 8 9 i54_5 rfl rfl (by decide) rfl rfl rfl ?_
          have h743 := r8_9 hJ738 g0
          refine X.iload_n 9 i54_8 rfl rfl rfl ?_
          refine X.iload_n 10 i54_9 rfl rfl rfl ?_
          refine X.callv 13 [zi (m737 g0 8 9), zi 23, zi 0] [] [(0, zr g0 37), (1, zi (m737 g0 8 9)), (2, zi 23), (3, zi 0)] i54_10 rfl (by decide) rfl rfl (by omega) rfl rfl (by decide) rfl t55 (Nat.le_of_ble_eq_true rfl) (Nat.le_of_ble_eq_true rfl) rfl ?_
          refine X.aload_n 1 i55_0 rfl rfl rfl ?_
          refine X.getI 4 1 i55_1 rfl rfl (by decide) rfl rfl rfl ?_
          have h744 := r37_1 hJ738 g0
          refine X.bipush 6 i55_4 rfl rfl (by decide) ?_
          refine X.irem 7 i55_6 rfl rfl (by omega) ?_
          refine X.iconst 8 i55_7 rfl rfl (by decide) ?_
          refine X.imul 9 i55_8 rfl rfl (by omega) ?_
          refine X.istore 11 [(0, zr g0 37), (1, zi (m737 g0 8 9)), (2, zi 23), (3, zi 0), (4, zi (((m737 g0 37 1) % 40) * 3))] i55_9 rfl rfl rfl ?_
          refine X.aload_n 12 i55_11 rfl rfl rfl ?_
          refine X.getR 15 i55_12 rfl rfl (by decide) rfl rfl ?_
          refine X.iload 17 i55_15 rfl rfl rfl ?_
          refine X.iload_n 18 i55_17 rfl rfl rfl ?_
          refine X.iast' 19 i55_18 rfl rfl (by decide) rfl (by omega) (fun hrm745 m745 hm745 => ?_)
          have hJ746 := w38_0 hJ738 hm745 (by omega) hrm745
          have wt747 : m745 g0 8 9 = ((m522 g0 8 9) + (v514 - 1)) := Eq.trans (by rw [hm745]; exact z_upd_o _ _ rfl) wt739
          have wt748 : m745 g0 8 13 = ((m515 g0 8 13) + v514) := Eq.trans (by rw [hm745]; exact z_upd_o _ _ rfl) wt740
          clear wt740
          refine X.aload_n 20 i55_19 rfl rfl rfl ?_
          refine X.getR 23 i55_20 rfl rfl (by decide) rfl rfl ?_
          refine X.iload 25 i55_23 rfl rfl rfl ?_
          refine X.iconst 26 i55_25 rfl rfl (by decide) ?_
          refine X.iadd 27 i55_26 rfl rfl (by omega) ?_
          refine X.iload_n 28 i55_27 rfl rfl rfl ?_
          refine X.iast' 29 i55_28 rfl rfl (by decide) rfl (by omega) (fun hrm749 m749 hm749 => ?_)
          have hJ750 := w38_0 hJ746 hm749 (by omega) hrm749
          have wt751 : m749 g0 8 9 = ((m522 g0 8 9) + (v514 - 1)) := Eq.trans (by rw [hm749]; exact z_upd_o _ _ rfl) wt747
          have wt752 : m749 g0 8 13 = ((m515 g0 8 13) + v514) := Eq.trans (by rw [hm749]; exact z_upd_o _ _ rfl) wt748
          clear wt747 wt748
          refine X.aload_n 30 i55_29 rfl rfl rfl ?_
          refine X.getR 33 i55_30 rfl rfl (by decide) rfl rfl ?_
          refine X.iload 35 i55_33 rfl rfl rfl ?_
          refine X.iconst 36 i55_35 rfl rfl (by decide) ?_
          refine X.iadd 37 i55_36 rfl rfl (by omega) ?_
          refine X.iload_n 38 i55_37 rfl rfl rfl ?_
          refine X.iast' 39 i55_38 rfl rfl (by decide) rfl (by omega) (fun hrm753 m753 hm753 => ?_)
          have hJ754 := w38_0 hJ750 hm753 (by omega) hrm753
          have wt755 : m753 g0 8 9 = ((m522 g0 8 9) + (v514 - 1)) := Eq.trans (by rw [hm753]; exact z_upd_o _ _ rfl) wt751
          have wt756 : m753 g0 8 13 = ((m515 g0 8 13) + v514) := Eq.trans (by rw [hm753]; exact z_upd_o _ _ rfl) wt752
          clear wt751 wt752
          refine X.aload_n 40 i55_39 rfl rfl rfl ?_
          refine X.dup 41 i55_40 rfl rfl rfl ?_
          refine X.getI 44 1 i55_41 rfl rfl (by decide) rfl rfl rfl ?_
          have h757 := r37_1 hJ754 g0
          refine X.iconst 45 i55_44 rfl rfl (by decide) ?_
          refine X.iadd 46 i55_45 rfl rfl (by omega) ?_
          refine X.putI' 49 1 i55_46 rfl rfl (by decide) rfl rfl rfl (fun hrm758 m758 hm758 => ?_)
          have hJ759 := w37_1 (hJ754.up (B' := B + 1) (by omega)) hm758 (by omega)
          have wt760 : m758 g0 8 9 = ((m522 g0 8 9) + (v514 - 1)) := Eq.trans (by rw [hm758]; exact z_upd_o _ _ rfl) wt755
          have wt761 : m758 g0 8 13 = ((m515 g0 8 13) + v514) := Eq.trans (by rw [hm758]; exact z_upd_o _ _ rfl) wt756
          clear wt755 wt756
          refine X.retv i55_49 rfl t55 ?_
          show X (EE s) ((d - 1) - 1) 54 13 [(0, zr g0 8), (1, zi 23), (2, zi 0)] [] m758 _
          refine X.retv i54_13 rfl t54 ?_
          show X (EE s) (d - 1) 53 54 [] [] m758 _
          refine X.retv i53_54 rfl t53 ?_
          show X (EE s) d 26 71 [(0, zr g0 8), (1, zi a1), (2, zi v507), (3, zi v511), (4, zi v514)] [] m758 _
          refine X.aload_n 72 i26_71 rfl rfl rfl ?_
          refine X.getR 75 i26_72 rfl rfl (by decide) rfl rfl ?_
          refine X.iload 77 i26_75 rfl rfl rfl ?_
          refine X.iload_n 78 i26_77 rfl rfl rfl ?_
          refine X.aload_n 79 i26_78 rfl rfl rfl ?_
          refine X.getR 82 i26_79 rfl rfl (by decide) rfl rfl ?_
          refine X.callv 85 [] [zi v511, zi v514, zr g0 33] [(0, zr g0 9)] i26_82 rfl (by decide) rfl rfl (by omega) rfl rfl (by decide) rfl t38 (Nat.le_of_ble_eq_true rfl) (Nat.le_of_ble_eq_true rfl) rfl ?_
          refine X.aload_n 1 i38_0 rfl rfl rfl ?_
          refine X.getR 4 i38_1 rfl rfl (by decide) rfl rfl ?_
          refine X.iconst 5 i38_4 rfl rfl (by decide) ?_
          refine X.iald 6 i38_5 rfl rfl (by decide) rfl (by omega) ?_
          have h762 := r10_0 hJ759 g0 (i := 3) (by omega)
          refine X.reti i38_6 rfl t38 ?_
          show X (EE s) d 26 85 [(0, zr g0 8), (1, zi a1), (2, zi v507), (3, zi v511), (4, zi v514)] [zi (m758 g0 10 3), zi v511, zi v514, zr g0 33] m758 _
          refine X.aload_n 86 i26_85 rfl rfl rfl ?_
          refine X.getR 89 i26_86 rfl rfl (by decide) rfl rfl ?_
          refine X.aload_n 90 i26_89 rfl rfl rfl ?_
          refine X.getI 93 9 i26_90 rfl rfl (by decide) rfl rfl rfl ?_
          have h763 := r8_9 hJ759 g0
          refine X.callv 96 [zi v514, zi v511, zi (m758 g0 10 3), zr g0 37, zi (m758 g0 8 9)] [] [(0, zr g0 33), (1, zi v514), (2, zi v511), (3, zi (m758 g0 10 3)), (4, zr g0 37), (5, zi (m758 g0 8 9))] i26_93 rfl (by decide) rfl rfl (by omega) rfl rfl (by decide) rfl t56 (Nat.le_of_ble_eq_true rfl) (Nat.le_of_ble_eq_true rfl) rfl ?_
          refine c56_1 (S := zfr [] S) (m0 := m758) (B := B + 1) g0 g0 v514 v511 (m758 g0 10 3) (m758 g0 8 9) (by omega) (hJ759.ow.up (by omega)) (by omega) (by omega) (by omega) (by omega) (by omega) (fun m764 hJ765 => ?_)
          have hJ767 := hJ759.trans hJ765 zi_n
          have wt768 : m764 g0 8 9 = ((m522 g0 8 9) + (v514 - 1)) := Eq.trans (hJ765.eq rfl rfl) wt760
          have wt769 : m764 g0 8 13 = ((m515 g0 8 13) + v514) := Eq.trans (hJ765.eq rfl rfl) wt761
          clear wt761
          show X (EE s) d 26 96 [(0, zr g0 8), (1, zi a1), (2, zi v507), (3, zi v511), (4, zi v514)] [] m764 _
          refine X.aload_n 97 i26_96 rfl rfl rfl ?_
          refine X.getR 100 i26_97 rfl rfl (by decide) rfl rfl ?_
          refine X.iload 102 i26_100 rfl rfl rfl ?_
          refine X.aload_n 103 i26_102 rfl rfl rfl ?_
          refine X.getR 106 i26_103 rfl rfl (by decide) rfl rfl ?_
          refine X.getIr 109 3 i26_106 rfl rfl (by decide) rfl rfl rfl (fun h770 => ?_)
          refine X.callv 112 [zi v514, zi (m764 g0 33 3)] [] [(0, zr g0 27), (1, zi v514), (2, zi (m764 g0 33 3))] i26_109 rfl (by decide) rfl rfl (by omega) rfl rfl (by decide) rfl t58 (Nat.le_of_ble_eq_true rfl) (Nat.le_of_ble_eq_true rfl) rfl ?_
          refine X.aload_n 1 i58_0 rfl rfl rfl ?_
          refine X.dup 2 i58_1 rfl rfl rfl ?_
          refine X.getIr 5 6 i58_2 rfl rfl (by decide) rfl rfl rfl (fun h771 => ?_)
          refine X.iload_n 6 i58_5 rfl rfl rfl ?_
          refine X.iiF 7 .iadd (fun x y => x + y) i58_6 rfl rfl rfl (fun _ _ => rfl) (fun z772 hz772 => ?_)
          refine X.putI' 10 6 i58_7 rfl rfl (by decide) rfl rfl rfl (fun hrm773 m773 hm773 => ?_)
          have hJ774 := w27_3 hJ767 hm773 (by omega) hrm773
          have wt775 : m773 g0 8 9 = ((m522 g0 8 9) + (v514 - 1)) := Eq.trans (by rw [hm773]; exact z_upd_o _ _ rfl) wt768
          have wt776 : m773 g0 8 13 = ((m515 g0 8 13) + v514) := Eq.trans (by rw [hm773]; exact z_upd_o _ _ rfl) wt769
          clear wt768 wt769
          refine X.aload_n 11 i58_10 rfl rfl rfl ?_
          refine X.dup 12 i58_11 rfl rfl rfl ?_
          refine X.getIr 15 8 i58_12 rfl rfl (by decide) rfl rfl rfl (fun h777 => ?_)
          refine X.iload_n 16 i58_15 rfl rfl rfl ?_
          refine X.iiF 17 .ior (fun x y => x ||| y) i58_16 rfl rfl rfl (fun _ _ => rfl) (fun z778 hz778 => ?_)
          refine X.putI' 20 8 i58_17 rfl rfl (by decide) rfl rfl rfl (fun hrm779 m779 hm779 => ?_)
          have hJ780 := w27_3 hJ774 hm779 (by omega) hrm779
          have wt781 : m779 g0 8 9 = ((m522 g0 8 9) + (v514 - 1)) := Eq.trans (by rw [hm779]; exact z_upd_o _ _ rfl) wt775
          have wt782 : m779 g0 8 13 = ((m515 g0 8 13) + v514) := Eq.trans (by rw [hm779]; exact z_upd_o _ _ rfl) wt776
          clear wt775 wt776
          refine X.retv i58_20 rfl t58 ?_
          show X (EE s) d 26 112 [(0, zr g0 8), (1, zi a1), (2, zi v507), (3, zi v511), (4, zi v514)] [] m779 _
          refine X.aload_n 113 i26_112 rfl rfl rfl ?_
          refine X.getI 116 9 i26_113 rfl rfl (by decide) rfl rfl rfl ?_
          have h783 := r8_9 hJ780 g0
          refine X.ldc 118 i26_116 rfl rfl (by decide) ?_
          refine X.icmpge 131 121 i26_118 rfl rfl rfl (fun h784 => ?_) (fun h784 => ?_)
          · refine X.cut [(0, zr g0 8), (2, zi v507), (4, zi v514)] i26_131 rfl ?_
            refine X.aload_n 132 i26_131 rfl rfl rfl ?_
            refine X.iload_n 133 i26_132 rfl rfl rfl ?_
            refine X.callv 136 [zi v507] [] [(0, zr g0 8), (1, zi v507)] i26_133 rfl (by decide) rfl rfl (by omega) rfl rfl (by decide) rfl t59 (Nat.le_of_ble_eq_true rfl) (Nat.le_of_ble_eq_true rfl) rfl ?_
            refine c59_1 (S := zfr [] S) (m0 := m779) (B := B + 7) g0 v507 (by omega) (hJ780.ow.up (by omega)) (by omega) (by omega) (fun m785 hJ786 => ?_)
            have hJ788 := hJ780.trans hJ786 zi_n
            have wt789 : m785 g0 8 9 = ((m522 g0 8 9) + (v514 - 1)) := Eq.trans (hJ786.eq rfl rfl) wt781
            have wt790 : m785 g0 8 13 = ((m515 g0 8 13) + v514) := Eq.trans (hJ786.eq rfl rfl) wt782
            clear wt782
            show X (EE s) d 26 136 [(0, zr g0 8), (2, zi v507), (4, zi v514)] [] m785 _
            refine X.iload 138 i26_136 rfl rfl rfl ?_
            refine X.reti i26_138 rfl t26 ?_
            exact hQ v514 m785 (by first | trivial | omega) (hJ788.up (by omega)) (by omega) (by omega) (by exact ⟨by omega, by omega⟩)
          · refine X.aload_n 122 i26_121 rfl rfl rfl ?_
            refine X.dup 123 i26_122 rfl rfl rfl ?_
            refine X.getI 126 9 i26_123 rfl rfl (by decide) rfl rfl rfl ?_
            refine X.iconst 127 i26_126 rfl rfl (by decide) ?_
            refine X.iadd 128 i26_127 rfl rfl (by omega) ?_
            refine X.putI' 131 9 i26_128 rfl rfl (by decide) rfl rfl rfl (fun hrm791 m791 hm791 => ?_)
            have hJ792 := w8_9 hJ780 hm791 (by omega) hs0
            have wt793 : m791 g0 8 9 = ((m779 g0 8 9) + 1) := by rw [hm791]; exact z_upd_same _ _ _ _ _
            have wt794 : m791 g0 8 13 = ((m515 g0 8 13) + v514) := Eq.trans (by rw [hm791]; exact z_upd_o _ _ rfl) wt782
            clear wt782
            have em791 : m791 g0 8 9 = ((m779 g0 8 9) + 1) := by rw [hm791]; exact z_upd_same _ _ _ _ _
            refine X.cut [(0, zr g0 8), (2, zi v507), (4, zi v514)] i26_131 rfl ?_
            refine X.aload_n 132 i26_131 rfl rfl rfl ?_
            refine X.iload_n 133 i26_132 rfl rfl rfl ?_
            refine X.callv 136 [zi v507] [] [(0, zr g0 8), (1, zi v507)] i26_133 rfl (by decide) rfl rfl (by omega) rfl rfl (by decide) rfl t59 (Nat.le_of_ble_eq_true rfl) (Nat.le_of_ble_eq_true rfl) rfl ?_
            refine c59_1 (S := zfr [] S) (m0 := m791) (B := B + 7) g0 v507 (by omega) (hJ792.ow.up (by omega)) (by omega) (by omega) (fun m795 hJ796 => ?_)
            have hJ798 := hJ792.trans hJ796 zi_n
            have wt799 : m795 g0 8 9 = ((m779 g0 8 9) + 1) := Eq.trans (hJ796.eq rfl rfl) wt793
            have wt800 : m795 g0 8 13 = ((m515 g0 8 13) + v514) := Eq.trans (hJ796.eq rfl rfl) wt794
            clear wt793 wt794
            show X (EE s) d 26 136 [(0, zr g0 8), (2, zi v507), (4, zi v514)] [] m795 _
            refine X.iload 138 i26_136 rfl rfl rfl ?_
            refine X.reti i26_138 rfl t26 ?_
            exact hQ v514 m795 (by first | trivial | omega) (hJ798.up (by omega)) (by omega) (by omega) (by exact ⟨by omega, by omega⟩)
        · refine X.bipush 45 i53_43 rfl rfl (by decide) ?_
          refine X.goto 50 i53_45 rfl rfl ?_
          refine X.cut [] i53_50 rfl ?_
          refine X.iconst 51 i53_50 rfl rfl (by decide) ?_
          refine X.callv 54 [zi 22, zi 0] [] [(0, zr g0 8), (1, zi 22), (2, zi 0)] i53_51 rfl (by decide) rfl rfl (by omega) rfl rfl (by decide) rfl t54 (Nat.le_of_ble_eq_true rfl) (Nat.le_of_ble_eq_true rfl) rfl ?_
          refine X.aload_n 1 i54_0 rfl rfl rfl ?_
          refine X.getR 4 i54_1 rfl rfl (by decide) rfl rfl ?_
          refine X.aload_n 5 i54_4 rfl rfl rfl ?_
          refine X.getI 8 9 i54_5 rfl rfl (by decide) rfl rfl rfl ?_
          have h801 := r8_9 hJ738 g0
          refine X.iload_n 9 i54_8 rfl rfl rfl ?_
          refine X.iload_n 10 i54_9 rfl rfl rfl ?_
          refine X.callv 13 [zi (m737 g0 8 9), zi 22, zi 0] [] [(0, zr g0 37), (1, zi (m737 g0 8 9)), (2, zi 22), (3, zi 0)] i54_10 rfl (by decide) rfl rfl (by omega) rfl rfl (by decide) rfl t55 (Nat.le_of_ble_eq_true rfl) (Nat.le_of_ble_eq_true rfl) rfl ?_
          refine X.aload_n 1 i55_0 rfl rfl rfl ?_
          refine X.getI 4 1 i55_1 rfl rfl (by decide) rfl rfl rfl ?_
          have h802 := r37_1 hJ738 g0
          refine X.bipush 6 i55_4 rfl rfl (by decide) ?_
          refine X.irem 7 i55_6 rfl rfl (by omega) ?_
          refine X.iconst 8 i55_7 rfl rfl (by decide) ?_
          refine X.imul 9 i55_8 rfl rfl (by omega) ?_
          refine X.istore 11 [(0, zr g0 37), (1, zi (m737 g0 8 9)), (2, zi 22), (3, zi 0), (4, zi (((m737 g0 37 1) % 40) * 3))] i55_9 rfl rfl rfl ?_
          refine X.aload_n 12 i55_11 rfl rfl rfl ?_
          refine X.getR 15 i55_12 rfl rfl (by decide) rfl rfl ?_
          refine X.iload 17 i55_15 rfl rfl rfl ?_
          refine X.iload_n 18 i55_17 rfl rfl rfl ?_
          refine X.iast' 19 i55_18 rfl rfl (by decide) rfl (by omega) (fun hrm803 m803 hm803 => ?_)
          have hJ804 := w38_0 hJ738 hm803 (by omega) hrm803
          have wt805 : m803 g0 8 9 = ((m522 g0 8 9) + (v514 - 1)) := Eq.trans (by rw [hm803]; exact z_upd_o _ _ rfl) wt739
          have wt806 : m803 g0 8 13 = ((m515 g0 8 13) + v514) := Eq.trans (by rw [hm803]; exact z_upd_o _ _ rfl) wt740
          clear wt740
          refine X.aload_n 20 i55_19 rfl rfl rfl ?_
          refine X.getR 23 i55_20 rfl rfl (by decide) rfl rfl ?_
          refine X.iload 25 i55_23 rfl rfl rfl ?_
          refine X.iconst 26 i55_25 rfl rfl (by decide) ?_
          refine X.iadd 27 i55_26 rfl rfl (by omega) ?_
          refine X.iload_n 28 i55_27 rfl rfl rfl ?_
          refine X.iast' 29 i55_28 rfl rfl (by decide) rfl (by omega) (fun hrm807 m807 hm807 => ?_)
          have hJ808 := w38_0 hJ804 hm807 (by omega) hrm807
          have wt809 : m807 g0 8 9 = ((m522 g0 8 9) + (v514 - 1)) := Eq.trans (by rw [hm807]; exact z_upd_o _ _ rfl) wt805
          have wt810 : m807 g0 8 13 = ((m515 g0 8 13) + v514) := Eq.trans (by rw [hm807]; exact z_upd_o _ _ rfl) wt806
          clear wt805 wt806
          refine X.aload_n 30 i55_29 rfl rfl rfl ?_
          refine X.getR 33 i55_30 rfl rfl (by decide) rfl rfl ?_
          refine X.iload 35 i55_33 rfl rfl rfl ?_
          refine X.iconst 36 i55_35 rfl rfl (by decide) ?_
          refine X.iadd 37 i55_36 rfl rfl (by omega) ?_
          refine X.iload_n 38 i55_37 rfl rfl rfl ?_
          refine X.iast' 39 i55_38 rfl rfl (by decide) rfl (by omega) (fun hrm811 m811 hm811 => ?_)
          have hJ812 := w38_0 hJ808 hm811 (by omega) hrm811
          have wt813 : m811 g0 8 9 = ((m522 g0 8 9) + (v514 - 1)) := Eq.trans (by rw [hm811]; exact z_upd_o _ _ rfl) wt809
          have wt814 : m811 g0 8 13 = ((m515 g0 8 13) + v514) := Eq.trans (by rw [hm811]; exact z_upd_o _ _ rfl) wt810
          clear wt809 wt810
          refine X.aload_n 40 i55_39 rfl rfl rfl ?_
          refine X.dup 41 i55_40 rfl rfl rfl ?_
          refine X.getI 44 1 i55_41 rfl rfl (by decide) rfl rfl rfl ?_
          have h815 := r37_1 hJ812 g0
          refine X.iconst 45 i55_44 rfl rfl (by decide) ?_
          refine X.iadd 46 i55_45 rfl rfl (by omega) ?_
          refine X.putI' 49 1 i55_46 rfl rfl (by decide) rfl rfl rfl (fun hrm816 m816 hm816 => ?_)
          have hJ817 := w37_1 (hJ812.up (B' := B + 1) (by omega)) hm816 (by omega)
          have wt818 : m816 g0 8 9 = ((m522 g0 8 9) + (v514 - 1)) := Eq.trans (by rw [hm816]; exact z_upd_o _ _ rfl) wt813
          have wt819 : m816 g0 8 13 = ((m515 g0 8 13) + v514) := Eq.trans (by rw [hm816]; exact z_upd_o _ _ rfl) wt814
          clear wt813 wt814
          refine X.retv i55_49 rfl t55 ?_
          show X (EE s) ((d - 1) - 1) 54 13 [(0, zr g0 8), (1, zi 22), (2, zi 0)] [] m816 _
          refine X.retv i54_13 rfl t54 ?_
          show X (EE s) (d - 1) 53 54 [] [] m816 _
          refine X.retv i53_54 rfl t53 ?_
          show X (EE s) d 26 71 [(0, zr g0 8), (1, zi a1), (2, zi v507), (3, zi v511), (4, zi v514)] [] m816 _
          refine X.aload_n 72 i26_71 rfl rfl rfl ?_
          refine X.getR 75 i26_72 rfl rfl (by decide) rfl rfl ?_
          refine X.iload 77 i26_75 rfl rfl rfl ?_
          refine X.iload_n 78 i26_77 rfl rfl rfl ?_
          refine X.aload_n 79 i26_78 rfl rfl rfl ?_
          refine X.getR 82 i26_79 rfl rfl (by decide) rfl rfl ?_
          refine X.callv 85 [] [zi v511, zi v514, zr g0 33] [(0, zr g0 9)] i26_82 rfl (by decide) rfl rfl (by omega) rfl rfl (by decide) rfl t38 (Nat.le_of_ble_eq_true rfl) (Nat.le_of_ble_eq_true rfl) rfl ?_
          refine X.aload_n 1 i38_0 rfl rfl rfl ?_
          refine X.getR 4 i38_1 rfl rfl (by decide) rfl rfl ?_
          refine X.iconst 5 i38_4 rfl rfl (by decide) ?_
          refine X.iald 6 i38_5 rfl rfl (by decide) rfl (by omega) ?_
          have h820 := r10_0 hJ817 g0 (i := 3) (by omega)
          refine X.reti i38_6 rfl t38 ?_
          show X (EE s) d 26 85 [(0, zr g0 8), (1, zi a1), (2, zi v507), (3, zi v511), (4, zi v514)] [zi (m816 g0 10 3), zi v511, zi v514, zr g0 33] m816 _
          refine X.aload_n 86 i26_85 rfl rfl rfl ?_
          refine X.getR 89 i26_86 rfl rfl (by decide) rfl rfl ?_
          refine X.aload_n 90 i26_89 rfl rfl rfl ?_
          refine X.getI 93 9 i26_90 rfl rfl (by decide) rfl rfl rfl ?_
          have h821 := r8_9 hJ817 g0
          refine X.callv 96 [zi v514, zi v511, zi (m816 g0 10 3), zr g0 37, zi (m816 g0 8 9)] [] [(0, zr g0 33), (1, zi v514), (2, zi v511), (3, zi (m816 g0 10 3)), (4, zr g0 37), (5, zi (m816 g0 8 9))] i26_93 rfl (by decide) rfl rfl (by omega) rfl rfl (by decide) rfl t56 (Nat.le_of_ble_eq_true rfl) (Nat.le_of_ble_eq_true rfl) rfl ?_
          refine c56_1 (S := zfr [] S) (m0 := m816) (B := B + 1) g0 g0 v514 v511 (m816 g0 10 3) (m816 g0 8 9) (by omega) (hJ817.ow.up (by omega)) (by omega) (by omega) (by omega) (by omega) (by omega) (fun m822 hJ823 => ?_)
          have hJ825 := hJ817.trans hJ823 zi_n
          have wt826 : m822 g0 8 9 = ((m522 g0 8 9) + (v514 - 1)) := Eq.trans (hJ823.eq rfl rfl) wt818
          have wt827 : m822 g0 8 13 = ((m515 g0 8 13) + v514) := Eq.trans (hJ823.eq rfl rfl) wt819
          clear wt819
          show X (EE s) d 26 96 [(0, zr g0 8), (1, zi a1), (2, zi v507), (3, zi v511), (4, zi v514)] [] m822 _
          refine X.aload_n 97 i26_96 rfl rfl rfl ?_
          refine X.getR 100 i26_97 rfl rfl (by decide) rfl rfl ?_
          refine X.iload 102 i26_100 rfl rfl rfl ?_
          refine X.aload_n 103 i26_102 rfl rfl rfl ?_
          refine X.getR 106 i26_103 rfl rfl (by decide) rfl rfl ?_
          refine X.getIr 109 3 i26_106 rfl rfl (by decide) rfl rfl rfl (fun h828 => ?_)
          refine X.callv 112 [zi v514, zi (m822 g0 33 3)] [] [(0, zr g0 27), (1, zi v514), (2, zi (m822 g0 33 3))] i26_109 rfl (by decide) rfl rfl (by omega) rfl rfl (by decide) rfl t58 (Nat.le_of_ble_eq_true rfl) (Nat.le_of_ble_eq_true rfl) rfl ?_
          refine X.aload_n 1 i58_0 rfl rfl rfl ?_
          refine X.dup 2 i58_1 rfl rfl rfl ?_
          refine X.getIr 5 6 i58_2 rfl rfl (by decide) rfl rfl rfl (fun h829 => ?_)
          refine X.iload_n 6 i58_5 rfl rfl rfl ?_
          refine X.iiF 7 .iadd (fun x y => x + y) i58_6 rfl rfl rfl (fun _ _ => rfl) (fun z830 hz830 => ?_)
          refine X.putI' 10 6 i58_7 rfl rfl (by decide) rfl rfl rfl (fun hrm831 m831 hm831 => ?_)
          have hJ832 := w27_3 hJ825 hm831 (by omega) hrm831
          have wt833 : m831 g0 8 9 = ((m522 g0 8 9) + (v514 - 1)) := Eq.trans (by rw [hm831]; exact z_upd_o _ _ rfl) wt826
          have wt834 : m831 g0 8 13 = ((m515 g0 8 13) + v514) := Eq.trans (by rw [hm831]; exact z_upd_o _ _ rfl) wt827
          clear wt826 wt827
          refine X.aload_n 11 i58_10 rfl rfl rfl ?_
          refine X.dup 12 i58_11 rfl rfl rfl ?_
          refine X.getIr 15 8 i58_12 rfl rfl (by decide) rfl rfl rfl (fun h835 => ?_)
          refine X.iload_n 16 i58_15 rfl rfl rfl ?_
          refine X.iiF 17 .ior (fun x y => x ||| y) i58_16 rfl rfl rfl (fun _ _ => rfl) (fun z836 hz836 => ?_)
          refine X.putI' 20 8 i58_17 rfl rfl (by decide) rfl rfl rfl (fun hrm837 m837 hm837 => ?_)
          have hJ838 := w27_3 hJ832 hm837 (by omega) hrm837
          have wt839 : m837 g0 8 9 = ((m522 g0 8 9) + (v514 - 1)) := Eq.trans (by rw [hm837]; exact z_upd_o _ _ rfl) wt833
          have wt840 : m837 g0 8 13 = ((m515 g0 8 13) + v514) := Eq.trans (by rw [hm837]; exact z_upd_o _ _ rfl) wt834
          clear wt833 wt834
          refine X.retv i58_20 rfl t58 ?_
          show X (EE s) d 26 112 [(0, zr g0 8), (1, zi a1), (2, zi v507), (3, zi v511), (4, zi v514)] [] m837 _
          refine X.aload_n 113 i26_112 rfl rfl rfl ?_
          refine X.getI 116 9 i26_113 rfl rfl (by decide) rfl rfl rfl ?_
          have h841 := r8_9 hJ838 g0
          refine X.ldc 118 i26_116 rfl rfl (by decide) ?_
          refine X.icmpge 131 121 i26_118 rfl rfl rfl (fun h842 => ?_) (fun h842 => ?_)
          · refine X.cut [(0, zr g0 8), (2, zi v507), (4, zi v514)] i26_131 rfl ?_
            refine X.aload_n 132 i26_131 rfl rfl rfl ?_
            refine X.iload_n 133 i26_132 rfl rfl rfl ?_
            refine X.callv 136 [zi v507] [] [(0, zr g0 8), (1, zi v507)] i26_133 rfl (by decide) rfl rfl (by omega) rfl rfl (by decide) rfl t59 (Nat.le_of_ble_eq_true rfl) (Nat.le_of_ble_eq_true rfl) rfl ?_
            refine c59_1 (S := zfr [] S) (m0 := m837) (B := B + 7) g0 v507 (by omega) (hJ838.ow.up (by omega)) (by omega) (by omega) (fun m843 hJ844 => ?_)
            have hJ846 := hJ838.trans hJ844 zi_n
            have wt847 : m843 g0 8 9 = ((m522 g0 8 9) + (v514 - 1)) := Eq.trans (hJ844.eq rfl rfl) wt839
            have wt848 : m843 g0 8 13 = ((m515 g0 8 13) + v514) := Eq.trans (hJ844.eq rfl rfl) wt840
            clear wt840
            show X (EE s) d 26 136 [(0, zr g0 8), (2, zi v507), (4, zi v514)] [] m843 _
            refine X.iload 138 i26_136 rfl rfl rfl ?_
            refine X.reti i26_138 rfl t26 ?_
            exact hQ v514 m843 (by first | trivial | omega) (hJ846.up (by omega)) (by omega) (by omega) (by exact ⟨by omega, by omega⟩)
          · refine X.aload_n 122 i26_121 rfl rfl rfl ?_
            refine X.dup 123 i26_122 rfl rfl rfl ?_
            refine X.getI 126 9 i26_123 rfl rfl (by decide) rfl rfl rfl ?_
            refine X.iconst 127 i26_126 rfl rfl (by decide) ?_
            refine X.iadd 128 i26_127 rfl rfl (by omega) ?_
            refine X.putI' 131 9 i26_128 rfl rfl (by decide) rfl rfl rfl (fun hrm849 m849 hm849 => ?_)
            have hJ850 := w8_9 hJ838 hm849 (by omega) hs0
            have wt851 : m849 g0 8 9 = ((m837 g0 8 9) + 1) := by rw [hm849]; exact z_upd_same _ _ _ _ _
            have wt852 : m849 g0 8 13 = ((m515 g0 8 13) + v514) := Eq.trans (by rw [hm849]; exact z_upd_o _ _ rfl) wt840
            clear wt840
            have em849 : m849 g0 8 9 = ((m837 g0 8 9) + 1) := by rw [hm849]; exact z_upd_same _ _ _ _ _
            refine X.cut [(0, zr g0 8), (2, zi v507), (4, zi v514)] i26_131 rfl ?_
            refine X.aload_n 132 i26_131 rfl rfl rfl ?_
            refine X.iload_n 133 i26_132 rfl rfl rfl ?_
            refine X.callv 136 [zi v507] [] [(0, zr g0 8), (1, zi v507)] i26_133 rfl (by decide) rfl rfl (by omega) rfl rfl (by decide) rfl t59 (Nat.le_of_ble_eq_true rfl) (Nat.le_of_ble_eq_true rfl) rfl ?_
            refine c59_1 (S := zfr [] S) (m0 := m849) (B := B + 7) g0 v507 (by omega) (hJ850.ow.up (by omega)) (by omega) (by omega) (fun m853 hJ854 => ?_)
            have hJ856 := hJ850.trans hJ854 zi_n
            have wt857 : m853 g0 8 9 = ((m837 g0 8 9) + 1) := Eq.trans (hJ854.eq rfl rfl) wt851
            have wt858 : m853 g0 8 13 = ((m515 g0 8 13) + v514) := Eq.trans (hJ854.eq rfl rfl) wt852
            clear wt851 wt852
            show X (EE s) d 26 136 [(0, zr g0 8), (2, zi v507), (4, zi v514)] [] m853 _
            refine X.iload 138 i26_136 rfl rfl rfl ?_
            refine X.reti i26_138 rfl t26 ?_
            exact hQ v514 m853 (by first | trivial | omega) (hJ856.up (by omega)) (by omega) (by omega) (by exact ⟨by omega, by omega⟩)
    · have h696c : (m527 g0 8 10) ≤ 0 := by omega
      clear h696 hz695
      refine X.iconst 17 i53_16 rfl rfl (by decide) ?_
      refine X.goto 21 i53_17 rfl rfl ?_
      refine X.istore_n 22 [(0, zr g0 8), (1, zi 1)] i53_21 rfl rfl rfl ?_
      refine X.iload_n 23 i53_22 rfl rfl rfl ?_
      refine X.aload_n 24 i53_23 rfl rfl rfl ?_
      refine X.getZ 27 12 i53_24 rfl rfl (by decide) rfl rfl rfl (fun h859 => ?_)
      refine X.icmpeq 54 30 i53_27 rfl rfl rfl (fun h860 => ?_) (fun h860 => ?_)
      · refine X.cut [] i53_54 rfl ?_
        refine X.retv i53_54 rfl t53 ?_
        show X (EE s) d 26 71 [(0, zr g0 8), (1, zi a1), (2, zi v507), (3, zi v511), (4, zi v514)] [] m527 _
        refine X.aload_n 72 i26_71 rfl rfl rfl ?_
        refine X.getR 75 i26_72 rfl rfl (by decide) rfl rfl ?_
        refine X.iload 77 i26_75 rfl rfl rfl ?_
        refine X.iload_n 78 i26_77 rfl rfl rfl ?_
        refine X.aload_n 79 i26_78 rfl rfl rfl ?_
        refine X.getR 82 i26_79 rfl rfl (by decide) rfl rfl ?_
        refine X.callv 85 [] [zi v511, zi v514, zr g0 33] [(0, zr g0 9)] i26_82 rfl (by decide) rfl rfl (by omega) rfl rfl (by decide) rfl t38 (Nat.le_of_ble_eq_true rfl) (Nat.le_of_ble_eq_true rfl) rfl ?_
        refine X.aload_n 1 i38_0 rfl rfl rfl ?_
        refine X.getR 4 i38_1 rfl rfl (by decide) rfl rfl ?_
        refine X.iconst 5 i38_4 rfl rfl (by decide) ?_
        refine X.iald 6 i38_5 rfl rfl (by decide) rfl (by omega) ?_
        have h861 := r10_0 hJ528 g0 (i := 3) (by omega)
        refine X.reti i38_6 rfl t38 ?_
        show X (EE s) d 26 85 [(0, zr g0 8), (1, zi a1), (2, zi v507), (3, zi v511), (4, zi v514)] [zi (m527 g0 10 3), zi v511, zi v514, zr g0 33] m527 _
        refine X.aload_n 86 i26_85 rfl rfl rfl ?_
        refine X.getR 89 i26_86 rfl rfl (by decide) rfl rfl ?_
        refine X.aload_n 90 i26_89 rfl rfl rfl ?_
        refine X.getI 93 9 i26_90 rfl rfl (by decide) rfl rfl rfl ?_
        refine X.callv 96 [zi v514, zi v511, zi (m527 g0 10 3), zr g0 37, zi (m527 g0 8 9)] [] [(0, zr g0 33), (1, zi v514), (2, zi v511), (3, zi (m527 g0 10 3)), (4, zr g0 37), (5, zi (m527 g0 8 9))] i26_93 rfl (by decide) rfl rfl (by omega) rfl rfl (by decide) rfl t56 (Nat.le_of_ble_eq_true rfl) (Nat.le_of_ble_eq_true rfl) rfl ?_
        refine c56_1 (S := zfr [] S) (m0 := m527) (B := B) g0 g0 v514 v511 (m527 g0 10 3) (m527 g0 8 9) (by omega) (hJ528.ow.up (by omega)) (by omega) (by omega) (by omega) (by omega) (by omega) (fun m862 hJ863 => ?_)
        have hJ865 := hJ528.trans hJ863 zi_n
        have wt866 : m862 g0 8 9 = ((m522 g0 8 9) + (v514 - 1)) := Eq.trans (hJ863.eq rfl rfl) wt529
        have wt867 : m862 g0 8 13 = ((m515 g0 8 13) + v514) := Eq.trans (hJ863.eq rfl rfl) wt530
        clear wt530
        show X (EE s) d 26 96 [(0, zr g0 8), (1, zi a1), (2, zi v507), (3, zi v511), (4, zi v514)] [] m862 _
        refine X.aload_n 97 i26_96 rfl rfl rfl ?_
        refine X.getR 100 i26_97 rfl rfl (by decide) rfl rfl ?_
        refine X.iload 102 i26_100 rfl rfl rfl ?_
        refine X.aload_n 103 i26_102 rfl rfl rfl ?_
        refine X.getR 106 i26_103 rfl rfl (by decide) rfl rfl ?_
        refine X.getIr 109 3 i26_106 rfl rfl (by decide) rfl rfl rfl (fun h868 => ?_)
        refine X.callv 112 [zi v514, zi (m862 g0 33 3)] [] [(0, zr g0 27), (1, zi v514), (2, zi (m862 g0 33 3))] i26_109 rfl (by decide) rfl rfl (by omega) rfl rfl (by decide) rfl t58 (Nat.le_of_ble_eq_true rfl) (Nat.le_of_ble_eq_true rfl) rfl ?_
        refine X.aload_n 1 i58_0 rfl rfl rfl ?_
        refine X.dup 2 i58_1 rfl rfl rfl ?_
        refine X.getIr 5 6 i58_2 rfl rfl (by decide) rfl rfl rfl (fun h869 => ?_)
        refine X.iload_n 6 i58_5 rfl rfl rfl ?_
        refine X.iiF 7 .iadd (fun x y => x + y) i58_6 rfl rfl rfl (fun _ _ => rfl) (fun z870 hz870 => ?_)
        refine X.putI' 10 6 i58_7 rfl rfl (by decide) rfl rfl rfl (fun hrm871 m871 hm871 => ?_)
        have hJ872 := w27_3 hJ865 hm871 (by omega) hrm871
        have wt873 : m871 g0 8 9 = ((m522 g0 8 9) + (v514 - 1)) := Eq.trans (by rw [hm871]; exact z_upd_o _ _ rfl) wt866
        have wt874 : m871 g0 8 13 = ((m515 g0 8 13) + v514) := Eq.trans (by rw [hm871]; exact z_upd_o _ _ rfl) wt867
        clear wt866 wt867
        refine X.aload_n 11 i58_10 rfl rfl rfl ?_
        refine X.dup 12 i58_11 rfl rfl rfl ?_
        refine X.getIr 15 8 i58_12 rfl rfl (by decide) rfl rfl rfl (fun h875 => ?_)
        refine X.iload_n 16 i58_15 rfl rfl rfl ?_
        refine X.iiF 17 .ior (fun x y => x ||| y) i58_16 rfl rfl rfl (fun _ _ => rfl) (fun z876 hz876 => ?_)
        refine X.putI' 20 8 i58_17 rfl rfl (by decide) rfl rfl rfl (fun hrm877 m877 hm877 => ?_)
        have hJ878 := w27_3 hJ872 hm877 (by omega) hrm877
        have wt879 : m877 g0 8 9 = ((m522 g0 8 9) + (v514 - 1)) := Eq.trans (by rw [hm877]; exact z_upd_o _ _ rfl) wt873
        have wt880 : m877 g0 8 13 = ((m515 g0 8 13) + v514) := Eq.trans (by rw [hm877]; exact z_upd_o _ _ rfl) wt874
        clear wt873 wt874
        refine X.retv i58_20 rfl t58 ?_
        show X (EE s) d 26 112 [(0, zr g0 8), (1, zi a1), (2, zi v507), (3, zi v511), (4, zi v514)] [] m877 _
        refine X.aload_n 113 i26_112 rfl rfl rfl ?_
        refine X.getI 116 9 i26_113 rfl rfl (by decide) rfl rfl rfl ?_
        have h881 := r8_9 hJ878 g0
        refine X.ldc 118 i26_116 rfl rfl (by decide) ?_
        refine X.icmpge 131 121 i26_118 rfl rfl rfl (fun h882 => ?_) (fun h882 => ?_)
        · refine X.cut [(0, zr g0 8), (2, zi v507), (4, zi v514)] i26_131 rfl ?_
          refine X.aload_n 132 i26_131 rfl rfl rfl ?_
          refine X.iload_n 133 i26_132 rfl rfl rfl ?_
          refine X.callv 136 [zi v507] [] [(0, zr g0 8), (1, zi v507)] i26_133 rfl (by decide) rfl rfl (by omega) rfl rfl (by decide) rfl t59 (Nat.le_of_ble_eq_true rfl) (Nat.le_of_ble_eq_true rfl) rfl ?_
          refine c59_1 (S := zfr [] S) (m0 := m877) (B := B + 6) g0 v507 (by omega) (hJ878.ow.up (by omega)) (by omega) (by omega) (fun m883 hJ884 => ?_)
          have hJ886 := hJ878.trans hJ884 zi_n
          have wt887 : m883 g0 8 9 = ((m522 g0 8 9) + (v514 - 1)) := Eq.trans (hJ884.eq rfl rfl) wt879
          have wt888 : m883 g0 8 13 = ((m515 g0 8 13) + v514) := Eq.trans (hJ884.eq rfl rfl) wt880
          clear wt880
          show X (EE s) d 26 136 [(0, zr g0 8), (2, zi v507), (4, zi v514)] [] m883 _
          refine X.iload 138 i26_136 rfl rfl rfl ?_
          refine X.reti i26_138 rfl t26 ?_
          exact hQ v514 m883 (by first | trivial | omega) (hJ886.up (by omega)) (by omega) (by omega) (by exact ⟨by omega, by omega⟩)
        · refine X.aload_n 122 i26_121 rfl rfl rfl ?_
          refine X.dup 123 i26_122 rfl rfl rfl ?_
          refine X.getI 126 9 i26_123 rfl rfl (by decide) rfl rfl rfl ?_
          refine X.iconst 127 i26_126 rfl rfl (by decide) ?_
          refine X.iadd 128 i26_127 rfl rfl (by omega) ?_
          refine X.putI' 131 9 i26_128 rfl rfl (by decide) rfl rfl rfl (fun hrm889 m889 hm889 => ?_)
          have hJ890 := w8_9 hJ878 hm889 (by omega) hs0
          have wt891 : m889 g0 8 9 = ((m877 g0 8 9) + 1) := by rw [hm889]; exact z_upd_same _ _ _ _ _
          have wt892 : m889 g0 8 13 = ((m515 g0 8 13) + v514) := Eq.trans (by rw [hm889]; exact z_upd_o _ _ rfl) wt880
          clear wt880
          have em889 : m889 g0 8 9 = ((m877 g0 8 9) + 1) := by rw [hm889]; exact z_upd_same _ _ _ _ _
          refine X.cut [(0, zr g0 8), (2, zi v507), (4, zi v514)] i26_131 rfl ?_
          refine X.aload_n 132 i26_131 rfl rfl rfl ?_
          refine X.iload_n 133 i26_132 rfl rfl rfl ?_
          refine X.callv 136 [zi v507] [] [(0, zr g0 8), (1, zi v507)] i26_133 rfl (by decide) rfl rfl (by omega) rfl rfl (by decide) rfl t59 (Nat.le_of_ble_eq_true rfl) (Nat.le_of_ble_eq_true rfl) rfl ?_
          refine c59_1 (S := zfr [] S) (m0 := m889) (B := B + 6) g0 v507 (by omega) (hJ890.ow.up (by omega)) (by omega) (by omega) (fun m893 hJ894 => ?_)
          have hJ896 := hJ890.trans hJ894 zi_n
          have wt897 : m893 g0 8 9 = ((m877 g0 8 9) + 1) := Eq.trans (hJ894.eq rfl rfl) wt891
          have wt898 : m893 g0 8 13 = ((m515 g0 8 13) + v514) := Eq.trans (hJ894.eq rfl rfl) wt892
          clear wt891 wt892
          show X (EE s) d 26 136 [(0, zr g0 8), (2, zi v507), (4, zi v514)] [] m893 _
          refine X.iload 138 i26_136 rfl rfl rfl ?_
          refine X.reti i26_138 rfl t26 ?_
          exact hQ v514 m893 (by first | trivial | omega) (hJ896.up (by omega)) (by omega) (by omega) (by exact ⟨by omega, by omega⟩)
      · refine X.aload_n 31 i53_30 rfl rfl rfl ?_
        refine X.iload_n 32 i53_31 rfl rfl rfl ?_
        refine X.putZ' 35 12 i53_32 rfl rfl (by decide) rfl rfl rfl (by omega) (fun hrm899 m899 hm899 => ?_)
        have hJ900 := w8_12 hJ528 hm899 (by omega)
        have wt901 : m899 g0 8 9 = ((m522 g0 8 9) + (v514 - 1)) := Eq.trans (by rw [hm899]; exact z_upd_o _ _ rfl) wt529
        have wt902 : m899 g0 8 13 = ((m515 g0 8 13) + v514) := Eq.trans (by rw [hm899]; exact z_upd_o _ _ rfl) wt530
        clear wt529 wt530
        refine X.aload_n 36 i53_35 rfl rfl rfl ?_
        refine X.aload_n 37 i53_36 rfl rfl rfl ?_
        refine X.getZ 40 12 i53_37 rfl rfl (by decide) rfl rfl rfl (fun h903 => ?_)
        refine X.ifeq 48 43 i53_40 rfl rfl rfl (fun h904 => ?_) (fun h904 => ?_)
        · refine X.cut [] i53_48 rfl ?_
          refine X.bipush 50 i53_48 rfl rfl (by decide) ?_
          refine X.iconst 51 i53_50 rfl rfl (by decide) ?_
          refine X.callv 54 [zi 23, zi 0] [] [(0, zr g0 8), (1, zi 23), (2, zi 0)] i53_51 rfl (by decide) rfl rfl (by omega) rfl rfl (by decide) rfl t54 (Nat.le_of_ble_eq_true rfl) (Nat.le_of_ble_eq_true rfl) rfl ?_
          refine X.aload_n 1 i54_0 rfl rfl rfl ?_
          refine X.getR 4 i54_1 rfl rfl (by decide) rfl rfl ?_
          refine X.aload_n 5 i54_4 rfl rfl rfl ?_
          refine X.getI 8 9 i54_5 rfl rfl (by decide) rfl rfl rfl ?_
          have h905 := r8_9 hJ900 g0
          refine X.iload_n 9 i54_8 rfl rfl rfl ?_
          refine X.iload_n 10 i54_9 rfl rfl rfl ?_
          refine X.callv 13 [zi (m899 g0 8 9), zi 23, zi 0] [] [(0, zr g0 37), (1, zi (m899 g0 8 9)), (2, zi 23), (3, zi 0)] i54_10 rfl (by decide) rfl rfl (by omega) rfl rfl (by decide) rfl t55 (Nat.le_of_ble_eq_true rfl) (Nat.le_of_ble_eq_true rfl) rfl ?_
          refine X.aload_n 1 i55_0 rfl rfl rfl ?_
          refine X.getI 4 1 i55_1 rfl rfl (by decide) rfl rfl rfl ?_
          have h906 := r37_1 hJ900 g0
          refine X.bipush 6 i55_4 rfl rfl (by decide) ?_
          refine X.irem 7 i55_6 rfl rfl (by omega) ?_
          refine X.iconst 8 i55_7 rfl rfl (by decide) ?_
          refine X.imul 9 i55_8 rfl rfl (by omega) ?_
          refine X.istore 11 [(0, zr g0 37), (1, zi (m899 g0 8 9)), (2, zi 23), (3, zi 0), (4, zi (((m899 g0 37 1) % 40) * 3))] i55_9 rfl rfl rfl ?_
          refine X.aload_n 12 i55_11 rfl rfl rfl ?_
          refine X.getR 15 i55_12 rfl rfl (by decide) rfl rfl ?_
          refine X.iload 17 i55_15 rfl rfl rfl ?_
          refine X.iload_n 18 i55_17 rfl rfl rfl ?_
          refine X.iast' 19 i55_18 rfl rfl (by decide) rfl (by omega) (fun hrm907 m907 hm907 => ?_)
          have hJ908 := w38_0 hJ900 hm907 (by omega) hrm907
          have wt909 : m907 g0 8 9 = ((m522 g0 8 9) + (v514 - 1)) := Eq.trans (by rw [hm907]; exact z_upd_o _ _ rfl) wt901
          have wt910 : m907 g0 8 13 = ((m515 g0 8 13) + v514) := Eq.trans (by rw [hm907]; exact z_upd_o _ _ rfl) wt902
          clear wt902
          refine X.aload_n 20 i55_19 rfl rfl rfl ?_
          refine X.getR 23 i55_20 rfl rfl (by decide) rfl rfl ?_
          refine X.iload 25 i55_23 rfl rfl rfl ?_
          refine X.iconst 26 i55_25 rfl rfl (by decide) ?_
          refine X.iadd 27 i55_26 rfl rfl (by omega) ?_
          refine X.iload_n 28 i55_27 rfl rfl rfl ?_
          refine X.iast' 29 i55_28 rfl rfl (by decide) rfl (by omega) (fun hrm911 m911 hm911 => ?_)
          have hJ912 := w38_0 hJ908 hm911 (by omega) hrm911
          have wt913 : m911 g0 8 9 = ((m522 g0 8 9) + (v514 - 1)) := Eq.trans (by rw [hm911]; exact z_upd_o _ _ rfl) wt909
          have wt914 : m911 g0 8 13 = ((m515 g0 8 13) + v514) := Eq.trans (by rw [hm911]; exact z_upd_o _ _ rfl) wt910
          clear wt909 wt910
          refine X.aload_n 30 i55_29 rfl rfl rfl ?_
          refine X.getR 33 i55_30 rfl rfl (by decide) rfl rfl ?_
          refine X.iload 35 i55_33 rfl rfl rfl ?_
          refine X.iconst 36 i55_35 rfl rfl (by decide) ?_
          refine X.iadd 37 i55_36 rfl rfl (by omega) ?_
          refine X.iload_n 38 i55_37 rfl rfl rfl ?_
          refine X.iast' 39 i55_38 rfl rfl (by decide) rfl (by omega) (fun hrm915 m915 hm915 => ?_)
          have hJ916 := w38_0 hJ912 hm915 (by omega) hrm915
          have wt917 : m915 g0 8 9 = ((m522 g0 8 9) + (v514 - 1)) := Eq.trans (by rw [hm915]; exact z_upd_o _ _ rfl) wt913
          have wt918 : m915 g0 8 13 = ((m515 g0 8 13) + v514) := Eq.trans (by rw [hm915]; exact z_upd_o _ _ rfl) wt914
          clear wt913 wt914
          refine X.aload_n 40 i55_39 rfl rfl rfl ?_
          refine X.dup 41 i55_40 rfl rfl rfl ?_
          refine X.getI 44 1 i55_41 rfl rfl (by decide) rfl rfl rfl ?_
          have h919 := r37_1 hJ916 g0
          refine X.iconst 45 i55_44 rfl rfl (by decide) ?_
          refine X.iadd 46 i55_45 rfl rfl (by omega) ?_
          refine X.putI' 49 1 i55_46 rfl rfl (by decide) rfl rfl rfl (fun hrm920 m920 hm920 => ?_)
          have hJ921 := w37_1 (hJ916.up (B' := B + 1) (by omega)) hm920 (by omega)
          have wt922 : m920 g0 8 9 = ((m522 g0 8 9) + (v514 - 1)) := Eq.trans (by rw [hm920]; exact z_upd_o _ _ rfl) wt917
          have wt923 : m920 g0 8 13 = ((m515 g0 8 13) + v514) := Eq.trans (by rw [hm920]; exact z_upd_o _ _ rfl) wt918
          clear wt917 wt918
          refine X.retv i55_49 rfl t55 ?_
          show X (EE s) ((d - 1) - 1) 54 13 [(0, zr g0 8), (1, zi 23), (2, zi 0)] [] m920 _
          refine X.retv i54_13 rfl t54 ?_
          show X (EE s) (d - 1) 53 54 [] [] m920 _
          refine X.retv i53_54 rfl t53 ?_
          show X (EE s) d 26 71 [(0, zr g0 8), (1, zi a1), (2, zi v507), (3, zi v511), (4, zi v514)] [] m920 _
          refine X.aload_n 72 i26_71 rfl rfl rfl ?_
          refine X.getR 75 i26_72 rfl rfl (by decide) rfl rfl ?_
          refine X.iload 77 i26_75 rfl rfl rfl ?_
          refine X.iload_n 78 i26_77 rfl rfl rfl ?_
          refine X.aload_n 79 i26_78 rfl rfl rfl ?_
          refine X.getR 82 i26_79 rfl rfl (by decide) rfl rfl ?_
          refine X.callv 85 [] [zi v511, zi v514, zr g0 33] [(0, zr g0 9)] i26_82 rfl (by decide) rfl rfl (by omega) rfl rfl (by decide) rfl t38 (Nat.le_of_ble_eq_true rfl) (Nat.le_of_ble_eq_true rfl) rfl ?_
          refine X.aload_n 1 i38_0 rfl rfl rfl ?_
          refine X.getR 4 i38_1 rfl rfl (by decide) rfl rfl ?_
          refine X.iconst 5 i38_4 rfl rfl (by decide) ?_
          refine X.iald 6 i38_5 rfl rfl (by decide) rfl (by omega) ?_
          have h924 := r10_0 hJ921 g0 (i := 3) (by omega)
          refine X.reti i38_6 rfl t38 ?_
          show X (EE s) d 26 85 [(0, zr g0 8), (1, zi a1), (2, zi v507), (3, zi v511), (4, zi v514)] [zi (m920 g0 10 3), zi v511, zi v514, zr g0 33] m920 _
          refine X.aload_n 86 i26_85 rfl rfl rfl ?_
          refine X.getR 89 i26_86 rfl rfl (by decide) rfl rfl ?_
          refine X.aload_n 90 i26_89 rfl rfl rfl ?_
          refine X.getI 93 9 i26_90 rfl rfl (by decide) rfl rfl rfl ?_
          have h925 := r8_9 hJ921 g0
          refine X.callv 96 [zi v514, zi v511, zi (m920 g0 10 3), zr g0 37, zi (m920 g0 8 9)] [] [(0, zr g0 33), (1, zi v514), (2, zi v511), (3, zi (m920 g0 10 3)), (4, zr g0 37), (5, zi (m920 g0 8 9))] i26_93 rfl (by decide) rfl rfl (by omega) rfl rfl (by decide) rfl t56 (Nat.le_of_ble_eq_true rfl) (Nat.le_of_ble_eq_true rfl) rfl ?_
          refine c56_1 (S := zfr [] S) (m0 := m920) (B := B + 1) g0 g0 v514 v511 (m920 g0 10 3) (m920 g0 8 9) (by omega) (hJ921.ow.up (by omega)) (by omega) (by omega) (by omega) (by omega) (by omega) (fun m926 hJ927 => ?_)
          have hJ929 := hJ921.trans hJ927 zi_n
          have wt930 : m926 g0 8 9 = ((m522 g0 8 9) + (v514 - 1)) := Eq.trans (hJ927.eq rfl rfl) wt922
          have wt931 : m926 g0 8 13 = ((m515 g0 8 13) + v514) := Eq.trans (hJ927.eq rfl rfl) wt923
          clear wt923
          show X (EE s) d 26 96 [(0, zr g0 8), (1, zi a1), (2, zi v507), (3, zi v511), (4, zi v514)] [] m926 _
          refine X.aload_n 97 i26_96 rfl rfl rfl ?_
          refine X.getR 100 i26_97 rfl rfl (by decide) rfl rfl ?_
          refine X.iload 102 i26_100 rfl rfl rfl ?_
          refine X.aload_n 103 i26_102 rfl rfl rfl ?_
          refine X.getR 106 i26_103 rfl rfl (by decide) rfl rfl ?_
          refine X.getIr 109 3 i26_106 rfl rfl (by decide) rfl rfl rfl (fun h932 => ?_)
          refine X.callv 112 [zi v514, zi (m926 g0 33 3)] [] [(0, zr g0 27), (1, zi v514), (2, zi (m926 g0 33 3))] i26_109 rfl (by decide) rfl rfl (by omega) rfl rfl (by decide) rfl t58 (Nat.le_of_ble_eq_true rfl) (Nat.le_of_ble_eq_true rfl) rfl ?_
          refine X.aload_n 1 i58_0 rfl rfl rfl ?_
          refine X.dup 2 i58_1 rfl rfl rfl ?_
          refine X.getIr 5 6 i58_2 rfl rfl (by decide) rfl rfl rfl (fun h933 => ?_)
          refine X.iload_n 6 i58_5 rfl rfl rfl ?_
          refine X.iiF 7 .iadd (fun x y => x + y) i58_6 rfl rfl rfl (fun _ _ => rfl) (fun z934 hz934 => ?_)
          refine X.putI' 10 6 i58_7 rfl rfl (by decide) rfl rfl rfl (fun hrm935 m935 hm935 => ?_)
          have hJ936 := w27_3 hJ929 hm935 (by omega) hrm935
          have wt937 : m935 g0 8 9 = ((m522 g0 8 9) + (v514 - 1)) := Eq.trans (by rw [hm935]; exact z_upd_o _ _ rfl) wt930
          have wt938 : m935 g0 8 13 = ((m515 g0 8 13) + v514) := Eq.trans (by rw [hm935]; exact z_upd_o _ _ rfl) wt931
          clear wt930 wt931
          refine X.aload_n 11 i58_10 rfl rfl rfl ?_
          refine X.dup 12 i58_11 rfl rfl rfl ?_
          refine X.getIr 15 8 i58_12 rfl rfl (by decide) rfl rfl rfl (fun h939 => ?_)
          refine X.iload_n 16 i58_15 rfl rfl rfl ?_
          refine X.iiF 17 .ior (fun x y => x ||| y) i58_16 rfl rfl rfl (fun _ _ => rfl) (fun z940 hz940 => ?_)
          refine X.putI' 20 8 i58_17 rfl rfl (by decide) rfl rfl rfl (fun hrm941 m941 hm941 => ?_)
          have hJ942 := w27_3 hJ936 hm941 (by omega) hrm941
          have wt943 : m941 g0 8 9 = ((m522 g0 8 9) + (v514 - 1)) := Eq.trans (by rw [hm941]; exact z_upd_o _ _ rfl) wt937
          have wt944 : m941 g0 8 13 = ((m515 g0 8 13) + v514) := Eq.trans (by rw [hm941]; exact z_upd_o _ _ rfl) wt938
          clear wt937 wt938
          refine X.retv i58_20 rfl t58 ?_
          show X (EE s) d 26 112 [(0, zr g0 8), (1, zi a1), (2, zi v507), (3, zi v511), (4, zi v514)] [] m941 _
          refine X.aload_n 113 i26_112 rfl rfl rfl ?_
          refine X.getI 116 9 i26_113 rfl rfl (by decide) rfl rfl rfl ?_
          have h945 := r8_9 hJ942 g0
          refine X.ldc 118 i26_116 rfl rfl (by decide) ?_
          refine X.icmpge 131 121 i26_118 rfl rfl rfl (fun h946 => ?_) (fun h946 => ?_)
          · refine X.cut [(0, zr g0 8), (2, zi v507), (4, zi v514)] i26_131 rfl ?_
            refine X.aload_n 132 i26_131 rfl rfl rfl ?_
            refine X.iload_n 133 i26_132 rfl rfl rfl ?_
            refine X.callv 136 [zi v507] [] [(0, zr g0 8), (1, zi v507)] i26_133 rfl (by decide) rfl rfl (by omega) rfl rfl (by decide) rfl t59 (Nat.le_of_ble_eq_true rfl) (Nat.le_of_ble_eq_true rfl) rfl ?_
            refine c59_1 (S := zfr [] S) (m0 := m941) (B := B + 7) g0 v507 (by omega) (hJ942.ow.up (by omega)) (by omega) (by omega) (fun m947 hJ948 => ?_)
            have hJ950 := hJ942.trans hJ948 zi_n
            have wt951 : m947 g0 8 9 = ((m522 g0 8 9) + (v514 - 1)) := Eq.trans (hJ948.eq rfl rfl) wt943
            have wt952 : m947 g0 8 13 = ((m515 g0 8 13) + v514) := Eq.trans (hJ948.eq rfl rfl) wt944
            clear wt944
            show X (EE s) d 26 136 [(0, zr g0 8), (2, zi v507), (4, zi v514)] [] m947 _
            refine X.iload 138 i26_136 rfl rfl rfl ?_
            refine X.reti i26_138 rfl t26 ?_
            exact hQ v514 m947 (by first | trivial | omega) (hJ950.up (by omega)) (by omega) (by omega) (by exact ⟨by omega, by omega⟩)
          · refine X.aload_n 122 i26_121 rfl rfl rfl ?_
            refine X.dup 123 i26_122 rfl rfl rfl ?_
            refine X.getI 126 9 i26_123 rfl rfl (by decide) rfl rfl rfl ?_
            refine X.iconst 127 i26_126 rfl rfl (by decide) ?_
            refine X.iadd 128 i26_127 rfl rfl (by omega) ?_
            refine X.putI' 131 9 i26_128 rfl rfl (by decide) rfl rfl rfl (fun hrm953 m953 hm953 => ?_)
            have hJ954 := w8_9 hJ942 hm953 (by omega) hs0
            have wt955 : m953 g0 8 9 = ((m941 g0 8 9) + 1) := by rw [hm953]; exact z_upd_same _ _ _ _ _
            have wt956 : m953 g0 8 13 = ((m515 g0 8 13) + v514) := Eq.trans (by rw [hm953]; exact z_upd_o _ _ rfl) wt944
            clear wt944
            have em953 : m953 g0 8 9 = ((m941 g0 8 9) + 1) := by rw [hm953]; exact z_upd_same _ _ _ _ _
            refine X.cut [(0, zr g0 8), (2, zi v507), (4, zi v514)] i26_131 rfl ?_
            refine X.aload_n 132 i26_131 rfl rfl rfl ?_
            refine X.iload_n 133 i26_132 rfl rfl rfl ?_
            refine X.callv 136 [zi v507] [] [(0, zr g0 8), (1, zi v507)] i26_133 rfl (by decide) rfl rfl (by omega) rfl rfl (by decide) rfl t59 (Nat.le_of_ble_eq_true rfl) (Nat.le_of_ble_eq_true rfl) rfl ?_
            refine c59_1 (S := zfr [] S) (m0 := m953) (B := B + 7) g0 v507 (by omega) (hJ954.ow.up (by omega)) (by omega) (by omega) (fun m957 hJ958 => ?_)
            have hJ960 := hJ954.trans hJ958 zi_n
            have wt961 : m957 g0 8 9 = ((m941 g0 8 9) + 1) := Eq.trans (hJ958.eq rfl rfl) wt955
            have wt962 : m957 g0 8 13 = ((m515 g0 8 13) + v514) := Eq.trans (hJ958.eq rfl rfl) wt956
            clear wt955 wt956
            show X (EE s) d 26 136 [(0, zr g0 8), (2, zi v507), (4, zi v514)] [] m957 _
            refine X.iload 138 i26_136 rfl rfl rfl ?_
            refine X.reti i26_138 rfl t26 ?_
            exact hQ v514 m957 (by first | trivial | omega) (hJ960.up (by omega)) (by omega) (by omega) (by exact ⟨by omega, by omega⟩)
        · refine X.bipush 45 i53_43 rfl rfl (by decide) ?_
          refine X.goto 50 i53_45 rfl rfl ?_
          refine X.cut [] i53_50 rfl ?_
          refine X.iconst 51 i53_50 rfl rfl (by decide) ?_
          refine X.callv 54 [zi 22, zi 0] [] [(0, zr g0 8), (1, zi 22), (2, zi 0)] i53_51 rfl (by decide) rfl rfl (by omega) rfl rfl (by decide) rfl t54 (Nat.le_of_ble_eq_true rfl) (Nat.le_of_ble_eq_true rfl) rfl ?_
          refine X.aload_n 1 i54_0 rfl rfl rfl ?_
          refine X.getR 4 i54_1 rfl rfl (by decide) rfl rfl ?_
          refine X.aload_n 5 i54_4 rfl rfl rfl ?_
          refine X.getI 8 9 i54_5 rfl rfl (by decide) rfl rfl rfl ?_
          have h963 := r8_9 hJ900 g0
          refine X.iload_n 9 i54_8 rfl rfl rfl ?_
          refine X.iload_n 10 i54_9 rfl rfl rfl ?_
          refine X.callv 13 [zi (m899 g0 8 9), zi 22, zi 0] [] [(0, zr g0 37), (1, zi (m899 g0 8 9)), (2, zi 22), (3, zi 0)] i54_10 rfl (by decide) rfl rfl (by omega) rfl rfl (by decide) rfl t55 (Nat.le_of_ble_eq_true rfl) (Nat.le_of_ble_eq_true rfl) rfl ?_
          refine X.aload_n 1 i55_0 rfl rfl rfl ?_
          refine X.getI 4 1 i55_1 rfl rfl (by decide) rfl rfl rfl ?_
          have h964 := r37_1 hJ900 g0
          refine X.bipush 6 i55_4 rfl rfl (by decide) ?_
          refine X.irem 7 i55_6 rfl rfl (by omega) ?_
          refine X.iconst 8 i55_7 rfl rfl (by decide) ?_
          refine X.imul 9 i55_8 rfl rfl (by omega) ?_
          refine X.istore 11 [(0, zr g0 37), (1, zi (m899 g0 8 9)), (2, zi 22), (3, zi 0), (4, zi (((m899 g0 37 1) % 40) * 3))] i55_9 rfl rfl rfl ?_
          refine X.aload_n 12 i55_11 rfl rfl rfl ?_
          refine X.getR 15 i55_12 rfl rfl (by decide) rfl rfl ?_
          refine X.iload 17 i55_15 rfl rfl rfl ?_
          refine X.iload_n 18 i55_17 rfl rfl rfl ?_
          refine X.iast' 19 i55_18 rfl rfl (by decide) rfl (by omega) (fun hrm965 m965 hm965 => ?_)
          have hJ966 := w38_0 hJ900 hm965 (by omega) hrm965
          have wt967 : m965 g0 8 9 = ((m522 g0 8 9) + (v514 - 1)) := Eq.trans (by rw [hm965]; exact z_upd_o _ _ rfl) wt901
          have wt968 : m965 g0 8 13 = ((m515 g0 8 13) + v514) := Eq.trans (by rw [hm965]; exact z_upd_o _ _ rfl) wt902
          clear wt902
          refine X.aload_n 20 i55_19 rfl rfl rfl ?_
          refine X.getR 23 i55_20 rfl rfl (by decide) rfl rfl ?_
          refine X.iload 25 i55_23 rfl rfl rfl ?_
          refine X.iconst 26 i55_25 rfl rfl (by decide) ?_
          refine X.iadd 27 i55_26 rfl rfl (by omega) ?_
          refine X.iload_n 28 i55_27 rfl rfl rfl ?_
          refine X.iast' 29 i55_28 rfl rfl (by decide) rfl (by omega) (fun hrm969 m969 hm969 => ?_)
          have hJ970 := w38_0 hJ966 hm969 (by omega) hrm969
          have wt971 : m969 g0 8 9 = ((m522 g0 8 9) + (v514 - 1)) := Eq.trans (by rw [hm969]; exact z_upd_o _ _ rfl) wt967
          have wt972 : m969 g0 8 13 = ((m515 g0 8 13) + v514) := Eq.trans (by rw [hm969]; exact z_upd_o _ _ rfl) wt968
          clear wt967 wt968
          refine X.aload_n 30 i55_29 rfl rfl rfl ?_
          refine X.getR 33 i55_30 rfl rfl (by decide) rfl rfl ?_
          refine X.iload 35 i55_33 rfl rfl rfl ?_
          refine X.iconst 36 i55_35 rfl rfl (by decide) ?_
          refine X.iadd 37 i55_36 rfl rfl (by omega) ?_
          refine X.iload_n 38 i55_37 rfl rfl rfl ?_
          refine X.iast' 39 i55_38 rfl rfl (by decide) rfl (by omega) (fun hrm973 m973 hm973 => ?_)
          have hJ974 := w38_0 hJ970 hm973 (by omega) hrm973
          have wt975 : m973 g0 8 9 = ((m522 g0 8 9) + (v514 - 1)) := Eq.trans (by rw [hm973]; exact z_upd_o _ _ rfl) wt971
          have wt976 : m973 g0 8 13 = ((m515 g0 8 13) + v514) := Eq.trans (by rw [hm973]; exact z_upd_o _ _ rfl) wt972
          clear wt971 wt972
          refine X.aload_n 40 i55_39 rfl rfl rfl ?_
          refine X.dup 41 i55_40 rfl rfl rfl ?_
          refine X.getI 44 1 i55_41 rfl rfl (by decide) rfl rfl rfl ?_
          have h977 := r37_1 hJ974 g0
          refine X.iconst 45 i55_44 rfl rfl (by decide) ?_
          refine X.iadd 46 i55_45 rfl rfl (by omega) ?_
          refine X.putI' 49 1 i55_46 rfl rfl (by decide) rfl rfl rfl (fun hrm978 m978 hm978 => ?_)
          have hJ979 := w37_1 (hJ974.up (B' := B + 1) (by omega)) hm978 (by omega)
          have wt980 : m978 g0 8 9 = ((m522 g0 8 9) + (v514 - 1)) := Eq.trans (by rw [hm978]; exact z_upd_o _ _ rfl) wt975
          have wt981 : m978 g0 8 13 = ((m515 g0 8 13) + v514) := Eq.trans (by rw [hm978]; exact z_upd_o _ _ rfl) wt976
          clear wt975 wt976
          refine X.retv i55_49 rfl t55 ?_
          show X (EE s) ((d - 1) - 1) 54 13 [(0, zr g0 8), (1, zi 22), (2, zi 0)] [] m978 _
          refine X.retv i54_13 rfl t54 ?_
          show X (EE s) (d - 1) 53 54 [] [] m978 _
          refine X.retv i53_54 rfl t53 ?_
          show X (EE s) d 26 71 [(0, zr g0 8), (1, zi a1), (2, zi v507), (3, zi v511), (4, zi v514)] [] m978 _
          refine X.aload_n 72 i26_71 rfl rfl rfl ?_
          refine X.getR 75 i26_72 rfl rfl (by decide) rfl rfl ?_
          refine X.iload 77 i26_75 rfl rfl rfl ?_
          refine X.iload_n 78 i26_77 rfl rfl rfl ?_
          refine X.aload_n 79 i26_78 rfl rfl rfl ?_
          refine X.getR 82 i26_79 rfl rfl (by decide) rfl rfl ?_
          refine X.callv 85 [] [zi v511, zi v514, zr g0 33] [(0, zr g0 9)] i26_82 rfl (by decide) rfl rfl (by omega) rfl rfl (by decide) rfl t38 (Nat.le_of_ble_eq_true rfl) (Nat.le_of_ble_eq_true rfl) rfl ?_
          refine X.aload_n 1 i38_0 rfl rfl rfl ?_
          refine X.getR 4 i38_1 rfl rfl (by decide) rfl rfl ?_
          refine X.iconst 5 i38_4 rfl rfl (by decide) ?_
          refine X.iald 6 i38_5 rfl rfl (by decide) rfl (by omega) ?_
          have h982 := r10_0 hJ979 g0 (i := 3) (by omega)
          refine X.reti i38_6 rfl t38 ?_
          show X (EE s) d 26 85 [(0, zr g0 8), (1, zi a1), (2, zi v507), (3, zi v511), (4, zi v514)] [zi (m978 g0 10 3), zi v511, zi v514, zr g0 33] m978 _
          refine X.aload_n 86 i26_85 rfl rfl rfl ?_
          refine X.getR 89 i26_86 rfl rfl (by decide) rfl rfl ?_
          refine X.aload_n 90 i26_89 rfl rfl rfl ?_
          refine X.getI 93 9 i26_90 rfl rfl (by decide) rfl rfl rfl ?_
          have h983 := r8_9 hJ979 g0
          refine X.callv 96 [zi v514, zi v511, zi (m978 g0 10 3), zr g0 37, zi (m978 g0 8 9)] [] [(0, zr g0 33), (1, zi v514), (2, zi v511), (3, zi (m978 g0 10 3)), (4, zr g0 37), (5, zi (m978 g0 8 9))] i26_93 rfl (by decide) rfl rfl (by omega) rfl rfl (by decide) rfl t56 (Nat.le_of_ble_eq_true rfl) (Nat.le_of_ble_eq_true rfl) rfl ?_
          refine c56_1 (S := zfr [] S) (m0 := m978) (B := B + 1) g0 g0 v514 v511 (m978 g0 10 3) (m978 g0 8 9) (by omega) (hJ979.ow.up (by omega)) (by omega) (by omega) (by omega) (by omega) (by omega) (fun m984 hJ985 => ?_)
          have hJ987 := hJ979.trans hJ985 zi_n
          have wt988 : m984 g0 8 9 = ((m522 g0 8 9) + (v514 - 1)) := Eq.trans (hJ985.eq rfl rfl) wt980
          have wt989 : m984 g0 8 13 = ((m515 g0 8 13) + v514) := Eq.trans (hJ985.eq rfl rfl) wt981
          clear wt981
          show X (EE s) d 26 96 [(0, zr g0 8), (1, zi a1), (2, zi v507), (3, zi v511), (4, zi v514)] [] m984 _
          refine X.aload_n 97 i26_96 rfl rfl rfl ?_
          refine X.getR 100 i26_97 rfl rfl (by decide) rfl rfl ?_
          refine X.iload 102 i26_100 rfl rfl rfl ?_
          refine X.aload_n 103 i26_102 rfl rfl rfl ?_
          refine X.getR 106 i26_103 rfl rfl (by decide) rfl rfl ?_
          refine X.getIr 109 3 i26_106 rfl rfl (by decide) rfl rfl rfl (fun h990 => ?_)
          refine X.callv 112 [zi v514, zi (m984 g0 33 3)] [] [(0, zr g0 27), (1, zi v514), (2, zi (m984 g0 33 3))] i26_109 rfl (by decide) rfl rfl (by omega) rfl rfl (by decide) rfl t58 (Nat.le_of_ble_eq_true rfl) (Nat.le_of_ble_eq_true rfl) rfl ?_
          refine X.aload_n 1 i58_0 rfl rfl rfl ?_
          refine X.dup 2 i58_1 rfl rfl rfl ?_
          refine X.getIr 5 6 i58_2 rfl rfl (by decide) rfl rfl rfl (fun h991 => ?_)
          refine X.iload_n 6 i58_5 rfl rfl rfl ?_
          refine X.iiF 7 .iadd (fun x y => x + y) i58_6 rfl rfl rfl (fun _ _ => rfl) (fun z992 hz992 => ?_)
          refine X.putI' 10 6 i58_7 rfl rfl (by decide) rfl rfl rfl (fun hrm993 m993 hm993 => ?_)
          have hJ994 := w27_3 hJ987 hm993 (by omega) hrm993
          have wt995 : m993 g0 8 9 = ((m522 g0 8 9) + (v514 - 1)) := Eq.trans (by rw [hm993]; exact z_upd_o _ _ rfl) wt988
          have wt996 : m993 g0 8 13 = ((m515 g0 8 13) + v514) := Eq.trans (by rw [hm993]; exact z_upd_o _ _ rfl) wt989
          clear wt988 wt989
          refine X.aload_n 11 i58_10 rfl rfl rfl ?_
          refine X.dup 12 i58_11 rfl rfl rfl ?_
          refine X.getIr 15 8 i58_12 rfl rfl (by decide) rfl rfl rfl (fun h997 => ?_)
          refine X.iload_n 16 i58_15 rfl rfl rfl ?_
          refine X.iiF 17 .ior (fun x y => x ||| y) i58_16 rfl rfl rfl (fun _ _ => rfl) (fun z998 hz998 => ?_)
          refine X.putI' 20 8 i58_17 rfl rfl (by decide) rfl rfl rfl (fun hrm999 m999 hm999 => ?_)
          have hJ1000 := w27_3 hJ994 hm999 (by omega) hrm999
          have wt1001 : m999 g0 8 9 = ((m522 g0 8 9) + (v514 - 1)) := Eq.trans (by rw [hm999]; exact z_upd_o _ _ rfl) wt995
          have wt1002 : m999 g0 8 13 = ((m515 g0 8 13) + v514) := Eq.trans (by rw [hm999]; exact z_upd_o _ _ rfl) wt996
          clear wt995 wt996
          refine X.retv i58_20 rfl t58 ?_
          show X (EE s) d 26 112 [(0, zr g0 8), (1, zi a1), (2, zi v507), (3, zi v511), (4, zi v514)] [] m999 _
          refine X.aload_n 113 i26_112 rfl rfl rfl ?_
          refine X.getI 116 9 i26_113 rfl rfl (by decide) rfl rfl rfl ?_
          have h1003 := r8_9 hJ1000 g0
          refine X.ldc 118 i26_116 rfl rfl (by decide) ?_
          refine X.icmpge 131 121 i26_118 rfl rfl rfl (fun h1004 => ?_) (fun h1004 => ?_)
          · refine X.cut [(0, zr g0 8), (2, zi v507), (4, zi v514)] i26_131 rfl ?_
            refine X.aload_n 132 i26_131 rfl rfl rfl ?_
            refine X.iload_n 133 i26_132 rfl rfl rfl ?_
            refine X.callv 136 [zi v507] [] [(0, zr g0 8), (1, zi v507)] i26_133 rfl (by decide) rfl rfl (by omega) rfl rfl (by decide) rfl t59 (Nat.le_of_ble_eq_true rfl) (Nat.le_of_ble_eq_true rfl) rfl ?_
            refine c59_1 (S := zfr [] S) (m0 := m999) (B := B + 7) g0 v507 (by omega) (hJ1000.ow.up (by omega)) (by omega) (by omega) (fun m1005 hJ1006 => ?_)
            have hJ1008 := hJ1000.trans hJ1006 zi_n
            have wt1009 : m1005 g0 8 9 = ((m522 g0 8 9) + (v514 - 1)) := Eq.trans (hJ1006.eq rfl rfl) wt1001
            have wt1010 : m1005 g0 8 13 = ((m515 g0 8 13) + v514) := Eq.trans (hJ1006.eq rfl rfl) wt1002
            clear wt1002
            show X (EE s) d 26 136 [(0, zr g0 8), (2, zi v507), (4, zi v514)] [] m1005 _
            refine X.iload 138 i26_136 rfl rfl rfl ?_
            refine X.reti i26_138 rfl t26 ?_
            exact hQ v514 m1005 (by first | trivial | omega) (hJ1008.up (by omega)) (by omega) (by omega) (by exact ⟨by omega, by omega⟩)
          · refine X.aload_n 122 i26_121 rfl rfl rfl ?_
            refine X.dup 123 i26_122 rfl rfl rfl ?_
            refine X.getI 126 9 i26_123 rfl rfl (by decide) rfl rfl rfl ?_
            refine X.iconst 127 i26_126 rfl rfl (by decide) ?_
            refine X.iadd 128 i26_127 rfl rfl (by omega) ?_
            refine X.putI' 131 9 i26_128 rfl rfl (by decide) rfl rfl rfl (fun hrm1011 m1011 hm1011 => ?_)
            have hJ1012 := w8_9 hJ1000 hm1011 (by omega) hs0
            have wt1013 : m1011 g0 8 9 = ((m999 g0 8 9) + 1) := by rw [hm1011]; exact z_upd_same _ _ _ _ _
            have wt1014 : m1011 g0 8 13 = ((m515 g0 8 13) + v514) := Eq.trans (by rw [hm1011]; exact z_upd_o _ _ rfl) wt1002
            clear wt1002
            have em1011 : m1011 g0 8 9 = ((m999 g0 8 9) + 1) := by rw [hm1011]; exact z_upd_same _ _ _ _ _
            refine X.cut [(0, zr g0 8), (2, zi v507), (4, zi v514)] i26_131 rfl ?_
            refine X.aload_n 132 i26_131 rfl rfl rfl ?_
            refine X.iload_n 133 i26_132 rfl rfl rfl ?_
            refine X.callv 136 [zi v507] [] [(0, zr g0 8), (1, zi v507)] i26_133 rfl (by decide) rfl rfl (by omega) rfl rfl (by decide) rfl t59 (Nat.le_of_ble_eq_true rfl) (Nat.le_of_ble_eq_true rfl) rfl ?_
            refine c59_1 (S := zfr [] S) (m0 := m1011) (B := B + 7) g0 v507 (by omega) (hJ1012.ow.up (by omega)) (by omega) (by omega) (fun m1015 hJ1016 => ?_)
            have hJ1018 := hJ1012.trans hJ1016 zi_n
            have wt1019 : m1015 g0 8 9 = ((m999 g0 8 9) + 1) := Eq.trans (hJ1016.eq rfl rfl) wt1013
            have wt1020 : m1015 g0 8 13 = ((m515 g0 8 13) + v514) := Eq.trans (hJ1016.eq rfl rfl) wt1014
            clear wt1013 wt1014
            show X (EE s) d 26 136 [(0, zr g0 8), (2, zi v507), (4, zi v514)] [] m1015 _
            refine X.iload 138 i26_136 rfl rfl rfl ?_
            refine X.reti i26_138 rfl t26 ?_
            exact hQ v514 m1015 (by first | trivial | omega) (hJ1018.up (by omega)) (by omega) (by omega) (by exact ⟨by omega, by omega⟩)
theorem l25_4_1 {s : Nat × (Nat → Int32)} {S : zS} {m0 : zM} {d : Nat} {Q : Option zV → zM → Prop} (g0 : Nat) (y1 : Int) (BE : Int) (hE : BE ≤ 1000000000) (hd : 18 ≤ d) (hy1 : 1 ≤ y1 ∧ y1 ≤ 1) (hs0 : S.1 g0 8 9) (hs1 : S.1 g0 8 13)
    (K27 : ∀ (m' : zM) (B' : Int), J S m0 B' m' → B' ≤ BE → (m0 g0 8 13 ≤ 1200000000) → (m' g0 8 9 = min (m0 g0 8 9 + y1) 2000000000) → (m' g0 8 13 = m0 g0 8 13 + y1) → X (EE s) d 25 27 [] [] m' Q) :
    ∀ (n : Nat) (y2 y3 : Int) (m : zM) (B : Int), J S m0 B m → B + 8 * (n : Int) ≤ BE → (0 ≤ y2 ∧ y2 ≤ 3600) → (0 ≤ y3 ∧ y3 ≤ 1) → (0 ≤ y2) → (y2 + y3 ≤ y1) → (m g0 8 9 = min (m0 g0 8 9 + (y1 - y2)) 2000000000) → (m g0 8 13 + y2 = m0 g0 8 13 + y1) → (m0 g0 8 13 ≤ 1200000000) → 1 - y3 < (n : Int) → X (EE s) d 25 4 [(0, zr g0 8), (1, zi y1), (2, zi y2), (3, zi y3)] [] m Q := by
  intro n
  induction n with
  | zero =>
    intro y2 y3 m B hJ hB  hy2 hy3 hr0 hr1 hr2 hr3 hr4 hn
    exfalso
    omega
  | succ n ih =>
    intro y2 y3 m B hJ hB  hy2 hy3 hr0 hr1 hr2 hr3 hr4 hn
    refine X.iload_n 5 i25_4 rfl rfl rfl ?_
    refine X.iload_n 6 i25_5 rfl rfl rfl ?_
    refine X.icmpge 27 9 i25_6 rfl rfl rfl (fun h507 => ?_) (fun h507 => ?_)
    · refine X.cut [] i25_27 rfl ?_
      exact K27  m (B) (hJ.up (by omega)) (by omega)  (by omega) (by omega) (by omega)
    · refine X.iload_n 10 i25_9 rfl rfl rfl ?_
      refine X.ifle 27 13 i25_10 rfl rfl rfl (fun h508 => ?_) (fun h508 => ?_)
      · refine X.cut [] i25_27 rfl ?_
        exact K27  m (B) (hJ.up (by omega)) (by omega)  (by omega) (by omega) (by omega)
      · refine X.iload_n 14 i25_13 rfl rfl rfl ?_
        refine X.aload_n 15 i25_14 rfl rfl rfl ?_
        refine X.iload_n 16 i25_15 rfl rfl rfl ?_
        refine X.callv 19 [zi y2] [zi y2] [(0, zr g0 8), (1, zi y2)] i25_16 rfl (by decide) rfl rfl (by omega) rfl rfl (by decide) rfl t26 (Nat.le_of_ble_eq_true rfl) (Nat.le_of_ble_eq_true rfl) rfl ?_
        refine c26_1 (S := zfr [(g0, 8, 9), (g0, 8, 13)] S) (m0 := m) (B := B) g0 y2 (by omega) (hJ.ow.up (by omega)) (by omega) (by omega) (by omega) (by omega) zm_z (zm_s zm_z) (fun v511 m509 hv511 hJ510 hqv5110 hqv5111 hqv5112 => ?_)
        have hJ512 := hJ.trans hJ510 (zi_c hs0 (zi_c hs1 zi_n))
        show X (EE s) d 25 19 [(0, zr g0 8), (1, zi y1), (2, zi y2), (3, zi y3)] [zi v511, zi y2] m509 _
        refine X.isub 20 i25_19 rfl rfl (by omega) ?_
        refine X.istore_n 21 [(0, zr g0 8), (1, zi y1), (2, zi (y2 - v511)), (3, zi y3)] i25_20 rfl rfl rfl ?_
        refine X.iinc 24 [(0, zr g0 8), (1, zi y1), (2, zi (y2 - v511)), (3, zi (y3 + 1))] i25_21 rfl rfl rfl (by omega) rfl ?_
        refine X.goto 4 i25_24 rfl rfl ?_
        exact ih (y2 - v511) (y3 + 1) m509 (B + 8) (hJ512.up (by omega)) (by omega)  (by omega) (by omega) (by omega) (by omega) (by omega) (by omega) (by omega) (by omega)
-- WorkMeter$Meter.meterTimes
theorem c25_1 {s : Nat × (Nat → Int32)} {S : zS} {m0 m : zM} {B : Int} {d : Nat} {Q : Option zV → zM → Prop} (g0 : Nat) (a1 : Int) (hd : 18 ≤ d) (hJ : J S m0 B m) (hB : B + 16 ≤ 1000000000) (ha1 : 1 ≤ a1 ∧ a1 ≤ 1) (hp0 : 1 ≤ a1) (hp1 : m g0 8 13 ≤ 1200000000) (hs0 : S.1 g0 8 9) (hs1 : S.1 g0 8 13) (hQ : ∀ m', J S m0 (B + 16) m' → (m' g0 8 9 = min (m g0 8 9 + a1) 2000000000 ∧ m' g0 8 13 = m g0 8 13 + a1) → Q none m') : X (EE s) d 25 0 [(0, zr g0 8), (1, zi a1)] [] m Q := by
  have f0 := r8_9 hJ g0
  refine X.iload_n 1 i25_0 rfl rfl rfl ?_
  refine X.istore_n 2 [(0, zr g0 8), (1, zi a1), (2, zi a1)] i25_1 rfl rfl rfl ?_
  refine X.iconst 3 i25_2 rfl rfl (by decide) ?_
  refine X.istore_n 4 [(0, zr g0 8), (1, zi a1), (2, zi a1), (3, zi 0)] i25_3 rfl rfl rfl ?_
  refine l25_4_1 (s := s) (S := (zfr [(g0, 8, 9), (g0, 8, 13)] S)) (m0 := m) (d := d) g0 a1 (BE := B + 16) (by omega) (by omega) (by omega) zm_z (zm_s zm_z) (fun  m501 B502 hJ503 hBB502 hrlm5010 hrlm5011 hrlm5012 => ?_) ((1 - 0 : Int).toNat + 1) a1 0 m (B) (hJ.ow.up (by omega)) (by omega)  (by omega) (by omega) (by omega) (by omega) (by omega) (by omega) (by omega) (by omega)
  have hJ504 := hJ.trans hJ503 (zi_c hs0 (zi_c hs1 zi_n))
  refine X.retv i25_27 rfl t25 ?_
  exact hQ  m501  (hJ504.up (by omega)) (by exact ⟨by omega, by omega⟩)
-- WorkMeter.sample
theorem c19_1 {s : Nat × (Nat → Int32)} {S : zS} {m0 m : zM} {B : Int} {d : Nat} {Q : Option zV → zM → Prop} (a1 a2 : Int) (hd : 19 ≤ d) (hJ : J S m0 B m) (hB : B + 16 ≤ 1000000000) (ha1 : (-2147483648) ≤ a1 ∧ a1 ≤ 2147483647) (ha2 : (-2147483648) ≤ a2 ∧ a2 ≤ 2147483647) (hp0 : m 0 8 13 ≤ 1000000000) (hs0 : S.1 0 19 5) (hs1 : S.1 0 8 9) (hs2 : S.1 0 8 13) (hQ : ∀ (v : Int) m', ((-1) ≤ v ∧ v ≤ 47) → J S m0 (B + 16) m' → ((v = -1 ∧ ¬ (-500 ≤ a1 ∧ a1 ≤ 500 ∧ -500 ≤ a2 ∧ a2 ≤ 500) ∧ m' 0 19 5 = m 0 19 5 ∧ m' 0 8 9 = m 0 8 9 ∧ m' 0 8 13 = m 0 8 13) ∨ (v = m 0 19 5 + 1 ∧ -500 ≤ a1 ∧ a1 ≤ 500 ∧ -500 ≤ a2 ∧ a2 ≤ 500 ∧ m 0 19 5 + 1 < m 0 19 3 * m 0 19 4 ∧ m' 0 19 5 = m 0 19 5 + 1 ∧ m' 0 8 9 = m 0 8 9 ∧ m' 0 8 13 = m 0 8 13) ∨ (v = 0 ∧ -500 ≤ a1 ∧ a1 ≤ 500 ∧ -500 ≤ a2 ∧ a2 ≤ 500 ∧ m 0 19 3 * m 0 19 4 ≤ m 0 19 5 + 1 ∧ m' 0 19 5 = 0 ∧ m' 0 8 9 = min (m 0 8 9 + 1) 2000000000 ∧ m' 0 8 13 = m 0 8 13 + 1)) → Q (some (zi v)) m') : X (EE s) d 19 0 [(0, zr 4 40), (1, zi a1), (2, zi a2)] [] m Q := by
  refine X.iload_n 1 i19_0 rfl rfl rfl ?_
  refine X.sipush 4 i19_1 rfl rfl (by decide) ?_
  refine X.icmplt 28 7 i19_4 rfl rfl rfl (fun h501 => ?_) (fun h501 => ?_)
  · refine X.cut [] i19_28 rfl ?_
    refine X.iconst 29 i19_28 rfl rfl (by decide) ?_
    refine X.reti i19_29 rfl t19 ?_
    exact hQ (-1) m (by first | trivial | omega) (hJ.up (by omega)) (by first | exact (.inl ⟨by omega, by omega, by omega, by omega, by omega⟩) | exact (.inr (.inl ⟨by omega, by omega, by omega, by omega, by omega, by omega, by omega, by omega, by omega⟩)) | exact (.inr (.inr ⟨by omega, by omega, by omega, by omega, by omega, by omega, by omega, by omega, by omega⟩)))
  · refine X.iload_n 8 i19_7 rfl rfl rfl ?_
    refine X.sipush 11 i19_8 rfl rfl (by decide) ?_
    refine X.icmpgt 28 14 i19_11 rfl rfl rfl (fun h502 => ?_) (fun h502 => ?_)
    · refine X.cut [] i19_28 rfl ?_
      refine X.iconst 29 i19_28 rfl rfl (by decide) ?_
      refine X.reti i19_29 rfl t19 ?_
      exact hQ (-1) m (by first | trivial | omega) (hJ.up (by omega)) (by first | exact (.inl ⟨by omega, by omega, by omega, by omega, by omega⟩) | exact (.inr (.inl ⟨by omega, by omega, by omega, by omega, by omega, by omega, by omega, by omega, by omega⟩)) | exact (.inr (.inr ⟨by omega, by omega, by omega, by omega, by omega, by omega, by omega, by omega, by omega⟩)))
    · refine X.iload_n 15 i19_14 rfl rfl rfl ?_
      refine X.sipush 18 i19_15 rfl rfl (by decide) ?_
      refine X.icmplt 28 21 i19_18 rfl rfl rfl (fun h503 => ?_) (fun h503 => ?_)
      · refine X.cut [] i19_28 rfl ?_
        refine X.iconst 29 i19_28 rfl rfl (by decide) ?_
        refine X.reti i19_29 rfl t19 ?_
        exact hQ (-1) m (by first | trivial | omega) (hJ.up (by omega)) (by first | exact (.inl ⟨by omega, by omega, by omega, by omega, by omega⟩) | exact (.inr (.inl ⟨by omega, by omega, by omega, by omega, by omega, by omega, by omega, by omega, by omega⟩)) | exact (.inr (.inr ⟨by omega, by omega, by omega, by omega, by omega, by omega, by omega, by omega, by omega⟩)))
      · refine X.iload_n 22 i19_21 rfl rfl rfl ?_
        refine X.sipush 25 i19_22 rfl rfl (by decide) ?_
        refine X.icmple 30 28 i19_25 rfl rfl rfl (fun h504 => ?_) (fun h504 => ?_)
        · refine X.aload_n 31 i19_30 rfl rfl rfl ?_
          refine X.getF 34 i19_31 rfl rfl (by decide) rfl rfl ?_
          refine X.getR 37 i19_34 rfl rfl (by decide) rfl rfl ?_
          refine X.iload_n 38 i19_37 rfl rfl rfl ?_
          refine X.iload_n 39 i19_38 rfl rfl rfl ?_
          refine X.callv 42 [zi a1, zi a2] [] [(0, zr 0 19), (1, zi a1), (2, zi a2)] i19_39 rfl (by decide) rfl rfl (by omega) rfl rfl (by decide) rfl t20 (Nat.le_of_ble_eq_true rfl) (Nat.le_of_ble_eq_true rfl) rfl ?_
          refine c20_1 (S := zfr [(0, 19, 5)] S) (m0 := m) (B := B) 0 a1 a2 (by omega) (hJ.ow.up (by omega)) (by omega) (by omega) (by omega) zm_z (fun v507 m505 hv507 hJ506 hqv5070 => ?_)
          have hJ508 := hJ.trans hJ506 (zi_c hs0 zi_n)
          have wt509 : m505 0 8 9 = (m 0 8 9) := hJ506.eq rfl rfl
          have wt510 : m505 0 8 13 = (m 0 8 13) := hJ506.eq rfl rfl
          have wt511 : m505 0 19 3 = (m 0 19 3) := hJ506.eq rfl rfl
          have wt512 : m505 0 19 4 = (m 0 19 4) := hJ506.eq rfl rfl
          show X (EE s) d 19 42 [(0, zr 4 40), (1, zi a1), (2, zi a2)] [zi v507] m505 _
          refine X.ifeq 53 45 i19_42 rfl rfl rfl (fun h513 => ?_) (fun h513 => ?_)
          · refine X.cut [(0, zr 4 40)] i19_53 rfl ?_
            refine X.aload_n 54 i19_53 rfl rfl rfl ?_
            refine X.getF 57 i19_54 rfl rfl (by decide) rfl rfl ?_
            refine X.getR 60 i19_57 rfl rfl (by decide) rfl rfl ?_
            refine X.getI 63 5 i19_60 rfl rfl (by decide) rfl rfl rfl ?_
            have h514 := r19_5 hJ508 0
            refine X.reti i19_63 rfl t19 ?_
            exact hQ (m505 0 19 5) m505 (by first | trivial | omega) (hJ508.up (by omega)) (by rcases hqv5070 with hqv5070 | hqv5070 <;> (first | exact (.inl ⟨by omega, by omega, by omega, by omega, by omega⟩) | exact (.inr (.inl ⟨by omega, by omega, by omega, by omega, by omega, by omega, by omega, by omega, by omega⟩)) | exact (.inr (.inr ⟨by omega, by omega, by omega, by omega, by omega, by omega, by omega, by omega, by omega⟩))))
          · refine X.aload_n 46 i19_45 rfl rfl rfl ?_
            refine X.getF 49 i19_46 rfl rfl (by decide) rfl rfl ?_
            refine X.iconst 50 i19_49 rfl rfl (by decide) ?_
            refine X.callv 53 [zi 1] [] [(0, zr 0 8), (1, zi 1)] i19_50 rfl (by decide) rfl rfl (by omega) rfl rfl (by decide) rfl t25 (Nat.le_of_ble_eq_true rfl) (Nat.le_of_ble_eq_true rfl) rfl ?_
            refine c25_1 (S := zfr [(0, 8, 9), (0, 8, 13)] S) (m0 := m505) (B := B) 0 1 (by omega) (hJ508.ow.up (by omega)) (by omega) (by omega) (by omega) (by omega) zm_z (zm_s zm_z) (fun m515 hJ516 hqv5170 => ?_)
            have hJ518 := hJ508.trans hJ516 (zi_c hs1 (zi_c hs2 zi_n))
            have wt519 : m515 0 19 5 = (m505 0 19 5) := hJ516.eq rfl rfl
            have wt520 : m515 0 19 3 = (m 0 19 3) := Eq.trans (hJ516.eq rfl rfl) wt511
            have wt521 : m515 0 19 4 = (m 0 19 4) := Eq.trans (hJ516.eq rfl rfl) wt512
            show X (EE s) d 19 53 [(0, zr 4 40), (1, zi a1), (2, zi a2)] [] m515 _
            refine X.cut [(0, zr 4 40)] i19_53 rfl ?_
            refine X.aload_n 54 i19_53 rfl rfl rfl ?_
            refine X.getF 57 i19_54 rfl rfl (by decide) rfl rfl ?_
            refine X.getR 60 i19_57 rfl rfl (by decide) rfl rfl ?_
            refine X.getI 63 5 i19_60 rfl rfl (by decide) rfl rfl rfl ?_
            have h522 := r19_5 hJ518 0
            refine X.reti i19_63 rfl t19 ?_
            exact hQ (m515 0 19 5) m515 (by first | trivial | omega) (hJ518.up (by omega)) (by rcases hqv5070 with hqv5070 | hqv5070 <;> (first | exact (.inl ⟨by omega, by omega, by omega, by omega, by omega⟩) | exact (.inr (.inl ⟨by omega, by omega, by omega, by omega, by omega, by omega, by omega, by omega, by omega⟩)) | exact (.inr (.inr ⟨by omega, by omega, by omega, by omega, by omega, by omega, by omega, by omega, by omega⟩))))
        · refine X.cut [] i19_28 rfl ?_
          refine X.iconst 29 i19_28 rfl rfl (by decide) ?_
          refine X.reti i19_29 rfl t19 ?_
          exact hQ (-1) m (by first | trivial | omega) (hJ.up (by omega)) (by first | exact (.inl ⟨by omega, by omega, by omega, by omega, by omega⟩) | exact (.inr (.inl ⟨by omega, by omega, by omega, by omega, by omega, by omega, by omega, by omega, by omega⟩)) | exact (.inr (.inr ⟨by omega, by omega, by omega, by omega, by omega, by omega, by omega, by omega, by omega⟩)))
theorem l205_139_1 {s : Nat × (Nat → Int32)} {S : zS} {m0 : zM} {d : Nat} {Q : Option zV → zM → Prop} (BE : Int) (hE : BE ≤ 1000000000) (hd : 13 ≤ d)
    (K173 : ∀ (m' : zM) (B' : Int), J S m0 B' m' → B' ≤ BE → X (EE s) d 205 173 [(0, zr 4 44)] [] m' Q) :
    ∀ (n : Nat) (y4 : Int) (m : zM) (B : Int), J S m0 B m → B + 0 * (n : Int) ≤ BE → (0 ≤ y4 ∧ y4 ≤ 96) → 96 - y4 < (n : Int) → X (EE s) d 205 139 [(0, zr 4 44), (4, zi y4)] [] m Q := by
  intro n
  induction n with
  | zero =>
    intro y4 m B hJ hB  hy4 hn
    exfalso
    omega
  | succ n ih =>
    intro y4 m B hJ hB  hy4 hn
    refine X.iload 141 i205_139 rfl rfl rfl ?_
    refine X.bipush 143 i205_141 rfl rfl (by decide) ?_
    refine X.icmpge 173 146 i205_143 rfl rfl rfl (fun h509 => ?_) (fun h509 => ?_)
    · refine X.cut [(0, zr 4 44)] i205_173 rfl ?_
      exact K173  m (B) (hJ.up (by omega)) (by omega)  
    · refine X.aload_n 147 i205_146 rfl rfl rfl ?_
      refine X.getF 150 i205_147 rfl rfl (by decide) rfl rfl ?_
      refine X.bipush 152 i205_150 rfl rfl (by decide) ?_
      refine X.iload 154 i205_152 rfl rfl rfl ?_
      refine X.iadd 155 i205_154 rfl rfl (by omega) ?_
      refine X.aload_n 156 i205_155 rfl rfl rfl ?_
      refine X.getF 159 i205_156 rfl rfl (by decide) rfl rfl ?_
      refine X.sipush 162 i205_159 rfl rfl (by decide) ?_
      refine X.iload 164 i205_162 rfl rfl rfl ?_
      refine X.iadd 165 i205_164 rfl rfl (by omega) ?_
      refine X.lald 166 i205_165 rfl rfl (by decide) rfl (by omega) ?_
      refine X.last' 167 i205_166 rfl rfl (by decide) rfl (by omega) (fun hrm510 m510 hm510 => ?_)
      have hJ511 := w45_19 hJ hm510 (by omega) hrm510
      have wt512 : m510 4 45 3 = (m 4 45 3) := by rw [hm510]; exact z_upd_i _ _ _ _ (by omega)
      have wt513 : m510 4 45 0 = (m 4 45 0) := by rw [hm510]; exact z_upd_i _ _ _ _ (by omega)
      have wt514 : m510 4 45 13 = (m 4 45 13) := by rw [hm510]; exact z_upd_i _ _ _ _ (by omega)
      have wt515 : m510 4 45 1 = (m 4 45 1) := by rw [hm510]; exact z_upd_i _ _ _ _ (by omega)
      have wt516 : m510 4 45 2 = (m 4 45 2) := by rw [hm510]; exact z_upd_i _ _ _ _ (by omega)
      refine X.iinc 170 [(0, zr 4 44), (4, zi (y4 + 1))] i205_167 rfl rfl rfl (by omega) rfl ?_
      refine X.goto 139 i205_170 rfl rfl ?_
      exact ih (y4 + 1) m510 (B) (hJ511.up (by omega)) (by omega)  (by omega) (by omega)
theorem l213_5_1 {s : Nat × (Nat → Int32)} {S : zS} {m0 m : zM} {B : Int} {d : Nat} {Q : Option zV → zM → Prop} (y1 y2 : Int) (hd : 13 ≤ d) (hJ : J S m0 B m) (hB9 : B ≤ 1000000000) (hy1 : 95 ≤ y1 ∧ y1 ≤ 143) (hy2 : 0 ≤ y2 ∧ y2 ≤ 2)
    (K48 : ∀ (x3 : Int) , (True) → X (EE s) d 213 48 [(3, zl x3)] [] m Q) :
    ∀ (n : Nat) (y3 y5 : Int) , (0 ≤ y5 ∧ y5 ≤ 16) → 16 - y5 < (n : Int) → X (EE s) d 213 5 [(0, zr 4 44), (1, zi y1), (2, zi y2), (3, zl y3), (5, zi y5)] [] m Q := by
  intro n
  induction n with
  | zero =>
    intro y3 y5 hy5 hn
    exfalso
    omega
  | succ n ih =>
    intro y3 y5 hy5 hn
    refine X.iload 7 i213_5 rfl rfl rfl ?_
    refine X.aload_n 8 i213_7 rfl rfl rfl ?_
    refine X.callv 11 [] [zi y5] [(0, zr 4 44)] i213_8 rfl (by decide) rfl rfl (by omega) rfl rfl (by decide) rfl t211 (Nat.le_of_ble_eq_true rfl) (Nat.le_of_ble_eq_true rfl) rfl ?_
    refine X.aload_n 1 i211_0 rfl rfl rfl ?_
    refine X.getF 4 i211_1 rfl rfl (by decide) rfl rfl ?_
    refine X.iconst 5 i211_4 rfl rfl (by decide) ?_
    refine X.lald 6 i211_5 rfl rfl (by decide) rfl (by omega) ?_
    have h509 := r45_2 hJ 4
    refine X.l2i 7 i211_6 rfl rfl (by omega) ?_
    refine X.reti i211_7 rfl t211 ?_
    show X (EE s) d 213 11 [(0, zr 4 44), (1, zi y1), (2, zi y2), (3, zl y3), (5, zi y5)] [zi (m 4 45 2), zi y5] m _
    refine X.icmpge 48 14 i213_11 rfl rfl rfl (fun h510 => ?_) (fun h510 => ?_)
    · refine X.cut [(3, zl y3)] i213_48 rfl ?_
      exact K48 y3 (by first | trivial | omega)
    · refine X.lload_n 15 i213_14 rfl rfl rfl ?_
      refine X.aload_n 16 i213_15 rfl rfl rfl ?_
      refine X.getF 19 i213_16 rfl rfl (by decide) rfl rfl ?_
      refine X.iload_n 20 i213_19 rfl rfl rfl ?_
      refine X.iload_n 21 i213_20 rfl rfl rfl ?_
      refine X.iload 23 i213_21 rfl rfl rfl ?_
      refine X.calls 26 [zi y1, zi y2, zi y5] [zr 4 45, zl y3] [(0, zi y1), (1, zi y2), (2, zi y5)] i213_23 (by decide) rfl rfl (by omega) rfl rfl t207 (Nat.le_of_ble_eq_true rfl) (Nat.le_of_ble_eq_true rfl) rfl ?_
      refine X.iload_n 1 i207_0 rfl rfl rfl ?_
      refine X.bipush 3 i207_1 rfl rfl (by decide) ?_
      refine X.iload_n 4 i207_3 rfl rfl rfl ?_
      refine X.imul 5 i207_4 rfl rfl (by omega) ?_
      refine X.iadd 6 i207_5 rfl rfl (by omega) ?_
      refine X.iload_n 7 i207_6 rfl rfl rfl ?_
      refine X.iadd 8 i207_7 rfl rfl (by omega) ?_
      refine X.reti i207_8 rfl t207 ?_
      show X (EE s) d 213 26 [(0, zr 4 44), (1, zi y1), (2, zi y2), (3, zl y3), (5, zi y5)] [zi ((y1 + (16 * y2)) + y5), zr 4 45, zl y3] m _
      refine X.lald 27 i213_26 rfl rfl (by decide) rfl (by omega) ?_
      refine X.aload_n 28 i213_27 rfl rfl rfl ?_
      refine X.getF 31 i213_28 rfl rfl (by decide) rfl rfl ?_
      refine X.iload_n 32 i213_31 rfl rfl rfl ?_
      refine X.iload_n 33 i213_32 rfl rfl rfl ?_
      refine X.iload 35 i213_33 rfl rfl rfl ?_
      refine X.calls 38 [zi y1, zi y2, zi y5] [zr 4 45, zl (m 4 45 ((y1 + (16 * y2)) + y5)), zl y3] [(0, zi y1), (1, zi y2), (2, zi y5)] i213_35 (by decide) rfl rfl (by omega) rfl rfl t207 (Nat.le_of_ble_eq_true rfl) (Nat.le_of_ble_eq_true rfl) rfl ?_
      refine X.iload_n 1 i207_0 rfl rfl rfl ?_
      refine X.bipush 3 i207_1 rfl rfl (by decide) ?_
      refine X.iload_n 4 i207_3 rfl rfl rfl ?_
      refine X.imul 5 i207_4 rfl rfl (by omega) ?_
      refine X.iadd 6 i207_5 rfl rfl (by omega) ?_
      refine X.iload_n 7 i207_6 rfl rfl rfl ?_
      refine X.iadd 8 i207_7 rfl rfl (by omega) ?_
      refine X.reti i207_8 rfl t207 ?_
      show X (EE s) d 213 38 [(0, zr 4 44), (1, zi y1), (2, zi y2), (3, zl y3), (5, zi y5)] [zi ((y1 + (16 * y2)) + y5), zr 4 45, zl (m 4 45 ((y1 + (16 * y2)) + y5)), zl y3] m _
      refine X.lald 39 i213_38 rfl rfl (by decide) rfl (by omega) ?_
      refine X.llF 40 .lmul (fun x y => x * y) i213_39 rfl rfl rfl (fun _ _ => rfl) (fun z511 hz511 => ?_)
      refine X.llF 41 .ladd (fun x y => x + y) i213_40 rfl rfl rfl (fun _ _ => rfl) (fun z512 hz512 => ?_)
      refine X.lstore_n 42 [(0, zr 4 44), (1, zi y1), (2, zi y2), (3, zl z512), (5, zi y5)] i213_41 rfl rfl rfl ?_
      refine X.iinc 45 [(0, zr 4 44), (1, zi y1), (2, zi y2), (3, zl z512), (5, zi (y5 + 1))] i213_42 rfl rfl rfl (by omega) rfl ?_
      refine X.goto 5 i213_45 rfl rfl ?_
      exact ih z512 (y5 + 1) (by omega) (by omega)
-- WorkMeterModel.squares
theorem c213_1 {s : Nat × (Nat → Int32)} {S : zS} {m0 m : zM} {B : Int} {d : Nat} {Q : Option zV → zM → Prop} (a1 a2 : Int) (hd : 13 ≤ d) (hJ : J S m0 B m) (hB : B + 0 ≤ 1000000000) (ha1 : 95 ≤ a1 ∧ a1 ≤ 143) (ha2 : 0 ≤ a2 ∧ a2 ≤ 2) (hQ : ∀ (v : Int), (True) → Q (some (zl v)) m) : X (EE s) d 213 0 [(0, zr 4 44), (1, zi a1), (2, zi a2)] [] m Q := by
  refine X.lconst (y := 0) 1 i213_0 rfl rfl rfl ?_
  refine X.lstore_n 2 [(0, zr 4 44), (1, zi a1), (2, zi a2), (3, zl 0)] i213_1 rfl rfl rfl ?_
  refine X.iconst 3 i213_2 rfl rfl (by decide) ?_
  refine X.istore 5 [(0, zr 4 44), (1, zi a1), (2, zi a2), (3, zl 0), (5, zi 0)] i213_3 rfl rfl rfl ?_
  refine l213_5_1 (s := s) (S := S) (m0 := m0) (m := m) (B := B) (d := d)  a1 a2 (by omega) (hJ.up (by omega)) (by omega) (by omega) (by omega) (fun y501 hby501 => ?_) ((16 - 0 : Int).toNat + 1) 0 0 (by omega) (by omega)
  refine X.lload_n 49 i213_48 rfl rfl rfl ?_
  refine X.retl i213_49 rfl t213 ?_
  exact hQ y501 (by first | trivial | omega) 
theorem l212_5_1 {s : Nat × (Nat → Int32)} {S : zS} {m0 m : zM} {B : Int} {d : Nat} {Q : Option zV → zM → Prop} (y1 : Int) (hd : 13 ≤ d) (hJ : J S m0 B m) (hB9 : B ≤ 1000000000) (hy1 : 0 ≤ y1 ∧ y1 ≤ 2)
    (K63 : ∀ (x2 : Int) , (True) → X (EE s) d 212 63 [(2, zl x2)] [] m Q) :
    ∀ (n : Nat) (y2 y4 : Int) , (0 ≤ y4 ∧ y4 ≤ 16) → 16 - y4 < (n : Int) → X (EE s) d 212 5 [(0, zr 4 44), (1, zi y1), (2, zl y2), (4, zi y4)] [] m Q := by
  intro n
  induction n with
  | zero =>
    intro y2 y4 hy4 hn
    exfalso
    omega
  | succ n ih =>
    intro y2 y4 hy4 hn
    refine X.iload 7 i212_5 rfl rfl rfl ?_
    refine X.aload_n 8 i212_7 rfl rfl rfl ?_
    refine X.callv 11 [] [zi y4] [(0, zr 4 44)] i212_8 rfl (by decide) rfl rfl (by omega) rfl rfl (by decide) rfl t211 (Nat.le_of_ble_eq_true rfl) (Nat.le_of_ble_eq_true rfl) rfl ?_
    refine X.aload_n 1 i211_0 rfl rfl rfl ?_
    refine X.getF 4 i211_1 rfl rfl (by decide) rfl rfl ?_
    refine X.iconst 5 i211_4 rfl rfl (by decide) ?_
    refine X.lald 6 i211_5 rfl rfl (by decide) rfl (by omega) ?_
    have h511 := r45_2 hJ 4
    refine X.l2i 7 i211_6 rfl rfl (by omega) ?_
    refine X.reti i211_7 rfl t211 ?_
    show X (EE s) d 212 11 [(0, zr 4 44), (1, zi y1), (2, zl y2), (4, zi y4)] [zi (m 4 45 2), zi y4] m _
    refine X.icmpge 63 14 i212_11 rfl rfl rfl (fun h512 => ?_) (fun h512 => ?_)
    · refine X.cut [(2, zl y2)] i212_63 rfl ?_
      exact K63 y2 (by first | trivial | omega)
    · refine X.lload_n 15 i212_14 rfl rfl rfl ?_
      refine X.aload_n 16 i212_15 rfl rfl rfl ?_
      refine X.getF 19 i212_16 rfl rfl (by decide) rfl rfl ?_
      refine X.bipush 21 i212_19 rfl rfl (by decide) ?_
      refine X.iload_n 22 i212_21 rfl rfl rfl ?_
      refine X.iload 24 i212_22 rfl rfl rfl ?_
      refine X.calls 27 [zi 95, zi y1, zi y4] [zr 4 45, zl y2] [(0, zi 95), (1, zi y1), (2, zi y4)] i212_24 (by decide) rfl rfl (by omega) rfl rfl t207 (Nat.le_of_ble_eq_true rfl) (Nat.le_of_ble_eq_true rfl) rfl ?_
      refine X.iload_n 1 i207_0 rfl rfl rfl ?_
      refine X.bipush 3 i207_1 rfl rfl (by decide) ?_
      refine X.iload_n 4 i207_3 rfl rfl rfl ?_
      refine X.imul 5 i207_4 rfl rfl (by omega) ?_
      refine X.iadd 6 i207_5 rfl rfl (by omega) ?_
      refine X.iload_n 7 i207_6 rfl rfl rfl ?_
      refine X.iadd 8 i207_7 rfl rfl (by omega) ?_
      refine X.reti i207_8 rfl t207 ?_
      show X (EE s) d 212 27 [(0, zr 4 44), (1, zi y1), (2, zl y2), (4, zi y4)] [zi ((95 + (16 * y1)) + y4), zr 4 45, zl y2] m _
      refine X.lald 28 i212_27 rfl rfl (by decide) rfl (by omega) ?_
      refine X.aload_n 29 i212_28 rfl rfl rfl ?_
      refine X.getF 32 i212_29 rfl rfl (by decide) rfl rfl ?_
      refine X.sipush 35 i212_32 rfl rfl (by decide) ?_
      refine X.iload_n 36 i212_35 rfl rfl rfl ?_
      refine X.iload 38 i212_36 rfl rfl rfl ?_
      refine X.aload_n 39 i212_38 rfl rfl rfl ?_
      refine X.callv 42 [] [zi y4, zi y1, zi 143, zr 4 45, zl (m 4 45 ((95 + (16 * y1)) + y4)), zl y2] [(0, zr 4 44)] i212_39 rfl (by decide) rfl rfl (by omega) rfl rfl (by decide) rfl t211 (Nat.le_of_ble_eq_true rfl) (Nat.le_of_ble_eq_true rfl) rfl ?_
      refine X.aload_n 1 i211_0 rfl rfl rfl ?_
      refine X.getF 4 i211_1 rfl rfl (by decide) rfl rfl ?_
      refine X.iconst 5 i211_4 rfl rfl (by decide) ?_
      refine X.lald 6 i211_5 rfl rfl (by decide) rfl (by omega) ?_
      refine X.l2i 7 i211_6 rfl rfl (by omega) ?_
      refine X.reti i211_7 rfl t211 ?_
      show X (EE s) d 212 42 [(0, zr 4 44), (1, zi y1), (2, zl y2), (4, zi y4)] [zi (m 4 45 2), zi y4, zi y1, zi 143, zr 4 45, zl (m 4 45 ((95 + (16 * y1)) + y4)), zl y2] m _
      refine X.iconst 43 i212_42 rfl rfl (by decide) ?_
      refine X.idiv 44 i212_43 rfl rfl (by omega) ?_
      refine X.iadd 45 i212_44 rfl rfl (by omega) ?_
      refine X.aload_n 46 i212_45 rfl rfl rfl ?_
      refine X.callv 49 [] [zi (y4 + ((m 4 45 2) / 4)), zi y1, zi 143, zr 4 45, zl (m 4 45 ((95 + (16 * y1)) + y4)), zl y2] [(0, zr 4 44)] i212_46 rfl (by decide) rfl rfl (by omega) rfl rfl (by decide) rfl t211 (Nat.le_of_ble_eq_true rfl) (Nat.le_of_ble_eq_true rfl) rfl ?_
      refine X.aload_n 1 i211_0 rfl rfl rfl ?_
      refine X.getF 4 i211_1 rfl rfl (by decide) rfl rfl ?_
      refine X.iconst 5 i211_4 rfl rfl (by decide) ?_
      refine X.lald 6 i211_5 rfl rfl (by decide) rfl (by omega) ?_
      refine X.l2i 7 i211_6 rfl rfl (by omega) ?_
      refine X.reti i211_7 rfl t211 ?_
      show X (EE s) d 212 49 [(0, zr 4 44), (1, zi y1), (2, zl y2), (4, zi y4)] [zi (m 4 45 2), zi (y4 + ((m 4 45 2) / 4)), zi y1, zi 143, zr 4 45, zl (m 4 45 ((95 + (16 * y1)) + y4)), zl y2] m _
      refine X.irem 50 i212_49 rfl rfl (by omega) ?_
      have hz513 := z_modb (x := (y4 + ((m 4 45 2) / 4))) (y := (m 4 45 2)) (by omega) (by omega)
      obtain ⟨z513, ez513⟩ : ∃ z, z = ((y4 + ((m 4 45 2) / 4)) % (m 4 45 2)) := ⟨_, rfl⟩
      rw [← ez513] at hz513 ⊢
      clear ez513
      refine X.calls 53 [zi 143, zi y1, zi z513] [zr 4 45, zl (m 4 45 ((95 + (16 * y1)) + y4)), zl y2] [(0, zi 143), (1, zi y1), (2, zi z513)] i212_50 (by decide) rfl rfl (by omega) rfl rfl t207 (Nat.le_of_ble_eq_true rfl) (Nat.le_of_ble_eq_true rfl) rfl ?_
      refine X.iload_n 1 i207_0 rfl rfl rfl ?_
      refine X.bipush 3 i207_1 rfl rfl (by decide) ?_
      refine X.iload_n 4 i207_3 rfl rfl rfl ?_
      refine X.imul 5 i207_4 rfl rfl (by omega) ?_
      refine X.iadd 6 i207_5 rfl rfl (by omega) ?_
      refine X.iload_n 7 i207_6 rfl rfl rfl ?_
      refine X.iadd 8 i207_7 rfl rfl (by omega) ?_
      refine X.reti i207_8 rfl t207 ?_
      show X (EE s) d 212 53 [(0, zr 4 44), (1, zi y1), (2, zl y2), (4, zi y4)] [zi ((143 + (16 * y1)) + z513), zr 4 45, zl (m 4 45 ((95 + (16 * y1)) + y4)), zl y2] m _
      refine X.lald 54 i212_53 rfl rfl (by decide) rfl (by omega) ?_
      refine X.llF 55 .lmul (fun x y => x * y) i212_54 rfl rfl rfl (fun _ _ => rfl) (fun z514 hz514 => ?_)
      refine X.llF 56 .ladd (fun x y => x + y) i212_55 rfl rfl rfl (fun _ _ => rfl) (fun z515 hz515 => ?_)
      refine X.lstore_n 57 [(0, zr 4 44), (1, zi y1), (2, zl z515), (4, zi y4)] i212_56 rfl rfl rfl ?_
      refine X.iinc 60 [(0, zr 4 44), (1, zi y1), (2, zl z515), (4, zi (y4 + 1))] i212_57 rfl rfl rfl (by omega) rfl ?_
      refine X.goto 5 i212_60 rfl rfl ?_
      exact ih z515 (y4 + 1) (by omega) (by omega)
-- WorkMeterModel.reactive
theorem c212_1 {s : Nat × (Nat → Int32)} {S : zS} {m0 m : zM} {B : Int} {d : Nat} {Q : Option zV → zM → Prop} (a1 : Int) (hd : 13 ≤ d) (hJ : J S m0 B m) (hB : B + 0 ≤ 1000000000) (ha1 : 0 ≤ a1 ∧ a1 ≤ 2) (hQ : ∀ (v : Int), (True) → Q (some (zl v)) m) : X (EE s) d 212 0 [(0, zr 4 44), (1, zi a1)] [] m Q := by
  refine X.lconst (y := 0) 1 i212_0 rfl rfl rfl ?_
  refine X.lstore_n 2 [(0, zr 4 44), (1, zi a1), (2, zl 0)] i212_1 rfl rfl rfl ?_
  refine X.iconst 3 i212_2 rfl rfl (by decide) ?_
  refine X.istore 5 [(0, zr 4 44), (1, zi a1), (2, zl 0), (4, zi 0)] i212_3 rfl rfl rfl ?_
  refine l212_5_1 (s := s) (S := S) (m0 := m0) (m := m) (B := B) (d := d)  a1 (by omega) (hJ.up (by omega)) (by omega) (by omega) (fun y501 hby501 => ?_) ((16 - 0 : Int).toNat + 1) 0 0 (by omega) (by omega)
  refine X.lload_n 64 i212_63 rfl rfl rfl ?_
  refine X.retl i212_64 rfl t212 ?_
  exact hQ y501 (by first | trivial | omega) 
theorem l210_5_1 {s : Nat × (Nat → Int32)} {S : zS} {m0 m : zM} {B : Int} {d : Nat} {Q : Option zV → zM → Prop} (y1 : Int) (hd : 13 ≤ d) (hJ : J S m0 B m) (hB9 : B ≤ 1000000000) (hy1 : 0 ≤ y1 ∧ y1 ≤ 2)
    (K51 : ∀ (x2 : Int) , (True) → X (EE s) d 210 51 [(2, zl x2)] [] m Q) :
    ∀ (n : Nat) (y2 y4 : Int) , (0 ≤ y4 ∧ y4 ≤ 16) → 16 - y4 < (n : Int) → X (EE s) d 210 5 [(0, zr 4 44), (1, zi y1), (2, zl y2), (4, zi y4)] [] m Q := by
  intro n
  induction n with
  | zero =>
    intro y2 y4 hy4 hn
    exfalso
    omega
  | succ n ih =>
    intro y2 y4 hy4 hn
    refine X.iload 7 i210_5 rfl rfl rfl ?_
    refine X.aload_n 8 i210_7 rfl rfl rfl ?_
    refine X.callv 11 [] [zi y4] [(0, zr 4 44)] i210_8 rfl (by decide) rfl rfl (by omega) rfl rfl (by decide) rfl t211 (Nat.le_of_ble_eq_true rfl) (Nat.le_of_ble_eq_true rfl) rfl ?_
    refine X.aload_n 1 i211_0 rfl rfl rfl ?_
    refine X.getF 4 i211_1 rfl rfl (by decide) rfl rfl ?_
    refine X.iconst 5 i211_4 rfl rfl (by decide) ?_
    refine X.lald 6 i211_5 rfl rfl (by decide) rfl (by omega) ?_
    have h509 := r45_2 hJ 4
    refine X.l2i 7 i211_6 rfl rfl (by omega) ?_
    refine X.reti i211_7 rfl t211 ?_
    show X (EE s) d 210 11 [(0, zr 4 44), (1, zi y1), (2, zl y2), (4, zi y4)] [zi (m 4 45 2), zi y4] m _
    refine X.icmpge 51 14 i210_11 rfl rfl rfl (fun h510 => ?_) (fun h510 => ?_)
    · refine X.cut [(2, zl y2)] i210_51 rfl ?_
      exact K51 y2 (by first | trivial | omega)
    · refine X.lload_n 15 i210_14 rfl rfl rfl ?_
      refine X.aload_n 16 i210_15 rfl rfl rfl ?_
      refine X.getF 19 i210_16 rfl rfl (by decide) rfl rfl ?_
      refine X.bipush 21 i210_19 rfl rfl (by decide) ?_
      refine X.iload_n 22 i210_21 rfl rfl rfl ?_
      refine X.iload 24 i210_22 rfl rfl rfl ?_
      refine X.calls 27 [zi 95, zi y1, zi y4] [zr 4 45, zl y2] [(0, zi 95), (1, zi y1), (2, zi y4)] i210_24 (by decide) rfl rfl (by omega) rfl rfl t207 (Nat.le_of_ble_eq_true rfl) (Nat.le_of_ble_eq_true rfl) rfl ?_
      refine X.iload_n 1 i207_0 rfl rfl rfl ?_
      refine X.bipush 3 i207_1 rfl rfl (by decide) ?_
      refine X.iload_n 4 i207_3 rfl rfl rfl ?_
      refine X.imul 5 i207_4 rfl rfl (by omega) ?_
      refine X.iadd 6 i207_5 rfl rfl (by omega) ?_
      refine X.iload_n 7 i207_6 rfl rfl rfl ?_
      refine X.iadd 8 i207_7 rfl rfl (by omega) ?_
      refine X.reti i207_8 rfl t207 ?_
      show X (EE s) d 210 27 [(0, zr 4 44), (1, zi y1), (2, zl y2), (4, zi y4)] [zi ((95 + (16 * y1)) + y4), zr 4 45, zl y2] m _
      refine X.lald 28 i210_27 rfl rfl (by decide) rfl (by omega) ?_
      refine X.aload_n 29 i210_28 rfl rfl rfl ?_
      refine X.getF 32 i210_29 rfl rfl (by decide) rfl rfl ?_
      refine X.sipush 35 i210_32 rfl rfl (by decide) ?_
      refine X.iload_n 36 i210_35 rfl rfl rfl ?_
      refine X.iload 38 i210_36 rfl rfl rfl ?_
      refine X.calls 41 [zi 143, zi y1, zi y4] [zr 4 45, zl (m 4 45 ((95 + (16 * y1)) + y4)), zl y2] [(0, zi 143), (1, zi y1), (2, zi y4)] i210_38 (by decide) rfl rfl (by omega) rfl rfl t207 (Nat.le_of_ble_eq_true rfl) (Nat.le_of_ble_eq_true rfl) rfl ?_
      refine X.iload_n 1 i207_0 rfl rfl rfl ?_
      refine X.bipush 3 i207_1 rfl rfl (by decide) ?_
      refine X.iload_n 4 i207_3 rfl rfl rfl ?_
      refine X.imul 5 i207_4 rfl rfl (by omega) ?_
      refine X.iadd 6 i207_5 rfl rfl (by omega) ?_
      refine X.iload_n 7 i207_6 rfl rfl rfl ?_
      refine X.iadd 8 i207_7 rfl rfl (by omega) ?_
      refine X.reti i207_8 rfl t207 ?_
      show X (EE s) d 210 41 [(0, zr 4 44), (1, zi y1), (2, zl y2), (4, zi y4)] [zi ((143 + (16 * y1)) + y4), zr 4 45, zl (m 4 45 ((95 + (16 * y1)) + y4)), zl y2] m _
      refine X.lald 42 i210_41 rfl rfl (by decide) rfl (by omega) ?_
      refine X.llF 43 .lmul (fun x y => x * y) i210_42 rfl rfl rfl (fun _ _ => rfl) (fun z511 hz511 => ?_)
      refine X.llF 44 .ladd (fun x y => x + y) i210_43 rfl rfl rfl (fun _ _ => rfl) (fun z512 hz512 => ?_)
      refine X.lstore_n 45 [(0, zr 4 44), (1, zi y1), (2, zl z512), (4, zi y4)] i210_44 rfl rfl rfl ?_
      refine X.iinc 48 [(0, zr 4 44), (1, zi y1), (2, zl z512), (4, zi (y4 + 1))] i210_45 rfl rfl rfl (by omega) rfl ?_
      refine X.goto 5 i210_48 rfl rfl ?_
      exact ih z512 (y4 + 1) (by omega) (by omega)
-- WorkMeterModel.active
theorem c210_1 {s : Nat × (Nat → Int32)} {S : zS} {m0 m : zM} {B : Int} {d : Nat} {Q : Option zV → zM → Prop} (a1 : Int) (hd : 13 ≤ d) (hJ : J S m0 B m) (hB : B + 0 ≤ 1000000000) (ha1 : 0 ≤ a1 ∧ a1 ≤ 2) (hQ : ∀ (v : Int), (True) → Q (some (zl v)) m) : X (EE s) d 210 0 [(0, zr 4 44), (1, zi a1)] [] m Q := by
  refine X.lconst (y := 0) 1 i210_0 rfl rfl rfl ?_
  refine X.lstore_n 2 [(0, zr 4 44), (1, zi a1), (2, zl 0)] i210_1 rfl rfl rfl ?_
  refine X.iconst 3 i210_2 rfl rfl (by decide) ?_
  refine X.istore 5 [(0, zr 4 44), (1, zi a1), (2, zl 0), (4, zi 0)] i210_3 rfl rfl rfl ?_
  refine l210_5_1 (s := s) (S := S) (m0 := m0) (m := m) (B := B) (d := d)  a1 (by omega) (hJ.up (by omega)) (by omega) (by omega) (fun y501 hby501 => ?_) ((16 - 0 : Int).toNat + 1) 0 0 (by omega) (by omega)
  refine X.lload_n 52 i210_51 rfl rfl rfl ?_
  refine X.retl i210_52 rfl t210 ?_
  exact hQ y501 (by first | trivial | omega) 
theorem l209_5_1 {s : Nat × (Nat → Int32)} {S : zS} {m0 m : zM} {B : Int} {d : Nat} {Q : Option zV → zM → Prop} (y1 : Int) (hd : 14 ≤ d) (hJ : J S m0 B m) (hB9 : B ≤ 1000000000) (hy1 : 0 ≤ y1 ∧ y1 ≤ 3)
    (K75 : ∀ (x2 : Int) , (True) → X (EE s) d 209 75 [(2, zl x2)] [] m Q) :
    ∀ (n : Nat) (y2 y4 : Int) , (0 ≤ y4 ∧ y4 ≤ 3) → 3 - y4 < (n : Int) → X (EE s) d 209 5 [(0, zr 4 44), (1, zi y1), (2, zl y2), (4, zi y4)] [] m Q := by
  intro n
  induction n with
  | zero =>
    intro y2 y4 hy4 hn
    exfalso
    omega
  | succ n ih =>
    intro y2 y4 hy4 hn
    refine X.iload 7 i209_5 rfl rfl rfl ?_
    refine X.aload_n 8 i209_7 rfl rfl rfl ?_
    refine X.callv 11 [] [zi y4] [(0, zr 4 44)] i209_8 rfl (by decide) rfl rfl (by omega) rfl rfl (by decide) rfl t206 (Nat.le_of_ble_eq_true rfl) (Nat.le_of_ble_eq_true rfl) rfl ?_
    refine X.aload_n 1 i206_0 rfl rfl rfl ?_
    refine X.getF 4 i206_1 rfl rfl (by decide) rfl rfl ?_
    refine X.iconst 5 i206_4 rfl rfl (by decide) ?_
    refine X.lald 6 i206_5 rfl rfl (by decide) rfl (by omega) ?_
    have h544 := r45_1 hJ 4
    refine X.l2i 7 i206_6 rfl rfl (by omega) ?_
    refine X.reti i206_7 rfl t206 ?_
    show X (EE s) d 209 11 [(0, zr 4 44), (1, zi y1), (2, zl y2), (4, zi y4)] [zi (m 4 45 1), zi y4] m _
    refine X.icmpge 75 14 i209_11 rfl rfl rfl (fun h545 => ?_) (fun h545 => ?_)
    · refine X.cut [(2, zl y2)] i209_75 rfl ?_
      exact K75 y2 (by first | trivial | omega)
    · refine X.lload_n 15 i209_14 rfl rfl rfl ?_
      refine X.iload_n 16 i209_15 rfl rfl rfl ?_
      refine X.ifne 28 19 i209_16 rfl rfl rfl (fun h546 => ?_) (fun h546 => ?_)
      · refine X.cut [(0, zr 4 44), (1, zi y1), (4, zi y4)] i209_28 rfl ?_
        refine X.iload_n 29 i209_28 rfl rfl rfl ?_
        refine X.iconst 30 i209_29 rfl rfl (by decide) ?_
        refine X.icmpne 42 33 i209_30 rfl rfl rfl (fun h547 => ?_) (fun h547 => ?_)
        · refine X.iload_n 43 i209_42 rfl rfl rfl ?_
          refine X.iconst 44 i209_43 rfl rfl (by decide) ?_
          refine X.icmpne 58 47 i209_44 rfl rfl rfl (fun h548 => ?_) (fun h548 => ?_)
          · refine X.aload_n 59 i209_58 rfl rfl rfl ?_
            refine X.sipush 62 i209_59 rfl rfl (by decide) ?_
            refine X.iload 64 i209_62 rfl rfl rfl ?_
            refine X.callv 67 [zi 143, zi y4] [zl y2] [(0, zr 4 44), (1, zi 143), (2, zi y4)] i209_64 rfl (by decide) rfl rfl (by omega) rfl rfl (by decide) rfl t213 (Nat.le_of_ble_eq_true rfl) (Nat.le_of_ble_eq_true rfl) rfl ?_
            refine c213_1 (B := B)  143 y4 (by omega) (hJ.up (by omega)) (by omega) (by omega) (by omega) (fun v551 hv551 => ?_)
            show X (EE s) d 209 67 [(0, zr 4 44), (1, zi y1), (4, zi y4)] [zl v551, zl y2] m _
            refine X.llF 68 .ladd (fun x y => x + y) i209_67 rfl rfl rfl (fun _ _ => rfl) (fun z552 hz552 => ?_)
            refine X.lstore_n 69 [(0, zr 4 44), (1, zi y1), (2, zl z552), (4, zi y4)] i209_68 rfl rfl rfl ?_
            refine X.iinc 72 [(0, zr 4 44), (1, zi y1), (2, zl z552), (4, zi (y4 + 1))] i209_69 rfl rfl rfl (by omega) rfl ?_
            refine X.goto 5 i209_72 rfl rfl ?_
            exact ih z552 (y4 + 1) (by omega) (by omega)
          · refine X.aload_n 48 i209_47 rfl rfl rfl ?_
            refine X.bipush 50 i209_48 rfl rfl (by decide) ?_
            refine X.iload 52 i209_50 rfl rfl rfl ?_
            refine X.callv 55 [zi 95, zi y4] [zl y2] [(0, zr 4 44), (1, zi 95), (2, zi y4)] i209_52 rfl (by decide) rfl rfl (by omega) rfl rfl (by decide) rfl t213 (Nat.le_of_ble_eq_true rfl) (Nat.le_of_ble_eq_true rfl) rfl ?_
            refine c213_1 (B := B)  95 y4 (by omega) (hJ.up (by omega)) (by omega) (by omega) (by omega) (fun v555 hv555 => ?_)
            show X (EE s) d 209 55 [(0, zr 4 44), (1, zi y1), (4, zi y4)] [zl v555, zl y2] m _
            refine X.goto 67 i209_55 rfl rfl ?_
            refine X.llF 68 .ladd (fun x y => x + y) i209_67 rfl rfl rfl (fun _ _ => rfl) (fun z556 hz556 => ?_)
            refine X.lstore_n 69 [(0, zr 4 44), (1, zi y1), (2, zl z556), (4, zi y4)] i209_68 rfl rfl rfl ?_
            refine X.iinc 72 [(0, zr 4 44), (1, zi y1), (2, zl z556), (4, zi (y4 + 1))] i209_69 rfl rfl rfl (by omega) rfl ?_
            refine X.goto 5 i209_72 rfl rfl ?_
            exact ih z556 (y4 + 1) (by omega) (by omega)
        · refine X.aload_n 34 i209_33 rfl rfl rfl ?_
          refine X.iload 36 i209_34 rfl rfl rfl ?_
          refine X.callv 39 [zi y4] [zl y2] [(0, zr 4 44), (1, zi y4)] i209_36 rfl (by decide) rfl rfl (by omega) rfl rfl (by decide) rfl t212 (Nat.le_of_ble_eq_true rfl) (Nat.le_of_ble_eq_true rfl) rfl ?_
          refine c212_1 (B := B)  y4 (by omega) (hJ.up (by omega)) (by omega) (by omega) (fun v559 hv559 => ?_)
          show X (EE s) d 209 39 [(0, zr 4 44), (1, zi y1), (4, zi y4)] [zl v559, zl y2] m _
          refine X.goto 67 i209_39 rfl rfl ?_
          refine X.llF 68 .ladd (fun x y => x + y) i209_67 rfl rfl rfl (fun _ _ => rfl) (fun z560 hz560 => ?_)
          refine X.lstore_n 69 [(0, zr 4 44), (1, zi y1), (2, zl z560), (4, zi y4)] i209_68 rfl rfl rfl ?_
          refine X.iinc 72 [(0, zr 4 44), (1, zi y1), (2, zl z560), (4, zi (y4 + 1))] i209_69 rfl rfl rfl (by omega) rfl ?_
          refine X.goto 5 i209_72 rfl rfl ?_
          exact ih z560 (y4 + 1) (by omega) (by omega)
      · refine X.aload_n 20 i209_19 rfl rfl rfl ?_
        refine X.iload 22 i209_20 rfl rfl rfl ?_
        refine X.callv 25 [zi y4] [zl y2] [(0, zr 4 44), (1, zi y4)] i209_22 rfl (by decide) rfl rfl (by omega) rfl rfl (by decide) rfl t210 (Nat.le_of_ble_eq_true rfl) (Nat.le_of_ble_eq_true rfl) rfl ?_
        refine c210_1 (B := B)  y4 (by omega) (hJ.up (by omega)) (by omega) (by omega) (fun v563 hv563 => ?_)
        show X (EE s) d 209 25 [(0, zr 4 44), (1, zi y1), (2, zl y2), (4, zi y4)] [zl v563, zl y2] m _
        refine X.goto 67 i209_25 rfl rfl ?_
        refine X.cut [(0, zr 4 44), (1, zi y1), (4, zi y4)] i209_67 rfl ?_
        refine X.llF 68 .ladd (fun x y => x + y) i209_67 rfl rfl rfl (fun _ _ => rfl) (fun z564 hz564 => ?_)
        refine X.lstore_n 69 [(0, zr 4 44), (1, zi y1), (2, zl z564), (4, zi y4)] i209_68 rfl rfl rfl ?_
        refine X.iinc 72 [(0, zr 4 44), (1, zi y1), (2, zl z564), (4, zi (y4 + 1))] i209_69 rfl rfl rfl (by omega) rfl ?_
        refine X.goto 5 i209_72 rfl rfl ?_
        exact ih z564 (y4 + 1) (by omega) (by omega)
-- WorkMeterModel.together
theorem c209_1 {s : Nat × (Nat → Int32)} {S : zS} {m0 m : zM} {B : Int} {d : Nat} {Q : Option zV → zM → Prop} (a1 : Int) (hd : 14 ≤ d) (hJ : J S m0 B m) (hB : B + 0 ≤ 1000000000) (ha1 : 0 ≤ a1 ∧ a1 ≤ 3) (hQ : ∀ (v : Int), (True) → Q (some (zl v)) m) : X (EE s) d 209 0 [(0, zr 4 44), (1, zi a1)] [] m Q := by
  refine X.lconst (y := 0) 1 i209_0 rfl rfl rfl ?_
  refine X.lstore_n 2 [(0, zr 4 44), (1, zi a1), (2, zl 0)] i209_1 rfl rfl rfl ?_
  refine X.iconst 3 i209_2 rfl rfl (by decide) ?_
  refine X.istore 5 [(0, zr 4 44), (1, zi a1), (2, zl 0), (4, zi 0)] i209_3 rfl rfl rfl ?_
  refine l209_5_1 (s := s) (S := S) (m0 := m0) (m := m) (B := B) (d := d)  a1 (by omega) (hJ.up (by omega)) (by omega) (by omega) (fun y501 hby501 => ?_) ((3 - 0 : Int).toNat + 1) 0 0 (by omega) (by omega)
  refine X.lload_n 76 i209_75 rfl rfl rfl ?_
  refine X.retl i209_76 rfl t209 ?_
  exact hQ y501 (by first | trivial | omega) 
theorem l214_7_1 {s : Nat × (Nat → Int32)} {S : zS} {m0 m : zM} {B : Int} {d : Nat} {Q : Option zV → zM → Prop} (y0 : Int) (hd : 13 ≤ d) (hJ : J S m0 B m) (hB9 : B ≤ 1000000000)
    (K51 : ∀ (x2 : Int) , (0 ≤ x2 ∧ x2 ≤ 3000000000) → X (EE s) d 214 51 [(2, zl x2)] [] m Q) :
    ∀ (n : Nat) (y2 y4 : Int) , (0 ≤ y2 ∧ y2 ≤ 3000000000) → (0 ≤ y4 ∧ y4 ≤ 3000000000) → (y2 ≤ y4) → y4 - y2 < (n : Int) → X (EE s) d 214 7 [(0, zl y0), (2, zl y2), (4, zl y4)] [] m Q := by
  intro n
  induction n with
  | zero =>
    intro y2 y4 hy2 hy4 hr0 hn
    exfalso
    omega
  | succ n ih =>
    intro y2 y4 hy2 hy4 hr0 hn
    refine X.lload_n 8 i214_7 rfl rfl rfl ?_
    refine X.lload 10 i214_8 rfl rfl rfl ?_
    refine X.lcmp 11 i214_10 rfl rfl (fun z507 hz507 => ?_)
    refine X.ifge 51 14 i214_11 rfl rfl rfl (fun h508 => ?_) (fun h508 => ?_)
    · have h508c : y2 ≥ y4 := by omega
      clear h508 hz507
      refine X.cut [(2, zl y2)] i214_51 rfl ?_
      exact K51 y2 (by first | trivial | omega)
    · have h508c : y2 < y4 := by omega
      clear h508 hz507
      refine X.lload_n 15 i214_14 rfl rfl rfl ?_
      refine X.lload 17 i214_15 rfl rfl rfl ?_
      refine X.ladd 18 i214_17 rfl rfl (by omega) ?_
      refine X.lconst (y := 1) 19 i214_18 rfl rfl rfl ?_
      refine X.ladd 20 i214_19 rfl rfl (by omega) ?_
      refine X.ldc2 23 i214_20 rfl rfl (by decide) ?_
      refine X.ldivp 24 i214_23 rfl rfl (by omega) ?_
      refine X.lstore 26 [(0, zl y0), (2, zl y2), (4, zl y4), (6, zl (((y2 + y4) + 1) / 2))] i214_24 rfl rfl rfl ?_
      refine X.lload 28 i214_26 rfl rfl rfl ?_
      refine X.lload 30 i214_28 rfl rfl rfl ?_
      have hz510 := z_mulr (a := 1) (b := 3000000000) (c := 1) (e := 3000000000) (x := (((y2 + y4) + 1) / 2)) (y := (((y2 + y4) + 1) / 2)) (by omega) (by omega)
      refine X.lmul 31 i214_30 rfl rfl (z_in3 hz510 (by decide) (by decide)) ?_
      obtain ⟨z510, ez510⟩ : ∃ z, z = ((((y2 + y4) + 1) / 2) * (((y2 + y4) + 1) / 2)) := ⟨_, rfl⟩
      rw [← ez510] at hz510 ⊢
      have gz510 : 1 ≤ z510 ∧ z510 ≤ 9000000000000000000 := z_in3 hz510 (by decide) (by decide)
      clear hz510
      refine X.lload_n 32 i214_31 rfl rfl rfl ?_
      refine X.lcmp 33 i214_32 rfl rfl (fun z511 hz511 => ?_)
      refine X.ifgt 42 36 i214_33 rfl rfl rfl (fun h512 => ?_) (fun h512 => ?_)
      · have h512c : z510 > y0 := by omega
        clear h512 hz511
        refine X.cut [(0, zl y0), (2, zl y2), (6, zl (((y2 + y4) + 1) / 2))] i214_42 rfl ?_
        refine X.lload 44 i214_42 rfl rfl rfl ?_
        refine X.lconst (y := 1) 45 i214_44 rfl rfl rfl ?_
        refine X.lsub 46 i214_45 rfl rfl (by omega) ?_
        refine X.lstore 48 [(0, zl y0), (2, zl y2), (4, zl ((((y2 + y4) + 1) / 2) - 1)), (6, zl (((y2 + y4) + 1) / 2))] i214_46 rfl rfl rfl ?_
        refine X.cut [(0, zl y0), (2, zl y2), (4, zl ((((y2 + y4) + 1) / 2) - 1))] i214_48 rfl ?_
        refine X.goto 7 i214_48 rfl rfl ?_
        exact ih y2 ((((y2 + y4) + 1) / 2) - 1) (by omega) (by omega) (by omega) (by omega)
      · have h512c : z510 ≤ y0 := by omega
        clear h512 hz511
        refine X.lload 38 i214_36 rfl rfl rfl ?_
        refine X.lstore_n 39 [(0, zl y0), (2, zl (((y2 + y4) + 1) / 2)), (4, zl y4), (6, zl (((y2 + y4) + 1) / 2))] i214_38 rfl rfl rfl ?_
        refine X.goto 48 i214_39 rfl rfl ?_
        refine X.cut [(0, zl y0), (2, zl (((y2 + y4) + 1) / 2)), (4, zl y4)] i214_48 rfl ?_
        refine X.goto 7 i214_48 rfl rfl ?_
        exact ih (((y2 + y4) + 1) / 2) y4 (by omega) (by omega) (by omega) (by omega)
-- WorkMeterModel.root
theorem c214_1 {s : Nat × (Nat → Int32)} {S : zS} {m0 m : zM} {B : Int} {d : Nat} {Q : Option zV → zM → Prop} (a0 : Int) (hd : 13 ≤ d) (hJ : J S m0 B m) (hB : B + 0 ≤ 1000000000) (hQ : ∀ (v : Int), (0 ≤ v ∧ v ≤ 3000000000) → Q (some (zl v)) m) : X (EE s) d 214 0 [(0, zl a0)] [] m Q := by
  refine X.lconst (y := 0) 1 i214_0 rfl rfl rfl ?_
  refine X.lstore_n 2 [(0, zl a0), (2, zl 0)] i214_1 rfl rfl rfl ?_
  refine X.ldc2 5 i214_2 rfl rfl (by decide) ?_
  refine X.lstore 7 [(0, zl a0), (2, zl 0), (4, zl 3000000000)] i214_5 rfl rfl rfl ?_
  refine l214_7_1 (s := s) (S := S) (m0 := m0) (m := m) (B := B) (d := d)  a0 (by omega) (hJ.up (by omega)) (by omega) (fun y501 hby501 => ?_) ((3000000000 - 0 : Int).toNat + 1) 0 3000000000 (by omega) (by omega) (by omega) (by omega)
  refine X.lload_n 52 i214_51 rfl rfl rfl ?_
  refine X.retl i214_52 rfl t214 ?_
  exact hQ y501 (by first | trivial | omega) 
theorem l219_7_1 {s : Nat × (Nat → Int32)} {S : zS} {m0 m : zM} {B : Int} {d : Nat} {Q : Option zV → zM → Prop} (y1 : Int) (hd : 13 ≤ d) (hJ : J S m0 B m) (hB9 : B ≤ 1000000000) (hy1 : 0 ≤ y1 ∧ y1 ≤ 364)
    (K95 : ∀ (x2 x3 : Int) , ((-1) ≤ x2 ∧ x2 ≤ 3) → (0 ≤ x3 ∧ x3 ≤ 3) → X (EE s) d 219 95 [(2, zi x2), (3, zi x3)] [] m Q) :
    ∀ (n : Nat) (y2 y3 y4 : Int) , ((-1) ≤ y2 ∧ y2 ≤ 3) → (0 ≤ y3 ∧ y3 ≤ 3) → (0 ≤ y4 ∧ y4 ≤ 4) → 4 - y4 < (n : Int) → X (EE s) d 219 7 [(0, zr 4 44), (1, zi y1), (2, zi y2), (3, zi y3), (4, zi y4)] [] m Q := by
  intro n
  induction n with
  | zero =>
    intro y2 y3 y4 hy2 hy3 hy4 hn
    exfalso
    omega
  | succ n ih =>
    intro y2 y3 y4 hy2 hy3 hy4 hn
    refine X.iload 9 i219_7 rfl rfl rfl ?_
    refine X.iconst 10 i219_9 rfl rfl (by decide) ?_
    refine X.icmpge 95 13 i219_10 rfl rfl rfl (fun h536 => ?_) (fun h536 => ?_)
    · refine X.cut [(2, zi y2), (3, zi y3)] i219_95 rfl ?_
      exact K95 y2 y3 (by first | trivial | omega) (by first | trivial | omega)
    · refine X.aload_n 14 i219_13 rfl rfl rfl ?_
      refine X.getF 17 i219_14 rfl rfl (by decide) rfl rfl ?_
      refine X.sipush 20 i219_17 rfl rfl (by decide) ?_
      refine X.iload 22 i219_20 rfl rfl rfl ?_
      refine X.iadd 23 i219_22 rfl rfl (by omega) ?_
      refine X.lald 24 i219_23 rfl rfl (by decide) rfl (by omega) ?_
      have h537 := r45_391 hJ 4 (i := (391 + y4)) (by omega)
      refine X.lstore 26 [(0, zr 4 44), (1, zi y1), (2, zi y2), (3, zi y3), (4, zi y4), (5, zl (m 4 45 (391 + y4)))] i219_24 rfl rfl rfl ?_
      refine X.lload 28 i219_26 rfl rfl rfl ?_
      refine X.ldc2 31 i219_28 rfl rfl (by decide) ?_
      refine X.lcmp 32 i219_31 rfl rfl (fun z538 hz538 => ?_)
      refine X.ifne 38 35 i219_32 rfl rfl rfl (fun h539 => ?_) (fun h539 => ?_)
      · have h539c : (m 4 45 (391 + y4)) ≠ (-1) := by omega
        clear h539 hz538
        refine X.lload 40 i219_38 rfl rfl rfl ?_
        refine X.iload_n 41 i219_40 rfl rfl rfl ?_
        refine X.i2l 42 i219_41 rfl rfl ?_
        refine X.lcmp 43 i219_42 rfl rfl (fun z540 hz540 => ?_)
        refine X.ifgt 70 46 i219_43 rfl rfl rfl (fun h541 => ?_) (fun h541 => ?_)
        · have h541c : (m 4 45 (391 + y4)) > y1 := by omega
          clear h541 hz540
          refine X.lload 72 i219_70 rfl rfl rfl ?_
          refine X.aload_n 73 i219_72 rfl rfl rfl ?_
          refine X.getF 76 i219_73 rfl rfl (by decide) rfl rfl ?_
          refine X.sipush 79 i219_76 rfl rfl (by decide) ?_
          refine X.iload_n 80 i219_79 rfl rfl rfl ?_
          refine X.iadd 81 i219_80 rfl rfl (by omega) ?_
          refine X.lald 82 i219_81 rfl rfl (by decide) rfl (by omega) ?_
          have h542 := r45_391 hJ 4 (i := (391 + y3)) (by omega)
          refine X.lcmp 83 i219_82 rfl rfl (fun z543 hz543 => ?_)
          refine X.ifle 89 86 i219_83 rfl rfl rfl (fun h544 => ?_) (fun h544 => ?_)
          · have h544c : (m 4 45 (391 + y4)) ≤ (m 4 45 (391 + y3)) := by omega
            clear h544 hz543
            refine X.cut [(0, zr 4 44), (1, zi y1), (2, zi y2), (3, zi y3), (4, zi y4)] i219_89 rfl ?_
            refine X.iinc 92 [(0, zr 4 44), (1, zi y1), (2, zi y2), (3, zi y3), (4, zi (y4 + 1))] i219_89 rfl rfl rfl (by omega) rfl ?_
            refine X.goto 7 i219_92 rfl rfl ?_
            exact ih y2 y3 (y4 + 1) (by omega) (by omega) (by omega) (by omega)
          · have h544c : (m 4 45 (391 + y4)) > (m 4 45 (391 + y3)) := by omega
            clear h544 hz543
            refine X.iload 88 i219_86 rfl rfl rfl ?_
            refine X.istore_n 89 [(0, zr 4 44), (1, zi y1), (2, zi y2), (3, zi y4), (4, zi y4), (5, zl (m 4 45 (391 + y4)))] i219_88 rfl rfl rfl ?_
            refine X.cut [(0, zr 4 44), (1, zi y1), (2, zi y2), (3, zi y4), (4, zi y4)] i219_89 rfl ?_
            refine X.iinc 92 [(0, zr 4 44), (1, zi y1), (2, zi y2), (3, zi y4), (4, zi (y4 + 1))] i219_89 rfl rfl rfl (by omega) rfl ?_
            refine X.goto 7 i219_92 rfl rfl ?_
            exact ih y2 y4 (y4 + 1) (by omega) (by omega) (by omega) (by omega)
        · have h541c : (m 4 45 (391 + y4)) ≤ y1 := by omega
          clear h541 hz540
          refine X.iload_n 47 i219_46 rfl rfl rfl ?_
          refine X.iconst 48 i219_47 rfl rfl (by decide) ?_
          refine X.icmpeq 67 51 i219_48 rfl rfl rfl (fun h545 => ?_) (fun h545 => ?_)
          · refine X.cut [(0, zr 4 44), (1, zi y1), (3, zi y3), (4, zi y4), (5, zl (m 4 45 (391 + y4)))] i219_67 rfl ?_
            refine X.iload 69 i219_67 rfl rfl rfl ?_
            refine X.istore_n 70 [(0, zr 4 44), (1, zi y1), (2, zi y4), (3, zi y3), (4, zi y4), (5, zl (m 4 45 (391 + y4)))] i219_69 rfl rfl rfl ?_
            refine X.lload 72 i219_70 rfl rfl rfl ?_
            refine X.aload_n 73 i219_72 rfl rfl rfl ?_
            refine X.getF 76 i219_73 rfl rfl (by decide) rfl rfl ?_
            refine X.sipush 79 i219_76 rfl rfl (by decide) ?_
            refine X.iload_n 80 i219_79 rfl rfl rfl ?_
            refine X.iadd 81 i219_80 rfl rfl (by omega) ?_
            refine X.lald 82 i219_81 rfl rfl (by decide) rfl (by omega) ?_
            have h546 := r45_391 hJ 4 (i := (391 + y3)) (by omega)
            refine X.lcmp 83 i219_82 rfl rfl (fun z547 hz547 => ?_)
            refine X.ifle 89 86 i219_83 rfl rfl rfl (fun h548 => ?_) (fun h548 => ?_)
            · have h548c : (m 4 45 (391 + y4)) ≤ (m 4 45 (391 + y3)) := by omega
              clear h548 hz547
              refine X.cut [(0, zr 4 44), (1, zi y1), (2, zi y4), (3, zi y3), (4, zi y4)] i219_89 rfl ?_
              refine X.iinc 92 [(0, zr 4 44), (1, zi y1), (2, zi y4), (3, zi y3), (4, zi (y4 + 1))] i219_89 rfl rfl rfl (by omega) rfl ?_
              refine X.goto 7 i219_92 rfl rfl ?_
              exact ih y4 y3 (y4 + 1) (by omega) (by omega) (by omega) (by omega)
            · have h548c : (m 4 45 (391 + y4)) > (m 4 45 (391 + y3)) := by omega
              clear h548 hz547
              refine X.iload 88 i219_86 rfl rfl rfl ?_
              refine X.istore_n 89 [(0, zr 4 44), (1, zi y1), (2, zi y4), (3, zi y4), (4, zi y4), (5, zl (m 4 45 (391 + y4)))] i219_88 rfl rfl rfl ?_
              refine X.cut [(0, zr 4 44), (1, zi y1), (2, zi y4), (3, zi y4), (4, zi y4)] i219_89 rfl ?_
              refine X.iinc 92 [(0, zr 4 44), (1, zi y1), (2, zi y4), (3, zi y4), (4, zi (y4 + 1))] i219_89 rfl rfl rfl (by omega) rfl ?_
              refine X.goto 7 i219_92 rfl rfl ?_
              exact ih y4 y4 (y4 + 1) (by omega) (by omega) (by omega) (by omega)
          · refine X.lload 53 i219_51 rfl rfl rfl ?_
            refine X.aload_n 54 i219_53 rfl rfl rfl ?_
            refine X.getF 57 i219_54 rfl rfl (by decide) rfl rfl ?_
            refine X.sipush 60 i219_57 rfl rfl (by decide) ?_
            refine X.iload_n 61 i219_60 rfl rfl rfl ?_
            refine X.iadd 62 i219_61 rfl rfl (by omega) ?_
            refine X.lald 63 i219_62 rfl rfl (by decide) rfl (by omega) ?_
            have h549 := r45_391 hJ 4 (i := (391 + y2)) (by omega)
            refine X.lcmp 64 i219_63 rfl rfl (fun z550 hz550 => ?_)
            refine X.ifle 70 67 i219_64 rfl rfl rfl (fun h551 => ?_) (fun h551 => ?_)
            · have h551c : (m 4 45 (391 + y4)) ≤ (m 4 45 (391 + y2)) := by omega
              clear h551 hz550
              refine X.lload 72 i219_70 rfl rfl rfl ?_
              refine X.aload_n 73 i219_72 rfl rfl rfl ?_
              refine X.getF 76 i219_73 rfl rfl (by decide) rfl rfl ?_
              refine X.sipush 79 i219_76 rfl rfl (by decide) ?_
              refine X.iload_n 80 i219_79 rfl rfl rfl ?_
              refine X.iadd 81 i219_80 rfl rfl (by omega) ?_
              refine X.lald 82 i219_81 rfl rfl (by decide) rfl (by omega) ?_
              have h552 := r45_391 hJ 4 (i := (391 + y3)) (by omega)
              refine X.lcmp 83 i219_82 rfl rfl (fun z553 hz553 => ?_)
              refine X.ifle 89 86 i219_83 rfl rfl rfl (fun h554 => ?_) (fun h554 => ?_)
              · have h554c : (m 4 45 (391 + y4)) ≤ (m 4 45 (391 + y3)) := by omega
                clear h554 hz553
                refine X.cut [(0, zr 4 44), (1, zi y1), (2, zi y2), (3, zi y3), (4, zi y4)] i219_89 rfl ?_
                refine X.iinc 92 [(0, zr 4 44), (1, zi y1), (2, zi y2), (3, zi y3), (4, zi (y4 + 1))] i219_89 rfl rfl rfl (by omega) rfl ?_
                refine X.goto 7 i219_92 rfl rfl ?_
                exact ih y2 y3 (y4 + 1) (by omega) (by omega) (by omega) (by omega)
              · have h554c : (m 4 45 (391 + y4)) > (m 4 45 (391 + y3)) := by omega
                clear h554 hz553
                refine X.iload 88 i219_86 rfl rfl rfl ?_
                refine X.istore_n 89 [(0, zr 4 44), (1, zi y1), (2, zi y2), (3, zi y4), (4, zi y4), (5, zl (m 4 45 (391 + y4)))] i219_88 rfl rfl rfl ?_
                refine X.cut [(0, zr 4 44), (1, zi y1), (2, zi y2), (3, zi y4), (4, zi y4)] i219_89 rfl ?_
                refine X.iinc 92 [(0, zr 4 44), (1, zi y1), (2, zi y2), (3, zi y4), (4, zi (y4 + 1))] i219_89 rfl rfl rfl (by omega) rfl ?_
                refine X.goto 7 i219_92 rfl rfl ?_
                exact ih y2 y4 (y4 + 1) (by omega) (by omega) (by omega) (by omega)
            · have h551c : (m 4 45 (391 + y4)) > (m 4 45 (391 + y2)) := by omega
              clear h551 hz550
              refine X.cut [(0, zr 4 44), (1, zi y1), (3, zi y3), (4, zi y4), (5, zl (m 4 45 (391 + y4)))] i219_67 rfl ?_
              refine X.iload 69 i219_67 rfl rfl rfl ?_
              refine X.istore_n 70 [(0, zr 4 44), (1, zi y1), (2, zi y4), (3, zi y3), (4, zi y4), (5, zl (m 4 45 (391 + y4)))] i219_69 rfl rfl rfl ?_
              refine X.lload 72 i219_70 rfl rfl rfl ?_
              refine X.aload_n 73 i219_72 rfl rfl rfl ?_
              refine X.getF 76 i219_73 rfl rfl (by decide) rfl rfl ?_
              refine X.sipush 79 i219_76 rfl rfl (by decide) ?_
              refine X.iload_n 80 i219_79 rfl rfl rfl ?_
              refine X.iadd 81 i219_80 rfl rfl (by omega) ?_
              refine X.lald 82 i219_81 rfl rfl (by decide) rfl (by omega) ?_
              have h555 := r45_391 hJ 4 (i := (391 + y3)) (by omega)
              refine X.lcmp 83 i219_82 rfl rfl (fun z556 hz556 => ?_)
              refine X.ifle 89 86 i219_83 rfl rfl rfl (fun h557 => ?_) (fun h557 => ?_)
              · have h557c : (m 4 45 (391 + y4)) ≤ (m 4 45 (391 + y3)) := by omega
                clear h557 hz556
                refine X.cut [(0, zr 4 44), (1, zi y1), (2, zi y4), (3, zi y3), (4, zi y4)] i219_89 rfl ?_
                refine X.iinc 92 [(0, zr 4 44), (1, zi y1), (2, zi y4), (3, zi y3), (4, zi (y4 + 1))] i219_89 rfl rfl rfl (by omega) rfl ?_
                refine X.goto 7 i219_92 rfl rfl ?_
                exact ih y4 y3 (y4 + 1) (by omega) (by omega) (by omega) (by omega)
              · have h557c : (m 4 45 (391 + y4)) > (m 4 45 (391 + y3)) := by omega
                clear h557 hz556
                refine X.iload 88 i219_86 rfl rfl rfl ?_
                refine X.istore_n 89 [(0, zr 4 44), (1, zi y1), (2, zi y4), (3, zi y4), (4, zi y4), (5, zl (m 4 45 (391 + y4)))] i219_88 rfl rfl rfl ?_
                refine X.cut [(0, zr 4 44), (1, zi y1), (2, zi y4), (3, zi y4), (4, zi y4)] i219_89 rfl ?_
                refine X.iinc 92 [(0, zr 4 44), (1, zi y1), (2, zi y4), (3, zi y4), (4, zi (y4 + 1))] i219_89 rfl rfl rfl (by omega) rfl ?_
                refine X.goto 7 i219_92 rfl rfl ?_
                exact ih y4 y4 (y4 + 1) (by omega) (by omega) (by omega) (by omega)
      · have h539c : (m 4 45 (391 + y4)) = (-1) := by omega
        clear h539 hz538
        refine X.goto 89 i219_35 rfl rfl ?_
        refine X.cut [(0, zr 4 44), (1, zi y1), (2, zi y2), (3, zi y3), (4, zi y4)] i219_89 rfl ?_
        refine X.iinc 92 [(0, zr 4 44), (1, zi y1), (2, zi y2), (3, zi y3), (4, zi (y4 + 1))] i219_89 rfl rfl rfl (by omega) rfl ?_
        refine X.goto 7 i219_92 rfl rfl ?_
        exact ih y2 y3 (y4 + 1) (by omega) (by omega) (by omega) (by omega)
-- WorkMeterModel.seasonOf
theorem c219_1 {s : Nat × (Nat → Int32)} {S : zS} {m0 m : zM} {B : Int} {d : Nat} {Q : Option zV → zM → Prop} (a1 : Int) (hd : 13 ≤ d) (hJ : J S m0 B m) (hB : B + 0 ≤ 1000000000) (ha1 : 0 ≤ a1 ∧ a1 ≤ 364) (hQ : ∀ (v : Int), (0 ≤ v ∧ v ≤ 3) → Q (some (zi v)) m) : X (EE s) d 219 0 [(0, zr 4 44), (1, zi a1)] [] m Q := by
  refine X.iconst 1 i219_0 rfl rfl (by decide) ?_
  refine X.istore_n 2 [(0, zr 4 44), (1, zi a1), (2, zi (-1))] i219_1 rfl rfl rfl ?_
  refine X.iconst 3 i219_2 rfl rfl (by decide) ?_
  refine X.istore_n 4 [(0, zr 4 44), (1, zi a1), (2, zi (-1)), (3, zi 0)] i219_3 rfl rfl rfl ?_
  refine X.iconst 5 i219_4 rfl rfl (by decide) ?_
  refine X.istore 7 [(0, zr 4 44), (1, zi a1), (2, zi (-1)), (3, zi 0), (4, zi 0)] i219_5 rfl rfl rfl ?_
  refine l219_7_1 (s := s) (S := S) (m0 := m0) (m := m) (B := B) (d := d)  a1 (by omega) (hJ.up (by omega)) (by omega) (by omega) (fun y501 y502 hby501 hby502 => ?_) ((4 - 0 : Int).toNat + 1) (-1) 0 0 (by omega) (by omega) (by omega) (by omega)
  refine X.iload_n 96 i219_95 rfl rfl rfl ?_
  refine X.iconst 97 i219_96 rfl rfl (by decide) ?_
  refine X.icmpne 104 100 i219_97 rfl rfl rfl (fun h506 => ?_) (fun h506 => ?_)
  · refine X.cut [(2, zi y501)] i219_104 rfl ?_
    refine X.iload_n 105 i219_104 rfl rfl rfl ?_
    refine X.cut [] i219_105 rfl ?_
    refine X.reti i219_105 rfl t219 ?_
    exact hQ y501 (by first | trivial | omega) 
  · refine X.iload_n 101 i219_100 rfl rfl rfl ?_
    refine X.goto 105 i219_101 rfl rfl ?_
    refine X.cut [] i219_105 rfl ?_
    refine X.reti i219_105 rfl t219 ?_
    exact hQ y502 (by first | trivial | omega) 
-- WorkMeterModel.tableAt
theorem c218_1 {s : Nat × (Nat → Int32)} {S : zS} {m0 m : zM} {B : Int} {d : Nat} {Q : Option zV → zM → Prop} (a1 : Int) (hd : 14 ≤ d) (hJ : J S m0 B m) (hB : B + 0 ≤ 1000000000) (ha1 : 0 ≤ a1 ∧ a1 ≤ 23150) (hQ : ∀ (v : Int), (0 ≤ v ∧ v ≤ 7) → Q (some (zi v)) m) : X (EE s) d 218 0 [(0, zr 4 44), (1, zi a1)] [] m Q := by
  refine X.iload_n 1 i218_0 rfl rfl rfl ?_
  refine X.sipush 4 i218_1 rfl rfl (by decide) ?_
  refine X.irem 5 i218_4 rfl rfl (by omega) ?_
  refine X.istore_n 6 [(0, zr 4 44), (1, zi a1), (2, zi (a1 % 365))] i218_5 rfl rfl rfl ?_
  refine X.aload_n 7 i218_6 rfl rfl rfl ?_
  refine X.getF 10 i218_7 rfl rfl (by decide) rfl rfl ?_
  refine X.sipush 13 i218_10 rfl rfl (by decide) ?_
  refine X.iload_n 14 i218_13 rfl rfl rfl ?_
  refine X.iadd 15 i218_14 rfl rfl (by omega) ?_
  refine X.lald 16 i218_15 rfl rfl (by decide) rfl (by omega) ?_
  have h501 := r45_423 hJ 4 (i := (423 + (a1 % 365))) (by omega)
  refine X.ldc2 19 i218_16 rfl rfl (by decide) ?_
  refine X.lcmp 20 i218_19 rfl rfl (fun z502 hz502 => ?_)
  refine X.ifeq 35 23 i218_20 rfl rfl rfl (fun h503 => ?_) (fun h503 => ?_)
  · have h503c : (m 4 45 (423 + (a1 % 365))) = (-1) := by omega
    clear h503 hz502
    refine X.aload_n 36 i218_35 rfl rfl rfl ?_
    refine X.getF 39 i218_36 rfl rfl (by decide) rfl rfl ?_
    refine X.sipush 42 i218_39 rfl rfl (by decide) ?_
    refine X.bipush 44 i218_42 rfl rfl (by decide) ?_
    refine X.aload_n 45 i218_44 rfl rfl rfl ?_
    refine X.iload_n 46 i218_45 rfl rfl rfl ?_
    refine X.callv 49 [zi (a1 % 365)] [zi 7, zi 395, zr 4 45] [(0, zr 4 44), (1, zi (a1 % 365))] i218_46 rfl (by decide) rfl rfl (by omega) rfl rfl (by decide) rfl t219 (Nat.le_of_ble_eq_true rfl) (Nat.le_of_ble_eq_true rfl) rfl ?_
    refine c219_1 (B := B)  (a1 % 365) (by omega) (hJ.up (by omega)) (by omega) (by omega) (fun v506 hv506 => ?_)
    show X (EE s) d 218 49 [(0, zr 4 44), (1, zi a1), (2, zi (a1 % 365))] [zi v506, zi 7, zi 395, zr 4 45] m _
    refine X.imul 50 i218_49 rfl rfl (by omega) ?_
    refine X.iadd 51 i218_50 rfl rfl (by omega) ?_
    refine X.iload_n 52 i218_51 rfl rfl rfl ?_
    refine X.bipush 54 i218_52 rfl rfl (by decide) ?_
    refine X.irem 55 i218_54 rfl rfl (by omega) ?_
    refine X.iadd 56 i218_55 rfl rfl (by omega) ?_
    refine X.lald 57 i218_56 rfl rfl (by decide) rfl (by omega) ?_
    have h507 := r45_395 hJ 4 (i := ((395 + (7 * v506)) + (a1 % 7))) (by omega)
    refine X.l2i 58 i218_57 rfl rfl (by omega) ?_
    refine X.reti i218_58 rfl t218 ?_
    exact hQ (m 4 45 ((395 + (7 * v506)) + (a1 % 7))) (by first | trivial | omega) 
  · have h503c : (m 4 45 (423 + (a1 % 365))) ≠ (-1) := by omega
    clear h503 hz502
    refine X.aload_n 24 i218_23 rfl rfl rfl ?_
    refine X.getF 27 i218_24 rfl rfl (by decide) rfl rfl ?_
    refine X.sipush 30 i218_27 rfl rfl (by decide) ?_
    refine X.iload_n 31 i218_30 rfl rfl rfl ?_
    refine X.iadd 32 i218_31 rfl rfl (by omega) ?_
    refine X.lald 33 i218_32 rfl rfl (by decide) rfl (by omega) ?_
    refine X.l2i 34 i218_33 rfl rfl (by omega) ?_
    refine X.reti i218_34 rfl t218 ?_
    exact hQ (m 4 45 (423 + (a1 % 365))) (by first | trivial | omega) 
theorem l217_14_1 {s : Nat × (Nat → Int32)} {S : zS} {m0 m : zM} {B : Int} {d : Nat} {Q : Option zV → zM → Prop} (y1 y2 : Int) (hd : 13 ≤ d) (hJ : J S m0 B m) (hB9 : B ≤ 1000000000) (hy1 : (-1) ≤ y1 ∧ y1 ≤ 2000000000) (hy2 : 0 ≤ y2 ∧ y2 ≤ 7)
    (K80 : ∀ (x3 : Int) , (0 ≤ x3 ∧ x3 ≤ 3) → X (EE s) d 217 80 [(3, zi x3)] [] m Q) :
    ∀ (n : Nat) (y3 y4 : Int) , (0 ≤ y3 ∧ y3 ≤ 3) → (0 ≤ y4 ∧ y4 ≤ 6) → 6 - y4 < (n : Int) → X (EE s) d 217 14 [(0, zr 4 44), (1, zi y1), (2, zi y2), (3, zi y3), (4, zi y4)] [] m Q := by
  intro n
  induction n with
  | zero =>
    intro y3 y4 hy3 hy4 hn
    exfalso
    omega
  | succ n ih =>
    intro y3 y4 hy3 hy4 hn
    refine X.iload 16 i217_14 rfl rfl rfl ?_
    refine X.i2l 17 i217_16 rfl rfl ?_
    refine X.aload_n 18 i217_17 rfl rfl rfl ?_
    refine X.getF 21 i217_18 rfl rfl (by decide) rfl rfl ?_
    refine X.sipush 24 i217_21 rfl rfl (by decide) ?_
    refine X.iload_n 25 i217_24 rfl rfl rfl ?_
    refine X.iadd 26 i217_25 rfl rfl (by omega) ?_
    refine X.lald 27 i217_26 rfl rfl (by decide) rfl (by omega) ?_
    have h519 := r45_287 hJ 4 (i := (287 + y2)) (by omega)
    refine X.lcmp 28 i217_27 rfl rfl (fun z520 hz520 => ?_)
    refine X.ifge 80 31 i217_28 rfl rfl rfl (fun h521 => ?_) (fun h521 => ?_)
    · have h521c : y4 ≥ (m 4 45 (287 + y2)) := by omega
      clear h521 hz520
      refine X.cut [(3, zi y3)] i217_80 rfl ?_
      exact K80 y3 (by first | trivial | omega)
    · have h521c : y4 < (m 4 45 (287 + y2)) := by omega
      clear h521 hz520
      refine X.aload_n 32 i217_31 rfl rfl rfl ?_
      refine X.getF 35 i217_32 rfl rfl (by decide) rfl rfl ?_
      refine X.sipush 38 i217_35 rfl rfl (by decide) ?_
      refine X.bipush 40 i217_38 rfl rfl (by decide) ?_
      refine X.iload_n 41 i217_40 rfl rfl rfl ?_
      refine X.imul 42 i217_41 rfl rfl (by omega) ?_
      refine X.iadd 43 i217_42 rfl rfl (by omega) ?_
      refine X.iload 45 i217_43 rfl rfl rfl ?_
      refine X.iadd 46 i217_45 rfl rfl (by omega) ?_
      refine X.lald 47 i217_46 rfl rfl (by decide) rfl (by omega) ?_
      have h522 := r45_295 hJ 4 (i := ((295 + (6 * y2)) + y4)) (by omega)
      refine X.iload_n 48 i217_47 rfl rfl rfl ?_
      refine X.ldc 50 i217_48 rfl rfl (by decide) ?_
      refine X.iremT 51 i217_50 rfl rfl (by decide) (fun z523 hz523 => ?_)
      refine X.i2l 52 i217_51 rfl rfl ?_
      refine X.lcmp 53 i217_52 rfl rfl (fun z524 hz524 => ?_)
      refine X.ifgt 74 56 i217_53 rfl rfl rfl (fun h525 => ?_) (fun h525 => ?_)
      · have h525c : (m 4 45 ((295 + (6 * y2)) + y4)) > z523 := by omega
        clear h525 hz524
        refine X.iinc 77 [(0, zr 4 44), (1, zi y1), (2, zi y2), (3, zi y3), (4, zi (y4 + 1))] i217_74 rfl rfl rfl (by omega) rfl ?_
        refine X.goto 14 i217_77 rfl rfl ?_
        exact ih y3 (y4 + 1) (by omega) (by omega) (by omega)
      · have h525c : (m 4 45 ((295 + (6 * y2)) + y4)) ≤ z523 := by omega
        clear h525 hz524
        refine X.aload_n 57 i217_56 rfl rfl rfl ?_
        refine X.getF 60 i217_57 rfl rfl (by decide) rfl rfl ?_
        refine X.sipush 63 i217_60 rfl rfl (by decide) ?_
        refine X.bipush 65 i217_63 rfl rfl (by decide) ?_
        refine X.iload_n 66 i217_65 rfl rfl rfl ?_
        refine X.imul 67 i217_66 rfl rfl (by omega) ?_
        refine X.iadd 68 i217_67 rfl rfl (by omega) ?_
        refine X.iload 70 i217_68 rfl rfl rfl ?_
        refine X.iadd 71 i217_70 rfl rfl (by omega) ?_
        refine X.lald 72 i217_71 rfl rfl (by decide) rfl (by omega) ?_
        have h526 := r45_343 hJ 4 (i := ((343 + (6 * y2)) + y4)) (by omega)
        refine X.l2i 73 i217_72 rfl rfl (by omega) ?_
        refine X.istore_n 74 [(0, zr 4 44), (1, zi y1), (2, zi y2), (3, zi (m 4 45 ((343 + (6 * y2)) + y4))), (4, zi y4)] i217_73 rfl rfl rfl ?_
        refine X.iinc 77 [(0, zr 4 44), (1, zi y1), (2, zi y2), (3, zi (m 4 45 ((343 + (6 * y2)) + y4))), (4, zi (y4 + 1))] i217_74 rfl rfl rfl (by omega) rfl ?_
        refine X.goto 14 i217_77 rfl rfl ?_
        exact ih (m 4 45 ((343 + (6 * y2)) + y4)) (y4 + 1) (by omega) (by omega) (by omega)
-- WorkMeterModel.tariff
theorem c217_1 {s : Nat × (Nat → Int32)} {S : zS} {m0 m : zM} {B : Int} {d : Nat} {Q : Option zV → zM → Prop} (a1 : Int) (hd : 15 ≤ d) (hJ : J S m0 B m) (hB : B + 0 ≤ 1000000000) (ha1 : (-1) ≤ a1 ∧ a1 ≤ 2000000000) (hQ : ∀ (v : Int), (0 ≤ v ∧ v ≤ 3) → Q (some (zi v)) m) : X (EE s) d 217 0 [(0, zr 4 44), (1, zi a1)] [] m Q := by
  refine X.aload_n 1 i217_0 rfl rfl rfl ?_
  refine X.iload_n 2 i217_1 rfl rfl rfl ?_
  refine X.ldc 4 i217_2 rfl rfl (by decide) ?_
  refine X.idivT 5 i217_4 rfl rfl (by decide) (fun z501 hz501 => ?_)
  refine X.callv 8 [zi z501] [] [(0, zr 4 44), (1, zi z501)] i217_5 rfl (by decide) rfl rfl (by omega) rfl rfl (by decide) rfl t218 (Nat.le_of_ble_eq_true rfl) (Nat.le_of_ble_eq_true rfl) rfl ?_
  refine c218_1 (B := B)  z501 (by omega) (hJ.up (by omega)) (by omega) (by omega) (fun v504 hv504 => ?_)
  show X (EE s) d 217 8 [(0, zr 4 44), (1, zi a1)] [zi v504] m _
  refine X.istore_n 9 [(0, zr 4 44), (1, zi a1), (2, zi v504)] i217_8 rfl rfl rfl ?_
  refine X.iconst 10 i217_9 rfl rfl (by decide) ?_
  refine X.istore_n 11 [(0, zr 4 44), (1, zi a1), (2, zi v504), (3, zi 0)] i217_10 rfl rfl rfl ?_
  refine X.iconst 12 i217_11 rfl rfl (by decide) ?_
  refine X.istore 14 [(0, zr 4 44), (1, zi a1), (2, zi v504), (3, zi 0), (4, zi 0)] i217_12 rfl rfl rfl ?_
  refine l217_14_1 (s := s) (S := S) (m0 := m0) (m := m) (B := B) (d := d)  a1 v504 (by omega) (hJ.up (by omega)) (by omega) (by omega) (by omega) (fun y505 hby505 => ?_) ((6 - 0 : Int).toNat + 1) 0 0 (by omega) (by omega) (by omega)
  refine X.iload_n 81 i217_80 rfl rfl rfl ?_
  refine X.reti i217_81 rfl t217 ?_
  exact hQ y505 (by first | trivial | omega) 
-- WorkMeterModel.registers
theorem c216_1 {s : Nat × (Nat → Int32)} {S : zS} {m0 m : zM} {B : Int} {d : Nat} {Q : Option zV → zM → Prop} (a1 a2 a3 : Int) (hd : 16 ≤ d) (hJ : J S m0 B m) (hB : B + 0 ≤ 1000000000) (ha1 : 0 ≤ a1) (ha3 : 0 ≤ a3 ∧ a3 ≤ 3000000000) (hQ : ∀ m', J S m0 (B) m' → Q none m') : X (EE s) d 216 0 [(0, zr 4 44), (1, zl a1), (3, zl a2), (5, zl a3)] [] m Q := by
  refine X.aload_n 1 i216_0 rfl rfl rfl ?_
  refine X.aload_n 2 i216_1 rfl rfl rfl ?_
  refine X.getF 5 i216_2 rfl rfl (by decide) rfl rfl ?_
  refine X.iconst 6 i216_5 rfl rfl (by decide) ?_
  refine X.lald 7 i216_6 rfl rfl (by decide) rfl (by omega) ?_
  have h501 := r45_0 hJ 4
  refine X.l2i 8 i216_7 rfl rfl (by omega) ?_
  refine X.callv 11 [zi (m 4 45 0)] [] [(0, zr 4 44), (1, zi (m 4 45 0))] i216_8 rfl (by decide) rfl rfl (by omega) rfl rfl (by decide) rfl t217 (Nat.le_of_ble_eq_true rfl) (Nat.le_of_ble_eq_true rfl) rfl ?_
  refine c217_1 (B := B)  (m 4 45 0) (by omega) (hJ.up (by omega)) (by omega) (by omega) (fun v504 hv504 => ?_)
  show X (EE s) d 216 11 [(0, zr 4 44), (1, zl a1), (3, zl a2), (5, zl a3)] [zi v504] m _
  refine X.istore 13 [(0, zr 4 44), (1, zl a1), (3, zl a2), (5, zl a3), (7, zi v504)] i216_11 rfl rfl rfl ?_
  refine X.aload_n 14 i216_13 rfl rfl rfl ?_
  refine X.getF 17 i216_14 rfl rfl (by decide) rfl rfl ?_
  refine X.bipush 19 i216_17 rfl rfl (by decide) ?_
  refine X.iload 21 i216_19 rfl rfl rfl ?_
  refine X.iadd 22 i216_21 rfl rfl (by omega) ?_
  refine X.lald 23 i216_22 rfl rfl (by decide) rfl (by omega) ?_
  refine X.aload_n 24 i216_23 rfl rfl rfl ?_
  refine X.getF 27 i216_24 rfl rfl (by decide) rfl rfl ?_
  refine X.iconst 28 i216_27 rfl rfl (by decide) ?_
  refine X.lald 29 i216_28 rfl rfl (by decide) rfl (by omega) ?_
  have h505 := r45_5 hJ 4
  refine X.ldivF 30 i216_29 rfl rfl (by omega) (fun z506 => ?_)
  refine X.lstore 32 [(0, zr 4 44), (1, zl a1), (3, zl a2), (5, zl a3), (7, zi v504), (8, zl z506)] i216_30 rfl rfl rfl ?_
  refine X.lload_n 33 i216_32 rfl rfl rfl ?_
  refine X.lconst (y := 0) 34 i216_33 rfl rfl rfl ?_
  refine X.lcmp 35 i216_34 rfl rfl (fun z507 hz507 => ?_)
  refine X.ifle 46 38 i216_35 rfl rfl rfl (fun h508 => ?_) (fun h508 => ?_)
  · have h508c : a1 ≤ 0 := by omega
    clear h508 hz507
    refine X.lload_n 47 i216_46 rfl rfl rfl ?_
    refine X.lconst (y := 0) 48 i216_47 rfl rfl rfl ?_
    refine X.lcmp 49 i216_48 rfl rfl (fun z509 hz509 => ?_)
    refine X.ifge 61 52 i216_49 rfl rfl rfl (fun h510 => ?_) (fun h510 => (by exfalso; omega))
    have h510c : a1 ≥ 0 := by omega
    clear h510 hz509
    refine X.aload_n 62 i216_61 rfl rfl rfl ?_
    refine X.iconst 63 i216_62 rfl rfl (by decide) ?_
    refine X.lload_n 64 i216_63 rfl rfl rfl ?_
    refine X.lload_n 65 i216_64 rfl rfl rfl ?_
    refine X.calls 68 [zl a1, zl a2] [zi 1, zr 4 44] [(0, zl a1), (2, zl a2)] i216_65 (by decide) rfl rfl (by omega) rfl rfl t221 (Nat.le_of_ble_eq_true rfl) (Nat.le_of_ble_eq_true rfl) rfl ?_
    refine X.lload_n 1 i221_0 rfl rfl rfl ?_
    refine X.lconst (y := 0) 2 i221_1 rfl rfl rfl ?_
    refine X.lcmp 3 i221_2 rfl rfl (fun z511 hz511 => ?_)
    refine X.iflt 20 6 i221_3 rfl rfl rfl (fun h512 => (by exfalso; omega)) (fun h512 => ?_)
    have h512c : a1 ≥ 0 := by omega
    clear h512 hz511
    refine X.lload_n 7 i221_6 rfl rfl rfl ?_
    refine X.lconst (y := 0) 8 i221_7 rfl rfl rfl ?_
    refine X.lcmp 9 i221_8 rfl rfl (fun z513 hz513 => ?_)
    refine X.iflt 16 12 i221_9 rfl rfl rfl (fun h514 => ?_) (fun h514 => ?_)
    · have h514c : a2 < 0 := by omega
      clear h514 hz513
      refine X.cut [] i221_16 rfl ?_
      refine X.iconst 17 i221_16 rfl rfl (by decide) ?_
      refine X.goto 31 i221_17 rfl rfl ?_
      refine X.reti i221_31 rfl t221 ?_
      show X (EE s) d 216 68 [(0, zr 4 44), (1, zl a1), (3, zl a2), (5, zl a3), (7, zi v504), (8, zl z506)] [zi 4, zi 1, zr 4 44] m _
      refine X.iadd 69 i216_68 rfl rfl (by omega) ?_
      refine X.iload 71 i216_69 rfl rfl rfl ?_
      refine X.lload_n 72 i216_71 rfl rfl rfl ?_
      refine X.calls 75 [zl a2] [zi v504, zi (1 + 4), zr 4 44] [(0, zl a2)] i216_72 (by decide) rfl rfl (by omega) rfl rfl t215 (Nat.le_of_ble_eq_true rfl) (Nat.le_of_ble_eq_true rfl) rfl ?_
      refine X.lload_n 1 i215_0 rfl rfl rfl ?_
      refine X.lconst (y := 0) 2 i215_1 rfl rfl rfl ?_
      refine X.lcmp 3 i215_2 rfl rfl (fun z515 hz515 => ?_)
      refine X.ifge 11 6 i215_3 rfl rfl rfl (fun h516 => (by exfalso; omega)) (fun h516 => ?_)
      have h516c : a2 < 0 := by omega
      clear h516 hz515
      refine X.lload_n 7 i215_6 rfl rfl rfl ?_
      refine X.lnegF 8 i215_7 rfl rfl (fun z517 hz517 => ?_)
      refine X.goto 12 i215_8 rfl rfl ?_
      refine X.cut [] i215_12 rfl ?_
      refine X.retl i215_12 rfl t215 ?_
      show X (EE s) d 216 75 [(0, zr 4 44), (1, zl a1), (3, zl a2), (5, zl a3), (7, zi v504), (8, zl z506)] [zl z517, zi v504, zi (1 + 4), zr 4 44] m _
      refine X.callv 78 [zi (1 + 4), zi v504, zl z517] [] [(0, zr 4 44), (1, zi (1 + 4)), (2, zi v504), (3, zl z517)] i216_75 rfl (by decide) rfl rfl (by omega) rfl rfl (by decide) rfl t220 (Nat.le_of_ble_eq_true rfl) (Nat.le_of_ble_eq_true rfl) rfl ?_
      refine X.aload_n 1 i220_0 rfl rfl rfl ?_
      refine X.getF 4 i220_1 rfl rfl (by decide) rfl rfl ?_
      refine X.bipush 6 i220_4 rfl rfl (by decide) ?_
      refine X.iconst 7 i220_6 rfl rfl (by decide) ?_
      refine X.iload_n 8 i220_7 rfl rfl rfl ?_
      refine X.imul 9 i220_8 rfl rfl (by omega) ?_
      refine X.iadd 10 i220_9 rfl rfl (by omega) ?_
      refine X.iload_n 11 i220_10 rfl rfl rfl ?_
      refine X.iadd 12 i220_11 rfl rfl (by omega) ?_
      refine X.dup2 13 i220_12 rfl rfl ?_
      refine X.lald 14 i220_13 rfl rfl (by decide) rfl (by omega) ?_
      refine X.lload_n 15 i220_14 rfl rfl rfl ?_
      refine X.llF 16 .ladd (fun x y => x + y) i220_15 rfl rfl rfl (fun _ _ => rfl) (fun z518 hz518 => ?_)
      refine X.last' 17 i220_16 rfl rfl (by decide) rfl (by omega) (fun hrm519 m519 hm519 => ?_)
      have hJ520 := w45_19 hJ hm519 (by omega) hrm519
      refine X.aload_n 18 i220_17 rfl rfl rfl ?_
      refine X.getF 21 i220_18 rfl rfl (by decide) rfl rfl ?_
      refine X.bipush 23 i220_21 rfl rfl (by decide) ?_
      refine X.iconst 24 i220_23 rfl rfl (by decide) ?_
      refine X.iload_n 25 i220_24 rfl rfl rfl ?_
      refine X.imul 26 i220_25 rfl rfl (by omega) ?_
      refine X.iadd 27 i220_26 rfl rfl (by omega) ?_
      refine X.iconst 28 i220_27 rfl rfl (by decide) ?_
      refine X.iadd 29 i220_28 rfl rfl (by omega) ?_
      refine X.dup2 30 i220_29 rfl rfl ?_
      refine X.lald 31 i220_30 rfl rfl (by decide) rfl (by omega) ?_
      refine X.lload_n 32 i220_31 rfl rfl rfl ?_
      refine X.llF 33 .ladd (fun x y => x + y) i220_32 rfl rfl rfl (fun _ _ => rfl) (fun z521 hz521 => ?_)
      refine X.last' 34 i220_33 rfl rfl (by decide) rfl (by omega) (fun hrm522 m522 hm522 => ?_)
      have hJ523 := w45_19 hJ520 hm522 (by omega) hrm522
      refine X.retv i220_34 rfl t220 ?_
      show X (EE s) d 216 78 [(0, zr 4 44), (1, zl a1), (3, zl a2), (5, zl a3), (7, zi v504), (8, zl z506)] [] m522 _
      refine X.aload_n 79 i216_78 rfl rfl rfl ?_
      refine X.bipush 81 i216_79 rfl rfl (by decide) ?_
      refine X.iload 83 i216_81 rfl rfl rfl ?_
      refine X.lload 85 i216_83 rfl rfl rfl ?_
      refine X.callv 88 [zi 6, zi v504, zl a3] [] [(0, zr 4 44), (1, zi 6), (2, zi v504), (3, zl a3)] i216_85 rfl (by decide) rfl rfl (by omega) rfl rfl (by decide) rfl t220 (Nat.le_of_ble_eq_true rfl) (Nat.le_of_ble_eq_true rfl) rfl ?_
      refine X.aload_n 1 i220_0 rfl rfl rfl ?_
      refine X.getF 4 i220_1 rfl rfl (by decide) rfl rfl ?_
      refine X.bipush 6 i220_4 rfl rfl (by decide) ?_
      refine X.iconst 7 i220_6 rfl rfl (by decide) ?_
      refine X.iload_n 8 i220_7 rfl rfl rfl ?_
      refine X.imul 9 i220_8 rfl rfl (by omega) ?_
      refine X.iadd 10 i220_9 rfl rfl (by omega) ?_
      refine X.iload_n 11 i220_10 rfl rfl rfl ?_
      refine X.iadd 12 i220_11 rfl rfl (by omega) ?_
      refine X.dup2 13 i220_12 rfl rfl ?_
      refine X.lald 14 i220_13 rfl rfl (by decide) rfl (by omega) ?_
      refine X.lload_n 15 i220_14 rfl rfl rfl ?_
      refine X.llF 16 .ladd (fun x y => x + y) i220_15 rfl rfl rfl (fun _ _ => rfl) (fun z524 hz524 => ?_)
      refine X.last' 17 i220_16 rfl rfl (by decide) rfl (by omega) (fun hrm525 m525 hm525 => ?_)
      have hJ526 := w45_19 hJ523 hm525 (by omega) hrm525
      refine X.aload_n 18 i220_17 rfl rfl rfl ?_
      refine X.getF 21 i220_18 rfl rfl (by decide) rfl rfl ?_
      refine X.bipush 23 i220_21 rfl rfl (by decide) ?_
      refine X.iconst 24 i220_23 rfl rfl (by decide) ?_
      refine X.iload_n 25 i220_24 rfl rfl rfl ?_
      refine X.imul 26 i220_25 rfl rfl (by omega) ?_
      refine X.iadd 27 i220_26 rfl rfl (by omega) ?_
      refine X.iconst 28 i220_27 rfl rfl (by decide) ?_
      refine X.iadd 29 i220_28 rfl rfl (by omega) ?_
      refine X.dup2 30 i220_29 rfl rfl ?_
      refine X.lald 31 i220_30 rfl rfl (by decide) rfl (by omega) ?_
      refine X.lload_n 32 i220_31 rfl rfl rfl ?_
      refine X.llF 33 .ladd (fun x y => x + y) i220_32 rfl rfl rfl (fun _ _ => rfl) (fun z527 hz527 => ?_)
      refine X.last' 34 i220_33 rfl rfl (by decide) rfl (by omega) (fun hrm528 m528 hm528 => ?_)
      have hJ529 := w45_19 hJ526 hm528 (by omega) hrm528
      refine X.retv i220_34 rfl t220 ?_
      show X (EE s) d 216 88 [(0, zr 4 44), (1, zl a1), (3, zl a2), (5, zl a3), (7, zi v504), (8, zl z506)] [] m528 _
      refine X.aload_n 89 i216_88 rfl rfl rfl ?_
      refine X.getF 92 i216_89 rfl rfl (by decide) rfl rfl ?_
      refine X.bipush 94 i216_92 rfl rfl (by decide) ?_
      refine X.dup2 95 i216_94 rfl rfl ?_
      refine X.lald 96 i216_95 rfl rfl (by decide) rfl (by omega) ?_
      refine X.aload_n 97 i216_96 rfl rfl rfl ?_
      refine X.getF 100 i216_97 rfl rfl (by decide) rfl rfl ?_
      refine X.bipush 102 i216_100 rfl rfl (by decide) ?_
      refine X.iload 104 i216_102 rfl rfl rfl ?_
      refine X.iadd 105 i216_104 rfl rfl (by omega) ?_
      refine X.lald 106 i216_105 rfl rfl (by decide) rfl (by omega) ?_
      refine X.aload_n 107 i216_106 rfl rfl rfl ?_
      refine X.getF 110 i216_107 rfl rfl (by decide) rfl rfl ?_
      refine X.iconst 111 i216_110 rfl rfl (by decide) ?_
      refine X.lald 112 i216_111 rfl rfl (by decide) rfl (by omega) ?_
      have h530 := r45_5 hJ529 4
      refine X.ldivF 113 i216_112 rfl rfl (by omega) (fun z531 => ?_)
      refine X.lload 115 i216_113 rfl rfl rfl ?_
      refine X.llF 116 .lsub (fun x y => x - y) i216_115 rfl rfl rfl (fun _ _ => rfl) (fun z532 hz532 => ?_)
      refine X.aload_n 117 i216_116 rfl rfl rfl ?_
      refine X.getF 120 i216_117 rfl rfl (by decide) rfl rfl ?_
      refine X.bipush 122 i216_120 rfl rfl (by decide) ?_
      refine X.iload 124 i216_122 rfl rfl rfl ?_
      refine X.iadd 125 i216_124 rfl rfl (by omega) ?_
      refine X.lald 126 i216_125 rfl rfl (by decide) rfl (by omega) ?_
      refine X.llF 127 .lmul (fun x y => x * y) i216_126 rfl rfl rfl (fun _ _ => rfl) (fun z533 hz533 => ?_)
      refine X.llF 128 .lsub (fun x y => x - y) i216_127 rfl rfl rfl (fun _ _ => rfl) (fun z534 hz534 => ?_)
      refine X.last' 129 i216_128 rfl rfl (by decide) rfl (by omega) (fun hrm535 m535 hm535 => ?_)
      have hJ536 := w45_10 hJ529 hm535 hrm535
      refine X.aload_n 130 i216_129 rfl rfl rfl ?_
      refine X.getF 133 i216_130 rfl rfl (by decide) rfl rfl ?_
      refine X.bipush 135 i216_133 rfl rfl (by decide) ?_
      refine X.dup2 136 i216_135 rfl rfl ?_
      refine X.lald 137 i216_136 rfl rfl (by decide) rfl (by omega) ?_
      refine X.lload_n 138 i216_137 rfl rfl rfl ?_
      refine X.lconst (y := 0) 139 i216_138 rfl rfl rfl ?_
      refine X.lcmp 140 i216_139 rfl rfl (fun z537 hz537 => ?_)
      refine X.ifle 147 143 i216_140 rfl rfl rfl (fun h538 => ?_) (fun h538 => (by exfalso; omega))
      have h538c : a1 ≤ 0 := by omega
      clear h538 hz537
      refine X.cut [(0, zr 4 44), (1, zl a1), (5, zl a3)] i216_147 rfl ?_
      refine X.lconst (y := 0) 148 i216_147 rfl rfl rfl ?_
      refine X.llF 149 .ladd (fun x y => x + y) i216_148 rfl rfl rfl (fun _ _ => rfl) (fun z539 hz539 => ?_)
      refine X.last' 150 i216_149 rfl rfl (by decide) rfl (by omega) (fun hrm540 m540 hm540 => ?_)
      have hJ541 := w45_19 hJ536 hm540 (by omega) hrm540
      refine X.aload_n 151 i216_150 rfl rfl rfl ?_
      refine X.getF 154 i216_151 rfl rfl (by decide) rfl rfl ?_
      refine X.bipush 156 i216_154 rfl rfl (by decide) ?_
      refine X.dup2 157 i216_156 rfl rfl ?_
      refine X.lald 158 i216_157 rfl rfl (by decide) rfl (by omega) ?_
      refine X.lload_n 159 i216_158 rfl rfl rfl ?_
      refine X.lconst (y := 0) 160 i216_159 rfl rfl rfl ?_
      refine X.lcmp 161 i216_160 rfl rfl (fun z542 hz542 => ?_)
      refine X.ifge 169 164 i216_161 rfl rfl rfl (fun h543 => ?_) (fun h543 => (by exfalso; omega))
      have h543c : a1 ≥ 0 := by omega
      clear h543 hz542
      refine X.cut [(0, zr 4 44), (5, zl a3)] i216_169 rfl ?_
      refine X.lconst (y := 0) 170 i216_169 rfl rfl rfl ?_
      refine X.llF 171 .ladd (fun x y => x + y) i216_170 rfl rfl rfl (fun _ _ => rfl) (fun z544 hz544 => ?_)
      refine X.last' 172 i216_171 rfl rfl (by decide) rfl (by omega) (fun hrm545 m545 hm545 => ?_)
      have hJ546 := w45_19 hJ541 hm545 (by omega) hrm545
      refine X.aload_n 173 i216_172 rfl rfl rfl ?_
      refine X.getF 176 i216_173 rfl rfl (by decide) rfl rfl ?_
      refine X.bipush 178 i216_176 rfl rfl (by decide) ?_
      refine X.dup2 179 i216_178 rfl rfl ?_
      refine X.lald 180 i216_179 rfl rfl (by decide) rfl (by omega) ?_
      refine X.lload 182 i216_180 rfl rfl rfl ?_
      refine X.llF 183 .ladd (fun x y => x + y) i216_182 rfl rfl rfl (fun _ _ => rfl) (fun z547 hz547 => ?_)
      refine X.last' 184 i216_183 rfl rfl (by decide) rfl (by omega) (fun hrm548 m548 hm548 => ?_)
      have hJ549 := w45_19 hJ546 hm548 (by omega) hrm548
      refine X.retv i216_184 rfl t216 ?_
      exact hQ  m548  (hJ549.up (by omega)) 
    · have h514c : a2 ≥ 0 := by omega
      clear h514 hz513
      refine X.iconst 13 i221_12 rfl rfl (by decide) ?_
      refine X.goto 31 i221_13 rfl rfl ?_
      refine X.cut [] i221_31 rfl ?_
      refine X.reti i221_31 rfl t221 ?_
      show X (EE s) d 216 68 [(0, zr 4 44), (1, zl a1), (3, zl a2), (5, zl a3), (7, zi v504), (8, zl z506)] [zi 1, zi 1, zr 4 44] m _
      refine X.iadd 69 i216_68 rfl rfl (by omega) ?_
      refine X.iload 71 i216_69 rfl rfl rfl ?_
      refine X.lload_n 72 i216_71 rfl rfl rfl ?_
      refine X.calls 75 [zl a2] [zi v504, zi (1 + 1), zr 4 44] [(0, zl a2)] i216_72 (by decide) rfl rfl (by omega) rfl rfl t215 (Nat.le_of_ble_eq_true rfl) (Nat.le_of_ble_eq_true rfl) rfl ?_
      refine X.lload_n 1 i215_0 rfl rfl rfl ?_
      refine X.lconst (y := 0) 2 i215_1 rfl rfl rfl ?_
      refine X.lcmp 3 i215_2 rfl rfl (fun z550 hz550 => ?_)
      refine X.ifge 11 6 i215_3 rfl rfl rfl (fun h551 => ?_) (fun h551 => (by exfalso; omega))
      have h551c : a2 ≥ 0 := by omega
      clear h551 hz550
      refine X.lload_n 12 i215_11 rfl rfl rfl ?_
      refine X.cut [] i215_12 rfl ?_
      refine X.retl i215_12 rfl t215 ?_
      show X (EE s) d 216 75 [(0, zr 4 44), (1, zl a1), (3, zl a2), (5, zl a3), (7, zi v504), (8, zl z506)] [zl a2, zi v504, zi (1 + 1), zr 4 44] m _
      refine X.callv 78 [zi (1 + 1), zi v504, zl a2] [] [(0, zr 4 44), (1, zi (1 + 1)), (2, zi v504), (3, zl a2)] i216_75 rfl (by decide) rfl rfl (by omega) rfl rfl (by decide) rfl t220 (Nat.le_of_ble_eq_true rfl) (Nat.le_of_ble_eq_true rfl) rfl ?_
      refine X.aload_n 1 i220_0 rfl rfl rfl ?_
      refine X.getF 4 i220_1 rfl rfl (by decide) rfl rfl ?_
      refine X.bipush 6 i220_4 rfl rfl (by decide) ?_
      refine X.iconst 7 i220_6 rfl rfl (by decide) ?_
      refine X.iload_n 8 i220_7 rfl rfl rfl ?_
      refine X.imul 9 i220_8 rfl rfl (by omega) ?_
      refine X.iadd 10 i220_9 rfl rfl (by omega) ?_
      refine X.iload_n 11 i220_10 rfl rfl rfl ?_
      refine X.iadd 12 i220_11 rfl rfl (by omega) ?_
      refine X.dup2 13 i220_12 rfl rfl ?_
      refine X.lald 14 i220_13 rfl rfl (by decide) rfl (by omega) ?_
      refine X.lload_n 15 i220_14 rfl rfl rfl ?_
      refine X.llF 16 .ladd (fun x y => x + y) i220_15 rfl rfl rfl (fun _ _ => rfl) (fun z552 hz552 => ?_)
      refine X.last' 17 i220_16 rfl rfl (by decide) rfl (by omega) (fun hrm553 m553 hm553 => ?_)
      have hJ554 := w45_19 hJ hm553 (by omega) hrm553
      refine X.aload_n 18 i220_17 rfl rfl rfl ?_
      refine X.getF 21 i220_18 rfl rfl (by decide) rfl rfl ?_
      refine X.bipush 23 i220_21 rfl rfl (by decide) ?_
      refine X.iconst 24 i220_23 rfl rfl (by decide) ?_
      refine X.iload_n 25 i220_24 rfl rfl rfl ?_
      refine X.imul 26 i220_25 rfl rfl (by omega) ?_
      refine X.iadd 27 i220_26 rfl rfl (by omega) ?_
      refine X.iconst 28 i220_27 rfl rfl (by decide) ?_
      refine X.iadd 29 i220_28 rfl rfl (by omega) ?_
      refine X.dup2 30 i220_29 rfl rfl ?_
      refine X.lald 31 i220_30 rfl rfl (by decide) rfl (by omega) ?_
      refine X.lload_n 32 i220_31 rfl rfl rfl ?_
      refine X.llF 33 .ladd (fun x y => x + y) i220_32 rfl rfl rfl (fun _ _ => rfl) (fun z555 hz555 => ?_)
      refine X.last' 34 i220_33 rfl rfl (by decide) rfl (by omega) (fun hrm556 m556 hm556 => ?_)
      have hJ557 := w45_19 hJ554 hm556 (by omega) hrm556
      refine X.retv i220_34 rfl t220 ?_
      show X (EE s) d 216 78 [(0, zr 4 44), (1, zl a1), (3, zl a2), (5, zl a3), (7, zi v504), (8, zl z506)] [] m556 _
      refine X.aload_n 79 i216_78 rfl rfl rfl ?_
      refine X.bipush 81 i216_79 rfl rfl (by decide) ?_
      refine X.iload 83 i216_81 rfl rfl rfl ?_
      refine X.lload 85 i216_83 rfl rfl rfl ?_
      refine X.callv 88 [zi 6, zi v504, zl a3] [] [(0, zr 4 44), (1, zi 6), (2, zi v504), (3, zl a3)] i216_85 rfl (by decide) rfl rfl (by omega) rfl rfl (by decide) rfl t220 (Nat.le_of_ble_eq_true rfl) (Nat.le_of_ble_eq_true rfl) rfl ?_
      refine X.aload_n 1 i220_0 rfl rfl rfl ?_
      refine X.getF 4 i220_1 rfl rfl (by decide) rfl rfl ?_
      refine X.bipush 6 i220_4 rfl rfl (by decide) ?_
      refine X.iconst 7 i220_6 rfl rfl (by decide) ?_
      refine X.iload_n 8 i220_7 rfl rfl rfl ?_
      refine X.imul 9 i220_8 rfl rfl (by omega) ?_
      refine X.iadd 10 i220_9 rfl rfl (by omega) ?_
      refine X.iload_n 11 i220_10 rfl rfl rfl ?_
      refine X.iadd 12 i220_11 rfl rfl (by omega) ?_
      refine X.dup2 13 i220_12 rfl rfl ?_
      refine X.lald 14 i220_13 rfl rfl (by decide) rfl (by omega) ?_
      refine X.lload_n 15 i220_14 rfl rfl rfl ?_
      refine X.llF 16 .ladd (fun x y => x + y) i220_15 rfl rfl rfl (fun _ _ => rfl) (fun z558 hz558 => ?_)
      refine X.last' 17 i220_16 rfl rfl (by decide) rfl (by omega) (fun hrm559 m559 hm559 => ?_)
      have hJ560 := w45_19 hJ557 hm559 (by omega) hrm559
      refine X.aload_n 18 i220_17 rfl rfl rfl ?_
      refine X.getF 21 i220_18 rfl rfl (by decide) rfl rfl ?_
      refine X.bipush 23 i220_21 rfl rfl (by decide) ?_
      refine X.iconst 24 i220_23 rfl rfl (by decide) ?_
      refine X.iload_n 25 i220_24 rfl rfl rfl ?_
      refine X.imul 26 i220_25 rfl rfl (by omega) ?_
      refine X.iadd 27 i220_26 rfl rfl (by omega) ?_
      refine X.iconst 28 i220_27 rfl rfl (by decide) ?_
      refine X.iadd 29 i220_28 rfl rfl (by omega) ?_
      refine X.dup2 30 i220_29 rfl rfl ?_
      refine X.lald 31 i220_30 rfl rfl (by decide) rfl (by omega) ?_
      refine X.lload_n 32 i220_31 rfl rfl rfl ?_
      refine X.llF 33 .ladd (fun x y => x + y) i220_32 rfl rfl rfl (fun _ _ => rfl) (fun z561 hz561 => ?_)
      refine X.last' 34 i220_33 rfl rfl (by decide) rfl (by omega) (fun hrm562 m562 hm562 => ?_)
      have hJ563 := w45_19 hJ560 hm562 (by omega) hrm562
      refine X.retv i220_34 rfl t220 ?_
      show X (EE s) d 216 88 [(0, zr 4 44), (1, zl a1), (3, zl a2), (5, zl a3), (7, zi v504), (8, zl z506)] [] m562 _
      refine X.aload_n 89 i216_88 rfl rfl rfl ?_
      refine X.getF 92 i216_89 rfl rfl (by decide) rfl rfl ?_
      refine X.bipush 94 i216_92 rfl rfl (by decide) ?_
      refine X.dup2 95 i216_94 rfl rfl ?_
      refine X.lald 96 i216_95 rfl rfl (by decide) rfl (by omega) ?_
      refine X.aload_n 97 i216_96 rfl rfl rfl ?_
      refine X.getF 100 i216_97 rfl rfl (by decide) rfl rfl ?_
      refine X.bipush 102 i216_100 rfl rfl (by decide) ?_
      refine X.iload 104 i216_102 rfl rfl rfl ?_
      refine X.iadd 105 i216_104 rfl rfl (by omega) ?_
      refine X.lald 106 i216_105 rfl rfl (by decide) rfl (by omega) ?_
      refine X.aload_n 107 i216_106 rfl rfl rfl ?_
      refine X.getF 110 i216_107 rfl rfl (by decide) rfl rfl ?_
      refine X.iconst 111 i216_110 rfl rfl (by decide) ?_
      refine X.lald 112 i216_111 rfl rfl (by decide) rfl (by omega) ?_
      have h564 := r45_5 hJ563 4
      refine X.ldivF 113 i216_112 rfl rfl (by omega) (fun z565 => ?_)
      refine X.lload 115 i216_113 rfl rfl rfl ?_
      refine X.llF 116 .lsub (fun x y => x - y) i216_115 rfl rfl rfl (fun _ _ => rfl) (fun z566 hz566 => ?_)
      refine X.aload_n 117 i216_116 rfl rfl rfl ?_
      refine X.getF 120 i216_117 rfl rfl (by decide) rfl rfl ?_
      refine X.bipush 122 i216_120 rfl rfl (by decide) ?_
      refine X.iload 124 i216_122 rfl rfl rfl ?_
      refine X.iadd 125 i216_124 rfl rfl (by omega) ?_
      refine X.lald 126 i216_125 rfl rfl (by decide) rfl (by omega) ?_
      refine X.llF 127 .lmul (fun x y => x * y) i216_126 rfl rfl rfl (fun _ _ => rfl) (fun z567 hz567 => ?_)
      refine X.llF 128 .lsub (fun x y => x - y) i216_127 rfl rfl rfl (fun _ _ => rfl) (fun z568 hz568 => ?_)
      refine X.last' 129 i216_128 rfl rfl (by decide) rfl (by omega) (fun hrm569 m569 hm569 => ?_)
      have hJ570 := w45_10 hJ563 hm569 hrm569
      refine X.aload_n 130 i216_129 rfl rfl rfl ?_
      refine X.getF 133 i216_130 rfl rfl (by decide) rfl rfl ?_
      refine X.bipush 135 i216_133 rfl rfl (by decide) ?_
      refine X.dup2 136 i216_135 rfl rfl ?_
      refine X.lald 137 i216_136 rfl rfl (by decide) rfl (by omega) ?_
      refine X.lload_n 138 i216_137 rfl rfl rfl ?_
      refine X.lconst (y := 0) 139 i216_138 rfl rfl rfl ?_
      refine X.lcmp 140 i216_139 rfl rfl (fun z571 hz571 => ?_)
      refine X.ifle 147 143 i216_140 rfl rfl rfl (fun h572 => ?_) (fun h572 => (by exfalso; omega))
      have h572c : a1 ≤ 0 := by omega
      clear h572 hz571
      refine X.cut [(0, zr 4 44), (1, zl a1), (5, zl a3)] i216_147 rfl ?_
      refine X.lconst (y := 0) 148 i216_147 rfl rfl rfl ?_
      refine X.llF 149 .ladd (fun x y => x + y) i216_148 rfl rfl rfl (fun _ _ => rfl) (fun z573 hz573 => ?_)
      refine X.last' 150 i216_149 rfl rfl (by decide) rfl (by omega) (fun hrm574 m574 hm574 => ?_)
      have hJ575 := w45_19 hJ570 hm574 (by omega) hrm574
      refine X.aload_n 151 i216_150 rfl rfl rfl ?_
      refine X.getF 154 i216_151 rfl rfl (by decide) rfl rfl ?_
      refine X.bipush 156 i216_154 rfl rfl (by decide) ?_
      refine X.dup2 157 i216_156 rfl rfl ?_
      refine X.lald 158 i216_157 rfl rfl (by decide) rfl (by omega) ?_
      refine X.lload_n 159 i216_158 rfl rfl rfl ?_
      refine X.lconst (y := 0) 160 i216_159 rfl rfl rfl ?_
      refine X.lcmp 161 i216_160 rfl rfl (fun z576 hz576 => ?_)
      refine X.ifge 169 164 i216_161 rfl rfl rfl (fun h577 => ?_) (fun h577 => (by exfalso; omega))
      have h577c : a1 ≥ 0 := by omega
      clear h577 hz576
      refine X.cut [(0, zr 4 44), (5, zl a3)] i216_169 rfl ?_
      refine X.lconst (y := 0) 170 i216_169 rfl rfl rfl ?_
      refine X.llF 171 .ladd (fun x y => x + y) i216_170 rfl rfl rfl (fun _ _ => rfl) (fun z578 hz578 => ?_)
      refine X.last' 172 i216_171 rfl rfl (by decide) rfl (by omega) (fun hrm579 m579 hm579 => ?_)
      have hJ580 := w45_19 hJ575 hm579 (by omega) hrm579
      refine X.aload_n 173 i216_172 rfl rfl rfl ?_
      refine X.getF 176 i216_173 rfl rfl (by decide) rfl rfl ?_
      refine X.bipush 178 i216_176 rfl rfl (by decide) ?_
      refine X.dup2 179 i216_178 rfl rfl ?_
      refine X.lald 180 i216_179 rfl rfl (by decide) rfl (by omega) ?_
      refine X.lload 182 i216_180 rfl rfl rfl ?_
      refine X.llF 183 .ladd (fun x y => x + y) i216_182 rfl rfl rfl (fun _ _ => rfl) (fun z581 hz581 => ?_)
      refine X.last' 184 i216_183 rfl rfl (by decide) rfl (by omega) (fun hrm582 m582 hm582 => ?_)
      have hJ583 := w45_19 hJ580 hm582 (by omega) hrm582
      refine X.retv i216_184 rfl t216 ?_
      exact hQ  m582  (hJ583.up (by omega)) 
  · have h508c : a1 > 0 := by omega
    clear h508 hz507
    refine X.aload_n 39 i216_38 rfl rfl rfl ?_
    refine X.iconst 40 i216_39 rfl rfl (by decide) ?_
    refine X.iload 42 i216_40 rfl rfl rfl ?_
    refine X.lload_n 43 i216_42 rfl rfl rfl ?_
    refine X.callv 46 [zi 0, zi v504, zl a1] [] [(0, zr 4 44), (1, zi 0), (2, zi v504), (3, zl a1)] i216_43 rfl (by decide) rfl rfl (by omega) rfl rfl (by decide) rfl t220 (Nat.le_of_ble_eq_true rfl) (Nat.le_of_ble_eq_true rfl) rfl ?_
    refine X.aload_n 1 i220_0 rfl rfl rfl ?_
    refine X.getF 4 i220_1 rfl rfl (by decide) rfl rfl ?_
    refine X.bipush 6 i220_4 rfl rfl (by decide) ?_
    refine X.iconst 7 i220_6 rfl rfl (by decide) ?_
    refine X.iload_n 8 i220_7 rfl rfl rfl ?_
    refine X.imul 9 i220_8 rfl rfl (by omega) ?_
    refine X.iadd 10 i220_9 rfl rfl (by omega) ?_
    refine X.iload_n 11 i220_10 rfl rfl rfl ?_
    refine X.iadd 12 i220_11 rfl rfl (by omega) ?_
    refine X.dup2 13 i220_12 rfl rfl ?_
    refine X.lald 14 i220_13 rfl rfl (by decide) rfl (by omega) ?_
    refine X.lload_n 15 i220_14 rfl rfl rfl ?_
    refine X.llF 16 .ladd (fun x y => x + y) i220_15 rfl rfl rfl (fun _ _ => rfl) (fun z584 hz584 => ?_)
    refine X.last' 17 i220_16 rfl rfl (by decide) rfl (by omega) (fun hrm585 m585 hm585 => ?_)
    have hJ586 := w45_19 hJ hm585 (by omega) hrm585
    refine X.aload_n 18 i220_17 rfl rfl rfl ?_
    refine X.getF 21 i220_18 rfl rfl (by decide) rfl rfl ?_
    refine X.bipush 23 i220_21 rfl rfl (by decide) ?_
    refine X.iconst 24 i220_23 rfl rfl (by decide) ?_
    refine X.iload_n 25 i220_24 rfl rfl rfl ?_
    refine X.imul 26 i220_25 rfl rfl (by omega) ?_
    refine X.iadd 27 i220_26 rfl rfl (by omega) ?_
    refine X.iconst 28 i220_27 rfl rfl (by decide) ?_
    refine X.iadd 29 i220_28 rfl rfl (by omega) ?_
    refine X.dup2 30 i220_29 rfl rfl ?_
    refine X.lald 31 i220_30 rfl rfl (by decide) rfl (by omega) ?_
    refine X.lload_n 32 i220_31 rfl rfl rfl ?_
    refine X.llF 33 .ladd (fun x y => x + y) i220_32 rfl rfl rfl (fun _ _ => rfl) (fun z587 hz587 => ?_)
    refine X.last' 34 i220_33 rfl rfl (by decide) rfl (by omega) (fun hrm588 m588 hm588 => ?_)
    have hJ589 := w45_19 hJ586 hm588 (by omega) hrm588
    refine X.retv i220_34 rfl t220 ?_
    show X (EE s) d 216 46 [(0, zr 4 44), (1, zl a1), (3, zl a2), (5, zl a3), (7, zi v504), (8, zl z506)] [] m588 _
    refine X.lload_n 47 i216_46 rfl rfl rfl ?_
    refine X.lconst (y := 0) 48 i216_47 rfl rfl rfl ?_
    refine X.lcmp 49 i216_48 rfl rfl (fun z590 hz590 => ?_)
    refine X.ifge 61 52 i216_49 rfl rfl rfl (fun h591 => ?_) (fun h591 => (by exfalso; omega))
    have h591c : a1 ≥ 0 := by omega
    clear h591 hz590
    refine X.aload_n 62 i216_61 rfl rfl rfl ?_
    refine X.iconst 63 i216_62 rfl rfl (by decide) ?_
    refine X.lload_n 64 i216_63 rfl rfl rfl ?_
    refine X.lload_n 65 i216_64 rfl rfl rfl ?_
    refine X.calls 68 [zl a1, zl a2] [zi 1, zr 4 44] [(0, zl a1), (2, zl a2)] i216_65 (by decide) rfl rfl (by omega) rfl rfl t221 (Nat.le_of_ble_eq_true rfl) (Nat.le_of_ble_eq_true rfl) rfl ?_
    refine X.lload_n 1 i221_0 rfl rfl rfl ?_
    refine X.lconst (y := 0) 2 i221_1 rfl rfl rfl ?_
    refine X.lcmp 3 i221_2 rfl rfl (fun z592 hz592 => ?_)
    refine X.iflt 20 6 i221_3 rfl rfl rfl (fun h593 => (by exfalso; omega)) (fun h593 => ?_)
    have h593c : a1 ≥ 0 := by omega
    clear h593 hz592
    refine X.lload_n 7 i221_6 rfl rfl rfl ?_
    refine X.lconst (y := 0) 8 i221_7 rfl rfl rfl ?_
    refine X.lcmp 9 i221_8 rfl rfl (fun z594 hz594 => ?_)
    refine X.iflt 16 12 i221_9 rfl rfl rfl (fun h595 => ?_) (fun h595 => ?_)
    · have h595c : a2 < 0 := by omega
      clear h595 hz594
      refine X.cut [] i221_16 rfl ?_
      refine X.iconst 17 i221_16 rfl rfl (by decide) ?_
      refine X.goto 31 i221_17 rfl rfl ?_
      refine X.reti i221_31 rfl t221 ?_
      show X (EE s) d 216 68 [(0, zr 4 44), (1, zl a1), (3, zl a2), (5, zl a3), (7, zi v504), (8, zl z506)] [zi 4, zi 1, zr 4 44] m588 _
      refine X.iadd 69 i216_68 rfl rfl (by omega) ?_
      refine X.iload 71 i216_69 rfl rfl rfl ?_
      refine X.lload_n 72 i216_71 rfl rfl rfl ?_
      refine X.calls 75 [zl a2] [zi v504, zi (1 + 4), zr 4 44] [(0, zl a2)] i216_72 (by decide) rfl rfl (by omega) rfl rfl t215 (Nat.le_of_ble_eq_true rfl) (Nat.le_of_ble_eq_true rfl) rfl ?_
      refine X.lload_n 1 i215_0 rfl rfl rfl ?_
      refine X.lconst (y := 0) 2 i215_1 rfl rfl rfl ?_
      refine X.lcmp 3 i215_2 rfl rfl (fun z596 hz596 => ?_)
      refine X.ifge 11 6 i215_3 rfl rfl rfl (fun h597 => (by exfalso; omega)) (fun h597 => ?_)
      have h597c : a2 < 0 := by omega
      clear h597 hz596
      refine X.lload_n 7 i215_6 rfl rfl rfl ?_
      refine X.lnegF 8 i215_7 rfl rfl (fun z598 hz598 => ?_)
      refine X.goto 12 i215_8 rfl rfl ?_
      refine X.cut [] i215_12 rfl ?_
      refine X.retl i215_12 rfl t215 ?_
      show X (EE s) d 216 75 [(0, zr 4 44), (1, zl a1), (3, zl a2), (5, zl a3), (7, zi v504), (8, zl z506)] [zl z598, zi v504, zi (1 + 4), zr 4 44] m588 _
      refine X.callv 78 [zi (1 + 4), zi v504, zl z598] [] [(0, zr 4 44), (1, zi (1 + 4)), (2, zi v504), (3, zl z598)] i216_75 rfl (by decide) rfl rfl (by omega) rfl rfl (by decide) rfl t220 (Nat.le_of_ble_eq_true rfl) (Nat.le_of_ble_eq_true rfl) rfl ?_
      refine X.aload_n 1 i220_0 rfl rfl rfl ?_
      refine X.getF 4 i220_1 rfl rfl (by decide) rfl rfl ?_
      refine X.bipush 6 i220_4 rfl rfl (by decide) ?_
      refine X.iconst 7 i220_6 rfl rfl (by decide) ?_
      refine X.iload_n 8 i220_7 rfl rfl rfl ?_
      refine X.imul 9 i220_8 rfl rfl (by omega) ?_
      refine X.iadd 10 i220_9 rfl rfl (by omega) ?_
      refine X.iload_n 11 i220_10 rfl rfl rfl ?_
      refine X.iadd 12 i220_11 rfl rfl (by omega) ?_
      refine X.dup2 13 i220_12 rfl rfl ?_
      refine X.lald 14 i220_13 rfl rfl (by decide) rfl (by omega) ?_
      refine X.lload_n 15 i220_14 rfl rfl rfl ?_
      refine X.llF 16 .ladd (fun x y => x + y) i220_15 rfl rfl rfl (fun _ _ => rfl) (fun z599 hz599 => ?_)
      refine X.last' 17 i220_16 rfl rfl (by decide) rfl (by omega) (fun hrm600 m600 hm600 => ?_)
      have hJ601 := w45_19 hJ589 hm600 (by omega) hrm600
      refine X.aload_n 18 i220_17 rfl rfl rfl ?_
      refine X.getF 21 i220_18 rfl rfl (by decide) rfl rfl ?_
      refine X.bipush 23 i220_21 rfl rfl (by decide) ?_
      refine X.iconst 24 i220_23 rfl rfl (by decide) ?_
      refine X.iload_n 25 i220_24 rfl rfl rfl ?_
      refine X.imul 26 i220_25 rfl rfl (by omega) ?_
      refine X.iadd 27 i220_26 rfl rfl (by omega) ?_
      refine X.iconst 28 i220_27 rfl rfl (by decide) ?_
      refine X.iadd 29 i220_28 rfl rfl (by omega) ?_
      refine X.dup2 30 i220_29 rfl rfl ?_
      refine X.lald 31 i220_30 rfl rfl (by decide) rfl (by omega) ?_
      refine X.lload_n 32 i220_31 rfl rfl rfl ?_
      refine X.llF 33 .ladd (fun x y => x + y) i220_32 rfl rfl rfl (fun _ _ => rfl) (fun z602 hz602 => ?_)
      refine X.last' 34 i220_33 rfl rfl (by decide) rfl (by omega) (fun hrm603 m603 hm603 => ?_)
      have hJ604 := w45_19 hJ601 hm603 (by omega) hrm603
      refine X.retv i220_34 rfl t220 ?_
      show X (EE s) d 216 78 [(0, zr 4 44), (1, zl a1), (3, zl a2), (5, zl a3), (7, zi v504), (8, zl z506)] [] m603 _
      refine X.aload_n 79 i216_78 rfl rfl rfl ?_
      refine X.bipush 81 i216_79 rfl rfl (by decide) ?_
      refine X.iload 83 i216_81 rfl rfl rfl ?_
      refine X.lload 85 i216_83 rfl rfl rfl ?_
      refine X.callv 88 [zi 6, zi v504, zl a3] [] [(0, zr 4 44), (1, zi 6), (2, zi v504), (3, zl a3)] i216_85 rfl (by decide) rfl rfl (by omega) rfl rfl (by decide) rfl t220 (Nat.le_of_ble_eq_true rfl) (Nat.le_of_ble_eq_true rfl) rfl ?_
      refine X.aload_n 1 i220_0 rfl rfl rfl ?_
      refine X.getF 4 i220_1 rfl rfl (by decide) rfl rfl ?_
      refine X.bipush 6 i220_4 rfl rfl (by decide) ?_
      refine X.iconst 7 i220_6 rfl rfl (by decide) ?_
      refine X.iload_n 8 i220_7 rfl rfl rfl ?_
      refine X.imul 9 i220_8 rfl rfl (by omega) ?_
      refine X.iadd 10 i220_9 rfl rfl (by omega) ?_
      refine X.iload_n 11 i220_10 rfl rfl rfl ?_
      refine X.iadd 12 i220_11 rfl rfl (by omega) ?_
      refine X.dup2 13 i220_12 rfl rfl ?_
      refine X.lald 14 i220_13 rfl rfl (by decide) rfl (by omega) ?_
      refine X.lload_n 15 i220_14 rfl rfl rfl ?_
      refine X.llF 16 .ladd (fun x y => x + y) i220_15 rfl rfl rfl (fun _ _ => rfl) (fun z605 hz605 => ?_)
      refine X.last' 17 i220_16 rfl rfl (by decide) rfl (by omega) (fun hrm606 m606 hm606 => ?_)
      have hJ607 := w45_19 hJ604 hm606 (by omega) hrm606
      refine X.aload_n 18 i220_17 rfl rfl rfl ?_
      refine X.getF 21 i220_18 rfl rfl (by decide) rfl rfl ?_
      refine X.bipush 23 i220_21 rfl rfl (by decide) ?_
      refine X.iconst 24 i220_23 rfl rfl (by decide) ?_
      refine X.iload_n 25 i220_24 rfl rfl rfl ?_
      refine X.imul 26 i220_25 rfl rfl (by omega) ?_
      refine X.iadd 27 i220_26 rfl rfl (by omega) ?_
      refine X.iconst 28 i220_27 rfl rfl (by decide) ?_
      refine X.iadd 29 i220_28 rfl rfl (by omega) ?_
      refine X.dup2 30 i220_29 rfl rfl ?_
      refine X.lald 31 i220_30 rfl rfl (by decide) rfl (by omega) ?_
      refine X.lload_n 32 i220_31 rfl rfl rfl ?_
      refine X.llF 33 .ladd (fun x y => x + y) i220_32 rfl rfl rfl (fun _ _ => rfl) (fun z608 hz608 => ?_)
      refine X.last' 34 i220_33 rfl rfl (by decide) rfl (by omega) (fun hrm609 m609 hm609 => ?_)
      have hJ610 := w45_19 hJ607 hm609 (by omega) hrm609
      refine X.retv i220_34 rfl t220 ?_
      show X (EE s) d 216 88 [(0, zr 4 44), (1, zl a1), (3, zl a2), (5, zl a3), (7, zi v504), (8, zl z506)] [] m609 _
      refine X.aload_n 89 i216_88 rfl rfl rfl ?_
      refine X.getF 92 i216_89 rfl rfl (by decide) rfl rfl ?_
      refine X.bipush 94 i216_92 rfl rfl (by decide) ?_
      refine X.dup2 95 i216_94 rfl rfl ?_
      refine X.lald 96 i216_95 rfl rfl (by decide) rfl (by omega) ?_
      refine X.aload_n 97 i216_96 rfl rfl rfl ?_
      refine X.getF 100 i216_97 rfl rfl (by decide) rfl rfl ?_
      refine X.bipush 102 i216_100 rfl rfl (by decide) ?_
      refine X.iload 104 i216_102 rfl rfl rfl ?_
      refine X.iadd 105 i216_104 rfl rfl (by omega) ?_
      refine X.lald 106 i216_105 rfl rfl (by decide) rfl (by omega) ?_
      refine X.aload_n 107 i216_106 rfl rfl rfl ?_
      refine X.getF 110 i216_107 rfl rfl (by decide) rfl rfl ?_
      refine X.iconst 111 i216_110 rfl rfl (by decide) ?_
      refine X.lald 112 i216_111 rfl rfl (by decide) rfl (by omega) ?_
      have h611 := r45_5 hJ610 4
      refine X.ldivF 113 i216_112 rfl rfl (by omega) (fun z612 => ?_)
      refine X.lload 115 i216_113 rfl rfl rfl ?_
      refine X.llF 116 .lsub (fun x y => x - y) i216_115 rfl rfl rfl (fun _ _ => rfl) (fun z613 hz613 => ?_)
      refine X.aload_n 117 i216_116 rfl rfl rfl ?_
      refine X.getF 120 i216_117 rfl rfl (by decide) rfl rfl ?_
      refine X.bipush 122 i216_120 rfl rfl (by decide) ?_
      refine X.iload 124 i216_122 rfl rfl rfl ?_
      refine X.iadd 125 i216_124 rfl rfl (by omega) ?_
      refine X.lald 126 i216_125 rfl rfl (by decide) rfl (by omega) ?_
      refine X.llF 127 .lmul (fun x y => x * y) i216_126 rfl rfl rfl (fun _ _ => rfl) (fun z614 hz614 => ?_)
      refine X.llF 128 .lsub (fun x y => x - y) i216_127 rfl rfl rfl (fun _ _ => rfl) (fun z615 hz615 => ?_)
      refine X.last' 129 i216_128 rfl rfl (by decide) rfl (by omega) (fun hrm616 m616 hm616 => ?_)
      have hJ617 := w45_10 hJ610 hm616 hrm616
      refine X.aload_n 130 i216_129 rfl rfl rfl ?_
      refine X.getF 133 i216_130 rfl rfl (by decide) rfl rfl ?_
      refine X.bipush 135 i216_133 rfl rfl (by decide) ?_
      refine X.dup2 136 i216_135 rfl rfl ?_
      refine X.lald 137 i216_136 rfl rfl (by decide) rfl (by omega) ?_
      refine X.lload_n 138 i216_137 rfl rfl rfl ?_
      refine X.lconst (y := 0) 139 i216_138 rfl rfl rfl ?_
      refine X.lcmp 140 i216_139 rfl rfl (fun z618 hz618 => ?_)
      refine X.ifle 147 143 i216_140 rfl rfl rfl (fun h619 => (by exfalso; omega)) (fun h619 => ?_)
      have h619c : a1 > 0 := by omega
      clear h619 hz618
      refine X.lload_n 144 i216_143 rfl rfl rfl ?_
      refine X.goto 148 i216_144 rfl rfl ?_
      refine X.cut [(0, zr 4 44), (1, zl a1), (5, zl a3)] i216_148 rfl ?_
      refine X.llF 149 .ladd (fun x y => x + y) i216_148 rfl rfl rfl (fun _ _ => rfl) (fun z620 hz620 => ?_)
      refine X.last' 150 i216_149 rfl rfl (by decide) rfl (by omega) (fun hrm621 m621 hm621 => ?_)
      have hJ622 := w45_19 hJ617 hm621 (by omega) hrm621
      refine X.aload_n 151 i216_150 rfl rfl rfl ?_
      refine X.getF 154 i216_151 rfl rfl (by decide) rfl rfl ?_
      refine X.bipush 156 i216_154 rfl rfl (by decide) ?_
      refine X.dup2 157 i216_156 rfl rfl ?_
      refine X.lald 158 i216_157 rfl rfl (by decide) rfl (by omega) ?_
      refine X.lload_n 159 i216_158 rfl rfl rfl ?_
      refine X.lconst (y := 0) 160 i216_159 rfl rfl rfl ?_
      refine X.lcmp 161 i216_160 rfl rfl (fun z623 hz623 => ?_)
      refine X.ifge 169 164 i216_161 rfl rfl rfl (fun h624 => ?_) (fun h624 => (by exfalso; omega))
      have h624c : a1 ≥ 0 := by omega
      clear h624 hz623
      refine X.cut [(0, zr 4 44), (5, zl a3)] i216_169 rfl ?_
      refine X.lconst (y := 0) 170 i216_169 rfl rfl rfl ?_
      refine X.llF 171 .ladd (fun x y => x + y) i216_170 rfl rfl rfl (fun _ _ => rfl) (fun z625 hz625 => ?_)
      refine X.last' 172 i216_171 rfl rfl (by decide) rfl (by omega) (fun hrm626 m626 hm626 => ?_)
      have hJ627 := w45_19 hJ622 hm626 (by omega) hrm626
      refine X.aload_n 173 i216_172 rfl rfl rfl ?_
      refine X.getF 176 i216_173 rfl rfl (by decide) rfl rfl ?_
      refine X.bipush 178 i216_176 rfl rfl (by decide) ?_
      refine X.dup2 179 i216_178 rfl rfl ?_
      refine X.lald 180 i216_179 rfl rfl (by decide) rfl (by omega) ?_
      refine X.lload 182 i216_180 rfl rfl rfl ?_
      refine X.llF 183 .ladd (fun x y => x + y) i216_182 rfl rfl rfl (fun _ _ => rfl) (fun z628 hz628 => ?_)
      refine X.last' 184 i216_183 rfl rfl (by decide) rfl (by omega) (fun hrm629 m629 hm629 => ?_)
      have hJ630 := w45_19 hJ627 hm629 (by omega) hrm629
      refine X.retv i216_184 rfl t216 ?_
      exact hQ  m629  (hJ630.up (by omega)) 
    · have h595c : a2 ≥ 0 := by omega
      clear h595 hz594
      refine X.iconst 13 i221_12 rfl rfl (by decide) ?_
      refine X.goto 31 i221_13 rfl rfl ?_
      refine X.cut [] i221_31 rfl ?_
      refine X.reti i221_31 rfl t221 ?_
      show X (EE s) d 216 68 [(0, zr 4 44), (1, zl a1), (3, zl a2), (5, zl a3), (7, zi v504), (8, zl z506)] [zi 1, zi 1, zr 4 44] m588 _
      refine X.iadd 69 i216_68 rfl rfl (by omega) ?_
      refine X.iload 71 i216_69 rfl rfl rfl ?_
      refine X.lload_n 72 i216_71 rfl rfl rfl ?_
      refine X.calls 75 [zl a2] [zi v504, zi (1 + 1), zr 4 44] [(0, zl a2)] i216_72 (by decide) rfl rfl (by omega) rfl rfl t215 (Nat.le_of_ble_eq_true rfl) (Nat.le_of_ble_eq_true rfl) rfl ?_
      refine X.lload_n 1 i215_0 rfl rfl rfl ?_
      refine X.lconst (y := 0) 2 i215_1 rfl rfl rfl ?_
      refine X.lcmp 3 i215_2 rfl rfl (fun z631 hz631 => ?_)
      refine X.ifge 11 6 i215_3 rfl rfl rfl (fun h632 => ?_) (fun h632 => (by exfalso; omega))
      have h632c : a2 ≥ 0 := by omega
      clear h632 hz631
      refine X.lload_n 12 i215_11 rfl rfl rfl ?_
      refine X.cut [] i215_12 rfl ?_
      refine X.retl i215_12 rfl t215 ?_
      show X (EE s) d 216 75 [(0, zr 4 44), (1, zl a1), (3, zl a2), (5, zl a3), (7, zi v504), (8, zl z506)] [zl a2, zi v504, zi (1 + 1), zr 4 44] m588 _
      refine X.callv 78 [zi (1 + 1), zi v504, zl a2] [] [(0, zr 4 44), (1, zi (1 + 1)), (2, zi v504), (3, zl a2)] i216_75 rfl (by decide) rfl rfl (by omega) rfl rfl (by decide) rfl t220 (Nat.le_of_ble_eq_true rfl) (Nat.le_of_ble_eq_true rfl) rfl ?_
      refine X.aload_n 1 i220_0 rfl rfl rfl ?_
      refine X.getF 4 i220_1 rfl rfl (by decide) rfl rfl ?_
      refine X.bipush 6 i220_4 rfl rfl (by decide) ?_
      refine X.iconst 7 i220_6 rfl rfl (by decide) ?_
      refine X.iload_n 8 i220_7 rfl rfl rfl ?_
      refine X.imul 9 i220_8 rfl rfl (by omega) ?_
      refine X.iadd 10 i220_9 rfl rfl (by omega) ?_
      refine X.iload_n 11 i220_10 rfl rfl rfl ?_
      refine X.iadd 12 i220_11 rfl rfl (by omega) ?_
      refine X.dup2 13 i220_12 rfl rfl ?_
      refine X.lald 14 i220_13 rfl rfl (by decide) rfl (by omega) ?_
      refine X.lload_n 15 i220_14 rfl rfl rfl ?_
      refine X.llF 16 .ladd (fun x y => x + y) i220_15 rfl rfl rfl (fun _ _ => rfl) (fun z633 hz633 => ?_)
      refine X.last' 17 i220_16 rfl rfl (by decide) rfl (by omega) (fun hrm634 m634 hm634 => ?_)
      have hJ635 := w45_19 hJ589 hm634 (by omega) hrm634
      refine X.aload_n 18 i220_17 rfl rfl rfl ?_
      refine X.getF 21 i220_18 rfl rfl (by decide) rfl rfl ?_
      refine X.bipush 23 i220_21 rfl rfl (by decide) ?_
      refine X.iconst 24 i220_23 rfl rfl (by decide) ?_
      refine X.iload_n 25 i220_24 rfl rfl rfl ?_
      refine X.imul 26 i220_25 rfl rfl (by omega) ?_
      refine X.iadd 27 i220_26 rfl rfl (by omega) ?_
      refine X.iconst 28 i220_27 rfl rfl (by decide) ?_
      refine X.iadd 29 i220_28 rfl rfl (by omega) ?_
      refine X.dup2 30 i220_29 rfl rfl ?_
      refine X.lald 31 i220_30 rfl rfl (by decide) rfl (by omega) ?_
      refine X.lload_n 32 i220_31 rfl rfl rfl ?_
      refine X.llF 33 .ladd (fun x y => x + y) i220_32 rfl rfl rfl (fun _ _ => rfl) (fun z636 hz636 => ?_)
      refine X.last' 34 i220_33 rfl rfl (by decide) rfl (by omega) (fun hrm637 m637 hm637 => ?_)
      have hJ638 := w45_19 hJ635 hm637 (by omega) hrm637
      refine X.retv i220_34 rfl t220 ?_
      show X (EE s) d 216 78 [(0, zr 4 44), (1, zl a1), (3, zl a2), (5, zl a3), (7, zi v504), (8, zl z506)] [] m637 _
      refine X.aload_n 79 i216_78 rfl rfl rfl ?_
      refine X.bipush 81 i216_79 rfl rfl (by decide) ?_
      refine X.iload 83 i216_81 rfl rfl rfl ?_
      refine X.lload 85 i216_83 rfl rfl rfl ?_
      refine X.callv 88 [zi 6, zi v504, zl a3] [] [(0, zr 4 44), (1, zi 6), (2, zi v504), (3, zl a3)] i216_85 rfl (by decide) rfl rfl (by omega) rfl rfl (by decide) rfl t220 (Nat.le_of_ble_eq_true rfl) (Nat.le_of_ble_eq_true rfl) rfl ?_
      refine X.aload_n 1 i220_0 rfl rfl rfl ?_
      refine X.getF 4 i220_1 rfl rfl (by decide) rfl rfl ?_
      refine X.bipush 6 i220_4 rfl rfl (by decide) ?_
      refine X.iconst 7 i220_6 rfl rfl (by decide) ?_
      refine X.iload_n 8 i220_7 rfl rfl rfl ?_
      refine X.imul 9 i220_8 rfl rfl (by omega) ?_
      refine X.iadd 10 i220_9 rfl rfl (by omega) ?_
      refine X.iload_n 11 i220_10 rfl rfl rfl ?_
      refine X.iadd 12 i220_11 rfl rfl (by omega) ?_
      refine X.dup2 13 i220_12 rfl rfl ?_
      refine X.lald 14 i220_13 rfl rfl (by decide) rfl (by omega) ?_
      refine X.lload_n 15 i220_14 rfl rfl rfl ?_
      refine X.llF 16 .ladd (fun x y => x + y) i220_15 rfl rfl rfl (fun _ _ => rfl) (fun z639 hz639 => ?_)
      refine X.last' 17 i220_16 rfl rfl (by decide) rfl (by omega) (fun hrm640 m640 hm640 => ?_)
      have hJ641 := w45_19 hJ638 hm640 (by omega) hrm640
      refine X.aload_n 18 i220_17 rfl rfl rfl ?_
      refine X.getF 21 i220_18 rfl rfl (by decide) rfl rfl ?_
      refine X.bipush 23 i220_21 rfl rfl (by decide) ?_
      refine X.iconst 24 i220_23 rfl rfl (by decide) ?_
      refine X.iload_n 25 i220_24 rfl rfl rfl ?_
      refine X.imul 26 i220_25 rfl rfl (by omega) ?_
      refine X.iadd 27 i220_26 rfl rfl (by omega) ?_
      refine X.iconst 28 i220_27 rfl rfl (by decide) ?_
      refine X.iadd 29 i220_28 rfl rfl (by omega) ?_
      refine X.dup2 30 i220_29 rfl rfl ?_
      refine X.lald 31 i220_30 rfl rfl (by decide) rfl (by omega) ?_
      refine X.lload_n 32 i220_31 rfl rfl rfl ?_
      refine X.llF 33 .ladd (fun x y => x + y) i220_32 rfl rfl rfl (fun _ _ => rfl) (fun z642 hz642 => ?_)
      refine X.last' 34 i220_33 rfl rfl (by decide) rfl (by omega) (fun hrm643 m643 hm643 => ?_)
      have hJ644 := w45_19 hJ641 hm643 (by omega) hrm643
      refine X.retv i220_34 rfl t220 ?_
      show X (EE s) d 216 88 [(0, zr 4 44), (1, zl a1), (3, zl a2), (5, zl a3), (7, zi v504), (8, zl z506)] [] m643 _
      refine X.aload_n 89 i216_88 rfl rfl rfl ?_
      refine X.getF 92 i216_89 rfl rfl (by decide) rfl rfl ?_
      refine X.bipush 94 i216_92 rfl rfl (by decide) ?_
      refine X.dup2 95 i216_94 rfl rfl ?_
      refine X.lald 96 i216_95 rfl rfl (by decide) rfl (by omega) ?_
      refine X.aload_n 97 i216_96 rfl rfl rfl ?_
      refine X.getF 100 i216_97 rfl rfl (by decide) rfl rfl ?_
      refine X.bipush 102 i216_100 rfl rfl (by decide) ?_
      refine X.iload 104 i216_102 rfl rfl rfl ?_
      refine X.iadd 105 i216_104 rfl rfl (by omega) ?_
      refine X.lald 106 i216_105 rfl rfl (by decide) rfl (by omega) ?_
      refine X.aload_n 107 i216_106 rfl rfl rfl ?_
      refine X.getF 110 i216_107 rfl rfl (by decide) rfl rfl ?_
      refine X.iconst 111 i216_110 rfl rfl (by decide) ?_
      refine X.lald 112 i216_111 rfl rfl (by decide) rfl (by omega) ?_
      have h645 := r45_5 hJ644 4
      refine X.ldivF 113 i216_112 rfl rfl (by omega) (fun z646 => ?_)
      refine X.lload 115 i216_113 rfl rfl rfl ?_
      refine X.llF 116 .lsub (fun x y => x - y) i216_115 rfl rfl rfl (fun _ _ => rfl) (fun z647 hz647 => ?_)
      refine X.aload_n 117 i216_116 rfl rfl rfl ?_
      refine X.getF 120 i216_117 rfl rfl (by decide) rfl rfl ?_
      refine X.bipush 122 i216_120 rfl rfl (by decide) ?_
      refine X.iload 124 i216_122 rfl rfl rfl ?_
      refine X.iadd 125 i216_124 rfl rfl (by omega) ?_
      refine X.lald 126 i216_125 rfl rfl (by decide) rfl (by omega) ?_
      refine X.llF 127 .lmul (fun x y => x * y) i216_126 rfl rfl rfl (fun _ _ => rfl) (fun z648 hz648 => ?_)
      refine X.llF 128 .lsub (fun x y => x - y) i216_127 rfl rfl rfl (fun _ _ => rfl) (fun z649 hz649 => ?_)
      refine X.last' 129 i216_128 rfl rfl (by decide) rfl (by omega) (fun hrm650 m650 hm650 => ?_)
      have hJ651 := w45_10 hJ644 hm650 hrm650
      refine X.aload_n 130 i216_129 rfl rfl rfl ?_
      refine X.getF 133 i216_130 rfl rfl (by decide) rfl rfl ?_
      refine X.bipush 135 i216_133 rfl rfl (by decide) ?_
      refine X.dup2 136 i216_135 rfl rfl ?_
      refine X.lald 137 i216_136 rfl rfl (by decide) rfl (by omega) ?_
      refine X.lload_n 138 i216_137 rfl rfl rfl ?_
      refine X.lconst (y := 0) 139 i216_138 rfl rfl rfl ?_
      refine X.lcmp 140 i216_139 rfl rfl (fun z652 hz652 => ?_)
      refine X.ifle 147 143 i216_140 rfl rfl rfl (fun h653 => (by exfalso; omega)) (fun h653 => ?_)
      have h653c : a1 > 0 := by omega
      clear h653 hz652
      refine X.lload_n 144 i216_143 rfl rfl rfl ?_
      refine X.goto 148 i216_144 rfl rfl ?_
      refine X.cut [(0, zr 4 44), (1, zl a1), (5, zl a3)] i216_148 rfl ?_
      refine X.llF 149 .ladd (fun x y => x + y) i216_148 rfl rfl rfl (fun _ _ => rfl) (fun z654 hz654 => ?_)
      refine X.last' 150 i216_149 rfl rfl (by decide) rfl (by omega) (fun hrm655 m655 hm655 => ?_)
      have hJ656 := w45_19 hJ651 hm655 (by omega) hrm655
      refine X.aload_n 151 i216_150 rfl rfl rfl ?_
      refine X.getF 154 i216_151 rfl rfl (by decide) rfl rfl ?_
      refine X.bipush 156 i216_154 rfl rfl (by decide) ?_
      refine X.dup2 157 i216_156 rfl rfl ?_
      refine X.lald 158 i216_157 rfl rfl (by decide) rfl (by omega) ?_
      refine X.lload_n 159 i216_158 rfl rfl rfl ?_
      refine X.lconst (y := 0) 160 i216_159 rfl rfl rfl ?_
      refine X.lcmp 161 i216_160 rfl rfl (fun z657 hz657 => ?_)
      refine X.ifge 169 164 i216_161 rfl rfl rfl (fun h658 => ?_) (fun h658 => (by exfalso; omega))
      have h658c : a1 ≥ 0 := by omega
      clear h658 hz657
      refine X.cut [(0, zr 4 44), (5, zl a3)] i216_169 rfl ?_
      refine X.lconst (y := 0) 170 i216_169 rfl rfl rfl ?_
      refine X.llF 171 .ladd (fun x y => x + y) i216_170 rfl rfl rfl (fun _ _ => rfl) (fun z659 hz659 => ?_)
      refine X.last' 172 i216_171 rfl rfl (by decide) rfl (by omega) (fun hrm660 m660 hm660 => ?_)
      have hJ661 := w45_19 hJ656 hm660 (by omega) hrm660
      refine X.aload_n 173 i216_172 rfl rfl rfl ?_
      refine X.getF 176 i216_173 rfl rfl (by decide) rfl rfl ?_
      refine X.bipush 178 i216_176 rfl rfl (by decide) ?_
      refine X.dup2 179 i216_178 rfl rfl ?_
      refine X.lald 180 i216_179 rfl rfl (by decide) rfl (by omega) ?_
      refine X.lload 182 i216_180 rfl rfl rfl ?_
      refine X.llF 183 .ladd (fun x y => x + y) i216_182 rfl rfl rfl (fun _ _ => rfl) (fun z662 hz662 => ?_)
      refine X.last' 184 i216_183 rfl rfl (by decide) rfl (by omega) (fun hrm663 m663 hm663 => ?_)
      have hJ664 := w45_19 hJ661 hm663 (by omega) hrm663
      refine X.retv i216_184 rfl t216 ?_
      exact hQ  m663  (hJ664.up (by omega)) 
theorem l223_17_1 {s : Nat × (Nat → Int32)} {S : zS} {m0 : zM} {d : Nat} {Q : Option zV → zM → Prop} (y1 y2 : Int) (BE : Int) (hE : BE ≤ 1000000000) (hd : 13 ≤ d) (hy1 : 0 ≤ y1 ∧ y1 ≤ 40) (hy2 : 0 ≤ y2 ∧ y2 ≤ 0)
    (K54 : ∀ (m' : zM) (B' : Int), J S m0 B' m' → B' ≤ BE → X (EE s) d 223 54 [(0, zr 4 44), (1, zi y1), (2, zl y2)] [] m' Q) :
    ∀ (n : Nat) (y4 : Int) (m : zM) (B : Int), J S m0 B m → B + 0 * (n : Int) ≤ BE → (3 ≤ y4 ∧ y4 ≤ 120) → 120 - y4 < (n : Int) → X (EE s) d 223 17 [(0, zr 4 44), (1, zi y1), (2, zl y2), (4, zi y4)] [] m Q := by
  intro n
  induction n with
  | zero =>
    intro y4 m B hJ hB  hy4 hn
    exfalso
    omega
  | succ n ih =>
    intro y4 m B hJ hB  hy4 hn
    refine X.iload 19 i223_17 rfl rfl rfl ?_
    refine X.bipush 21 i223_19 rfl rfl (by decide) ?_
    refine X.icmpge 54 24 i223_21 rfl rfl rfl (fun h504 => ?_) (fun h504 => ?_)
    · refine X.cut [(0, zr 4 44), (1, zi y1), (2, zl y2)] i223_54 rfl ?_
      exact K54  m (B) (hJ.up (by omega)) (by omega)  
    · refine X.aload_n 25 i223_24 rfl rfl rfl ?_
      refine X.getF 28 i223_25 rfl rfl (by decide) rfl rfl ?_
      refine X.sipush 31 i223_28 rfl rfl (by decide) ?_
      refine X.iload 33 i223_31 rfl rfl rfl ?_
      refine X.iadd 34 i223_33 rfl rfl (by omega) ?_
      refine X.iconst 35 i223_34 rfl rfl (by decide) ?_
      refine X.isub 36 i223_35 rfl rfl (by omega) ?_
      refine X.aload_n 37 i223_36 rfl rfl rfl ?_
      refine X.getF 40 i223_37 rfl rfl (by decide) rfl rfl ?_
      refine X.sipush 43 i223_40 rfl rfl (by decide) ?_
      refine X.iload 45 i223_43 rfl rfl rfl ?_
      refine X.iadd 46 i223_45 rfl rfl (by omega) ?_
      refine X.lald 47 i223_46 rfl rfl (by decide) rfl (by omega) ?_
      refine X.last' 48 i223_47 rfl rfl (by decide) rfl (by omega) (fun hrm505 m505 hm505 => ?_)
      have hJ506 := w45_788 hJ hm505 (by omega) hrm505
      refine X.iinc 51 [(0, zr 4 44), (1, zi y1), (2, zl y2), (4, zi (y4 + 1))] i223_48 rfl rfl rfl (by omega) rfl ?_
      refine X.goto 17 i223_51 rfl rfl ?_
      exact ih (y4 + 1) m505 (B) (hJ506.up (by omega)) (by omega)  (by omega) (by omega)
-- WorkMeterModel.logs
theorem c223_1 {s : Nat × (Nat → Int32)} {S : zS} {m0 m : zM} {B : Int} {d : Nat} {Q : Option zV → zM → Prop} (a1 a2 : Int) (hd : 13 ≤ d) (hJ : J S m0 B m) (hB : B + 1 ≤ 1000000000) (ha1 : 0 ≤ a1 ∧ a1 ≤ 40) (ha2 : 0 ≤ a2 ∧ a2 ≤ 0) (hQ : ∀ m', J S m0 (B + 1) m' → Q none m') : X (EE s) d 223 0 [(0, zr 4 44), (1, zi a1), (2, zl a2)] [] m Q := by
  refine X.aload_n 1 i223_0 rfl rfl rfl ?_
  refine X.getF 4 i223_1 rfl rfl (by decide) rfl rfl ?_
  refine X.bipush 6 i223_4 rfl rfl (by decide) ?_
  refine X.lald 7 i223_6 rfl rfl (by decide) rfl (by omega) ?_
  have h501 := r45_16 hJ 4
  refine X.ldc2 10 i223_7 rfl rfl (by decide) ?_
  refine X.lcmp 11 i223_10 rfl rfl (fun z502 hz502 => ?_)
  refine X.iflt 54 14 i223_11 rfl rfl rfl (fun h503 => ?_) (fun h503 => ?_)
  · have h503c : (m 4 45 16) < 40 := by omega
    clear h503 hz502
    refine X.sipush 57 i223_54 rfl rfl (by decide) ?_
    refine X.iconst 58 i223_57 rfl rfl (by decide) ?_
    refine X.aload_n 59 i223_58 rfl rfl rfl ?_
    refine X.getF 62 i223_59 rfl rfl (by decide) rfl rfl ?_
    refine X.bipush 64 i223_62 rfl rfl (by decide) ?_
    refine X.lald 65 i223_64 rfl rfl (by decide) rfl (by omega) ?_
    refine X.ldc2 68 i223_65 rfl rfl (by decide) ?_
    refine X.lcmp 69 i223_68 rfl rfl (fun z504 hz504 => ?_)
    refine X.ifge 82 72 i223_69 rfl rfl rfl (fun h505 => (by exfalso; omega)) (fun h505 => ?_)
    have h505c : (m 4 45 16) < 40 := by omega
    clear h505 hz504
    refine X.aload_n 73 i223_72 rfl rfl rfl ?_
    refine X.getF 76 i223_73 rfl rfl (by decide) rfl rfl ?_
    refine X.bipush 78 i223_76 rfl rfl (by decide) ?_
    refine X.lald 79 i223_78 rfl rfl (by decide) rfl (by omega) ?_
    refine X.goto 85 i223_79 rfl rfl ?_
    refine X.l2i 86 i223_85 rfl rfl (by omega) ?_
    refine X.imul 87 i223_86 rfl rfl (by omega) ?_
    refine X.iadd 88 i223_87 rfl rfl (by omega) ?_
    refine X.istore 90 [(0, zr 4 44), (1, zi a1), (2, zl a2), (4, zi (1487 + (3 * (m 4 45 16))))] i223_88 rfl rfl rfl ?_
    refine X.aload_n 91 i223_90 rfl rfl rfl ?_
    refine X.getF 94 i223_91 rfl rfl (by decide) rfl rfl ?_
    refine X.iload 96 i223_94 rfl rfl rfl ?_
    refine X.aload_n 97 i223_96 rfl rfl rfl ?_
    refine X.getF 100 i223_97 rfl rfl (by decide) rfl rfl ?_
    refine X.iconst 101 i223_100 rfl rfl (by decide) ?_
    refine X.lald 102 i223_101 rfl rfl (by decide) rfl (by omega) ?_
    have h506 := r45_0 hJ 4
    refine X.last' 103 i223_102 rfl rfl (by decide) rfl (by omega) (fun hrm507 m507 hm507 => ?_)
    have hJ508 := w45_788 hJ hm507 (by omega) hrm507
    refine X.aload_n 104 i223_103 rfl rfl rfl ?_
    refine X.getF 107 i223_104 rfl rfl (by decide) rfl rfl ?_
    refine X.iload 109 i223_107 rfl rfl rfl ?_
    refine X.iconst 110 i223_109 rfl rfl (by decide) ?_
    refine X.iadd 111 i223_110 rfl rfl (by omega) ?_
    refine X.iload_n 112 i223_111 rfl rfl rfl ?_
    refine X.i2l 113 i223_112 rfl rfl ?_
    refine X.last' 114 i223_113 rfl rfl (by decide) rfl (by omega) (fun hrm509 m509 hm509 => ?_)
    have hJ510 := w45_788 hJ508 hm509 (by omega) hrm509
    refine X.aload_n 115 i223_114 rfl rfl rfl ?_
    refine X.getF 118 i223_115 rfl rfl (by decide) rfl rfl ?_
    refine X.iload 120 i223_118 rfl rfl rfl ?_
    refine X.iconst 121 i223_120 rfl rfl (by decide) ?_
    refine X.iadd 122 i223_121 rfl rfl (by omega) ?_
    refine X.lload_n 123 i223_122 rfl rfl rfl ?_
    refine X.last' 124 i223_123 rfl rfl (by decide) rfl (by omega) (fun hrm511 m511 hm511 => ?_)
    have hJ512 := w45_788 hJ510 hm511 (by omega) hrm511
    refine X.aload_n 125 i223_124 rfl rfl rfl ?_
    refine X.getF 128 i223_125 rfl rfl (by decide) rfl rfl ?_
    refine X.bipush 130 i223_128 rfl rfl (by decide) ?_
    refine X.dup2 131 i223_130 rfl rfl ?_
    refine X.lald 132 i223_131 rfl rfl (by decide) rfl (by omega) ?_
    have h513 := r45_16 hJ512 4
    refine X.lconst (y := 1) 133 i223_132 rfl rfl rfl ?_
    refine X.ladd 134 i223_133 rfl rfl (by omega) ?_
    refine X.last' 135 i223_134 rfl rfl (by decide) rfl (by omega) (fun hrm514 m514 hm514 => ?_)
    have hJ515 := w45_16 (hJ512.up (B' := B + 1) (by omega)) hm514 (by omega)
    refine X.retv i223_135 rfl t223 ?_
    exact hQ  m514  (hJ515.up (by omega)) 
  · have h503c : (m 4 45 16) ≥ 40 := by omega
    clear h503 hz502
    refine X.iconst 15 i223_14 rfl rfl (by decide) ?_
    refine X.istore 17 [(0, zr 4 44), (1, zi a1), (2, zl a2), (4, zi 3)] i223_15 rfl rfl rfl ?_
    refine l223_17_1 (s := s) (S := S) (m0 := m0) (d := d)  a1 a2 (BE := B + 0) (by omega) (by omega) (by omega) (by omega) (fun  m516 B517 hJ518 hBB517 => ?_) ((120 - 3 : Int).toNat + 1) 3 m (B) (hJ.up (by omega)) (by omega)  (by omega) (by omega)
    refine X.sipush 57 i223_54 rfl rfl (by decide) ?_
    refine X.iconst 58 i223_57 rfl rfl (by decide) ?_
    refine X.aload_n 59 i223_58 rfl rfl rfl ?_
    refine X.getF 62 i223_59 rfl rfl (by decide) rfl rfl ?_
    refine X.bipush 64 i223_62 rfl rfl (by decide) ?_
    refine X.lald 65 i223_64 rfl rfl (by decide) rfl (by omega) ?_
    have h519 := r45_16 hJ518 4
    refine X.ldc2 68 i223_65 rfl rfl (by decide) ?_
    refine X.lcmp 69 i223_68 rfl rfl (fun z520 hz520 => ?_)
    refine X.ifge 82 72 i223_69 rfl rfl rfl (fun h521 => ?_) (fun h521 => ?_)
    · have h521c : (m516 4 45 16) ≥ 40 := by omega
      clear h521 hz520
      refine X.ldc2 85 i223_82 rfl rfl (by decide) ?_
      refine X.l2i 86 i223_85 rfl rfl (by omega) ?_
      refine X.imul 87 i223_86 rfl rfl (by omega) ?_
      refine X.iadd 88 i223_87 rfl rfl (by omega) ?_
      refine X.istore 90 [(0, zr 4 44), (1, zi a1), (2, zl a2), (4, zi (1487 + (3 * 39)))] i223_88 rfl rfl rfl ?_
      refine X.aload_n 91 i223_90 rfl rfl rfl ?_
      refine X.getF 94 i223_91 rfl rfl (by decide) rfl rfl ?_
      refine X.iload 96 i223_94 rfl rfl rfl ?_
      refine X.aload_n 97 i223_96 rfl rfl rfl ?_
      refine X.getF 100 i223_97 rfl rfl (by decide) rfl rfl ?_
      refine X.iconst 101 i223_100 rfl rfl (by decide) ?_
      refine X.lald 102 i223_101 rfl rfl (by decide) rfl (by omega) ?_
      have h522 := r45_0 hJ518 4
      refine X.last' 103 i223_102 rfl rfl (by decide) rfl (by omega) (fun hrm523 m523 hm523 => ?_)
      have hJ524 := w45_788 hJ518 hm523 (by omega) hrm523
      refine X.aload_n 104 i223_103 rfl rfl rfl ?_
      refine X.getF 107 i223_104 rfl rfl (by decide) rfl rfl ?_
      refine X.iload 109 i223_107 rfl rfl rfl ?_
      refine X.iconst 110 i223_109 rfl rfl (by decide) ?_
      refine X.iadd 111 i223_110 rfl rfl (by omega) ?_
      refine X.iload_n 112 i223_111 rfl rfl rfl ?_
      refine X.i2l 113 i223_112 rfl rfl ?_
      refine X.last' 114 i223_113 rfl rfl (by decide) rfl (by omega) (fun hrm525 m525 hm525 => ?_)
      have hJ526 := w45_788 hJ524 hm525 (by omega) hrm525
      refine X.aload_n 115 i223_114 rfl rfl rfl ?_
      refine X.getF 118 i223_115 rfl rfl (by decide) rfl rfl ?_
      refine X.iload 120 i223_118 rfl rfl rfl ?_
      refine X.iconst 121 i223_120 rfl rfl (by decide) ?_
      refine X.iadd 122 i223_121 rfl rfl (by omega) ?_
      refine X.lload_n 123 i223_122 rfl rfl rfl ?_
      refine X.last' 124 i223_123 rfl rfl (by decide) rfl (by omega) (fun hrm527 m527 hm527 => ?_)
      have hJ528 := w45_788 hJ526 hm527 (by omega) hrm527
      refine X.aload_n 125 i223_124 rfl rfl rfl ?_
      refine X.getF 128 i223_125 rfl rfl (by decide) rfl rfl ?_
      refine X.bipush 130 i223_128 rfl rfl (by decide) ?_
      refine X.dup2 131 i223_130 rfl rfl ?_
      refine X.lald 132 i223_131 rfl rfl (by decide) rfl (by omega) ?_
      have h529 := r45_16 hJ528 4
      refine X.lconst (y := 1) 133 i223_132 rfl rfl rfl ?_
      refine X.ladd 134 i223_133 rfl rfl (by omega) ?_
      refine X.last' 135 i223_134 rfl rfl (by decide) rfl (by omega) (fun hrm530 m530 hm530 => ?_)
      have hJ531 := w45_16 (hJ528.up (B' := B517 + 1) (by omega)) hm530 (by omega)
      refine X.retv i223_135 rfl t223 ?_
      exact hQ  m530  (hJ531.up (by omega)) 
    · have h521c : (m516 4 45 16) < 40 := by omega
      clear h521 hz520
      refine X.aload_n 73 i223_72 rfl rfl rfl ?_
      refine X.getF 76 i223_73 rfl rfl (by decide) rfl rfl ?_
      refine X.bipush 78 i223_76 rfl rfl (by decide) ?_
      refine X.lald 79 i223_78 rfl rfl (by decide) rfl (by omega) ?_
      refine X.goto 85 i223_79 rfl rfl ?_
      refine X.l2i 86 i223_85 rfl rfl (by omega) ?_
      refine X.imul 87 i223_86 rfl rfl (by omega) ?_
      refine X.iadd 88 i223_87 rfl rfl (by omega) ?_
      refine X.istore 90 [(0, zr 4 44), (1, zi a1), (2, zl a2), (4, zi (1487 + (3 * (m516 4 45 16))))] i223_88 rfl rfl rfl ?_
      refine X.aload_n 91 i223_90 rfl rfl rfl ?_
      refine X.getF 94 i223_91 rfl rfl (by decide) rfl rfl ?_
      refine X.iload 96 i223_94 rfl rfl rfl ?_
      refine X.aload_n 97 i223_96 rfl rfl rfl ?_
      refine X.getF 100 i223_97 rfl rfl (by decide) rfl rfl ?_
      refine X.iconst 101 i223_100 rfl rfl (by decide) ?_
      refine X.lald 102 i223_101 rfl rfl (by decide) rfl (by omega) ?_
      have h532 := r45_0 hJ518 4
      refine X.last' 103 i223_102 rfl rfl (by decide) rfl (by omega) (fun hrm533 m533 hm533 => ?_)
      have hJ534 := w45_788 hJ518 hm533 (by omega) hrm533
      refine X.aload_n 104 i223_103 rfl rfl rfl ?_
      refine X.getF 107 i223_104 rfl rfl (by decide) rfl rfl ?_
      refine X.iload 109 i223_107 rfl rfl rfl ?_
      refine X.iconst 110 i223_109 rfl rfl (by decide) ?_
      refine X.iadd 111 i223_110 rfl rfl (by omega) ?_
      refine X.iload_n 112 i223_111 rfl rfl rfl ?_
      refine X.i2l 113 i223_112 rfl rfl ?_
      refine X.last' 114 i223_113 rfl rfl (by decide) rfl (by omega) (fun hrm535 m535 hm535 => ?_)
      have hJ536 := w45_788 hJ534 hm535 (by omega) hrm535
      refine X.aload_n 115 i223_114 rfl rfl rfl ?_
      refine X.getF 118 i223_115 rfl rfl (by decide) rfl rfl ?_
      refine X.iload 120 i223_118 rfl rfl rfl ?_
      refine X.iconst 121 i223_120 rfl rfl (by decide) ?_
      refine X.iadd 122 i223_121 rfl rfl (by omega) ?_
      refine X.lload_n 123 i223_122 rfl rfl rfl ?_
      refine X.last' 124 i223_123 rfl rfl (by decide) rfl (by omega) (fun hrm537 m537 hm537 => ?_)
      have hJ538 := w45_788 hJ536 hm537 (by omega) hrm537
      refine X.aload_n 125 i223_124 rfl rfl rfl ?_
      refine X.getF 128 i223_125 rfl rfl (by decide) rfl rfl ?_
      refine X.bipush 130 i223_128 rfl rfl (by decide) ?_
      refine X.dup2 131 i223_130 rfl rfl ?_
      refine X.lald 132 i223_131 rfl rfl (by decide) rfl (by omega) ?_
      have h539 := r45_16 hJ538 4
      refine X.lconst (y := 1) 133 i223_132 rfl rfl rfl ?_
      refine X.ladd 134 i223_133 rfl rfl (by omega) ?_
      refine X.last' 135 i223_134 rfl rfl (by decide) rfl (by omega) (fun hrm540 m540 hm540 => ?_)
      have hJ541 := w45_16 (hJ538.up (B' := B517 + 1) (by omega)) hm540 (by omega)
      refine X.retv i223_135 rfl t223 ?_
      exact hQ  m540  (hJ541.up (by omega)) 
-- WorkMeterModel.switches
theorem c222_1 {s : Nat × (Nat → Int32)} {S : zS} {m0 m : zM} {B : Int} {d : Nat} {Q : Option zV → zM → Prop} (hd : 14 ≤ d) (hJ : J S m0 B m) (hB : B + 1 ≤ 1000000000) (hQ : ∀ m', J S m0 (B + 1) m' → Q none m') : X (EE s) d 222 0 [(0, zr 4 44)] [] m Q := by
  refine X.aload_n 1 i222_0 rfl rfl rfl ?_
  refine X.getF 4 i222_1 rfl rfl (by decide) rfl rfl ?_
  refine X.bipush 6 i222_4 rfl rfl (by decide) ?_
  refine X.lald 7 i222_6 rfl rfl (by decide) rfl (by omega) ?_
  have h501 := r45_11 hJ 4
  refine X.lconst (y := 1) 8 i222_7 rfl rfl rfl ?_
  refine X.lcmp 9 i222_8 rfl rfl (fun z502 hz502 => ?_)
  refine X.ifne 28 12 i222_9 rfl rfl rfl (fun h503 => ?_) (fun h503 => ?_)
  · have h503c : (m 4 45 11) ≠ 1 := by omega
    clear h503 hz502
    refine X.iconst 29 i222_28 rfl rfl (by decide) ?_
    refine X.istore_n 30 [(0, zr 4 44), (1, zi 0)] i222_29 rfl rfl rfl ?_
    refine X.aload_n 31 i222_30 rfl rfl rfl ?_
    refine X.getF 34 i222_31 rfl rfl (by decide) rfl rfl ?_
    refine X.bipush 36 i222_34 rfl rfl (by decide) ?_
    refine X.lald 37 i222_36 rfl rfl (by decide) rfl (by omega) ?_
    have h504 := r45_12 hJ 4
    refine X.iload_n 38 i222_37 rfl rfl rfl ?_
    refine X.i2l 39 i222_38 rfl rfl ?_
    refine X.lcmp 40 i222_39 rfl rfl (fun z505 hz505 => ?_)
    refine X.ifne 44 43 i222_40 rfl rfl rfl (fun h506 => ?_) (fun h506 => ?_)
    · have h506c : (m 4 45 12) ≠ 0 := by omega
      clear h506 hz505
      refine X.aload_n 45 i222_44 rfl rfl rfl ?_
      refine X.getF 48 i222_45 rfl rfl (by decide) rfl rfl ?_
      refine X.bipush 50 i222_48 rfl rfl (by decide) ?_
      refine X.iload_n 51 i222_50 rfl rfl rfl ?_
      refine X.i2l 52 i222_51 rfl rfl ?_
      refine X.last' 53 i222_52 rfl rfl (by decide) rfl (by omega) (fun hrm507 m507 hm507 => ?_)
      have hJ508 := w45_12 hJ hm507 (by omega)
      refine X.aload_n 54 i222_53 rfl rfl rfl ?_
      refine X.iload_n 55 i222_54 rfl rfl rfl ?_
      refine X.iconst 56 i222_55 rfl rfl (by decide) ?_
      refine X.icmpne 64 59 i222_56 rfl rfl rfl (fun h509 => ?_) (fun h509 => (by exfalso; omega))
      refine X.cut [] i222_64 rfl ?_
      refine X.bipush 66 i222_64 rfl rfl (by decide) ?_
      refine X.lconst (y := 0) 67 i222_66 rfl rfl rfl ?_
      refine X.callv 70 [zi 23, zl 0] [] [(0, zr 4 44), (1, zi 23), (2, zl 0)] i222_67 rfl (by decide) rfl rfl (by omega) rfl rfl (by decide) rfl t223 (Nat.le_of_ble_eq_true rfl) (Nat.le_of_ble_eq_true rfl) rfl ?_
      refine c223_1 (B := B)  23 0 (by omega) (hJ508.up (by omega)) (by omega) (by omega) (by omega) (fun m510 hJ511 => ?_)
      show X (EE s) d 222 70 [] [] m510 _
      refine X.retv i222_70 rfl t222 ?_
      exact hQ  m510  (hJ511.up (by omega)) 
    · have h506c : (m 4 45 12) = 0 := by omega
      clear h506 hz505
      refine X.retv i222_43 rfl t222 ?_
      exact hQ  m  (hJ.up (by omega)) 
  · have h503c : (m 4 45 11) = 1 := by omega
    clear h503 hz502
    refine X.aload_n 13 i222_12 rfl rfl rfl ?_
    refine X.getF 16 i222_13 rfl rfl (by decide) rfl rfl ?_
    refine X.bipush 18 i222_16 rfl rfl (by decide) ?_
    refine X.lald 19 i222_18 rfl rfl (by decide) rfl (by omega) ?_
    refine X.lconst (y := 0) 20 i222_19 rfl rfl rfl ?_
    refine X.lcmp 21 i222_20 rfl rfl (fun z513 hz513 => ?_)
    refine X.ifgt 28 24 i222_21 rfl rfl rfl (fun h514 => ?_) (fun h514 => ?_)
    · have h514c : (m 4 45 10) > 0 := by omega
      clear h514 hz513
      refine X.iconst 29 i222_28 rfl rfl (by decide) ?_
      refine X.istore_n 30 [(0, zr 4 44), (1, zi 0)] i222_29 rfl rfl rfl ?_
      refine X.aload_n 31 i222_30 rfl rfl rfl ?_
      refine X.getF 34 i222_31 rfl rfl (by decide) rfl rfl ?_
      refine X.bipush 36 i222_34 rfl rfl (by decide) ?_
      refine X.lald 37 i222_36 rfl rfl (by decide) rfl (by omega) ?_
      have h515 := r45_12 hJ 4
      refine X.iload_n 38 i222_37 rfl rfl rfl ?_
      refine X.i2l 39 i222_38 rfl rfl ?_
      refine X.lcmp 40 i222_39 rfl rfl (fun z516 hz516 => ?_)
      refine X.ifne 44 43 i222_40 rfl rfl rfl (fun h517 => ?_) (fun h517 => ?_)
      · have h517c : (m 4 45 12) ≠ 0 := by omega
        clear h517 hz516
        refine X.aload_n 45 i222_44 rfl rfl rfl ?_
        refine X.getF 48 i222_45 rfl rfl (by decide) rfl rfl ?_
        refine X.bipush 50 i222_48 rfl rfl (by decide) ?_
        refine X.iload_n 51 i222_50 rfl rfl rfl ?_
        refine X.i2l 52 i222_51 rfl rfl ?_
        refine X.last' 53 i222_52 rfl rfl (by decide) rfl (by omega) (fun hrm518 m518 hm518 => ?_)
        have hJ519 := w45_12 hJ hm518 (by omega)
        refine X.aload_n 54 i222_53 rfl rfl rfl ?_
        refine X.iload_n 55 i222_54 rfl rfl rfl ?_
        refine X.iconst 56 i222_55 rfl rfl (by decide) ?_
        refine X.icmpne 64 59 i222_56 rfl rfl rfl (fun h520 => ?_) (fun h520 => (by exfalso; omega))
        refine X.cut [] i222_64 rfl ?_
        refine X.bipush 66 i222_64 rfl rfl (by decide) ?_
        refine X.lconst (y := 0) 67 i222_66 rfl rfl rfl ?_
        refine X.callv 70 [zi 23, zl 0] [] [(0, zr 4 44), (1, zi 23), (2, zl 0)] i222_67 rfl (by decide) rfl rfl (by omega) rfl rfl (by decide) rfl t223 (Nat.le_of_ble_eq_true rfl) (Nat.le_of_ble_eq_true rfl) rfl ?_
        refine c223_1 (B := B)  23 0 (by omega) (hJ519.up (by omega)) (by omega) (by omega) (by omega) (fun m521 hJ522 => ?_)
        show X (EE s) d 222 70 [] [] m521 _
        refine X.retv i222_70 rfl t222 ?_
        exact hQ  m521  (hJ522.up (by omega)) 
      · have h517c : (m 4 45 12) = 0 := by omega
        clear h517 hz516
        refine X.retv i222_43 rfl t222 ?_
        exact hQ  m  (hJ.up (by omega)) 
    · have h514c : (m 4 45 10) ≤ 0 := by omega
      clear h514 hz513
      refine X.iconst 25 i222_24 rfl rfl (by decide) ?_
      refine X.goto 29 i222_25 rfl rfl ?_
      refine X.istore_n 30 [(0, zr 4 44), (1, zi 1)] i222_29 rfl rfl rfl ?_
      refine X.aload_n 31 i222_30 rfl rfl rfl ?_
      refine X.getF 34 i222_31 rfl rfl (by decide) rfl rfl ?_
      refine X.bipush 36 i222_34 rfl rfl (by decide) ?_
      refine X.lald 37 i222_36 rfl rfl (by decide) rfl (by omega) ?_
      have h524 := r45_12 hJ 4
      refine X.iload_n 38 i222_37 rfl rfl rfl ?_
      refine X.i2l 39 i222_38 rfl rfl ?_
      refine X.lcmp 40 i222_39 rfl rfl (fun z525 hz525 => ?_)
      refine X.ifne 44 43 i222_40 rfl rfl rfl (fun h526 => ?_) (fun h526 => ?_)
      · have h526c : (m 4 45 12) ≠ 1 := by omega
        clear h526 hz525
        refine X.aload_n 45 i222_44 rfl rfl rfl ?_
        refine X.getF 48 i222_45 rfl rfl (by decide) rfl rfl ?_
        refine X.bipush 50 i222_48 rfl rfl (by decide) ?_
        refine X.iload_n 51 i222_50 rfl rfl rfl ?_
        refine X.i2l 52 i222_51 rfl rfl ?_
        refine X.last' 53 i222_52 rfl rfl (by decide) rfl (by omega) (fun hrm527 m527 hm527 => ?_)
        have hJ528 := w45_12 hJ hm527 (by omega)
        refine X.aload_n 54 i222_53 rfl rfl rfl ?_
        refine X.iload_n 55 i222_54 rfl rfl rfl ?_
        refine X.iconst 56 i222_55 rfl rfl (by decide) ?_
        refine X.icmpne 64 59 i222_56 rfl rfl rfl (fun h529 => (by exfalso; omega)) (fun h529 => ?_)
        refine X.bipush 61 i222_59 rfl rfl (by decide) ?_
        refine X.goto 66 i222_61 rfl rfl ?_
        refine X.cut [] i222_66 rfl ?_
        refine X.lconst (y := 0) 67 i222_66 rfl rfl rfl ?_
        refine X.callv 70 [zi 22, zl 0] [] [(0, zr 4 44), (1, zi 22), (2, zl 0)] i222_67 rfl (by decide) rfl rfl (by omega) rfl rfl (by decide) rfl t223 (Nat.le_of_ble_eq_true rfl) (Nat.le_of_ble_eq_true rfl) rfl ?_
        refine c223_1 (B := B)  22 0 (by omega) (hJ528.up (by omega)) (by omega) (by omega) (by omega) (fun m530 hJ531 => ?_)
        show X (EE s) d 222 70 [] [] m530 _
        refine X.retv i222_70 rfl t222 ?_
        exact hQ  m530  (hJ531.up (by omega)) 
      · have h526c : (m 4 45 12) = 1 := by omega
        clear h526 hz525
        refine X.retv i222_43 rfl t222 ?_
        exact hQ  m  (hJ.up (by omega)) 
theorem l227_2_1 {s : Nat × (Nat → Int32)} {S : zS} {m0 m : zM} {B : Int} {d : Nat} {Q : Option zV → zM → Prop} (hd : 14 ≤ d) (hJ : J S m0 B m) (hB9 : B ≤ 1000000000)
    (K35 : ∀ (x1 : Int) , (0 ≤ x1 ∧ x1 ≤ 2) → X (EE s) d 227 35 [(0, zr 4 44), (1, zi x1)] [] m Q)
    (K43 : X (EE s) d 227 43 [] [] m Q) :
    ∀ (n : Nat) (y1 : Int) , (0 ≤ y1 ∧ y1 ≤ 3) → 3 - y1 < (n : Int) → X (EE s) d 227 2 [(0, zr 4 44), (1, zi y1)] [] m Q := by
  intro n
  induction n with
  | zero =>
    intro y1 hy1 hn
    exfalso
    omega
  | succ n ih =>
    intro y1 hy1 hn
    refine X.iload_n 3 i227_2 rfl rfl rfl ?_
    refine X.aload_n 4 i227_3 rfl rfl rfl ?_
    refine X.callv 7 [] [zi y1] [(0, zr 4 44)] i227_4 rfl (by decide) rfl rfl (by omega) rfl rfl (by decide) rfl t206 (Nat.le_of_ble_eq_true rfl) (Nat.le_of_ble_eq_true rfl) rfl ?_
    refine X.aload_n 1 i206_0 rfl rfl rfl ?_
    refine X.getF 4 i206_1 rfl rfl (by decide) rfl rfl ?_
    refine X.iconst 5 i206_4 rfl rfl (by decide) ?_
    refine X.lald 6 i206_5 rfl rfl (by decide) rfl (by omega) ?_
    have h514 := r45_1 hJ 4
    refine X.l2i 7 i206_6 rfl rfl (by omega) ?_
    refine X.reti i206_7 rfl t206 ?_
    show X (EE s) d 227 7 [(0, zr 4 44), (1, zi y1)] [zi (m 4 45 1), zi y1] m _
    refine X.icmpge 43 10 i227_7 rfl rfl rfl (fun h515 => ?_) (fun h515 => ?_)
    · refine X.cut [] i227_43 rfl ?_
      exact K43  
    · refine X.aload_n 11 i227_10 rfl rfl rfl ?_
      refine X.sipush 14 i227_11 rfl rfl (by decide) ?_
      refine X.iload_n 15 i227_14 rfl rfl rfl ?_
      refine X.callv 18 [zi 143, zi y1] [] [(0, zr 4 44), (1, zi 143), (2, zi y1)] i227_15 rfl (by decide) rfl rfl (by omega) rfl rfl (by decide) rfl t213 (Nat.le_of_ble_eq_true rfl) (Nat.le_of_ble_eq_true rfl) rfl ?_
      refine c213_1 (B := B)  143 y1 (by omega) (hJ.up (by omega)) (by omega) (by omega) (by omega) (fun v518 hv518 => ?_)
      show X (EE s) d 227 18 [(0, zr 4 44), (1, zi y1)] [zl v518] m _
      refine X.lconst (y := 0) 19 i227_18 rfl rfl rfl ?_
      refine X.lcmp 20 i227_19 rfl rfl (fun z519 hz519 => ?_)
      refine X.ifle 37 23 i227_20 rfl rfl rfl (fun h520 => ?_) (fun h520 => ?_)
      · have h520c : v518 ≤ 0 := by omega
        clear h520 hz519
        refine X.iinc 40 [(0, zr 4 44), (1, zi (y1 + 1))] i227_37 rfl rfl rfl (by omega) rfl ?_
        refine X.goto 2 i227_40 rfl rfl ?_
        exact ih (y1 + 1) (by omega) (by omega)
      · have h520c : v518 > 0 := by omega
        clear h520 hz519
        refine X.aload_n 24 i227_23 rfl rfl rfl ?_
        refine X.bipush 26 i227_24 rfl rfl (by decide) ?_
        refine X.iload_n 27 i227_26 rfl rfl rfl ?_
        refine X.callv 30 [zi 95, zi y1] [] [(0, zr 4 44), (1, zi 95), (2, zi y1)] i227_27 rfl (by decide) rfl rfl (by omega) rfl rfl (by decide) rfl t213 (Nat.le_of_ble_eq_true rfl) (Nat.le_of_ble_eq_true rfl) rfl ?_
        refine c213_1 (B := B)  95 y1 (by omega) (hJ.up (by omega)) (by omega) (by omega) (by omega) (fun v523 hv523 => ?_)
        show X (EE s) d 227 30 [(0, zr 4 44), (1, zi y1)] [zl v523] m _
        refine X.lconst (y := 0) 31 i227_30 rfl rfl rfl ?_
        refine X.lcmp 32 i227_31 rfl rfl (fun z524 hz524 => ?_)
        refine X.ifne 37 35 i227_32 rfl rfl rfl (fun h525 => ?_) (fun h525 => ?_)
        · have h525c : v523 ≠ 0 := by omega
          clear h525 hz524
          refine X.iinc 40 [(0, zr 4 44), (1, zi (y1 + 1))] i227_37 rfl rfl rfl (by omega) rfl ?_
          refine X.goto 2 i227_40 rfl rfl ?_
          exact ih (y1 + 1) (by omega) (by omega)
        · have h525c : v523 = 0 := by omega
          clear h525 hz524
          exact K35 y1 (by first | trivial | omega)
-- WorkMeterModel.isStrange
theorem c227_1 {s : Nat × (Nat → Int32)} {S : zS} {m0 m : zM} {B : Int} {d : Nat} {Q : Option zV → zM → Prop} (hd : 14 ≤ d) (hJ : J S m0 B m) (hB : B + 0 ≤ 1000000000) (hQ : ∀ (v : Int), (0 ≤ v ∧ v ≤ 1) → Q (some (zi v)) m) : X (EE s) d 227 0 [(0, zr 4 44)] [] m Q := by
  refine X.iconst 1 i227_0 rfl rfl (by decide) ?_
  refine X.istore_n 2 [(0, zr 4 44), (1, zi 0)] i227_1 rfl rfl rfl ?_
  refine l227_2_1 (s := s) (S := S) (m0 := m0) (m := m) (B := B) (d := d)   (by omega) (hJ.up (by omega)) (by omega) (fun y501 hby501 => ?_) ?_ ((3 - 0 : Int).toNat + 1) 0 (by omega) (by omega)
  · refine X.iconst 36 i227_35 rfl rfl (by decide) ?_
    refine X.retz i227_36 rfl t227 (by omega) ?_
    exact hQ 1 (by first | trivial | omega) 
  · refine X.iconst 44 i227_43 rfl rfl (by decide) ?_
    refine X.retz i227_44 rfl t227 (by omega) ?_
    exact hQ 0 (by first | trivial | omega) 
-- WorkMeterModel.turnsOn
theorem c228_1 {s : Nat × (Nat → Int32)} {S : zS} {m0 m : zM} {B : Int} {d : Nat} {Q : Option zV → zM → Prop} (a1 : Int) (hd : 14 ≤ d) (hJ : J S m0 B m) (hB : B + 1 ≤ 1000000000) (ha1 : 4 ≤ a1 ∧ a1 ≤ 4) (hQ : ∀ m', J S m0 (B + 1) m' → Q none m') : X (EE s) d 228 0 [(0, zr 4 44), (1, zi a1)] [] m Q := by
  refine X.aload_n 1 i228_0 rfl rfl rfl ?_
  refine X.getF 4 i228_1 rfl rfl (by decide) rfl rfl ?_
  refine X.bipush 6 i228_4 rfl rfl (by decide) ?_
  refine X.iload_n 7 i228_6 rfl rfl rfl ?_
  refine X.iadd 8 i228_7 rfl rfl (by omega) ?_
  refine X.lconst (y := 1) 9 i228_8 rfl rfl rfl ?_
  refine X.last' 10 i228_9 rfl rfl (by decide) rfl (by omega) (fun hrm501 m501 hm501 => ?_)
  have hJ502 := w45_19 hJ hm501 (by omega) hrm501
  refine X.aload_n 11 i228_10 rfl rfl rfl ?_
  refine X.getF 14 i228_11 rfl rfl (by decide) rfl rfl ?_
  refine X.bipush 16 i228_14 rfl rfl (by decide) ?_
  refine X.iload_n 17 i228_16 rfl rfl rfl ?_
  refine X.iadd 18 i228_17 rfl rfl (by omega) ?_
  refine X.dup2 19 i228_18 rfl rfl ?_
  refine X.lald 20 i228_19 rfl rfl (by decide) rfl (by omega) ?_
  refine X.lconst (y := 1) 21 i228_20 rfl rfl rfl ?_
  refine X.llF 22 .ladd (fun x y => x + y) i228_21 rfl rfl rfl (fun _ _ => rfl) (fun z503 hz503 => ?_)
  refine X.last' 23 i228_22 rfl rfl (by decide) rfl (by omega) (fun hrm504 m504 hm504 => ?_)
  have hJ505 := w45_19 hJ502 hm504 (by omega) hrm504
  refine X.aload_n 24 i228_23 rfl rfl rfl ?_
  refine X.iload_n 25 i228_24 rfl rfl rfl ?_
  refine X.lconst (y := 0) 26 i228_25 rfl rfl rfl ?_
  refine X.callv 29 [zi a1, zl 0] [] [(0, zr 4 44), (1, zi a1), (2, zl 0)] i228_26 rfl (by decide) rfl rfl (by omega) rfl rfl (by decide) rfl t223 (Nat.le_of_ble_eq_true rfl) (Nat.le_of_ble_eq_true rfl) rfl ?_
  refine c223_1 (B := B)  a1 0 (by omega) (hJ505.up (by omega)) (by omega) (by omega) (by omega) (fun m506 hJ507 => ?_)
  show X (EE s) d 228 29 [(0, zr 4 44), (1, zi a1)] [] m506 _
  refine X.retv i228_29 rfl t228 ?_
  exact hQ  m506  (hJ507.up (by omega)) 
theorem l226_6_1 {s : Nat × (Nat → Int32)} {S : zS} {m0 m : zM} {B : Int} {d : Nat} {Q : Option zV → zM → Prop} (hd : 14 ≤ d) (hJ : J S m0 B m) (hB9 : B ≤ 1000000000)
    (K60 : ∀ (x1 x2 : Int) , (0 ≤ x1 ∧ x1 ≤ 1) → (0 ≤ x2 ∧ x2 ≤ 1) → X (EE s) d 226 60 [(1, zi x1), (2, zi x2)] [] m Q) :
    ∀ (n : Nat) (y1 y2 y3 : Int) , (0 ≤ y1 ∧ y1 ≤ 1) → (0 ≤ y2 ∧ y2 ≤ 1) → (0 ≤ y3 ∧ y3 ≤ 3) → 3 - y3 < (n : Int) → X (EE s) d 226 6 [(0, zr 4 44), (1, zi y1), (2, zi y2), (3, zi y3)] [] m Q := by
  intro n
  induction n with
  | zero =>
    intro y1 y2 y3 hy1 hy2 hy3 hn
    exfalso
    omega
  | succ n ih =>
    intro y1 y2 y3 hy1 hy2 hy3 hn
    refine X.iload_n 7 i226_6 rfl rfl rfl ?_
    refine X.aload_n 8 i226_7 rfl rfl rfl ?_
    refine X.callv 11 [] [zi y3] [(0, zr 4 44)] i226_8 rfl (by decide) rfl rfl (by omega) rfl rfl (by decide) rfl t206 (Nat.le_of_ble_eq_true rfl) (Nat.le_of_ble_eq_true rfl) rfl ?_
    refine X.aload_n 1 i206_0 rfl rfl rfl ?_
    refine X.getF 4 i206_1 rfl rfl (by decide) rfl rfl ?_
    refine X.iconst 5 i206_4 rfl rfl (by decide) ?_
    refine X.lald 6 i206_5 rfl rfl (by decide) rfl (by omega) ?_
    have h548 := r45_1 hJ 4
    refine X.l2i 7 i206_6 rfl rfl (by omega) ?_
    refine X.reti i206_7 rfl t206 ?_
    show X (EE s) d 226 11 [(0, zr 4 44), (1, zi y1), (2, zi y2), (3, zi y3)] [zi (m 4 45 1), zi y3] m _
    refine X.icmpge 60 14 i226_11 rfl rfl rfl (fun h549 => ?_) (fun h549 => ?_)
    · refine X.cut [(1, zi y1), (2, zi y2)] i226_60 rfl ?_
      exact K60 y1 y2 (by first | trivial | omega) (by first | trivial | omega)
    · refine X.iload_n 15 i226_14 rfl rfl rfl ?_
      refine X.ifne 28 18 i226_15 rfl rfl rfl (fun h550 => ?_) (fun h550 => ?_)
      · refine X.cut [(0, zr 4 44), (2, zi y2), (3, zi y3)] i226_28 rfl ?_
        refine X.iconst 29 i226_28 rfl rfl (by decide) ?_
        refine X.goto 33 i226_29 rfl rfl ?_
        refine X.istore_n 34 [(0, zr 4 44), (1, zi 1), (2, zi y2), (3, zi y3)] i226_33 rfl rfl rfl ?_
        refine X.iload_n 35 i226_34 rfl rfl rfl ?_
        refine X.ifne 48 38 i226_35 rfl rfl rfl (fun h551 => ?_) (fun h551 => ?_)
        · refine X.cut [(0, zr 4 44), (1, zi 1), (3, zi y3)] i226_48 rfl ?_
          refine X.iconst 49 i226_48 rfl rfl (by decide) ?_
          refine X.goto 53 i226_49 rfl rfl ?_
          refine X.istore_n 54 [(0, zr 4 44), (1, zi 1), (2, zi 1), (3, zi y3)] i226_53 rfl rfl rfl ?_
          refine X.iinc 57 [(0, zr 4 44), (1, zi 1), (2, zi 1), (3, zi (y3 + 1))] i226_54 rfl rfl rfl (by omega) rfl ?_
          refine X.goto 6 i226_57 rfl rfl ?_
          exact ih 1 1 (y3 + 1) (by omega) (by omega) (by omega) (by omega)
        · refine X.aload_n 39 i226_38 rfl rfl rfl ?_
          refine X.iload_n 40 i226_39 rfl rfl rfl ?_
          refine X.callv 43 [zi y3] [] [(0, zr 4 44), (1, zi y3)] i226_40 rfl (by decide) rfl rfl (by omega) rfl rfl (by decide) rfl t210 (Nat.le_of_ble_eq_true rfl) (Nat.le_of_ble_eq_true rfl) rfl ?_
          refine c210_1 (B := B)  y3 (by omega) (hJ.up (by omega)) (by omega) (by omega) (fun v554 hv554 => ?_)
          show X (EE s) d 226 43 [(0, zr 4 44), (1, zi 1), (2, zi y2), (3, zi y3)] [zl v554] m _
          refine X.lconst (y := 0) 44 i226_43 rfl rfl rfl ?_
          refine X.lcmp 45 i226_44 rfl rfl (fun z555 hz555 => ?_)
          refine X.ifle 52 48 i226_45 rfl rfl rfl (fun h556 => ?_) (fun h556 => ?_)
          · have h556c : v554 ≤ 0 := by omega
            clear h556 hz555
            refine X.cut [(0, zr 4 44), (1, zi 1), (3, zi y3)] i226_52 rfl ?_
            refine X.iconst 53 i226_52 rfl rfl (by decide) ?_
            refine X.istore_n 54 [(0, zr 4 44), (1, zi 1), (2, zi 0), (3, zi y3)] i226_53 rfl rfl rfl ?_
            refine X.iinc 57 [(0, zr 4 44), (1, zi 1), (2, zi 0), (3, zi (y3 + 1))] i226_54 rfl rfl rfl (by omega) rfl ?_
            refine X.goto 6 i226_57 rfl rfl ?_
            exact ih 1 0 (y3 + 1) (by omega) (by omega) (by omega) (by omega)
          · have h556c : v554 > 0 := by omega
            clear h556 hz555
            refine X.cut [(0, zr 4 44), (1, zi 1), (3, zi y3)] i226_48 rfl ?_
            refine X.iconst 49 i226_48 rfl rfl (by decide) ?_
            refine X.goto 53 i226_49 rfl rfl ?_
            refine X.istore_n 54 [(0, zr 4 44), (1, zi 1), (2, zi 1), (3, zi y3)] i226_53 rfl rfl rfl ?_
            refine X.iinc 57 [(0, zr 4 44), (1, zi 1), (2, zi 1), (3, zi (y3 + 1))] i226_54 rfl rfl rfl (by omega) rfl ?_
            refine X.goto 6 i226_57 rfl rfl ?_
            exact ih 1 1 (y3 + 1) (by omega) (by omega) (by omega) (by omega)
      · refine X.aload_n 19 i226_18 rfl rfl rfl ?_
        refine X.iload_n 20 i226_19 rfl rfl rfl ?_
        refine X.callv 23 [zi y3] [] [(0, zr 4 44), (1, zi y3)] i226_20 rfl (by decide) rfl rfl (by omega) rfl rfl (by decide) rfl t210 (Nat.le_of_ble_eq_true rfl) (Nat.le_of_ble_eq_true rfl) rfl ?_
        refine c210_1 (B := B)  y3 (by omega) (hJ.up (by omega)) (by omega) (by omega) (fun v559 hv559 => ?_)
        show X (EE s) d 226 23 [(0, zr 4 44), (1, zi y1), (2, zi y2), (3, zi y3)] [zl v559] m _
        refine X.lconst (y := 0) 24 i226_23 rfl rfl rfl ?_
        refine X.lcmp 25 i226_24 rfl rfl (fun z560 hz560 => ?_)
        refine X.ifge 32 28 i226_25 rfl rfl rfl (fun h561 => ?_) (fun h561 => ?_)
        · have h561c : v559 ≥ 0 := by omega
          clear h561 hz560
          refine X.cut [(0, zr 4 44), (2, zi y2), (3, zi y3)] i226_32 rfl ?_
          refine X.iconst 33 i226_32 rfl rfl (by decide) ?_
          refine X.istore_n 34 [(0, zr 4 44), (1, zi 0), (2, zi y2), (3, zi y3)] i226_33 rfl rfl rfl ?_
          refine X.iload_n 35 i226_34 rfl rfl rfl ?_
          refine X.ifne 48 38 i226_35 rfl rfl rfl (fun h562 => ?_) (fun h562 => ?_)
          · refine X.cut [(0, zr 4 44), (1, zi 0), (3, zi y3)] i226_48 rfl ?_
            refine X.iconst 49 i226_48 rfl rfl (by decide) ?_
            refine X.goto 53 i226_49 rfl rfl ?_
            refine X.istore_n 54 [(0, zr 4 44), (1, zi 0), (2, zi 1), (3, zi y3)] i226_53 rfl rfl rfl ?_
            refine X.iinc 57 [(0, zr 4 44), (1, zi 0), (2, zi 1), (3, zi (y3 + 1))] i226_54 rfl rfl rfl (by omega) rfl ?_
            refine X.goto 6 i226_57 rfl rfl ?_
            exact ih 0 1 (y3 + 1) (by omega) (by omega) (by omega) (by omega)
          · refine X.aload_n 39 i226_38 rfl rfl rfl ?_
            refine X.iload_n 40 i226_39 rfl rfl rfl ?_
            refine X.callv 43 [zi y3] [] [(0, zr 4 44), (1, zi y3)] i226_40 rfl (by decide) rfl rfl (by omega) rfl rfl (by decide) rfl t210 (Nat.le_of_ble_eq_true rfl) (Nat.le_of_ble_eq_true rfl) rfl ?_
            refine c210_1 (B := B)  y3 (by omega) (hJ.up (by omega)) (by omega) (by omega) (fun v565 hv565 => ?_)
            show X (EE s) d 226 43 [(0, zr 4 44), (1, zi 0), (2, zi y2), (3, zi y3)] [zl v565] m _
            refine X.lconst (y := 0) 44 i226_43 rfl rfl rfl ?_
            refine X.lcmp 45 i226_44 rfl rfl (fun z566 hz566 => ?_)
            refine X.ifle 52 48 i226_45 rfl rfl rfl (fun h567 => ?_) (fun h567 => ?_)
            · have h567c : v565 ≤ 0 := by omega
              clear h567 hz566
              refine X.cut [(0, zr 4 44), (1, zi 0), (3, zi y3)] i226_52 rfl ?_
              refine X.iconst 53 i226_52 rfl rfl (by decide) ?_
              refine X.istore_n 54 [(0, zr 4 44), (1, zi 0), (2, zi 0), (3, zi y3)] i226_53 rfl rfl rfl ?_
              refine X.iinc 57 [(0, zr 4 44), (1, zi 0), (2, zi 0), (3, zi (y3 + 1))] i226_54 rfl rfl rfl (by omega) rfl ?_
              refine X.goto 6 i226_57 rfl rfl ?_
              exact ih 0 0 (y3 + 1) (by omega) (by omega) (by omega) (by omega)
            · have h567c : v565 > 0 := by omega
              clear h567 hz566
              refine X.cut [(0, zr 4 44), (1, zi 0), (3, zi y3)] i226_48 rfl ?_
              refine X.iconst 49 i226_48 rfl rfl (by decide) ?_
              refine X.goto 53 i226_49 rfl rfl ?_
              refine X.istore_n 54 [(0, zr 4 44), (1, zi 0), (2, zi 1), (3, zi y3)] i226_53 rfl rfl rfl ?_
              refine X.iinc 57 [(0, zr 4 44), (1, zi 0), (2, zi 1), (3, zi (y3 + 1))] i226_54 rfl rfl rfl (by omega) rfl ?_
              refine X.goto 6 i226_57 rfl rfl ?_
              exact ih 0 1 (y3 + 1) (by omega) (by omega) (by omega) (by omega)
        · have h561c : v559 < 0 := by omega
          clear h561 hz560
          refine X.cut [(0, zr 4 44), (2, zi y2), (3, zi y3)] i226_28 rfl ?_
          refine X.iconst 29 i226_28 rfl rfl (by decide) ?_
          refine X.goto 33 i226_29 rfl rfl ?_
          refine X.istore_n 34 [(0, zr 4 44), (1, zi 1), (2, zi y2), (3, zi y3)] i226_33 rfl rfl rfl ?_
          refine X.iload_n 35 i226_34 rfl rfl rfl ?_
          refine X.ifne 48 38 i226_35 rfl rfl rfl (fun h568 => ?_) (fun h568 => ?_)
          · refine X.cut [(0, zr 4 44), (1, zi 1), (3, zi y3)] i226_48 rfl ?_
            refine X.iconst 49 i226_48 rfl rfl (by decide) ?_
            refine X.goto 53 i226_49 rfl rfl ?_
            refine X.istore_n 54 [(0, zr 4 44), (1, zi 1), (2, zi 1), (3, zi y3)] i226_53 rfl rfl rfl ?_
            refine X.iinc 57 [(0, zr 4 44), (1, zi 1), (2, zi 1), (3, zi (y3 + 1))] i226_54 rfl rfl rfl (by omega) rfl ?_
            refine X.goto 6 i226_57 rfl rfl ?_
            exact ih 1 1 (y3 + 1) (by omega) (by omega) (by omega) (by omega)
          · refine X.aload_n 39 i226_38 rfl rfl rfl ?_
            refine X.iload_n 40 i226_39 rfl rfl rfl ?_
            refine X.callv 43 [zi y3] [] [(0, zr 4 44), (1, zi y3)] i226_40 rfl (by decide) rfl rfl (by omega) rfl rfl (by decide) rfl t210 (Nat.le_of_ble_eq_true rfl) (Nat.le_of_ble_eq_true rfl) rfl ?_
            refine c210_1 (B := B)  y3 (by omega) (hJ.up (by omega)) (by omega) (by omega) (fun v571 hv571 => ?_)
            show X (EE s) d 226 43 [(0, zr 4 44), (1, zi 1), (2, zi y2), (3, zi y3)] [zl v571] m _
            refine X.lconst (y := 0) 44 i226_43 rfl rfl rfl ?_
            refine X.lcmp 45 i226_44 rfl rfl (fun z572 hz572 => ?_)
            refine X.ifle 52 48 i226_45 rfl rfl rfl (fun h573 => ?_) (fun h573 => ?_)
            · have h573c : v571 ≤ 0 := by omega
              clear h573 hz572
              refine X.cut [(0, zr 4 44), (1, zi 1), (3, zi y3)] i226_52 rfl ?_
              refine X.iconst 53 i226_52 rfl rfl (by decide) ?_
              refine X.istore_n 54 [(0, zr 4 44), (1, zi 1), (2, zi 0), (3, zi y3)] i226_53 rfl rfl rfl ?_
              refine X.iinc 57 [(0, zr 4 44), (1, zi 1), (2, zi 0), (3, zi (y3 + 1))] i226_54 rfl rfl rfl (by omega) rfl ?_
              refine X.goto 6 i226_57 rfl rfl ?_
              exact ih 1 0 (y3 + 1) (by omega) (by omega) (by omega) (by omega)
            · have h573c : v571 > 0 := by omega
              clear h573 hz572
              refine X.cut [(0, zr 4 44), (1, zi 1), (3, zi y3)] i226_48 rfl ?_
              refine X.iconst 49 i226_48 rfl rfl (by decide) ?_
              refine X.goto 53 i226_49 rfl rfl ?_
              refine X.istore_n 54 [(0, zr 4 44), (1, zi 1), (2, zi 1), (3, zi y3)] i226_53 rfl rfl rfl ?_
              refine X.iinc 57 [(0, zr 4 44), (1, zi 1), (2, zi 1), (3, zi (y3 + 1))] i226_54 rfl rfl rfl (by omega) rfl ?_
              refine X.goto 6 i226_57 rfl rfl ?_
              exact ih 1 1 (y3 + 1) (by omega) (by omega) (by omega) (by omega)
-- WorkMeterModel.isReversed
theorem c226_1 {s : Nat × (Nat → Int32)} {S : zS} {m0 m : zM} {B : Int} {d : Nat} {Q : Option zV → zM → Prop} (hd : 14 ≤ d) (hJ : J S m0 B m) (hB : B + 0 ≤ 1000000000) (hQ : ∀ (v : Int), (0 ≤ v ∧ v ≤ 1) → Q (some (zi v)) m) : X (EE s) d 226 0 [(0, zr 4 44)] [] m Q := by
  refine X.iconst 1 i226_0 rfl rfl (by decide) ?_
  refine X.istore_n 2 [(0, zr 4 44), (1, zi 0)] i226_1 rfl rfl rfl ?_
  refine X.iconst 3 i226_2 rfl rfl (by decide) ?_
  refine X.istore_n 4 [(0, zr 4 44), (1, zi 0), (2, zi 0)] i226_3 rfl rfl rfl ?_
  refine X.iconst 5 i226_4 rfl rfl (by decide) ?_
  refine X.istore_n 6 [(0, zr 4 44), (1, zi 0), (2, zi 0), (3, zi 0)] i226_5 rfl rfl rfl ?_
  refine l226_6_1 (s := s) (S := S) (m0 := m0) (m := m) (B := B) (d := d)   (by omega) (hJ.up (by omega)) (by omega) (fun y501 y502 hby501 hby502 => ?_) ((3 - 0 : Int).toNat + 1) 0 0 0 (by omega) (by omega) (by omega) (by omega)
  refine X.iload_n 61 i226_60 rfl rfl rfl ?_
  refine X.ifeq 72 64 i226_61 rfl rfl rfl (fun h506 => ?_) (fun h506 => ?_)
  · refine X.cut [] i226_72 rfl ?_
    refine X.iconst 73 i226_72 rfl rfl (by decide) ?_
    refine X.retz i226_73 rfl t226 (by omega) ?_
    exact hQ 0 (by first | trivial | omega) 
  · refine X.iload_n 65 i226_64 rfl rfl rfl ?_
    refine X.ifeq 72 68 i226_65 rfl rfl rfl (fun h507 => ?_) (fun h507 => ?_)
    · refine X.cut [] i226_72 rfl ?_
      refine X.iconst 73 i226_72 rfl rfl (by decide) ?_
      refine X.retz i226_73 rfl t226 (by omega) ?_
      exact hQ 0 (by first | trivial | omega) 
    · refine X.iconst 69 i226_68 rfl rfl (by decide) ?_
      refine X.goto 73 i226_69 rfl rfl ?_
      refine X.cut [] i226_73 rfl ?_
      refine X.retz i226_73 rfl t226 (by omega) ?_
      exact hQ 1 (by first | trivial | omega) 
-- WorkMeterModel.turnsOn
theorem c228_2 {s : Nat × (Nat → Int32)} {S : zS} {m0 m : zM} {B : Int} {d : Nat} {Q : Option zV → zM → Prop} (a1 : Int) (hd : 14 ≤ d) (hJ : J S m0 B m) (hB : B + 1 ≤ 1000000000) (ha1 : 3 ≤ a1 ∧ a1 ≤ 3) (hQ : ∀ m', J S m0 (B + 1) m' → Q none m') : X (EE s) d 228 0 [(0, zr 4 44), (1, zi a1)] [] m Q := by
  refine X.aload_n 1 i228_0 rfl rfl rfl ?_
  refine X.getF 4 i228_1 rfl rfl (by decide) rfl rfl ?_
  refine X.bipush 6 i228_4 rfl rfl (by decide) ?_
  refine X.iload_n 7 i228_6 rfl rfl rfl ?_
  refine X.iadd 8 i228_7 rfl rfl (by omega) ?_
  refine X.lconst (y := 1) 9 i228_8 rfl rfl rfl ?_
  refine X.last' 10 i228_9 rfl rfl (by decide) rfl (by omega) (fun hrm501 m501 hm501 => ?_)
  have hJ502 := w45_19 hJ hm501 (by omega) hrm501
  refine X.aload_n 11 i228_10 rfl rfl rfl ?_
  refine X.getF 14 i228_11 rfl rfl (by decide) rfl rfl ?_
  refine X.bipush 16 i228_14 rfl rfl (by decide) ?_
  refine X.iload_n 17 i228_16 rfl rfl rfl ?_
  refine X.iadd 18 i228_17 rfl rfl (by omega) ?_
  refine X.dup2 19 i228_18 rfl rfl ?_
  refine X.lald 20 i228_19 rfl rfl (by decide) rfl (by omega) ?_
  refine X.lconst (y := 1) 21 i228_20 rfl rfl rfl ?_
  refine X.llF 22 .ladd (fun x y => x + y) i228_21 rfl rfl rfl (fun _ _ => rfl) (fun z503 hz503 => ?_)
  refine X.last' 23 i228_22 rfl rfl (by decide) rfl (by omega) (fun hrm504 m504 hm504 => ?_)
  have hJ505 := w45_19 hJ502 hm504 (by omega) hrm504
  refine X.aload_n 24 i228_23 rfl rfl rfl ?_
  refine X.iload_n 25 i228_24 rfl rfl rfl ?_
  refine X.lconst (y := 0) 26 i228_25 rfl rfl rfl ?_
  refine X.callv 29 [zi a1, zl 0] [] [(0, zr 4 44), (1, zi a1), (2, zl 0)] i228_26 rfl (by decide) rfl rfl (by omega) rfl rfl (by decide) rfl t223 (Nat.le_of_ble_eq_true rfl) (Nat.le_of_ble_eq_true rfl) rfl ?_
  refine c223_1 (B := B)  a1 0 (by omega) (hJ505.up (by omega)) (by omega) (by omega) (by omega) (fun m506 hJ507 => ?_)
  show X (EE s) d 228 29 [(0, zr 4 44), (1, zi a1)] [] m506 _
  refine X.retv i228_29 rfl t228 ?_
  exact hQ  m506  (hJ507.up (by omega)) 
theorem l225_6_1 {s : Nat × (Nat → Int32)} {S : zS} {m0 m : zM} {B : Int} {d : Nat} {Q : Option zV → zM → Prop} (hd : 14 ≤ d) (hJ : J S m0 B m) (hB9 : B ≤ 1000000000)
    (K82 : ∀ (x1 x2 : Int) , (0 ≤ x1 ∧ x1 ≤ 1) → (0 ≤ x2 ∧ x2 ≤ 1) → X (EE s) d 225 82 [(1, zi x1), (2, zi x2)] [] m Q) :
    ∀ (n : Nat) (y1 y2 y3 : Int) , (0 ≤ y1 ∧ y1 ≤ 1) → (0 ≤ y2 ∧ y2 ≤ 1) → (0 ≤ y3 ∧ y3 ≤ 3) → 3 - y3 < (n : Int) → X (EE s) d 225 6 [(0, zr 4 44), (1, zi y1), (2, zi y2), (3, zi y3)] [] m Q := by
  intro n
  induction n with
  | zero =>
    intro y1 y2 y3 hy1 hy2 hy3 hn
    exfalso
    omega
  | succ n ih =>
    intro y1 y2 y3 hy1 hy2 hy3 hn
    refine X.iload_n 7 i225_6 rfl rfl rfl ?_
    refine X.aload_n 8 i225_7 rfl rfl rfl ?_
    refine X.callv 11 [] [zi y3] [(0, zr 4 44)] i225_8 rfl (by decide) rfl rfl (by omega) rfl rfl (by decide) rfl t206 (Nat.le_of_ble_eq_true rfl) (Nat.le_of_ble_eq_true rfl) rfl ?_
    refine X.aload_n 1 i206_0 rfl rfl rfl ?_
    refine X.getF 4 i206_1 rfl rfl (by decide) rfl rfl ?_
    refine X.iconst 5 i206_4 rfl rfl (by decide) ?_
    refine X.lald 6 i206_5 rfl rfl (by decide) rfl (by omega) ?_
    have h540 := r45_1 hJ 4
    refine X.l2i 7 i206_6 rfl rfl (by omega) ?_
    refine X.reti i206_7 rfl t206 ?_
    show X (EE s) d 225 11 [(0, zr 4 44), (1, zi y1), (2, zi y2), (3, zi y3)] [zi (m 4 45 1), zi y3] m _
    refine X.icmpge 82 14 i225_11 rfl rfl rfl (fun h541 => ?_) (fun h541 => ?_)
    · refine X.cut [(1, zi y1), (2, zi y2)] i225_82 rfl ?_
      exact K82 y1 y2 (by first | trivial | omega) (by first | trivial | omega)
    · refine X.aload_n 15 i225_14 rfl rfl rfl ?_
      refine X.bipush 17 i225_15 rfl rfl (by decide) ?_
      refine X.iload_n 18 i225_17 rfl rfl rfl ?_
      refine X.callv 21 [zi 95, zi y3] [] [(0, zr 4 44), (1, zi 95), (2, zi y3)] i225_18 rfl (by decide) rfl rfl (by omega) rfl rfl (by decide) rfl t213 (Nat.le_of_ble_eq_true rfl) (Nat.le_of_ble_eq_true rfl) rfl ?_
      refine c213_1 (B := B)  95 y3 (by omega) (hJ.up (by omega)) (by omega) (by omega) (by omega) (fun v544 hv544 => ?_)
      show X (EE s) d 225 21 [(0, zr 4 44), (1, zi y1), (2, zi y2), (3, zi y3)] [zl v544] m _
      refine X.aload_n 22 i225_21 rfl rfl rfl ?_
      refine X.getF 25 i225_22 rfl rfl (by decide) rfl rfl ?_
      refine X.iconst 26 i225_25 rfl rfl (by decide) ?_
      refine X.lald 27 i225_26 rfl rfl (by decide) rfl (by omega) ?_
      have h545 := r45_2 hJ 4
      refine X.aload_n 28 i225_27 rfl rfl rfl ?_
      refine X.getF 31 i225_28 rfl rfl (by decide) rfl rfl ?_
      refine X.bipush 33 i225_31 rfl rfl (by decide) ?_
      refine X.lald 34 i225_33 rfl rfl (by decide) rfl (by omega) ?_
      refine X.llF 35 .lmul (fun x y => x * y) i225_34 rfl rfl rfl (fun _ _ => rfl) (fun z546 hz546 => ?_)
      refine X.lcmp 36 i225_35 rfl rfl (fun z547 hz547 => ?_)
      refine X.ifge 43 39 i225_36 rfl rfl rfl (fun h548 => ?_) (fun h548 => ?_)
      · have h548c : v544 ≥ z546 := by omega
        clear h548 hz547
        refine X.iconst 44 i225_43 rfl rfl (by decide) ?_
        refine X.istore 46 [(0, zr 4 44), (1, zi y1), (2, zi y2), (3, zi y3), (4, zi 0)] i225_44 rfl rfl rfl ?_
        refine X.iload_n 47 i225_46 rfl rfl rfl ?_
        refine X.ifne 55 50 i225_47 rfl rfl rfl (fun h549 => ?_) (fun h549 => ?_)
        · refine X.cut [(0, zr 4 44), (2, zi y2), (3, zi y3), (4, zi 0)] i225_55 rfl ?_
          refine X.iconst 56 i225_55 rfl rfl (by decide) ?_
          refine X.goto 60 i225_56 rfl rfl ?_
          refine X.istore_n 61 [(0, zr 4 44), (1, zi 1), (2, zi y2), (3, zi y3), (4, zi 0)] i225_60 rfl rfl rfl ?_
          refine X.iload_n 62 i225_61 rfl rfl rfl ?_
          refine X.ifne 70 65 i225_62 rfl rfl rfl (fun h550 => ?_) (fun h550 => ?_)
          · refine X.cut [(0, zr 4 44), (1, zi 1), (3, zi y3)] i225_70 rfl ?_
            refine X.iconst 71 i225_70 rfl rfl (by decide) ?_
            refine X.goto 75 i225_71 rfl rfl ?_
            refine X.istore_n 76 [(0, zr 4 44), (1, zi 1), (2, zi 1), (3, zi y3)] i225_75 rfl rfl rfl ?_
            refine X.iinc 79 [(0, zr 4 44), (1, zi 1), (2, zi 1), (3, zi (y3 + 1))] i225_76 rfl rfl rfl (by omega) rfl ?_
            refine X.goto 6 i225_79 rfl rfl ?_
            exact ih 1 1 (y3 + 1) (by omega) (by omega) (by omega) (by omega)
          · refine X.iload 67 i225_65 rfl rfl rfl ?_
            refine X.ifne 74 70 i225_67 rfl rfl rfl (fun h551 => (by exfalso; omega)) (fun h551 => ?_)
            refine X.cut [(0, zr 4 44), (1, zi 1), (3, zi y3)] i225_70 rfl ?_
            refine X.iconst 71 i225_70 rfl rfl (by decide) ?_
            refine X.goto 75 i225_71 rfl rfl ?_
            refine X.istore_n 76 [(0, zr 4 44), (1, zi 1), (2, zi 1), (3, zi y3)] i225_75 rfl rfl rfl ?_
            refine X.iinc 79 [(0, zr 4 44), (1, zi 1), (2, zi 1), (3, zi (y3 + 1))] i225_76 rfl rfl rfl (by omega) rfl ?_
            refine X.goto 6 i225_79 rfl rfl ?_
            exact ih 1 1 (y3 + 1) (by omega) (by omega) (by omega) (by omega)
        · refine X.iload 52 i225_50 rfl rfl rfl ?_
          refine X.ifeq 59 55 i225_52 rfl rfl rfl (fun h552 => ?_) (fun h552 => (by exfalso; omega))
          refine X.cut [(0, zr 4 44), (2, zi y2), (3, zi y3), (4, zi 0)] i225_59 rfl ?_
          refine X.iconst 60 i225_59 rfl rfl (by decide) ?_
          refine X.istore_n 61 [(0, zr 4 44), (1, zi 0), (2, zi y2), (3, zi y3), (4, zi 0)] i225_60 rfl rfl rfl ?_
          refine X.iload_n 62 i225_61 rfl rfl rfl ?_
          refine X.ifne 70 65 i225_62 rfl rfl rfl (fun h553 => ?_) (fun h553 => ?_)
          · refine X.cut [(0, zr 4 44), (1, zi 0), (3, zi y3)] i225_70 rfl ?_
            refine X.iconst 71 i225_70 rfl rfl (by decide) ?_
            refine X.goto 75 i225_71 rfl rfl ?_
            refine X.istore_n 76 [(0, zr 4 44), (1, zi 0), (2, zi 1), (3, zi y3)] i225_75 rfl rfl rfl ?_
            refine X.iinc 79 [(0, zr 4 44), (1, zi 0), (2, zi 1), (3, zi (y3 + 1))] i225_76 rfl rfl rfl (by omega) rfl ?_
            refine X.goto 6 i225_79 rfl rfl ?_
            exact ih 0 1 (y3 + 1) (by omega) (by omega) (by omega) (by omega)
          · refine X.iload 67 i225_65 rfl rfl rfl ?_
            refine X.ifne 74 70 i225_67 rfl rfl rfl (fun h554 => (by exfalso; omega)) (fun h554 => ?_)
            refine X.cut [(0, zr 4 44), (1, zi 0), (3, zi y3)] i225_70 rfl ?_
            refine X.iconst 71 i225_70 rfl rfl (by decide) ?_
            refine X.goto 75 i225_71 rfl rfl ?_
            refine X.istore_n 76 [(0, zr 4 44), (1, zi 0), (2, zi 1), (3, zi y3)] i225_75 rfl rfl rfl ?_
            refine X.iinc 79 [(0, zr 4 44), (1, zi 0), (2, zi 1), (3, zi (y3 + 1))] i225_76 rfl rfl rfl (by omega) rfl ?_
            refine X.goto 6 i225_79 rfl rfl ?_
            exact ih 0 1 (y3 + 1) (by omega) (by omega) (by omega) (by omega)
      · have h548c : v544 < z546 := by omega
        clear h548 hz547
        refine X.iconst 40 i225_39 rfl rfl (by decide) ?_
        refine X.goto 44 i225_40 rfl rfl ?_
        refine X.istore 46 [(0, zr 4 44), (1, zi y1), (2, zi y2), (3, zi y3), (4, zi 1)] i225_44 rfl rfl rfl ?_
        refine X.iload_n 47 i225_46 rfl rfl rfl ?_
        refine X.ifne 55 50 i225_47 rfl rfl rfl (fun h555 => ?_) (fun h555 => ?_)
        · refine X.cut [(0, zr 4 44), (2, zi y2), (3, zi y3), (4, zi 1)] i225_55 rfl ?_
          refine X.iconst 56 i225_55 rfl rfl (by decide) ?_
          refine X.goto 60 i225_56 rfl rfl ?_
          refine X.istore_n 61 [(0, zr 4 44), (1, zi 1), (2, zi y2), (3, zi y3), (4, zi 1)] i225_60 rfl rfl rfl ?_
          refine X.iload_n 62 i225_61 rfl rfl rfl ?_
          refine X.ifne 70 65 i225_62 rfl rfl rfl (fun h556 => ?_) (fun h556 => ?_)
          · refine X.cut [(0, zr 4 44), (1, zi 1), (3, zi y3)] i225_70 rfl ?_
            refine X.iconst 71 i225_70 rfl rfl (by decide) ?_
            refine X.goto 75 i225_71 rfl rfl ?_
            refine X.istore_n 76 [(0, zr 4 44), (1, zi 1), (2, zi 1), (3, zi y3)] i225_75 rfl rfl rfl ?_
            refine X.iinc 79 [(0, zr 4 44), (1, zi 1), (2, zi 1), (3, zi (y3 + 1))] i225_76 rfl rfl rfl (by omega) rfl ?_
            refine X.goto 6 i225_79 rfl rfl ?_
            exact ih 1 1 (y3 + 1) (by omega) (by omega) (by omega) (by omega)
          · refine X.iload 67 i225_65 rfl rfl rfl ?_
            refine X.ifne 74 70 i225_67 rfl rfl rfl (fun h557 => ?_) (fun h557 => (by exfalso; omega))
            refine X.cut [(0, zr 4 44), (1, zi 1), (3, zi y3)] i225_74 rfl ?_
            refine X.iconst 75 i225_74 rfl rfl (by decide) ?_
            refine X.istore_n 76 [(0, zr 4 44), (1, zi 1), (2, zi 0), (3, zi y3)] i225_75 rfl rfl rfl ?_
            refine X.iinc 79 [(0, zr 4 44), (1, zi 1), (2, zi 0), (3, zi (y3 + 1))] i225_76 rfl rfl rfl (by omega) rfl ?_
            refine X.goto 6 i225_79 rfl rfl ?_
            exact ih 1 0 (y3 + 1) (by omega) (by omega) (by omega) (by omega)
        · refine X.iload 52 i225_50 rfl rfl rfl ?_
          refine X.ifeq 59 55 i225_52 rfl rfl rfl (fun h558 => (by exfalso; omega)) (fun h558 => ?_)
          refine X.cut [(0, zr 4 44), (2, zi y2), (3, zi y3), (4, zi 1)] i225_55 rfl ?_
          refine X.iconst 56 i225_55 rfl rfl (by decide) ?_
          refine X.goto 60 i225_56 rfl rfl ?_
          refine X.istore_n 61 [(0, zr 4 44), (1, zi 1), (2, zi y2), (3, zi y3), (4, zi 1)] i225_60 rfl rfl rfl ?_
          refine X.iload_n 62 i225_61 rfl rfl rfl ?_
          refine X.ifne 70 65 i225_62 rfl rfl rfl (fun h559 => ?_) (fun h559 => ?_)
          · refine X.cut [(0, zr 4 44), (1, zi 1), (3, zi y3)] i225_70 rfl ?_
            refine X.iconst 71 i225_70 rfl rfl (by decide) ?_
            refine X.goto 75 i225_71 rfl rfl ?_
            refine X.istore_n 76 [(0, zr 4 44), (1, zi 1), (2, zi 1), (3, zi y3)] i225_75 rfl rfl rfl ?_
            refine X.iinc 79 [(0, zr 4 44), (1, zi 1), (2, zi 1), (3, zi (y3 + 1))] i225_76 rfl rfl rfl (by omega) rfl ?_
            refine X.goto 6 i225_79 rfl rfl ?_
            exact ih 1 1 (y3 + 1) (by omega) (by omega) (by omega) (by omega)
          · refine X.iload 67 i225_65 rfl rfl rfl ?_
            refine X.ifne 74 70 i225_67 rfl rfl rfl (fun h560 => ?_) (fun h560 => (by exfalso; omega))
            refine X.cut [(0, zr 4 44), (1, zi 1), (3, zi y3)] i225_74 rfl ?_
            refine X.iconst 75 i225_74 rfl rfl (by decide) ?_
            refine X.istore_n 76 [(0, zr 4 44), (1, zi 1), (2, zi 0), (3, zi y3)] i225_75 rfl rfl rfl ?_
            refine X.iinc 79 [(0, zr 4 44), (1, zi 1), (2, zi 0), (3, zi (y3 + 1))] i225_76 rfl rfl rfl (by omega) rfl ?_
            refine X.goto 6 i225_79 rfl rfl ?_
            exact ih 1 0 (y3 + 1) (by omega) (by omega) (by omega) (by omega)
-- WorkMeterModel.isMissing
theorem c225_1 {s : Nat × (Nat → Int32)} {S : zS} {m0 m : zM} {B : Int} {d : Nat} {Q : Option zV → zM → Prop} (hd : 14 ≤ d) (hJ : J S m0 B m) (hB : B + 0 ≤ 1000000000) (hQ : ∀ (v : Int), (0 ≤ v ∧ v ≤ 1) → Q (some (zi v)) m) : X (EE s) d 225 0 [(0, zr 4 44)] [] m Q := by
  refine X.iconst 1 i225_0 rfl rfl (by decide) ?_
  refine X.istore_n 2 [(0, zr 4 44), (1, zi 0)] i225_1 rfl rfl rfl ?_
  refine X.iconst 3 i225_2 rfl rfl (by decide) ?_
  refine X.istore_n 4 [(0, zr 4 44), (1, zi 0), (2, zi 0)] i225_3 rfl rfl rfl ?_
  refine X.iconst 5 i225_4 rfl rfl (by decide) ?_
  refine X.istore_n 6 [(0, zr 4 44), (1, zi 0), (2, zi 0), (3, zi 0)] i225_5 rfl rfl rfl ?_
  refine l225_6_1 (s := s) (S := S) (m0 := m0) (m := m) (B := B) (d := d)   (by omega) (hJ.up (by omega)) (by omega) (fun y501 y502 hby501 hby502 => ?_) ((3 - 0 : Int).toNat + 1) 0 0 0 (by omega) (by omega) (by omega) (by omega)
  refine X.iload_n 83 i225_82 rfl rfl rfl ?_
  refine X.ifeq 94 86 i225_83 rfl rfl rfl (fun h506 => ?_) (fun h506 => ?_)
  · refine X.cut [] i225_94 rfl ?_
    refine X.iconst 95 i225_94 rfl rfl (by decide) ?_
    refine X.retz i225_95 rfl t225 (by omega) ?_
    exact hQ 0 (by first | trivial | omega) 
  · refine X.iload_n 87 i225_86 rfl rfl rfl ?_
    refine X.ifeq 94 90 i225_87 rfl rfl rfl (fun h507 => ?_) (fun h507 => ?_)
    · refine X.cut [] i225_94 rfl ?_
      refine X.iconst 95 i225_94 rfl rfl (by decide) ?_
      refine X.retz i225_95 rfl t225 (by omega) ?_
      exact hQ 0 (by first | trivial | omega) 
    · refine X.iconst 91 i225_90 rfl rfl (by decide) ?_
      refine X.goto 95 i225_91 rfl rfl ?_
      refine X.cut [] i225_95 rfl ?_
      refine X.retz i225_95 rfl t225 (by omega) ?_
      exact hQ 1 (by first | trivial | omega) 
-- WorkMeterModel.turnsOn
theorem c228_3 {s : Nat × (Nat → Int32)} {S : zS} {m0 m : zM} {B : Int} {d : Nat} {Q : Option zV → zM → Prop} (a1 : Int) (hd : 14 ≤ d) (hJ : J S m0 B m) (hB : B + 1 ≤ 1000000000) (ha1 : 2 ≤ a1 ∧ a1 ≤ 2) (hQ : ∀ m', J S m0 (B + 1) m' → Q none m') : X (EE s) d 228 0 [(0, zr 4 44), (1, zi a1)] [] m Q := by
  refine X.aload_n 1 i228_0 rfl rfl rfl ?_
  refine X.getF 4 i228_1 rfl rfl (by decide) rfl rfl ?_
  refine X.bipush 6 i228_4 rfl rfl (by decide) ?_
  refine X.iload_n 7 i228_6 rfl rfl rfl ?_
  refine X.iadd 8 i228_7 rfl rfl (by omega) ?_
  refine X.lconst (y := 1) 9 i228_8 rfl rfl rfl ?_
  refine X.last' 10 i228_9 rfl rfl (by decide) rfl (by omega) (fun hrm501 m501 hm501 => ?_)
  have hJ502 := w45_19 hJ hm501 (by omega) hrm501
  refine X.aload_n 11 i228_10 rfl rfl rfl ?_
  refine X.getF 14 i228_11 rfl rfl (by decide) rfl rfl ?_
  refine X.bipush 16 i228_14 rfl rfl (by decide) ?_
  refine X.iload_n 17 i228_16 rfl rfl rfl ?_
  refine X.iadd 18 i228_17 rfl rfl (by omega) ?_
  refine X.dup2 19 i228_18 rfl rfl ?_
  refine X.lald 20 i228_19 rfl rfl (by decide) rfl (by omega) ?_
  refine X.lconst (y := 1) 21 i228_20 rfl rfl rfl ?_
  refine X.llF 22 .ladd (fun x y => x + y) i228_21 rfl rfl rfl (fun _ _ => rfl) (fun z503 hz503 => ?_)
  refine X.last' 23 i228_22 rfl rfl (by decide) rfl (by omega) (fun hrm504 m504 hm504 => ?_)
  have hJ505 := w45_19 hJ502 hm504 (by omega) hrm504
  refine X.aload_n 24 i228_23 rfl rfl rfl ?_
  refine X.iload_n 25 i228_24 rfl rfl rfl ?_
  refine X.lconst (y := 0) 26 i228_25 rfl rfl rfl ?_
  refine X.callv 29 [zi a1, zl 0] [] [(0, zr 4 44), (1, zi a1), (2, zl 0)] i228_26 rfl (by decide) rfl rfl (by omega) rfl rfl (by decide) rfl t223 (Nat.le_of_ble_eq_true rfl) (Nat.le_of_ble_eq_true rfl) rfl ?_
  refine c223_1 (B := B)  a1 0 (by omega) (hJ505.up (by omega)) (by omega) (by omega) (by omega) (fun m506 hJ507 => ?_)
  show X (EE s) d 228 29 [(0, zr 4 44), (1, zi a1)] [] m506 _
  refine X.retv i228_29 rfl t228 ?_
  exact hQ  m506  (hJ507.up (by omega)) 
theorem l224_2_1 {s : Nat × (Nat → Int32)} {S : zS} {m0 : zM} {d : Nat} {Q : Option zV → zM → Prop} (BE : Int) (hE : BE ≤ 1000000000) (hd : 15 ≤ d)
    (K142 : ∀ (m' : zM) (B' : Int), J S m0 B' m' → B' ≤ BE → X (EE s) d 224 142 [(0, zr 4 44)] [] m' Q) :
    ∀ (n : Nat) (y1 : Int) (m : zM) (B : Int), J S m0 B m → B + 2 * (n : Int) ≤ BE → (2 ≤ y1 ∧ y1 ≤ 5) → 5 - y1 < (n : Int) → X (EE s) d 224 2 [(0, zr 4 44), (1, zi y1)] [] m Q := by
  intro n
  induction n with
  | zero =>
    intro y1 m B hJ hB  hy1 hn
    exfalso
    omega
  | succ n ih =>
    intro y1 m B hJ hB  hy1 hn
    refine X.iload_n 3 i224_2 rfl rfl rfl ?_
    refine X.iconst 4 i224_3 rfl rfl (by decide) ?_
    refine X.icmpge 142 7 i224_4 rfl rfl rfl (fun h666 => ?_) (fun h666 => ?_)
    · refine X.cut [(0, zr 4 44)] i224_142 rfl ?_
      exact K142  m (B) (hJ.up (by omega)) (by omega)  
    · refine X.iload_n 8 i224_7 rfl rfl rfl ?_
      refine X.iconst 9 i224_8 rfl rfl (by decide) ?_
      refine X.icmpne 19 12 i224_9 rfl rfl rfl (fun h667 => ?_) (fun h667 => ?_)
      · refine X.iload_n 20 i224_19 rfl rfl rfl ?_
        refine X.iconst 21 i224_20 rfl rfl (by decide) ?_
        refine X.icmpne 31 24 i224_21 rfl rfl rfl (fun h668 => ?_) (fun h668 => ?_)
        · refine X.aload_n 32 i224_31 rfl rfl rfl ?_
          refine X.callv 35 [] [] [(0, zr 4 44)] i224_32 rfl (by decide) rfl rfl (by omega) rfl rfl (by decide) rfl t227 (Nat.le_of_ble_eq_true rfl) (Nat.le_of_ble_eq_true rfl) rfl ?_
          refine c227_1 (B := B)   (by omega) (hJ.up (by omega)) (by omega)  (fun v671 hv671 => ?_)
          show X (EE s) d 224 35 [(0, zr 4 44), (1, zi y1)] [zi v671] m _
          refine X.istore_n 36 [(0, zr 4 44), (1, zi y1), (2, zi v671)] i224_35 rfl rfl rfl ?_
          refine X.aload_n 37 i224_36 rfl rfl rfl ?_
          refine X.getF 40 i224_37 rfl rfl (by decide) rfl rfl ?_
          refine X.bipush 42 i224_40 rfl rfl (by decide) ?_
          refine X.iload_n 43 i224_42 rfl rfl rfl ?_
          refine X.iadd 44 i224_43 rfl rfl (by omega) ?_
          refine X.iload_n 45 i224_44 rfl rfl rfl ?_
          refine X.ifeq 62 48 i224_45 rfl rfl rfl (fun h672 => ?_) (fun h672 => ?_)
          · refine X.lconst (y := 0) 63 i224_62 rfl rfl rfl ?_
            refine X.last' 64 i224_63 rfl rfl (by decide) rfl (by omega) (fun hrm673 m673 hm673 => ?_)
            have hJ674 := w45_19 hJ hm673 (by omega) hrm673
            refine X.aload_n 65 i224_64 rfl rfl rfl ?_
            refine X.getF 68 i224_65 rfl rfl (by decide) rfl rfl ?_
            refine X.bipush 70 i224_68 rfl rfl (by decide) ?_
            refine X.iload_n 71 i224_70 rfl rfl rfl ?_
            refine X.iadd 72 i224_71 rfl rfl (by omega) ?_
            refine X.lald 73 i224_72 rfl rfl (by decide) rfl (by omega) ?_
            refine X.aload_n 74 i224_73 rfl rfl rfl ?_
            refine X.getF 77 i224_74 rfl rfl (by decide) rfl rfl ?_
            refine X.bipush 79 i224_77 rfl rfl (by decide) ?_
            refine X.lald 80 i224_79 rfl rfl (by decide) rfl (by omega) ?_
            refine X.lcmp 81 i224_80 rfl rfl (fun z675 hz675 => ?_)
            refine X.ifle 88 84 i224_81 rfl rfl rfl (fun h676 => ?_) (fun h676 => ?_)
            · have h676c : (m673 4 45 (55 + y1)) ≤ (m673 4 45 7) := by omega
              clear h676 hz675
              refine X.iconst 89 i224_88 rfl rfl (by decide) ?_
              refine X.istore_n 90 [(0, zr 4 44), (1, zi y1), (2, zi v671), (3, zi 0)] i224_89 rfl rfl rfl ?_
              refine X.iload_n 91 i224_90 rfl rfl rfl ?_
              refine X.ifeq 113 94 i224_91 rfl rfl rfl (fun h677 => ?_) (fun h677 => (by exfalso; omega))
              refine X.cut [(0, zr 4 44), (1, zi y1), (2, zi v671)] i224_113 rfl ?_
              refine X.iload_n 114 i224_113 rfl rfl rfl ?_
              refine X.ifne 136 117 i224_114 rfl rfl rfl (fun h678 => (by exfalso; omega)) (fun h678 => ?_)
              refine X.aload_n 118 i224_117 rfl rfl rfl ?_
              refine X.getF 121 i224_118 rfl rfl (by decide) rfl rfl ?_
              refine X.bipush 123 i224_121 rfl rfl (by decide) ?_
              refine X.iload_n 124 i224_123 rfl rfl rfl ?_
              refine X.iadd 125 i224_124 rfl rfl (by omega) ?_
              refine X.lald 126 i224_125 rfl rfl (by decide) rfl (by omega) ?_
              refine X.lconst (y := 1) 127 i224_126 rfl rfl rfl ?_
              refine X.lcmp 128 i224_127 rfl rfl (fun z679 hz679 => ?_)
              refine X.ifne 136 131 i224_128 rfl rfl rfl (fun h680 => ?_) (fun h680 => ?_)
              · have h680c : (m673 4 45 (40 + y1)) ≠ 1 := by omega
                clear h680 hz679
                refine X.cut [(0, zr 4 44), (1, zi y1)] i224_136 rfl ?_
                refine X.iinc 139 [(0, zr 4 44), (1, zi (y1 + 1))] i224_136 rfl rfl rfl (by omega) rfl ?_
                refine X.goto 2 i224_139 rfl rfl ?_
                exact ih (y1 + 1) m673 (B) (hJ674.up (by omega)) (by omega)  (by omega) (by omega)
              · have h680c : (m673 4 45 (40 + y1)) = 1 := by omega
                clear h680 hz679
                refine X.aload_n 132 i224_131 rfl rfl rfl ?_
                refine X.iload_n 133 i224_132 rfl rfl rfl ?_
                refine X.callv 136 [zi y1] [] [(0, zr 4 44), (1, zi y1)] i224_133 rfl (by decide) rfl rfl (by omega) rfl rfl (by decide) rfl t229 (Nat.le_of_ble_eq_true rfl) (Nat.le_of_ble_eq_true rfl) rfl ?_
                refine X.aload_n 1 i229_0 rfl rfl rfl ?_
                refine X.getF 4 i229_1 rfl rfl (by decide) rfl rfl ?_
                refine X.bipush 6 i229_4 rfl rfl (by decide) ?_
                refine X.iload_n 7 i229_6 rfl rfl rfl ?_
                refine X.iadd 8 i229_7 rfl rfl (by omega) ?_
                refine X.lconst (y := 0) 9 i229_8 rfl rfl rfl ?_
                refine X.last' 10 i229_9 rfl rfl (by decide) rfl (by omega) (fun hrm681 m681 hm681 => ?_)
                have hJ682 := w45_19 hJ674 hm681 (by omega) hrm681
                refine X.aload_n 11 i229_10 rfl rfl rfl ?_
                refine X.bipush 13 i229_11 rfl rfl (by decide) ?_
                refine X.iload_n 14 i229_13 rfl rfl rfl ?_
                refine X.iadd 15 i229_14 rfl rfl (by omega) ?_
                refine X.lconst (y := 0) 16 i229_15 rfl rfl rfl ?_
                refine X.callv 19 [zi (10 + y1), zl 0] [] [(0, zr 4 44), (1, zi (10 + y1)), (2, zl 0)] i229_16 rfl (by decide) rfl rfl (by omega) rfl rfl (by decide) rfl t223 (Nat.le_of_ble_eq_true rfl) (Nat.le_of_ble_eq_true rfl) rfl ?_
                refine c223_1 (B := B)  (10 + y1) 0 (by omega) (hJ682.up (by omega)) (by omega) (by omega) (by omega) (fun m683 hJ684 => ?_)
                show X (EE s) (d - 1) 229 19 [(0, zr 4 44), (1, zi y1)] [] m683 _
                refine X.retv i229_19 rfl t229 ?_
                show X (EE s) d 224 136 [(0, zr 4 44), (1, zi y1), (2, zi v671)] [] m683 _
                refine X.cut [(0, zr 4 44), (1, zi y1)] i224_136 rfl ?_
                refine X.iinc 139 [(0, zr 4 44), (1, zi (y1 + 1))] i224_136 rfl rfl rfl (by omega) rfl ?_
                refine X.goto 2 i224_139 rfl rfl ?_
                exact ih (y1 + 1) m683 (B + 1) (hJ684.up (by omega)) (by omega)  (by omega) (by omega)
            · have h676c : (m673 4 45 (55 + y1)) > (m673 4 45 7) := by omega
              clear h676 hz675
              refine X.iconst 85 i224_84 rfl rfl (by decide) ?_
              refine X.goto 89 i224_85 rfl rfl ?_
              refine X.istore_n 90 [(0, zr 4 44), (1, zi y1), (2, zi v671), (3, zi 1)] i224_89 rfl rfl rfl ?_
              refine X.iload_n 91 i224_90 rfl rfl rfl ?_
              refine X.ifeq 113 94 i224_91 rfl rfl rfl (fun h686 => (by exfalso; omega)) (fun h686 => ?_)
              refine X.aload_n 95 i224_94 rfl rfl rfl ?_
              refine X.getF 98 i224_95 rfl rfl (by decide) rfl rfl ?_
              refine X.bipush 100 i224_98 rfl rfl (by decide) ?_
              refine X.iload_n 101 i224_100 rfl rfl rfl ?_
              refine X.iadd 102 i224_101 rfl rfl (by omega) ?_
              refine X.lald 103 i224_102 rfl rfl (by decide) rfl (by omega) ?_
              refine X.lconst (y := 0) 104 i224_103 rfl rfl rfl ?_
              refine X.lcmp 105 i224_104 rfl rfl (fun z687 hz687 => ?_)
              refine X.ifne 113 108 i224_105 rfl rfl rfl (fun h688 => ?_) (fun h688 => ?_)
              · have h688c : (m673 4 45 (40 + y1)) ≠ 0 := by omega
                clear h688 hz687
                refine X.cut [(0, zr 4 44), (1, zi y1), (2, zi v671)] i224_113 rfl ?_
                refine X.iload_n 114 i224_113 rfl rfl rfl ?_
                refine X.ifne 136 117 i224_114 rfl rfl rfl (fun h689 => (by exfalso; omega)) (fun h689 => ?_)
                refine X.aload_n 118 i224_117 rfl rfl rfl ?_
                refine X.getF 121 i224_118 rfl rfl (by decide) rfl rfl ?_
                refine X.bipush 123 i224_121 rfl rfl (by decide) ?_
                refine X.iload_n 124 i224_123 rfl rfl rfl ?_
                refine X.iadd 125 i224_124 rfl rfl (by omega) ?_
                refine X.lald 126 i224_125 rfl rfl (by decide) rfl (by omega) ?_
                refine X.lconst (y := 1) 127 i224_126 rfl rfl rfl ?_
                refine X.lcmp 128 i224_127 rfl rfl (fun z690 hz690 => ?_)
                refine X.ifne 136 131 i224_128 rfl rfl rfl (fun h691 => ?_) (fun h691 => ?_)
                · have h691c : (m673 4 45 (40 + y1)) ≠ 1 := by omega
                  clear h691 hz690
                  refine X.cut [(0, zr 4 44), (1, zi y1)] i224_136 rfl ?_
                  refine X.iinc 139 [(0, zr 4 44), (1, zi (y1 + 1))] i224_136 rfl rfl rfl (by omega) rfl ?_
                  refine X.goto 2 i224_139 rfl rfl ?_
                  exact ih (y1 + 1) m673 (B) (hJ674.up (by omega)) (by omega)  (by omega) (by omega)
                · have h691c : (m673 4 45 (40 + y1)) = 1 := by omega
                  clear h691 hz690
                  refine X.aload_n 132 i224_131 rfl rfl rfl ?_
                  refine X.iload_n 133 i224_132 rfl rfl rfl ?_
                  refine X.callv 136 [zi y1] [] [(0, zr 4 44), (1, zi y1)] i224_133 rfl (by decide) rfl rfl (by omega) rfl rfl (by decide) rfl t229 (Nat.le_of_ble_eq_true rfl) (Nat.le_of_ble_eq_true rfl) rfl ?_
                  refine X.aload_n 1 i229_0 rfl rfl rfl ?_
                  refine X.getF 4 i229_1 rfl rfl (by decide) rfl rfl ?_
                  refine X.bipush 6 i229_4 rfl rfl (by decide) ?_
                  refine X.iload_n 7 i229_6 rfl rfl rfl ?_
                  refine X.iadd 8 i229_7 rfl rfl (by omega) ?_
                  refine X.lconst (y := 0) 9 i229_8 rfl rfl rfl ?_
                  refine X.last' 10 i229_9 rfl rfl (by decide) rfl (by omega) (fun hrm692 m692 hm692 => ?_)
                  have hJ693 := w45_19 hJ674 hm692 (by omega) hrm692
                  refine X.aload_n 11 i229_10 rfl rfl rfl ?_
                  refine X.bipush 13 i229_11 rfl rfl (by decide) ?_
                  refine X.iload_n 14 i229_13 rfl rfl rfl ?_
                  refine X.iadd 15 i229_14 rfl rfl (by omega) ?_
                  refine X.lconst (y := 0) 16 i229_15 rfl rfl rfl ?_
                  refine X.callv 19 [zi (10 + y1), zl 0] [] [(0, zr 4 44), (1, zi (10 + y1)), (2, zl 0)] i229_16 rfl (by decide) rfl rfl (by omega) rfl rfl (by decide) rfl t223 (Nat.le_of_ble_eq_true rfl) (Nat.le_of_ble_eq_true rfl) rfl ?_
                  refine c223_1 (B := B)  (10 + y1) 0 (by omega) (hJ693.up (by omega)) (by omega) (by omega) (by omega) (fun m694 hJ695 => ?_)
                  show X (EE s) (d - 1) 229 19 [(0, zr 4 44), (1, zi y1)] [] m694 _
                  refine X.retv i229_19 rfl t229 ?_
                  show X (EE s) d 224 136 [(0, zr 4 44), (1, zi y1), (2, zi v671)] [] m694 _
                  refine X.cut [(0, zr 4 44), (1, zi y1)] i224_136 rfl ?_
                  refine X.iinc 139 [(0, zr 4 44), (1, zi (y1 + 1))] i224_136 rfl rfl rfl (by omega) rfl ?_
                  refine X.goto 2 i224_139 rfl rfl ?_
                  exact ih (y1 + 1) m694 (B + 1) (hJ695.up (by omega)) (by omega)  (by omega) (by omega)
              · have h688c : (m673 4 45 (40 + y1)) = 0 := by omega
                clear h688 hz687
                refine X.aload_n 109 i224_108 rfl rfl rfl ?_
                refine X.iload_n 110 i224_109 rfl rfl rfl ?_
                refine X.callv 113 [zi y1] [] [(0, zr 4 44), (1, zi y1)] i224_110 rfl (by decide) rfl rfl (by omega) rfl rfl (by decide) rfl t228 (Nat.le_of_ble_eq_true rfl) (Nat.le_of_ble_eq_true rfl) rfl ?_
                refine c228_1 (B := B)  y1 (by omega) (hJ674.up (by omega)) (by omega) (by omega) (fun m697 hJ698 => ?_)
                show X (EE s) d 224 113 [(0, zr 4 44), (1, zi y1), (2, zi v671), (3, zi 1)] [] m697 _
                refine X.cut [(0, zr 4 44), (1, zi y1), (2, zi v671)] i224_113 rfl ?_
                refine X.iload_n 114 i224_113 rfl rfl rfl ?_
                refine X.ifne 136 117 i224_114 rfl rfl rfl (fun h700 => (by exfalso; omega)) (fun h700 => ?_)
                refine X.aload_n 118 i224_117 rfl rfl rfl ?_
                refine X.getF 121 i224_118 rfl rfl (by decide) rfl rfl ?_
                refine X.bipush 123 i224_121 rfl rfl (by decide) ?_
                refine X.iload_n 124 i224_123 rfl rfl rfl ?_
                refine X.iadd 125 i224_124 rfl rfl (by omega) ?_
                refine X.lald 126 i224_125 rfl rfl (by decide) rfl (by omega) ?_
                refine X.lconst (y := 1) 127 i224_126 rfl rfl rfl ?_
                refine X.lcmp 128 i224_127 rfl rfl (fun z701 hz701 => ?_)
                refine X.ifne 136 131 i224_128 rfl rfl rfl (fun h702 => ?_) (fun h702 => ?_)
                · have h702c : (m697 4 45 (40 + y1)) ≠ 1 := by omega
                  clear h702 hz701
                  refine X.cut [(0, zr 4 44), (1, zi y1)] i224_136 rfl ?_
                  refine X.iinc 139 [(0, zr 4 44), (1, zi (y1 + 1))] i224_136 rfl rfl rfl (by omega) rfl ?_
                  refine X.goto 2 i224_139 rfl rfl ?_
                  exact ih (y1 + 1) m697 (B + 1) (hJ698.up (by omega)) (by omega)  (by omega) (by omega)
                · have h702c : (m697 4 45 (40 + y1)) = 1 := by omega
                  clear h702 hz701
                  refine X.aload_n 132 i224_131 rfl rfl rfl ?_
                  refine X.iload_n 133 i224_132 rfl rfl rfl ?_
                  refine X.callv 136 [zi y1] [] [(0, zr 4 44), (1, zi y1)] i224_133 rfl (by decide) rfl rfl (by omega) rfl rfl (by decide) rfl t229 (Nat.le_of_ble_eq_true rfl) (Nat.le_of_ble_eq_true rfl) rfl ?_
                  refine X.aload_n 1 i229_0 rfl rfl rfl ?_
                  refine X.getF 4 i229_1 rfl rfl (by decide) rfl rfl ?_
                  refine X.bipush 6 i229_4 rfl rfl (by decide) ?_
                  refine X.iload_n 7 i229_6 rfl rfl rfl ?_
                  refine X.iadd 8 i229_7 rfl rfl (by omega) ?_
                  refine X.lconst (y := 0) 9 i229_8 rfl rfl rfl ?_
                  refine X.last' 10 i229_9 rfl rfl (by decide) rfl (by omega) (fun hrm703 m703 hm703 => ?_)
                  have hJ704 := w45_19 hJ698 hm703 (by omega) hrm703
                  refine X.aload_n 11 i229_10 rfl rfl rfl ?_
                  refine X.bipush 13 i229_11 rfl rfl (by decide) ?_
                  refine X.iload_n 14 i229_13 rfl rfl rfl ?_
                  refine X.iadd 15 i229_14 rfl rfl (by omega) ?_
                  refine X.lconst (y := 0) 16 i229_15 rfl rfl rfl ?_
                  refine X.callv 19 [zi (10 + y1), zl 0] [] [(0, zr 4 44), (1, zi (10 + y1)), (2, zl 0)] i229_16 rfl (by decide) rfl rfl (by omega) rfl rfl (by decide) rfl t223 (Nat.le_of_ble_eq_true rfl) (Nat.le_of_ble_eq_true rfl) rfl ?_
                  refine c223_1 (B := B + 1)  (10 + y1) 0 (by omega) (hJ704.up (by omega)) (by omega) (by omega) (by omega) (fun m705 hJ706 => ?_)
                  show X (EE s) (d - 1) 229 19 [(0, zr 4 44), (1, zi y1)] [] m705 _
                  refine X.retv i229_19 rfl t229 ?_
                  show X (EE s) d 224 136 [(0, zr 4 44), (1, zi y1), (2, zi v671)] [] m705 _
                  refine X.cut [(0, zr 4 44), (1, zi y1)] i224_136 rfl ?_
                  refine X.iinc 139 [(0, zr 4 44), (1, zi (y1 + 1))] i224_136 rfl rfl rfl (by omega) rfl ?_
                  refine X.goto 2 i224_139 rfl rfl ?_
                  exact ih (y1 + 1) m705 (B + 2) (hJ706.up (by omega)) (by omega)  (by omega) (by omega)
          · refine X.aload_n 49 i224_48 rfl rfl rfl ?_
            refine X.getF 52 i224_49 rfl rfl (by decide) rfl rfl ?_
            refine X.bipush 54 i224_52 rfl rfl (by decide) ?_
            refine X.iload_n 55 i224_54 rfl rfl rfl ?_
            refine X.iadd 56 i224_55 rfl rfl (by omega) ?_
            refine X.lald 57 i224_56 rfl rfl (by decide) rfl (by omega) ?_
            refine X.lconst (y := 1) 58 i224_57 rfl rfl rfl ?_
            refine X.llF 59 .ladd (fun x y => x + y) i224_58 rfl rfl rfl (fun _ _ => rfl) (fun z708 hz708 => ?_)
            refine X.goto 63 i224_59 rfl rfl ?_
            refine X.last' 64 i224_63 rfl rfl (by decide) rfl (by omega) (fun hrm709 m709 hm709 => ?_)
            have hJ710 := w45_19 hJ hm709 (by omega) hrm709
            refine X.aload_n 65 i224_64 rfl rfl rfl ?_
            refine X.getF 68 i224_65 rfl rfl (by decide) rfl rfl ?_
            refine X.bipush 70 i224_68 rfl rfl (by decide) ?_
            refine X.iload_n 71 i224_70 rfl rfl rfl ?_
            refine X.iadd 72 i224_71 rfl rfl (by omega) ?_
            refine X.lald 73 i224_72 rfl rfl (by decide) rfl (by omega) ?_
            refine X.aload_n 74 i224_73 rfl rfl rfl ?_
            refine X.getF 77 i224_74 rfl rfl (by decide) rfl rfl ?_
            refine X.bipush 79 i224_77 rfl rfl (by decide) ?_
            refine X.lald 80 i224_79 rfl rfl (by decide) rfl (by omega) ?_
            refine X.lcmp 81 i224_80 rfl rfl (fun z711 hz711 => ?_)
            refine X.ifle 88 84 i224_81 rfl rfl rfl (fun h712 => ?_) (fun h712 => ?_)
            · have h712c : (m709 4 45 (55 + y1)) ≤ (m709 4 45 7) := by omega
              clear h712 hz711
              refine X.iconst 89 i224_88 rfl rfl (by decide) ?_
              refine X.istore_n 90 [(0, zr 4 44), (1, zi y1), (2, zi v671), (3, zi 0)] i224_89 rfl rfl rfl ?_
              refine X.iload_n 91 i224_90 rfl rfl rfl ?_
              refine X.ifeq 113 94 i224_91 rfl rfl rfl (fun h713 => ?_) (fun h713 => (by exfalso; omega))
              refine X.cut [(0, zr 4 44), (1, zi y1), (2, zi v671)] i224_113 rfl ?_
              refine X.iload_n 114 i224_113 rfl rfl rfl ?_
              refine X.ifne 136 117 i224_114 rfl rfl rfl (fun h714 => ?_) (fun h714 => (by exfalso; omega))
              refine X.cut [(0, zr 4 44), (1, zi y1)] i224_136 rfl ?_
              refine X.iinc 139 [(0, zr 4 44), (1, zi (y1 + 1))] i224_136 rfl rfl rfl (by omega) rfl ?_
              refine X.goto 2 i224_139 rfl rfl ?_
              exact ih (y1 + 1) m709 (B) (hJ710.up (by omega)) (by omega)  (by omega) (by omega)
            · have h712c : (m709 4 45 (55 + y1)) > (m709 4 45 7) := by omega
              clear h712 hz711
              refine X.iconst 85 i224_84 rfl rfl (by decide) ?_
              refine X.goto 89 i224_85 rfl rfl ?_
              refine X.istore_n 90 [(0, zr 4 44), (1, zi y1), (2, zi v671), (3, zi 1)] i224_89 rfl rfl rfl ?_
              refine X.iload_n 91 i224_90 rfl rfl rfl ?_
              refine X.ifeq 113 94 i224_91 rfl rfl rfl (fun h715 => (by exfalso; omega)) (fun h715 => ?_)
              refine X.aload_n 95 i224_94 rfl rfl rfl ?_
              refine X.getF 98 i224_95 rfl rfl (by decide) rfl rfl ?_
              refine X.bipush 100 i224_98 rfl rfl (by decide) ?_
              refine X.iload_n 101 i224_100 rfl rfl rfl ?_
              refine X.iadd 102 i224_101 rfl rfl (by omega) ?_
              refine X.lald 103 i224_102 rfl rfl (by decide) rfl (by omega) ?_
              refine X.lconst (y := 0) 104 i224_103 rfl rfl rfl ?_
              refine X.lcmp 105 i224_104 rfl rfl (fun z716 hz716 => ?_)
              refine X.ifne 113 108 i224_105 rfl rfl rfl (fun h717 => ?_) (fun h717 => ?_)
              · have h717c : (m709 4 45 (40 + y1)) ≠ 0 := by omega
                clear h717 hz716
                refine X.cut [(0, zr 4 44), (1, zi y1), (2, zi v671)] i224_113 rfl ?_
                refine X.iload_n 114 i224_113 rfl rfl rfl ?_
                refine X.ifne 136 117 i224_114 rfl rfl rfl (fun h718 => ?_) (fun h718 => (by exfalso; omega))
                refine X.cut [(0, zr 4 44), (1, zi y1)] i224_136 rfl ?_
                refine X.iinc 139 [(0, zr 4 44), (1, zi (y1 + 1))] i224_136 rfl rfl rfl (by omega) rfl ?_
                refine X.goto 2 i224_139 rfl rfl ?_
                exact ih (y1 + 1) m709 (B) (hJ710.up (by omega)) (by omega)  (by omega) (by omega)
              · have h717c : (m709 4 45 (40 + y1)) = 0 := by omega
                clear h717 hz716
                refine X.aload_n 109 i224_108 rfl rfl rfl ?_
                refine X.iload_n 110 i224_109 rfl rfl rfl ?_
                refine X.callv 113 [zi y1] [] [(0, zr 4 44), (1, zi y1)] i224_110 rfl (by decide) rfl rfl (by omega) rfl rfl (by decide) rfl t228 (Nat.le_of_ble_eq_true rfl) (Nat.le_of_ble_eq_true rfl) rfl ?_
                refine c228_1 (B := B)  y1 (by omega) (hJ710.up (by omega)) (by omega) (by omega) (fun m719 hJ720 => ?_)
                show X (EE s) d 224 113 [(0, zr 4 44), (1, zi y1), (2, zi v671), (3, zi 1)] [] m719 _
                refine X.cut [(0, zr 4 44), (1, zi y1), (2, zi v671)] i224_113 rfl ?_
                refine X.iload_n 114 i224_113 rfl rfl rfl ?_
                refine X.ifne 136 117 i224_114 rfl rfl rfl (fun h722 => ?_) (fun h722 => (by exfalso; omega))
                refine X.cut [(0, zr 4 44), (1, zi y1)] i224_136 rfl ?_
                refine X.iinc 139 [(0, zr 4 44), (1, zi (y1 + 1))] i224_136 rfl rfl rfl (by omega) rfl ?_
                refine X.goto 2 i224_139 rfl rfl ?_
                exact ih (y1 + 1) m719 (B + 1) (hJ720.up (by omega)) (by omega)  (by omega) (by omega)
        · refine X.aload_n 25 i224_24 rfl rfl rfl ?_
          refine X.callv 28 [] [] [(0, zr 4 44)] i224_25 rfl (by decide) rfl rfl (by omega) rfl rfl (by decide) rfl t226 (Nat.le_of_ble_eq_true rfl) (Nat.le_of_ble_eq_true rfl) rfl ?_
          refine c226_1 (B := B)   (by omega) (hJ.up (by omega)) (by omega)  (fun v725 hv725 => ?_)
          show X (EE s) d 224 28 [(0, zr 4 44), (1, zi y1)] [zi v725] m _
          refine X.goto 35 i224_28 rfl rfl ?_
          refine X.istore_n 36 [(0, zr 4 44), (1, zi y1), (2, zi v725)] i224_35 rfl rfl rfl ?_
          refine X.aload_n 37 i224_36 rfl rfl rfl ?_
          refine X.getF 40 i224_37 rfl rfl (by decide) rfl rfl ?_
          refine X.bipush 42 i224_40 rfl rfl (by decide) ?_
          refine X.iload_n 43 i224_42 rfl rfl rfl ?_
          refine X.iadd 44 i224_43 rfl rfl (by omega) ?_
          refine X.iload_n 45 i224_44 rfl rfl rfl ?_
          refine X.ifeq 62 48 i224_45 rfl rfl rfl (fun h726 => ?_) (fun h726 => ?_)
          · refine X.lconst (y := 0) 63 i224_62 rfl rfl rfl ?_
            refine X.last' 64 i224_63 rfl rfl (by decide) rfl (by omega) (fun hrm727 m727 hm727 => ?_)
            have hJ728 := w45_19 hJ hm727 (by omega) hrm727
            refine X.aload_n 65 i224_64 rfl rfl rfl ?_
            refine X.getF 68 i224_65 rfl rfl (by decide) rfl rfl ?_
            refine X.bipush 70 i224_68 rfl rfl (by decide) ?_
            refine X.iload_n 71 i224_70 rfl rfl rfl ?_
            refine X.iadd 72 i224_71 rfl rfl (by omega) ?_
            refine X.lald 73 i224_72 rfl rfl (by decide) rfl (by omega) ?_
            refine X.aload_n 74 i224_73 rfl rfl rfl ?_
            refine X.getF 77 i224_74 rfl rfl (by decide) rfl rfl ?_
            refine X.bipush 79 i224_77 rfl rfl (by decide) ?_
            refine X.lald 80 i224_79 rfl rfl (by decide) rfl (by omega) ?_
            refine X.lcmp 81 i224_80 rfl rfl (fun z729 hz729 => ?_)
            refine X.ifle 88 84 i224_81 rfl rfl rfl (fun h730 => ?_) (fun h730 => ?_)
            · have h730c : (m727 4 45 (55 + y1)) ≤ (m727 4 45 7) := by omega
              clear h730 hz729
              refine X.iconst 89 i224_88 rfl rfl (by decide) ?_
              refine X.istore_n 90 [(0, zr 4 44), (1, zi y1), (2, zi v725), (3, zi 0)] i224_89 rfl rfl rfl ?_
              refine X.iload_n 91 i224_90 rfl rfl rfl ?_
              refine X.ifeq 113 94 i224_91 rfl rfl rfl (fun h731 => ?_) (fun h731 => (by exfalso; omega))
              refine X.cut [(0, zr 4 44), (1, zi y1), (2, zi v725)] i224_113 rfl ?_
              refine X.iload_n 114 i224_113 rfl rfl rfl ?_
              refine X.ifne 136 117 i224_114 rfl rfl rfl (fun h732 => (by exfalso; omega)) (fun h732 => ?_)
              refine X.aload_n 118 i224_117 rfl rfl rfl ?_
              refine X.getF 121 i224_118 rfl rfl (by decide) rfl rfl ?_
              refine X.bipush 123 i224_121 rfl rfl (by decide) ?_
              refine X.iload_n 124 i224_123 rfl rfl rfl ?_
              refine X.iadd 125 i224_124 rfl rfl (by omega) ?_
              refine X.lald 126 i224_125 rfl rfl (by decide) rfl (by omega) ?_
              refine X.lconst (y := 1) 127 i224_126 rfl rfl rfl ?_
              refine X.lcmp 128 i224_127 rfl rfl (fun z733 hz733 => ?_)
              refine X.ifne 136 131 i224_128 rfl rfl rfl (fun h734 => ?_) (fun h734 => ?_)
              · have h734c : (m727 4 45 (40 + y1)) ≠ 1 := by omega
                clear h734 hz733
                refine X.cut [(0, zr 4 44), (1, zi y1)] i224_136 rfl ?_
                refine X.iinc 139 [(0, zr 4 44), (1, zi (y1 + 1))] i224_136 rfl rfl rfl (by omega) rfl ?_
                refine X.goto 2 i224_139 rfl rfl ?_
                exact ih (y1 + 1) m727 (B) (hJ728.up (by omega)) (by omega)  (by omega) (by omega)
              · have h734c : (m727 4 45 (40 + y1)) = 1 := by omega
                clear h734 hz733
                refine X.aload_n 132 i224_131 rfl rfl rfl ?_
                refine X.iload_n 133 i224_132 rfl rfl rfl ?_
                refine X.callv 136 [zi y1] [] [(0, zr 4 44), (1, zi y1)] i224_133 rfl (by decide) rfl rfl (by omega) rfl rfl (by decide) rfl t229 (Nat.le_of_ble_eq_true rfl) (Nat.le_of_ble_eq_true rfl) rfl ?_
                refine X.aload_n 1 i229_0 rfl rfl rfl ?_
                refine X.getF 4 i229_1 rfl rfl (by decide) rfl rfl ?_
                refine X.bipush 6 i229_4 rfl rfl (by decide) ?_
                refine X.iload_n 7 i229_6 rfl rfl rfl ?_
                refine X.iadd 8 i229_7 rfl rfl (by omega) ?_
                refine X.lconst (y := 0) 9 i229_8 rfl rfl rfl ?_
                refine X.last' 10 i229_9 rfl rfl (by decide) rfl (by omega) (fun hrm735 m735 hm735 => ?_)
                have hJ736 := w45_19 hJ728 hm735 (by omega) hrm735
                refine X.aload_n 11 i229_10 rfl rfl rfl ?_
                refine X.bipush 13 i229_11 rfl rfl (by decide) ?_
                refine X.iload_n 14 i229_13 rfl rfl rfl ?_
                refine X.iadd 15 i229_14 rfl rfl (by omega) ?_
                refine X.lconst (y := 0) 16 i229_15 rfl rfl rfl ?_
                refine X.callv 19 [zi (10 + y1), zl 0] [] [(0, zr 4 44), (1, zi (10 + y1)), (2, zl 0)] i229_16 rfl (by decide) rfl rfl (by omega) rfl rfl (by decide) rfl t223 (Nat.le_of_ble_eq_true rfl) (Nat.le_of_ble_eq_true rfl) rfl ?_
                refine c223_1 (B := B)  (10 + y1) 0 (by omega) (hJ736.up (by omega)) (by omega) (by omega) (by omega) (fun m737 hJ738 => ?_)
                show X (EE s) (d - 1) 229 19 [(0, zr 4 44), (1, zi y1)] [] m737 _
                refine X.retv i229_19 rfl t229 ?_
                show X (EE s) d 224 136 [(0, zr 4 44), (1, zi y1), (2, zi v725)] [] m737 _
                refine X.cut [(0, zr 4 44), (1, zi y1)] i224_136 rfl ?_
                refine X.iinc 139 [(0, zr 4 44), (1, zi (y1 + 1))] i224_136 rfl rfl rfl (by omega) rfl ?_
                refine X.goto 2 i224_139 rfl rfl ?_
                exact ih (y1 + 1) m737 (B + 1) (hJ738.up (by omega)) (by omega)  (by omega) (by omega)
            · have h730c : (m727 4 45 (55 + y1)) > (m727 4 45 7) := by omega
              clear h730 hz729
              refine X.iconst 85 i224_84 rfl rfl (by decide) ?_
              refine X.goto 89 i224_85 rfl rfl ?_
              refine X.istore_n 90 [(0, zr 4 44), (1, zi y1), (2, zi v725), (3, zi 1)] i224_89 rfl rfl rfl ?_
              refine X.iload_n 91 i224_90 rfl rfl rfl ?_
              refine X.ifeq 113 94 i224_91 rfl rfl rfl (fun h740 => (by exfalso; omega)) (fun h740 => ?_)
              refine X.aload_n 95 i224_94 rfl rfl rfl ?_
              refine X.getF 98 i224_95 rfl rfl (by decide) rfl rfl ?_
              refine X.bipush 100 i224_98 rfl rfl (by decide) ?_
              refine X.iload_n 101 i224_100 rfl rfl rfl ?_
              refine X.iadd 102 i224_101 rfl rfl (by omega) ?_
              refine X.lald 103 i224_102 rfl rfl (by decide) rfl (by omega) ?_
              refine X.lconst (y := 0) 104 i224_103 rfl rfl rfl ?_
              refine X.lcmp 105 i224_104 rfl rfl (fun z741 hz741 => ?_)
              refine X.ifne 113 108 i224_105 rfl rfl rfl (fun h742 => ?_) (fun h742 => ?_)
              · have h742c : (m727 4 45 (40 + y1)) ≠ 0 := by omega
                clear h742 hz741
                refine X.cut [(0, zr 4 44), (1, zi y1), (2, zi v725)] i224_113 rfl ?_
                refine X.iload_n 114 i224_113 rfl rfl rfl ?_
                refine X.ifne 136 117 i224_114 rfl rfl rfl (fun h743 => (by exfalso; omega)) (fun h743 => ?_)
                refine X.aload_n 118 i224_117 rfl rfl rfl ?_
                refine X.getF 121 i224_118 rfl rfl (by decide) rfl rfl ?_
                refine X.bipush 123 i224_121 rfl rfl (by decide) ?_
                refine X.iload_n 124 i224_123 rfl rfl rfl ?_
                refine X.iadd 125 i224_124 rfl rfl (by omega) ?_
                refine X.lald 126 i224_125 rfl rfl (by decide) rfl (by omega) ?_
                refine X.lconst (y := 1) 127 i224_126 rfl rfl rfl ?_
                refine X.lcmp 128 i224_127 rfl rfl (fun z744 hz744 => ?_)
                refine X.ifne 136 131 i224_128 rfl rfl rfl (fun h745 => ?_) (fun h745 => ?_)
                · have h745c : (m727 4 45 (40 + y1)) ≠ 1 := by omega
                  clear h745 hz744
                  refine X.cut [(0, zr 4 44), (1, zi y1)] i224_136 rfl ?_
                  refine X.iinc 139 [(0, zr 4 44), (1, zi (y1 + 1))] i224_136 rfl rfl rfl (by omega) rfl ?_
                  refine X.goto 2 i224_139 rfl rfl ?_
                  exact ih (y1 + 1) m727 (B) (hJ728.up (by omega)) (by omega)  (by omega) (by omega)
                · have h745c : (m727 4 45 (40 + y1)) = 1 := by omega
                  clear h745 hz744
                  refine X.aload_n 132 i224_131 rfl rfl rfl ?_
                  refine X.iload_n 133 i224_132 rfl rfl rfl ?_
                  refine X.callv 136 [zi y1] [] [(0, zr 4 44), (1, zi y1)] i224_133 rfl (by decide) rfl rfl (by omega) rfl rfl (by decide) rfl t229 (Nat.le_of_ble_eq_true rfl) (Nat.le_of_ble_eq_true rfl) rfl ?_
                  refine X.aload_n 1 i229_0 rfl rfl rfl ?_
                  refine X.getF 4 i229_1 rfl rfl (by decide) rfl rfl ?_
                  refine X.bipush 6 i229_4 rfl rfl (by decide) ?_
                  refine X.iload_n 7 i229_6 rfl rfl rfl ?_
                  refine X.iadd 8 i229_7 rfl rfl (by omega) ?_
                  refine X.lconst (y := 0) 9 i229_8 rfl rfl rfl ?_
                  refine X.last' 10 i229_9 rfl rfl (by decide) rfl (by omega) (fun hrm746 m746 hm746 => ?_)
                  have hJ747 := w45_19 hJ728 hm746 (by omega) hrm746
                  refine X.aload_n 11 i229_10 rfl rfl rfl ?_
                  refine X.bipush 13 i229_11 rfl rfl (by decide) ?_
                  refine X.iload_n 14 i229_13 rfl rfl rfl ?_
                  refine X.iadd 15 i229_14 rfl rfl (by omega) ?_
                  refine X.lconst (y := 0) 16 i229_15 rfl rfl rfl ?_
                  refine X.callv 19 [zi (10 + y1), zl 0] [] [(0, zr 4 44), (1, zi (10 + y1)), (2, zl 0)] i229_16 rfl (by decide) rfl rfl (by omega) rfl rfl (by decide) rfl t223 (Nat.le_of_ble_eq_true rfl) (Nat.le_of_ble_eq_true rfl) rfl ?_
                  refine c223_1 (B := B)  (10 + y1) 0 (by omega) (hJ747.up (by omega)) (by omega) (by omega) (by omega) (fun m748 hJ749 => ?_)
                  show X (EE s) (d - 1) 229 19 [(0, zr 4 44), (1, zi y1)] [] m748 _
                  refine X.retv i229_19 rfl t229 ?_
                  show X (EE s) d 224 136 [(0, zr 4 44), (1, zi y1), (2, zi v725)] [] m748 _
                  refine X.cut [(0, zr 4 44), (1, zi y1)] i224_136 rfl ?_
                  refine X.iinc 139 [(0, zr 4 44), (1, zi (y1 + 1))] i224_136 rfl rfl rfl (by omega) rfl ?_
                  refine X.goto 2 i224_139 rfl rfl ?_
                  exact ih (y1 + 1) m748 (B + 1) (hJ749.up (by omega)) (by omega)  (by omega) (by omega)
              · have h742c : (m727 4 45 (40 + y1)) = 0 := by omega
                clear h742 hz741
                refine X.aload_n 109 i224_108 rfl rfl rfl ?_
                refine X.iload_n 110 i224_109 rfl rfl rfl ?_
                refine X.callv 113 [zi y1] [] [(0, zr 4 44), (1, zi y1)] i224_110 rfl (by decide) rfl rfl (by omega) rfl rfl (by decide) rfl t228 (Nat.le_of_ble_eq_true rfl) (Nat.le_of_ble_eq_true rfl) rfl ?_
                refine c228_2 (B := B)  y1 (by omega) (hJ728.up (by omega)) (by omega) (by omega) (fun m751 hJ752 => ?_)
                show X (EE s) d 224 113 [(0, zr 4 44), (1, zi y1), (2, zi v725), (3, zi 1)] [] m751 _
                refine X.cut [(0, zr 4 44), (1, zi y1), (2, zi v725)] i224_113 rfl ?_
                refine X.iload_n 114 i224_113 rfl rfl rfl ?_
                refine X.ifne 136 117 i224_114 rfl rfl rfl (fun h754 => (by exfalso; omega)) (fun h754 => ?_)
                refine X.aload_n 118 i224_117 rfl rfl rfl ?_
                refine X.getF 121 i224_118 rfl rfl (by decide) rfl rfl ?_
                refine X.bipush 123 i224_121 rfl rfl (by decide) ?_
                refine X.iload_n 124 i224_123 rfl rfl rfl ?_
                refine X.iadd 125 i224_124 rfl rfl (by omega) ?_
                refine X.lald 126 i224_125 rfl rfl (by decide) rfl (by omega) ?_
                refine X.lconst (y := 1) 127 i224_126 rfl rfl rfl ?_
                refine X.lcmp 128 i224_127 rfl rfl (fun z755 hz755 => ?_)
                refine X.ifne 136 131 i224_128 rfl rfl rfl (fun h756 => ?_) (fun h756 => ?_)
                · have h756c : (m751 4 45 (40 + y1)) ≠ 1 := by omega
                  clear h756 hz755
                  refine X.cut [(0, zr 4 44), (1, zi y1)] i224_136 rfl ?_
                  refine X.iinc 139 [(0, zr 4 44), (1, zi (y1 + 1))] i224_136 rfl rfl rfl (by omega) rfl ?_
                  refine X.goto 2 i224_139 rfl rfl ?_
                  exact ih (y1 + 1) m751 (B + 1) (hJ752.up (by omega)) (by omega)  (by omega) (by omega)
                · have h756c : (m751 4 45 (40 + y1)) = 1 := by omega
                  clear h756 hz755
                  refine X.aload_n 132 i224_131 rfl rfl rfl ?_
                  refine X.iload_n 133 i224_132 rfl rfl rfl ?_
                  refine X.callv 136 [zi y1] [] [(0, zr 4 44), (1, zi y1)] i224_133 rfl (by decide) rfl rfl (by omega) rfl rfl (by decide) rfl t229 (Nat.le_of_ble_eq_true rfl) (Nat.le_of_ble_eq_true rfl) rfl ?_
                  refine X.aload_n 1 i229_0 rfl rfl rfl ?_
                  refine X.getF 4 i229_1 rfl rfl (by decide) rfl rfl ?_
                  refine X.bipush 6 i229_4 rfl rfl (by decide) ?_
                  refine X.iload_n 7 i229_6 rfl rfl rfl ?_
                  refine X.iadd 8 i229_7 rfl rfl (by omega) ?_
                  refine X.lconst (y := 0) 9 i229_8 rfl rfl rfl ?_
                  refine X.last' 10 i229_9 rfl rfl (by decide) rfl (by omega) (fun hrm757 m757 hm757 => ?_)
                  have hJ758 := w45_19 hJ752 hm757 (by omega) hrm757
                  refine X.aload_n 11 i229_10 rfl rfl rfl ?_
                  refine X.bipush 13 i229_11 rfl rfl (by decide) ?_
                  refine X.iload_n 14 i229_13 rfl rfl rfl ?_
                  refine X.iadd 15 i229_14 rfl rfl (by omega) ?_
                  refine X.lconst (y := 0) 16 i229_15 rfl rfl rfl ?_
                  refine X.callv 19 [zi (10 + y1), zl 0] [] [(0, zr 4 44), (1, zi (10 + y1)), (2, zl 0)] i229_16 rfl (by decide) rfl rfl (by omega) rfl rfl (by decide) rfl t223 (Nat.le_of_ble_eq_true rfl) (Nat.le_of_ble_eq_true rfl) rfl ?_
                  refine c223_1 (B := B + 1)  (10 + y1) 0 (by omega) (hJ758.up (by omega)) (by omega) (by omega) (by omega) (fun m759 hJ760 => ?_)
                  show X (EE s) (d - 1) 229 19 [(0, zr 4 44), (1, zi y1)] [] m759 _
                  refine X.retv i229_19 rfl t229 ?_
                  show X (EE s) d 224 136 [(0, zr 4 44), (1, zi y1), (2, zi v725)] [] m759 _
                  refine X.cut [(0, zr 4 44), (1, zi y1)] i224_136 rfl ?_
                  refine X.iinc 139 [(0, zr 4 44), (1, zi (y1 + 1))] i224_136 rfl rfl rfl (by omega) rfl ?_
                  refine X.goto 2 i224_139 rfl rfl ?_
                  exact ih (y1 + 1) m759 (B + 2) (hJ760.up (by omega)) (by omega)  (by omega) (by omega)
          · refine X.aload_n 49 i224_48 rfl rfl rfl ?_
            refine X.getF 52 i224_49 rfl rfl (by decide) rfl rfl ?_
            refine X.bipush 54 i224_52 rfl rfl (by decide) ?_
            refine X.iload_n 55 i224_54 rfl rfl rfl ?_
            refine X.iadd 56 i224_55 rfl rfl (by omega) ?_
            refine X.lald 57 i224_56 rfl rfl (by decide) rfl (by omega) ?_
            refine X.lconst (y := 1) 58 i224_57 rfl rfl rfl ?_
            refine X.llF 59 .ladd (fun x y => x + y) i224_58 rfl rfl rfl (fun _ _ => rfl) (fun z762 hz762 => ?_)
            refine X.goto 63 i224_59 rfl rfl ?_
            refine X.last' 64 i224_63 rfl rfl (by decide) rfl (by omega) (fun hrm763 m763 hm763 => ?_)
            have hJ764 := w45_19 hJ hm763 (by omega) hrm763
            refine X.aload_n 65 i224_64 rfl rfl rfl ?_
            refine X.getF 68 i224_65 rfl rfl (by decide) rfl rfl ?_
            refine X.bipush 70 i224_68 rfl rfl (by decide) ?_
            refine X.iload_n 71 i224_70 rfl rfl rfl ?_
            refine X.iadd 72 i224_71 rfl rfl (by omega) ?_
            refine X.lald 73 i224_72 rfl rfl (by decide) rfl (by omega) ?_
            refine X.aload_n 74 i224_73 rfl rfl rfl ?_
            refine X.getF 77 i224_74 rfl rfl (by decide) rfl rfl ?_
            refine X.bipush 79 i224_77 rfl rfl (by decide) ?_
            refine X.lald 80 i224_79 rfl rfl (by decide) rfl (by omega) ?_
            refine X.lcmp 81 i224_80 rfl rfl (fun z765 hz765 => ?_)
            refine X.ifle 88 84 i224_81 rfl rfl rfl (fun h766 => ?_) (fun h766 => ?_)
            · have h766c : (m763 4 45 (55 + y1)) ≤ (m763 4 45 7) := by omega
              clear h766 hz765
              refine X.iconst 89 i224_88 rfl rfl (by decide) ?_
              refine X.istore_n 90 [(0, zr 4 44), (1, zi y1), (2, zi v725), (3, zi 0)] i224_89 rfl rfl rfl ?_
              refine X.iload_n 91 i224_90 rfl rfl rfl ?_
              refine X.ifeq 113 94 i224_91 rfl rfl rfl (fun h767 => ?_) (fun h767 => (by exfalso; omega))
              refine X.cut [(0, zr 4 44), (1, zi y1), (2, zi v725)] i224_113 rfl ?_
              refine X.iload_n 114 i224_113 rfl rfl rfl ?_
              refine X.ifne 136 117 i224_114 rfl rfl rfl (fun h768 => ?_) (fun h768 => (by exfalso; omega))
              refine X.cut [(0, zr 4 44), (1, zi y1)] i224_136 rfl ?_
              refine X.iinc 139 [(0, zr 4 44), (1, zi (y1 + 1))] i224_136 rfl rfl rfl (by omega) rfl ?_
              refine X.goto 2 i224_139 rfl rfl ?_
              exact ih (y1 + 1) m763 (B) (hJ764.up (by omega)) (by omega)  (by omega) (by omega)
            · have h766c : (m763 4 45 (55 + y1)) > (m763 4 45 7) := by omega
              clear h766 hz765
              refine X.iconst 85 i224_84 rfl rfl (by decide) ?_
              refine X.goto 89 i224_85 rfl rfl ?_
              refine X.istore_n 90 [(0, zr 4 44), (1, zi y1), (2, zi v725), (3, zi 1)] i224_89 rfl rfl rfl ?_
              refine X.iload_n 91 i224_90 rfl rfl rfl ?_
              refine X.ifeq 113 94 i224_91 rfl rfl rfl (fun h769 => (by exfalso; omega)) (fun h769 => ?_)
              refine X.aload_n 95 i224_94 rfl rfl rfl ?_
              refine X.getF 98 i224_95 rfl rfl (by decide) rfl rfl ?_
              refine X.bipush 100 i224_98 rfl rfl (by decide) ?_
              refine X.iload_n 101 i224_100 rfl rfl rfl ?_
              refine X.iadd 102 i224_101 rfl rfl (by omega) ?_
              refine X.lald 103 i224_102 rfl rfl (by decide) rfl (by omega) ?_
              refine X.lconst (y := 0) 104 i224_103 rfl rfl rfl ?_
              refine X.lcmp 105 i224_104 rfl rfl (fun z770 hz770 => ?_)
              refine X.ifne 113 108 i224_105 rfl rfl rfl (fun h771 => ?_) (fun h771 => ?_)
              · have h771c : (m763 4 45 (40 + y1)) ≠ 0 := by omega
                clear h771 hz770
                refine X.cut [(0, zr 4 44), (1, zi y1), (2, zi v725)] i224_113 rfl ?_
                refine X.iload_n 114 i224_113 rfl rfl rfl ?_
                refine X.ifne 136 117 i224_114 rfl rfl rfl (fun h772 => ?_) (fun h772 => (by exfalso; omega))
                refine X.cut [(0, zr 4 44), (1, zi y1)] i224_136 rfl ?_
                refine X.iinc 139 [(0, zr 4 44), (1, zi (y1 + 1))] i224_136 rfl rfl rfl (by omega) rfl ?_
                refine X.goto 2 i224_139 rfl rfl ?_
                exact ih (y1 + 1) m763 (B) (hJ764.up (by omega)) (by omega)  (by omega) (by omega)
              · have h771c : (m763 4 45 (40 + y1)) = 0 := by omega
                clear h771 hz770
                refine X.aload_n 109 i224_108 rfl rfl rfl ?_
                refine X.iload_n 110 i224_109 rfl rfl rfl ?_
                refine X.callv 113 [zi y1] [] [(0, zr 4 44), (1, zi y1)] i224_110 rfl (by decide) rfl rfl (by omega) rfl rfl (by decide) rfl t228 (Nat.le_of_ble_eq_true rfl) (Nat.le_of_ble_eq_true rfl) rfl ?_
                refine c228_2 (B := B)  y1 (by omega) (hJ764.up (by omega)) (by omega) (by omega) (fun m773 hJ774 => ?_)
                show X (EE s) d 224 113 [(0, zr 4 44), (1, zi y1), (2, zi v725), (3, zi 1)] [] m773 _
                refine X.cut [(0, zr 4 44), (1, zi y1), (2, zi v725)] i224_113 rfl ?_
                refine X.iload_n 114 i224_113 rfl rfl rfl ?_
                refine X.ifne 136 117 i224_114 rfl rfl rfl (fun h776 => ?_) (fun h776 => (by exfalso; omega))
                refine X.cut [(0, zr 4 44), (1, zi y1)] i224_136 rfl ?_
                refine X.iinc 139 [(0, zr 4 44), (1, zi (y1 + 1))] i224_136 rfl rfl rfl (by omega) rfl ?_
                refine X.goto 2 i224_139 rfl rfl ?_
                exact ih (y1 + 1) m773 (B + 1) (hJ774.up (by omega)) (by omega)  (by omega) (by omega)
      · refine X.aload_n 13 i224_12 rfl rfl rfl ?_
        refine X.callv 16 [] [] [(0, zr 4 44)] i224_13 rfl (by decide) rfl rfl (by omega) rfl rfl (by decide) rfl t225 (Nat.le_of_ble_eq_true rfl) (Nat.le_of_ble_eq_true rfl) rfl ?_
        refine c225_1 (B := B)   (by omega) (hJ.up (by omega)) (by omega)  (fun v779 hv779 => ?_)
        show X (EE s) d 224 16 [(0, zr 4 44), (1, zi y1)] [zi v779] m _
        refine X.goto 35 i224_16 rfl rfl ?_
        refine X.istore_n 36 [(0, zr 4 44), (1, zi y1), (2, zi v779)] i224_35 rfl rfl rfl ?_
        refine X.aload_n 37 i224_36 rfl rfl rfl ?_
        refine X.getF 40 i224_37 rfl rfl (by decide) rfl rfl ?_
        refine X.bipush 42 i224_40 rfl rfl (by decide) ?_
        refine X.iload_n 43 i224_42 rfl rfl rfl ?_
        refine X.iadd 44 i224_43 rfl rfl (by omega) ?_
        refine X.iload_n 45 i224_44 rfl rfl rfl ?_
        refine X.ifeq 62 48 i224_45 rfl rfl rfl (fun h780 => ?_) (fun h780 => ?_)
        · refine X.lconst (y := 0) 63 i224_62 rfl rfl rfl ?_
          refine X.last' 64 i224_63 rfl rfl (by decide) rfl (by omega) (fun hrm781 m781 hm781 => ?_)
          have hJ782 := w45_19 hJ hm781 (by omega) hrm781
          refine X.aload_n 65 i224_64 rfl rfl rfl ?_
          refine X.getF 68 i224_65 rfl rfl (by decide) rfl rfl ?_
          refine X.bipush 70 i224_68 rfl rfl (by decide) ?_
          refine X.iload_n 71 i224_70 rfl rfl rfl ?_
          refine X.iadd 72 i224_71 rfl rfl (by omega) ?_
          refine X.lald 73 i224_72 rfl rfl (by decide) rfl (by omega) ?_
          refine X.aload_n 74 i224_73 rfl rfl rfl ?_
          refine X.getF 77 i224_74 rfl rfl (by decide) rfl rfl ?_
          refine X.bipush 79 i224_77 rfl rfl (by decide) ?_
          refine X.lald 80 i224_79 rfl rfl (by decide) rfl (by omega) ?_
          refine X.lcmp 81 i224_80 rfl rfl (fun z783 hz783 => ?_)
          refine X.ifle 88 84 i224_81 rfl rfl rfl (fun h784 => ?_) (fun h784 => ?_)
          · have h784c : (m781 4 45 (55 + y1)) ≤ (m781 4 45 7) := by omega
            clear h784 hz783
            refine X.iconst 89 i224_88 rfl rfl (by decide) ?_
            refine X.istore_n 90 [(0, zr 4 44), (1, zi y1), (2, zi v779), (3, zi 0)] i224_89 rfl rfl rfl ?_
            refine X.iload_n 91 i224_90 rfl rfl rfl ?_
            refine X.ifeq 113 94 i224_91 rfl rfl rfl (fun h785 => ?_) (fun h785 => (by exfalso; omega))
            refine X.cut [(0, zr 4 44), (1, zi y1), (2, zi v779)] i224_113 rfl ?_
            refine X.iload_n 114 i224_113 rfl rfl rfl ?_
            refine X.ifne 136 117 i224_114 rfl rfl rfl (fun h786 => (by exfalso; omega)) (fun h786 => ?_)
            refine X.aload_n 118 i224_117 rfl rfl rfl ?_
            refine X.getF 121 i224_118 rfl rfl (by decide) rfl rfl ?_
            refine X.bipush 123 i224_121 rfl rfl (by decide) ?_
            refine X.iload_n 124 i224_123 rfl rfl rfl ?_
            refine X.iadd 125 i224_124 rfl rfl (by omega) ?_
            refine X.lald 126 i224_125 rfl rfl (by decide) rfl (by omega) ?_
            refine X.lconst (y := 1) 127 i224_126 rfl rfl rfl ?_
            refine X.lcmp 128 i224_127 rfl rfl (fun z787 hz787 => ?_)
            refine X.ifne 136 131 i224_128 rfl rfl rfl (fun h788 => ?_) (fun h788 => ?_)
            · have h788c : (m781 4 45 (40 + y1)) ≠ 1 := by omega
              clear h788 hz787
              refine X.cut [(0, zr 4 44), (1, zi y1)] i224_136 rfl ?_
              refine X.iinc 139 [(0, zr 4 44), (1, zi (y1 + 1))] i224_136 rfl rfl rfl (by omega) rfl ?_
              refine X.goto 2 i224_139 rfl rfl ?_
              exact ih (y1 + 1) m781 (B) (hJ782.up (by omega)) (by omega)  (by omega) (by omega)
            · have h788c : (m781 4 45 (40 + y1)) = 1 := by omega
              clear h788 hz787
              refine X.aload_n 132 i224_131 rfl rfl rfl ?_
              refine X.iload_n 133 i224_132 rfl rfl rfl ?_
              refine X.callv 136 [zi y1] [] [(0, zr 4 44), (1, zi y1)] i224_133 rfl (by decide) rfl rfl (by omega) rfl rfl (by decide) rfl t229 (Nat.le_of_ble_eq_true rfl) (Nat.le_of_ble_eq_true rfl) rfl ?_
              refine X.aload_n 1 i229_0 rfl rfl rfl ?_
              refine X.getF 4 i229_1 rfl rfl (by decide) rfl rfl ?_
              refine X.bipush 6 i229_4 rfl rfl (by decide) ?_
              refine X.iload_n 7 i229_6 rfl rfl rfl ?_
              refine X.iadd 8 i229_7 rfl rfl (by omega) ?_
              refine X.lconst (y := 0) 9 i229_8 rfl rfl rfl ?_
              refine X.last' 10 i229_9 rfl rfl (by decide) rfl (by omega) (fun hrm789 m789 hm789 => ?_)
              have hJ790 := w45_19 hJ782 hm789 (by omega) hrm789
              refine X.aload_n 11 i229_10 rfl rfl rfl ?_
              refine X.bipush 13 i229_11 rfl rfl (by decide) ?_
              refine X.iload_n 14 i229_13 rfl rfl rfl ?_
              refine X.iadd 15 i229_14 rfl rfl (by omega) ?_
              refine X.lconst (y := 0) 16 i229_15 rfl rfl rfl ?_
              refine X.callv 19 [zi (10 + y1), zl 0] [] [(0, zr 4 44), (1, zi (10 + y1)), (2, zl 0)] i229_16 rfl (by decide) rfl rfl (by omega) rfl rfl (by decide) rfl t223 (Nat.le_of_ble_eq_true rfl) (Nat.le_of_ble_eq_true rfl) rfl ?_
              refine c223_1 (B := B)  (10 + y1) 0 (by omega) (hJ790.up (by omega)) (by omega) (by omega) (by omega) (fun m791 hJ792 => ?_)
              show X (EE s) (d - 1) 229 19 [(0, zr 4 44), (1, zi y1)] [] m791 _
              refine X.retv i229_19 rfl t229 ?_
              show X (EE s) d 224 136 [(0, zr 4 44), (1, zi y1), (2, zi v779)] [] m791 _
              refine X.cut [(0, zr 4 44), (1, zi y1)] i224_136 rfl ?_
              refine X.iinc 139 [(0, zr 4 44), (1, zi (y1 + 1))] i224_136 rfl rfl rfl (by omega) rfl ?_
              refine X.goto 2 i224_139 rfl rfl ?_
              exact ih (y1 + 1) m791 (B + 1) (hJ792.up (by omega)) (by omega)  (by omega) (by omega)
          · have h784c : (m781 4 45 (55 + y1)) > (m781 4 45 7) := by omega
            clear h784 hz783
            refine X.iconst 85 i224_84 rfl rfl (by decide) ?_
            refine X.goto 89 i224_85 rfl rfl ?_
            refine X.istore_n 90 [(0, zr 4 44), (1, zi y1), (2, zi v779), (3, zi 1)] i224_89 rfl rfl rfl ?_
            refine X.iload_n 91 i224_90 rfl rfl rfl ?_
            refine X.ifeq 113 94 i224_91 rfl rfl rfl (fun h794 => (by exfalso; omega)) (fun h794 => ?_)
            refine X.aload_n 95 i224_94 rfl rfl rfl ?_
            refine X.getF 98 i224_95 rfl rfl (by decide) rfl rfl ?_
            refine X.bipush 100 i224_98 rfl rfl (by decide) ?_
            refine X.iload_n 101 i224_100 rfl rfl rfl ?_
            refine X.iadd 102 i224_101 rfl rfl (by omega) ?_
            refine X.lald 103 i224_102 rfl rfl (by decide) rfl (by omega) ?_
            refine X.lconst (y := 0) 104 i224_103 rfl rfl rfl ?_
            refine X.lcmp 105 i224_104 rfl rfl (fun z795 hz795 => ?_)
            refine X.ifne 113 108 i224_105 rfl rfl rfl (fun h796 => ?_) (fun h796 => ?_)
            · have h796c : (m781 4 45 (40 + y1)) ≠ 0 := by omega
              clear h796 hz795
              refine X.cut [(0, zr 4 44), (1, zi y1), (2, zi v779)] i224_113 rfl ?_
              refine X.iload_n 114 i224_113 rfl rfl rfl ?_
              refine X.ifne 136 117 i224_114 rfl rfl rfl (fun h797 => (by exfalso; omega)) (fun h797 => ?_)
              refine X.aload_n 118 i224_117 rfl rfl rfl ?_
              refine X.getF 121 i224_118 rfl rfl (by decide) rfl rfl ?_
              refine X.bipush 123 i224_121 rfl rfl (by decide) ?_
              refine X.iload_n 124 i224_123 rfl rfl rfl ?_
              refine X.iadd 125 i224_124 rfl rfl (by omega) ?_
              refine X.lald 126 i224_125 rfl rfl (by decide) rfl (by omega) ?_
              refine X.lconst (y := 1) 127 i224_126 rfl rfl rfl ?_
              refine X.lcmp 128 i224_127 rfl rfl (fun z798 hz798 => ?_)
              refine X.ifne 136 131 i224_128 rfl rfl rfl (fun h799 => ?_) (fun h799 => ?_)
              · have h799c : (m781 4 45 (40 + y1)) ≠ 1 := by omega
                clear h799 hz798
                refine X.cut [(0, zr 4 44), (1, zi y1)] i224_136 rfl ?_
                refine X.iinc 139 [(0, zr 4 44), (1, zi (y1 + 1))] i224_136 rfl rfl rfl (by omega) rfl ?_
                refine X.goto 2 i224_139 rfl rfl ?_
                exact ih (y1 + 1) m781 (B) (hJ782.up (by omega)) (by omega)  (by omega) (by omega)
              · have h799c : (m781 4 45 (40 + y1)) = 1 := by omega
                clear h799 hz798
                refine X.aload_n 132 i224_131 rfl rfl rfl ?_
                refine X.iload_n 133 i224_132 rfl rfl rfl ?_
                refine X.callv 136 [zi y1] [] [(0, zr 4 44), (1, zi y1)] i224_133 rfl (by decide) rfl rfl (by omega) rfl rfl (by decide) rfl t229 (Nat.le_of_ble_eq_true rfl) (Nat.le_of_ble_eq_true rfl) rfl ?_
                refine X.aload_n 1 i229_0 rfl rfl rfl ?_
                refine X.getF 4 i229_1 rfl rfl (by decide) rfl rfl ?_
                refine X.bipush 6 i229_4 rfl rfl (by decide) ?_
                refine X.iload_n 7 i229_6 rfl rfl rfl ?_
                refine X.iadd 8 i229_7 rfl rfl (by omega) ?_
                refine X.lconst (y := 0) 9 i229_8 rfl rfl rfl ?_
                refine X.last' 10 i229_9 rfl rfl (by decide) rfl (by omega) (fun hrm800 m800 hm800 => ?_)
                have hJ801 := w45_19 hJ782 hm800 (by omega) hrm800
                refine X.aload_n 11 i229_10 rfl rfl rfl ?_
                refine X.bipush 13 i229_11 rfl rfl (by decide) ?_
                refine X.iload_n 14 i229_13 rfl rfl rfl ?_
                refine X.iadd 15 i229_14 rfl rfl (by omega) ?_
                refine X.lconst (y := 0) 16 i229_15 rfl rfl rfl ?_
                refine X.callv 19 [zi (10 + y1), zl 0] [] [(0, zr 4 44), (1, zi (10 + y1)), (2, zl 0)] i229_16 rfl (by decide) rfl rfl (by omega) rfl rfl (by decide) rfl t223 (Nat.le_of_ble_eq_true rfl) (Nat.le_of_ble_eq_true rfl) rfl ?_
                refine c223_1 (B := B)  (10 + y1) 0 (by omega) (hJ801.up (by omega)) (by omega) (by omega) (by omega) (fun m802 hJ803 => ?_)
                show X (EE s) (d - 1) 229 19 [(0, zr 4 44), (1, zi y1)] [] m802 _
                refine X.retv i229_19 rfl t229 ?_
                show X (EE s) d 224 136 [(0, zr 4 44), (1, zi y1), (2, zi v779)] [] m802 _
                refine X.cut [(0, zr 4 44), (1, zi y1)] i224_136 rfl ?_
                refine X.iinc 139 [(0, zr 4 44), (1, zi (y1 + 1))] i224_136 rfl rfl rfl (by omega) rfl ?_
                refine X.goto 2 i224_139 rfl rfl ?_
                exact ih (y1 + 1) m802 (B + 1) (hJ803.up (by omega)) (by omega)  (by omega) (by omega)
            · have h796c : (m781 4 45 (40 + y1)) = 0 := by omega
              clear h796 hz795
              refine X.aload_n 109 i224_108 rfl rfl rfl ?_
              refine X.iload_n 110 i224_109 rfl rfl rfl ?_
              refine X.callv 113 [zi y1] [] [(0, zr 4 44), (1, zi y1)] i224_110 rfl (by decide) rfl rfl (by omega) rfl rfl (by decide) rfl t228 (Nat.le_of_ble_eq_true rfl) (Nat.le_of_ble_eq_true rfl) rfl ?_
              refine c228_3 (B := B)  y1 (by omega) (hJ782.up (by omega)) (by omega) (by omega) (fun m805 hJ806 => ?_)
              show X (EE s) d 224 113 [(0, zr 4 44), (1, zi y1), (2, zi v779), (3, zi 1)] [] m805 _
              refine X.cut [(0, zr 4 44), (1, zi y1), (2, zi v779)] i224_113 rfl ?_
              refine X.iload_n 114 i224_113 rfl rfl rfl ?_
              refine X.ifne 136 117 i224_114 rfl rfl rfl (fun h808 => (by exfalso; omega)) (fun h808 => ?_)
              refine X.aload_n 118 i224_117 rfl rfl rfl ?_
              refine X.getF 121 i224_118 rfl rfl (by decide) rfl rfl ?_
              refine X.bipush 123 i224_121 rfl rfl (by decide) ?_
              refine X.iload_n 124 i224_123 rfl rfl rfl ?_
              refine X.iadd 125 i224_124 rfl rfl (by omega) ?_
              refine X.lald 126 i224_125 rfl rfl (by decide) rfl (by omega) ?_
              refine X.lconst (y := 1) 127 i224_126 rfl rfl rfl ?_
              refine X.lcmp 128 i224_127 rfl rfl (fun z809 hz809 => ?_)
              refine X.ifne 136 131 i224_128 rfl rfl rfl (fun h810 => ?_) (fun h810 => ?_)
              · have h810c : (m805 4 45 (40 + y1)) ≠ 1 := by omega
                clear h810 hz809
                refine X.cut [(0, zr 4 44), (1, zi y1)] i224_136 rfl ?_
                refine X.iinc 139 [(0, zr 4 44), (1, zi (y1 + 1))] i224_136 rfl rfl rfl (by omega) rfl ?_
                refine X.goto 2 i224_139 rfl rfl ?_
                exact ih (y1 + 1) m805 (B + 1) (hJ806.up (by omega)) (by omega)  (by omega) (by omega)
              · have h810c : (m805 4 45 (40 + y1)) = 1 := by omega
                clear h810 hz809
                refine X.aload_n 132 i224_131 rfl rfl rfl ?_
                refine X.iload_n 133 i224_132 rfl rfl rfl ?_
                refine X.callv 136 [zi y1] [] [(0, zr 4 44), (1, zi y1)] i224_133 rfl (by decide) rfl rfl (by omega) rfl rfl (by decide) rfl t229 (Nat.le_of_ble_eq_true rfl) (Nat.le_of_ble_eq_true rfl) rfl ?_
                refine X.aload_n 1 i229_0 rfl rfl rfl ?_
                refine X.getF 4 i229_1 rfl rfl (by decide) rfl rfl ?_
                refine X.bipush 6 i229_4 rfl rfl (by decide) ?_
                refine X.iload_n 7 i229_6 rfl rfl rfl ?_
                refine X.iadd 8 i229_7 rfl rfl (by omega) ?_
                refine X.lconst (y := 0) 9 i229_8 rfl rfl rfl ?_
                refine X.last' 10 i229_9 rfl rfl (by decide) rfl (by omega) (fun hrm811 m811 hm811 => ?_)
                have hJ812 := w45_19 hJ806 hm811 (by omega) hrm811
                refine X.aload_n 11 i229_10 rfl rfl rfl ?_
                refine X.bipush 13 i229_11 rfl rfl (by decide) ?_
                refine X.iload_n 14 i229_13 rfl rfl rfl ?_
                refine X.iadd 15 i229_14 rfl rfl (by omega) ?_
                refine X.lconst (y := 0) 16 i229_15 rfl rfl rfl ?_
                refine X.callv 19 [zi (10 + y1), zl 0] [] [(0, zr 4 44), (1, zi (10 + y1)), (2, zl 0)] i229_16 rfl (by decide) rfl rfl (by omega) rfl rfl (by decide) rfl t223 (Nat.le_of_ble_eq_true rfl) (Nat.le_of_ble_eq_true rfl) rfl ?_
                refine c223_1 (B := B + 1)  (10 + y1) 0 (by omega) (hJ812.up (by omega)) (by omega) (by omega) (by omega) (fun m813 hJ814 => ?_)
                show X (EE s) (d - 1) 229 19 [(0, zr 4 44), (1, zi y1)] [] m813 _
                refine X.retv i229_19 rfl t229 ?_
                show X (EE s) d 224 136 [(0, zr 4 44), (1, zi y1), (2, zi v779)] [] m813 _
                refine X.cut [(0, zr 4 44), (1, zi y1)] i224_136 rfl ?_
                refine X.iinc 139 [(0, zr 4 44), (1, zi (y1 + 1))] i224_136 rfl rfl rfl (by omega) rfl ?_
                refine X.goto 2 i224_139 rfl rfl ?_
                exact ih (y1 + 1) m813 (B + 2) (hJ814.up (by omega)) (by omega)  (by omega) (by omega)
        · refine X.aload_n 49 i224_48 rfl rfl rfl ?_
          refine X.getF 52 i224_49 rfl rfl (by decide) rfl rfl ?_
          refine X.bipush 54 i224_52 rfl rfl (by decide) ?_
          refine X.iload_n 55 i224_54 rfl rfl rfl ?_
          refine X.iadd 56 i224_55 rfl rfl (by omega) ?_
          refine X.lald 57 i224_56 rfl rfl (by decide) rfl (by omega) ?_
          refine X.lconst (y := 1) 58 i224_57 rfl rfl rfl ?_
          refine X.llF 59 .ladd (fun x y => x + y) i224_58 rfl rfl rfl (fun _ _ => rfl) (fun z816 hz816 => ?_)
          refine X.goto 63 i224_59 rfl rfl ?_
          refine X.last' 64 i224_63 rfl rfl (by decide) rfl (by omega) (fun hrm817 m817 hm817 => ?_)
          have hJ818 := w45_19 hJ hm817 (by omega) hrm817
          refine X.aload_n 65 i224_64 rfl rfl rfl ?_
          refine X.getF 68 i224_65 rfl rfl (by decide) rfl rfl ?_
          refine X.bipush 70 i224_68 rfl rfl (by decide) ?_
          refine X.iload_n 71 i224_70 rfl rfl rfl ?_
          refine X.iadd 72 i224_71 rfl rfl (by omega) ?_
          refine X.lald 73 i224_72 rfl rfl (by decide) rfl (by omega) ?_
          refine X.aload_n 74 i224_73 rfl rfl rfl ?_
          refine X.getF 77 i224_74 rfl rfl (by decide) rfl rfl ?_
          refine X.bipush 79 i224_77 rfl rfl (by decide) ?_
          refine X.lald 80 i224_79 rfl rfl (by decide) rfl (by omega) ?_
          refine X.lcmp 81 i224_80 rfl rfl (fun z819 hz819 => ?_)
          refine X.ifle 88 84 i224_81 rfl rfl rfl (fun h820 => ?_) (fun h820 => ?_)
          · have h820c : (m817 4 45 (55 + y1)) ≤ (m817 4 45 7) := by omega
            clear h820 hz819
            refine X.iconst 89 i224_88 rfl rfl (by decide) ?_
            refine X.istore_n 90 [(0, zr 4 44), (1, zi y1), (2, zi v779), (3, zi 0)] i224_89 rfl rfl rfl ?_
            refine X.iload_n 91 i224_90 rfl rfl rfl ?_
            refine X.ifeq 113 94 i224_91 rfl rfl rfl (fun h821 => ?_) (fun h821 => (by exfalso; omega))
            refine X.cut [(0, zr 4 44), (1, zi y1), (2, zi v779)] i224_113 rfl ?_
            refine X.iload_n 114 i224_113 rfl rfl rfl ?_
            refine X.ifne 136 117 i224_114 rfl rfl rfl (fun h822 => ?_) (fun h822 => (by exfalso; omega))
            refine X.cut [(0, zr 4 44), (1, zi y1)] i224_136 rfl ?_
            refine X.iinc 139 [(0, zr 4 44), (1, zi (y1 + 1))] i224_136 rfl rfl rfl (by omega) rfl ?_
            refine X.goto 2 i224_139 rfl rfl ?_
            exact ih (y1 + 1) m817 (B) (hJ818.up (by omega)) (by omega)  (by omega) (by omega)
          · have h820c : (m817 4 45 (55 + y1)) > (m817 4 45 7) := by omega
            clear h820 hz819
            refine X.iconst 85 i224_84 rfl rfl (by decide) ?_
            refine X.goto 89 i224_85 rfl rfl ?_
            refine X.istore_n 90 [(0, zr 4 44), (1, zi y1), (2, zi v779), (3, zi 1)] i224_89 rfl rfl rfl ?_
            refine X.iload_n 91 i224_90 rfl rfl rfl ?_
            refine X.ifeq 113 94 i224_91 rfl rfl rfl (fun h823 => (by exfalso; omega)) (fun h823 => ?_)
            refine X.aload_n 95 i224_94 rfl rfl rfl ?_
            refine X.getF 98 i224_95 rfl rfl (by decide) rfl rfl ?_
            refine X.bipush 100 i224_98 rfl rfl (by decide) ?_
            refine X.iload_n 101 i224_100 rfl rfl rfl ?_
            refine X.iadd 102 i224_101 rfl rfl (by omega) ?_
            refine X.lald 103 i224_102 rfl rfl (by decide) rfl (by omega) ?_
            refine X.lconst (y := 0) 104 i224_103 rfl rfl rfl ?_
            refine X.lcmp 105 i224_104 rfl rfl (fun z824 hz824 => ?_)
            refine X.ifne 113 108 i224_105 rfl rfl rfl (fun h825 => ?_) (fun h825 => ?_)
            · have h825c : (m817 4 45 (40 + y1)) ≠ 0 := by omega
              clear h825 hz824
              refine X.cut [(0, zr 4 44), (1, zi y1), (2, zi v779)] i224_113 rfl ?_
              refine X.iload_n 114 i224_113 rfl rfl rfl ?_
              refine X.ifne 136 117 i224_114 rfl rfl rfl (fun h826 => ?_) (fun h826 => (by exfalso; omega))
              refine X.cut [(0, zr 4 44), (1, zi y1)] i224_136 rfl ?_
              refine X.iinc 139 [(0, zr 4 44), (1, zi (y1 + 1))] i224_136 rfl rfl rfl (by omega) rfl ?_
              refine X.goto 2 i224_139 rfl rfl ?_
              exact ih (y1 + 1) m817 (B) (hJ818.up (by omega)) (by omega)  (by omega) (by omega)
            · have h825c : (m817 4 45 (40 + y1)) = 0 := by omega
              clear h825 hz824
              refine X.aload_n 109 i224_108 rfl rfl rfl ?_
              refine X.iload_n 110 i224_109 rfl rfl rfl ?_
              refine X.callv 113 [zi y1] [] [(0, zr 4 44), (1, zi y1)] i224_110 rfl (by decide) rfl rfl (by omega) rfl rfl (by decide) rfl t228 (Nat.le_of_ble_eq_true rfl) (Nat.le_of_ble_eq_true rfl) rfl ?_
              refine c228_3 (B := B)  y1 (by omega) (hJ818.up (by omega)) (by omega) (by omega) (fun m827 hJ828 => ?_)
              show X (EE s) d 224 113 [(0, zr 4 44), (1, zi y1), (2, zi v779), (3, zi 1)] [] m827 _
              refine X.cut [(0, zr 4 44), (1, zi y1), (2, zi v779)] i224_113 rfl ?_
              refine X.iload_n 114 i224_113 rfl rfl rfl ?_
              refine X.ifne 136 117 i224_114 rfl rfl rfl (fun h830 => ?_) (fun h830 => (by exfalso; omega))
              refine X.cut [(0, zr 4 44), (1, zi y1)] i224_136 rfl ?_
              refine X.iinc 139 [(0, zr 4 44), (1, zi (y1 + 1))] i224_136 rfl rfl rfl (by omega) rfl ?_
              refine X.goto 2 i224_139 rfl rfl ?_
              exact ih (y1 + 1) m827 (B + 1) (hJ828.up (by omega)) (by omega)  (by omega) (by omega)
theorem l224_144_1 {s : Nat × (Nat → Int32)} {S : zS} {m0 : zM} {d : Nat} {Q : Option zV → zM → Prop} (BE : Int) (hE : BE ≤ 1000000000) (hd : 13 ≤ d)
    (K176 : ∀ (m' : zM) (B' : Int), J S m0 B' m' → B' ≤ BE → X (EE s) d 224 176 [] [] m' Q) :
    ∀ (n : Nat) (y1 : Int) (m : zM) (B : Int), J S m0 B m → B + 0 * (n : Int) ≤ BE → (0 ≤ y1 ∧ y1 ≤ 5) → 5 - y1 < (n : Int) → X (EE s) d 224 144 [(0, zr 4 44), (1, zi y1)] [] m Q := by
  intro n
  induction n with
  | zero =>
    intro y1 m B hJ hB  hy1 hn
    exfalso
    omega
  | succ n ih =>
    intro y1 m B hJ hB  hy1 hn
    refine X.iload_n 145 i224_144 rfl rfl rfl ?_
    refine X.iconst 146 i224_145 rfl rfl (by decide) ?_
    refine X.icmpge 176 149 i224_146 rfl rfl rfl (fun h505 => ?_) (fun h505 => ?_)
    · refine X.cut [] i224_176 rfl ?_
      exact K176  m (B) (hJ.up (by omega)) (by omega)  
    · refine X.aload_n 150 i224_149 rfl rfl rfl ?_
      refine X.getF 153 i224_150 rfl rfl (by decide) rfl rfl ?_
      refine X.bipush 155 i224_153 rfl rfl (by decide) ?_
      refine X.iload_n 156 i224_155 rfl rfl rfl ?_
      refine X.iadd 157 i224_156 rfl rfl (by omega) ?_
      refine X.dup2 158 i224_157 rfl rfl ?_
      refine X.lald 159 i224_158 rfl rfl (by decide) rfl (by omega) ?_
      refine X.aload_n 160 i224_159 rfl rfl rfl ?_
      refine X.getF 163 i224_160 rfl rfl (by decide) rfl rfl ?_
      refine X.bipush 165 i224_163 rfl rfl (by decide) ?_
      refine X.iload_n 166 i224_165 rfl rfl rfl ?_
      refine X.iadd 167 i224_166 rfl rfl (by omega) ?_
      refine X.lald 168 i224_167 rfl rfl (by decide) rfl (by omega) ?_
      refine X.llF 169 .ladd (fun x y => x + y) i224_168 rfl rfl rfl (fun _ _ => rfl) (fun z506 hz506 => ?_)
      refine X.last' 170 i224_169 rfl rfl (by decide) rfl (by omega) (fun hrm507 m507 hm507 => ?_)
      have hJ508 := w45_19 hJ hm507 (by omega) hrm507
      refine X.iinc 173 [(0, zr 4 44), (1, zi (y1 + 1))] i224_170 rfl rfl rfl (by omega) rfl ?_
      refine X.goto 144 i224_173 rfl rfl ?_
      exact ih (y1 + 1) m507 (B) (hJ508.up (by omega)) (by omega)  (by omega) (by omega)
-- WorkMeterModel.marks
theorem c224_1 {s : Nat × (Nat → Int32)} {S : zS} {m0 m : zM} {B : Int} {d : Nat} {Q : Option zV → zM → Prop} (hd : 15 ≤ d) (hJ : J S m0 B m) (hB : B + 8 ≤ 1000000000) (hQ : ∀ m', J S m0 (B + 8) m' → Q none m') : X (EE s) d 224 0 [(0, zr 4 44)] [] m Q := by
  refine X.iconst 1 i224_0 rfl rfl (by decide) ?_
  refine X.istore_n 2 [(0, zr 4 44), (1, zi 2)] i224_1 rfl rfl rfl ?_
  refine l224_2_1 (s := s) (S := S) (m0 := m0) (d := d)   (BE := B + 8) (by omega) (by omega) (fun  m501 B502 hJ503 hBB502 => ?_) ((5 - 2 : Int).toNat + 1) 2 m (B) (hJ.up (by omega)) (by omega)  (by omega) (by omega)
  refine X.iconst 143 i224_142 rfl rfl (by decide) ?_
  refine X.istore_n 144 [(0, zr 4 44), (1, zi 0)] i224_143 rfl rfl rfl ?_
  refine l224_144_1 (s := s) (S := S) (m0 := m0) (d := d)   (BE := B502 + 0) (by omega) (by omega) (fun  m504 B505 hJ506 hBB505 => ?_) ((5 - 0 : Int).toNat + 1) 0 m501 (B502) (hJ503.up (by omega)) (by omega)  (by omega) (by omega)
  refine X.retv i224_176 rfl t224 ?_
  exact hQ  m504  (hJ506.up (by omega)) 
theorem l231_4_1 {s : Nat × (Nat → Int32)} {S : zS} {m0 m : zM} {B : Int} {d : Nat} {Q : Option zV → zM → Prop} (hd : 13 ≤ d) (hJ : J S m0 B m) (hB9 : B ≤ 1000000000)
    (K29 : ∀ (x1 : Int) , (True) → X (EE s) d 231 29 [(1, zl x1)] [] m Q) :
    ∀ (n : Nat) (y1 y3 : Int) , (0 ≤ y3 ∧ y3 ≤ 5) → 5 - y3 < (n : Int) → X (EE s) d 231 4 [(0, zr 4 44), (1, zl y1), (3, zi y3)] [] m Q := by
  intro n
  induction n with
  | zero =>
    intro y1 y3 hy3 hn
    exfalso
    omega
  | succ n ih =>
    intro y1 y3 hy3 hn
    refine X.iload_n 5 i231_4 rfl rfl rfl ?_
    refine X.iconst 6 i231_5 rfl rfl (by decide) ?_
    refine X.icmpge 29 9 i231_6 rfl rfl rfl (fun h507 => ?_) (fun h507 => ?_)
    · refine X.cut [(1, zl y1)] i231_29 rfl ?_
      exact K29 y1 (by first | trivial | omega)
    · refine X.lload_n 10 i231_9 rfl rfl rfl ?_
      refine X.aload_n 11 i231_10 rfl rfl rfl ?_
      refine X.getF 14 i231_11 rfl rfl (by decide) rfl rfl ?_
      refine X.bipush 16 i231_14 rfl rfl (by decide) ?_
      refine X.iload_n 17 i231_16 rfl rfl rfl ?_
      refine X.iadd 18 i231_17 rfl rfl (by omega) ?_
      refine X.lald 19 i231_18 rfl rfl (by decide) rfl (by omega) ?_
      refine X.iload_n 20 i231_19 rfl rfl rfl ?_
      refine X.lshlF 21 i231_20 rfl rfl (fun z508 hz508 => ?_)
      refine X.llF 22 .lor (fun x y => x ||| y) i231_21 rfl rfl rfl (fun _ _ => rfl) (fun z509 hz509 => ?_)
      refine X.lstore_n 23 [(0, zr 4 44), (1, zl z509), (3, zi y3)] i231_22 rfl rfl rfl ?_
      refine X.iinc 26 [(0, zr 4 44), (1, zl z509), (3, zi (y3 + 1))] i231_23 rfl rfl rfl (by omega) rfl ?_
      refine X.goto 4 i231_26 rfl rfl ?_
      exact ih z509 (y3 + 1) (by omega) (by omega)
-- WorkMeterModel.marksOn
theorem c231_1 {s : Nat × (Nat → Int32)} {S : zS} {m0 m : zM} {B : Int} {d : Nat} {Q : Option zV → zM → Prop} (hd : 13 ≤ d) (hJ : J S m0 B m) (hB : B + 0 ≤ 1000000000) (hQ : ∀ (v : Int), (True) → Q (some (zl v)) m) : X (EE s) d 231 0 [(0, zr 4 44)] [] m Q := by
  refine X.lconst (y := 0) 1 i231_0 rfl rfl rfl ?_
  refine X.lstore_n 2 [(0, zr 4 44), (1, zl 0)] i231_1 rfl rfl rfl ?_
  refine X.iconst 3 i231_2 rfl rfl (by decide) ?_
  refine X.istore_n 4 [(0, zr 4 44), (1, zl 0), (3, zi 0)] i231_3 rfl rfl rfl ?_
  refine l231_4_1 (s := s) (S := S) (m0 := m0) (m := m) (B := B) (d := d)   (by omega) (hJ.up (by omega)) (by omega) (fun y501 hby501 => ?_) ((5 - 0 : Int).toNat + 1) 0 0 (by omega) (by omega)
  refine X.lload_n 30 i231_29 rfl rfl rfl ?_
  refine X.retl i231_30 rfl t231 ?_
  exact hQ y501 (by first | trivial | omega) 
theorem l233_3_1 {s : Nat × (Nat → Int32)} {S : zS} {m0 : zM} {d : Nat} {Q : Option zV → zM → Prop} (BE : Int) (hE : BE ≤ 1000000000) (hd : 13 ≤ d)
    (K22 : ∀ (m' : zM) (B' : Int), J S m0 B' m' → B' ≤ BE → X (EE s) d 233 22 [(0, zr 4 44)] [] m' Q) :
    ∀ (n : Nat) (y1 : Int) (m : zM) (B : Int), J S m0 B m → B + 0 * (n : Int) ≤ BE → (22 ≤ y1 ∧ y1 ≤ 28) → 28 - y1 < (n : Int) → X (EE s) d 233 3 [(0, zr 4 44), (1, zi y1)] [] m Q := by
  intro n
  induction n with
  | zero =>
    intro y1 m B hJ hB  hy1 hn
    exfalso
    omega
  | succ n ih =>
    intro y1 m B hJ hB  hy1 hn
    refine X.iload_n 4 i233_3 rfl rfl rfl ?_
    refine X.bipush 6 i233_4 rfl rfl (by decide) ?_
    refine X.icmpgt 22 9 i233_6 rfl rfl rfl (fun h504 => ?_) (fun h504 => ?_)
    · refine X.cut [(0, zr 4 44)] i233_22 rfl ?_
      exact K22  m (B) (hJ.up (by omega)) (by omega)  
    · refine X.aload_n 10 i233_9 rfl rfl rfl ?_
      refine X.getF 13 i233_10 rfl rfl (by decide) rfl rfl ?_
      refine X.iload_n 14 i233_13 rfl rfl rfl ?_
      refine X.lconst (y := 0) 15 i233_14 rfl rfl rfl ?_
      refine X.last' 16 i233_15 rfl rfl (by decide) rfl (by omega) (fun hrm505 m505 hm505 => ?_)
      have hJ506 := w45_19 hJ hm505 (by omega) hrm505
      refine X.iinc 19 [(0, zr 4 44), (1, zi (y1 + 1))] i233_16 rfl rfl rfl (by omega) rfl ?_
      refine X.goto 3 i233_19 rfl rfl ?_
      exact ih (y1 + 1) m505 (B) (hJ506.up (by omega)) (by omega)  (by omega) (by omega)
-- WorkMeterModel.beginsBlock
theorem c233_1 {s : Nat × (Nat → Int32)} {S : zS} {m0 m : zM} {B : Int} {d : Nat} {Q : Option zV → zM → Prop} (hd : 13 ≤ d) (hJ : J S m0 B m) (hB : B + 0 ≤ 1000000000) (hQ : ∀ m', J S m0 (B) m' → Q none m') : X (EE s) d 233 0 [(0, zr 4 44)] [] m Q := by
  refine X.bipush 2 i233_0 rfl rfl (by decide) ?_
  refine X.istore_n 3 [(0, zr 4 44), (1, zi 22)] i233_2 rfl rfl rfl ?_
  refine l233_3_1 (s := s) (S := S) (m0 := m0) (d := d)   (BE := B + 0) (by omega) (by omega) (fun  m501 B502 hJ503 hBB502 => ?_) ((28 - 22 : Int).toNat + 1) 22 m (B) (hJ.up (by omega)) (by omega)  (by omega) (by omega)
  refine X.aload_n 23 i233_22 rfl rfl rfl ?_
  refine X.getF 26 i233_23 rfl rfl (by decide) rfl rfl ?_
  refine X.bipush 28 i233_26 rfl rfl (by decide) ?_
  refine X.aload_n 29 i233_28 rfl rfl rfl ?_
  refine X.getF 32 i233_29 rfl rfl (by decide) rfl rfl ?_
  refine X.iconst 33 i233_32 rfl rfl (by decide) ?_
  refine X.lald 34 i233_33 rfl rfl (by decide) rfl (by omega) ?_
  have h504 := r45_0 hJ503 4
  refine X.aload_n 35 i233_34 rfl rfl rfl ?_
  refine X.getF 38 i233_35 rfl rfl (by decide) rfl rfl ?_
  refine X.bipush 40 i233_38 rfl rfl (by decide) ?_
  refine X.lald 41 i233_40 rfl rfl (by decide) rfl (by omega) ?_
  have h505 := r45_8 hJ503 4
  refine X.lremp 42 i233_41 rfl rfl (by omega) ?_
  have hz506 := z_modb (x := (m501 4 45 0)) (y := (m501 4 45 8)) (by omega) (by omega)
  obtain ⟨z506, ez506⟩ : ∃ z, z = ((m501 4 45 0) % (m501 4 45 8)) := ⟨_, rfl⟩
  rw [← ez506] at hz506 ⊢
  clear ez506
  refine X.lconst (y := 0) 43 i233_42 rfl rfl rfl ?_
  refine X.lcmp 44 i233_43 rfl rfl (fun z507 hz507 => ?_)
  refine X.ifne 51 47 i233_44 rfl rfl rfl (fun h508 => ?_) (fun h508 => ?_)
  · have h508c : z506 ≠ 0 := by omega
    clear h508 hz507
    refine X.cut [] i233_51 rfl ?_
    refine X.lconst (y := 1) 52 i233_51 rfl rfl rfl ?_
    refine X.last' 53 i233_52 rfl rfl (by decide) rfl (by omega) (fun hrm509 m509 hm509 => ?_)
    have hJ510 := w45_19 hJ503 hm509 (by omega) hrm509
    refine X.retv i233_53 rfl t233 ?_
    exact hQ  m509  (hJ510.up (by omega)) 
  · have h508c : z506 = 0 := by omega
    clear h508 hz507
    refine X.lconst (y := 0) 48 i233_47 rfl rfl rfl ?_
    refine X.goto 52 i233_48 rfl rfl ?_
    refine X.cut [] i233_52 rfl ?_
    refine X.last' 53 i233_52 rfl rfl (by decide) rfl (by omega) (fun hrm511 m511 hm511 => ?_)
    have hJ512 := w45_19 hJ503 hm511 (by omega) hrm511
    refine X.retv i233_53 rfl t233 ?_
    exact hQ  m511  (hJ512.up (by omega)) 
theorem l236_24_1 {s : Nat × (Nat → Int32)} {S : zS} {m0 m : zM} {B : Int} {d : Nat} {Q : Option zV → zM → Prop} (y1 : Int) (hd : 13 ≤ d) (hJ : J S m0 B m) (hB9 : B ≤ 1000000000) (hy1 : 64 ≤ y1 ∧ y1 ≤ 64)
    (K95 : X (EE s) d 236 95 [] [] m Q)
    (K112 : ∀ (x2 : Int) , (True) → X (EE s) d 236 112 [(0, zr 4 44), (2, zl x2)] [] m Q) :
    ∀ (n : Nat) (y2 y4 : Int) , (0 ≤ y4 ∧ y4 ≤ 6) → 6 - y4 < (n : Int) → X (EE s) d 236 24 [(0, zr 4 44), (1, zi y1), (2, zl y2), (4, zi y4)] [] m Q := by
  intro n
  induction n with
  | zero =>
    intro y2 y4 hy4 hn
    exfalso
    omega
  | succ n ih =>
    intro y2 y4 hy4 hn
    refine X.iload 26 i236_24 rfl rfl rfl ?_
    refine X.i2l 27 i236_26 rfl rfl ?_
    refine X.aload_n 28 i236_27 rfl rfl rfl ?_
    refine X.getF 31 i236_28 rfl rfl (by decide) rfl rfl ?_
    refine X.bipush 33 i236_31 rfl rfl (by decide) ?_
    refine X.lald 34 i236_33 rfl rfl (by decide) rfl (by omega) ?_
    have h529 := r45_9 hJ 4
    refine X.lcmp 35 i236_34 rfl rfl (fun z530 hz530 => ?_)
    refine X.ifge 112 38 i236_35 rfl rfl rfl (fun h531 => ?_) (fun h531 => ?_)
    · have h531c : y4 ≥ (m 4 45 9) := by omega
      clear h531 hz530
      refine X.cut [(0, zr 4 44), (2, zl y2)] i236_112 rfl ?_
      exact K112 y2 (by first | trivial | omega)
    · have h531c : y4 < (m 4 45 9) := by omega
      clear h531 hz530
      refine X.iload_n 39 i236_38 rfl rfl rfl ?_
      refine X.iconst 40 i236_39 rfl rfl (by decide) ?_
      refine X.isub 41 i236_40 rfl rfl (by omega) ?_
      refine X.iload 43 i236_41 rfl rfl rfl ?_
      refine X.isub 44 i236_43 rfl rfl (by omega) ?_
      refine X.istore 46 [(0, zr 4 44), (1, zi y1), (2, zl y2), (4, zi y4), (5, zi ((y1 - 1) - y4))] i236_44 rfl rfl rfl ?_
      refine X.aload_n 47 i236_46 rfl rfl rfl ?_
      refine X.iload 49 i236_47 rfl rfl rfl ?_
      refine X.iconst 50 i236_49 rfl rfl (by decide) ?_
      refine X.callv 53 [zi ((y1 - 1) - y4), zi 5] [] [(0, zr 4 44), (1, zi ((y1 - 1) - y4)), (2, zi 5)] i236_50 rfl (by decide) rfl rfl (by omega) rfl rfl (by decide) rfl t234 (Nat.le_of_ble_eq_true rfl) (Nat.le_of_ble_eq_true rfl) rfl ?_
      refine X.aload_n 1 i234_0 rfl rfl rfl ?_
      refine X.getF 4 i234_1 rfl rfl (by decide) rfl rfl ?_
      refine X.sipush 7 i234_4 rfl rfl (by decide) ?_
      refine X.bipush 9 i234_7 rfl rfl (by decide) ?_
      refine X.iload_n 10 i234_9 rfl rfl rfl ?_
      refine X.imul 11 i234_10 rfl rfl (by omega) ?_
      refine X.iadd 12 i234_11 rfl rfl (by omega) ?_
      refine X.iload_n 13 i234_12 rfl rfl rfl ?_
      refine X.iadd 14 i234_13 rfl rfl (by omega) ?_
      refine X.lald 15 i234_14 rfl rfl (by decide) rfl (by omega) ?_
      refine X.retl i234_15 rfl t234 ?_
      show X (EE s) d 236 53 [(0, zr 4 44), (1, zi y1), (2, zl y2), (4, zi y4), (5, zi ((y1 - 1) - y4))] [zl (m 4 45 ((788 + (6 * ((y1 - 1) - y4))) + 5))] m _
      refine X.ldc2 56 i236_53 rfl rfl (by decide) ?_
      refine X.llF 57 .land (fun x y => x &&& y) i236_56 rfl rfl rfl (fun _ _ => rfl) (fun z532 hz532 => ?_)
      refine X.lconst (y := 0) 58 i236_57 rfl rfl rfl ?_
      refine X.lcmp 59 i236_58 rfl rfl (fun z533 hz533 => ?_)
      refine X.ifne 95 62 i236_59 rfl rfl rfl (fun h534 => ?_) (fun h534 => ?_)
      · have h534c : z532 ≠ 0 := by omega
        clear h534 hz533
        refine X.cut [] i236_95 rfl ?_
        exact K95  
      · have h534c : z532 = 0 := by omega
        clear h534 hz533
        refine X.iload 64 i236_62 rfl rfl rfl ?_
        refine X.ifle 96 67 i236_64 rfl rfl rfl (fun h535 => ?_) (fun h535 => ?_)
        · refine X.lload_n 97 i236_96 rfl rfl rfl ?_
          refine X.aload_n 98 i236_97 rfl rfl rfl ?_
          refine X.iload 100 i236_98 rfl rfl rfl ?_
          refine X.iconst 101 i236_100 rfl rfl (by decide) ?_
          refine X.callv 104 [zi ((y1 - 1) - y4), zi 1] [zl y2] [(0, zr 4 44), (1, zi ((y1 - 1) - y4)), (2, zi 1)] i236_101 rfl (by decide) rfl rfl (by omega) rfl rfl (by decide) rfl t234 (Nat.le_of_ble_eq_true rfl) (Nat.le_of_ble_eq_true rfl) rfl ?_
          refine X.aload_n 1 i234_0 rfl rfl rfl ?_
          refine X.getF 4 i234_1 rfl rfl (by decide) rfl rfl ?_
          refine X.sipush 7 i234_4 rfl rfl (by decide) ?_
          refine X.bipush 9 i234_7 rfl rfl (by decide) ?_
          refine X.iload_n 10 i234_9 rfl rfl rfl ?_
          refine X.imul 11 i234_10 rfl rfl (by omega) ?_
          refine X.iadd 12 i234_11 rfl rfl (by omega) ?_
          refine X.iload_n 13 i234_12 rfl rfl rfl ?_
          refine X.iadd 14 i234_13 rfl rfl (by omega) ?_
          refine X.lald 15 i234_14 rfl rfl (by decide) rfl (by omega) ?_
          refine X.retl i234_15 rfl t234 ?_
          show X (EE s) d 236 104 [(0, zr 4 44), (1, zi y1), (2, zl y2), (4, zi y4), (5, zi ((y1 - 1) - y4))] [zl (m 4 45 ((788 + (6 * ((y1 - 1) - y4))) + 1)), zl y2] m _
          refine X.llF 105 .ladd (fun x y => x + y) i236_104 rfl rfl rfl (fun _ _ => rfl) (fun z536 hz536 => ?_)
          refine X.lstore_n 106 [(0, zr 4 44), (1, zi y1), (2, zl z536), (4, zi y4), (5, zi ((y1 - 1) - y4))] i236_105 rfl rfl rfl ?_
          refine X.iinc 109 [(0, zr 4 44), (1, zi y1), (2, zl z536), (4, zi (y4 + 1)), (5, zi ((y1 - 1) - y4))] i236_106 rfl rfl rfl (by omega) rfl ?_
          refine X.goto 24 i236_109 rfl rfl ?_
          refine X.cut [(0, zr 4 44), (1, zi y1), (2, zl z536), (4, zi (y4 + 1))] i236_24 rfl ?_
          exact ih z536 (y4 + 1) (by omega) (by omega)
        · refine X.aload_n 68 i236_67 rfl rfl rfl ?_
          refine X.iload 70 i236_68 rfl rfl rfl ?_
          refine X.iconst 71 i236_70 rfl rfl (by decide) ?_
          refine X.iadd 72 i236_71 rfl rfl (by omega) ?_
          refine X.iconst 73 i236_72 rfl rfl (by decide) ?_
          refine X.callv 76 [zi (((y1 - 1) - y4) + 1), zi 0] [] [(0, zr 4 44), (1, zi (((y1 - 1) - y4) + 1)), (2, zi 0)] i236_73 rfl (by decide) rfl rfl (by omega) rfl rfl (by decide) rfl t234 (Nat.le_of_ble_eq_true rfl) (Nat.le_of_ble_eq_true rfl) rfl ?_
          refine X.aload_n 1 i234_0 rfl rfl rfl ?_
          refine X.getF 4 i234_1 rfl rfl (by decide) rfl rfl ?_
          refine X.sipush 7 i234_4 rfl rfl (by decide) ?_
          refine X.bipush 9 i234_7 rfl rfl (by decide) ?_
          refine X.iload_n 10 i234_9 rfl rfl rfl ?_
          refine X.imul 11 i234_10 rfl rfl (by omega) ?_
          refine X.iadd 12 i234_11 rfl rfl (by omega) ?_
          refine X.iload_n 13 i234_12 rfl rfl rfl ?_
          refine X.iadd 14 i234_13 rfl rfl (by omega) ?_
          refine X.lald 15 i234_14 rfl rfl (by decide) rfl (by omega) ?_
          refine X.retl i234_15 rfl t234 ?_
          show X (EE s) d 236 76 [(0, zr 4 44), (1, zi y1), (2, zl y2), (4, zi y4), (5, zi ((y1 - 1) - y4))] [zl (m 4 45 ((788 + (6 * (((y1 - 1) - y4) + 1))) + 0))] m _
          refine X.aload_n 77 i236_76 rfl rfl rfl ?_
          refine X.getF 80 i236_77 rfl rfl (by decide) rfl rfl ?_
          refine X.bipush 82 i236_80 rfl rfl (by decide) ?_
          refine X.lald 83 i236_82 rfl rfl (by decide) rfl (by omega) ?_
          have h537 := r45_8 hJ 4
          refine X.llF 84 .lsub (fun x y => x - y) i236_83 rfl rfl rfl (fun _ _ => rfl) (fun z538 hz538 => ?_)
          refine X.aload_n 85 i236_84 rfl rfl rfl ?_
          refine X.iload 87 i236_85 rfl rfl rfl ?_
          refine X.iconst 88 i236_87 rfl rfl (by decide) ?_
          refine X.callv 91 [zi ((y1 - 1) - y4), zi 0] [zl z538] [(0, zr 4 44), (1, zi ((y1 - 1) - y4)), (2, zi 0)] i236_88 rfl (by decide) rfl rfl (by omega) rfl rfl (by decide) rfl t234 (Nat.le_of_ble_eq_true rfl) (Nat.le_of_ble_eq_true rfl) rfl ?_
          refine X.aload_n 1 i234_0 rfl rfl rfl ?_
          refine X.getF 4 i234_1 rfl rfl (by decide) rfl rfl ?_
          refine X.sipush 7 i234_4 rfl rfl (by decide) ?_
          refine X.bipush 9 i234_7 rfl rfl (by decide) ?_
          refine X.iload_n 10 i234_9 rfl rfl rfl ?_
          refine X.imul 11 i234_10 rfl rfl (by omega) ?_
          refine X.iadd 12 i234_11 rfl rfl (by omega) ?_
          refine X.iload_n 13 i234_12 rfl rfl rfl ?_
          refine X.iadd 14 i234_13 rfl rfl (by omega) ?_
          refine X.lald 15 i234_14 rfl rfl (by decide) rfl (by omega) ?_
          refine X.retl i234_15 rfl t234 ?_
          show X (EE s) d 236 91 [(0, zr 4 44), (1, zi y1), (2, zl y2), (4, zi y4), (5, zi ((y1 - 1) - y4))] [zl (m 4 45 ((788 + (6 * ((y1 - 1) - y4))) + 0)), zl z538] m _
          refine X.lcmp 92 i236_91 rfl rfl (fun z539 hz539 => ?_)
          refine X.ifeq 96 95 i236_92 rfl rfl rfl (fun h540 => ?_) (fun h540 => ?_)
          · have h540c : z538 = (m 4 45 ((788 + (6 * ((y1 - 1) - y4))) + 0)) := by omega
            clear h540 hz539
            refine X.lload_n 97 i236_96 rfl rfl rfl ?_
            refine X.aload_n 98 i236_97 rfl rfl rfl ?_
            refine X.iload 100 i236_98 rfl rfl rfl ?_
            refine X.iconst 101 i236_100 rfl rfl (by decide) ?_
            refine X.callv 104 [zi ((y1 - 1) - y4), zi 1] [zl y2] [(0, zr 4 44), (1, zi ((y1 - 1) - y4)), (2, zi 1)] i236_101 rfl (by decide) rfl rfl (by omega) rfl rfl (by decide) rfl t234 (Nat.le_of_ble_eq_true rfl) (Nat.le_of_ble_eq_true rfl) rfl ?_
            refine X.aload_n 1 i234_0 rfl rfl rfl ?_
            refine X.getF 4 i234_1 rfl rfl (by decide) rfl rfl ?_
            refine X.sipush 7 i234_4 rfl rfl (by decide) ?_
            refine X.bipush 9 i234_7 rfl rfl (by decide) ?_
            refine X.iload_n 10 i234_9 rfl rfl rfl ?_
            refine X.imul 11 i234_10 rfl rfl (by omega) ?_
            refine X.iadd 12 i234_11 rfl rfl (by omega) ?_
            refine X.iload_n 13 i234_12 rfl rfl rfl ?_
            refine X.iadd 14 i234_13 rfl rfl (by omega) ?_
            refine X.lald 15 i234_14 rfl rfl (by decide) rfl (by omega) ?_
            refine X.retl i234_15 rfl t234 ?_
            show X (EE s) d 236 104 [(0, zr 4 44), (1, zi y1), (2, zl y2), (4, zi y4), (5, zi ((y1 - 1) - y4))] [zl (m 4 45 ((788 + (6 * ((y1 - 1) - y4))) + 1)), zl y2] m _
            refine X.llF 105 .ladd (fun x y => x + y) i236_104 rfl rfl rfl (fun _ _ => rfl) (fun z541 hz541 => ?_)
            refine X.lstore_n 106 [(0, zr 4 44), (1, zi y1), (2, zl z541), (4, zi y4), (5, zi ((y1 - 1) - y4))] i236_105 rfl rfl rfl ?_
            refine X.iinc 109 [(0, zr 4 44), (1, zi y1), (2, zl z541), (4, zi (y4 + 1)), (5, zi ((y1 - 1) - y4))] i236_106 rfl rfl rfl (by omega) rfl ?_
            refine X.goto 24 i236_109 rfl rfl ?_
            refine X.cut [(0, zr 4 44), (1, zi y1), (2, zl z541), (4, zi (y4 + 1))] i236_24 rfl ?_
            exact ih z541 (y4 + 1) (by omega) (by omega)
          · have h540c : z538 ≠ (m 4 45 ((788 + (6 * ((y1 - 1) - y4))) + 0)) := by omega
            clear h540 hz539
            refine X.cut [] i236_95 rfl ?_
            exact K95  
theorem l236_24_2 {s : Nat × (Nat → Int32)} {S : zS} {m0 m : zM} {B : Int} {d : Nat} {Q : Option zV → zM → Prop} (y1 : Int) (hd : 13 ≤ d) (hJ : J S m0 B m) (hB9 : B ≤ 1000000000) (hy1 : 1 ≤ y1 ∧ y1 ≤ 63)
    (K95 : X (EE s) d 236 95 [] [] m Q)
    (K112 : ∀ (x2 : Int) , (True) → X (EE s) d 236 112 [(0, zr 4 44), (2, zl x2)] [] m Q) :
    ∀ (n : Nat) (y2 y4 : Int) , (0 ≤ y4 ∧ y4 ≤ 6) → 6 - y4 < (n : Int) → X (EE s) d 236 24 [(0, zr 4 44), (1, zi y1), (2, zl y2), (4, zi y4)] [] m Q := by
  intro n
  induction n with
  | zero =>
    intro y2 y4 hy4 hn
    exfalso
    omega
  | succ n ih =>
    intro y2 y4 hy4 hn
    refine X.iload 26 i236_24 rfl rfl rfl ?_
    refine X.i2l 27 i236_26 rfl rfl ?_
    refine X.aload_n 28 i236_27 rfl rfl rfl ?_
    refine X.getF 31 i236_28 rfl rfl (by decide) rfl rfl ?_
    refine X.bipush 33 i236_31 rfl rfl (by decide) ?_
    refine X.lald 34 i236_33 rfl rfl (by decide) rfl (by omega) ?_
    have h529 := r45_9 hJ 4
    refine X.lcmp 35 i236_34 rfl rfl (fun z530 hz530 => ?_)
    refine X.ifge 112 38 i236_35 rfl rfl rfl (fun h531 => ?_) (fun h531 => ?_)
    · have h531c : y4 ≥ (m 4 45 9) := by omega
      clear h531 hz530
      refine X.cut [(0, zr 4 44), (2, zl y2)] i236_112 rfl ?_
      exact K112 y2 (by first | trivial | omega)
    · have h531c : y4 < (m 4 45 9) := by omega
      clear h531 hz530
      refine X.iload_n 39 i236_38 rfl rfl rfl ?_
      refine X.iconst 40 i236_39 rfl rfl (by decide) ?_
      refine X.isub 41 i236_40 rfl rfl (by omega) ?_
      refine X.iload 43 i236_41 rfl rfl rfl ?_
      refine X.isub 44 i236_43 rfl rfl (by omega) ?_
      refine X.istore 46 [(0, zr 4 44), (1, zi y1), (2, zl y2), (4, zi y4), (5, zi ((y1 - 1) - y4))] i236_44 rfl rfl rfl ?_
      refine X.aload_n 47 i236_46 rfl rfl rfl ?_
      refine X.iload 49 i236_47 rfl rfl rfl ?_
      refine X.iconst 50 i236_49 rfl rfl (by decide) ?_
      refine X.callv 53 [zi ((y1 - 1) - y4), zi 5] [] [(0, zr 4 44), (1, zi ((y1 - 1) - y4)), (2, zi 5)] i236_50 rfl (by decide) rfl rfl (by omega) rfl rfl (by decide) rfl t234 (Nat.le_of_ble_eq_true rfl) (Nat.le_of_ble_eq_true rfl) rfl ?_
      refine X.aload_n 1 i234_0 rfl rfl rfl ?_
      refine X.getF 4 i234_1 rfl rfl (by decide) rfl rfl ?_
      refine X.sipush 7 i234_4 rfl rfl (by decide) ?_
      refine X.bipush 9 i234_7 rfl rfl (by decide) ?_
      refine X.iload_n 10 i234_9 rfl rfl rfl ?_
      refine X.imul 11 i234_10 rfl rfl (by omega) ?_
      refine X.iadd 12 i234_11 rfl rfl (by omega) ?_
      refine X.iload_n 13 i234_12 rfl rfl rfl ?_
      refine X.iadd 14 i234_13 rfl rfl (by omega) ?_
      refine X.lald 15 i234_14 rfl rfl (by decide) rfl (by omega) ?_
      refine X.retl i234_15 rfl t234 ?_
      show X (EE s) d 236 53 [(0, zr 4 44), (1, zi y1), (2, zl y2), (4, zi y4), (5, zi ((y1 - 1) - y4))] [zl (m 4 45 ((788 + (6 * ((y1 - 1) - y4))) + 5))] m _
      refine X.ldc2 56 i236_53 rfl rfl (by decide) ?_
      refine X.llF 57 .land (fun x y => x &&& y) i236_56 rfl rfl rfl (fun _ _ => rfl) (fun z532 hz532 => ?_)
      refine X.lconst (y := 0) 58 i236_57 rfl rfl rfl ?_
      refine X.lcmp 59 i236_58 rfl rfl (fun z533 hz533 => ?_)
      refine X.ifne 95 62 i236_59 rfl rfl rfl (fun h534 => ?_) (fun h534 => ?_)
      · have h534c : z532 ≠ 0 := by omega
        clear h534 hz533
        refine X.cut [] i236_95 rfl ?_
        exact K95  
      · have h534c : z532 = 0 := by omega
        clear h534 hz533
        refine X.iload 64 i236_62 rfl rfl rfl ?_
        refine X.ifle 96 67 i236_64 rfl rfl rfl (fun h535 => ?_) (fun h535 => ?_)
        · refine X.lload_n 97 i236_96 rfl rfl rfl ?_
          refine X.aload_n 98 i236_97 rfl rfl rfl ?_
          refine X.iload 100 i236_98 rfl rfl rfl ?_
          refine X.iconst 101 i236_100 rfl rfl (by decide) ?_
          refine X.callv 104 [zi ((y1 - 1) - y4), zi 1] [zl y2] [(0, zr 4 44), (1, zi ((y1 - 1) - y4)), (2, zi 1)] i236_101 rfl (by decide) rfl rfl (by omega) rfl rfl (by decide) rfl t234 (Nat.le_of_ble_eq_true rfl) (Nat.le_of_ble_eq_true rfl) rfl ?_
          refine X.aload_n 1 i234_0 rfl rfl rfl ?_
          refine X.getF 4 i234_1 rfl rfl (by decide) rfl rfl ?_
          refine X.sipush 7 i234_4 rfl rfl (by decide) ?_
          refine X.bipush 9 i234_7 rfl rfl (by decide) ?_
          refine X.iload_n 10 i234_9 rfl rfl rfl ?_
          refine X.imul 11 i234_10 rfl rfl (by omega) ?_
          refine X.iadd 12 i234_11 rfl rfl (by omega) ?_
          refine X.iload_n 13 i234_12 rfl rfl rfl ?_
          refine X.iadd 14 i234_13 rfl rfl (by omega) ?_
          refine X.lald 15 i234_14 rfl rfl (by decide) rfl (by omega) ?_
          refine X.retl i234_15 rfl t234 ?_
          show X (EE s) d 236 104 [(0, zr 4 44), (1, zi y1), (2, zl y2), (4, zi y4), (5, zi ((y1 - 1) - y4))] [zl (m 4 45 ((788 + (6 * ((y1 - 1) - y4))) + 1)), zl y2] m _
          refine X.llF 105 .ladd (fun x y => x + y) i236_104 rfl rfl rfl (fun _ _ => rfl) (fun z536 hz536 => ?_)
          refine X.lstore_n 106 [(0, zr 4 44), (1, zi y1), (2, zl z536), (4, zi y4), (5, zi ((y1 - 1) - y4))] i236_105 rfl rfl rfl ?_
          refine X.iinc 109 [(0, zr 4 44), (1, zi y1), (2, zl z536), (4, zi (y4 + 1)), (5, zi ((y1 - 1) - y4))] i236_106 rfl rfl rfl (by omega) rfl ?_
          refine X.goto 24 i236_109 rfl rfl ?_
          refine X.cut [(0, zr 4 44), (1, zi y1), (2, zl z536), (4, zi (y4 + 1))] i236_24 rfl ?_
          exact ih z536 (y4 + 1) (by omega) (by omega)
        · refine X.aload_n 68 i236_67 rfl rfl rfl ?_
          refine X.iload 70 i236_68 rfl rfl rfl ?_
          refine X.iconst 71 i236_70 rfl rfl (by decide) ?_
          refine X.iadd 72 i236_71 rfl rfl (by omega) ?_
          refine X.iconst 73 i236_72 rfl rfl (by decide) ?_
          refine X.callv 76 [zi (((y1 - 1) - y4) + 1), zi 0] [] [(0, zr 4 44), (1, zi (((y1 - 1) - y4) + 1)), (2, zi 0)] i236_73 rfl (by decide) rfl rfl (by omega) rfl rfl (by decide) rfl t234 (Nat.le_of_ble_eq_true rfl) (Nat.le_of_ble_eq_true rfl) rfl ?_
          refine X.aload_n 1 i234_0 rfl rfl rfl ?_
          refine X.getF 4 i234_1 rfl rfl (by decide) rfl rfl ?_
          refine X.sipush 7 i234_4 rfl rfl (by decide) ?_
          refine X.bipush 9 i234_7 rfl rfl (by decide) ?_
          refine X.iload_n 10 i234_9 rfl rfl rfl ?_
          refine X.imul 11 i234_10 rfl rfl (by omega) ?_
          refine X.iadd 12 i234_11 rfl rfl (by omega) ?_
          refine X.iload_n 13 i234_12 rfl rfl rfl ?_
          refine X.iadd 14 i234_13 rfl rfl (by omega) ?_
          refine X.lald 15 i234_14 rfl rfl (by decide) rfl (by omega) ?_
          refine X.retl i234_15 rfl t234 ?_
          show X (EE s) d 236 76 [(0, zr 4 44), (1, zi y1), (2, zl y2), (4, zi y4), (5, zi ((y1 - 1) - y4))] [zl (m 4 45 ((788 + (6 * (((y1 - 1) - y4) + 1))) + 0))] m _
          refine X.aload_n 77 i236_76 rfl rfl rfl ?_
          refine X.getF 80 i236_77 rfl rfl (by decide) rfl rfl ?_
          refine X.bipush 82 i236_80 rfl rfl (by decide) ?_
          refine X.lald 83 i236_82 rfl rfl (by decide) rfl (by omega) ?_
          have h537 := r45_8 hJ 4
          refine X.llF 84 .lsub (fun x y => x - y) i236_83 rfl rfl rfl (fun _ _ => rfl) (fun z538 hz538 => ?_)
          refine X.aload_n 85 i236_84 rfl rfl rfl ?_
          refine X.iload 87 i236_85 rfl rfl rfl ?_
          refine X.iconst 88 i236_87 rfl rfl (by decide) ?_
          refine X.callv 91 [zi ((y1 - 1) - y4), zi 0] [zl z538] [(0, zr 4 44), (1, zi ((y1 - 1) - y4)), (2, zi 0)] i236_88 rfl (by decide) rfl rfl (by omega) rfl rfl (by decide) rfl t234 (Nat.le_of_ble_eq_true rfl) (Nat.le_of_ble_eq_true rfl) rfl ?_
          refine X.aload_n 1 i234_0 rfl rfl rfl ?_
          refine X.getF 4 i234_1 rfl rfl (by decide) rfl rfl ?_
          refine X.sipush 7 i234_4 rfl rfl (by decide) ?_
          refine X.bipush 9 i234_7 rfl rfl (by decide) ?_
          refine X.iload_n 10 i234_9 rfl rfl rfl ?_
          refine X.imul 11 i234_10 rfl rfl (by omega) ?_
          refine X.iadd 12 i234_11 rfl rfl (by omega) ?_
          refine X.iload_n 13 i234_12 rfl rfl rfl ?_
          refine X.iadd 14 i234_13 rfl rfl (by omega) ?_
          refine X.lald 15 i234_14 rfl rfl (by decide) rfl (by omega) ?_
          refine X.retl i234_15 rfl t234 ?_
          show X (EE s) d 236 91 [(0, zr 4 44), (1, zi y1), (2, zl y2), (4, zi y4), (5, zi ((y1 - 1) - y4))] [zl (m 4 45 ((788 + (6 * ((y1 - 1) - y4))) + 0)), zl z538] m _
          refine X.lcmp 92 i236_91 rfl rfl (fun z539 hz539 => ?_)
          refine X.ifeq 96 95 i236_92 rfl rfl rfl (fun h540 => ?_) (fun h540 => ?_)
          · have h540c : z538 = (m 4 45 ((788 + (6 * ((y1 - 1) - y4))) + 0)) := by omega
            clear h540 hz539
            refine X.lload_n 97 i236_96 rfl rfl rfl ?_
            refine X.aload_n 98 i236_97 rfl rfl rfl ?_
            refine X.iload 100 i236_98 rfl rfl rfl ?_
            refine X.iconst 101 i236_100 rfl rfl (by decide) ?_
            refine X.callv 104 [zi ((y1 - 1) - y4), zi 1] [zl y2] [(0, zr 4 44), (1, zi ((y1 - 1) - y4)), (2, zi 1)] i236_101 rfl (by decide) rfl rfl (by omega) rfl rfl (by decide) rfl t234 (Nat.le_of_ble_eq_true rfl) (Nat.le_of_ble_eq_true rfl) rfl ?_
            refine X.aload_n 1 i234_0 rfl rfl rfl ?_
            refine X.getF 4 i234_1 rfl rfl (by decide) rfl rfl ?_
            refine X.sipush 7 i234_4 rfl rfl (by decide) ?_
            refine X.bipush 9 i234_7 rfl rfl (by decide) ?_
            refine X.iload_n 10 i234_9 rfl rfl rfl ?_
            refine X.imul 11 i234_10 rfl rfl (by omega) ?_
            refine X.iadd 12 i234_11 rfl rfl (by omega) ?_
            refine X.iload_n 13 i234_12 rfl rfl rfl ?_
            refine X.iadd 14 i234_13 rfl rfl (by omega) ?_
            refine X.lald 15 i234_14 rfl rfl (by decide) rfl (by omega) ?_
            refine X.retl i234_15 rfl t234 ?_
            show X (EE s) d 236 104 [(0, zr 4 44), (1, zi y1), (2, zl y2), (4, zi y4), (5, zi ((y1 - 1) - y4))] [zl (m 4 45 ((788 + (6 * ((y1 - 1) - y4))) + 1)), zl y2] m _
            refine X.llF 105 .ladd (fun x y => x + y) i236_104 rfl rfl rfl (fun _ _ => rfl) (fun z541 hz541 => ?_)
            refine X.lstore_n 106 [(0, zr 4 44), (1, zi y1), (2, zl z541), (4, zi y4), (5, zi ((y1 - 1) - y4))] i236_105 rfl rfl rfl ?_
            refine X.iinc 109 [(0, zr 4 44), (1, zi y1), (2, zl z541), (4, zi (y4 + 1)), (5, zi ((y1 - 1) - y4))] i236_106 rfl rfl rfl (by omega) rfl ?_
            refine X.goto 24 i236_109 rfl rfl ?_
            refine X.cut [(0, zr 4 44), (1, zi y1), (2, zl z541), (4, zi (y4 + 1))] i236_24 rfl ?_
            exact ih z541 (y4 + 1) (by omega) (by omega)
          · have h540c : z538 ≠ (m 4 45 ((788 + (6 * ((y1 - 1) - y4))) + 0)) := by omega
            clear h540 hz539
            refine X.cut [] i236_95 rfl ?_
            exact K95  
-- WorkMeterModel.demands
theorem c236_1 {s : Nat × (Nat → Int32)} {S : zS} {m0 m : zM} {B : Int} {d : Nat} {Q : Option zV → zM → Prop} (hd : 16 ≤ d) (hJ : J S m0 B m) (hB : B + 0 ≤ 1000000000) (hQ : ∀ m', J S m0 (B) m' → Q none m') : X (EE s) d 236 0 [(0, zr 4 44)] [] m Q := by
  refine X.aload_n 1 i236_0 rfl rfl rfl ?_
  refine X.callv 4 [] [] [(0, zr 4 44)] i236_1 rfl (by decide) rfl rfl (by omega) rfl rfl (by decide) rfl t235 (Nat.le_of_ble_eq_true rfl) (Nat.le_of_ble_eq_true rfl) rfl ?_
  refine X.aload_n 1 i235_0 rfl rfl rfl ?_
  refine X.getF 4 i235_1 rfl rfl (by decide) rfl rfl ?_
  refine X.bipush 6 i235_4 rfl rfl (by decide) ?_
  refine X.lald 7 i235_6 rfl rfl (by decide) rfl (by omega) ?_
  have h501 := r45_17 hJ 4
  refine X.ldc2 10 i235_7 rfl rfl (by decide) ?_
  refine X.lcmp 11 i235_10 rfl rfl (fun z502 hz502 => ?_)
  refine X.ifge 24 14 i235_11 rfl rfl rfl (fun h503 => ?_) (fun h503 => ?_)
  · have h503c : (m 4 45 17) ≥ 64 := by omega
    clear h503 hz502
    refine X.cut [] i235_24 rfl ?_
    refine X.ldc2 27 i235_24 rfl rfl (by decide) ?_
    refine X.l2i 28 i235_27 rfl rfl (by omega) ?_
    refine X.reti i235_28 rfl t235 ?_
    show X (EE s) d 236 4 [(0, zr 4 44)] [zi 64] m _
    refine X.istore_n 5 [(0, zr 4 44), (1, zi 64)] i236_4 rfl rfl rfl ?_
    refine X.iload_n 6 i236_5 rfl rfl rfl ?_
    refine X.i2l 7 i236_6 rfl rfl ?_
    refine X.aload_n 8 i236_7 rfl rfl rfl ?_
    refine X.getF 11 i236_8 rfl rfl (by decide) rfl rfl ?_
    refine X.bipush 13 i236_11 rfl rfl (by decide) ?_
    refine X.lald 14 i236_13 rfl rfl (by decide) rfl (by omega) ?_
    have h504 := r45_9 hJ 4
    refine X.lcmp 15 i236_14 rfl rfl (fun z505 hz505 => ?_)
    refine X.ifge 19 18 i236_15 rfl rfl rfl (fun h506 => ?_) (fun h506 => (by exfalso; omega))
    have h506c : 64 ≥ (m 4 45 9) := by omega
    clear h506 hz505
    refine X.lconst (y := 0) 20 i236_19 rfl rfl rfl ?_
    refine X.lstore_n 21 [(0, zr 4 44), (1, zi 64), (2, zl 0)] i236_20 rfl rfl rfl ?_
    refine X.iconst 22 i236_21 rfl rfl (by decide) ?_
    refine X.istore 24 [(0, zr 4 44), (1, zi 64), (2, zl 0), (4, zi 0)] i236_22 rfl rfl rfl ?_
    refine l236_24_1 (s := s) (S := S) (m0 := m0) (m := m) (B := B) (d := d)  64 (by omega) (hJ.up (by omega)) (by omega) (by omega) ?_ (fun y510 hby510 => ?_) ((6 - 0 : Int).toNat + 1) 0 0 (by omega) (by omega)
    · refine X.retv i236_95 rfl t236 ?_
      exact hQ  m  (hJ.up (by omega)) 
    · refine X.aload_n 113 i236_112 rfl rfl rfl ?_
      refine X.getF 116 i236_113 rfl rfl (by decide) rfl rfl ?_
      refine X.bipush 118 i236_116 rfl rfl (by decide) ?_
      refine X.lload_n 119 i236_118 rfl rfl rfl ?_
      refine X.last' 120 i236_119 rfl rfl (by decide) rfl (by omega) (fun hrm514 m514 hm514 => ?_)
      have hJ515 := w45_19 hJ hm514 (by omega) hrm514
      refine X.aload_n 121 i236_120 rfl rfl rfl ?_
      refine X.getF 124 i236_121 rfl rfl (by decide) rfl rfl ?_
      refine X.bipush 126 i236_124 rfl rfl (by decide) ?_
      refine X.aload_n 127 i236_126 rfl rfl rfl ?_
      refine X.getF 130 i236_127 rfl rfl (by decide) rfl rfl ?_
      refine X.iconst 131 i236_130 rfl rfl (by decide) ?_
      refine X.lald 132 i236_131 rfl rfl (by decide) rfl (by omega) ?_
      have h516 := r45_0 hJ515 4
      refine X.last' 133 i236_132 rfl rfl (by decide) rfl (by omega) (fun hrm517 m517 hm517 => ?_)
      have hJ518 := w45_19 hJ515 hm517 (by omega) hrm517
      refine X.aload_n 134 i236_133 rfl rfl rfl ?_
      refine X.aload_n 135 i236_134 rfl rfl rfl ?_
      refine X.getF 138 i236_135 rfl rfl (by decide) rfl rfl ?_
      refine X.iconst 139 i236_138 rfl rfl (by decide) ?_
      refine X.lald 140 i236_139 rfl rfl (by decide) rfl (by omega) ?_
      have h519 := r45_0 hJ518 4
      refine X.l2i 141 i236_140 rfl rfl (by omega) ?_
      refine X.iconst 142 i236_141 rfl rfl (by decide) ?_
      refine X.isub 143 i236_142 rfl rfl (by omega) ?_
      refine X.callv 146 [zi ((m517 4 45 0) - 1)] [] [(0, zr 4 44), (1, zi ((m517 4 45 0) - 1))] i236_143 rfl (by decide) rfl rfl (by omega) rfl rfl (by decide) rfl t217 (Nat.le_of_ble_eq_true rfl) (Nat.le_of_ble_eq_true rfl) rfl ?_
      refine c217_1 (B := B)  ((m517 4 45 0) - 1) (by omega) (hJ518.up (by omega)) (by omega) (by omega) (fun v522 hv522 => ?_)
      show X (EE s) d 236 146 [(0, zr 4 44), (2, zl y510)] [zi v522] m517 _
      refine X.istore 148 [(0, zr 4 44), (2, zl y510), (4, zi v522)] i236_146 rfl rfl rfl ?_
      refine X.lload_n 149 i236_148 rfl rfl rfl ?_
      refine X.aload_n 150 i236_149 rfl rfl rfl ?_
      refine X.getF 153 i236_150 rfl rfl (by decide) rfl rfl ?_
      refine X.bipush 155 i236_153 rfl rfl (by decide) ?_
      refine X.iload 157 i236_155 rfl rfl rfl ?_
      refine X.iadd 158 i236_157 rfl rfl (by omega) ?_
      refine X.lald 159 i236_158 rfl rfl (by decide) rfl (by omega) ?_
      refine X.lcmp 160 i236_159 rfl rfl (fun z523 hz523 => ?_)
      refine X.ifgt 164 163 i236_160 rfl rfl rfl (fun h524 => ?_) (fun h524 => ?_)
      · have h524c : y510 > (m517 4 45 (32 + v522)) := by omega
        clear h524 hz523
        refine X.aload_n 165 i236_164 rfl rfl rfl ?_
        refine X.getF 168 i236_165 rfl rfl (by decide) rfl rfl ?_
        refine X.bipush 170 i236_168 rfl rfl (by decide) ?_
        refine X.iload 172 i236_170 rfl rfl rfl ?_
        refine X.iadd 173 i236_172 rfl rfl (by omega) ?_
        refine X.lload_n 174 i236_173 rfl rfl rfl ?_
        refine X.last' 175 i236_174 rfl rfl (by decide) rfl (by omega) (fun hrm525 m525 hm525 => ?_)
        have hJ526 := w45_19 hJ518 hm525 (by omega) hrm525
        refine X.aload_n 176 i236_175 rfl rfl rfl ?_
        refine X.getF 179 i236_176 rfl rfl (by decide) rfl rfl ?_
        refine X.bipush 181 i236_179 rfl rfl (by decide) ?_
        refine X.iload 183 i236_181 rfl rfl rfl ?_
        refine X.iadd 184 i236_183 rfl rfl (by omega) ?_
        refine X.aload_n 185 i236_184 rfl rfl rfl ?_
        refine X.getF 188 i236_185 rfl rfl (by decide) rfl rfl ?_
        refine X.iconst 189 i236_188 rfl rfl (by decide) ?_
        refine X.lald 190 i236_189 rfl rfl (by decide) rfl (by omega) ?_
        have h527 := r45_0 hJ526 4
        refine X.last' 191 i236_190 rfl rfl (by decide) rfl (by omega) (fun hrm528 m528 hm528 => ?_)
        have hJ529 := w45_19 hJ526 hm528 (by omega) hrm528
        refine X.retv i236_191 rfl t236 ?_
        exact hQ  m528  (hJ529.up (by omega)) 
      · have h524c : y510 ≤ (m517 4 45 (32 + v522)) := by omega
        clear h524 hz523
        refine X.retv i236_163 rfl t236 ?_
        exact hQ  m517  (hJ518.up (by omega)) 
  · have h503c : (m 4 45 17) < 64 := by omega
    clear h503 hz502
    refine X.aload_n 15 i235_14 rfl rfl rfl ?_
    refine X.getF 18 i235_15 rfl rfl (by decide) rfl rfl ?_
    refine X.bipush 20 i235_18 rfl rfl (by decide) ?_
    refine X.lald 21 i235_20 rfl rfl (by decide) rfl (by omega) ?_
    refine X.goto 27 i235_21 rfl rfl ?_
    refine X.cut [] i235_27 rfl ?_
    refine X.l2i 28 i235_27 rfl rfl (by omega) ?_
    refine X.reti i235_28 rfl t235 ?_
    show X (EE s) d 236 4 [(0, zr 4 44)] [zi (m 4 45 17)] m _
    refine X.istore_n 5 [(0, zr 4 44), (1, zi (m 4 45 17))] i236_4 rfl rfl rfl ?_
    refine X.iload_n 6 i236_5 rfl rfl rfl ?_
    refine X.i2l 7 i236_6 rfl rfl ?_
    refine X.aload_n 8 i236_7 rfl rfl rfl ?_
    refine X.getF 11 i236_8 rfl rfl (by decide) rfl rfl ?_
    refine X.bipush 13 i236_11 rfl rfl (by decide) ?_
    refine X.lald 14 i236_13 rfl rfl (by decide) rfl (by omega) ?_
    have h530 := r45_9 hJ 4
    refine X.lcmp 15 i236_14 rfl rfl (fun z531 hz531 => ?_)
    refine X.ifge 19 18 i236_15 rfl rfl rfl (fun h532 => ?_) (fun h532 => ?_)
    · have h532c : (m 4 45 17) ≥ (m 4 45 9) := by omega
      clear h532 hz531
      refine X.lconst (y := 0) 20 i236_19 rfl rfl rfl ?_
      refine X.lstore_n 21 [(0, zr 4 44), (1, zi (m 4 45 17)), (2, zl 0)] i236_20 rfl rfl rfl ?_
      refine X.iconst 22 i236_21 rfl rfl (by decide) ?_
      refine X.istore 24 [(0, zr 4 44), (1, zi (m 4 45 17)), (2, zl 0), (4, zi 0)] i236_22 rfl rfl rfl ?_
      refine l236_24_2 (s := s) (S := S) (m0 := m0) (m := m) (B := B) (d := d)  (m 4 45 17) (by omega) (hJ.up (by omega)) (by omega) (by omega) ?_ (fun y536 hby536 => ?_) ((6 - 0 : Int).toNat + 1) 0 0 (by omega) (by omega)
      · refine X.retv i236_95 rfl t236 ?_
        exact hQ  m  (hJ.up (by omega)) 
      · refine X.aload_n 113 i236_112 rfl rfl rfl ?_
        refine X.getF 116 i236_113 rfl rfl (by decide) rfl rfl ?_
        refine X.bipush 118 i236_116 rfl rfl (by decide) ?_
        refine X.lload_n 119 i236_118 rfl rfl rfl ?_
        refine X.last' 120 i236_119 rfl rfl (by decide) rfl (by omega) (fun hrm540 m540 hm540 => ?_)
        have hJ541 := w45_19 hJ hm540 (by omega) hrm540
        refine X.aload_n 121 i236_120 rfl rfl rfl ?_
        refine X.getF 124 i236_121 rfl rfl (by decide) rfl rfl ?_
        refine X.bipush 126 i236_124 rfl rfl (by decide) ?_
        refine X.aload_n 127 i236_126 rfl rfl rfl ?_
        refine X.getF 130 i236_127 rfl rfl (by decide) rfl rfl ?_
        refine X.iconst 131 i236_130 rfl rfl (by decide) ?_
        refine X.lald 132 i236_131 rfl rfl (by decide) rfl (by omega) ?_
        have h542 := r45_0 hJ541 4
        refine X.last' 133 i236_132 rfl rfl (by decide) rfl (by omega) (fun hrm543 m543 hm543 => ?_)
        have hJ544 := w45_19 hJ541 hm543 (by omega) hrm543
        refine X.aload_n 134 i236_133 rfl rfl rfl ?_
        refine X.aload_n 135 i236_134 rfl rfl rfl ?_
        refine X.getF 138 i236_135 rfl rfl (by decide) rfl rfl ?_
        refine X.iconst 139 i236_138 rfl rfl (by decide) ?_
        refine X.lald 140 i236_139 rfl rfl (by decide) rfl (by omega) ?_
        have h545 := r45_0 hJ544 4
        refine X.l2i 141 i236_140 rfl rfl (by omega) ?_
        refine X.iconst 142 i236_141 rfl rfl (by decide) ?_
        refine X.isub 143 i236_142 rfl rfl (by omega) ?_
        refine X.callv 146 [zi ((m543 4 45 0) - 1)] [] [(0, zr 4 44), (1, zi ((m543 4 45 0) - 1))] i236_143 rfl (by decide) rfl rfl (by omega) rfl rfl (by decide) rfl t217 (Nat.le_of_ble_eq_true rfl) (Nat.le_of_ble_eq_true rfl) rfl ?_
        refine c217_1 (B := B)  ((m543 4 45 0) - 1) (by omega) (hJ544.up (by omega)) (by omega) (by omega) (fun v548 hv548 => ?_)
        show X (EE s) d 236 146 [(0, zr 4 44), (2, zl y536)] [zi v548] m543 _
        refine X.istore 148 [(0, zr 4 44), (2, zl y536), (4, zi v548)] i236_146 rfl rfl rfl ?_
        refine X.lload_n 149 i236_148 rfl rfl rfl ?_
        refine X.aload_n 150 i236_149 rfl rfl rfl ?_
        refine X.getF 153 i236_150 rfl rfl (by decide) rfl rfl ?_
        refine X.bipush 155 i236_153 rfl rfl (by decide) ?_
        refine X.iload 157 i236_155 rfl rfl rfl ?_
        refine X.iadd 158 i236_157 rfl rfl (by omega) ?_
        refine X.lald 159 i236_158 rfl rfl (by decide) rfl (by omega) ?_
        refine X.lcmp 160 i236_159 rfl rfl (fun z549 hz549 => ?_)
        refine X.ifgt 164 163 i236_160 rfl rfl rfl (fun h550 => ?_) (fun h550 => ?_)
        · have h550c : y536 > (m543 4 45 (32 + v548)) := by omega
          clear h550 hz549
          refine X.aload_n 165 i236_164 rfl rfl rfl ?_
          refine X.getF 168 i236_165 rfl rfl (by decide) rfl rfl ?_
          refine X.bipush 170 i236_168 rfl rfl (by decide) ?_
          refine X.iload 172 i236_170 rfl rfl rfl ?_
          refine X.iadd 173 i236_172 rfl rfl (by omega) ?_
          refine X.lload_n 174 i236_173 rfl rfl rfl ?_
          refine X.last' 175 i236_174 rfl rfl (by decide) rfl (by omega) (fun hrm551 m551 hm551 => ?_)
          have hJ552 := w45_19 hJ544 hm551 (by omega) hrm551
          refine X.aload_n 176 i236_175 rfl rfl rfl ?_
          refine X.getF 179 i236_176 rfl rfl (by decide) rfl rfl ?_
          refine X.bipush 181 i236_179 rfl rfl (by decide) ?_
          refine X.iload 183 i236_181 rfl rfl rfl ?_
          refine X.iadd 184 i236_183 rfl rfl (by omega) ?_
          refine X.aload_n 185 i236_184 rfl rfl rfl ?_
          refine X.getF 188 i236_185 rfl rfl (by decide) rfl rfl ?_
          refine X.iconst 189 i236_188 rfl rfl (by decide) ?_
          refine X.lald 190 i236_189 rfl rfl (by decide) rfl (by omega) ?_
          have h553 := r45_0 hJ552 4
          refine X.last' 191 i236_190 rfl rfl (by decide) rfl (by omega) (fun hrm554 m554 hm554 => ?_)
          have hJ555 := w45_19 hJ552 hm554 (by omega) hrm554
          refine X.retv i236_191 rfl t236 ?_
          exact hQ  m554  (hJ555.up (by omega)) 
        · have h550c : y536 ≤ (m543 4 45 (32 + v548)) := by omega
          clear h550 hz549
          refine X.retv i236_163 rfl t236 ?_
          exact hQ  m543  (hJ544.up (by omega)) 
    · have h532c : (m 4 45 17) < (m 4 45 9) := by omega
      clear h532 hz531
      refine X.retv i236_18 rfl t236 ?_
      exact hQ  m  (hJ.up (by omega)) 
theorem l232_112_1 {s : Nat × (Nat → Int32)} {S : zS} {m0 : zM} {d : Nat} {Q : Option zV → zM → Prop} (y1 y3 : Int) (BE : Int) (hE : BE ≤ 1000000000) (hd : 13 ≤ d) (hy1 : 0 ≤ y1 ∧ y1 ≤ 64)
    (K147 : ∀ (m' : zM) (B' : Int), J S m0 B' m' → B' ≤ BE → X (EE s) d 232 147 [(0, zr 4 44), (1, zl y1), (3, zl y3)] [] m' Q) :
    ∀ (n : Nat) (y5 : Int) (m : zM) (B : Int), J S m0 B m → B + 0 * (n : Int) ≤ BE → (0 ≤ y5 ∧ y5 ≤ 4) → 4 - y5 < (n : Int) → X (EE s) d 232 112 [(0, zr 4 44), (1, zl y1), (3, zl y3), (5, zi y5)] [] m Q := by
  intro n
  induction n with
  | zero =>
    intro y5 m B hJ hB  hy5 hn
    exfalso
    omega
  | succ n ih =>
    intro y5 m B hJ hB  hy5 hn
    refine X.iload 114 i232_112 rfl rfl rfl ?_
    refine X.iconst 115 i232_114 rfl rfl (by decide) ?_
    refine X.icmpge 147 118 i232_115 rfl rfl rfl (fun h505 => ?_) (fun h505 => ?_)
    · refine X.cut [(0, zr 4 44), (1, zl y1), (3, zl y3)] i232_147 rfl ?_
      exact K147  m (B) (hJ.up (by omega)) (by omega)  
    · refine X.aload_n 119 i232_118 rfl rfl rfl ?_
      refine X.getF 122 i232_119 rfl rfl (by decide) rfl rfl ?_
      refine X.sipush 125 i232_122 rfl rfl (by decide) ?_
      refine X.iload 127 i232_125 rfl rfl rfl ?_
      refine X.iadd 128 i232_127 rfl rfl (by omega) ?_
      refine X.dup2 129 i232_128 rfl rfl ?_
      refine X.lald 130 i232_129 rfl rfl (by decide) rfl (by omega) ?_
      refine X.aload_n 131 i232_130 rfl rfl rfl ?_
      refine X.iconst 132 i232_131 rfl rfl (by decide) ?_
      refine X.iconst 133 i232_132 rfl rfl (by decide) ?_
      refine X.iload 135 i232_133 rfl rfl rfl ?_
      refine X.iadd 136 i232_135 rfl rfl (by omega) ?_
      refine X.callv 139 [zi 0, zi (1 + y5)] [zl (m 4 45 (1607 + y5)), zi (1607 + y5), zr 4 45] [(0, zr 4 44), (1, zi 0), (2, zi (1 + y5))] i232_136 rfl (by decide) rfl rfl (by omega) rfl rfl (by decide) rfl t234 (Nat.le_of_ble_eq_true rfl) (Nat.le_of_ble_eq_true rfl) rfl ?_
      refine X.aload_n 1 i234_0 rfl rfl rfl ?_
      refine X.getF 4 i234_1 rfl rfl (by decide) rfl rfl ?_
      refine X.sipush 7 i234_4 rfl rfl (by decide) ?_
      refine X.bipush 9 i234_7 rfl rfl (by decide) ?_
      refine X.iload_n 10 i234_9 rfl rfl rfl ?_
      refine X.imul 11 i234_10 rfl rfl (by omega) ?_
      refine X.iadd 12 i234_11 rfl rfl (by omega) ?_
      refine X.iload_n 13 i234_12 rfl rfl rfl ?_
      refine X.iadd 14 i234_13 rfl rfl (by omega) ?_
      refine X.lald 15 i234_14 rfl rfl (by decide) rfl (by omega) ?_
      refine X.retl i234_15 rfl t234 ?_
      show X (EE s) d 232 139 [(0, zr 4 44), (1, zl y1), (3, zl y3), (5, zi y5)] [zl (m 4 45 ((788 + (6 * 0)) + (1 + y5))), zl (m 4 45 (1607 + y5)), zi (1607 + y5), zr 4 45] m _
      refine X.llF 140 .ladd (fun x y => x + y) i232_139 rfl rfl rfl (fun _ _ => rfl) (fun z506 hz506 => ?_)
      refine X.last' 141 i232_140 rfl rfl (by decide) rfl (by omega) (fun hrm507 m507 hm507 => ?_)
      have hJ508 := w45_788 hJ hm507 (by omega) hrm507
      refine X.iinc 144 [(0, zr 4 44), (1, zl y1), (3, zl y3), (5, zi (y5 + 1))] i232_141 rfl rfl rfl (by omega) rfl ?_
      refine X.goto 112 i232_144 rfl rfl ?_
      exact ih (y5 + 1) m507 (B) (hJ508.up (by omega)) (by omega)  (by omega) (by omega)
theorem l232_151_1 {s : Nat × (Nat → Int32)} {S : zS} {m0 : zM} {d : Nat} {Q : Option zV → zM → Prop} (y1 y3 : Int) (BE : Int) (hE : BE ≤ 1000000000) (hd : 13 ≤ d) (hy1 : 0 ≤ y1 ∧ y1 ≤ 64)
    (K190 : ∀ (m' : zM) (B' : Int), J S m0 B' m' → B' ≤ BE → X (EE s) d 232 190 [(0, zr 4 44), (1, zl y1), (3, zl y3)] [] m' Q) :
    ∀ (n : Nat) (y5 : Int) (m : zM) (B : Int), J S m0 B m → B + 0 * (n : Int) ≤ BE → (6 ≤ y5 ∧ y5 ≤ 384) → 384 - y5 < (n : Int) → X (EE s) d 232 151 [(0, zr 4 44), (1, zl y1), (3, zl y3), (5, zi y5)] [] m Q := by
  intro n
  induction n with
  | zero =>
    intro y5 m B hJ hB  hy5 hn
    exfalso
    omega
  | succ n ih =>
    intro y5 m B hJ hB  hy5 hn
    refine X.iload 153 i232_151 rfl rfl rfl ?_
    refine X.sipush 156 i232_153 rfl rfl (by decide) ?_
    refine X.icmpge 190 159 i232_156 rfl rfl rfl (fun h504 => ?_) (fun h504 => ?_)
    · refine X.cut [(0, zr 4 44), (1, zl y1), (3, zl y3)] i232_190 rfl ?_
      exact K190  m (B) (hJ.up (by omega)) (by omega)  
    · refine X.aload_n 160 i232_159 rfl rfl rfl ?_
      refine X.getF 163 i232_160 rfl rfl (by decide) rfl rfl ?_
      refine X.sipush 166 i232_163 rfl rfl (by decide) ?_
      refine X.iload 168 i232_166 rfl rfl rfl ?_
      refine X.iadd 169 i232_168 rfl rfl (by omega) ?_
      refine X.bipush 171 i232_169 rfl rfl (by decide) ?_
      refine X.isub 172 i232_171 rfl rfl (by omega) ?_
      refine X.aload_n 173 i232_172 rfl rfl rfl ?_
      refine X.getF 176 i232_173 rfl rfl (by decide) rfl rfl ?_
      refine X.sipush 179 i232_176 rfl rfl (by decide) ?_
      refine X.iload 181 i232_179 rfl rfl rfl ?_
      refine X.iadd 182 i232_181 rfl rfl (by omega) ?_
      refine X.lald 183 i232_182 rfl rfl (by decide) rfl (by omega) ?_
      refine X.last' 184 i232_183 rfl rfl (by decide) rfl (by omega) (fun hrm505 m505 hm505 => ?_)
      have hJ506 := w45_788 hJ hm505 (by omega) hrm505
      refine X.iinc 187 [(0, zr 4 44), (1, zl y1), (3, zl y3), (5, zi (y5 + 1))] i232_184 rfl rfl rfl (by omega) rfl ?_
      refine X.goto 151 i232_187 rfl rfl ?_
      exact ih (y5 + 1) m505 (B) (hJ506.up (by omega)) (by omega)  (by omega) (by omega)
