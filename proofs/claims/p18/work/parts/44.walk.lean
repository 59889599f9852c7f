-- WorkMeterModel.tableLine
theorem c269_1 {s : Nat × (Nat → Int32)} {S : zS} {m0 m : zM} {B : Int} {d : Nat} {Q : Option zV → zM → Prop} (hd : 15 ≤ d) (hJ : J S m0 B m) (hB : B + 0 ≤ 1000000000) (hQ : ∀ m', J S m0 (B) m' → Q none m') : X (EE s) d 269 0 [(0, zr 4 44)] [] m Q := by
  refine X.aload_n 1 i269_0 rfl rfl rfl ?_
  refine X.iconst 2 i269_1 rfl rfl (by decide) ?_
  refine X.bipush 4 i269_2 rfl rfl (by decide) ?_
  refine X.callv 7 [zi 0, zi 7] [] [(0, zr 4 44), (1, zi 0), (2, zi 7)] i269_4 rfl (by decide) rfl rfl (by omega) rfl rfl (by decide) rfl t270 (Nat.le_of_ble_eq_true rfl) (Nat.le_of_ble_eq_true rfl) rfl ?_
  refine c270_1 (S := zfr [] S) (m0 := m) (B := B)  0 7 (by omega) (hJ.ow.up (by omega)) (by omega) (by omega) (by omega) (fun v503 m501 hv503 hJ502 hqv5030 hqv5031 => ?_)
  have hJ504 := hJ.trans hJ502 zi_n
  have mom501 := hJ502.mo rfl rfl
  show X (EE s) d 269 7 [(0, zr 4 44)] [zi v503] m501 _
  refine X.istore_n 8 [(0, zr 4 44), (1, zi v503)] i269_7 rfl rfl rfl ?_
  refine X.aload_n 9 i269_8 rfl rfl rfl ?_
  refine X.getZ 12 9 i269_9 rfl rfl (by decide) rfl rfl rfl (fun h505 => ?_)
  refine X.ifne 33 15 i269_12 rfl rfl rfl (fun h506 => ?_) (fun h506 => ?_)
  · refine X.aload_n 34 i269_33 rfl rfl rfl ?_
    refine X.getF 37 i269_34 rfl rfl (by decide) rfl rfl ?_
    refine X.iload_n 38 i269_37 rfl rfl rfl ?_
    refine X.iconst 39 i269_38 rfl rfl (by decide) ?_
    refine X.zast' 40 i269_39 rfl rfl (by decide) rfl (by omega) (by omega) (fun hrm507 m507 hm507 => ?_)
    have hJ508 := w49_0 hJ504 hm507 (by omega) hrm507
    have wmm5078 : m507 4 44 8 = m501 4 44 8 := by rw [hm507]; exact z_upd_o _ _ rfl
    have wmm5079 : m507 4 44 9 = m501 4 44 9 := by rw [hm507]; exact z_upd_o _ _ rfl
    have wmm50710 : m507 4 44 10 = m501 4 44 10 := by rw [hm507]; exact z_upd_o _ _ rfl
    refine l269_40_1 (s := s) (S := (zfr [] S)) (m0 := m507) (d := d)  v503 (BE := B + 0) (by omega) (by omega) (by omega) (fun  m509 B510 hJ511 hBB510 => ?_) ((604 - m507 4 44 8 - 302 * m507 4 44 9 : Int).toNat + 1)  m507 (B) (hJ508.ow.up (by omega)) (by omega)   (by omega)
    have hJ512 := hJ508.trans hJ511 zi_n
    have mom509 := hJ511.mo rfl rfl
    refine X.retv i269_175 rfl t269 ?_
    exact hQ  m509  (hJ512.up (by omega)) 
  · refine X.aload_n 16 i269_15 rfl rfl rfl ?_
    refine X.getF 19 i269_16 rfl rfl (by decide) rfl rfl ?_
    refine X.iload_n 20 i269_19 rfl rfl rfl ?_
    refine X.zald 21 i269_20 rfl rfl (by decide) rfl (by omega) (fun h513 => ?_)
    refine X.ifeq 33 24 i269_21 rfl rfl rfl (fun h514 => ?_) (fun h514 => ?_)
    · refine X.aload_n 34 i269_33 rfl rfl rfl ?_
      refine X.getF 37 i269_34 rfl rfl (by decide) rfl rfl ?_
      refine X.iload_n 38 i269_37 rfl rfl rfl ?_
      refine X.iconst 39 i269_38 rfl rfl (by decide) ?_
      refine X.zast' 40 i269_39 rfl rfl (by decide) rfl (by omega) (by omega) (fun hrm515 m515 hm515 => ?_)
      have hJ516 := w49_0 hJ504 hm515 (by omega) hrm515
      have wmm5158 : m515 4 44 8 = m501 4 44 8 := by rw [hm515]; exact z_upd_o _ _ rfl
      have wmm5159 : m515 4 44 9 = m501 4 44 9 := by rw [hm515]; exact z_upd_o _ _ rfl
      have wmm51510 : m515 4 44 10 = m501 4 44 10 := by rw [hm515]; exact z_upd_o _ _ rfl
      refine l269_40_1 (s := s) (S := (zfr [] S)) (m0 := m515) (d := d)  v503 (BE := B + 0) (by omega) (by omega) (by omega) (fun  m517 B518 hJ519 hBB518 => ?_) ((604 - m515 4 44 8 - 302 * m515 4 44 9 : Int).toNat + 1)  m515 (B) (hJ516.ow.up (by omega)) (by omega)   (by omega)
      have hJ520 := hJ516.trans hJ519 zi_n
      have mom517 := hJ519.mo rfl rfl
      refine X.retv i269_175 rfl t269 ?_
      exact hQ  m517  (hJ520.up (by omega)) 
    · refine X.aload_n 25 i269_24 rfl rfl rfl ?_
      refine X.iconst 26 i269_25 rfl rfl (by decide) ?_
      refine X.aload_n 27 i269_26 rfl rfl rfl ?_
      refine X.getIr 30 10 i269_27 rfl rfl (by decide) rfl rfl rfl (fun h521 => ?_)
      refine X.callv 33 [zi 3, zi (m501 4 44 10)] [] [(0, zr 4 44), (1, zi 3), (2, zi (m501 4 44 10))] i269_30 rfl (by decide) rfl rfl (by omega) rfl rfl (by decide) rfl t268 (Nat.le_of_ble_eq_true rfl) (Nat.le_of_ble_eq_true rfl) rfl ?_
      refine c268_3 (S := zfr [] S) (m0 := m501) (B := B)  3 (m501 4 44 10) (by omega) (hJ504.ow.up (by omega)) (by omega) (by omega) (by omega) (fun m522 hJ523 hqv5240 => ?_)
      have hJ525 := hJ504.trans hJ523 zi_n
      have mom522 := hJ523.mo rfl rfl
      show X (EE s) d 269 33 [(0, zr 4 44), (1, zi v503)] [] m522 _
      refine X.aload_n 34 i269_33 rfl rfl rfl ?_
      refine X.getF 37 i269_34 rfl rfl (by decide) rfl rfl ?_
      refine X.iload_n 38 i269_37 rfl rfl rfl ?_
      refine X.iconst 39 i269_38 rfl rfl (by decide) ?_
      refine X.zast' 40 i269_39 rfl rfl (by decide) rfl (by omega) (by omega) (fun hrm526 m526 hm526 => ?_)
      have hJ527 := w49_0 hJ525 hm526 (by omega) hrm526
      have wmm5268 : m526 4 44 8 = m522 4 44 8 := by rw [hm526]; exact z_upd_o _ _ rfl
      have wmm5269 : m526 4 44 9 = m522 4 44 9 := by rw [hm526]; exact z_upd_o _ _ rfl
      have wmm52610 : m526 4 44 10 = m522 4 44 10 := by rw [hm526]; exact z_upd_o _ _ rfl
      refine l269_40_1 (s := s) (S := (zfr [] S)) (m0 := m526) (d := d)  v503 (BE := B + 0) (by omega) (by omega) (by omega) (fun  m528 B529 hJ530 hBB529 => ?_) ((604 - m526 4 44 8 - 302 * m526 4 44 9 : Int).toNat + 1)  m526 (B) (hJ527.ow.up (by omega)) (by omega)   (by omega)
      have hJ531 := hJ527.trans hJ530 zi_n
      have mom528 := hJ530.mo rfl rfl
      refine X.retv i269_175 rfl t269 ?_
      exact hQ  m528  (hJ531.up (by omega)) 
theorem l264_123_1 {s : Nat × (Nat → Int32)} {S : zS} {m0 : zM} {d : Nat} {Q : Option zV → zM → Prop} (BE : Int) (hE : BE ≤ 1000000000) (hd : 15 ≤ d)
    (K151 : ∀ (m' : zM) (B' : Int), J S m0 B' m' → B' ≤ BE → X (EE s) d 264 151 [(0, zr 4 44)] [] m' Q) :
    ∀ (n : Nat) (y3 : Int) (m : zM) (B : Int), J S m0 B m → B + 0 * (n : Int) ≤ BE → (0 ≤ y3 ∧ y3 ≤ 4) → 4 - y3 < (n : Int) → X (EE s) d 264 123 [(0, zr 4 44), (3, zi y3)] [] m Q := by
  intro n
  induction n with
  | zero =>
    intro y3 m B hJ hB  hy3 hn
    exfalso
    omega
  | succ n ih =>
    intro y3 m B hJ hB  hy3 hn
    refine X.iload_n 124 i264_123 rfl rfl rfl ?_
    refine X.iconst 125 i264_124 rfl rfl (by decide) ?_
    refine X.icmpge 151 128 i264_125 rfl rfl rfl (fun h508 => ?_) (fun h508 => ?_)
    · refine X.cut [(0, zr 4 44)] i264_151 rfl ?_
      exact K151  m (B) (hJ.up (by omega)) (by omega)  
    · refine X.aload_n 129 i264_128 rfl rfl rfl ?_
      refine X.getF 132 i264_129 rfl rfl (by decide) rfl rfl ?_
      refine X.bipush 134 i264_132 rfl rfl (by decide) ?_
      refine X.iload_n 135 i264_134 rfl rfl rfl ?_
      refine X.iadd 136 i264_135 rfl rfl (by omega) ?_
      refine X.aload_n 137 i264_136 rfl rfl rfl ?_
      refine X.iconst 138 i264_137 rfl rfl (by decide) ?_
      refine X.bipush 140 i264_138 rfl rfl (by decide) ?_
      refine X.callv 143 [zi 0, zi 100] [zi (28 + y3), zr 4 45] [(0, zr 4 44), (1, zi 0), (2, zi 100)] i264_140 rfl (by decide) rfl rfl (by omega) rfl rfl (by decide) rfl t270 (Nat.le_of_ble_eq_true rfl) (Nat.le_of_ble_eq_true rfl) rfl ?_
      refine c270_1 (S := zfr [] S) (m0 := m) (B := B)  0 100 (by omega) (hJ.ow.up (by omega)) (by omega) (by omega) (by omega) (fun v511 m509 hv511 hJ510 hqv5110 hqv5111 => ?_)
      have hJ512 := hJ.trans hJ510 zi_n
      have mom509 := hJ510.mo rfl rfl
      show X (EE s) d 264 143 [(0, zr 4 44), (3, zi y3)] [zi v511, zi (28 + y3), zr 4 45] m509 _
      refine X.i2l 144 i264_143 rfl rfl ?_
      refine X.last' 145 i264_144 rfl rfl (by decide) rfl (by omega) (fun hrm513 m513 hm513 => ?_)
      have hJ514 := w45_19 hJ512 hm513 (by omega) hrm513
      have wmm5138 : m513 4 44 8 = m509 4 44 8 := by rw [hm513]; exact z_upd_o _ _ rfl
      have wmm5139 : m513 4 44 9 = m509 4 44 9 := by rw [hm513]; exact z_upd_o _ _ rfl
      have wmm51310 : m513 4 44 10 = m509 4 44 10 := by rw [hm513]; exact z_upd_o _ _ rfl
      refine X.iinc 148 [(0, zr 4 44), (3, zi (y3 + 1))] i264_145 rfl rfl rfl (by omega) rfl ?_
      refine X.goto 123 i264_148 rfl rfl ?_
      exact ih (y3 + 1) m513 (B) (hJ514.up (by omega)) (by omega)  (by omega) (by omega)
-- WorkMeterModel.line
theorem c264_1 {s : Nat × (Nat → Int32)} {S : zS} {m0 m : zM} {B : Int} {d : Nat} {Q : Option zV → zM → Prop} (hd : 16 ≤ d) (hJ : J S m0 B m) (hB : B + 0 ≤ 1000000000) (hQ : ∀ m', J S m0 (B) m' → (m' 4 44 9 = 1 ∨ m 4 44 8 < m' 4 44 8) → Q none m') : X (EE s) d 264 0 [(0, zr 4 44)] [] m Q := by
  refine X.aload_n 1 i264_0 rfl rfl rfl ?_
  refine X.getI 4 8 i264_1 rfl rfl (by decide) rfl rfl rfl ?_
  have h501 := r44_8 hJ 4
  refine X.istore_n 5 [(0, zr 4 44), (1, zi (m 4 44 8))] i264_4 rfl rfl rfl ?_
  refine X.aload_n 6 i264_5 rfl rfl rfl ?_
  refine X.callv 9 [] [] [(0, zr 4 44)] i264_6 rfl (by decide) rfl rfl (by omega) rfl rfl (by decide) rfl t265 (Nat.le_of_ble_eq_true rfl) (Nat.le_of_ble_eq_true rfl) rfl ?_
  refine c265_1 (B := B)   (by omega) (hJ.up (by omega)) (by omega)  (fun v504 hv504 => ?_)
  show X (EE s) d 264 9 [(0, zr 4 44), (1, zi (m 4 44 8))] [zi v504] m _
  refine X.istore_n 10 [(0, zr 4 44), (1, zi (m 4 44 8)), (2, zi v504)] i264_9 rfl rfl rfl ?_
  refine X.iload_n 11 i264_10 rfl rfl rfl ?_
  refine X.ifne 20 14 i264_11 rfl rfl rfl (fun h505 => ?_) (fun h505 => ?_)
  · refine X.iload_n 21 i264_20 rfl rfl rfl ?_
    refine X.iconst 22 i264_21 rfl rfl (by decide) ?_
    refine X.icmpne 40 25 i264_22 rfl rfl rfl (fun h506 => ?_) (fun h506 => ?_)
    · refine X.iload_n 41 i264_40 rfl rfl rfl ?_
      refine X.iconst 42 i264_41 rfl rfl (by decide) ?_
      refine X.icmpne 58 45 i264_42 rfl rfl rfl (fun h507 => ?_) (fun h507 => ?_)
      · refine X.cut [(0, zr 4 44), (2, zi v504)] i264_58 rfl ?_
        refine X.aload_n 59 i264_58 rfl rfl rfl ?_
        refine X.aload_n 60 i264_59 rfl rfl rfl ?_
        refine X.callv 63 [] [zr 4 44] [(0, zr 4 44)] i264_60 rfl (by decide) rfl rfl (by omega) rfl rfl (by decide) rfl t267 (Nat.le_of_ble_eq_true rfl) (Nat.le_of_ble_eq_true rfl) rfl ?_
        refine c267_1 (B := B)   (by omega) (hJ.up (by omega)) (by omega)  (fun v510 hv510 hqv5100 => ?_)
        show X (EE s) d 264 63 [(0, zr 4 44), (2, zi v504)] [zi v510, zr 4 44] m _
        refine X.putI' 66 8 i264_63 rfl rfl (by decide) rfl rfl rfl (fun hrm511 m511 hm511 => ?_)
        have rmm511 := r44_8 hJ 4
        have hJ512 := w44_8 hJ hm511 (by omega) (.inl (by omega))
        have em511 : m511 4 44 8 = v510 := by rw [hm511]; exact z_upd_same _ _ _ _ _
        have wmm5119 : m511 4 44 9 = m 4 44 9 := by rw [hm511]; exact z_upd_o _ _ rfl
        have wmm51110 : m511 4 44 10 = m 4 44 10 := by rw [hm511]; exact z_upd_o _ _ rfl
        refine X.aload_n 67 i264_66 rfl rfl rfl ?_
        refine X.getZ 70 9 i264_67 rfl rfl (by decide) rfl rfl rfl (fun h513 => ?_)
        refine X.ifeq 74 73 i264_70 rfl rfl rfl (fun h514 => ?_) (fun h514 => ?_)
        · refine X.iload_n 75 i264_74 rfl rfl rfl ?_
          refine X.iconst 76 i264_75 rfl rfl (by decide) ?_
          refine X.icmpne 83 79 i264_76 rfl rfl rfl (fun h515 => ?_) (fun h515 => ?_)
          · refine X.iload_n 84 i264_83 rfl rfl rfl ?_
            refine X.iconst 85 i264_84 rfl rfl (by decide) ?_
            refine X.icmpne 92 88 i264_85 rfl rfl rfl (fun h516 => ?_) (fun h516 => ?_)
            · refine X.iload_n 93 i264_92 rfl rfl rfl ?_
              refine X.iconst 94 i264_93 rfl rfl (by decide) ?_
              refine X.icmpne 111 97 i264_94 rfl rfl rfl (fun h517 => (by exfalso; omega)) (fun h517 => ?_)
              refine X.aload_n 98 i264_97 rfl rfl rfl ?_
              refine X.dup 99 i264_98 rfl rfl rfl ?_
              refine X.getIr 102 13 i264_99 rfl rfl (by decide) rfl rfl rfl (fun h518 => ?_)
              refine X.iconst 103 i264_102 rfl rfl (by decide) ?_
              refine X.iiF 104 .iadd (fun x y => x + y) i264_103 rfl rfl rfl (fun _ _ => rfl) (fun z519 hz519 => ?_)
              refine X.putI' 107 13 i264_104 rfl rfl (by decide) rfl rfl rfl (fun hrm520 m520 hm520 => ?_)
              have hJ521 := w44_10 hJ512 hm520 (by omega) hrm520
              have wmm5208 : m520 4 44 8 = m511 4 44 8 := by rw [hm520]; exact z_upd_o _ _ rfl
              have wmm5209 : m520 4 44 9 = m511 4 44 9 := by rw [hm520]; exact z_upd_o _ _ rfl
              have wmm52010 : m520 4 44 10 = m511 4 44 10 := by rw [hm520]; exact z_upd_o _ _ rfl
              refine X.aload_n 108 i264_107 rfl rfl rfl ?_
              refine X.callv 111 [] [] [(0, zr 4 44)] i264_108 rfl (by decide) rfl rfl (by omega) rfl rfl (by decide) rfl t275 (Nat.le_of_ble_eq_true rfl) (Nat.le_of_ble_eq_true rfl) rfl ?_
              refine c275_1 (S := zfr [] S) (m0 := m520) (B := B)   (by omega) (hJ521.ow.up (by omega)) (by omega)  (fun m522 hJ523 => ?_)
              have hJ525 := hJ521.trans hJ523 zi_n
              have mom522 := hJ523.mo rfl rfl
              show X (EE s) d 264 111 [(0, zr 4 44), (2, zi v504)] [] m522 _
              refine X.iload_n 112 i264_111 rfl rfl rfl ?_
              refine X.iconst 113 i264_112 rfl rfl (by decide) ?_
              refine X.icmpne 151 116 i264_113 rfl rfl rfl (fun h526 => ?_) (fun h526 => (by exfalso; omega))
              refine X.cut [(0, zr 4 44)] i264_151 rfl ?_
              refine X.aload_n 152 i264_151 rfl rfl rfl ?_
              refine X.bipush 154 i264_152 rfl rfl (by decide) ?_
              refine X.callv 157 [zi 59] [] [(0, zr 4 44), (1, zi 59)] i264_154 rfl (by decide) rfl rfl (by omega) rfl rfl (by decide) rfl t272 (Nat.le_of_ble_eq_true rfl) (Nat.le_of_ble_eq_true rfl) rfl ?_
              refine c272_1 (S := zfr [] S) (m0 := m522) (B := B)  59 (by omega) (hJ525.ow.up (by omega)) (by omega) (by omega) (fun m527 hJ528 hqv5290 => ?_)
              have hJ530 := hJ525.trans hJ528 zi_n
              have mom527 := hJ528.mo rfl rfl
              show X (EE s) d 264 157 [(0, zr 4 44)] [] m527 _
              refine X.retv i264_157 rfl t264 ?_
              exact hQ  m527  (hJ530.up (by omega)) (by omega)
            · refine X.aload_n 89 i264_88 rfl rfl rfl ?_
              refine X.callv 92 [] [] [(0, zr 4 44)] i264_89 rfl (by decide) rfl rfl (by omega) rfl rfl (by decide) rfl t274 (Nat.le_of_ble_eq_true rfl) (Nat.le_of_ble_eq_true rfl) rfl ?_
              refine c274_1 (S := zfr [] S) (m0 := m511) (B := B)   (by omega) (hJ512.ow.up (by omega)) (by omega)  (fun m531 hJ532 => ?_)
              have hJ534 := hJ512.trans hJ532 zi_n
              have mom531 := hJ532.mo rfl rfl
              show X (EE s) d 264 92 [(0, zr 4 44), (2, zi v504)] [] m531 _
              refine X.iload_n 93 i264_92 rfl rfl rfl ?_
              refine X.iconst 94 i264_93 rfl rfl (by decide) ?_
              refine X.icmpne 111 97 i264_94 rfl rfl rfl (fun h535 => ?_) (fun h535 => (by exfalso; omega))
              refine X.iload_n 112 i264_111 rfl rfl rfl ?_
              refine X.iconst 113 i264_112 rfl rfl (by decide) ?_
              refine X.icmpne 151 116 i264_113 rfl rfl rfl (fun h536 => ?_) (fun h536 => (by exfalso; omega))
              refine X.cut [(0, zr 4 44)] i264_151 rfl ?_
              refine X.aload_n 152 i264_151 rfl rfl rfl ?_
              refine X.bipush 154 i264_152 rfl rfl (by decide) ?_
              refine X.callv 157 [zi 59] [] [(0, zr 4 44), (1, zi 59)] i264_154 rfl (by decide) rfl rfl (by omega) rfl rfl (by decide) rfl t272 (Nat.le_of_ble_eq_true rfl) (Nat.le_of_ble_eq_true rfl) rfl ?_
              refine c272_1 (S := zfr [] S) (m0 := m531) (B := B)  59 (by omega) (hJ534.ow.up (by omega)) (by omega) (by omega) (fun m537 hJ538 hqv5390 => ?_)
              have hJ540 := hJ534.trans hJ538 zi_n
              have mom537 := hJ538.mo rfl rfl
              show X (EE s) d 264 157 [(0, zr 4 44)] [] m537 _
              refine X.retv i264_157 rfl t264 ?_
              exact hQ  m537  (hJ540.up (by omega)) (by omega)
          · refine X.aload_n 80 i264_79 rfl rfl rfl ?_
            refine X.callv 83 [] [] [(0, zr 4 44)] i264_80 rfl (by decide) rfl rfl (by omega) rfl rfl (by decide) rfl t269 (Nat.le_of_ble_eq_true rfl) (Nat.le_of_ble_eq_true rfl) rfl ?_
            refine c269_1 (S := zfr [] S) (m0 := m511) (B := B)   (by omega) (hJ512.ow.up (by omega)) (by omega)  (fun m541 hJ542 => ?_)
            have hJ544 := hJ512.trans hJ542 zi_n
            have mom541 := hJ542.mo rfl rfl
            show X (EE s) d 264 83 [(0, zr 4 44), (2, zi v504)] [] m541 _
            refine X.iload_n 84 i264_83 rfl rfl rfl ?_
            refine X.iconst 85 i264_84 rfl rfl (by decide) ?_
            refine X.icmpne 92 88 i264_85 rfl rfl rfl (fun h545 => ?_) (fun h545 => (by exfalso; omega))
            refine X.iload_n 93 i264_92 rfl rfl rfl ?_
            refine X.iconst 94 i264_93 rfl rfl (by decide) ?_
            refine X.icmpne 111 97 i264_94 rfl rfl rfl (fun h546 => ?_) (fun h546 => (by exfalso; omega))
            refine X.iload_n 112 i264_111 rfl rfl rfl ?_
            refine X.iconst 113 i264_112 rfl rfl (by decide) ?_
            refine X.icmpne 151 116 i264_113 rfl rfl rfl (fun h547 => ?_) (fun h547 => (by exfalso; omega))
            refine X.cut [(0, zr 4 44)] i264_151 rfl ?_
            refine X.aload_n 152 i264_151 rfl rfl rfl ?_
            refine X.bipush 154 i264_152 rfl rfl (by decide) ?_
            refine X.callv 157 [zi 59] [] [(0, zr 4 44), (1, zi 59)] i264_154 rfl (by decide) rfl rfl (by omega) rfl rfl (by decide) rfl t272 (Nat.le_of_ble_eq_true rfl) (Nat.le_of_ble_eq_true rfl) rfl ?_
            refine c272_1 (S := zfr [] S) (m0 := m541) (B := B)  59 (by omega) (hJ544.ow.up (by omega)) (by omega) (by omega) (fun m548 hJ549 hqv5500 => ?_)
            have hJ551 := hJ544.trans hJ549 zi_n
            have mom548 := hJ549.mo rfl rfl
            show X (EE s) d 264 157 [(0, zr 4 44)] [] m548 _
            refine X.retv i264_157 rfl t264 ?_
            exact hQ  m548  (hJ551.up (by omega)) (by omega)
        · refine X.retv i264_73 rfl t264 ?_
          exact hQ  m511  (hJ512.up (by omega)) (by omega)
      · refine X.aload_n 46 i264_45 rfl rfl rfl ?_
        refine X.getZ 49 14 i264_46 rfl rfl (by decide) rfl rfl rfl (fun h552 => ?_)
        refine X.ifeq 58 52 i264_49 rfl rfl rfl (fun h553 => ?_) (fun h553 => ?_)
        · refine X.cut [(0, zr 4 44), (2, zi v504)] i264_58 rfl ?_
          refine X.aload_n 59 i264_58 rfl rfl rfl ?_
          refine X.aload_n 60 i264_59 rfl rfl rfl ?_
          refine X.callv 63 [] [zr 4 44] [(0, zr 4 44)] i264_60 rfl (by decide) rfl rfl (by omega) rfl rfl (by decide) rfl t267 (Nat.le_of_ble_eq_true rfl) (Nat.le_of_ble_eq_true rfl) rfl ?_
          refine c267_1 (B := B)   (by omega) (hJ.up (by omega)) (by omega)  (fun v556 hv556 hqv5560 => ?_)
          show X (EE s) d 264 63 [(0, zr 4 44), (2, zi v504)] [zi v556, zr 4 44] m _
          refine X.putI' 66 8 i264_63 rfl rfl (by decide) rfl rfl rfl (fun hrm557 m557 hm557 => ?_)
          have rmm557 := r44_8 hJ 4
          have hJ558 := w44_8 hJ hm557 (by omega) (.inl (by omega))
          have em557 : m557 4 44 8 = v556 := by rw [hm557]; exact z_upd_same _ _ _ _ _
          have wmm5579 : m557 4 44 9 = m 4 44 9 := by rw [hm557]; exact z_upd_o _ _ rfl
          have wmm55710 : m557 4 44 10 = m 4 44 10 := by rw [hm557]; exact z_upd_o _ _ rfl
          refine X.aload_n 67 i264_66 rfl rfl rfl ?_
          refine X.getZ 70 9 i264_67 rfl rfl (by decide) rfl rfl rfl (fun h559 => ?_)
          refine X.ifeq 74 73 i264_70 rfl rfl rfl (fun h560 => ?_) (fun h560 => ?_)
          · refine X.iload_n 75 i264_74 rfl rfl rfl ?_
            refine X.iconst 76 i264_75 rfl rfl (by decide) ?_
            refine X.icmpne 83 79 i264_76 rfl rfl rfl (fun h561 => ?_) (fun h561 => (by exfalso; omega))
            refine X.iload_n 84 i264_83 rfl rfl rfl ?_
            refine X.iconst 85 i264_84 rfl rfl (by decide) ?_
            refine X.icmpne 92 88 i264_85 rfl rfl rfl (fun h562 => ?_) (fun h562 => (by exfalso; omega))
            refine X.iload_n 93 i264_92 rfl rfl rfl ?_
            refine X.iconst 94 i264_93 rfl rfl (by decide) ?_
            refine X.icmpne 111 97 i264_94 rfl rfl rfl (fun h563 => ?_) (fun h563 => (by exfalso; omega))
            refine X.iload_n 112 i264_111 rfl rfl rfl ?_
            refine X.iconst 113 i264_112 rfl rfl (by decide) ?_
            refine X.icmpne 151 116 i264_113 rfl rfl rfl (fun h564 => (by exfalso; omega)) (fun h564 => ?_)
            refine X.aload_n 117 i264_116 rfl rfl rfl ?_
            refine X.iconst 118 i264_117 rfl rfl (by decide) ?_
            refine X.putZ' 121 14 i264_118 rfl rfl (by decide) rfl rfl rfl (by omega) (fun hrm565 m565 hm565 => ?_)
            have hJ566 := w44_14 hJ558 hm565 (by omega)
            have wmm5658 : m565 4 44 8 = m557 4 44 8 := by rw [hm565]; exact z_upd_o _ _ rfl
            have wmm5659 : m565 4 44 9 = m557 4 44 9 := by rw [hm565]; exact z_upd_o _ _ rfl
            have wmm56510 : m565 4 44 10 = m557 4 44 10 := by rw [hm565]; exact z_upd_o _ _ rfl
            refine X.iconst 122 i264_121 rfl rfl (by decide) ?_
            refine X.istore_n 123 [(0, zr 4 44), (2, zi v504), (3, zi 0)] i264_122 rfl rfl rfl ?_
            refine X.cut [(0, zr 4 44), (3, zi 0)] i264_123 rfl ?_
            refine l264_123_1 (s := s) (S := (zfr [] S)) (m0 := m565) (d := d)   (BE := B + 0) (by omega) (by omega) (fun  m567 B568 hJ569 hBB568 => ?_) ((4 - 0 : Int).toNat + 1) 0 m565 (B) (hJ566.ow.up (by omega)) (by omega)  (by omega) (by omega)
            have hJ570 := hJ566.trans hJ569 zi_n
            have mom567 := hJ569.mo rfl rfl
            refine X.aload_n 152 i264_151 rfl rfl rfl ?_
            refine X.bipush 154 i264_152 rfl rfl (by decide) ?_
            refine X.callv 157 [zi 59] [] [(0, zr 4 44), (1, zi 59)] i264_154 rfl (by decide) rfl rfl (by omega) rfl rfl (by decide) rfl t272 (Nat.le_of_ble_eq_true rfl) (Nat.le_of_ble_eq_true rfl) rfl ?_
            refine c272_1 (S := zfr [] S) (m0 := m567) (B := B568)  59 (by omega) (hJ570.ow.up (by omega)) (by omega) (by omega) (fun m571 hJ572 hqv5730 => ?_)
            have hJ574 := hJ570.trans hJ572 zi_n
            have mom571 := hJ572.mo rfl rfl
            show X (EE s) d 264 157 [(0, zr 4 44)] [] m571 _
            refine X.retv i264_157 rfl t264 ?_
            exact hQ  m571  (hJ574.up (by omega)) (by omega)
          · refine X.retv i264_73 rfl t264 ?_
            exact hQ  m557  (hJ558.up (by omega)) (by omega)
        · refine X.aload_n 53 i264_52 rfl rfl rfl ?_
          refine X.iconst 54 i264_53 rfl rfl (by decide) ?_
          refine X.iload_n 55 i264_54 rfl rfl rfl ?_
          refine X.callv 58 [zi 3, zi (m 4 44 8)] [] [(0, zr 4 44), (1, zi 3), (2, zi (m 4 44 8))] i264_55 rfl (by decide) rfl rfl (by omega) rfl rfl (by decide) rfl t268 (Nat.le_of_ble_eq_true rfl) (Nat.le_of_ble_eq_true rfl) rfl ?_
          refine c268_3 (S := zfr [] S) (m0 := m) (B := B)  3 (m 4 44 8) (by omega) (hJ.ow.up (by omega)) (by omega) (by omega) (by omega) (fun m575 hJ576 hqv5770 => ?_)
          have hJ578 := hJ.trans hJ576 zi_n
          have mom575 := hJ576.mo rfl rfl
          show X (EE s) d 264 58 [(0, zr 4 44), (1, zi (m 4 44 8)), (2, zi v504)] [] m575 _
          refine X.cut [(0, zr 4 44), (2, zi v504)] i264_58 rfl ?_
          refine X.aload_n 59 i264_58 rfl rfl rfl ?_
          refine X.aload_n 60 i264_59 rfl rfl rfl ?_
          refine X.callv 63 [] [zr 4 44] [(0, zr 4 44)] i264_60 rfl (by decide) rfl rfl (by omega) rfl rfl (by decide) rfl t267 (Nat.le_of_ble_eq_true rfl) (Nat.le_of_ble_eq_true rfl) rfl ?_
          refine c267_1 (B := B)   (by omega) (hJ578.up (by omega)) (by omega)  (fun v581 hv581 hqv5810 => ?_)
          show X (EE s) d 264 63 [(0, zr 4 44), (2, zi v504)] [zi v581, zr 4 44] m575 _
          refine X.putI' 66 8 i264_63 rfl rfl (by decide) rfl rfl rfl (fun hrm582 m582 hm582 => ?_)
          have rmm582 := r44_8 hJ578 4
          have hJ583 := w44_8 hJ578 hm582 (by omega) (.inl (by omega))
          have em582 : m582 4 44 8 = v581 := by rw [hm582]; exact z_upd_same _ _ _ _ _
          have wmm5829 : m582 4 44 9 = m575 4 44 9 := by rw [hm582]; exact z_upd_o _ _ rfl
          have wmm58210 : m582 4 44 10 = m575 4 44 10 := by rw [hm582]; exact z_upd_o _ _ rfl
          refine X.aload_n 67 i264_66 rfl rfl rfl ?_
          refine X.getZ 70 9 i264_67 rfl rfl (by decide) rfl rfl rfl (fun h584 => ?_)
          refine X.ifeq 74 73 i264_70 rfl rfl rfl (fun h585 => ?_) (fun h585 => ?_)
          · refine X.iload_n 75 i264_74 rfl rfl rfl ?_
            refine X.iconst 76 i264_75 rfl rfl (by decide) ?_
            refine X.icmpne 83 79 i264_76 rfl rfl rfl (fun h586 => ?_) (fun h586 => (by exfalso; omega))
            refine X.iload_n 84 i264_83 rfl rfl rfl ?_
            refine X.iconst 85 i264_84 rfl rfl (by decide) ?_
            refine X.icmpne 92 88 i264_85 rfl rfl rfl (fun h587 => ?_) (fun h587 => (by exfalso; omega))
            refine X.iload_n 93 i264_92 rfl rfl rfl ?_
            refine X.iconst 94 i264_93 rfl rfl (by decide) ?_
            refine X.icmpne 111 97 i264_94 rfl rfl rfl (fun h588 => ?_) (fun h588 => (by exfalso; omega))
            refine X.iload_n 112 i264_111 rfl rfl rfl ?_
            refine X.iconst 113 i264_112 rfl rfl (by decide) ?_
            refine X.icmpne 151 116 i264_113 rfl rfl rfl (fun h589 => (by exfalso; omega)) (fun h589 => ?_)
            refine X.aload_n 117 i264_116 rfl rfl rfl ?_
            refine X.iconst 118 i264_117 rfl rfl (by decide) ?_
            refine X.putZ' 121 14 i264_118 rfl rfl (by decide) rfl rfl rfl (by omega) (fun hrm590 m590 hm590 => ?_)
            have hJ591 := w44_14 hJ583 hm590 (by omega)
            have wmm5908 : m590 4 44 8 = m582 4 44 8 := by rw [hm590]; exact z_upd_o _ _ rfl
            have wmm5909 : m590 4 44 9 = m582 4 44 9 := by rw [hm590]; exact z_upd_o _ _ rfl
            have wmm59010 : m590 4 44 10 = m582 4 44 10 := by rw [hm590]; exact z_upd_o _ _ rfl
            refine X.iconst 122 i264_121 rfl rfl (by decide) ?_
            refine X.istore_n 123 [(0, zr 4 44), (2, zi v504), (3, zi 0)] i264_122 rfl rfl rfl ?_
            refine X.cut [(0, zr 4 44), (3, zi 0)] i264_123 rfl ?_
            refine l264_123_1 (s := s) (S := (zfr [] S)) (m0 := m590) (d := d)   (BE := B + 0) (by omega) (by omega) (fun  m592 B593 hJ594 hBB593 => ?_) ((4 - 0 : Int).toNat + 1) 0 m590 (B) (hJ591.ow.up (by omega)) (by omega)  (by omega) (by omega)
            have hJ595 := hJ591.trans hJ594 zi_n
            have mom592 := hJ594.mo rfl rfl
            refine X.aload_n 152 i264_151 rfl rfl rfl ?_
            refine X.bipush 154 i264_152 rfl rfl (by decide) ?_
            refine X.callv 157 [zi 59] [] [(0, zr 4 44), (1, zi 59)] i264_154 rfl (by decide) rfl rfl (by omega) rfl rfl (by decide) rfl t272 (Nat.le_of_ble_eq_true rfl) (Nat.le_of_ble_eq_true rfl) rfl ?_
            refine c272_1 (S := zfr [] S) (m0 := m592) (B := B593)  59 (by omega) (hJ595.ow.up (by omega)) (by omega) (by omega) (fun m596 hJ597 hqv5980 => ?_)
            have hJ599 := hJ595.trans hJ597 zi_n
            have mom596 := hJ597.mo rfl rfl
            show X (EE s) d 264 157 [(0, zr 4 44)] [] m596 _
            refine X.retv i264_157 rfl t264 ?_
            exact hQ  m596  (hJ599.up (by omega)) (by omega)
          · refine X.retv i264_73 rfl t264 ?_
            exact hQ  m582  (hJ583.up (by omega)) (by omega)
    · refine X.aload_n 26 i264_25 rfl rfl rfl ?_
      refine X.getIr 29 13 i264_26 rfl rfl (by decide) rfl rfl rfl (fun h600 => ?_)
      refine X.bipush 31 i264_29 rfl rfl (by decide) ?_
      refine X.icmpne 40 34 i264_31 rfl rfl rfl (fun h601 => ?_) (fun h601 => ?_)
      · refine X.iload_n 41 i264_40 rfl rfl rfl ?_
        refine X.iconst 42 i264_41 rfl rfl (by decide) ?_
        refine X.icmpne 58 45 i264_42 rfl rfl rfl (fun h602 => ?_) (fun h602 => (by exfalso; omega))
        refine X.cut [(0, zr 4 44), (2, zi v504)] i264_58 rfl ?_
        refine X.aload_n 59 i264_58 rfl rfl rfl ?_
        refine X.aload_n 60 i264_59 rfl rfl rfl ?_
        refine X.callv 63 [] [zr 4 44] [(0, zr 4 44)] i264_60 rfl (by decide) rfl rfl (by omega) rfl rfl (by decide) rfl t267 (Nat.le_of_ble_eq_true rfl) (Nat.le_of_ble_eq_true rfl) rfl ?_
        refine c267_1 (B := B)   (by omega) (hJ.up (by omega)) (by omega)  (fun v605 hv605 hqv6050 => ?_)
        show X (EE s) d 264 63 [(0, zr 4 44), (2, zi v504)] [zi v605, zr 4 44] m _
        refine X.putI' 66 8 i264_63 rfl rfl (by decide) rfl rfl rfl (fun hrm606 m606 hm606 => ?_)
        have rmm606 := r44_8 hJ 4
        have hJ607 := w44_8 hJ hm606 (by omega) (.inl (by omega))
        have em606 : m606 4 44 8 = v605 := by rw [hm606]; exact z_upd_same _ _ _ _ _
        have wmm6069 : m606 4 44 9 = m 4 44 9 := by rw [hm606]; exact z_upd_o _ _ rfl
        have wmm60610 : m606 4 44 10 = m 4 44 10 := by rw [hm606]; exact z_upd_o _ _ rfl
        refine X.aload_n 67 i264_66 rfl rfl rfl ?_
        refine X.getZ 70 9 i264_67 rfl rfl (by decide) rfl rfl rfl (fun h608 => ?_)
        refine X.ifeq 74 73 i264_70 rfl rfl rfl (fun h609 => ?_) (fun h609 => ?_)
        · refine X.iload_n 75 i264_74 rfl rfl rfl ?_
          refine X.iconst 76 i264_75 rfl rfl (by decide) ?_
          refine X.icmpne 83 79 i264_76 rfl rfl rfl (fun h610 => ?_) (fun h610 => (by exfalso; omega))
          refine X.iload_n 84 i264_83 rfl rfl rfl ?_
          refine X.iconst 85 i264_84 rfl rfl (by decide) ?_
          refine X.icmpne 92 88 i264_85 rfl rfl rfl (fun h611 => ?_) (fun h611 => (by exfalso; omega))
          refine X.iload_n 93 i264_92 rfl rfl rfl ?_
          refine X.iconst 94 i264_93 rfl rfl (by decide) ?_
          refine X.icmpne 111 97 i264_94 rfl rfl rfl (fun h612 => (by exfalso; omega)) (fun h612 => ?_)
          refine X.aload_n 98 i264_97 rfl rfl rfl ?_
          refine X.dup 99 i264_98 rfl rfl rfl ?_
          refine X.getIr 102 13 i264_99 rfl rfl (by decide) rfl rfl rfl (fun h613 => ?_)
          refine X.iconst 103 i264_102 rfl rfl (by decide) ?_
          refine X.iiF 104 .iadd (fun x y => x + y) i264_103 rfl rfl rfl (fun _ _ => rfl) (fun z614 hz614 => ?_)
          refine X.putI' 107 13 i264_104 rfl rfl (by decide) rfl rfl rfl (fun hrm615 m615 hm615 => ?_)
          have hJ616 := w44_10 hJ607 hm615 (by omega) hrm615
          have wmm6158 : m615 4 44 8 = m606 4 44 8 := by rw [hm615]; exact z_upd_o _ _ rfl
          have wmm6159 : m615 4 44 9 = m606 4 44 9 := by rw [hm615]; exact z_upd_o _ _ rfl
          have wmm61510 : m615 4 44 10 = m606 4 44 10 := by rw [hm615]; exact z_upd_o _ _ rfl
          refine X.aload_n 108 i264_107 rfl rfl rfl ?_
          refine X.callv 111 [] [] [(0, zr 4 44)] i264_108 rfl (by decide) rfl rfl (by omega) rfl rfl (by decide) rfl t275 (Nat.le_of_ble_eq_true rfl) (Nat.le_of_ble_eq_true rfl) rfl ?_
          refine c275_1 (S := zfr [] S) (m0 := m615) (B := B)   (by omega) (hJ616.ow.up (by omega)) (by omega)  (fun m617 hJ618 => ?_)
          have hJ620 := hJ616.trans hJ618 zi_n
          have mom617 := hJ618.mo rfl rfl
          show X (EE s) d 264 111 [(0, zr 4 44), (2, zi v504)] [] m617 _
          refine X.iload_n 112 i264_111 rfl rfl rfl ?_
          refine X.iconst 113 i264_112 rfl rfl (by decide) ?_
          refine X.icmpne 151 116 i264_113 rfl rfl rfl (fun h621 => ?_) (fun h621 => (by exfalso; omega))
          refine X.cut [(0, zr 4 44)] i264_151 rfl ?_
          refine X.aload_n 152 i264_151 rfl rfl rfl ?_
          refine X.bipush 154 i264_152 rfl rfl (by decide) ?_
          refine X.callv 157 [zi 59] [] [(0, zr 4 44), (1, zi 59)] i264_154 rfl (by decide) rfl rfl (by omega) rfl rfl (by decide) rfl t272 (Nat.le_of_ble_eq_true rfl) (Nat.le_of_ble_eq_true rfl) rfl ?_
          refine c272_1 (S := zfr [] S) (m0 := m617) (B := B)  59 (by omega) (hJ620.ow.up (by omega)) (by omega) (by omega) (fun m622 hJ623 hqv6240 => ?_)
          have hJ625 := hJ620.trans hJ623 zi_n
          have mom622 := hJ623.mo rfl rfl
          show X (EE s) d 264 157 [(0, zr 4 44)] [] m622 _
          refine X.retv i264_157 rfl t264 ?_
          exact hQ  m622  (hJ625.up (by omega)) (by omega)
        · refine X.retv i264_73 rfl t264 ?_
          exact hQ  m606  (hJ607.up (by omega)) (by omega)
      · refine X.aload_n 35 i264_34 rfl rfl rfl ?_
        refine X.iconst 36 i264_35 rfl rfl (by decide) ?_
        refine X.iload_n 37 i264_36 rfl rfl rfl ?_
        refine X.callv 40 [zi 4, zi (m 4 44 8)] [] [(0, zr 4 44), (1, zi 4), (2, zi (m 4 44 8))] i264_37 rfl (by decide) rfl rfl (by omega) rfl rfl (by decide) rfl t268 (Nat.le_of_ble_eq_true rfl) (Nat.le_of_ble_eq_true rfl) rfl ?_
        refine c268_4 (S := zfr [] S) (m0 := m) (B := B)  4 (m 4 44 8) (by omega) (hJ.ow.up (by omega)) (by omega) (by omega) (by omega) (fun m626 hJ627 hqv6280 => ?_)
        have hJ629 := hJ.trans hJ627 zi_n
        have mom626 := hJ627.mo rfl rfl
        show X (EE s) d 264 40 [(0, zr 4 44), (1, zi (m 4 44 8)), (2, zi v504)] [] m626 _
        refine X.iload_n 41 i264_40 rfl rfl rfl ?_
        refine X.iconst 42 i264_41 rfl rfl (by decide) ?_
        refine X.icmpne 58 45 i264_42 rfl rfl rfl (fun h630 => ?_) (fun h630 => (by exfalso; omega))
        refine X.cut [(0, zr 4 44), (2, zi v504)] i264_58 rfl ?_
        refine X.aload_n 59 i264_58 rfl rfl rfl ?_
        refine X.aload_n 60 i264_59 rfl rfl rfl ?_
        refine X.callv 63 [] [zr 4 44] [(0, zr 4 44)] i264_60 rfl (by decide) rfl rfl (by omega) rfl rfl (by decide) rfl t267 (Nat.le_of_ble_eq_true rfl) (Nat.le_of_ble_eq_true rfl) rfl ?_
        refine c267_1 (B := B)   (by omega) (hJ629.up (by omega)) (by omega)  (fun v633 hv633 hqv6330 => ?_)
        show X (EE s) d 264 63 [(0, zr 4 44), (2, zi v504)] [zi v633, zr 4 44] m626 _
        refine X.putI' 66 8 i264_63 rfl rfl (by decide) rfl rfl rfl (fun hrm634 m634 hm634 => ?_)
        have rmm634 := r44_8 hJ629 4
        have hJ635 := w44_8 hJ629 hm634 (by omega) (.inl (by omega))
        have em634 : m634 4 44 8 = v633 := by rw [hm634]; exact z_upd_same _ _ _ _ _
        have wmm6349 : m634 4 44 9 = m626 4 44 9 := by rw [hm634]; exact z_upd_o _ _ rfl
        have wmm63410 : m634 4 44 10 = m626 4 44 10 := by rw [hm634]; exact z_upd_o _ _ rfl
        refine X.aload_n 67 i264_66 rfl rfl rfl ?_
        refine X.getZ 70 9 i264_67 rfl rfl (by decide) rfl rfl rfl (fun h636 => ?_)
        refine X.ifeq 74 73 i264_70 rfl rfl rfl (fun h637 => ?_) (fun h637 => ?_)
        · refine X.iload_n 75 i264_74 rfl rfl rfl ?_
          refine X.iconst 76 i264_75 rfl rfl (by decide) ?_
          refine X.icmpne 83 79 i264_76 rfl rfl rfl (fun h638 => ?_) (fun h638 => (by exfalso; omega))
          refine X.iload_n 84 i264_83 rfl rfl rfl ?_
          refine X.iconst 85 i264_84 rfl rfl (by decide) ?_
          refine X.icmpne 92 88 i264_85 rfl rfl rfl (fun h639 => ?_) (fun h639 => (by exfalso; omega))
          refine X.iload_n 93 i264_92 rfl rfl rfl ?_
          refine X.iconst 94 i264_93 rfl rfl (by decide) ?_
          refine X.icmpne 111 97 i264_94 rfl rfl rfl (fun h640 => (by exfalso; omega)) (fun h640 => ?_)
          refine X.aload_n 98 i264_97 rfl rfl rfl ?_
          refine X.dup 99 i264_98 rfl rfl rfl ?_
          refine X.getIr 102 13 i264_99 rfl rfl (by decide) rfl rfl rfl (fun h641 => ?_)
          refine X.iconst 103 i264_102 rfl rfl (by decide) ?_
          refine X.iiF 104 .iadd (fun x y => x + y) i264_103 rfl rfl rfl (fun _ _ => rfl) (fun z642 hz642 => ?_)
          refine X.putI' 107 13 i264_104 rfl rfl (by decide) rfl rfl rfl (fun hrm643 m643 hm643 => ?_)
          have hJ644 := w44_10 hJ635 hm643 (by omega) hrm643
          have wmm6438 : m643 4 44 8 = m634 4 44 8 := by rw [hm643]; exact z_upd_o _ _ rfl
          have wmm6439 : m643 4 44 9 = m634 4 44 9 := by rw [hm643]; exact z_upd_o _ _ rfl
          have wmm64310 : m643 4 44 10 = m634 4 44 10 := by rw [hm643]; exact z_upd_o _ _ rfl
          refine X.aload_n 108 i264_107 rfl rfl rfl ?_
          refine X.callv 111 [] [] [(0, zr 4 44)] i264_108 rfl (by decide) rfl rfl (by omega) rfl rfl (by decide) rfl t275 (Nat.le_of_ble_eq_true rfl) (Nat.le_of_ble_eq_true rfl) rfl ?_
          refine c275_1 (S := zfr [] S) (m0 := m643) (B := B)   (by omega) (hJ644.ow.up (by omega)) (by omega)  (fun m645 hJ646 => ?_)
          have hJ648 := hJ644.trans hJ646 zi_n
          have mom645 := hJ646.mo rfl rfl
          show X (EE s) d 264 111 [(0, zr 4 44), (2, zi v504)] [] m645 _
          refine X.iload_n 112 i264_111 rfl rfl rfl ?_
          refine X.iconst 113 i264_112 rfl rfl (by decide) ?_
          refine X.icmpne 151 116 i264_113 rfl rfl rfl (fun h649 => ?_) (fun h649 => (by exfalso; omega))
          refine X.cut [(0, zr 4 44)] i264_151 rfl ?_
          refine X.aload_n 152 i264_151 rfl rfl rfl ?_
          refine X.bipush 154 i264_152 rfl rfl (by decide) ?_
          refine X.callv 157 [zi 59] [] [(0, zr 4 44), (1, zi 59)] i264_154 rfl (by decide) rfl rfl (by omega) rfl rfl (by decide) rfl t272 (Nat.le_of_ble_eq_true rfl) (Nat.le_of_ble_eq_true rfl) rfl ?_
          refine c272_1 (S := zfr [] S) (m0 := m645) (B := B)  59 (by omega) (hJ648.ow.up (by omega)) (by omega) (by omega) (fun m650 hJ651 hqv6520 => ?_)
          have hJ653 := hJ648.trans hJ651 zi_n
          have mom650 := hJ651.mo rfl rfl
          show X (EE s) d 264 157 [(0, zr 4 44)] [] m650 _
          refine X.retv i264_157 rfl t264 ?_
          exact hQ  m650  (hJ653.up (by omega)) (by omega)
        · refine X.retv i264_73 rfl t264 ?_
          exact hQ  m634  (hJ635.up (by omega)) (by omega)
  · refine X.aload_n 15 i264_14 rfl rfl rfl ?_
    refine X.iconst 16 i264_15 rfl rfl (by decide) ?_
    refine X.iload_n 17 i264_16 rfl rfl rfl ?_
    refine X.callv 20 [zi 1, zi (m 4 44 8)] [] [(0, zr 4 44), (1, zi 1), (2, zi (m 4 44 8))] i264_17 rfl (by decide) rfl rfl (by omega) rfl rfl (by decide) rfl t268 (Nat.le_of_ble_eq_true rfl) (Nat.le_of_ble_eq_true rfl) rfl ?_
    refine c268_2 (S := zfr [] S) (m0 := m) (B := B)  1 (m 4 44 8) (by omega) (hJ.ow.up (by omega)) (by omega) (by omega) (by omega) (fun m654 hJ655 hqv6560 => ?_)
    have hJ657 := hJ.trans hJ655 zi_n
    have mom654 := hJ655.mo rfl rfl
    show X (EE s) d 264 20 [(0, zr 4 44), (1, zi (m 4 44 8)), (2, zi v504)] [] m654 _
    refine X.iload_n 21 i264_20 rfl rfl rfl ?_
    refine X.iconst 22 i264_21 rfl rfl (by decide) ?_
    refine X.icmpne 40 25 i264_22 rfl rfl rfl (fun h658 => ?_) (fun h658 => (by exfalso; omega))
    refine X.iload_n 41 i264_40 rfl rfl rfl ?_
    refine X.iconst 42 i264_41 rfl rfl (by decide) ?_
    refine X.icmpne 58 45 i264_42 rfl rfl rfl (fun h659 => ?_) (fun h659 => (by exfalso; omega))
    refine X.cut [(0, zr 4 44), (2, zi v504)] i264_58 rfl ?_
    refine X.aload_n 59 i264_58 rfl rfl rfl ?_
    refine X.aload_n 60 i264_59 rfl rfl rfl ?_
    refine X.callv 63 [] [zr 4 44] [(0, zr 4 44)] i264_60 rfl (by decide) rfl rfl (by omega) rfl rfl (by decide) rfl t267 (Nat.le_of_ble_eq_true rfl) (Nat.le_of_ble_eq_true rfl) rfl ?_
    refine c267_1 (B := B)   (by omega) (hJ657.up (by omega)) (by omega)  (fun v662 hv662 hqv6620 => ?_)
    show X (EE s) d 264 63 [(0, zr 4 44), (2, zi v504)] [zi v662, zr 4 44] m654 _
    refine X.putI' 66 8 i264_63 rfl rfl (by decide) rfl rfl rfl (fun hrm663 m663 hm663 => ?_)
    have rmm663 := r44_8 hJ657 4
    have hJ664 := w44_8 hJ657 hm663 (by omega) (.inl (by omega))
    have em663 : m663 4 44 8 = v662 := by rw [hm663]; exact z_upd_same _ _ _ _ _
    have wmm6639 : m663 4 44 9 = m654 4 44 9 := by rw [hm663]; exact z_upd_o _ _ rfl
    have wmm66310 : m663 4 44 10 = m654 4 44 10 := by rw [hm663]; exact z_upd_o _ _ rfl
    refine X.aload_n 67 i264_66 rfl rfl rfl ?_
    refine X.getZ 70 9 i264_67 rfl rfl (by decide) rfl rfl rfl (fun h665 => ?_)
    refine X.ifeq 74 73 i264_70 rfl rfl rfl (fun h666 => ?_) (fun h666 => ?_)
    · refine X.iload_n 75 i264_74 rfl rfl rfl ?_
      refine X.iconst 76 i264_75 rfl rfl (by decide) ?_
      refine X.icmpne 83 79 i264_76 rfl rfl rfl (fun h667 => ?_) (fun h667 => (by exfalso; omega))
      refine X.iload_n 84 i264_83 rfl rfl rfl ?_
      refine X.iconst 85 i264_84 rfl rfl (by decide) ?_
      refine X.icmpne 92 88 i264_85 rfl rfl rfl (fun h668 => ?_) (fun h668 => (by exfalso; omega))
      refine X.iload_n 93 i264_92 rfl rfl rfl ?_
      refine X.iconst 94 i264_93 rfl rfl (by decide) ?_
      refine X.icmpne 111 97 i264_94 rfl rfl rfl (fun h669 => ?_) (fun h669 => (by exfalso; omega))
      refine X.iload_n 112 i264_111 rfl rfl rfl ?_
      refine X.iconst 113 i264_112 rfl rfl (by decide) ?_
      refine X.icmpne 151 116 i264_113 rfl rfl rfl (fun h670 => ?_) (fun h670 => (by exfalso; omega))
      refine X.cut [(0, zr 4 44)] i264_151 rfl ?_
      refine X.aload_n 152 i264_151 rfl rfl rfl ?_
      refine X.bipush 154 i264_152 rfl rfl (by decide) ?_
      refine X.callv 157 [zi 59] [] [(0, zr 4 44), (1, zi 59)] i264_154 rfl (by decide) rfl rfl (by omega) rfl rfl (by decide) rfl t272 (Nat.le_of_ble_eq_true rfl) (Nat.le_of_ble_eq_true rfl) rfl ?_
      refine c272_1 (S := zfr [] S) (m0 := m663) (B := B)  59 (by omega) (hJ664.ow.up (by omega)) (by omega) (by omega) (fun m671 hJ672 hqv6730 => ?_)
      have hJ674 := hJ664.trans hJ672 zi_n
      have mom671 := hJ672.mo rfl rfl
      show X (EE s) d 264 157 [(0, zr 4 44)] [] m671 _
      refine X.retv i264_157 rfl t264 ?_
      exact hQ  m671  (hJ674.up (by omega)) (by omega)
    · refine X.retv i264_73 rfl t264 ?_
      exact hQ  m663  (hJ664.up (by omega)) (by omega)
theorem l260_55_1 {s : Nat × (Nat → Int32)} {S : zS} {m0 : zM} {d : Nat} {Q : Option zV → zM → Prop} (BE : Int) (hE : BE ≤ 1000000000) (hd : 17 ≤ d)
    (K87 : ∀ (x1 : Int) (m' : zM) (B' : Int), J S m0 B' m' → B' ≤ BE → ((-2147483648) ≤ x1 ∧ x1 ≤ 2147483647) → X (EE s) d 260 87 [(0, zr 4 44), (1, zi x1)] [] m' Q) :
    ∀ (n : Nat) (y1 : Int) (m : zM) (B : Int), J S m0 B m → B + 0 * (n : Int) ≤ BE → ((-2147483648) ≤ y1 ∧ y1 ≤ 2147483647) → 604 - m 4 44 8 - 302 * m 4 44 9 < (n : Int) → X (EE s) d 260 55 [(0, zr 4 44), (1, zi y1)] [] m Q := by
  intro n
  induction n with
  | zero =>
    intro y1 m B hJ hB  hy1 hn
    have zf0 := r44_8 hJ 4
    have zf1 := r44_9 hJ 4
    exfalso
    omega
  | succ n ih =>
    intro y1 m B hJ hB  hy1 hn
    refine X.aload_n 56 i260_55 rfl rfl rfl ?_
    refine X.getI 59 8 i260_56 rfl rfl (by decide) rfl rfl rfl ?_
    have h797 := r44_8 hJ 4
    refine X.aload_n 60 i260_59 rfl rfl rfl ?_
    refine X.getI 63 5 i260_60 rfl rfl (by decide) rfl rfl rfl ?_
    have h798 := r44_5 hJ 4
    refine X.icmpge 87 66 i260_63 rfl rfl rfl (fun h799 => ?_) (fun h799 => ?_)
    · exact K87 y1 m (B) (hJ.up (by omega)) (by omega)  (by first | trivial | omega)
    · refine X.aload_n 67 i260_66 rfl rfl rfl ?_
      refine X.getZ 70 9 i260_67 rfl rfl (by decide) rfl rfl rfl (fun h800 => ?_)
      refine X.ifne 87 73 i260_70 rfl rfl rfl (fun h801 => ?_) (fun h801 => ?_)
      · exact K87 y1 m (B) (hJ.up (by omega)) (by omega)  (by first | trivial | omega)
      · refine X.aload_n 74 i260_73 rfl rfl rfl ?_
        refine X.callv 77 [] [] [(0, zr 4 44)] i260_74 rfl (by decide) rfl rfl (by omega) rfl rfl (by decide) rfl t264 (Nat.le_of_ble_eq_true rfl) (Nat.le_of_ble_eq_true rfl) rfl ?_
        refine c264_1 (S := zfr [] S) (m0 := m) (B := B)   (by omega) (hJ.ow.up (by omega)) (by omega)  (fun m802 hJ803 hqv8040 => ?_)
        have hJ805 := hJ.trans hJ803 zi_n
        have wt806 : m802 4 45 0 = (m 4 45 0) := hJ803.eq rfl rfl
        have wt807 : m802 4 45 1 = (m 4 45 1) := hJ803.eq rfl rfl
        have wt808 : m802 4 45 2 = (m 4 45 2) := hJ803.eq rfl rfl
        have wt809 : m802 4 45 3 = (m 4 45 3) := hJ803.eq rfl rfl
        have wt810 : m802 4 45 11 = (m 4 45 11) := hJ803.eq rfl rfl
        have wt811 : m802 4 45 13 = (m 4 45 13) := hJ803.eq rfl rfl
        have wt812 : m802 4 45 18 = (m 4 45 18) := hJ803.eq rfl rfl
        have wt813 : m802 4 45 1614 = (m 4 45 1614) := hJ803.eq rfl rfl
        have wt814 : m802 4 45 1615 = (m 4 45 1615) := hJ803.eq rfl rfl
        have wt815 : m802 4 45 1616 = (m 4 45 1616) := hJ803.eq rfl rfl
        have wt816 : m802 4 45 1617 = (m 4 45 1617) := hJ803.eq rfl rfl
        have wt817 : m802 4 46 0 = (m 4 46 0) := hJ803.eq rfl rfl
        have wt818 : m802 4 46 1 = (m 4 46 1) := hJ803.eq rfl rfl
        have wt819 : m802 4 46 2 = (m 4 46 2) := hJ803.eq rfl rfl
        have wt820 : m802 4 46 3 = (m 4 46 3) := hJ803.eq rfl rfl
        have wt821 : m802 4 46 11 = (m 4 46 11) := hJ803.eq rfl rfl
        have wt822 : m802 4 46 13 = (m 4 46 13) := hJ803.eq rfl rfl
        have wt823 : m802 4 46 18 = (m 4 46 18) := hJ803.eq rfl rfl
        have wt824 : m802 4 46 1614 = (m 4 46 1614) := hJ803.eq rfl rfl
        have wt825 : m802 4 46 1615 = (m 4 46 1615) := hJ803.eq rfl rfl
        have wt826 : m802 4 46 1616 = (m 4 46 1616) := hJ803.eq rfl rfl
        have wt827 : m802 4 46 1617 = (m 4 46 1617) := hJ803.eq rfl rfl
        have wt828 : m802 4 44 5 = (m 4 44 5) := hJ803.eq rfl rfl
        have mom802 := hJ803.mo rfl rfl
        show X (EE s) d 260 77 [(0, zr 4 44), (1, zi y1)] [] m802 _
        refine X.iincF 80 i260_77 rfl rfl rfl (fun z829 hz829 => ?_)
        show X (EE s) d 260 80 [(0, zr 4 44), (1, zi z829)] [] m802 _
        refine X.aload_n 81 i260_80 rfl rfl rfl ?_
        refine X.callv 84 [] [] [(0, zr 4 44)] i260_81 rfl (by decide) rfl rfl (by omega) rfl rfl (by decide) rfl t263 (Nat.le_of_ble_eq_true rfl) (Nat.le_of_ble_eq_true rfl) rfl ?_
        refine c263_1 (S := zfr [] S) (m0 := m802) (B := B)   (by omega) (hJ805.ow.up (by omega)) (by omega)  (fun m830 hJ831 => ?_)
        have hJ833 := hJ805.trans hJ831 zi_n
        have wt834 : m830 4 45 0 = (m 4 45 0) := Eq.trans (hJ831.eq rfl rfl) wt806
        have wt835 : m830 4 45 1 = (m 4 45 1) := Eq.trans (hJ831.eq rfl rfl) wt807
        have wt836 : m830 4 45 2 = (m 4 45 2) := Eq.trans (hJ831.eq rfl rfl) wt808
        have wt837 : m830 4 45 3 = (m 4 45 3) := Eq.trans (hJ831.eq rfl rfl) wt809
        have wt838 : m830 4 45 11 = (m 4 45 11) := Eq.trans (hJ831.eq rfl rfl) wt810
        have wt839 : m830 4 45 13 = (m 4 45 13) := Eq.trans (hJ831.eq rfl rfl) wt811
        have wt840 : m830 4 45 18 = (m 4 45 18) := Eq.trans (hJ831.eq rfl rfl) wt812
        have wt841 : m830 4 45 1614 = (m 4 45 1614) := Eq.trans (hJ831.eq rfl rfl) wt813
        have wt842 : m830 4 45 1615 = (m 4 45 1615) := Eq.trans (hJ831.eq rfl rfl) wt814
        have wt843 : m830 4 45 1616 = (m 4 45 1616) := Eq.trans (hJ831.eq rfl rfl) wt815
        have wt844 : m830 4 45 1617 = (m 4 45 1617) := Eq.trans (hJ831.eq rfl rfl) wt816
        have wt845 : m830 4 46 0 = (m 4 46 0) := Eq.trans (hJ831.eq rfl rfl) wt817
        have wt846 : m830 4 46 1 = (m 4 46 1) := Eq.trans (hJ831.eq rfl rfl) wt818
        have wt847 : m830 4 46 2 = (m 4 46 2) := Eq.trans (hJ831.eq rfl rfl) wt819
        have wt848 : m830 4 46 3 = (m 4 46 3) := Eq.trans (hJ831.eq rfl rfl) wt820
        have wt849 : m830 4 46 11 = (m 4 46 11) := Eq.trans (hJ831.eq rfl rfl) wt821
        have wt850 : m830 4 46 13 = (m 4 46 13) := Eq.trans (hJ831.eq rfl rfl) wt822
        have wt851 : m830 4 46 18 = (m 4 46 18) := Eq.trans (hJ831.eq rfl rfl) wt823
        have wt852 : m830 4 46 1614 = (m 4 46 1614) := Eq.trans (hJ831.eq rfl rfl) wt824
        have wt853 : m830 4 46 1615 = (m 4 46 1615) := Eq.trans (hJ831.eq rfl rfl) wt825
        have wt854 : m830 4 46 1616 = (m 4 46 1616) := Eq.trans (hJ831.eq rfl rfl) wt826
        have wt855 : m830 4 46 1617 = (m 4 46 1617) := Eq.trans (hJ831.eq rfl rfl) wt827
        have wt856 : m830 4 44 5 = (m 4 44 5) := Eq.trans (hJ831.eq rfl rfl) wt828
        clear wt806 wt807 wt808 wt809 wt810 wt811 wt812 wt813 wt814 wt815 wt816 wt817 wt818 wt819 wt820 wt821 wt822 wt823 wt824 wt825 wt826 wt827 wt828
        have mom830 := hJ831.mo rfl rfl
        show X (EE s) d 260 84 [(0, zr 4 44), (1, zi z829)] [] m830 _
        refine X.goto 55 i260_84 rfl rfl ?_
        exact ih z829 m830 (B) (hJ833.up (by omega)) (by omega)  (by omega) (by omega)
-- WorkMeterModel.calendar
theorem c260_1 {s : Nat × (Nat → Int32)} {S : zS} {m0 m : zM} {B : Int} {d : Nat} {Q : Option zV → zM → Prop} (hd : 17 ≤ d) (hJ : J S m0 B m) (hB : B + 0 ≤ 1000000000) (hs0 : S.1 4 45 0) (hs1 : S.1 4 45 1) (hs2 : S.1 4 45 2) (hs3 : S.1 4 45 3) (hs4 : S.1 4 45 11) (hs5 : S.1 4 45 13) (hs6 : S.1 4 45 18) (hs7 : S.1 4 45 1614) (hs8 : S.1 4 45 1615) (hs9 : S.1 4 45 1616) (hs10 : S.1 4 45 1617) (hs11 : S.1 4 46 0) (hs12 : S.1 4 46 1) (hs13 : S.1 4 46 2) (hs14 : S.1 4 46 3) (hs15 : S.1 4 46 11) (hs16 : S.1 4 46 13) (hs17 : S.1 4 46 18) (hs18 : S.1 4 46 1614) (hs19 : S.1 4 46 1615) (hs20 : S.1 4 46 1616) (hs21 : S.1 4 46 1617) (hs22 : S.1 4 44 5) (hs23 : S.1 4 44 8) (hs24 : S.1 4 44 9) (hQ : ∀ (v : Int) m', ((-2147483648) ≤ v ∧ v ≤ 2147483647) → J S m0 (B) m' → (m' 4 45 0 = m 4 45 0 ∧ m' 4 45 1 = m 4 45 1 ∧ m' 4 45 2 = m 4 45 2 ∧ m' 4 45 3 = m 4 45 3 ∧ m' 4 45 11 = m 4 45 11 ∧ m' 4 45 13 = m 4 45 13 ∧ m' 4 45 18 = m 4 45 18 ∧ m' 4 45 1614 = m 4 45 1614 ∧ m' 4 45 1615 = m 4 45 1615 ∧ m' 4 45 1616 = m 4 45 1616 ∧ m' 4 45 1617 = m 4 45 1617) → Q (some (zi v)) m') : X (EE s) d 260 0 [(0, zr 4 44)] [] m Q := by
  refine X.aload_n 1 i260_0 rfl rfl rfl ?_
  refine X.iconst 2 i260_1 rfl rfl (by decide) ?_
  refine X.putI' 5 6 i260_2 rfl rfl (by decide) rfl rfl rfl (fun hrm501 m501 hm501 => ?_)
  have hJ502 := w44_6 hJ hm501 (by omega) hrm501
  have wt503 : m501 4 45 0 = (m 4 45 0) := by rw [hm501]; exact z_upd_o _ _ rfl
  have wt504 : m501 4 45 1 = (m 4 45 1) := by rw [hm501]; exact z_upd_o _ _ rfl
  have wt505 : m501 4 45 2 = (m 4 45 2) := by rw [hm501]; exact z_upd_o _ _ rfl
  have wt506 : m501 4 45 3 = (m 4 45 3) := by rw [hm501]; exact z_upd_o _ _ rfl
  have wt507 : m501 4 45 11 = (m 4 45 11) := by rw [hm501]; exact z_upd_o _ _ rfl
  have wt508 : m501 4 45 13 = (m 4 45 13) := by rw [hm501]; exact z_upd_o _ _ rfl
  have wt509 : m501 4 45 18 = (m 4 45 18) := by rw [hm501]; exact z_upd_o _ _ rfl
  have wt510 : m501 4 45 1614 = (m 4 45 1614) := by rw [hm501]; exact z_upd_o _ _ rfl
  have wt511 : m501 4 45 1615 = (m 4 45 1615) := by rw [hm501]; exact z_upd_o _ _ rfl
  have wt512 : m501 4 45 1616 = (m 4 45 1616) := by rw [hm501]; exact z_upd_o _ _ rfl
  have wt513 : m501 4 45 1617 = (m 4 45 1617) := by rw [hm501]; exact z_upd_o _ _ rfl
  have wt514 : m501 4 46 0 = (m 4 46 0) := by rw [hm501]; exact z_upd_o _ _ rfl
  have wt515 : m501 4 46 1 = (m 4 46 1) := by rw [hm501]; exact z_upd_o _ _ rfl
  have wt516 : m501 4 46 2 = (m 4 46 2) := by rw [hm501]; exact z_upd_o _ _ rfl
  have wt517 : m501 4 46 3 = (m 4 46 3) := by rw [hm501]; exact z_upd_o _ _ rfl
  have wt518 : m501 4 46 11 = (m 4 46 11) := by rw [hm501]; exact z_upd_o _ _ rfl
  have wt519 : m501 4 46 13 = (m 4 46 13) := by rw [hm501]; exact z_upd_o _ _ rfl
  have wt520 : m501 4 46 18 = (m 4 46 18) := by rw [hm501]; exact z_upd_o _ _ rfl
  have wt521 : m501 4 46 1614 = (m 4 46 1614) := by rw [hm501]; exact z_upd_o _ _ rfl
  have wt522 : m501 4 46 1615 = (m 4 46 1615) := by rw [hm501]; exact z_upd_o _ _ rfl
  have wt523 : m501 4 46 1616 = (m 4 46 1616) := by rw [hm501]; exact z_upd_o _ _ rfl
  have wt524 : m501 4 46 1617 = (m 4 46 1617) := by rw [hm501]; exact z_upd_o _ _ rfl
  have wt525 : m501 4 44 5 = (m 4 44 5) := by rw [hm501]; exact z_upd_i _ _ _ _ (by omega)
  have wmm5018 : m501 4 44 8 = m 4 44 8 := by rw [hm501]; exact z_upd_o _ _ rfl
  have wmm5019 : m501 4 44 9 = m 4 44 9 := by rw [hm501]; exact z_upd_o _ _ rfl
  have wmm50110 : m501 4 44 10 = m 4 44 10 := by rw [hm501]; exact z_upd_o _ _ rfl
  refine X.aload_n 6 i260_5 rfl rfl rfl ?_
  refine X.iconst 7 i260_6 rfl rfl (by decide) ?_
  refine X.putI' 10 7 i260_7 rfl rfl (by decide) rfl rfl rfl (fun hrm526 m526 hm526 => ?_)
  have hJ527 := w44_6 hJ502 hm526 (by omega) hrm526
  have wt528 : m526 4 45 0 = (m 4 45 0) := Eq.trans (by rw [hm526]; exact z_upd_o _ _ rfl) wt503
  have wt529 : m526 4 45 1 = (m 4 45 1) := Eq.trans (by rw [hm526]; exact z_upd_o _ _ rfl) wt504
  have wt530 : m526 4 45 2 = (m 4 45 2) := Eq.trans (by rw [hm526]; exact z_upd_o _ _ rfl) wt505
  have wt531 : m526 4 45 3 = (m 4 45 3) := Eq.trans (by rw [hm526]; exact z_upd_o _ _ rfl) wt506
  have wt532 : m526 4 45 11 = (m 4 45 11) := Eq.trans (by rw [hm526]; exact z_upd_o _ _ rfl) wt507
  have wt533 : m526 4 45 13 = (m 4 45 13) := Eq.trans (by rw [hm526]; exact z_upd_o _ _ rfl) wt508
  have wt534 : m526 4 45 18 = (m 4 45 18) := Eq.trans (by rw [hm526]; exact z_upd_o _ _ rfl) wt509
  have wt535 : m526 4 45 1614 = (m 4 45 1614) := Eq.trans (by rw [hm526]; exact z_upd_o _ _ rfl) wt510
  have wt536 : m526 4 45 1615 = (m 4 45 1615) := Eq.trans (by rw [hm526]; exact z_upd_o _ _ rfl) wt511
  have wt537 : m526 4 45 1616 = (m 4 45 1616) := Eq.trans (by rw [hm526]; exact z_upd_o _ _ rfl) wt512
  have wt538 : m526 4 45 1617 = (m 4 45 1617) := Eq.trans (by rw [hm526]; exact z_upd_o _ _ rfl) wt513
  have wt539 : m526 4 46 0 = (m 4 46 0) := Eq.trans (by rw [hm526]; exact z_upd_o _ _ rfl) wt514
  have wt540 : m526 4 46 1 = (m 4 46 1) := Eq.trans (by rw [hm526]; exact z_upd_o _ _ rfl) wt515
  have wt541 : m526 4 46 2 = (m 4 46 2) := Eq.trans (by rw [hm526]; exact z_upd_o _ _ rfl) wt516
  have wt542 : m526 4 46 3 = (m 4 46 3) := Eq.trans (by rw [hm526]; exact z_upd_o _ _ rfl) wt517
  have wt543 : m526 4 46 11 = (m 4 46 11) := Eq.trans (by rw [hm526]; exact z_upd_o _ _ rfl) wt518
  have wt544 : m526 4 46 13 = (m 4 46 13) := Eq.trans (by rw [hm526]; exact z_upd_o _ _ rfl) wt519
  have wt545 : m526 4 46 18 = (m 4 46 18) := Eq.trans (by rw [hm526]; exact z_upd_o _ _ rfl) wt520
  have wt546 : m526 4 46 1614 = (m 4 46 1614) := Eq.trans (by rw [hm526]; exact z_upd_o _ _ rfl) wt521
  have wt547 : m526 4 46 1615 = (m 4 46 1615) := Eq.trans (by rw [hm526]; exact z_upd_o _ _ rfl) wt522
  have wt548 : m526 4 46 1616 = (m 4 46 1616) := Eq.trans (by rw [hm526]; exact z_upd_o _ _ rfl) wt523
  have wt549 : m526 4 46 1617 = (m 4 46 1617) := Eq.trans (by rw [hm526]; exact z_upd_o _ _ rfl) wt524
  have wt550 : m526 4 44 5 = (m 4 44 5) := Eq.trans (by rw [hm526]; exact z_upd_i _ _ _ _ (by omega)) wt525
  clear wt503 wt504 wt505 wt506 wt507 wt508 wt509 wt510 wt511 wt512 wt513 wt514 wt515 wt516 wt517 wt518 wt519 wt520 wt521 wt522 wt523 wt524 wt525
  have wmm5268 : m526 4 44 8 = m501 4 44 8 := by rw [hm526]; exact z_upd_o _ _ rfl
  have wmm5269 : m526 4 44 9 = m501 4 44 9 := by rw [hm526]; exact z_upd_o _ _ rfl
  have wmm52610 : m526 4 44 10 = m501 4 44 10 := by rw [hm526]; exact z_upd_o _ _ rfl
  refine X.aload_n 11 i260_10 rfl rfl rfl ?_
  refine X.callv 14 [] [] [(0, zr 4 44)] i260_11 rfl (by decide) rfl rfl (by omega) rfl rfl (by decide) rfl t203 (Nat.le_of_ble_eq_true rfl) (Nat.le_of_ble_eq_true rfl) rfl ?_
  refine X.aload_n 1 i203_0 rfl rfl rfl ?_
  refine X.getF 4 i203_1 rfl rfl (by decide) rfl rfl ?_
  refine X.sipush 7 i203_4 rfl rfl (by decide) ?_
  refine X.dup2 8 i203_7 rfl rfl ?_
  refine X.lald 9 i203_8 rfl rfl (by decide) rfl (by omega) ?_
  refine X.aload_n 10 i203_9 rfl rfl rfl ?_
  refine X.getF 13 i203_10 rfl rfl (by decide) rfl rfl ?_
  refine X.sipush 16 i203_13 rfl rfl (by decide) ?_
  refine X.lald 17 i203_16 rfl rfl (by decide) rfl (by omega) ?_
  have h551 := r45_1614 hJ527 4
  refine X.llF 18 .ladd (fun x y => x + y) i203_17 rfl rfl rfl (fun _ _ => rfl) (fun z552 hz552 => ?_)
  refine X.last' 19 i203_18 rfl rfl (by decide) rfl (by omega) (fun hrm553 m553 hm553 => ?_)
  have hJ554 := w45_1618 hJ527 hm553 hrm553
  have wt555 : m553 4 45 0 = (m 4 45 0) := Eq.trans (by rw [hm553]; exact z_upd_o _ _ rfl) wt528
  have wt556 : m553 4 45 1 = (m 4 45 1) := Eq.trans (by rw [hm553]; exact z_upd_o _ _ rfl) wt529
  have wt557 : m553 4 45 2 = (m 4 45 2) := Eq.trans (by rw [hm553]; exact z_upd_o _ _ rfl) wt530
  have wt558 : m553 4 45 3 = (m 4 45 3) := Eq.trans (by rw [hm553]; exact z_upd_o _ _ rfl) wt531
  have wt559 : m553 4 45 11 = (m 4 45 11) := Eq.trans (by rw [hm553]; exact z_upd_o _ _ rfl) wt532
  have wt560 : m553 4 45 13 = (m 4 45 13) := Eq.trans (by rw [hm553]; exact z_upd_o _ _ rfl) wt533
  have wt561 : m553 4 45 18 = (m 4 45 18) := Eq.trans (by rw [hm553]; exact z_upd_o _ _ rfl) wt534
  have wt562 : m553 4 45 1614 = (m 4 45 1614) := Eq.trans (by rw [hm553]; exact z_upd_o _ _ rfl) wt535
  have wt563 : m553 4 45 1615 = (m 4 45 1615) := Eq.trans (by rw [hm553]; exact z_upd_o _ _ rfl) wt536
  have wt564 : m553 4 45 1616 = (m 4 45 1616) := Eq.trans (by rw [hm553]; exact z_upd_o _ _ rfl) wt537
  have wt565 : m553 4 45 1617 = (m 4 45 1617) := Eq.trans (by rw [hm553]; exact z_upd_o _ _ rfl) wt538
  have wt566 : m553 4 46 0 = (m 4 46 0) := Eq.trans (by rw [hm553]; exact z_upd_o _ _ rfl) wt539
  have wt567 : m553 4 46 1 = (m 4 46 1) := Eq.trans (by rw [hm553]; exact z_upd_o _ _ rfl) wt540
  have wt568 : m553 4 46 2 = (m 4 46 2) := Eq.trans (by rw [hm553]; exact z_upd_o _ _ rfl) wt541
  have wt569 : m553 4 46 3 = (m 4 46 3) := Eq.trans (by rw [hm553]; exact z_upd_o _ _ rfl) wt542
  have wt570 : m553 4 46 11 = (m 4 46 11) := Eq.trans (by rw [hm553]; exact z_upd_o _ _ rfl) wt543
  have wt571 : m553 4 46 13 = (m 4 46 13) := Eq.trans (by rw [hm553]; exact z_upd_o _ _ rfl) wt544
  have wt572 : m553 4 46 18 = (m 4 46 18) := Eq.trans (by rw [hm553]; exact z_upd_o _ _ rfl) wt545
  have wt573 : m553 4 46 1614 = (m 4 46 1614) := Eq.trans (by rw [hm553]; exact z_upd_o _ _ rfl) wt546
  have wt574 : m553 4 46 1615 = (m 4 46 1615) := Eq.trans (by rw [hm553]; exact z_upd_o _ _ rfl) wt547
  have wt575 : m553 4 46 1616 = (m 4 46 1616) := Eq.trans (by rw [hm553]; exact z_upd_o _ _ rfl) wt548
  have wt576 : m553 4 46 1617 = (m 4 46 1617) := Eq.trans (by rw [hm553]; exact z_upd_o _ _ rfl) wt549
  have wt577 : m553 4 44 5 = (m 4 44 5) := Eq.trans (by rw [hm553]; exact z_upd_o _ _ rfl) wt550
  clear wt528 wt529 wt530 wt531 wt532 wt533 wt534 wt536 wt537 wt538 wt539 wt540 wt541 wt542 wt543 wt544 wt545 wt546 wt547 wt548 wt549 wt550
  have wmm5538 : m553 4 44 8 = m526 4 44 8 := by rw [hm553]; exact z_upd_o _ _ rfl
  have wmm5539 : m553 4 44 9 = m526 4 44 9 := by rw [hm553]; exact z_upd_o _ _ rfl
  have wmm55310 : m553 4 44 10 = m526 4 44 10 := by rw [hm553]; exact z_upd_o _ _ rfl
  refine X.aload_n 20 i203_19 rfl rfl rfl ?_
  refine X.getF 23 i203_20 rfl rfl (by decide) rfl rfl ?_
  refine X.sipush 26 i203_23 rfl rfl (by decide) ?_
  refine X.lald 27 i203_26 rfl rfl (by decide) rfl (by omega) ?_
  have h578 := r45_1614 hJ554 4
  refine X.lconst (y := 1) 28 i203_27 rfl rfl rfl ?_
  refine X.lcmp 29 i203_28 rfl rfl (fun z579 hz579 => ?_)
  refine X.ifne 36 32 i203_29 rfl rfl rfl (fun h580 => ?_) (fun h580 => ?_)
  · have h580c : (m553 4 45 1614) ≠ 1 := by omega
    clear h580 hz579
    refine X.cut [] i203_36 rfl ?_
    refine X.iconst 37 i203_36 rfl rfl (by decide) ?_
    refine X.retz i203_37 rfl t203 (by omega) ?_
    show X (EE s) d 260 14 [(0, zr 4 44)] [zi 0] m553 _
    refine X.ifeq 24 17 i260_14 rfl rfl rfl (fun h581 => ?_) (fun h581 => (by exfalso; omega))
    refine X.aload_n 25 i260_24 rfl rfl rfl ?_
    refine X.getF 28 i260_25 rfl rfl (by decide) rfl rfl ?_
    refine X.aload_n 29 i260_28 rfl rfl rfl ?_
    refine X.getF 32 i260_29 rfl rfl (by decide) rfl rfl ?_
    refine X.calls 35 [zr 4 45, zr 4 46] [] [(0, zr 4 45), (1, zr 4 46)] i260_32 (by decide) rfl rfl (by omega) rfl rfl t261 (Nat.le_of_ble_eq_true rfl) (Nat.le_of_ble_eq_true rfl) rfl ?_
    refine c_cq_45_46 (B := B)   (by omega) (hJ554.up (by omega)) (by omega) hs11 hs12 hs13 hs14 hs15 hs16 hs17 hs18 hs19 hs20 hs21 (fun m582 hJ583 hqv5840 => ?_)
    have wt585 : m582 4 45 0 = (m 4 45 0) := Eq.trans (by rw [hqv5840]; exact z_cpy_o rfl) wt555
    have wt586 : m582 4 45 1 = (m 4 45 1) := Eq.trans (by rw [hqv5840]; exact z_cpy_o rfl) wt556
    have wt587 : m582 4 45 2 = (m 4 45 2) := Eq.trans (by rw [hqv5840]; exact z_cpy_o rfl) wt557
    have wt588 : m582 4 45 3 = (m 4 45 3) := Eq.trans (by rw [hqv5840]; exact z_cpy_o rfl) wt558
    have wt589 : m582 4 45 11 = (m 4 45 11) := Eq.trans (by rw [hqv5840]; exact z_cpy_o rfl) wt559
    have wt590 : m582 4 45 13 = (m 4 45 13) := Eq.trans (by rw [hqv5840]; exact z_cpy_o rfl) wt560
    have wt591 : m582 4 45 18 = (m 4 45 18) := Eq.trans (by rw [hqv5840]; exact z_cpy_o rfl) wt561
    have wt592 : m582 4 45 1614 = (m 4 45 1614) := Eq.trans (by rw [hqv5840]; exact z_cpy_o rfl) wt562
    have wt593 : m582 4 45 1615 = (m 4 45 1615) := Eq.trans (by rw [hqv5840]; exact z_cpy_o rfl) wt563
    have wt594 : m582 4 45 1616 = (m 4 45 1616) := Eq.trans (by rw [hqv5840]; exact z_cpy_o rfl) wt564
    have wt595 : m582 4 45 1617 = (m 4 45 1617) := Eq.trans (by rw [hqv5840]; exact z_cpy_o rfl) wt565
    have wt596 : m582 4 46 0 = (m 4 45 0) := by rw [hqv5840]; exact (z_cpy_at (by omega)).trans wt555
    have wt597 : m582 4 46 1 = (m 4 45 1) := by rw [hqv5840]; exact (z_cpy_at (by omega)).trans wt556
    have wt598 : m582 4 46 2 = (m 4 45 2) := by rw [hqv5840]; exact (z_cpy_at (by omega)).trans wt557
    have wt599 : m582 4 46 3 = (m 4 45 3) := by rw [hqv5840]; exact (z_cpy_at (by omega)).trans wt558
    have wt600 : m582 4 46 11 = (m 4 45 11) := by rw [hqv5840]; exact (z_cpy_at (by omega)).trans wt559
    have wt601 : m582 4 46 13 = (m 4 45 13) := by rw [hqv5840]; exact (z_cpy_at (by omega)).trans wt560
    have wt602 : m582 4 46 18 = (m 4 45 18) := by rw [hqv5840]; exact (z_cpy_at (by omega)).trans wt561
    have wt603 : m582 4 46 1614 = (m 4 45 1614) := by rw [hqv5840]; exact (z_cpy_at (by omega)).trans wt562
    have wt604 : m582 4 46 1615 = (m 4 45 1615) := by rw [hqv5840]; exact (z_cpy_at (by omega)).trans wt563
    have wt605 : m582 4 46 1616 = (m 4 45 1616) := by rw [hqv5840]; exact (z_cpy_at (by omega)).trans wt564
    have wt606 : m582 4 46 1617 = (m 4 45 1617) := by rw [hqv5840]; exact (z_cpy_at (by omega)).trans wt565
    have wt607 : m582 4 44 5 = (m 4 44 5) := Eq.trans (by rw [hqv5840]; exact z_cpy_o rfl) wt577
    have wmm5828 : m582 4 44 8 = m553 4 44 8 := by rw [hqv5840]; exact z_cpy_o rfl
    have wmm5829 : m582 4 44 9 = m553 4 44 9 := by rw [hqv5840]; exact z_cpy_o rfl
    have wmm58210 : m582 4 44 10 = m553 4 44 10 := by rw [hqv5840]; exact z_cpy_o rfl
    show X (EE s) d 260 35 [(0, zr 4 44)] [] m582 _
    refine X.aload_n 36 i260_35 rfl rfl rfl ?_
    refine X.iconst 37 i260_36 rfl rfl (by decide) ?_
    refine X.putZ' 40 9 i260_37 rfl rfl (by decide) rfl rfl rfl (by omega) (fun hrm608 m608 hm608 => ?_)
    have rmm608 := r44_9 hJ583 4
    have hJ609 := w44_9 hJ583 hm608 (by omega) (.inr hs24)
    have wt610 : m608 4 45 0 = (m 4 45 0) := Eq.trans (by rw [hm608]; exact z_upd_o _ _ rfl) wt585
    have wt611 : m608 4 45 1 = (m 4 45 1) := Eq.trans (by rw [hm608]; exact z_upd_o _ _ rfl) wt586
    have wt612 : m608 4 45 2 = (m 4 45 2) := Eq.trans (by rw [hm608]; exact z_upd_o _ _ rfl) wt587
    have wt613 : m608 4 45 3 = (m 4 45 3) := Eq.trans (by rw [hm608]; exact z_upd_o _ _ rfl) wt588
    have wt614 : m608 4 45 11 = (m 4 45 11) := Eq.trans (by rw [hm608]; exact z_upd_o _ _ rfl) wt589
    have wt615 : m608 4 45 13 = (m 4 45 13) := Eq.trans (by rw [hm608]; exact z_upd_o _ _ rfl) wt590
    have wt616 : m608 4 45 18 = (m 4 45 18) := Eq.trans (by rw [hm608]; exact z_upd_o _ _ rfl) wt591
    have wt617 : m608 4 45 1614 = (m 4 45 1614) := Eq.trans (by rw [hm608]; exact z_upd_o _ _ rfl) wt592
    have wt618 : m608 4 45 1615 = (m 4 45 1615) := Eq.trans (by rw [hm608]; exact z_upd_o _ _ rfl) wt593
    have wt619 : m608 4 45 1616 = (m 4 45 1616) := Eq.trans (by rw [hm608]; exact z_upd_o _ _ rfl) wt594
    have wt620 : m608 4 45 1617 = (m 4 45 1617) := Eq.trans (by rw [hm608]; exact z_upd_o _ _ rfl) wt595
    have wt621 : m608 4 46 0 = (m 4 45 0) := Eq.trans (by rw [hm608]; exact z_upd_o _ _ rfl) wt596
    have wt622 : m608 4 46 1 = (m 4 45 1) := Eq.trans (by rw [hm608]; exact z_upd_o _ _ rfl) wt597
    have wt623 : m608 4 46 2 = (m 4 45 2) := Eq.trans (by rw [hm608]; exact z_upd_o _ _ rfl) wt598
    have wt624 : m608 4 46 3 = (m 4 45 3) := Eq.trans (by rw [hm608]; exact z_upd_o _ _ rfl) wt599
    have wt625 : m608 4 46 11 = (m 4 45 11) := Eq.trans (by rw [hm608]; exact z_upd_o _ _ rfl) wt600
    have wt626 : m608 4 46 13 = (m 4 45 13) := Eq.trans (by rw [hm608]; exact z_upd_o _ _ rfl) wt601
    have wt627 : m608 4 46 18 = (m 4 45 18) := Eq.trans (by rw [hm608]; exact z_upd_o _ _ rfl) wt602
    have wt628 : m608 4 46 1614 = (m 4 45 1614) := Eq.trans (by rw [hm608]; exact z_upd_o _ _ rfl) wt603
    have wt629 : m608 4 46 1615 = (m 4 45 1615) := Eq.trans (by rw [hm608]; exact z_upd_o _ _ rfl) wt604
    have wt630 : m608 4 46 1616 = (m 4 45 1616) := Eq.trans (by rw [hm608]; exact z_upd_o _ _ rfl) wt605
    have wt631 : m608 4 46 1617 = (m 4 45 1617) := Eq.trans (by rw [hm608]; exact z_upd_o _ _ rfl) wt606
    have wt632 : m608 4 44 5 = (m 4 44 5) := Eq.trans (by rw [hm608]; exact z_upd_o _ _ rfl) wt607
    clear wt585 wt586 wt587 wt588 wt589 wt590 wt591 wt592 wt593 wt594 wt595 wt596 wt597 wt598 wt599 wt600 wt601 wt602 wt603 wt604 wt605 wt606 wt607
    have em608 : m608 4 44 9 = 0 := by rw [hm608]; exact z_upd_same _ _ _ _ _
    have wmm6088 : m608 4 44 8 = m582 4 44 8 := by rw [hm608]; exact z_upd_o _ _ rfl
    have wmm60810 : m608 4 44 10 = m582 4 44 10 := by rw [hm608]; exact z_upd_o _ _ rfl
    refine X.aload_n 41 i260_40 rfl rfl rfl ?_
    refine X.iconst 42 i260_41 rfl rfl (by decide) ?_
    refine X.putI' 45 8 i260_42 rfl rfl (by decide) rfl rfl rfl (fun hrm633 m633 hm633 => ?_)
    have rmm633 := r44_8 hJ609 4
    have hJ634 := w44_8 hJ609 hm633 (by omega) (.inr hs23)
    have wt635 : m633 4 45 0 = (m 4 45 0) := Eq.trans (by rw [hm633]; exact z_upd_o _ _ rfl) wt610
    have wt636 : m633 4 45 1 = (m 4 45 1) := Eq.trans (by rw [hm633]; exact z_upd_o _ _ rfl) wt611
    have wt637 : m633 4 45 2 = (m 4 45 2) := Eq.trans (by rw [hm633]; exact z_upd_o _ _ rfl) wt612
    have wt638 : m633 4 45 3 = (m 4 45 3) := Eq.trans (by rw [hm633]; exact z_upd_o _ _ rfl) wt613
    have wt639 : m633 4 45 11 = (m 4 45 11) := Eq.trans (by rw [hm633]; exact z_upd_o _ _ rfl) wt614
    have wt640 : m633 4 45 13 = (m 4 45 13) := Eq.trans (by rw [hm633]; exact z_upd_o _ _ rfl) wt615
    have wt641 : m633 4 45 18 = (m 4 45 18) := Eq.trans (by rw [hm633]; exact z_upd_o _ _ rfl) wt616
    have wt642 : m633 4 45 1614 = (m 4 45 1614) := Eq.trans (by rw [hm633]; exact z_upd_o _ _ rfl) wt617
    have wt643 : m633 4 45 1615 = (m 4 45 1615) := Eq.trans (by rw [hm633]; exact z_upd_o _ _ rfl) wt618
    have wt644 : m633 4 45 1616 = (m 4 45 1616) := Eq.trans (by rw [hm633]; exact z_upd_o _ _ rfl) wt619
    have wt645 : m633 4 45 1617 = (m 4 45 1617) := Eq.trans (by rw [hm633]; exact z_upd_o _ _ rfl) wt620
    have wt646 : m633 4 46 0 = (m 4 45 0) := Eq.trans (by rw [hm633]; exact z_upd_o _ _ rfl) wt621
    have wt647 : m633 4 46 1 = (m 4 45 1) := Eq.trans (by rw [hm633]; exact z_upd_o _ _ rfl) wt622
    have wt648 : m633 4 46 2 = (m 4 45 2) := Eq.trans (by rw [hm633]; exact z_upd_o _ _ rfl) wt623
    have wt649 : m633 4 46 3 = (m 4 45 3) := Eq.trans (by rw [hm633]; exact z_upd_o _ _ rfl) wt624
    have wt650 : m633 4 46 11 = (m 4 45 11) := Eq.trans (by rw [hm633]; exact z_upd_o _ _ rfl) wt625
    have wt651 : m633 4 46 13 = (m 4 45 13) := Eq.trans (by rw [hm633]; exact z_upd_o _ _ rfl) wt626
    have wt652 : m633 4 46 18 = (m 4 45 18) := Eq.trans (by rw [hm633]; exact z_upd_o _ _ rfl) wt627
    have wt653 : m633 4 46 1614 = (m 4 45 1614) := Eq.trans (by rw [hm633]; exact z_upd_o _ _ rfl) wt628
    have wt654 : m633 4 46 1615 = (m 4 45 1615) := Eq.trans (by rw [hm633]; exact z_upd_o _ _ rfl) wt629
    have wt655 : m633 4 46 1616 = (m 4 45 1616) := Eq.trans (by rw [hm633]; exact z_upd_o _ _ rfl) wt630
    have wt656 : m633 4 46 1617 = (m 4 45 1617) := Eq.trans (by rw [hm633]; exact z_upd_o _ _ rfl) wt631
    have wt657 : m633 4 44 5 = (m 4 44 5) := Eq.trans (by rw [hm633]; exact z_upd_o _ _ rfl) wt632
    clear wt610 wt611 wt612 wt613 wt614 wt615 wt616 wt617 wt618 wt619 wt620 wt621 wt622 wt623 wt624 wt625 wt626 wt627 wt628 wt629 wt630 wt631 wt632
    have em633 : m633 4 44 8 = 0 := by rw [hm633]; exact z_upd_same _ _ _ _ _
    have wmm6339 : m633 4 44 9 = m608 4 44 9 := by rw [hm633]; exact z_upd_o _ _ rfl
    have wmm63310 : m633 4 44 10 = m608 4 44 10 := by rw [hm633]; exact z_upd_o _ _ rfl
    refine X.aload_n 46 i260_45 rfl rfl rfl ?_
    refine X.callv 49 [] [] [(0, zr 4 44)] i260_46 rfl (by decide) rfl rfl (by omega) rfl rfl (by decide) rfl t262 (Nat.le_of_ble_eq_true rfl) (Nat.le_of_ble_eq_true rfl) rfl ?_
    refine c262_1 (S := zfr [] (S.1, True, S.2.2)) (m0 := m633) (B := B)   (by omega) (hJ634.ow.up (by omega)) (by omega)  (fun m658 hJ659 => ?_)
    have hJ661 := hJ634.trans hJ659 zi_n
    have wt662 : m658 4 45 0 = (m 4 45 0) := Eq.trans (hJ659.eq rfl rfl) wt635
    have wt663 : m658 4 45 1 = (m 4 45 1) := Eq.trans (hJ659.eq rfl rfl) wt636
    have wt664 : m658 4 45 2 = (m 4 45 2) := Eq.trans (hJ659.eq rfl rfl) wt637
    have wt665 : m658 4 45 3 = (m 4 45 3) := Eq.trans (hJ659.eq rfl rfl) wt638
    have wt666 : m658 4 45 11 = (m 4 45 11) := Eq.trans (hJ659.eq rfl rfl) wt639
    have wt667 : m658 4 45 13 = (m 4 45 13) := Eq.trans (hJ659.eq rfl rfl) wt640
    have wt668 : m658 4 45 18 = (m 4 45 18) := Eq.trans (hJ659.eq rfl rfl) wt641
    have wt669 : m658 4 45 1614 = (m 4 45 1614) := Eq.trans (hJ659.eq rfl rfl) wt642
    have wt670 : m658 4 45 1615 = (m 4 45 1615) := Eq.trans (hJ659.eq rfl rfl) wt643
    have wt671 : m658 4 45 1616 = (m 4 45 1616) := Eq.trans (hJ659.eq rfl rfl) wt644
    have wt672 : m658 4 45 1617 = (m 4 45 1617) := Eq.trans (hJ659.eq rfl rfl) wt645
    have wt673 : m658 4 46 0 = (m 4 45 0) := Eq.trans (hJ659.eq rfl rfl) wt646
    have wt674 : m658 4 46 1 = (m 4 45 1) := Eq.trans (hJ659.eq rfl rfl) wt647
    have wt675 : m658 4 46 2 = (m 4 45 2) := Eq.trans (hJ659.eq rfl rfl) wt648
    have wt676 : m658 4 46 3 = (m 4 45 3) := Eq.trans (hJ659.eq rfl rfl) wt649
    have wt677 : m658 4 46 11 = (m 4 45 11) := Eq.trans (hJ659.eq rfl rfl) wt650
    have wt678 : m658 4 46 13 = (m 4 45 13) := Eq.trans (hJ659.eq rfl rfl) wt651
    have wt679 : m658 4 46 18 = (m 4 45 18) := Eq.trans (hJ659.eq rfl rfl) wt652
    have wt680 : m658 4 46 1614 = (m 4 45 1614) := Eq.trans (hJ659.eq rfl rfl) wt653
    have wt681 : m658 4 46 1615 = (m 4 45 1615) := Eq.trans (hJ659.eq rfl rfl) wt654
    have wt682 : m658 4 46 1616 = (m 4 45 1616) := Eq.trans (hJ659.eq rfl rfl) wt655
    have wt683 : m658 4 46 1617 = (m 4 45 1617) := Eq.trans (hJ659.eq rfl rfl) wt656
    have wt684 : m658 4 44 5 = (m 4 44 5) := Eq.trans (hJ659.eq rfl rfl) wt657
    clear wt635 wt636 wt637 wt638 wt639 wt640 wt641 wt642 wt643 wt644 wt645 wt646 wt647 wt648 wt649 wt650 wt651 wt652 wt653 wt654 wt655 wt656 wt657
    have mom658 := hJ659.mo rfl rfl
    show X (EE s) d 260 49 [(0, zr 4 44)] [] m658 _
    refine X.iconst 50 i260_49 rfl rfl (by decide) ?_
    refine X.istore_n 51 [(0, zr 4 44), (1, zi 0)] i260_50 rfl rfl rfl ?_
    refine X.aload_n 52 i260_51 rfl rfl rfl ?_
    refine X.callv 55 [] [] [(0, zr 4 44)] i260_52 rfl (by decide) rfl rfl (by omega) rfl rfl (by decide) rfl t263 (Nat.le_of_ble_eq_true rfl) (Nat.le_of_ble_eq_true rfl) rfl ?_
    refine c263_1 (S := zfr [] (S.1, True, S.2.2)) (m0 := m658) (B := B)   (by omega) (hJ661.ow.up (by omega)) (by omega)  (fun m685 hJ686 => ?_)
    have hJ688 := hJ661.trans hJ686 zi_n
    have wt689 : m685 4 45 0 = (m 4 45 0) := Eq.trans (hJ686.eq rfl rfl) wt662
    have wt690 : m685 4 45 1 = (m 4 45 1) := Eq.trans (hJ686.eq rfl rfl) wt663
    have wt691 : m685 4 45 2 = (m 4 45 2) := Eq.trans (hJ686.eq rfl rfl) wt664
    have wt692 : m685 4 45 3 = (m 4 45 3) := Eq.trans (hJ686.eq rfl rfl) wt665
    have wt693 : m685 4 45 11 = (m 4 45 11) := Eq.trans (hJ686.eq rfl rfl) wt666
    have wt694 : m685 4 45 13 = (m 4 45 13) := Eq.trans (hJ686.eq rfl rfl) wt667
    have wt695 : m685 4 45 18 = (m 4 45 18) := Eq.trans (hJ686.eq rfl rfl) wt668
    have wt696 : m685 4 45 1614 = (m 4 45 1614) := Eq.trans (hJ686.eq rfl rfl) wt669
    have wt697 : m685 4 45 1615 = (m 4 45 1615) := Eq.trans (hJ686.eq rfl rfl) wt670
    have wt698 : m685 4 45 1616 = (m 4 45 1616) := Eq.trans (hJ686.eq rfl rfl) wt671
    have wt699 : m685 4 45 1617 = (m 4 45 1617) := Eq.trans (hJ686.eq rfl rfl) wt672
    have wt700 : m685 4 46 0 = (m 4 45 0) := Eq.trans (hJ686.eq rfl rfl) wt673
    have wt701 : m685 4 46 1 = (m 4 45 1) := Eq.trans (hJ686.eq rfl rfl) wt674
    have wt702 : m685 4 46 2 = (m 4 45 2) := Eq.trans (hJ686.eq rfl rfl) wt675
    have wt703 : m685 4 46 3 = (m 4 45 3) := Eq.trans (hJ686.eq rfl rfl) wt676
    have wt704 : m685 4 46 11 = (m 4 45 11) := Eq.trans (hJ686.eq rfl rfl) wt677
    have wt705 : m685 4 46 13 = (m 4 45 13) := Eq.trans (hJ686.eq rfl rfl) wt678
    have wt706 : m685 4 46 18 = (m 4 45 18) := Eq.trans (hJ686.eq rfl rfl) wt679
    have wt707 : m685 4 46 1614 = (m 4 45 1614) := Eq.trans (hJ686.eq rfl rfl) wt680
    have wt708 : m685 4 46 1615 = (m 4 45 1615) := Eq.trans (hJ686.eq rfl rfl) wt681
    have wt709 : m685 4 46 1616 = (m 4 45 1616) := Eq.trans (hJ686.eq rfl rfl) wt682
    have wt710 : m685 4 46 1617 = (m 4 45 1617) := Eq.trans (hJ686.eq rfl rfl) wt683
    have wt711 : m685 4 44 5 = (m 4 44 5) := Eq.trans (hJ686.eq rfl rfl) wt684
    clear wt662 wt663 wt664 wt665 wt666 wt667 wt668 wt669 wt670 wt671 wt672 wt673 wt674 wt675 wt676 wt677 wt678 wt679 wt680 wt681 wt682 wt683 wt684
    have mom685 := hJ686.mo rfl rfl
    show X (EE s) d 260 55 [(0, zr 4 44), (1, zi 0)] [] m685 _
    refine l260_55_1 (s := s) (S := (zfr [] (S.1, True, S.2.2))) (m0 := m685) (d := d)   (BE := B + 0) (by omega) (by omega) (fun y712 m713 B714 hJ715 hBB714 hby712 => ?_) ((604 - m685 4 44 8 - 302 * m685 4 44 9 : Int).toNat + 1) 0 m685 (B) (hJ688.ow.up (by omega)) (by omega)  (by omega) (by omega)
    have hJ716 := hJ688.trans hJ715 zi_n
    have wt717 : m713 4 45 0 = (m 4 45 0) := Eq.trans (hJ715.eq rfl rfl) wt689
    have wt718 : m713 4 45 1 = (m 4 45 1) := Eq.trans (hJ715.eq rfl rfl) wt690
    have wt719 : m713 4 45 2 = (m 4 45 2) := Eq.trans (hJ715.eq rfl rfl) wt691
    have wt720 : m713 4 45 3 = (m 4 45 3) := Eq.trans (hJ715.eq rfl rfl) wt692
    have wt721 : m713 4 45 11 = (m 4 45 11) := Eq.trans (hJ715.eq rfl rfl) wt693
    have wt722 : m713 4 45 13 = (m 4 45 13) := Eq.trans (hJ715.eq rfl rfl) wt694
    have wt723 : m713 4 45 18 = (m 4 45 18) := Eq.trans (hJ715.eq rfl rfl) wt695
    have wt724 : m713 4 45 1614 = (m 4 45 1614) := Eq.trans (hJ715.eq rfl rfl) wt696
    have wt725 : m713 4 45 1615 = (m 4 45 1615) := Eq.trans (hJ715.eq rfl rfl) wt697
    have wt726 : m713 4 45 1616 = (m 4 45 1616) := Eq.trans (hJ715.eq rfl rfl) wt698
    have wt727 : m713 4 45 1617 = (m 4 45 1617) := Eq.trans (hJ715.eq rfl rfl) wt699
    have wt728 : m713 4 46 0 = (m 4 45 0) := Eq.trans (hJ715.eq rfl rfl) wt700
    have wt729 : m713 4 46 1 = (m 4 45 1) := Eq.trans (hJ715.eq rfl rfl) wt701
    have wt730 : m713 4 46 2 = (m 4 45 2) := Eq.trans (hJ715.eq rfl rfl) wt702
    have wt731 : m713 4 46 3 = (m 4 45 3) := Eq.trans (hJ715.eq rfl rfl) wt703
    have wt732 : m713 4 46 11 = (m 4 45 11) := Eq.trans (hJ715.eq rfl rfl) wt704
    have wt733 : m713 4 46 13 = (m 4 45 13) := Eq.trans (hJ715.eq rfl rfl) wt705
    have wt734 : m713 4 46 18 = (m 4 45 18) := Eq.trans (hJ715.eq rfl rfl) wt706
    have wt735 : m713 4 46 1614 = (m 4 45 1614) := Eq.trans (hJ715.eq rfl rfl) wt707
    have wt736 : m713 4 46 1615 = (m 4 45 1615) := Eq.trans (hJ715.eq rfl rfl) wt708
    have wt737 : m713 4 46 1616 = (m 4 45 1616) := Eq.trans (hJ715.eq rfl rfl) wt709
    have wt738 : m713 4 46 1617 = (m 4 45 1617) := Eq.trans (hJ715.eq rfl rfl) wt710
    have wt739 : m713 4 44 5 = (m 4 44 5) := Eq.trans (hJ715.eq rfl rfl) wt711
    have mom713 := hJ715.mo rfl rfl
    refine X.aload_n 88 i260_87 rfl rfl rfl ?_
    refine X.iconst 89 i260_88 rfl rfl (by decide) ?_
    refine X.putI' 92 5 i260_89 rfl rfl (by decide) rfl rfl rfl (fun hrm740 m740 hm740 => ?_)
    have hJ741 := w44_5 hJ716 hm740 (by omega) hs22
    have wt742 : m740 4 45 0 = (m 4 45 0) := Eq.trans (by rw [hm740]; exact z_upd_o _ _ rfl) wt717
    have wt743 : m740 4 45 1 = (m 4 45 1) := Eq.trans (by rw [hm740]; exact z_upd_o _ _ rfl) wt718
    have wt744 : m740 4 45 2 = (m 4 45 2) := Eq.trans (by rw [hm740]; exact z_upd_o _ _ rfl) wt719
    have wt745 : m740 4 45 3 = (m 4 45 3) := Eq.trans (by rw [hm740]; exact z_upd_o _ _ rfl) wt720
    have wt746 : m740 4 45 11 = (m 4 45 11) := Eq.trans (by rw [hm740]; exact z_upd_o _ _ rfl) wt721
    have wt747 : m740 4 45 13 = (m 4 45 13) := Eq.trans (by rw [hm740]; exact z_upd_o _ _ rfl) wt722
    have wt748 : m740 4 45 18 = (m 4 45 18) := Eq.trans (by rw [hm740]; exact z_upd_o _ _ rfl) wt723
    have wt749 : m740 4 45 1614 = (m 4 45 1614) := Eq.trans (by rw [hm740]; exact z_upd_o _ _ rfl) wt724
    have wt750 : m740 4 45 1615 = (m 4 45 1615) := Eq.trans (by rw [hm740]; exact z_upd_o _ _ rfl) wt725
    have wt751 : m740 4 45 1616 = (m 4 45 1616) := Eq.trans (by rw [hm740]; exact z_upd_o _ _ rfl) wt726
    have wt752 : m740 4 45 1617 = (m 4 45 1617) := Eq.trans (by rw [hm740]; exact z_upd_o _ _ rfl) wt727
    have wt753 : m740 4 46 0 = (m 4 45 0) := Eq.trans (by rw [hm740]; exact z_upd_o _ _ rfl) wt728
    have wt754 : m740 4 46 1 = (m 4 45 1) := Eq.trans (by rw [hm740]; exact z_upd_o _ _ rfl) wt729
    have wt755 : m740 4 46 2 = (m 4 45 2) := Eq.trans (by rw [hm740]; exact z_upd_o _ _ rfl) wt730
    have wt756 : m740 4 46 3 = (m 4 45 3) := Eq.trans (by rw [hm740]; exact z_upd_o _ _ rfl) wt731
    have wt757 : m740 4 46 11 = (m 4 45 11) := Eq.trans (by rw [hm740]; exact z_upd_o _ _ rfl) wt732
    have wt758 : m740 4 46 13 = (m 4 45 13) := Eq.trans (by rw [hm740]; exact z_upd_o _ _ rfl) wt733
    have wt759 : m740 4 46 18 = (m 4 45 18) := Eq.trans (by rw [hm740]; exact z_upd_o _ _ rfl) wt734
    have wt760 : m740 4 46 1614 = (m 4 45 1614) := Eq.trans (by rw [hm740]; exact z_upd_o _ _ rfl) wt735
    have wt761 : m740 4 46 1615 = (m 4 45 1615) := Eq.trans (by rw [hm740]; exact z_upd_o _ _ rfl) wt736
    have wt762 : m740 4 46 1616 = (m 4 45 1616) := Eq.trans (by rw [hm740]; exact z_upd_o _ _ rfl) wt737
    have wt763 : m740 4 46 1617 = (m 4 45 1617) := Eq.trans (by rw [hm740]; exact z_upd_o _ _ rfl) wt738
    have wt764 : m740 4 44 5 = 0 := by rw [hm740]; exact z_upd_same _ _ _ _ _
    clear wt717 wt718 wt719 wt720 wt721 wt722 wt723 wt724 wt725 wt726 wt727 wt728 wt729 wt730 wt731 wt732 wt733 wt734 wt735 wt736 wt737 wt738 wt739
    have em740 : m740 4 44 5 = 0 := by rw [hm740]; exact z_upd_same _ _ _ _ _
    have wmm7408 : m740 4 44 8 = m713 4 44 8 := by rw [hm740]; exact z_upd_o _ _ rfl
    have wmm7409 : m740 4 44 9 = m713 4 44 9 := by rw [hm740]; exact z_upd_o _ _ rfl
    have wmm74010 : m740 4 44 10 = m713 4 44 10 := by rw [hm740]; exact z_upd_o _ _ rfl
    refine X.aload_n 93 i260_92 rfl rfl rfl ?_
    refine X.getZ 96 9 i260_93 rfl rfl (by decide) rfl rfl rfl (fun h765 => ?_)
    refine X.ifne 101 99 i260_96 rfl rfl rfl (fun h766 => ?_) (fun h766 => ?_)
    · refine X.cut [(0, zr 4 44)] i260_101 rfl ?_
      refine X.aload_n 102 i260_101 rfl rfl rfl ?_
      refine X.getF 105 i260_102 rfl rfl (by decide) rfl rfl ?_
      refine X.aload_n 106 i260_105 rfl rfl rfl ?_
      refine X.getF 109 i260_106 rfl rfl (by decide) rfl rfl ?_
      refine X.calls 112 [zr 4 46, zr 4 45] [] [(0, zr 4 46), (1, zr 4 45)] i260_109 (by decide) rfl rfl (by omega) rfl rfl t261 (Nat.le_of_ble_eq_true rfl) (Nat.le_of_ble_eq_true rfl) rfl ?_
      refine c_cq_46_45 (B := B714)   (by omega) (hJ741.up (by omega)) (by omega) trivial hs0 hs1 hs2 hs3 hs4 hs5 hs6 hs7 hs8 hs9 hs10 (fun m767 hJ768 hqv7690 => ?_)
      have wt770 : m767 4 45 0 = (m 4 45 0) := by rw [hqv7690]; exact (z_cpy_at (by omega)).trans wt753
      have wt771 : m767 4 45 1 = (m 4 45 1) := by rw [hqv7690]; exact (z_cpy_at (by omega)).trans wt754
      have wt772 : m767 4 45 2 = (m 4 45 2) := by rw [hqv7690]; exact (z_cpy_at (by omega)).trans wt755
      have wt773 : m767 4 45 3 = (m 4 45 3) := by rw [hqv7690]; exact (z_cpy_at (by omega)).trans wt756
      have wt774 : m767 4 45 11 = (m 4 45 11) := by rw [hqv7690]; exact (z_cpy_at (by omega)).trans wt757
      have wt775 : m767 4 45 13 = (m 4 45 13) := by rw [hqv7690]; exact (z_cpy_at (by omega)).trans wt758
      have wt776 : m767 4 45 18 = (m 4 45 18) := by rw [hqv7690]; exact (z_cpy_at (by omega)).trans wt759
      have wt777 : m767 4 45 1614 = (m 4 45 1614) := by rw [hqv7690]; exact (z_cpy_at (by omega)).trans wt760
      have wt778 : m767 4 45 1615 = (m 4 45 1615) := by rw [hqv7690]; exact (z_cpy_at (by omega)).trans wt761
      have wt779 : m767 4 45 1616 = (m 4 45 1616) := by rw [hqv7690]; exact (z_cpy_at (by omega)).trans wt762
      have wt780 : m767 4 45 1617 = (m 4 45 1617) := by rw [hqv7690]; exact (z_cpy_at (by omega)).trans wt763
      have wt781 : m767 4 46 0 = (m 4 45 0) := Eq.trans (by rw [hqv7690]; exact z_cpy_o rfl) wt753
      have wt782 : m767 4 46 1 = (m 4 45 1) := Eq.trans (by rw [hqv7690]; exact z_cpy_o rfl) wt754
      have wt783 : m767 4 46 2 = (m 4 45 2) := Eq.trans (by rw [hqv7690]; exact z_cpy_o rfl) wt755
      have wt784 : m767 4 46 3 = (m 4 45 3) := Eq.trans (by rw [hqv7690]; exact z_cpy_o rfl) wt756
      have wt785 : m767 4 46 11 = (m 4 45 11) := Eq.trans (by rw [hqv7690]; exact z_cpy_o rfl) wt757
      have wt786 : m767 4 46 13 = (m 4 45 13) := Eq.trans (by rw [hqv7690]; exact z_cpy_o rfl) wt758
      have wt787 : m767 4 46 18 = (m 4 45 18) := Eq.trans (by rw [hqv7690]; exact z_cpy_o rfl) wt759
      have wt788 : m767 4 46 1614 = (m 4 45 1614) := Eq.trans (by rw [hqv7690]; exact z_cpy_o rfl) wt760
      have wt789 : m767 4 46 1615 = (m 4 45 1615) := Eq.trans (by rw [hqv7690]; exact z_cpy_o rfl) wt761
      have wt790 : m767 4 46 1616 = (m 4 45 1616) := Eq.trans (by rw [hqv7690]; exact z_cpy_o rfl) wt762
      have wt791 : m767 4 46 1617 = (m 4 45 1617) := Eq.trans (by rw [hqv7690]; exact z_cpy_o rfl) wt763
      have wt792 : m767 4 44 5 = 0 := Eq.trans (by rw [hqv7690]; exact z_cpy_o rfl) wt764
      have wmm7678 : m767 4 44 8 = m740 4 44 8 := by rw [hqv7690]; exact z_cpy_o rfl
      have wmm7679 : m767 4 44 9 = m740 4 44 9 := by rw [hqv7690]; exact z_cpy_o rfl
      have wmm76710 : m767 4 44 10 = m740 4 44 10 := by rw [hqv7690]; exact z_cpy_o rfl
      show X (EE s) d 260 112 [(0, zr 4 44)] [] m767 _
      refine X.iconst 113 i260_112 rfl rfl (by decide) ?_
      refine X.reti i260_113 rfl t260 ?_
      exact hQ (-1) m767 (by first | trivial | omega) ((hJ768.wk (S := S) (fun h => by first | trivial | exact h) (fun h => by first | trivial | exact h)).up (by omega)) (by exact ⟨by omega, by omega, by omega, by omega, by omega, by omega, by omega, by omega, by omega, by omega, by omega⟩)
    · refine X.iload_n 100 i260_99 rfl rfl rfl ?_
      refine X.reti i260_100 rfl t260 ?_
      exact hQ y712 m740 (by first | trivial | omega) ((hJ741.wk (S := S) (fun h => by first | trivial | exact h) (fun h => by first | trivial | exact h)).up (by omega)) (by exact ⟨by omega, by omega, by omega, by omega, by omega, by omega, by omega, by omega, by omega, by omega, by omega⟩)
  · have h580c : (m553 4 45 1614) = 1 := by omega
    clear h580 hz579
    refine X.iconst 33 i203_32 rfl rfl (by decide) ?_
    refine X.goto 37 i203_33 rfl rfl ?_
    refine X.cut [] i203_37 rfl ?_
    refine X.retz i203_37 rfl t203 (by omega) ?_
    show X (EE s) d 260 14 [(0, zr 4 44)] [zi 1] m553 _
    refine X.ifeq 24 17 i260_14 rfl rfl rfl (fun h793 => (by exfalso; omega)) (fun h793 => ?_)
    refine X.aload_n 18 i260_17 rfl rfl rfl ?_
    refine X.iconst 19 i260_18 rfl rfl (by decide) ?_
    refine X.putI' 22 5 i260_19 rfl rfl (by decide) rfl rfl rfl (fun hrm794 m794 hm794 => ?_)
    have hJ795 := w44_5 hJ554 hm794 (by omega) hs22
    have wt796 : m794 4 45 0 = (m 4 45 0) := Eq.trans (by rw [hm794]; exact z_upd_o _ _ rfl) wt555
    have wt797 : m794 4 45 1 = (m 4 45 1) := Eq.trans (by rw [hm794]; exact z_upd_o _ _ rfl) wt556
    have wt798 : m794 4 45 2 = (m 4 45 2) := Eq.trans (by rw [hm794]; exact z_upd_o _ _ rfl) wt557
    have wt799 : m794 4 45 3 = (m 4 45 3) := Eq.trans (by rw [hm794]; exact z_upd_o _ _ rfl) wt558
    have wt800 : m794 4 45 11 = (m 4 45 11) := Eq.trans (by rw [hm794]; exact z_upd_o _ _ rfl) wt559
    have wt801 : m794 4 45 13 = (m 4 45 13) := Eq.trans (by rw [hm794]; exact z_upd_o _ _ rfl) wt560
    have wt802 : m794 4 45 18 = (m 4 45 18) := Eq.trans (by rw [hm794]; exact z_upd_o _ _ rfl) wt561
    have wt803 : m794 4 45 1614 = (m 4 45 1614) := Eq.trans (by rw [hm794]; exact z_upd_o _ _ rfl) wt562
    have wt804 : m794 4 45 1615 = (m 4 45 1615) := Eq.trans (by rw [hm794]; exact z_upd_o _ _ rfl) wt563
    have wt805 : m794 4 45 1616 = (m 4 45 1616) := Eq.trans (by rw [hm794]; exact z_upd_o _ _ rfl) wt564
    have wt806 : m794 4 45 1617 = (m 4 45 1617) := Eq.trans (by rw [hm794]; exact z_upd_o _ _ rfl) wt565
    have wt807 : m794 4 46 0 = (m 4 46 0) := Eq.trans (by rw [hm794]; exact z_upd_o _ _ rfl) wt566
    have wt808 : m794 4 46 1 = (m 4 46 1) := Eq.trans (by rw [hm794]; exact z_upd_o _ _ rfl) wt567
    have wt809 : m794 4 46 2 = (m 4 46 2) := Eq.trans (by rw [hm794]; exact z_upd_o _ _ rfl) wt568
    have wt810 : m794 4 46 3 = (m 4 46 3) := Eq.trans (by rw [hm794]; exact z_upd_o _ _ rfl) wt569
    have wt811 : m794 4 46 11 = (m 4 46 11) := Eq.trans (by rw [hm794]; exact z_upd_o _ _ rfl) wt570
    have wt812 : m794 4 46 13 = (m 4 46 13) := Eq.trans (by rw [hm794]; exact z_upd_o _ _ rfl) wt571
    have wt813 : m794 4 46 18 = (m 4 46 18) := Eq.trans (by rw [hm794]; exact z_upd_o _ _ rfl) wt572
    have wt814 : m794 4 46 1614 = (m 4 46 1614) := Eq.trans (by rw [hm794]; exact z_upd_o _ _ rfl) wt573
    have wt815 : m794 4 46 1615 = (m 4 46 1615) := Eq.trans (by rw [hm794]; exact z_upd_o _ _ rfl) wt574
    have wt816 : m794 4 46 1616 = (m 4 46 1616) := Eq.trans (by rw [hm794]; exact z_upd_o _ _ rfl) wt575
    have wt817 : m794 4 46 1617 = (m 4 46 1617) := Eq.trans (by rw [hm794]; exact z_upd_o _ _ rfl) wt576
    have wt818 : m794 4 44 5 = 0 := by rw [hm794]; exact z_upd_same _ _ _ _ _
    clear wt555 wt556 wt557 wt558 wt559 wt560 wt561 wt563 wt564 wt565 wt566 wt567 wt568 wt569 wt570 wt571 wt572 wt573 wt574 wt575 wt576 wt577
    have em794 : m794 4 44 5 = 0 := by rw [hm794]; exact z_upd_same _ _ _ _ _
    have wmm7948 : m794 4 44 8 = m553 4 44 8 := by rw [hm794]; exact z_upd_o _ _ rfl
    have wmm7949 : m794 4 44 9 = m553 4 44 9 := by rw [hm794]; exact z_upd_o _ _ rfl
    have wmm79410 : m794 4 44 10 = m553 4 44 10 := by rw [hm794]; exact z_upd_o _ _ rfl
    refine X.iconst 23 i260_22 rfl rfl (by decide) ?_
    refine X.reti i260_23 rfl t260 ?_
    exact hQ (-1) m794 (by first | trivial | omega) (hJ795.up (by omega)) (by exact ⟨by omega, by omega, by omega, by omega, by omega, by omega, by omega, by omega, by omega, by omega, by omega⟩)
-- WorkMeter.fault
theorem c113_1 {s : Nat × (Nat → Int32)} {S : zS} {m0 m : zM} {B : Int} {d : Nat} {Q : Option zV → zM → Prop} (a1 : Int) (hd : 13 ≤ d) (hJ : J S m0 B m) (hB : B + 0 ≤ 1000000000) (ha1 : (-2147483648) ≤ a1 ∧ a1 ≤ 2147483647) (hQ : ∀ (v : Int), ((-2147483648) ≤ v ∧ v ≤ 2147483647) → Q (some (zi v)) m) : X (EE s) d 113 0 [(0, zr 4 40), (1, zi a1)] [] m Q := by
  refine X.iload_n 1 i113_0 rfl rfl rfl ?_
  refine X.ifne 12 4 i113_1 rfl rfl rfl (fun h501 => ?_) (fun h501 => ?_)
  · refine X.iload_n 13 i113_12 rfl rfl rfl ?_
    refine X.iconst 14 i113_13 rfl rfl (by decide) ?_
    refine X.icmpne 27 17 i113_14 rfl rfl rfl (fun h502 => ?_) (fun h502 => ?_)
    · refine X.cut [] i113_27 rfl ?_
      refine X.iconst 28 i113_27 rfl rfl (by decide) ?_
      refine X.reti i113_28 rfl t113 ?_
      exact hQ (-1) (by first | trivial | omega) 
    · refine X.aload_n 18 i113_17 rfl rfl rfl ?_
      refine X.getF 21 i113_18 rfl rfl (by decide) rfl rfl ?_
      refine X.getIr 24 5 i113_21 rfl rfl (by decide) rfl rfl rfl (fun h503 => ?_)
      refine X.goto 28 i113_24 rfl rfl ?_
      refine X.cut [] i113_28 rfl ?_
      refine X.reti i113_28 rfl t113 ?_
      exact hQ (m 4 41 5) (by first | trivial | omega) 
  · refine X.aload_n 5 i113_4 rfl rfl rfl ?_
    refine X.getF 8 i113_5 rfl rfl (by decide) rfl rfl ?_
    refine X.getIr 11 4 i113_8 rfl rfl (by decide) rfl rfl rfl (fun h504 => ?_)
    refine X.reti i113_11 rfl t113 ?_
    exact hQ (m 4 41 4) (by first | trivial | omega) 
-- WorkMeterModel.fault
theorem c259_1 {s : Nat × (Nat → Int32)} {S : zS} {m0 m : zM} {B : Int} {d : Nat} {Q : Option zV → zM → Prop} (a1 : Int) (hd : 13 ≤ d) (hJ : J S m0 B m) (hB : B + 0 ≤ 1000000000) (ha1 : (-2147483648) ≤ a1 ∧ a1 ≤ 2147483647) (hQ : ∀ (v : Int), ((-2147483648) ≤ v ∧ v ≤ 2147483647) → Q (some (zi v)) m) : X (EE s) d 259 0 [(0, zr 4 44), (1, zi a1)] [] m Q := by
  refine X.iload_n 1 i259_0 rfl rfl rfl ?_
  refine X.ifne 11 4 i259_1 rfl rfl rfl (fun h501 => ?_) (fun h501 => ?_)
  · refine X.iload_n 12 i259_11 rfl rfl rfl ?_
    refine X.iconst 13 i259_12 rfl rfl (by decide) ?_
    refine X.icmpne 23 16 i259_13 rfl rfl rfl (fun h502 => ?_) (fun h502 => ?_)
    · refine X.cut [] i259_23 rfl ?_
      refine X.iconst 24 i259_23 rfl rfl (by decide) ?_
      refine X.reti i259_24 rfl t259 ?_
      exact hQ (-1) (by first | trivial | omega) 
    · refine X.aload_n 17 i259_16 rfl rfl rfl ?_
      refine X.getIr 20 7 i259_17 rfl rfl (by decide) rfl rfl rfl (fun h503 => ?_)
      refine X.goto 24 i259_20 rfl rfl ?_
      refine X.cut [] i259_24 rfl ?_
      refine X.reti i259_24 rfl t259 ?_
      exact hQ (m 4 44 7) (by first | trivial | omega) 
  · refine X.aload_n 5 i259_4 rfl rfl rfl ?_
    refine X.getIr 8 6 i259_5 rfl rfl (by decide) rfl rfl rfl (fun h504 => ?_)
    refine X.goto 24 i259_8 rfl rfl ?_
    refine X.cut [] i259_24 rfl ?_
    refine X.reti i259_24 rfl t259 ?_
    exact hQ (m 4 44 6) (by first | trivial | omega) 
-- WorkMeter.seal
theorem c114_1 {s : Nat × (Nat → Int32)} {S : zS} {m0 m : zM} {B : Int} {d : Nat} {Q : Option zV → zM → Prop} (a1 : Int) (hd : 13 ≤ d) (hJ : J S m0 B m) (hB : B + 1 ≤ 1000000000) (ha1 : (-2147483648) ≤ a1 ∧ a1 ≤ 2147483647) (hs0 : S.1 0 39 0) (hs1 : S.1 0 39 1) (hQ : ∀ (v : Int) m', (0 ≤ v ∧ v ≤ 1) → J S m0 (B + 1) m' → ((v = 1 ∧ m 0 39 0 = 0 ∧ 0 ≤ a1 ∧ a1 ≤ 9999 ∧ m' 0 39 0 = 1 ∧ m' 0 39 1 = a1) ∨ (v = 0 ∧ ¬ (m 0 39 0 = 0 ∧ 0 ≤ a1 ∧ a1 ≤ 9999) ∧ m' 0 39 0 = m 0 39 0 ∧ m' 0 39 1 = m 0 39 1)) → Q (some (zi v)) m') : X (EE s) d 114 0 [(0, zr 4 40), (1, zi a1)] [] m Q := by
  refine X.aload_n 1 i114_0 rfl rfl rfl ?_
  refine X.getF 4 i114_1 rfl rfl (by decide) rfl rfl ?_
  refine X.getR 7 i114_4 rfl rfl (by decide) rfl rfl ?_
  refine X.iload_n 8 i114_7 rfl rfl rfl ?_
  refine X.callv 11 [zi a1] [] [(0, zr 0 39), (1, zi a1)] i114_8 rfl (by decide) rfl rfl (by omega) rfl rfl (by decide) rfl t115 (Nat.le_of_ble_eq_true rfl) (Nat.le_of_ble_eq_true rfl) rfl ?_
  refine X.aload_n 1 i115_0 rfl rfl rfl ?_
  refine X.getZ 4 0 i115_1 rfl rfl (by decide) rfl rfl rfl (fun h501 => ?_)
  refine X.ifne 18 7 i115_4 rfl rfl rfl (fun h502 => ?_) (fun h502 => ?_)
  · refine X.cut [] i115_18 rfl ?_
    refine X.iconst 19 i115_18 rfl rfl (by decide) ?_
    refine X.retz i115_19 rfl t115 (by omega) ?_
    show X (EE s) d 114 11 [(0, zr 4 40), (1, zi a1)] [zi 0] m _
    refine X.ifne 16 14 i114_11 rfl rfl rfl (fun h503 => (by exfalso; omega)) (fun h503 => ?_)
    refine X.iconst 15 i114_14 rfl rfl (by decide) ?_
    refine X.retz i114_15 rfl t114 (by omega) ?_
    exact hQ 0 m (by first | trivial | omega) (hJ.up (by omega)) (by first | exact (.inl ⟨by omega, by omega, by omega, by omega, by omega, by omega⟩) | exact (.inr ⟨by omega, by omega, by omega, by omega⟩))
  · refine X.iload_n 8 i115_7 rfl rfl rfl ?_
    refine X.iflt 18 11 i115_8 rfl rfl rfl (fun h504 => ?_) (fun h504 => ?_)
    · refine X.cut [] i115_18 rfl ?_
      refine X.iconst 19 i115_18 rfl rfl (by decide) ?_
      refine X.retz i115_19 rfl t115 (by omega) ?_
      show X (EE s) d 114 11 [(0, zr 4 40), (1, zi a1)] [zi 0] m _
      refine X.ifne 16 14 i114_11 rfl rfl rfl (fun h505 => (by exfalso; omega)) (fun h505 => ?_)
      refine X.iconst 15 i114_14 rfl rfl (by decide) ?_
      refine X.retz i114_15 rfl t114 (by omega) ?_
      exact hQ 0 m (by first | trivial | omega) (hJ.up (by omega)) (by first | exact (.inl ⟨by omega, by omega, by omega, by omega, by omega, by omega⟩) | exact (.inr ⟨by omega, by omega, by omega, by omega⟩))
    · refine X.iload_n 12 i115_11 rfl rfl rfl ?_
      refine X.sipush 15 i115_12 rfl rfl (by decide) ?_
      refine X.icmple 20 18 i115_15 rfl rfl rfl (fun h506 => ?_) (fun h506 => ?_)
      · refine X.aload_n 21 i115_20 rfl rfl rfl ?_
        refine X.iconst 22 i115_21 rfl rfl (by decide) ?_
        refine X.putZ' 25 0 i115_22 rfl rfl (by decide) rfl rfl rfl (by omega) (fun hrm507 m507 hm507 => ?_)
        have hJ508 := w39_0 hJ hm507 (by omega) hs0
        have wt509 : m507 0 39 0 = 1 := by rw [hm507]; exact z_upd_same _ _ _ _ _
        have wt510 : m507 0 39 1 = (m 0 39 1) := by rw [hm507]; exact z_upd_o _ _ rfl
        refine X.aload_n 26 i115_25 rfl rfl rfl ?_
        refine X.iload_n 27 i115_26 rfl rfl rfl ?_
        refine X.putI' 30 1 i115_27 rfl rfl (by decide) rfl rfl rfl (fun hrm511 m511 hm511 => ?_)
        have hJ512 := w39_1 hJ508 hm511 hrm511 hs1
        have wt513 : m511 0 39 0 = 1 := Eq.trans (by rw [hm511]; exact z_upd_o _ _ rfl) wt509
        have wt514 : m511 0 39 1 = a1 := by rw [hm511]; exact z_upd_same _ _ _ _ _
        clear wt509 wt510
        refine X.iconst 31 i115_30 rfl rfl (by decide) ?_
        refine X.retz i115_31 rfl t115 (by omega) ?_
        show X (EE s) d 114 11 [(0, zr 4 40), (1, zi a1)] [zi 1] m511 _
        refine X.ifne 16 14 i114_11 rfl rfl rfl (fun h515 => ?_) (fun h515 => (by exfalso; omega))
        refine X.cut [(0, zr 4 40)] i114_16 rfl ?_
        refine X.aload_n 17 i114_16 rfl rfl rfl ?_
        refine X.getF 20 i114_17 rfl rfl (by decide) rfl rfl ?_
        refine X.bipush 22 i114_20 rfl rfl (by decide) ?_
        refine X.iconst 23 i114_22 rfl rfl (by decide) ?_
        refine X.callv 26 [zi 30, zi 0] [] [(0, zr 0 8), (1, zi 30), (2, zi 0)] i114_23 rfl (by decide) rfl rfl (by omega) rfl rfl (by decide) rfl t54 (Nat.le_of_ble_eq_true rfl) (Nat.le_of_ble_eq_true rfl) rfl ?_
        refine X.aload_n 1 i54_0 rfl rfl rfl ?_
        refine X.getR 4 i54_1 rfl rfl (by decide) rfl rfl ?_
        refine X.aload_n 5 i54_4 rfl rfl rfl ?_
        refine X.getI 8 9 i54_5 rfl rfl (by decide) rfl rfl rfl ?_
        have h516 := r8_9 hJ512 0
        refine X.iload_n 9 i54_8 rfl rfl rfl ?_
        refine X.iload_n 10 i54_9 rfl rfl rfl ?_
        refine X.callv 13 [zi (m511 0 8 9), zi 30, zi 0] [] [(0, zr 0 37), (1, zi (m511 0 8 9)), (2, zi 30), (3, zi 0)] i54_10 rfl (by decide) rfl rfl (by omega) rfl rfl (by decide) rfl t55 (Nat.le_of_ble_eq_true rfl) (Nat.le_of_ble_eq_true rfl) rfl ?_
        refine X.aload_n 1 i55_0 rfl rfl rfl ?_
        refine X.getI 4 1 i55_1 rfl rfl (by decide) rfl rfl rfl ?_
        have h517 := r37_1 hJ512 0
        refine X.bipush 6 i55_4 rfl rfl (by decide) ?_
        refine X.irem 7 i55_6 rfl rfl (by omega) ?_
        refine X.iconst 8 i55_7 rfl rfl (by decide) ?_
        refine X.imul 9 i55_8 rfl rfl (by omega) ?_
        refine X.istore 11 [(0, zr 0 37), (1, zi (m511 0 8 9)), (2, zi 30), (3, zi 0), (4, zi (((m511 0 37 1) % 40) * 3))] i55_9 rfl rfl rfl ?_
        refine X.aload_n 12 i55_11 rfl rfl rfl ?_
        refine X.getR 15 i55_12 rfl rfl (by decide) rfl rfl ?_
        refine X.iload 17 i55_15 rfl rfl rfl ?_
        refine X.iload_n 18 i55_17 rfl rfl rfl ?_
        refine X.iast' 19 i55_18 rfl rfl (by decide) rfl (by omega) (fun hrm518 m518 hm518 => ?_)
        have hJ519 := w38_0 hJ512 hm518 (by omega) hrm518
        have wt520 : m518 0 39 0 = 1 := Eq.trans (by rw [hm518]; exact z_upd_o _ _ rfl) wt513
        have wt521 : m518 0 39 1 = a1 := Eq.trans (by rw [hm518]; exact z_upd_o _ _ rfl) wt514
        clear wt513 wt514
        refine X.aload_n 20 i55_19 rfl rfl rfl ?_
        refine X.getR 23 i55_20 rfl rfl (by decide) rfl rfl ?_
        refine X.iload 25 i55_23 rfl rfl rfl ?_
        refine X.iconst 26 i55_25 rfl rfl (by decide) ?_
        refine X.iadd 27 i55_26 rfl rfl (by omega) ?_
        refine X.iload_n 28 i55_27 rfl rfl rfl ?_
        refine X.iast' 29 i55_28 rfl rfl (by decide) rfl (by omega) (fun hrm522 m522 hm522 => ?_)
        have hJ523 := w38_0 hJ519 hm522 (by omega) hrm522
        have wt524 : m522 0 39 0 = 1 := Eq.trans (by rw [hm522]; exact z_upd_o _ _ rfl) wt520
        have wt525 : m522 0 39 1 = a1 := Eq.trans (by rw [hm522]; exact z_upd_o _ _ rfl) wt521
        clear wt520 wt521
        refine X.aload_n 30 i55_29 rfl rfl rfl ?_
        refine X.getR 33 i55_30 rfl rfl (by decide) rfl rfl ?_
        refine X.iload 35 i55_33 rfl rfl rfl ?_
        refine X.iconst 36 i55_35 rfl rfl (by decide) ?_
        refine X.iadd 37 i55_36 rfl rfl (by omega) ?_
        refine X.iload_n 38 i55_37 rfl rfl rfl ?_
        refine X.iast' 39 i55_38 rfl rfl (by decide) rfl (by omega) (fun hrm526 m526 hm526 => ?_)
        have hJ527 := w38_0 hJ523 hm526 (by omega) hrm526
        have wt528 : m526 0 39 0 = 1 := Eq.trans (by rw [hm526]; exact z_upd_o _ _ rfl) wt524
        have wt529 : m526 0 39 1 = a1 := Eq.trans (by rw [hm526]; exact z_upd_o _ _ rfl) wt525
        clear wt524 wt525
        refine X.aload_n 40 i55_39 rfl rfl rfl ?_
        refine X.dup 41 i55_40 rfl rfl rfl ?_
        refine X.getI 44 1 i55_41 rfl rfl (by decide) rfl rfl rfl ?_
        have h530 := r37_1 hJ527 0
        refine X.iconst 45 i55_44 rfl rfl (by decide) ?_
        refine X.iadd 46 i55_45 rfl rfl (by omega) ?_
        refine X.putI' 49 1 i55_46 rfl rfl (by decide) rfl rfl rfl (fun hrm531 m531 hm531 => ?_)
        have hJ532 := w37_1 (hJ527.up (B' := B + 1) (by omega)) hm531 (by omega)
        have wt533 : m531 0 39 0 = 1 := Eq.trans (by rw [hm531]; exact z_upd_o _ _ rfl) wt528
        have wt534 : m531 0 39 1 = a1 := Eq.trans (by rw [hm531]; exact z_upd_o _ _ rfl) wt529
        clear wt528 wt529
        refine X.retv i55_49 rfl t55 ?_
        show X (EE s) (d - 1) 54 13 [(0, zr 0 8), (1, zi 30), (2, zi 0)] [] m531 _
        refine X.retv i54_13 rfl t54 ?_
        show X (EE s) d 114 26 [(0, zr 4 40)] [] m531 _
        refine X.iconst 27 i114_26 rfl rfl (by decide) ?_
        refine X.retz i114_27 rfl t114 (by omega) ?_
        exact hQ 1 m531 (by first | trivial | omega) (hJ532.up (by omega)) (by first | exact (.inl ⟨by omega, by omega, by omega, by omega, by omega, by omega⟩) | exact (.inr ⟨by omega, by omega, by omega, by omega⟩))
      · refine X.cut [] i115_18 rfl ?_
        refine X.iconst 19 i115_18 rfl rfl (by decide) ?_
        refine X.retz i115_19 rfl t115 (by omega) ?_
        show X (EE s) d 114 11 [(0, zr 4 40), (1, zi a1)] [zi 0] m _
        refine X.ifne 16 14 i114_11 rfl rfl rfl (fun h535 => (by exfalso; omega)) (fun h535 => ?_)
        refine X.iconst 15 i114_14 rfl rfl (by decide) ?_
        refine X.retz i114_15 rfl t114 (by omega) ?_
        exact hQ 0 m (by first | trivial | omega) (hJ.up (by omega)) (by first | exact (.inl ⟨by omega, by omega, by omega, by omega, by omega, by omega⟩) | exact (.inr ⟨by omega, by omega, by omega, by omega⟩))
-- WorkMeterModel.seal
theorem c276_1 {s : Nat × (Nat → Int32)} {S : zS} {m0 m : zM} {B : Int} {d : Nat} {Q : Option zV → zM → Prop} (a1 : Int) (hd : 14 ≤ d) (hJ : J S m0 B m) (hB : B + 1 ≤ 1000000000) (ha1 : (-2147483648) ≤ a1 ∧ a1 ≤ 2147483647) (hs0 : S.1 4 45 1614) (hs1 : S.1 4 45 1615) (hQ : ∀ (v : Int) m', (0 ≤ v ∧ v ≤ 1) → J S m0 (B + 1) m' → ((v = 1 ∧ m 4 45 1614 = 0 ∧ 0 ≤ a1 ∧ a1 ≤ 9999 ∧ m' 4 45 1614 = 1 ∧ m' 4 45 1615 = a1) ∨ (v = 0 ∧ ¬ (m 4 45 1614 = 0 ∧ 0 ≤ a1 ∧ a1 ≤ 9999) ∧ m' 4 45 1614 = m 4 45 1614 ∧ m' 4 45 1615 = m 4 45 1615)) → Q (some (zi v)) m') : X (EE s) d 276 0 [(0, zr 4 44), (1, zi a1)] [] m Q := by
  refine X.aload_n 1 i276_0 rfl rfl rfl ?_
  refine X.getF 4 i276_1 rfl rfl (by decide) rfl rfl ?_
  refine X.sipush 7 i276_4 rfl rfl (by decide) ?_
  refine X.lald 8 i276_7 rfl rfl (by decide) rfl (by omega) ?_
  have h501 := r45_1614 hJ 4
  refine X.lconst (y := 1) 9 i276_8 rfl rfl rfl ?_
  refine X.lcmp 10 i276_9 rfl rfl (fun z502 hz502 => ?_)
  refine X.ifeq 25 13 i276_10 rfl rfl rfl (fun h503 => ?_) (fun h503 => ?_)
  · have h503c : (m 4 45 1614) = 1 := by omega
    clear h503 hz502
    refine X.cut [] i276_25 rfl ?_
    refine X.iconst 26 i276_25 rfl rfl (by decide) ?_
    refine X.retz i276_26 rfl t276 (by omega) ?_
    exact hQ 0 m (by first | trivial | omega) (hJ.up (by omega)) (by first | exact (.inl ⟨by omega, by omega, by omega, by omega, by omega, by omega⟩) | exact (.inr ⟨by omega, by omega, by omega, by omega⟩))
  · have h503c : (m 4 45 1614) ≠ 1 := by omega
    clear h503 hz502
    refine X.iload_n 14 i276_13 rfl rfl rfl ?_
    refine X.i2l 15 i276_14 rfl rfl ?_
    refine X.lconst (y := 0) 16 i276_15 rfl rfl rfl ?_
    refine X.ldc2 19 i276_16 rfl rfl (by decide) ?_
    refine X.calls 22 [zl a1, zl 0, zl 9999] [] [(0, zl a1), (2, zl 0), (4, zl 9999)] i276_19 (by decide) rfl rfl (by omega) rfl rfl t204 (Nat.le_of_ble_eq_true rfl) (Nat.le_of_ble_eq_true rfl) rfl ?_
    refine X.lload_n 1 i204_0 rfl rfl rfl ?_
    refine X.lload_n 2 i204_1 rfl rfl rfl ?_
    refine X.lcmp 3 i204_2 rfl rfl (fun z504 hz504 => ?_)
    refine X.iflt 17 6 i204_3 rfl rfl rfl (fun h505 => ?_) (fun h505 => ?_)
    · have h505c : a1 < 0 := by omega
      clear h505 hz504
      refine X.cut [] i204_17 rfl ?_
      refine X.iconst 18 i204_17 rfl rfl (by decide) ?_
      refine X.retz i204_18 rfl t204 (by omega) ?_
      show X (EE s) d 276 22 [(0, zr 4 44), (1, zi a1)] [zi 0] m _
      refine X.ifne 27 25 i276_22 rfl rfl rfl (fun h506 => (by exfalso; omega)) (fun h506 => ?_)
      refine X.cut [] i276_25 rfl ?_
      refine X.iconst 26 i276_25 rfl rfl (by decide) ?_
      refine X.retz i276_26 rfl t276 (by omega) ?_
      exact hQ 0 m (by first | trivial | omega) (hJ.up (by omega)) (by first | exact (.inl ⟨by omega, by omega, by omega, by omega, by omega, by omega⟩) | exact (.inr ⟨by omega, by omega, by omega, by omega⟩))
    · have h505c : a1 ≥ 0 := by omega
      clear h505 hz504
      refine X.lload_n 7 i204_6 rfl rfl rfl ?_
      refine X.lload 9 i204_7 rfl rfl rfl ?_
      refine X.lcmp 10 i204_9 rfl rfl (fun z507 hz507 => ?_)
      refine X.ifgt 17 13 i204_10 rfl rfl rfl (fun h508 => ?_) (fun h508 => ?_)
      · have h508c : a1 > 9999 := by omega
        clear h508 hz507
        refine X.cut [] i204_17 rfl ?_
        refine X.iconst 18 i204_17 rfl rfl (by decide) ?_
        refine X.retz i204_18 rfl t204 (by omega) ?_
        show X (EE s) d 276 22 [(0, zr 4 44), (1, zi a1)] [zi 0] m _
        refine X.ifne 27 25 i276_22 rfl rfl rfl (fun h509 => (by exfalso; omega)) (fun h509 => ?_)
        refine X.cut [] i276_25 rfl ?_
        refine X.iconst 26 i276_25 rfl rfl (by decide) ?_
        refine X.retz i276_26 rfl t276 (by omega) ?_
        exact hQ 0 m (by first | trivial | omega) (hJ.up (by omega)) (by first | exact (.inl ⟨by omega, by omega, by omega, by omega, by omega, by omega⟩) | exact (.inr ⟨by omega, by omega, by omega, by omega⟩))
      · have h508c : a1 ≤ 9999 := by omega
        clear h508 hz507
        refine X.iconst 14 i204_13 rfl rfl (by decide) ?_
        refine X.goto 18 i204_14 rfl rfl ?_
        refine X.cut [] i204_18 rfl ?_
        refine X.retz i204_18 rfl t204 (by omega) ?_
        show X (EE s) d 276 22 [(0, zr 4 44), (1, zi a1)] [zi 1] m _
        refine X.ifne 27 25 i276_22 rfl rfl rfl (fun h510 => ?_) (fun h510 => (by exfalso; omega))
        refine X.aload_n 28 i276_27 rfl rfl rfl ?_
        refine X.getF 31 i276_28 rfl rfl (by decide) rfl rfl ?_
        refine X.sipush 34 i276_31 rfl rfl (by decide) ?_
        refine X.lconst (y := 1) 35 i276_34 rfl rfl rfl ?_
        refine X.last' 36 i276_35 rfl rfl (by decide) rfl (by omega) (fun hrm511 m511 hm511 => ?_)
        have hJ512 := w45_1614 hJ hm511 (by omega) hs0
        have wt513 : m511 4 45 1614 = 1 := by rw [hm511]; exact z_upd_same _ _ _ _ _
        have wt514 : m511 4 45 1615 = (m 4 45 1615) := by rw [hm511]; exact z_upd_o _ _ rfl
        refine X.aload_n 37 i276_36 rfl rfl rfl ?_
        refine X.getF 40 i276_37 rfl rfl (by decide) rfl rfl ?_
        refine X.sipush 43 i276_40 rfl rfl (by decide) ?_
        refine X.iload_n 44 i276_43 rfl rfl rfl ?_
        refine X.i2l 45 i276_44 rfl rfl ?_
        refine X.last' 46 i276_45 rfl rfl (by decide) rfl (by omega) (fun hrm515 m515 hm515 => ?_)
        have hJ516 := w45_1615 hJ512 hm515 hrm515 hs1
        have wt517 : m515 4 45 1614 = 1 := Eq.trans (by rw [hm515]; exact z_upd_o _ _ rfl) wt513
        have wt518 : m515 4 45 1615 = a1 := by rw [hm515]; exact z_upd_same _ _ _ _ _
        clear wt513 wt514
        refine X.aload_n 47 i276_46 rfl rfl rfl ?_
        refine X.bipush 49 i276_47 rfl rfl (by decide) ?_
        refine X.lconst (y := 0) 50 i276_49 rfl rfl rfl ?_
        refine X.callv 53 [zi 30, zl 0] [] [(0, zr 4 44), (1, zi 30), (2, zl 0)] i276_50 rfl (by decide) rfl rfl (by omega) rfl rfl (by decide) rfl t223 (Nat.le_of_ble_eq_true rfl) (Nat.le_of_ble_eq_true rfl) rfl ?_
        refine c223_1 (S := zfr [] S) (m0 := m515) (B := B)  30 0 (by omega) (hJ516.ow.up (by omega)) (by omega) (by omega) (by omega) (fun m519 hJ520 => ?_)
        have hJ522 := hJ516.trans hJ520 zi_n
        have wt523 : m519 4 45 1614 = 1 := Eq.trans (hJ520.eq rfl rfl) wt517
        have wt524 : m519 4 45 1615 = a1 := Eq.trans (hJ520.eq rfl rfl) wt518
        clear wt517 wt518
        show X (EE s) d 276 53 [(0, zr 4 44), (1, zi a1)] [] m519 _
        refine X.iconst 54 i276_53 rfl rfl (by decide) ?_
        refine X.retz i276_54 rfl t276 (by omega) ?_
        exact hQ 1 m519 (by first | trivial | omega) (hJ522.up (by omega)) (by first | exact (.inl ⟨by omega, by omega, by omega, by omega, by omega, by omega⟩) | exact (.inr ⟨by omega, by omega, by omega, by omega⟩))
-- WorkMeter$Meter.tryCode
theorem c117_1 {s : Nat × (Nat → Int32)} {S : zS} {m0 m : zM} {B : Int} {d : Nat} {Q : Option zV → zM → Prop} (g0 : Nat) (a1 : Int) (hd : 14 ≤ d) (hJ : J S m0 B m) (hB : B + 4 ≤ 1000000000) (ha1 : (-2147483648) ≤ a1 ∧ a1 ≤ 2147483647) (hs0 : S.1 g0 39 0) (hs1 : S.1 g0 39 2) (hs2 : S.1 g0 39 4) (hQ : ∀ (v : Int) m', (0 ≤ v ∧ v ≤ 1) → J S m0 (B + 4) m' → ((v = 0 ∧ ¬ (m g0 39 0 = 1 ∧ m g0 39 4 ≤ m g0 8 9) ∧ m' g0 39 0 = m g0 39 0 ∧ m' g0 39 2 = m g0 39 2 ∧ m' g0 39 4 = m g0 39 4) ∨ (v = 1 ∧ m g0 39 0 = 1 ∧ m g0 39 4 ≤ m g0 8 9 ∧ a1 = m g0 39 1 ∧ m' g0 39 0 = 0 ∧ m' g0 39 2 = 0 ∧ m' g0 39 4 = 0) ∨ (v = 0 ∧ m g0 39 0 = 1 ∧ m g0 39 4 ≤ m g0 8 9 ∧ ¬ (a1 = m g0 39 1) ∧ m g0 39 2 + 1 < 3 ∧ m' g0 39 0 = m g0 39 0 ∧ m' g0 39 4 = m g0 39 4 ∧ m' g0 39 2 = m g0 39 2 + 1) ∨ (v = 0 ∧ m g0 39 0 = 1 ∧ m g0 39 4 ≤ m g0 8 9 ∧ ¬ (a1 = m g0 39 1) ∧ 3 ≤ m g0 39 2 + 1 ∧ m' g0 39 0 = m g0 39 0 ∧ m' g0 39 2 = 0 ∧ m' g0 39 4 = m g0 8 9 + 300)) → Q (some (zi v)) m') : X (EE s) d 117 0 [(0, zr g0 8), (1, zi a1)] [] m Q := by
  refine X.aload_n 1 i117_0 rfl rfl rfl ?_
  refine X.getR 4 i117_1 rfl rfl (by decide) rfl rfl ?_
  refine X.getZ 7 0 i117_4 rfl rfl (by decide) rfl rfl rfl (fun h501 => ?_)
  refine X.ifeq 24 10 i117_7 rfl rfl rfl (fun h502 => ?_) (fun h502 => ?_)
  · refine X.cut [] i117_24 rfl ?_
    refine X.iconst 25 i117_24 rfl rfl (by decide) ?_
    refine X.retz i117_25 rfl t117 (by omega) ?_
    exact hQ 0 m (by first | trivial | omega) (hJ.up (by omega)) (by first | exact (.inl ⟨by omega, by omega, by omega, by omega, by omega⟩) | exact (.inr (.inl ⟨by omega, by omega, by omega, by omega, by omega, by omega, by omega⟩)) | exact (.inr (.inr (.inl ⟨by omega, by omega, by omega, by omega, by omega, by omega, by omega, by omega⟩))) | exact (.inr (.inr (.inr ⟨by omega, by omega, by omega, by omega, by omega, by omega, by omega, by omega⟩))))
  · refine X.aload_n 11 i117_10 rfl rfl rfl ?_
    refine X.getR 14 i117_11 rfl rfl (by decide) rfl rfl ?_
    refine X.aload_n 15 i117_14 rfl rfl rfl ?_
    refine X.getI 18 9 i117_15 rfl rfl (by decide) rfl rfl rfl ?_
    have h503 := r8_9 hJ g0
    refine X.callv 21 [zi (m g0 8 9)] [] [(0, zr g0 39), (1, zi (m g0 8 9))] i117_18 rfl (by decide) rfl rfl (by omega) rfl rfl (by decide) rfl t118 (Nat.le_of_ble_eq_true rfl) (Nat.le_of_ble_eq_true rfl) rfl ?_
    refine X.iconst 1 i118_0 rfl rfl (by decide) ?_
    refine X.aload_n 2 i118_1 rfl rfl rfl ?_
    refine X.getI 5 4 i118_2 rfl rfl (by decide) rfl rfl rfl ?_
    have h504 := r39_4 hJ g0
    refine X.iload_n 6 i118_5 rfl rfl rfl ?_
    refine X.isub 7 i118_6 rfl rfl (by omega) ?_
    refine X.maxI 10 i118_7 rfl rfl (by omega) (Nat.le_of_ble_eq_true rfl) ?_
    refine X.reti i118_10 rfl t118 ?_
    show X (EE s) d 117 21 [(0, zr g0 8), (1, zi a1)] [zi (max 0 ((m g0 39 4) - (m g0 8 9)))] m _
    refine X.ifle 26 24 i117_21 rfl rfl rfl (fun h505 => ?_) (fun h505 => ?_)
    · refine X.iload_n 27 i117_26 rfl rfl rfl ?_
      refine X.aload_n 28 i117_27 rfl rfl rfl ?_
      refine X.getR 31 i117_28 rfl rfl (by decide) rfl rfl ?_
      refine X.getIr 34 1 i117_31 rfl rfl (by decide) rfl rfl rfl (fun h506 => ?_)
      refine X.icmpne 53 37 i117_34 rfl rfl rfl (fun h507 => ?_) (fun h507 => ?_)
      · refine X.cut [(0, zr g0 8)] i117_53 rfl ?_
        refine X.aload_n 54 i117_53 rfl rfl rfl ?_
        refine X.getR 57 i117_54 rfl rfl (by decide) rfl rfl ?_
        refine X.dup 58 i117_57 rfl rfl rfl ?_
        refine X.getI 61 2 i117_58 rfl rfl (by decide) rfl rfl rfl ?_
        have h508 := r39_2 hJ g0
        refine X.iconst 62 i117_61 rfl rfl (by decide) ?_
        refine X.iadd 63 i117_62 rfl rfl (by omega) ?_
        refine X.putI' 66 2 i117_63 rfl rfl (by decide) rfl rfl rfl (fun hrm509 m509 hm509 => ?_)
        have hJ510 := w39_2 (hJ.up (B' := B + 1) (by omega)) hm509 (by omega) hs1
        have wt511 : m509 g0 39 0 = (m g0 39 0) := by rw [hm509]; exact z_upd_o _ _ rfl
        have wt512 : m509 g0 39 2 = ((m g0 39 2) + 1) := by rw [hm509]; exact z_upd_same _ _ _ _ _
        have wt513 : m509 g0 39 4 = (m g0 39 4) := by rw [hm509]; exact z_upd_o _ _ rfl
        have wt514 : m509 g0 8 9 = (m g0 8 9) := by rw [hm509]; exact z_upd_o _ _ rfl
        have wt515 : m509 g0 39 1 = (m g0 39 1) := by rw [hm509]; exact z_upd_o _ _ rfl
        refine X.aload_n 67 i117_66 rfl rfl rfl ?_
        refine X.bipush 69 i117_67 rfl rfl (by decide) ?_
        refine X.aload_n 70 i117_69 rfl rfl rfl ?_
        refine X.getR 73 i117_70 rfl rfl (by decide) rfl rfl ?_
        refine X.getI 76 2 i117_73 rfl rfl (by decide) rfl rfl rfl ?_
        refine X.callv 79 [zi 32, zi (m509 g0 39 2)] [] [(0, zr g0 8), (1, zi 32), (2, zi (m509 g0 39 2))] i117_76 rfl (by decide) rfl rfl (by omega) rfl rfl (by decide) rfl t54 (Nat.le_of_ble_eq_true rfl) (Nat.le_of_ble_eq_true rfl) rfl ?_
        refine X.aload_n 1 i54_0 rfl rfl rfl ?_
        refine X.getR 4 i54_1 rfl rfl (by decide) rfl rfl ?_
        refine X.aload_n 5 i54_4 rfl rfl rfl ?_
        refine X.getI 8 9 i54_5 rfl rfl (by decide) rfl rfl rfl ?_
        have h516 := r8_9 hJ510 g0
        refine X.iload_n 9 i54_8 rfl rfl rfl ?_
        refine X.iload_n 10 i54_9 rfl rfl rfl ?_
        refine X.callv 13 [zi (m509 g0 8 9), zi 32, zi (m509 g0 39 2)] [] [(0, zr g0 37), (1, zi (m509 g0 8 9)), (2, zi 32), (3, zi (m509 g0 39 2))] i54_10 rfl (by decide) rfl rfl (by omega) rfl rfl (by decide) rfl t55 (Nat.le_of_ble_eq_true rfl) (Nat.le_of_ble_eq_true rfl) rfl ?_
        refine X.aload_n 1 i55_0 rfl rfl rfl ?_
        refine X.getI 4 1 i55_1 rfl rfl (by decide) rfl rfl rfl ?_
        have h517 := r37_1 hJ510 g0
        refine X.bipush 6 i55_4 rfl rfl (by decide) ?_
        refine X.irem 7 i55_6 rfl rfl (by omega) ?_
        refine X.iconst 8 i55_7 rfl rfl (by decide) ?_
        refine X.imul 9 i55_8 rfl rfl (by omega) ?_
        refine X.istore 11 [(0, zr g0 37), (1, zi (m509 g0 8 9)), (2, zi 32), (3, zi (m509 g0 39 2)), (4, zi (((m509 g0 37 1) % 40) * 3))] i55_9 rfl rfl rfl ?_
        refine X.aload_n 12 i55_11 rfl rfl rfl ?_
        refine X.getR 15 i55_12 rfl rfl (by decide) rfl rfl ?_
        refine X.iload 17 i55_15 rfl rfl rfl ?_
        refine X.iload_n 18 i55_17 rfl rfl rfl ?_
        refine X.iast' 19 i55_18 rfl rfl (by decide) rfl (by omega) (fun hrm518 m518 hm518 => ?_)
        have hJ519 := w38_0 hJ510 hm518 (by omega) hrm518
        have wt520 : m518 g0 39 0 = (m g0 39 0) := Eq.trans (by rw [hm518]; exact z_upd_o _ _ rfl) wt511
        have wt521 : m518 g0 39 2 = ((m g0 39 2) + 1) := Eq.trans (by rw [hm518]; exact z_upd_o _ _ rfl) wt512
        have wt522 : m518 g0 39 4 = (m g0 39 4) := Eq.trans (by rw [hm518]; exact z_upd_o _ _ rfl) wt513
        have wt523 : m518 g0 8 9 = (m g0 8 9) := Eq.trans (by rw [hm518]; exact z_upd_o _ _ rfl) wt514
        have wt524 : m518 g0 39 1 = (m g0 39 1) := Eq.trans (by rw [hm518]; exact z_upd_o _ _ rfl) wt515
        clear wt511 wt513 wt515
        refine X.aload_n 20 i55_19 rfl rfl rfl ?_
        refine X.getR 23 i55_20 rfl rfl (by decide) rfl rfl ?_
        refine X.iload 25 i55_23 rfl rfl rfl ?_
        refine X.iconst 26 i55_25 rfl rfl (by decide) ?_
        refine X.iadd 27 i55_26 rfl rfl (by omega) ?_
        refine X.iload_n 28 i55_27 rfl rfl rfl ?_
        refine X.iast' 29 i55_28 rfl rfl (by decide) rfl (by omega) (fun hrm525 m525 hm525 => ?_)
        have hJ526 := w38_0 hJ519 hm525 (by omega) hrm525
        have wt527 : m525 g0 39 0 = (m g0 39 0) := Eq.trans (by rw [hm525]; exact z_upd_o _ _ rfl) wt520
        have wt528 : m525 g0 39 2 = ((m g0 39 2) + 1) := Eq.trans (by rw [hm525]; exact z_upd_o _ _ rfl) wt521
        have wt529 : m525 g0 39 4 = (m g0 39 4) := Eq.trans (by rw [hm525]; exact z_upd_o _ _ rfl) wt522
        have wt530 : m525 g0 8 9 = (m g0 8 9) := Eq.trans (by rw [hm525]; exact z_upd_o _ _ rfl) wt523
        have wt531 : m525 g0 39 1 = (m g0 39 1) := Eq.trans (by rw [hm525]; exact z_upd_o _ _ rfl) wt524
        clear wt520 wt521 wt522 wt523 wt524
        refine X.aload_n 30 i55_29 rfl rfl rfl ?_
        refine X.getR 33 i55_30 rfl rfl (by decide) rfl rfl ?_
        refine X.iload 35 i55_33 rfl rfl rfl ?_
        refine X.iconst 36 i55_35 rfl rfl (by decide) ?_
        refine X.iadd 37 i55_36 rfl rfl (by omega) ?_
        refine X.iload_n 38 i55_37 rfl rfl rfl ?_
        refine X.iast' 39 i55_38 rfl rfl (by decide) rfl (by omega) (fun hrm532 m532 hm532 => ?_)
        have hJ533 := w38_0 hJ526 hm532 (by omega) hrm532
        have wt534 : m532 g0 39 0 = (m g0 39 0) := Eq.trans (by rw [hm532]; exact z_upd_o _ _ rfl) wt527
        have wt535 : m532 g0 39 2 = ((m g0 39 2) + 1) := Eq.trans (by rw [hm532]; exact z_upd_o _ _ rfl) wt528
        have wt536 : m532 g0 39 4 = (m g0 39 4) := Eq.trans (by rw [hm532]; exact z_upd_o _ _ rfl) wt529
        have wt537 : m532 g0 8 9 = (m g0 8 9) := Eq.trans (by rw [hm532]; exact z_upd_o _ _ rfl) wt530
        have wt538 : m532 g0 39 1 = (m g0 39 1) := Eq.trans (by rw [hm532]; exact z_upd_o _ _ rfl) wt531
        clear wt527 wt528 wt529 wt530 wt531
        refine X.aload_n 40 i55_39 rfl rfl rfl ?_
        refine X.dup 41 i55_40 rfl rfl rfl ?_
        refine X.getI 44 1 i55_41 rfl rfl (by decide) rfl rfl rfl ?_
        have h539 := r37_1 hJ533 g0
        refine X.iconst 45 i55_44 rfl rfl (by decide) ?_
        refine X.iadd 46 i55_45 rfl rfl (by omega) ?_
        refine X.putI' 49 1 i55_46 rfl rfl (by decide) rfl rfl rfl (fun hrm540 m540 hm540 => ?_)
        have hJ541 := w37_1 (hJ533.up (B' := B + 2) (by omega)) hm540 (by omega)
        have wt542 : m540 g0 39 0 = (m g0 39 0) := Eq.trans (by rw [hm540]; exact z_upd_o _ _ rfl) wt534
        have wt543 : m540 g0 39 2 = ((m g0 39 2) + 1) := Eq.trans (by rw [hm540]; exact z_upd_o _ _ rfl) wt535
        have wt544 : m540 g0 39 4 = (m g0 39 4) := Eq.trans (by rw [hm540]; exact z_upd_o _ _ rfl) wt536
        have wt545 : m540 g0 8 9 = (m g0 8 9) := Eq.trans (by rw [hm540]; exact z_upd_o _ _ rfl) wt537
        have wt546 : m540 g0 39 1 = (m g0 39 1) := Eq.trans (by rw [hm540]; exact z_upd_o _ _ rfl) wt538
        clear wt534 wt535 wt536 wt537 wt538
        refine X.retv i55_49 rfl t55 ?_
        show X (EE s) (d - 1) 54 13 [(0, zr g0 8), (1, zi 32), (2, zi (m509 g0 39 2))] [] m540 _
        refine X.retv i54_13 rfl t54 ?_
        show X (EE s) d 117 79 [(0, zr g0 8)] [] m540 _
        refine X.aload_n 80 i117_79 rfl rfl rfl ?_
        refine X.getR 83 i117_80 rfl rfl (by decide) rfl rfl ?_
        refine X.callv 86 [] [] [(0, zr g0 39)] i117_83 rfl (by decide) rfl rfl (by omega) rfl rfl (by decide) rfl t120 (Nat.le_of_ble_eq_true rfl) (Nat.le_of_ble_eq_true rfl) rfl ?_
        refine X.aload_n 1 i120_0 rfl rfl rfl ?_
        refine X.getI 4 2 i120_1 rfl rfl (by decide) rfl rfl rfl ?_
        have h547 := r39_2 hJ541 g0
        refine X.iconst 5 i120_4 rfl rfl (by decide) ?_
        refine X.icmplt 12 8 i120_5 rfl rfl rfl (fun h548 => ?_) (fun h548 => ?_)
        · refine X.cut [] i120_12 rfl ?_
          refine X.iconst 13 i120_12 rfl rfl (by decide) ?_
          refine X.retz i120_13 rfl t120 (by omega) ?_
          show X (EE s) d 117 86 [(0, zr g0 8)] [zi 0] m540 _
          refine X.ifeq 107 89 i117_86 rfl rfl rfl (fun h549 => ?_) (fun h549 => (by exfalso; omega))
          refine X.cut [] i117_107 rfl ?_
          refine X.iconst 108 i117_107 rfl rfl (by decide) ?_
          refine X.retz i117_108 rfl t117 (by omega) ?_
          exact hQ 0 m540 (by first | trivial | omega) (hJ541.up (by omega)) (by first | exact (.inl ⟨by omega, by omega, by omega, by omega, by omega⟩) | exact (.inr (.inl ⟨by omega, by omega, by omega, by omega, by omega, by omega, by omega⟩)) | exact (.inr (.inr (.inl ⟨by omega, by omega, by omega, by omega, by omega, by omega, by omega, by omega⟩))) | exact (.inr (.inr (.inr ⟨by omega, by omega, by omega, by omega, by omega, by omega, by omega, by omega⟩))))
        · refine X.iconst 9 i120_8 rfl rfl (by decide) ?_
          refine X.goto 13 i120_9 rfl rfl ?_
          refine X.cut [] i120_13 rfl ?_
          refine X.retz i120_13 rfl t120 (by omega) ?_
          show X (EE s) d 117 86 [(0, zr g0 8)] [zi 1] m540 _
          refine X.ifeq 107 89 i117_86 rfl rfl rfl (fun h550 => (by exfalso; omega)) (fun h550 => ?_)
          refine X.aload_n 90 i117_89 rfl rfl rfl ?_
          refine X.getR 93 i117_90 rfl rfl (by decide) rfl rfl ?_
          refine X.aload_n 94 i117_93 rfl rfl rfl ?_
          refine X.getI 97 9 i117_94 rfl rfl (by decide) rfl rfl rfl ?_
          have h551 := r8_9 hJ541 g0
          refine X.callv 100 [zi (m540 g0 8 9)] [] [(0, zr g0 39), (1, zi (m540 g0 8 9))] i117_97 rfl (by decide) rfl rfl (by omega) rfl rfl (by decide) rfl t121 (Nat.le_of_ble_eq_true rfl) (Nat.le_of_ble_eq_true rfl) rfl ?_
          refine X.aload_n 1 i121_0 rfl rfl rfl ?_
          refine X.iconst 2 i121_1 rfl rfl (by decide) ?_
          refine X.putI' 5 2 i121_2 rfl rfl (by decide) rfl rfl rfl (fun hrm552 m552 hm552 => ?_)
          have rbm552 := r39_2 hJ541 g0
          have hJ553 := w39_2 (hJ541.up (B' := B + 3) (by omega)) hm552 (by omega) hs1
          have wt554 : m552 g0 39 0 = (m g0 39 0) := Eq.trans (by rw [hm552]; exact z_upd_o _ _ rfl) wt542
          have wt555 : m552 g0 39 2 = 0 := by rw [hm552]; exact z_upd_same _ _ _ _ _
          have wt556 : m552 g0 39 4 = (m g0 39 4) := Eq.trans (by rw [hm552]; exact z_upd_o _ _ rfl) wt544
          have wt557 : m552 g0 8 9 = (m g0 8 9) := Eq.trans (by rw [hm552]; exact z_upd_o _ _ rfl) wt545
          have wt558 : m552 g0 39 1 = (m g0 39 1) := Eq.trans (by rw [hm552]; exact z_upd_o _ _ rfl) wt546
          clear wt542 wt544 wt546
          refine X.aload_n 6 i121_5 rfl rfl rfl ?_
          refine X.iload_n 7 i121_6 rfl rfl rfl ?_
          refine X.sipush 10 i121_7 rfl rfl (by decide) ?_
          refine X.iadd 11 i121_10 rfl rfl (by omega) ?_
          refine X.putI' 14 4 i121_11 rfl rfl (by decide) rfl rfl rfl (fun hrm559 m559 hm559 => ?_)
          have hJ560 := w39_4 hJ553 hm559 (by omega) hs2
          have wt561 : m559 g0 39 0 = (m g0 39 0) := Eq.trans (by rw [hm559]; exact z_upd_o _ _ rfl) wt554
          have wt562 : m559 g0 39 2 = 0 := Eq.trans (by rw [hm559]; exact z_upd_o _ _ rfl) wt555
          have wt563 : m559 g0 39 4 = ((m540 g0 8 9) + 300) := by rw [hm559]; exact z_upd_same _ _ _ _ _
          have wt564 : m559 g0 8 9 = (m g0 8 9) := Eq.trans (by rw [hm559]; exact z_upd_o _ _ rfl) wt557
          have wt565 : m559 g0 39 1 = (m g0 39 1) := Eq.trans (by rw [hm559]; exact z_upd_o _ _ rfl) wt558
          clear wt554 wt555 wt556 wt557 wt558
          refine X.retv i121_14 rfl t121 ?_
          show X (EE s) d 117 100 [(0, zr g0 8)] [] m559 _
          refine X.aload_n 101 i117_100 rfl rfl rfl ?_
          refine X.bipush 103 i117_101 rfl rfl (by decide) ?_
          refine X.iconst 104 i117_103 rfl rfl (by decide) ?_
          refine X.callv 107 [zi 33, zi 0] [] [(0, zr g0 8), (1, zi 33), (2, zi 0)] i117_104 rfl (by decide) rfl rfl (by omega) rfl rfl (by decide) rfl t54 (Nat.le_of_ble_eq_true rfl) (Nat.le_of_ble_eq_true rfl) rfl ?_
          refine X.aload_n 1 i54_0 rfl rfl rfl ?_
          refine X.getR 4 i54_1 rfl rfl (by decide) rfl rfl ?_
          refine X.aload_n 5 i54_4 rfl rfl rfl ?_
          refine X.getI 8 9 i54_5 rfl rfl (by decide) rfl rfl rfl ?_
          have h566 := r8_9 hJ560 g0
          refine X.iload_n 9 i54_8 rfl rfl rfl ?_
          refine X.iload_n 10 i54_9 rfl rfl rfl ?_
          refine X.callv 13 [zi (m559 g0 8 9), zi 33, zi 0] [] [(0, zr g0 37), (1, zi (m559 g0 8 9)), (2, zi 33), (3, zi 0)] i54_10 rfl (by decide) rfl rfl (by omega) rfl rfl (by decide) rfl t55 (Nat.le_of_ble_eq_true rfl) (Nat.le_of_ble_eq_true rfl) rfl ?_
          refine X.aload_n 1 i55_0 rfl rfl rfl ?_
          refine X.getI 4 1 i55_1 rfl rfl (by decide) rfl rfl rfl ?_
          have h567 := r37_1 hJ560 g0
          refine X.bipush 6 i55_4 rfl rfl (by decide) ?_
          refine X.irem 7 i55_6 rfl rfl (by omega) ?_
          refine X.iconst 8 i55_7 rfl rfl (by decide) ?_
          refine X.imul 9 i55_8 rfl rfl (by omega) ?_
          refine X.istore 11 [(0, zr g0 37), (1, zi (m559 g0 8 9)), (2, zi 33), (3, zi 0), (4, zi (((m559 g0 37 1) % 40) * 3))] i55_9 rfl rfl rfl ?_
          refine X.aload_n 12 i55_11 rfl rfl rfl ?_
          refine X.getR 15 i55_12 rfl rfl (by decide) rfl rfl ?_
          refine X.iload 17 i55_15 rfl rfl rfl ?_
          refine X.iload_n 18 i55_17 rfl rfl rfl ?_
          refine X.iast' 19 i55_18 rfl rfl (by decide) rfl (by omega) (fun hrm568 m568 hm568 => ?_)
          have hJ569 := w38_0 hJ560 hm568 (by omega) hrm568
          have wt570 : m568 g0 39 0 = (m g0 39 0) := Eq.trans (by rw [hm568]; exact z_upd_o _ _ rfl) wt561
          have wt571 : m568 g0 39 2 = 0 := Eq.trans (by rw [hm568]; exact z_upd_o _ _ rfl) wt562
          have wt572 : m568 g0 39 4 = ((m540 g0 8 9) + 300) := Eq.trans (by rw [hm568]; exact z_upd_o _ _ rfl) wt563
          have wt573 : m568 g0 8 9 = (m g0 8 9) := Eq.trans (by rw [hm568]; exact z_upd_o _ _ rfl) wt564
          have wt574 : m568 g0 39 1 = (m g0 39 1) := Eq.trans (by rw [hm568]; exact z_upd_o _ _ rfl) wt565
          clear wt561 wt562 wt563 wt565
          refine X.aload_n 20 i55_19 rfl rfl rfl ?_
          refine X.getR 23 i55_20 rfl rfl (by decide) rfl rfl ?_
          refine X.iload 25 i55_23 rfl rfl rfl ?_
          refine X.iconst 26 i55_25 rfl rfl (by decide) ?_
          refine X.iadd 27 i55_26 rfl rfl (by omega) ?_
          refine X.iload_n 28 i55_27 rfl rfl rfl ?_
          refine X.iast' 29 i55_28 rfl rfl (by decide) rfl (by omega) (fun hrm575 m575 hm575 => ?_)
          have hJ576 := w38_0 hJ569 hm575 (by omega) hrm575
          have wt577 : m575 g0 39 0 = (m g0 39 0) := Eq.trans (by rw [hm575]; exact z_upd_o _ _ rfl) wt570
          have wt578 : m575 g0 39 2 = 0 := Eq.trans (by rw [hm575]; exact z_upd_o _ _ rfl) wt571
          have wt579 : m575 g0 39 4 = ((m540 g0 8 9) + 300) := Eq.trans (by rw [hm575]; exact z_upd_o _ _ rfl) wt572
          have wt580 : m575 g0 8 9 = (m g0 8 9) := Eq.trans (by rw [hm575]; exact z_upd_o _ _ rfl) wt573
          have wt581 : m575 g0 39 1 = (m g0 39 1) := Eq.trans (by rw [hm575]; exact z_upd_o _ _ rfl) wt574
          clear wt570 wt571 wt572 wt573 wt574
          refine X.aload_n 30 i55_29 rfl rfl rfl ?_
          refine X.getR 33 i55_30 rfl rfl (by decide) rfl rfl ?_
          refine X.iload 35 i55_33 rfl rfl rfl ?_
          refine X.iconst 36 i55_35 rfl rfl (by decide) ?_
          refine X.iadd 37 i55_36 rfl rfl (by omega) ?_
          refine X.iload_n 38 i55_37 rfl rfl rfl ?_
          refine X.iast' 39 i55_38 rfl rfl (by decide) rfl (by omega) (fun hrm582 m582 hm582 => ?_)
          have hJ583 := w38_0 hJ576 hm582 (by omega) hrm582
          have wt584 : m582 g0 39 0 = (m g0 39 0) := Eq.trans (by rw [hm582]; exact z_upd_o _ _ rfl) wt577
          have wt585 : m582 g0 39 2 = 0 := Eq.trans (by rw [hm582]; exact z_upd_o _ _ rfl) wt578
          have wt586 : m582 g0 39 4 = ((m540 g0 8 9) + 300) := Eq.trans (by rw [hm582]; exact z_upd_o _ _ rfl) wt579
          have wt587 : m582 g0 8 9 = (m g0 8 9) := Eq.trans (by rw [hm582]; exact z_upd_o _ _ rfl) wt580
          have wt588 : m582 g0 39 1 = (m g0 39 1) := Eq.trans (by rw [hm582]; exact z_upd_o _ _ rfl) wt581
          clear wt577 wt578 wt579 wt580 wt581
          refine X.aload_n 40 i55_39 rfl rfl rfl ?_
          refine X.dup 41 i55_40 rfl rfl rfl ?_
          refine X.getI 44 1 i55_41 rfl rfl (by decide) rfl rfl rfl ?_
          have h589 := r37_1 hJ583 g0
          refine X.iconst 45 i55_44 rfl rfl (by decide) ?_
          refine X.iadd 46 i55_45 rfl rfl (by omega) ?_
          refine X.putI' 49 1 i55_46 rfl rfl (by decide) rfl rfl rfl (fun hrm590 m590 hm590 => ?_)
          have hJ591 := w37_1 (hJ583.up (B' := B + 4) (by omega)) hm590 (by omega)
          have wt592 : m590 g0 39 0 = (m g0 39 0) := Eq.trans (by rw [hm590]; exact z_upd_o _ _ rfl) wt584
          have wt593 : m590 g0 39 2 = 0 := Eq.trans (by rw [hm590]; exact z_upd_o _ _ rfl) wt585
          have wt594 : m590 g0 39 4 = ((m540 g0 8 9) + 300) := Eq.trans (by rw [hm590]; exact z_upd_o _ _ rfl) wt586
          have wt595 : m590 g0 8 9 = (m g0 8 9) := Eq.trans (by rw [hm590]; exact z_upd_o _ _ rfl) wt587
          have wt596 : m590 g0 39 1 = (m g0 39 1) := Eq.trans (by rw [hm590]; exact z_upd_o _ _ rfl) wt588
          clear wt584 wt585 wt586 wt587 wt588
          refine X.retv i55_49 rfl t55 ?_
          show X (EE s) (d - 1) 54 13 [(0, zr g0 8), (1, zi 33), (2, zi 0)] [] m590 _
          refine X.retv i54_13 rfl t54 ?_
          show X (EE s) d 117 107 [(0, zr g0 8)] [] m590 _
          refine X.cut [] i117_107 rfl ?_
          refine X.iconst 108 i117_107 rfl rfl (by decide) ?_
          refine X.retz i117_108 rfl t117 (by omega) ?_
          exact hQ 0 m590 (by first | trivial | omega) (hJ591.up (by omega)) (by first | exact (.inl ⟨by omega, by omega, by omega, by omega, by omega⟩) | exact (.inr (.inl ⟨by omega, by omega, by omega, by omega, by omega, by omega, by omega⟩)) | exact (.inr (.inr (.inl ⟨by omega, by omega, by omega, by omega, by omega, by omega, by omega, by omega⟩))) | exact (.inr (.inr (.inr ⟨by omega, by omega, by omega, by omega, by omega, by omega, by omega, by omega⟩))))
      · refine X.aload_n 38 i117_37 rfl rfl rfl ?_
        refine X.getR 41 i117_38 rfl rfl (by decide) rfl rfl ?_
        refine X.callv 44 [] [] [(0, zr g0 39)] i117_41 rfl (by decide) rfl rfl (by omega) rfl rfl (by decide) rfl t119 (Nat.le_of_ble_eq_true rfl) (Nat.le_of_ble_eq_true rfl) rfl ?_
        refine X.aload_n 1 i119_0 rfl rfl rfl ?_
        refine X.iconst 2 i119_1 rfl rfl (by decide) ?_
        refine X.putZ' 5 0 i119_2 rfl rfl (by decide) rfl rfl rfl (by omega) (fun hrm597 m597 hm597 => ?_)
        have hJ598 := w39_0 hJ hm597 (by omega) hs0
        have wt599 : m597 g0 39 0 = 0 := by rw [hm597]; exact z_upd_same _ _ _ _ _
        have wt600 : m597 g0 39 2 = (m g0 39 2) := by rw [hm597]; exact z_upd_o _ _ rfl
        have wt601 : m597 g0 39 4 = (m g0 39 4) := by rw [hm597]; exact z_upd_o _ _ rfl
        have wt602 : m597 g0 8 9 = (m g0 8 9) := by rw [hm597]; exact z_upd_o _ _ rfl
        have wt603 : m597 g0 39 1 = (m g0 39 1) := by rw [hm597]; exact z_upd_o _ _ rfl
        refine X.aload_n 6 i119_5 rfl rfl rfl ?_
        refine X.iconst 7 i119_6 rfl rfl (by decide) ?_
        refine X.putI' 10 2 i119_7 rfl rfl (by decide) rfl rfl rfl (fun hrm604 m604 hm604 => ?_)
        have rbm604 := r39_2 hJ598 g0
        have hJ605 := w39_2 (hJ598.up (B' := B + 1) (by omega)) hm604 (by omega) hs1
        have wt606 : m604 g0 39 0 = 0 := Eq.trans (by rw [hm604]; exact z_upd_o _ _ rfl) wt599
        have wt607 : m604 g0 39 2 = 0 := by rw [hm604]; exact z_upd_same _ _ _ _ _
        have wt608 : m604 g0 39 4 = (m g0 39 4) := Eq.trans (by rw [hm604]; exact z_upd_o _ _ rfl) wt601
        have wt609 : m604 g0 8 9 = (m g0 8 9) := Eq.trans (by rw [hm604]; exact z_upd_o _ _ rfl) wt602
        have wt610 : m604 g0 39 1 = (m g0 39 1) := Eq.trans (by rw [hm604]; exact z_upd_o _ _ rfl) wt603
        clear wt599 wt600 wt601 wt602 wt603
        refine X.aload_n 11 i119_10 rfl rfl rfl ?_
        refine X.iconst 12 i119_11 rfl rfl (by decide) ?_
        refine X.putI' 15 4 i119_12 rfl rfl (by decide) rfl rfl rfl (fun hrm611 m611 hm611 => ?_)
        have hJ612 := w39_4 hJ605 hm611 (by omega) hs2
        have wt613 : m611 g0 39 0 = 0 := Eq.trans (by rw [hm611]; exact z_upd_o _ _ rfl) wt606
        have wt614 : m611 g0 39 2 = 0 := Eq.trans (by rw [hm611]; exact z_upd_o _ _ rfl) wt607
        have wt615 : m611 g0 39 4 = 0 := by rw [hm611]; exact z_upd_same _ _ _ _ _
        have wt616 : m611 g0 8 9 = (m g0 8 9) := Eq.trans (by rw [hm611]; exact z_upd_o _ _ rfl) wt609
        have wt617 : m611 g0 39 1 = (m g0 39 1) := Eq.trans (by rw [hm611]; exact z_upd_o _ _ rfl) wt610
        clear wt606 wt607 wt608 wt609 wt610
        refine X.retv i119_15 rfl t119 ?_
        show X (EE s) d 117 44 [(0, zr g0 8), (1, zi a1)] [] m611 _
        refine X.aload_n 45 i117_44 rfl rfl rfl ?_
        refine X.bipush 47 i117_45 rfl rfl (by decide) ?_
        refine X.iconst 48 i117_47 rfl rfl (by decide) ?_
        refine X.callv 51 [zi 31, zi 0] [] [(0, zr g0 8), (1, zi 31), (2, zi 0)] i117_48 rfl (by decide) rfl rfl (by omega) rfl rfl (by decide) rfl t54 (Nat.le_of_ble_eq_true rfl) (Nat.le_of_ble_eq_true rfl) rfl ?_
        refine X.aload_n 1 i54_0 rfl rfl rfl ?_
        refine X.getR 4 i54_1 rfl rfl (by decide) rfl rfl ?_
        refine X.aload_n 5 i54_4 rfl rfl rfl ?_
        refine X.getI 8 9 i54_5 rfl rfl (by decide) rfl rfl rfl ?_
        have h618 := r8_9 hJ612 g0
        refine X.iload_n 9 i54_8 rfl rfl rfl ?_
        refine X.iload_n 10 i54_9 rfl rfl rfl ?_
        refine X.callv 13 [zi (m611 g0 8 9), zi 31, zi 0] [] [(0, zr g0 37), (1, zi (m611 g0 8 9)), (2, zi 31), (3, zi 0)] i54_10 rfl (by decide) rfl rfl (by omega) rfl rfl (by decide) rfl t55 (Nat.le_of_ble_eq_true rfl) (Nat.le_of_ble_eq_true rfl) rfl ?_
        refine X.aload_n 1 i55_0 rfl rfl rfl ?_
        refine X.getI 4 1 i55_1 rfl rfl (by decide) rfl rfl rfl ?_
        have h619 := r37_1 hJ612 g0
        refine X.bipush 6 i55_4 rfl rfl (by decide) ?_
        refine X.irem 7 i55_6 rfl rfl (by omega) ?_
        refine X.iconst 8 i55_7 rfl rfl (by decide) ?_
        refine X.imul 9 i55_8 rfl rfl (by omega) ?_
        refine X.istore 11 [(0, zr g0 37), (1, zi (m611 g0 8 9)), (2, zi 31), (3, zi 0), (4, zi (((m611 g0 37 1) % 40) * 3))] i55_9 rfl rfl rfl ?_
        refine X.aload_n 12 i55_11 rfl rfl rfl ?_
        refine X.getR 15 i55_12 rfl rfl (by decide) rfl rfl ?_
        refine X.iload 17 i55_15 rfl rfl rfl ?_
        refine X.iload_n 18 i55_17 rfl rfl rfl ?_
        refine X.iast' 19 i55_18 rfl rfl (by decide) rfl (by omega) (fun hrm620 m620 hm620 => ?_)
        have hJ621 := w38_0 hJ612 hm620 (by omega) hrm620
        have wt622 : m620 g0 39 0 = 0 := Eq.trans (by rw [hm620]; exact z_upd_o _ _ rfl) wt613
        have wt623 : m620 g0 39 2 = 0 := Eq.trans (by rw [hm620]; exact z_upd_o _ _ rfl) wt614
        have wt624 : m620 g0 39 4 = 0 := Eq.trans (by rw [hm620]; exact z_upd_o _ _ rfl) wt615
        have wt625 : m620 g0 8 9 = (m g0 8 9) := Eq.trans (by rw [hm620]; exact z_upd_o _ _ rfl) wt616
        have wt626 : m620 g0 39 1 = (m g0 39 1) := Eq.trans (by rw [hm620]; exact z_upd_o _ _ rfl) wt617
        clear wt613 wt614 wt615 wt617
        refine X.aload_n 20 i55_19 rfl rfl rfl ?_
        refine X.getR 23 i55_20 rfl rfl (by decide) rfl rfl ?_
        refine X.iload 25 i55_23 rfl rfl rfl ?_
        refine X.iconst 26 i55_25 rfl rfl (by decide) ?_
        refine X.iadd 27 i55_26 rfl rfl (by omega) ?_
        refine X.iload_n 28 i55_27 rfl rfl rfl ?_
        refine X.iast' 29 i55_28 rfl rfl (by decide) rfl (by omega) (fun hrm627 m627 hm627 => ?_)
        have hJ628 := w38_0 hJ621 hm627 (by omega) hrm627
        have wt629 : m627 g0 39 0 = 0 := Eq.trans (by rw [hm627]; exact z_upd_o _ _ rfl) wt622
        have wt630 : m627 g0 39 2 = 0 := Eq.trans (by rw [hm627]; exact z_upd_o _ _ rfl) wt623
        have wt631 : m627 g0 39 4 = 0 := Eq.trans (by rw [hm627]; exact z_upd_o _ _ rfl) wt624
        have wt632 : m627 g0 8 9 = (m g0 8 9) := Eq.trans (by rw [hm627]; exact z_upd_o _ _ rfl) wt625
        have wt633 : m627 g0 39 1 = (m g0 39 1) := Eq.trans (by rw [hm627]; exact z_upd_o _ _ rfl) wt626
        clear wt622 wt623 wt624 wt625 wt626
        refine X.aload_n 30 i55_29 rfl rfl rfl ?_
        refine X.getR 33 i55_30 rfl rfl (by decide) rfl rfl ?_
        refine X.iload 35 i55_33 rfl rfl rfl ?_
        refine X.iconst 36 i55_35 rfl rfl (by decide) ?_
        refine X.iadd 37 i55_36 rfl rfl (by omega) ?_
        refine X.iload_n 38 i55_37 rfl rfl rfl ?_
        refine X.iast' 39 i55_38 rfl rfl (by decide) rfl (by omega) (fun hrm634 m634 hm634 => ?_)
        have hJ635 := w38_0 hJ628 hm634 (by omega) hrm634
        have wt636 : m634 g0 39 0 = 0 := Eq.trans (by rw [hm634]; exact z_upd_o _ _ rfl) wt629
        have wt637 : m634 g0 39 2 = 0 := Eq.trans (by rw [hm634]; exact z_upd_o _ _ rfl) wt630
        have wt638 : m634 g0 39 4 = 0 := Eq.trans (by rw [hm634]; exact z_upd_o _ _ rfl) wt631
        have wt639 : m634 g0 8 9 = (m g0 8 9) := Eq.trans (by rw [hm634]; exact z_upd_o _ _ rfl) wt632
        have wt640 : m634 g0 39 1 = (m g0 39 1) := Eq.trans (by rw [hm634]; exact z_upd_o _ _ rfl) wt633
        clear wt629 wt630 wt631 wt632 wt633
        refine X.aload_n 40 i55_39 rfl rfl rfl ?_
        refine X.dup 41 i55_40 rfl rfl rfl ?_
        refine X.getI 44 1 i55_41 rfl rfl (by decide) rfl rfl rfl ?_
        have h641 := r37_1 hJ635 g0
        refine X.iconst 45 i55_44 rfl rfl (by decide) ?_
        refine X.iadd 46 i55_45 rfl rfl (by omega) ?_
        refine X.putI' 49 1 i55_46 rfl rfl (by decide) rfl rfl rfl (fun hrm642 m642 hm642 => ?_)
        have hJ643 := w37_1 (hJ635.up (B' := B + 2) (by omega)) hm642 (by omega)
        have wt644 : m642 g0 39 0 = 0 := Eq.trans (by rw [hm642]; exact z_upd_o _ _ rfl) wt636
        have wt645 : m642 g0 39 2 = 0 := Eq.trans (by rw [hm642]; exact z_upd_o _ _ rfl) wt637
        have wt646 : m642 g0 39 4 = 0 := Eq.trans (by rw [hm642]; exact z_upd_o _ _ rfl) wt638
        have wt647 : m642 g0 8 9 = (m g0 8 9) := Eq.trans (by rw [hm642]; exact z_upd_o _ _ rfl) wt639
        have wt648 : m642 g0 39 1 = (m g0 39 1) := Eq.trans (by rw [hm642]; exact z_upd_o _ _ rfl) wt640
        clear wt636 wt637 wt638 wt639 wt640
        refine X.retv i55_49 rfl t55 ?_
        show X (EE s) (d - 1) 54 13 [(0, zr g0 8), (1, zi 31), (2, zi 0)] [] m642 _
        refine X.retv i54_13 rfl t54 ?_
        show X (EE s) d 117 51 [(0, zr g0 8), (1, zi a1)] [] m642 _
        refine X.iconst 52 i117_51 rfl rfl (by decide) ?_
        refine X.retz i117_52 rfl t117 (by omega) ?_
        exact hQ 1 m642 (by first | trivial | omega) (hJ643.up (by omega)) (by first | exact (.inl ⟨by omega, by omega, by omega, by omega, by omega⟩) | exact (.inr (.inl ⟨by omega, by omega, by omega, by omega, by omega, by omega, by omega⟩)) | exact (.inr (.inr (.inl ⟨by omega, by omega, by omega, by omega, by omega, by omega, by omega, by omega⟩))) | exact (.inr (.inr (.inr ⟨by omega, by omega, by omega, by omega, by omega, by omega, by omega, by omega⟩))))
    · refine X.cut [] i117_24 rfl ?_
      refine X.iconst 25 i117_24 rfl rfl (by decide) ?_
      refine X.retz i117_25 rfl t117 (by omega) ?_
      exact hQ 0 m (by first | trivial | omega) (hJ.up (by omega)) (by first | exact (.inl ⟨by omega, by omega, by omega, by omega, by omega⟩) | exact (.inr (.inl ⟨by omega, by omega, by omega, by omega, by omega, by omega, by omega⟩)) | exact (.inr (.inr (.inl ⟨by omega, by omega, by omega, by omega, by omega, by omega, by omega, by omega⟩))) | exact (.inr (.inr (.inr ⟨by omega, by omega, by omega, by omega, by omega, by omega, by omega, by omega⟩))))
-- WorkMeter.open
theorem c116_1 {s : Nat × (Nat → Int32)} {S : zS} {m0 m : zM} {B : Int} {d : Nat} {Q : Option zV → zM → Prop} (a1 : Int) (hd : 15 ≤ d) (hJ : J S m0 B m) (hB : B + 4 ≤ 1000000000) (ha1 : (-2147483648) ≤ a1 ∧ a1 ≤ 2147483647) (hs0 : S.1 0 39 0) (hs1 : S.1 0 39 2) (hs2 : S.1 0 39 4) (hQ : ∀ (v : Int) m', (0 ≤ v ∧ v ≤ 1) → J S m0 (B + 4) m' → ((v = 0 ∧ ¬ (m 0 39 0 = 1 ∧ m 0 39 4 ≤ m 0 8 9) ∧ m' 0 39 0 = m 0 39 0 ∧ m' 0 39 2 = m 0 39 2 ∧ m' 0 39 4 = m 0 39 4) ∨ (v = 1 ∧ m 0 39 0 = 1 ∧ m 0 39 4 ≤ m 0 8 9 ∧ a1 = m 0 39 1 ∧ m' 0 39 0 = 0 ∧ m' 0 39 2 = 0 ∧ m' 0 39 4 = 0) ∨ (v = 0 ∧ m 0 39 0 = 1 ∧ m 0 39 4 ≤ m 0 8 9 ∧ ¬ (a1 = m 0 39 1) ∧ m 0 39 2 + 1 < 3 ∧ m' 0 39 0 = m 0 39 0 ∧ m' 0 39 4 = m 0 39 4 ∧ m' 0 39 2 = m 0 39 2 + 1) ∨ (v = 0 ∧ m 0 39 0 = 1 ∧ m 0 39 4 ≤ m 0 8 9 ∧ ¬ (a1 = m 0 39 1) ∧ 3 ≤ m 0 39 2 + 1 ∧ m' 0 39 0 = m 0 39 0 ∧ m' 0 39 2 = 0 ∧ m' 0 39 4 = m 0 8 9 + 300)) → Q (some (zi v)) m') : X (EE s) d 116 0 [(0, zr 4 40), (1, zi a1)] [] m Q := by
  refine X.aload_n 1 i116_0 rfl rfl rfl ?_
  refine X.getF 4 i116_1 rfl rfl (by decide) rfl rfl ?_
  refine X.iload_n 5 i116_4 rfl rfl rfl ?_
  refine X.callv 8 [zi a1] [] [(0, zr 0 8), (1, zi a1)] i116_5 rfl (by decide) rfl rfl (by omega) rfl rfl (by decide) rfl t117 (Nat.le_of_ble_eq_true rfl) (Nat.le_of_ble_eq_true rfl) rfl ?_
  refine c117_1 (S := zfr [(0, 39, 0), (0, 39, 2), (0, 39, 4)] S) (m0 := m) (B := B) 0 a1 (by omega) (hJ.ow.up (by omega)) (by omega) (by omega) zm_z (zm_s zm_z) (zm_s (zm_s zm_z)) (fun v503 m501 hv503 hJ502 hqv5030 => ?_)
  have hJ504 := hJ.trans hJ502 (zi_c hs0 (zi_c hs1 (zi_c hs2 zi_n)))
  have wt505 : m501 0 8 9 = (m 0 8 9) := hJ502.eq rfl rfl
  have wt506 : m501 0 39 1 = (m 0 39 1) := hJ502.eq rfl rfl
  show X (EE s) d 116 8 [(0, zr 4 40), (1, zi a1)] [zi v503] m501 _
  refine X.retz i116_8 rfl t116 (by omega) ?_
  exact hQ v503 m501 (by first | trivial | omega) (hJ504.up (by omega)) (by rcases hqv5030 with hqv5030 | hqv5030 | hqv5030 | hqv5030 <;> (first | exact (.inl ⟨by omega, by omega, by omega, by omega, by omega⟩) | exact (.inr (.inl ⟨by omega, by omega, by omega, by omega, by omega, by omega, by omega⟩)) | exact (.inr (.inr (.inl ⟨by omega, by omega, by omega, by omega, by omega, by omega, by omega, by omega⟩))) | exact (.inr (.inr (.inr ⟨by omega, by omega, by omega, by omega, by omega, by omega, by omega, by omega⟩)))))
theorem l223_17_2 {s : Nat × (Nat → Int32)} {S : zS} {m0 : zM} {d : Nat} {Q : Option zV → zM → Prop} (y1 y2 : Int) (BE : Int) (hE : BE ≤ 1000000000) (hd : 13 ≤ d) (hy1 : 0 ≤ y1 ∧ y1 ≤ 40) (hy2 : 1 ≤ y2 ∧ y2 ≤ 1000000001)
    (K54 : ∀ (m' : zM) (B' : Int), J S m0 B' m' → B' ≤ BE → X (EE s) d 223 54 [(0, zr 4 44), (1, zi y1), (2, zl y2)] [] m' Q) :
    ∀ (n : Nat) (y4 : Int) (m : zM) (B : Int), J S m0 B m → B + 0 * (n : Int) ≤ BE → (3 ≤ y4 ∧ y4 ≤ 120) → 120 - y4 < (n : Int) → X (EE s) d 223 17 [(0, zr 4 44), (1, zi y1), (2, zl y2), (4, zi y4)] [] m Q := by
  intro n
  induction n with
  | zero =>
    intro y4 m B hJ hB  hy4 hn
    exfalso
    omega
  | succ n ih =>
    intro y4 m B hJ hB  hy4 hn
    refine X.iload 19 i223_17 rfl rfl rfl ?_
    refine X.bipush 21 i223_19 rfl rfl (by decide) ?_
    refine X.icmpge 54 24 i223_21 rfl rfl rfl (fun h504 => ?_) (fun h504 => ?_)
    · refine X.cut [(0, zr 4 44), (1, zi y1), (2, zl y2)] i223_54 rfl ?_
      exact K54  m (B) (hJ.up (by omega)) (by omega)  
    · refine X.aload_n 25 i223_24 rfl rfl rfl ?_
      refine X.getF 28 i223_25 rfl rfl (by decide) rfl rfl ?_
      refine X.sipush 31 i223_28 rfl rfl (by decide) ?_
      refine X.iload 33 i223_31 rfl rfl rfl ?_
      refine X.iadd 34 i223_33 rfl rfl (by omega) ?_
      refine X.iconst 35 i223_34 rfl rfl (by decide) ?_
      refine X.isub 36 i223_35 rfl rfl (by omega) ?_
      refine X.aload_n 37 i223_36 rfl rfl rfl ?_
      refine X.getF 40 i223_37 rfl rfl (by decide) rfl rfl ?_
      refine X.sipush 43 i223_40 rfl rfl (by decide) ?_
      refine X.iload 45 i223_43 rfl rfl rfl ?_
      refine X.iadd 46 i223_45 rfl rfl (by omega) ?_
      refine X.lald 47 i223_46 rfl rfl (by decide) rfl (by omega) ?_
      refine X.last' 48 i223_47 rfl rfl (by decide) rfl (by omega) (fun hrm505 m505 hm505 => ?_)
      have hJ506 := w45_788 hJ hm505 (by omega) hrm505
      refine X.iinc 51 [(0, zr 4 44), (1, zi y1), (2, zl y2), (4, zi (y4 + 1))] i223_48 rfl rfl rfl (by omega) rfl ?_
      refine X.goto 17 i223_51 rfl rfl ?_
      exact ih (y4 + 1) m505 (B) (hJ506.up (by omega)) (by omega)  (by omega) (by omega)
-- WorkMeterModel.logs
theorem c223_2 {s : Nat × (Nat → Int32)} {S : zS} {m0 m : zM} {B : Int} {d : Nat} {Q : Option zV → zM → Prop} (a1 a2 : Int) (hd : 13 ≤ d) (hJ : J S m0 B m) (hB : B + 1 ≤ 1000000000) (ha1 : 0 ≤ a1 ∧ a1 ≤ 40) (ha2 : 1 ≤ a2 ∧ a2 ≤ 1000000001) (hQ : ∀ m', J S m0 (B + 1) m' → Q none m') : X (EE s) d 223 0 [(0, zr 4 44), (1, zi a1), (2, zl a2)] [] m Q := by
  refine X.aload_n 1 i223_0 rfl rfl rfl ?_
  refine X.getF 4 i223_1 rfl rfl (by decide) rfl rfl ?_
  refine X.bipush 6 i223_4 rfl rfl (by decide) ?_
  refine X.lald 7 i223_6 rfl rfl (by decide) rfl (by omega) ?_
  have h501 := r45_16 hJ 4
  refine X.ldc2 10 i223_7 rfl rfl (by decide) ?_
  refine X.lcmp 11 i223_10 rfl rfl (fun z502 hz502 => ?_)
  refine X.iflt 54 14 i223_11 rfl rfl rfl (fun h503 => ?_) (fun h503 => ?_)
  · have h503c : (m 4 45 16) < 40 := by omega
    clear h503 hz502
    refine X.sipush 57 i223_54 rfl rfl (by decide) ?_
    refine X.iconst 58 i223_57 rfl rfl (by decide) ?_
    refine X.aload_n 59 i223_58 rfl rfl rfl ?_
    refine X.getF 62 i223_59 rfl rfl (by decide) rfl rfl ?_
    refine X.bipush 64 i223_62 rfl rfl (by decide) ?_
    refine X.lald 65 i223_64 rfl rfl (by decide) rfl (by omega) ?_
    refine X.ldc2 68 i223_65 rfl rfl (by decide) ?_
    refine X.lcmp 69 i223_68 rfl rfl (fun z504 hz504 => ?_)
    refine X.ifge 82 72 i223_69 rfl rfl rfl (fun h505 => (by exfalso; omega)) (fun h505 => ?_)
    have h505c : (m 4 45 16) < 40 := by omega
    clear h505 hz504
    refine X.aload_n 73 i223_72 rfl rfl rfl ?_
    refine X.getF 76 i223_73 rfl rfl (by decide) rfl rfl ?_
    refine X.bipush 78 i223_76 rfl rfl (by decide) ?_
    refine X.lald 79 i223_78 rfl rfl (by decide) rfl (by omega) ?_
    refine X.goto 85 i223_79 rfl rfl ?_
    refine X.l2i 86 i223_85 rfl rfl (by omega) ?_
    refine X.imul 87 i223_86 rfl rfl (by omega) ?_
    refine X.iadd 88 i223_87 rfl rfl (by omega) ?_
    refine X.istore 90 [(0, zr 4 44), (1, zi a1), (2, zl a2), (4, zi (1487 + (3 * (m 4 45 16))))] i223_88 rfl rfl rfl ?_
    refine X.aload_n 91 i223_90 rfl rfl rfl ?_
    refine X.getF 94 i223_91 rfl rfl (by decide) rfl rfl ?_
    refine X.iload 96 i223_94 rfl rfl rfl ?_
    refine X.aload_n 97 i223_96 rfl rfl rfl ?_
    refine X.getF 100 i223_97 rfl rfl (by decide) rfl rfl ?_
    refine X.iconst 101 i223_100 rfl rfl (by decide) ?_
    refine X.lald 102 i223_101 rfl rfl (by decide) rfl (by omega) ?_
    have h506 := r45_0 hJ 4
    refine X.last' 103 i223_102 rfl rfl (by decide) rfl (by omega) (fun hrm507 m507 hm507 => ?_)
    have hJ508 := w45_788 hJ hm507 (by omega) hrm507
    refine X.aload_n 104 i223_103 rfl rfl rfl ?_
    refine X.getF 107 i223_104 rfl rfl (by decide) rfl rfl ?_
    refine X.iload 109 i223_107 rfl rfl rfl ?_
    refine X.iconst 110 i223_109 rfl rfl (by decide) ?_
    refine X.iadd 111 i223_110 rfl rfl (by omega) ?_
    refine X.iload_n 112 i223_111 rfl rfl rfl ?_
    refine X.i2l 113 i223_112 rfl rfl ?_
    refine X.last' 114 i223_113 rfl rfl (by decide) rfl (by omega) (fun hrm509 m509 hm509 => ?_)
    have hJ510 := w45_788 hJ508 hm509 (by omega) hrm509
    refine X.aload_n 115 i223_114 rfl rfl rfl ?_
    refine X.getF 118 i223_115 rfl rfl (by decide) rfl rfl ?_
    refine X.iload 120 i223_118 rfl rfl rfl ?_
    refine X.iconst 121 i223_120 rfl rfl (by decide) ?_
    refine X.iadd 122 i223_121 rfl rfl (by omega) ?_
    refine X.lload_n 123 i223_122 rfl rfl rfl ?_
    refine X.last' 124 i223_123 rfl rfl (by decide) rfl (by omega) (fun hrm511 m511 hm511 => ?_)
    have hJ512 := w45_788 hJ510 hm511 (by omega) hrm511
    refine X.aload_n 125 i223_124 rfl rfl rfl ?_
    refine X.getF 128 i223_125 rfl rfl (by decide) rfl rfl ?_
    refine X.bipush 130 i223_128 rfl rfl (by decide) ?_
    refine X.dup2 131 i223_130 rfl rfl ?_
    refine X.lald 132 i223_131 rfl rfl (by decide) rfl (by omega) ?_
    have h513 := r45_16 hJ512 4
    refine X.lconst (y := 1) 133 i223_132 rfl rfl rfl ?_
    refine X.ladd 134 i223_133 rfl rfl (by omega) ?_
    refine X.last' 135 i223_134 rfl rfl (by decide) rfl (by omega) (fun hrm514 m514 hm514 => ?_)
    have hJ515 := w45_16 (hJ512.up (B' := B + 1) (by omega)) hm514 (by omega)
    refine X.retv i223_135 rfl t223 ?_
    exact hQ  m514  (hJ515.up (by omega)) 
  · have h503c : (m 4 45 16) ≥ 40 := by omega
    clear h503 hz502
    refine X.iconst 15 i223_14 rfl rfl (by decide) ?_
    refine X.istore 17 [(0, zr 4 44), (1, zi a1), (2, zl a2), (4, zi 3)] i223_15 rfl rfl rfl ?_
    refine l223_17_2 (s := s) (S := S) (m0 := m0) (d := d)  a1 a2 (BE := B + 0) (by omega) (by omega) (by omega) (by omega) (fun  m516 B517 hJ518 hBB517 => ?_) ((120 - 3 : Int).toNat + 1) 3 m (B) (hJ.up (by omega)) (by omega)  (by omega) (by omega)
    refine X.sipush 57 i223_54 rfl rfl (by decide) ?_
    refine X.iconst 58 i223_57 rfl rfl (by decide) ?_
    refine X.aload_n 59 i223_58 rfl rfl rfl ?_
    refine X.getF 62 i223_59 rfl rfl (by decide) rfl rfl ?_
    refine X.bipush 64 i223_62 rfl rfl (by decide) ?_
    refine X.lald 65 i223_64 rfl rfl (by decide) rfl (by omega) ?_
    have h519 := r45_16 hJ518 4
    refine X.ldc2 68 i223_65 rfl rfl (by decide) ?_
    refine X.lcmp 69 i223_68 rfl rfl (fun z520 hz520 => ?_)
    refine X.ifge 82 72 i223_69 rfl rfl rfl (fun h521 => ?_) (fun h521 => ?_)
    · have h521c : (m516 4 45 16) ≥ 40 := by omega
      clear h521 hz520
      refine X.ldc2 85 i223_82 rfl rfl (by decide) ?_
      refine X.l2i 86 i223_85 rfl rfl (by omega) ?_
      refine X.imul 87 i223_86 rfl rfl (by omega) ?_
      refine X.iadd 88 i223_87 rfl rfl (by omega) ?_
      refine X.istore 90 [(0, zr 4 44), (1, zi a1), (2, zl a2), (4, zi (1487 + (3 * 39)))] i223_88 rfl rfl rfl ?_
      refine X.aload_n 91 i223_90 rfl rfl rfl ?_
      refine X.getF 94 i223_91 rfl rfl (by decide) rfl rfl ?_
      refine X.iload 96 i223_94 rfl rfl rfl ?_
      refine X.aload_n 97 i223_96 rfl rfl rfl ?_
      refine X.getF 100 i223_97 rfl rfl (by decide) rfl rfl ?_
      refine X.iconst 101 i223_100 rfl rfl (by decide) ?_
      refine X.lald 102 i223_101 rfl rfl (by decide) rfl (by omega) ?_
      have h522 := r45_0 hJ518 4
      refine X.last' 103 i223_102 rfl rfl (by decide) rfl (by omega) (fun hrm523 m523 hm523 => ?_)
      have hJ524 := w45_788 hJ518 hm523 (by omega) hrm523
      refine X.aload_n 104 i223_103 rfl rfl rfl ?_
      refine X.getF 107 i223_104 rfl rfl (by decide) rfl rfl ?_
      refine X.iload 109 i223_107 rfl rfl rfl ?_
      refine X.iconst 110 i223_109 rfl rfl (by decide) ?_
      refine X.iadd 111 i223_110 rfl rfl (by omega) ?_
      refine X.iload_n 112 i223_111 rfl rfl rfl ?_
      refine X.i2l 113 i223_112 rfl rfl ?_
      refine X.last' 114 i223_113 rfl rfl (by decide) rfl (by omega) (fun hrm525 m525 hm525 => ?_)
      have hJ526 := w45_788 hJ524 hm525 (by omega) hrm525
      refine X.aload_n 115 i223_114 rfl rfl rfl ?_
      refine X.getF 118 i223_115 rfl rfl (by decide) rfl rfl ?_
      refine X.iload 120 i223_118 rfl rfl rfl ?_
      refine X.iconst 121 i223_120 rfl rfl (by decide) ?_
      refine X.iadd 122 i223_121 rfl rfl (by omega) ?_
      refine X.lload_n 123 i223_122 rfl rfl rfl ?_
      refine X.last' 124 i223_123 rfl rfl (by decide) rfl (by omega) (fun hrm527 m527 hm527 => ?_)
      have hJ528 := w45_788 hJ526 hm527 (by omega) hrm527
      refine X.aload_n 125 i223_124 rfl rfl rfl ?_
      refine X.getF 128 i223_125 rfl rfl (by decide) rfl rfl ?_
      refine X.bipush 130 i223_128 rfl rfl (by decide) ?_
      refine X.dup2 131 i223_130 rfl rfl ?_
      refine X.lald 132 i223_131 rfl rfl (by decide) rfl (by omega) ?_
      have h529 := r45_16 hJ528 4
      refine X.lconst (y := 1) 133 i223_132 rfl rfl rfl ?_
      refine X.ladd 134 i223_133 rfl rfl (by omega) ?_
      refine X.last' 135 i223_134 rfl rfl (by decide) rfl (by omega) (fun hrm530 m530 hm530 => ?_)
      have hJ531 := w45_16 (hJ528.up (B' := B517 + 1) (by omega)) hm530 (by omega)
      refine X.retv i223_135 rfl t223 ?_
      exact hQ  m530  (hJ531.up (by omega)) 
    · have h521c : (m516 4 45 16) < 40 := by omega
      clear h521 hz520
      refine X.aload_n 73 i223_72 rfl rfl rfl ?_
      refine X.getF 76 i223_73 rfl rfl (by decide) rfl rfl ?_
      refine X.bipush 78 i223_76 rfl rfl (by decide) ?_
      refine X.lald 79 i223_78 rfl rfl (by decide) rfl (by omega) ?_
      refine X.goto 85 i223_79 rfl rfl ?_
      refine X.l2i 86 i223_85 rfl rfl (by omega) ?_
      refine X.imul 87 i223_86 rfl rfl (by omega) ?_
      refine X.iadd 88 i223_87 rfl rfl (by omega) ?_
      refine X.istore 90 [(0, zr 4 44), (1, zi a1), (2, zl a2), (4, zi (1487 + (3 * (m516 4 45 16))))] i223_88 rfl rfl rfl ?_
      refine X.aload_n 91 i223_90 rfl rfl rfl ?_
      refine X.getF 94 i223_91 rfl rfl (by decide) rfl rfl ?_
      refine X.iload 96 i223_94 rfl rfl rfl ?_
      refine X.aload_n 97 i223_96 rfl rfl rfl ?_
      refine X.getF 100 i223_97 rfl rfl (by decide) rfl rfl ?_
      refine X.iconst 101 i223_100 rfl rfl (by decide) ?_
      refine X.lald 102 i223_101 rfl rfl (by decide) rfl (by omega) ?_
      have h532 := r45_0 hJ518 4
      refine X.last' 103 i223_102 rfl rfl (by decide) rfl (by omega) (fun hrm533 m533 hm533 => ?_)
      have hJ534 := w45_788 hJ518 hm533 (by omega) hrm533
      refine X.aload_n 104 i223_103 rfl rfl rfl ?_
      refine X.getF 107 i223_104 rfl rfl (by decide) rfl rfl ?_
      refine X.iload 109 i223_107 rfl rfl rfl ?_
      refine X.iconst 110 i223_109 rfl rfl (by decide) ?_
      refine X.iadd 111 i223_110 rfl rfl (by omega) ?_
      refine X.iload_n 112 i223_111 rfl rfl rfl ?_
      refine X.i2l 113 i223_112 rfl rfl ?_
      refine X.last' 114 i223_113 rfl rfl (by decide) rfl (by omega) (fun hrm535 m535 hm535 => ?_)
      have hJ536 := w45_788 hJ534 hm535 (by omega) hrm535
      refine X.aload_n 115 i223_114 rfl rfl rfl ?_
      refine X.getF 118 i223_115 rfl rfl (by decide) rfl rfl ?_
      refine X.iload 120 i223_118 rfl rfl rfl ?_
      refine X.iconst 121 i223_120 rfl rfl (by decide) ?_
      refine X.iadd 122 i223_121 rfl rfl (by omega) ?_
      refine X.lload_n 123 i223_122 rfl rfl rfl ?_
      refine X.last' 124 i223_123 rfl rfl (by decide) rfl (by omega) (fun hrm537 m537 hm537 => ?_)
      have hJ538 := w45_788 hJ536 hm537 (by omega) hrm537
      refine X.aload_n 125 i223_124 rfl rfl rfl ?_
      refine X.getF 128 i223_125 rfl rfl (by decide) rfl rfl ?_
      refine X.bipush 130 i223_128 rfl rfl (by decide) ?_
      refine X.dup2 131 i223_130 rfl rfl ?_
      refine X.lald 132 i223_131 rfl rfl (by decide) rfl (by omega) ?_
      have h539 := r45_16 hJ538 4
      refine X.lconst (y := 1) 133 i223_132 rfl rfl rfl ?_
      refine X.ladd 134 i223_133 rfl rfl (by omega) ?_
      refine X.last' 135 i223_134 rfl rfl (by decide) rfl (by omega) (fun hrm540 m540 hm540 => ?_)
      have hJ541 := w45_16 (hJ538.up (B' := B517 + 1) (by omega)) hm540 (by omega)
      refine X.retv i223_135 rfl t223 ?_
      exact hQ  m540  (hJ541.up (by omega)) 
-- WorkMeterModel.open
theorem c277_1 {s : Nat × (Nat → Int32)} {S : zS} {m0 m : zM} {B : Int} {d : Nat} {Q : Option zV → zM → Prop} (a1 : Int) (hd : 14 ≤ d) (hJ : J S m0 B m) (hB : B + 4 ≤ 1000000000) (ha1 : (-2147483648) ≤ a1 ∧ a1 ≤ 2147483647) (hs0 : S.1 4 45 1614) (hs1 : S.1 4 45 1616) (hs2 : S.1 4 45 1617) (hQ : ∀ (v : Int) m', (0 ≤ v ∧ v ≤ 1) → J S m0 (B + 4) m' → ((v = 0 ∧ ¬ (m 4 45 1614 = 1 ∧ m 4 45 1617 ≤ m 4 45 0) ∧ m' 4 45 1614 = m 4 45 1614 ∧ m' 4 45 1616 = m 4 45 1616 ∧ m' 4 45 1617 = m 4 45 1617) ∨ (v = 1 ∧ m 4 45 1614 = 1 ∧ m 4 45 1617 ≤ m 4 45 0 ∧ a1 = m 4 45 1615 ∧ m' 4 45 1614 = 0 ∧ m' 4 45 1616 = 0 ∧ m' 4 45 1617 = 0) ∨ (v = 0 ∧ m 4 45 1614 = 1 ∧ m 4 45 1617 ≤ m 4 45 0 ∧ ¬ (a1 = m 4 45 1615) ∧ m 4 45 1616 + 1 < 3 ∧ m' 4 45 1614 = m 4 45 1614 ∧ m' 4 45 1617 = m 4 45 1617 ∧ m' 4 45 1616 = m 4 45 1616 + 1) ∨ (v = 0 ∧ m 4 45 1614 = 1 ∧ m 4 45 1617 ≤ m 4 45 0 ∧ ¬ (a1 = m 4 45 1615) ∧ 3 ≤ m 4 45 1616 + 1 ∧ m' 4 45 1614 = m 4 45 1614 ∧ m' 4 45 1616 = 0 ∧ m' 4 45 1617 = m 4 45 0 + 300)) → Q (some (zi v)) m') : X (EE s) d 277 0 [(0, zr 4 44), (1, zi a1)] [] m Q := by
  refine X.aload_n 1 i277_0 rfl rfl rfl ?_
  refine X.getF 4 i277_1 rfl rfl (by decide) rfl rfl ?_
  refine X.sipush 7 i277_4 rfl rfl (by decide) ?_
  refine X.lald 8 i277_7 rfl rfl (by decide) rfl (by omega) ?_
  have h501 := r45_1614 hJ 4
  refine X.lconst (y := 0) 9 i277_8 rfl rfl rfl ?_
  refine X.lcmp 10 i277_9 rfl rfl (fun z502 hz502 => ?_)
  refine X.ifeq 22 13 i277_10 rfl rfl rfl (fun h503 => ?_) (fun h503 => ?_)
  · have h503c : (m 4 45 1614) = 0 := by omega
    clear h503 hz502
    refine X.cut [] i277_22 rfl ?_
    refine X.iconst 23 i277_22 rfl rfl (by decide) ?_
    refine X.retz i277_23 rfl t277 (by omega) ?_
    exact hQ 0 m (by first | trivial | omega) (hJ.up (by omega)) (by first | exact (.inl ⟨by omega, by omega, by omega, by omega, by omega⟩) | exact (.inr (.inl ⟨by omega, by omega, by omega, by omega, by omega, by omega, by omega⟩)) | exact (.inr (.inr (.inl ⟨by omega, by omega, by omega, by omega, by omega, by omega, by omega, by omega⟩))) | exact (.inr (.inr (.inr ⟨by omega, by omega, by omega, by omega, by omega, by omega, by omega, by omega⟩))))
  · have h503c : (m 4 45 1614) ≠ 0 := by omega
    clear h503 hz502
    refine X.aload_n 14 i277_13 rfl rfl rfl ?_
    refine X.callv 17 [] [] [(0, zr 4 44)] i277_14 rfl (by decide) rfl rfl (by omega) rfl rfl (by decide) rfl t278 (Nat.le_of_ble_eq_true rfl) (Nat.le_of_ble_eq_true rfl) rfl ?_
    refine X.aload_n 1 i278_0 rfl rfl rfl ?_
    refine X.getF 4 i278_1 rfl rfl (by decide) rfl rfl ?_
    refine X.sipush 7 i278_4 rfl rfl (by decide) ?_
    refine X.lald 8 i278_7 rfl rfl (by decide) rfl (by omega) ?_
    have h504 := r45_1617 hJ 4
    refine X.aload_n 9 i278_8 rfl rfl rfl ?_
    refine X.getF 12 i278_9 rfl rfl (by decide) rfl rfl ?_
    refine X.iconst 13 i278_12 rfl rfl (by decide) ?_
    refine X.lald 14 i278_13 rfl rfl (by decide) rfl (by omega) ?_
    have h505 := r45_0 hJ 4
    refine X.lcmp 15 i278_14 rfl rfl (fun z506 hz506 => ?_)
    refine X.ifle 36 18 i278_15 rfl rfl rfl (fun h507 => ?_) (fun h507 => ?_)
    · have h507c : (m 4 45 1617) ≤ (m 4 45 0) := by omega
      clear h507 hz506
      refine X.cut [] i278_36 rfl ?_
      refine X.lconst (y := 0) 37 i278_36 rfl rfl rfl ?_
      refine X.retl i278_37 rfl t278 ?_
      show X (EE s) d 277 17 [(0, zr 4 44), (1, zi a1)] [zl 0] m _
      refine X.lconst (y := 0) 18 i277_17 rfl rfl rfl ?_
      refine X.lcmp 19 i277_18 rfl rfl (fun z508 hz508 => ?_)
      refine X.ifle 24 22 i277_19 rfl rfl rfl (fun h509 => ?_) (fun h509 => (by exfalso; omega))
      have h509c : 0 ≤ 0 := by omega
      clear h509 hz508
      refine X.iload_n 25 i277_24 rfl rfl rfl ?_
      refine X.i2l 26 i277_25 rfl rfl ?_
      refine X.aload_n 27 i277_26 rfl rfl rfl ?_
      refine X.getF 30 i277_27 rfl rfl (by decide) rfl rfl ?_
      refine X.sipush 33 i277_30 rfl rfl (by decide) ?_
      refine X.lald 34 i277_33 rfl rfl (by decide) rfl (by omega) ?_
      refine X.lcmp 35 i277_34 rfl rfl (fun z510 hz510 => ?_)
      refine X.ifne 74 38 i277_35 rfl rfl rfl (fun h511 => ?_) (fun h511 => ?_)
      · have h511c : a1 ≠ (m 4 45 1615) := by omega
        clear h511 hz510
        refine X.cut [(0, zr 4 44)] i277_74 rfl ?_
        refine X.aload_n 75 i277_74 rfl rfl rfl ?_
        refine X.getF 78 i277_75 rfl rfl (by decide) rfl rfl ?_
        refine X.sipush 81 i277_78 rfl rfl (by decide) ?_
        refine X.dup2 82 i277_81 rfl rfl ?_
        refine X.lald 83 i277_82 rfl rfl (by decide) rfl (by omega) ?_
        have h512 := r45_1616 hJ 4
        refine X.lconst (y := 1) 84 i277_83 rfl rfl rfl ?_
        refine X.ladd 85 i277_84 rfl rfl (by omega) ?_
        refine X.last' 86 i277_85 rfl rfl (by decide) rfl (by omega) (fun hrm513 m513 hm513 => ?_)
        have hJ514 := w45_1616 (hJ.up (B' := B + 1) (by omega)) hm513 (by omega) hs1
        have wt515 : m513 4 45 1614 = (m 4 45 1614) := by rw [hm513]; exact z_upd_o _ _ rfl
        have wt516 : m513 4 45 1616 = ((m 4 45 1616) + 1) := by rw [hm513]; exact z_upd_same _ _ _ _ _
        have wt517 : m513 4 45 1617 = (m 4 45 1617) := by rw [hm513]; exact z_upd_o _ _ rfl
        have wt518 : m513 4 45 0 = (m 4 45 0) := by rw [hm513]; exact z_upd_o _ _ rfl
        have wt519 : m513 4 45 1615 = (m 4 45 1615) := by rw [hm513]; exact z_upd_o _ _ rfl
        refine X.aload_n 87 i277_86 rfl rfl rfl ?_
        refine X.bipush 89 i277_87 rfl rfl (by decide) ?_
        refine X.aload_n 90 i277_89 rfl rfl rfl ?_
        refine X.getF 93 i277_90 rfl rfl (by decide) rfl rfl ?_
        refine X.sipush 96 i277_93 rfl rfl (by decide) ?_
        refine X.lald 97 i277_96 rfl rfl (by decide) rfl (by omega) ?_
        refine X.callv 100 [zi 32, zl (m513 4 45 1616)] [] [(0, zr 4 44), (1, zi 32), (2, zl (m513 4 45 1616))] i277_97 rfl (by decide) rfl rfl (by omega) rfl rfl (by decide) rfl t223 (Nat.le_of_ble_eq_true rfl) (Nat.le_of_ble_eq_true rfl) rfl ?_
        refine c223_2 (S := zfr [] S) (m0 := m513) (B := B + 1)  32 (m513 4 45 1616) (by omega) (hJ514.ow.up (by omega)) (by omega) (by omega) (by omega) (fun m520 hJ521 => ?_)
        have hJ523 := hJ514.trans hJ521 zi_n
        have wt524 : m520 4 45 1614 = (m 4 45 1614) := Eq.trans (hJ521.eq rfl rfl) wt515
        have wt525 : m520 4 45 1616 = ((m 4 45 1616) + 1) := Eq.trans (hJ521.eq rfl rfl) wt516
        have wt526 : m520 4 45 1617 = (m 4 45 1617) := Eq.trans (hJ521.eq rfl rfl) wt517
        have wt527 : m520 4 45 0 = (m 4 45 0) := Eq.trans (hJ521.eq rfl rfl) wt518
        have wt528 : m520 4 45 1615 = (m 4 45 1615) := Eq.trans (hJ521.eq rfl rfl) wt519
        clear wt515 wt517 wt518 wt519
        show X (EE s) d 277 100 [(0, zr 4 44)] [] m520 _
        refine X.aload_n 101 i277_100 rfl rfl rfl ?_
        refine X.getF 104 i277_101 rfl rfl (by decide) rfl rfl ?_
        refine X.sipush 107 i277_104 rfl rfl (by decide) ?_
        refine X.lald 108 i277_107 rfl rfl (by decide) rfl (by omega) ?_
        have h529 := r45_1616 hJ523 4
        refine X.ldc2 111 i277_108 rfl rfl (by decide) ?_
        refine X.lcmp 112 i277_111 rfl rfl (fun z530 hz530 => ?_)
        refine X.ifge 117 115 i277_112 rfl rfl rfl (fun h531 => ?_) (fun h531 => ?_)
        · have h531c : (m520 4 45 1616) ≥ 3 := by omega
          clear h531 hz530
          refine X.aload_n 118 i277_117 rfl rfl rfl ?_
          refine X.getF 121 i277_118 rfl rfl (by decide) rfl rfl ?_
          refine X.sipush 124 i277_121 rfl rfl (by decide) ?_
          refine X.lconst (y := 0) 125 i277_124 rfl rfl rfl ?_
          refine X.last' 126 i277_125 rfl rfl (by decide) rfl (by omega) (fun hrm532 m532 hm532 => ?_)
          have rbm532 := r45_1616 hJ523 4
          have hJ533 := w45_1616 (hJ523.up (B' := B + 3) (by omega)) hm532 (by omega) hs1
          have wt534 : m532 4 45 1614 = (m 4 45 1614) := Eq.trans (by rw [hm532]; exact z_upd_o _ _ rfl) wt524
          have wt535 : m532 4 45 1616 = 0 := by rw [hm532]; exact z_upd_same _ _ _ _ _
          have wt536 : m532 4 45 1617 = (m 4 45 1617) := Eq.trans (by rw [hm532]; exact z_upd_o _ _ rfl) wt526
          have wt537 : m532 4 45 0 = (m 4 45 0) := Eq.trans (by rw [hm532]; exact z_upd_o _ _ rfl) wt527
          have wt538 : m532 4 45 1615 = (m 4 45 1615) := Eq.trans (by rw [hm532]; exact z_upd_o _ _ rfl) wt528
          clear wt524 wt526 wt527 wt528
          refine X.aload_n 127 i277_126 rfl rfl rfl ?_
          refine X.getF 130 i277_127 rfl rfl (by decide) rfl rfl ?_
          refine X.sipush 133 i277_130 rfl rfl (by decide) ?_
          refine X.aload_n 134 i277_133 rfl rfl rfl ?_
          refine X.getF 137 i277_134 rfl rfl (by decide) rfl rfl ?_
          refine X.iconst 138 i277_137 rfl rfl (by decide) ?_
          refine X.lald 139 i277_138 rfl rfl (by decide) rfl (by omega) ?_
          have h539 := r45_0 hJ533 4
          refine X.ldc2 142 i277_139 rfl rfl (by decide) ?_
          refine X.ladd 143 i277_142 rfl rfl (by omega) ?_
          refine X.last' 144 i277_143 rfl rfl (by decide) rfl (by omega) (fun hrm540 m540 hm540 => ?_)
          have hJ541 := w45_1617 hJ533 hm540 (by omega) hs2
          have wt542 : m540 4 45 1614 = (m 4 45 1614) := Eq.trans (by rw [hm540]; exact z_upd_o _ _ rfl) wt534
          have wt543 : m540 4 45 1616 = 0 := Eq.trans (by rw [hm540]; exact z_upd_o _ _ rfl) wt535
          have wt544 : m540 4 45 1617 = ((m532 4 45 0) + 300) := by rw [hm540]; exact z_upd_same _ _ _ _ _
          have wt545 : m540 4 45 0 = (m 4 45 0) := Eq.trans (by rw [hm540]; exact z_upd_o _ _ rfl) wt537
          have wt546 : m540 4 45 1615 = (m 4 45 1615) := Eq.trans (by rw [hm540]; exact z_upd_o _ _ rfl) wt538
          clear wt534 wt535 wt536 wt538
          refine X.aload_n 145 i277_144 rfl rfl rfl ?_
          refine X.bipush 147 i277_145 rfl rfl (by decide) ?_
          refine X.lconst (y := 0) 148 i277_147 rfl rfl rfl ?_
          refine X.callv 151 [zi 33, zl 0] [] [(0, zr 4 44), (1, zi 33), (2, zl 0)] i277_148 rfl (by decide) rfl rfl (by omega) rfl rfl (by decide) rfl t223 (Nat.le_of_ble_eq_true rfl) (Nat.le_of_ble_eq_true rfl) rfl ?_
          refine c223_1 (S := zfr [] S) (m0 := m540) (B := B + 3)  33 0 (by omega) (hJ541.ow.up (by omega)) (by omega) (by omega) (by omega) (fun m547 hJ548 => ?_)
          have hJ550 := hJ541.trans hJ548 zi_n
          have wt551 : m547 4 45 1614 = (m 4 45 1614) := Eq.trans (hJ548.eq rfl rfl) wt542
          have wt552 : m547 4 45 1616 = 0 := Eq.trans (hJ548.eq rfl rfl) wt543
          have wt553 : m547 4 45 1617 = ((m532 4 45 0) + 300) := Eq.trans (hJ548.eq rfl rfl) wt544
          have wt554 : m547 4 45 0 = (m 4 45 0) := Eq.trans (hJ548.eq rfl rfl) wt545
          have wt555 : m547 4 45 1615 = (m 4 45 1615) := Eq.trans (hJ548.eq rfl rfl) wt546
          clear wt542 wt543 wt544 wt545 wt546
          show X (EE s) d 277 151 [(0, zr 4 44)] [] m547 _
          refine X.iconst 152 i277_151 rfl rfl (by decide) ?_
          refine X.retz i277_152 rfl t277 (by omega) ?_
          exact hQ 0 m547 (by first | trivial | omega) (hJ550.up (by omega)) (by first | exact (.inl ⟨by omega, by omega, by omega, by omega, by omega⟩) | exact (.inr (.inl ⟨by omega, by omega, by omega, by omega, by omega, by omega, by omega⟩)) | exact (.inr (.inr (.inl ⟨by omega, by omega, by omega, by omega, by omega, by omega, by omega, by omega⟩))) | exact (.inr (.inr (.inr ⟨by omega, by omega, by omega, by omega, by omega, by omega, by omega, by omega⟩))))
        · have h531c : (m520 4 45 1616) < 3 := by omega
          clear h531 hz530
          refine X.iconst 116 i277_115 rfl rfl (by decide) ?_
          refine X.retz i277_116 rfl t277 (by omega) ?_
          exact hQ 0 m520 (by first | trivial | omega) (hJ523.up (by omega)) (by first | exact (.inl ⟨by omega, by omega, by omega, by omega, by omega⟩) | exact (.inr (.inl ⟨by omega, by omega, by omega, by omega, by omega, by omega, by omega⟩)) | exact (.inr (.inr (.inl ⟨by omega, by omega, by omega, by omega, by omega, by omega, by omega, by omega⟩))) | exact (.inr (.inr (.inr ⟨by omega, by omega, by omega, by omega, by omega, by omega, by omega, by omega⟩))))
      · have h511c : a1 = (m 4 45 1615) := by omega
        clear h511 hz510
        refine X.aload_n 39 i277_38 rfl rfl rfl ?_
        refine X.getF 42 i277_39 rfl rfl (by decide) rfl rfl ?_
        refine X.sipush 45 i277_42 rfl rfl (by decide) ?_
        refine X.lconst (y := 0) 46 i277_45 rfl rfl rfl ?_
        refine X.last' 47 i277_46 rfl rfl (by decide) rfl (by omega) (fun hrm556 m556 hm556 => ?_)
        have hJ557 := w45_1614 hJ hm556 (by omega) hs0
        have wt558 : m556 4 45 1614 = 0 := by rw [hm556]; exact z_upd_same _ _ _ _ _
        have wt559 : m556 4 45 1616 = (m 4 45 1616) := by rw [hm556]; exact z_upd_o _ _ rfl
        have wt560 : m556 4 45 1617 = (m 4 45 1617) := by rw [hm556]; exact z_upd_o _ _ rfl
        have wt561 : m556 4 45 0 = (m 4 45 0) := by rw [hm556]; exact z_upd_o _ _ rfl
        have wt562 : m556 4 45 1615 = (m 4 45 1615) := by rw [hm556]; exact z_upd_o _ _ rfl
        refine X.aload_n 48 i277_47 rfl rfl rfl ?_
        refine X.getF 51 i277_48 rfl rfl (by decide) rfl rfl ?_
        refine X.sipush 54 i277_51 rfl rfl (by decide) ?_
        refine X.lconst (y := 0) 55 i277_54 rfl rfl rfl ?_
        refine X.last' 56 i277_55 rfl rfl (by decide) rfl (by omega) (fun hrm563 m563 hm563 => ?_)
        have rbm563 := r45_1616 hJ557 4
        have hJ564 := w45_1616 (hJ557.up (B' := B + 1) (by omega)) hm563 (by omega) hs1
        have wt565 : m563 4 45 1614 = 0 := Eq.trans (by rw [hm563]; exact z_upd_o _ _ rfl) wt558
        have wt566 : m563 4 45 1616 = 0 := by rw [hm563]; exact z_upd_same _ _ _ _ _
        have wt567 : m563 4 45 1617 = (m 4 45 1617) := Eq.trans (by rw [hm563]; exact z_upd_o _ _ rfl) wt560
        have wt568 : m563 4 45 0 = (m 4 45 0) := Eq.trans (by rw [hm563]; exact z_upd_o _ _ rfl) wt561
        have wt569 : m563 4 45 1615 = (m 4 45 1615) := Eq.trans (by rw [hm563]; exact z_upd_o _ _ rfl) wt562
        clear wt558 wt559 wt560 wt561 wt562
        refine X.aload_n 57 i277_56 rfl rfl rfl ?_
        refine X.getF 60 i277_57 rfl rfl (by decide) rfl rfl ?_
        refine X.sipush 63 i277_60 rfl rfl (by decide) ?_
        refine X.lconst (y := 0) 64 i277_63 rfl rfl rfl ?_
        refine X.last' 65 i277_64 rfl rfl (by decide) rfl (by omega) (fun hrm570 m570 hm570 => ?_)
        have hJ571 := w45_1617 hJ564 hm570 (by omega) hs2
        have wt572 : m570 4 45 1614 = 0 := Eq.trans (by rw [hm570]; exact z_upd_o _ _ rfl) wt565
        have wt573 : m570 4 45 1616 = 0 := Eq.trans (by rw [hm570]; exact z_upd_o _ _ rfl) wt566
        have wt574 : m570 4 45 1617 = 0 := by rw [hm570]; exact z_upd_same _ _ _ _ _
        have wt575 : m570 4 45 0 = (m 4 45 0) := Eq.trans (by rw [hm570]; exact z_upd_o _ _ rfl) wt568
        have wt576 : m570 4 45 1615 = (m 4 45 1615) := Eq.trans (by rw [hm570]; exact z_upd_o _ _ rfl) wt569
        clear wt565 wt566 wt567 wt568 wt569
        refine X.aload_n 66 i277_65 rfl rfl rfl ?_
        refine X.bipush 68 i277_66 rfl rfl (by decide) ?_
        refine X.lconst (y := 0) 69 i277_68 rfl rfl rfl ?_
        refine X.callv 72 [zi 31, zl 0] [] [(0, zr 4 44), (1, zi 31), (2, zl 0)] i277_69 rfl (by decide) rfl rfl (by omega) rfl rfl (by decide) rfl t223 (Nat.le_of_ble_eq_true rfl) (Nat.le_of_ble_eq_true rfl) rfl ?_
        refine c223_1 (S := zfr [] S) (m0 := m570) (B := B + 1)  31 0 (by omega) (hJ571.ow.up (by omega)) (by omega) (by omega) (by omega) (fun m577 hJ578 => ?_)
        have hJ580 := hJ571.trans hJ578 zi_n
        have wt581 : m577 4 45 1614 = 0 := Eq.trans (hJ578.eq rfl rfl) wt572
        have wt582 : m577 4 45 1616 = 0 := Eq.trans (hJ578.eq rfl rfl) wt573
        have wt583 : m577 4 45 1617 = 0 := Eq.trans (hJ578.eq rfl rfl) wt574
        have wt584 : m577 4 45 0 = (m 4 45 0) := Eq.trans (hJ578.eq rfl rfl) wt575
        have wt585 : m577 4 45 1615 = (m 4 45 1615) := Eq.trans (hJ578.eq rfl rfl) wt576
        clear wt572 wt573 wt574 wt575 wt576
        show X (EE s) d 277 72 [(0, zr 4 44), (1, zi a1)] [] m577 _
        refine X.iconst 73 i277_72 rfl rfl (by decide) ?_
        refine X.retz i277_73 rfl t277 (by omega) ?_
        exact hQ 1 m577 (by first | trivial | omega) (hJ580.up (by omega)) (by first | exact (.inl ⟨by omega, by omega, by omega, by omega, by omega⟩) | exact (.inr (.inl ⟨by omega, by omega, by omega, by omega, by omega, by omega, by omega⟩)) | exact (.inr (.inr (.inl ⟨by omega, by omega, by omega, by omega, by omega, by omega, by omega, by omega⟩))) | exact (.inr (.inr (.inr ⟨by omega, by omega, by omega, by omega, by omega, by omega, by omega, by omega⟩))))
    · have h507c : (m 4 45 1617) > (m 4 45 0) := by omega
      clear h507 hz506
      refine X.aload_n 19 i278_18 rfl rfl rfl ?_
      refine X.getF 22 i278_19 rfl rfl (by decide) rfl rfl ?_
      refine X.sipush 25 i278_22 rfl rfl (by decide) ?_
      refine X.lald 26 i278_25 rfl rfl (by decide) rfl (by omega) ?_
      refine X.aload_n 27 i278_26 rfl rfl rfl ?_
      refine X.getF 30 i278_27 rfl rfl (by decide) rfl rfl ?_
      refine X.iconst 31 i278_30 rfl rfl (by decide) ?_
      refine X.lald 32 i278_31 rfl rfl (by decide) rfl (by omega) ?_
      refine X.lsub 33 i278_32 rfl rfl (by omega) ?_
      refine X.goto 37 i278_33 rfl rfl ?_
      refine X.cut [] i278_37 rfl ?_
      refine X.retl i278_37 rfl t278 ?_
      show X (EE s) d 277 17 [(0, zr 4 44), (1, zi a1)] [zl ((m 4 45 1617) - (m 4 45 0))] m _
      refine X.lconst (y := 0) 18 i277_17 rfl rfl rfl ?_
      refine X.lcmp 19 i277_18 rfl rfl (fun z586 hz586 => ?_)
      refine X.ifle 24 22 i277_19 rfl rfl rfl (fun h587 => ?_) (fun h587 => ?_)
      · have h587c : ((m 4 45 1617) - (m 4 45 0)) ≤ 0 := by omega
        clear h587 hz586
        refine X.iload_n 25 i277_24 rfl rfl rfl ?_
        refine X.i2l 26 i277_25 rfl rfl ?_
        refine X.aload_n 27 i277_26 rfl rfl rfl ?_
        refine X.getF 30 i277_27 rfl rfl (by decide) rfl rfl ?_
        refine X.sipush 33 i277_30 rfl rfl (by decide) ?_
        refine X.lald 34 i277_33 rfl rfl (by decide) rfl (by omega) ?_
        refine X.lcmp 35 i277_34 rfl rfl (fun z588 hz588 => ?_)
        refine X.ifne 74 38 i277_35 rfl rfl rfl (fun h589 => ?_) (fun h589 => ?_)
        · have h589c : a1 ≠ (m 4 45 1615) := by omega
          clear h589 hz588
          refine X.cut [(0, zr 4 44)] i277_74 rfl ?_
          refine X.aload_n 75 i277_74 rfl rfl rfl ?_
          refine X.getF 78 i277_75 rfl rfl (by decide) rfl rfl ?_
          refine X.sipush 81 i277_78 rfl rfl (by decide) ?_
          refine X.dup2 82 i277_81 rfl rfl ?_
          refine X.lald 83 i277_82 rfl rfl (by decide) rfl (by omega) ?_
          have h590 := r45_1616 hJ 4
          refine X.lconst (y := 1) 84 i277_83 rfl rfl rfl ?_
          refine X.ladd 85 i277_84 rfl rfl (by omega) ?_
          refine X.last' 86 i277_85 rfl rfl (by decide) rfl (by omega) (fun hrm591 m591 hm591 => ?_)
          have hJ592 := w45_1616 (hJ.up (B' := B + 1) (by omega)) hm591 (by omega) hs1
          have wt593 : m591 4 45 1614 = (m 4 45 1614) := by rw [hm591]; exact z_upd_o _ _ rfl
          have wt594 : m591 4 45 1616 = ((m 4 45 1616) + 1) := by rw [hm591]; exact z_upd_same _ _ _ _ _
          have wt595 : m591 4 45 1617 = (m 4 45 1617) := by rw [hm591]; exact z_upd_o _ _ rfl
          have wt596 : m591 4 45 0 = (m 4 45 0) := by rw [hm591]; exact z_upd_o _ _ rfl
          have wt597 : m591 4 45 1615 = (m 4 45 1615) := by rw [hm591]; exact z_upd_o _ _ rfl
          refine X.aload_n 87 i277_86 rfl rfl rfl ?_
          refine X.bipush 89 i277_87 rfl rfl (by decide) ?_
          refine X.aload_n 90 i277_89 rfl rfl rfl ?_
          refine X.getF 93 i277_90 rfl rfl (by decide) rfl rfl ?_
          refine X.sipush 96 i277_93 rfl rfl (by decide) ?_
          refine X.lald 97 i277_96 rfl rfl (by decide) rfl (by omega) ?_
          refine X.callv 100 [zi 32, zl (m591 4 45 1616)] [] [(0, zr 4 44), (1, zi 32), (2, zl (m591 4 45 1616))] i277_97 rfl (by decide) rfl rfl (by omega) rfl rfl (by decide) rfl t223 (Nat.le_of_ble_eq_true rfl) (Nat.le_of_ble_eq_true rfl) rfl ?_
          refine c223_2 (S := zfr [] S) (m0 := m591) (B := B + 1)  32 (m591 4 45 1616) (by omega) (hJ592.ow.up (by omega)) (by omega) (by omega) (by omega) (fun m598 hJ599 => ?_)
          have hJ601 := hJ592.trans hJ599 zi_n
          have wt602 : m598 4 45 1614 = (m 4 45 1614) := Eq.trans (hJ599.eq rfl rfl) wt593
          have wt603 : m598 4 45 1616 = ((m 4 45 1616) + 1) := Eq.trans (hJ599.eq rfl rfl) wt594
          have wt604 : m598 4 45 1617 = (m 4 45 1617) := Eq.trans (hJ599.eq rfl rfl) wt595
          have wt605 : m598 4 45 0 = (m 4 45 0) := Eq.trans (hJ599.eq rfl rfl) wt596
          have wt606 : m598 4 45 1615 = (m 4 45 1615) := Eq.trans (hJ599.eq rfl rfl) wt597
          clear wt593 wt595 wt596 wt597
          show X (EE s) d 277 100 [(0, zr 4 44)] [] m598 _
          refine X.aload_n 101 i277_100 rfl rfl rfl ?_
          refine X.getF 104 i277_101 rfl rfl (by decide) rfl rfl ?_
          refine X.sipush 107 i277_104 rfl rfl (by decide) ?_
          refine X.lald 108 i277_107 rfl rfl (by decide) rfl (by omega) ?_
          have h607 := r45_1616 hJ601 4
          refine X.ldc2 111 i277_108 rfl rfl (by decide) ?_
          refine X.lcmp 112 i277_111 rfl rfl (fun z608 hz608 => ?_)
          refine X.ifge 117 115 i277_112 rfl rfl rfl (fun h609 => ?_) (fun h609 => ?_)
          · have h609c : (m598 4 45 1616) ≥ 3 := by omega
            clear h609 hz608
            refine X.aload_n 118 i277_117 rfl rfl rfl ?_
            refine X.getF 121 i277_118 rfl rfl (by decide) rfl rfl ?_
            refine X.sipush 124 i277_121 rfl rfl (by decide) ?_
            refine X.lconst (y := 0) 125 i277_124 rfl rfl rfl ?_
            refine X.last' 126 i277_125 rfl rfl (by decide) rfl (by omega) (fun hrm610 m610 hm610 => ?_)
            have rbm610 := r45_1616 hJ601 4
            have hJ611 := w45_1616 (hJ601.up (B' := B + 3) (by omega)) hm610 (by omega) hs1
            have wt612 : m610 4 45 1614 = (m 4 45 1614) := Eq.trans (by rw [hm610]; exact z_upd_o _ _ rfl) wt602
            have wt613 : m610 4 45 1616 = 0 := by rw [hm610]; exact z_upd_same _ _ _ _ _
            have wt614 : m610 4 45 1617 = (m 4 45 1617) := Eq.trans (by rw [hm610]; exact z_upd_o _ _ rfl) wt604
            have wt615 : m610 4 45 0 = (m 4 45 0) := Eq.trans (by rw [hm610]; exact z_upd_o _ _ rfl) wt605
            have wt616 : m610 4 45 1615 = (m 4 45 1615) := Eq.trans (by rw [hm610]; exact z_upd_o _ _ rfl) wt606
            clear wt602 wt604 wt605 wt606
            refine X.aload_n 127 i277_126 rfl rfl rfl ?_
            refine X.getF 130 i277_127 rfl rfl (by decide) rfl rfl ?_
            refine X.sipush 133 i277_130 rfl rfl (by decide) ?_
            refine X.aload_n 134 i277_133 rfl rfl rfl ?_
            refine X.getF 137 i277_134 rfl rfl (by decide) rfl rfl ?_
            refine X.iconst 138 i277_137 rfl rfl (by decide) ?_
            refine X.lald 139 i277_138 rfl rfl (by decide) rfl (by omega) ?_
            have h617 := r45_0 hJ611 4
            refine X.ldc2 142 i277_139 rfl rfl (by decide) ?_
            refine X.ladd 143 i277_142 rfl rfl (by omega) ?_
            refine X.last' 144 i277_143 rfl rfl (by decide) rfl (by omega) (fun hrm618 m618 hm618 => ?_)
            have hJ619 := w45_1617 hJ611 hm618 (by omega) hs2
            have wt620 : m618 4 45 1614 = (m 4 45 1614) := Eq.trans (by rw [hm618]; exact z_upd_o _ _ rfl) wt612
            have wt621 : m618 4 45 1616 = 0 := Eq.trans (by rw [hm618]; exact z_upd_o _ _ rfl) wt613
            have wt622 : m618 4 45 1617 = ((m610 4 45 0) + 300) := by rw [hm618]; exact z_upd_same _ _ _ _ _
            have wt623 : m618 4 45 0 = (m 4 45 0) := Eq.trans (by rw [hm618]; exact z_upd_o _ _ rfl) wt615
            have wt624 : m618 4 45 1615 = (m 4 45 1615) := Eq.trans (by rw [hm618]; exact z_upd_o _ _ rfl) wt616
            clear wt612 wt613 wt614 wt616
            refine X.aload_n 145 i277_144 rfl rfl rfl ?_
            refine X.bipush 147 i277_145 rfl rfl (by decide) ?_
            refine X.lconst (y := 0) 148 i277_147 rfl rfl rfl ?_
            refine X.callv 151 [zi 33, zl 0] [] [(0, zr 4 44), (1, zi 33), (2, zl 0)] i277_148 rfl (by decide) rfl rfl (by omega) rfl rfl (by decide) rfl t223 (Nat.le_of_ble_eq_true rfl) (Nat.le_of_ble_eq_true rfl) rfl ?_
            refine c223_1 (S := zfr [] S) (m0 := m618) (B := B + 3)  33 0 (by omega) (hJ619.ow.up (by omega)) (by omega) (by omega) (by omega) (fun m625 hJ626 => ?_)
            have hJ628 := hJ619.trans hJ626 zi_n
            have wt629 : m625 4 45 1614 = (m 4 45 1614) := Eq.trans (hJ626.eq rfl rfl) wt620
            have wt630 : m625 4 45 1616 = 0 := Eq.trans (hJ626.eq rfl rfl) wt621
            have wt631 : m625 4 45 1617 = ((m610 4 45 0) + 300) := Eq.trans (hJ626.eq rfl rfl) wt622
            have wt632 : m625 4 45 0 = (m 4 45 0) := Eq.trans (hJ626.eq rfl rfl) wt623
            have wt633 : m625 4 45 1615 = (m 4 45 1615) := Eq.trans (hJ626.eq rfl rfl) wt624
            clear wt620 wt621 wt622 wt623 wt624
            show X (EE s) d 277 151 [(0, zr 4 44)] [] m625 _
            refine X.iconst 152 i277_151 rfl rfl (by decide) ?_
            refine X.retz i277_152 rfl t277 (by omega) ?_
            exact hQ 0 m625 (by first | trivial | omega) (hJ628.up (by omega)) (by first | exact (.inl ⟨by omega, by omega, by omega, by omega, by omega⟩) | exact (.inr (.inl ⟨by omega, by omega, by omega, by omega, by omega, by omega, by omega⟩)) | exact (.inr (.inr (.inl ⟨by omega, by omega, by omega, by omega, by omega, by omega, by omega, by omega⟩))) | exact (.inr (.inr (.inr ⟨by omega, by omega, by omega, by omega, by omega, by omega, by omega, by omega⟩))))
          · have h609c : (m598 4 45 1616) < 3 := by omega
            clear h609 hz608
            refine X.iconst 116 i277_115 rfl rfl (by decide) ?_
            refine X.retz i277_116 rfl t277 (by omega) ?_
            exact hQ 0 m598 (by first | trivial | omega) (hJ601.up (by omega)) (by first | exact (.inl ⟨by omega, by omega, by omega, by omega, by omega⟩) | exact (.inr (.inl ⟨by omega, by omega, by omega, by omega, by omega, by omega, by omega⟩)) | exact (.inr (.inr (.inl ⟨by omega, by omega, by omega, by omega, by omega, by omega, by omega, by omega⟩))) | exact (.inr (.inr (.inr ⟨by omega, by omega, by omega, by omega, by omega, by omega, by omega, by omega⟩))))
        · have h589c : a1 = (m 4 45 1615) := by omega
          clear h589 hz588
          refine X.aload_n 39 i277_38 rfl rfl rfl ?_
          refine X.getF 42 i277_39 rfl rfl (by decide) rfl rfl ?_
          refine X.sipush 45 i277_42 rfl rfl (by decide) ?_
          refine X.lconst (y := 0) 46 i277_45 rfl rfl rfl ?_
          refine X.last' 47 i277_46 rfl rfl (by decide) rfl (by omega) (fun hrm634 m634 hm634 => ?_)
          have hJ635 := w45_1614 hJ hm634 (by omega) hs0
          have wt636 : m634 4 45 1614 = 0 := by rw [hm634]; exact z_upd_same _ _ _ _ _
          have wt637 : m634 4 45 1616 = (m 4 45 1616) := by rw [hm634]; exact z_upd_o _ _ rfl
          have wt638 : m634 4 45 1617 = (m 4 45 1617) := by rw [hm634]; exact z_upd_o _ _ rfl
          have wt639 : m634 4 45 0 = (m 4 45 0) := by rw [hm634]; exact z_upd_o _ _ rfl
          have wt640 : m634 4 45 1615 = (m 4 45 1615) := by rw [hm634]; exact z_upd_o _ _ rfl
          refine X.aload_n 48 i277_47 rfl rfl rfl ?_
          refine X.getF 51 i277_48 rfl rfl (by decide) rfl rfl ?_
          refine X.sipush 54 i277_51 rfl rfl (by decide) ?_
          refine X.lconst (y := 0) 55 i277_54 rfl rfl rfl ?_
          refine X.last' 56 i277_55 rfl rfl (by decide) rfl (by omega) (fun hrm641 m641 hm641 => ?_)
          have rbm641 := r45_1616 hJ635 4
          have hJ642 := w45_1616 (hJ635.up (B' := B + 1) (by omega)) hm641 (by omega) hs1
          have wt643 : m641 4 45 1614 = 0 := Eq.trans (by rw [hm641]; exact z_upd_o _ _ rfl) wt636
          have wt644 : m641 4 45 1616 = 0 := by rw [hm641]; exact z_upd_same _ _ _ _ _
          have wt645 : m641 4 45 1617 = (m 4 45 1617) := Eq.trans (by rw [hm641]; exact z_upd_o _ _ rfl) wt638
          have wt646 : m641 4 45 0 = (m 4 45 0) := Eq.trans (by rw [hm641]; exact z_upd_o _ _ rfl) wt639
          have wt647 : m641 4 45 1615 = (m 4 45 1615) := Eq.trans (by rw [hm641]; exact z_upd_o _ _ rfl) wt640
          clear wt636 wt637 wt638 wt639 wt640
          refine X.aload_n 57 i277_56 rfl rfl rfl ?_
          refine X.getF 60 i277_57 rfl rfl (by decide) rfl rfl ?_
          refine X.sipush 63 i277_60 rfl rfl (by decide) ?_
          refine X.lconst (y := 0) 64 i277_63 rfl rfl rfl ?_
          refine X.last' 65 i277_64 rfl rfl (by decide) rfl (by omega) (fun hrm648 m648 hm648 => ?_)
          have hJ649 := w45_1617 hJ642 hm648 (by omega) hs2
          have wt650 : m648 4 45 1614 = 0 := Eq.trans (by rw [hm648]; exact z_upd_o _ _ rfl) wt643
          have wt651 : m648 4 45 1616 = 0 := Eq.trans (by rw [hm648]; exact z_upd_o _ _ rfl) wt644
          have wt652 : m648 4 45 1617 = 0 := by rw [hm648]; exact z_upd_same _ _ _ _ _
          have wt653 : m648 4 45 0 = (m 4 45 0) := Eq.trans (by rw [hm648]; exact z_upd_o _ _ rfl) wt646
          have wt654 : m648 4 45 1615 = (m 4 45 1615) := Eq.trans (by rw [hm648]; exact z_upd_o _ _ rfl) wt647
          clear wt643 wt644 wt645 wt646 wt647
          refine X.aload_n 66 i277_65 rfl rfl rfl ?_
          refine X.bipush 68 i277_66 rfl rfl (by decide) ?_
          refine X.lconst (y := 0) 69 i277_68 rfl rfl rfl ?_
          refine X.callv 72 [zi 31, zl 0] [] [(0, zr 4 44), (1, zi 31), (2, zl 0)] i277_69 rfl (by decide) rfl rfl (by omega) rfl rfl (by decide) rfl t223 (Nat.le_of_ble_eq_true rfl) (Nat.le_of_ble_eq_true rfl) rfl ?_
          refine c223_1 (S := zfr [] S) (m0 := m648) (B := B + 1)  31 0 (by omega) (hJ649.ow.up (by omega)) (by omega) (by omega) (by omega) (fun m655 hJ656 => ?_)
          have hJ658 := hJ649.trans hJ656 zi_n
          have wt659 : m655 4 45 1614 = 0 := Eq.trans (hJ656.eq rfl rfl) wt650
          have wt660 : m655 4 45 1616 = 0 := Eq.trans (hJ656.eq rfl rfl) wt651
          have wt661 : m655 4 45 1617 = 0 := Eq.trans (hJ656.eq rfl rfl) wt652
          have wt662 : m655 4 45 0 = (m 4 45 0) := Eq.trans (hJ656.eq rfl rfl) wt653
          have wt663 : m655 4 45 1615 = (m 4 45 1615) := Eq.trans (hJ656.eq rfl rfl) wt654
          clear wt650 wt651 wt652 wt653 wt654
          show X (EE s) d 277 72 [(0, zr 4 44), (1, zi a1)] [] m655 _
          refine X.iconst 73 i277_72 rfl rfl (by decide) ?_
          refine X.retz i277_73 rfl t277 (by omega) ?_
          exact hQ 1 m655 (by first | trivial | omega) (hJ658.up (by omega)) (by first | exact (.inl ⟨by omega, by omega, by omega, by omega, by omega⟩) | exact (.inr (.inl ⟨by omega, by omega, by omega, by omega, by omega, by omega, by omega⟩)) | exact (.inr (.inr (.inl ⟨by omega, by omega, by omega, by omega, by omega, by omega, by omega, by omega⟩))) | exact (.inr (.inr (.inr ⟨by omega, by omega, by omega, by omega, by omega, by omega, by omega, by omega⟩))))
      · have h587c : ((m 4 45 1617) - (m 4 45 0)) > 0 := by omega
        clear h587 hz586
        refine X.cut [] i277_22 rfl ?_
        refine X.iconst 23 i277_22 rfl rfl (by decide) ?_
        refine X.retz i277_23 rfl t277 (by omega) ?_
        exact hQ 0 m (by first | trivial | omega) (hJ.up (by omega)) (by first | exact (.inl ⟨by omega, by omega, by omega, by omega, by omega⟩) | exact (.inr (.inl ⟨by omega, by omega, by omega, by omega, by omega, by omega, by omega⟩)) | exact (.inr (.inr (.inl ⟨by omega, by omega, by omega, by omega, by omega, by omega, by omega, by omega⟩))) | exact (.inr (.inr (.inr ⟨by omega, by omega, by omega, by omega, by omega, by omega, by omega, by omega⟩))))
-- WorkMeter.season
theorem c122_1 {s : Nat × (Nat → Int32)} {S : zS} {m0 m : zM} {B : Int} {d : Nat} {Q : Option zV → zM → Prop} (a1 a2 : Int) (hd : 13 ≤ d) (hJ : J S m0 B m) (hB : B + 0 ≤ 1000000000) (ha1 : (-2147483648) ≤ a1 ∧ a1 ≤ 2147483647) (ha2 : (-2147483648) ≤ a2 ∧ a2 ≤ 2147483647) (hQ : ∀ (v : Int) m', (0 ≤ v ∧ v ≤ 1) → J S m0 (B) m' → ((v = 1 ∧ m 0 39 0 = 0 ∧ 0 ≤ a1 ∧ a1 ≤ 3 ∧ -1 ≤ a2 ∧ a2 ≤ 364 ∧ ¬ (a1 = 0 ∧ a2 = -1)) ∨ (v = 0 ∧ ¬ (m 0 39 0 = 0 ∧ 0 ≤ a1 ∧ a1 ≤ 3 ∧ -1 ≤ a2 ∧ a2 ≤ 364 ∧ ¬ (a1 = 0 ∧ a2 = -1)))) → Q (some (zi v)) m') : X (EE s) d 122 0 [(0, zr 4 40), (1, zi a1), (2, zi a2)] [] m Q := by
  refine X.aload_n 1 i122_0 rfl rfl rfl ?_
  refine X.getF 4 i122_1 rfl rfl (by decide) rfl rfl ?_
  refine X.getR 7 i122_4 rfl rfl (by decide) rfl rfl ?_
  refine X.callv 10 [] [] [(0, zr 0 39)] i122_7 rfl (by decide) rfl rfl (by omega) rfl rfl (by decide) rfl t17 (Nat.le_of_ble_eq_true rfl) (Nat.le_of_ble_eq_true rfl) rfl ?_
  refine X.aload_n 1 i17_0 rfl rfl rfl ?_
  refine X.getZ 4 0 i17_1 rfl rfl (by decide) rfl rfl rfl (fun h501 => ?_)
  refine X.ifeq 17 7 i17_4 rfl rfl rfl (fun h502 => ?_) (fun h502 => ?_)
  · refine X.aload_n 18 i17_17 rfl rfl rfl ?_
    refine X.getZ 21 0 i17_18 rfl rfl (by decide) rfl rfl rfl (fun h503 => ?_)
    refine X.retz i17_21 rfl t17 (by omega) ?_
    show X (EE s) d 122 10 [(0, zr 4 40), (1, zi a1), (2, zi a2)] [zi (m 0 39 0)] m _
    refine X.ifne 32 13 i122_10 rfl rfl rfl (fun h504 => ?_) (fun h504 => ?_)
    · refine X.cut [] i122_32 rfl ?_
      refine X.iconst 33 i122_32 rfl rfl (by decide) ?_
      refine X.retz i122_33 rfl t122 (by omega) ?_
      exact hQ 0 m (by first | trivial | omega) (hJ.up (by omega)) (by first | exact (.inl ⟨by omega, by omega, by omega, by omega, by omega, by omega, by omega⟩) | exact (.inr ⟨by omega, by omega⟩))
    · refine X.iload_n 14 i122_13 rfl rfl rfl ?_
      refine X.calls 17 [zi a1] [] [(0, zi a1)] i122_14 (by decide) rfl rfl (by omega) rfl rfl t123 (Nat.le_of_ble_eq_true rfl) (Nat.le_of_ble_eq_true rfl) rfl ?_
      refine X.iload_n 1 i123_0 rfl rfl rfl ?_
      refine X.iflt 13 4 i123_1 rfl rfl rfl (fun h505 => ?_) (fun h505 => ?_)
      · refine X.cut [] i123_13 rfl ?_
        refine X.iconst 14 i123_13 rfl rfl (by decide) ?_
        refine X.retz i123_14 rfl t123 (by omega) ?_
        show X (EE s) d 122 17 [(0, zr 4 40), (1, zi a1), (2, zi a2)] [zi 0] m _
        refine X.ifeq 32 20 i122_17 rfl rfl rfl (fun h506 => ?_) (fun h506 => (by exfalso; omega))
        refine X.cut [] i122_32 rfl ?_
        refine X.iconst 33 i122_32 rfl rfl (by decide) ?_
        refine X.retz i122_33 rfl t122 (by omega) ?_
        exact hQ 0 m (by first | trivial | omega) (hJ.up (by omega)) (by first | exact (.inl ⟨by omega, by omega, by omega, by omega, by omega, by omega, by omega⟩) | exact (.inr ⟨by omega, by omega⟩))
      · refine X.iload_n 5 i123_4 rfl rfl rfl ?_
        refine X.iconst 6 i123_5 rfl rfl (by decide) ?_
        refine X.icmpge 13 9 i123_6 rfl rfl rfl (fun h507 => ?_) (fun h507 => ?_)
        · refine X.cut [] i123_13 rfl ?_
          refine X.iconst 14 i123_13 rfl rfl (by decide) ?_
          refine X.retz i123_14 rfl t123 (by omega) ?_
          show X (EE s) d 122 17 [(0, zr 4 40), (1, zi a1), (2, zi a2)] [zi 0] m _
          refine X.ifeq 32 20 i122_17 rfl rfl rfl (fun h508 => ?_) (fun h508 => (by exfalso; omega))
          refine X.cut [] i122_32 rfl ?_
          refine X.iconst 33 i122_32 rfl rfl (by decide) ?_
          refine X.retz i122_33 rfl t122 (by omega) ?_
          exact hQ 0 m (by first | trivial | omega) (hJ.up (by omega)) (by first | exact (.inl ⟨by omega, by omega, by omega, by omega, by omega, by omega, by omega⟩) | exact (.inr ⟨by omega, by omega⟩))
        · refine X.iconst 10 i123_9 rfl rfl (by decide) ?_
          refine X.goto 14 i123_10 rfl rfl ?_
          refine X.cut [] i123_14 rfl ?_
          refine X.retz i123_14 rfl t123 (by omega) ?_
          show X (EE s) d 122 17 [(0, zr 4 40), (1, zi a1), (2, zi a2)] [zi 1] m _
          refine X.ifeq 32 20 i122_17 rfl rfl rfl (fun h509 => (by exfalso; omega)) (fun h509 => ?_)
          refine X.iload_n 21 i122_20 rfl rfl rfl ?_
          refine X.iconst 22 i122_21 rfl rfl (by decide) ?_
          refine X.icmplt 32 25 i122_22 rfl rfl rfl (fun h510 => ?_) (fun h510 => ?_)
          · refine X.cut [] i122_32 rfl ?_
            refine X.iconst 33 i122_32 rfl rfl (by decide) ?_
            refine X.retz i122_33 rfl t122 (by omega) ?_
            exact hQ 0 m (by first | trivial | omega) (hJ.up (by omega)) (by first | exact (.inl ⟨by omega, by omega, by omega, by omega, by omega, by omega, by omega⟩) | exact (.inr ⟨by omega, by omega⟩))
          · refine X.iload_n 26 i122_25 rfl rfl rfl ?_
            refine X.sipush 29 i122_26 rfl rfl (by decide) ?_
            refine X.icmplt 34 32 i122_29 rfl rfl rfl (fun h511 => ?_) (fun h511 => ?_)
            · refine X.iload_n 35 i122_34 rfl rfl rfl ?_
              refine X.ifne 45 38 i122_35 rfl rfl rfl (fun h512 => ?_) (fun h512 => ?_)
              · refine X.aload_n 46 i122_45 rfl rfl rfl ?_
                refine X.getF 49 i122_46 rfl rfl (by decide) rfl rfl ?_
                refine X.getR 52 i122_49 rfl rfl (by decide) rfl rfl ?_
                refine X.getR 55 i122_52 rfl rfl (by decide) rfl rfl ?_
                refine X.iload_n 56 i122_55 rfl rfl rfl ?_
                refine X.iload_n 57 i122_56 rfl rfl rfl ?_
                refine X.iast' 58 i122_57 rfl rfl (by decide) rfl (by omega) (fun hrm513 m513 hm513 => ?_)
                have hJ514 := w15_0 hJ hm513 (by omega) (by omega)
                have wt515 : m513 0 39 0 = (m 0 39 0) := by rw [hm513]; exact z_upd_o _ _ rfl
                refine X.iconst 59 i122_58 rfl rfl (by decide) ?_
                refine X.retz i122_59 rfl t122 (by omega) ?_
                exact hQ 1 m513 (by first | trivial | omega) (hJ514.up (by omega)) (by first | exact (.inl ⟨by omega, by omega, by omega, by omega, by omega, by omega, by omega⟩) | exact (.inr ⟨by omega, by omega⟩))
              · refine X.iload_n 39 i122_38 rfl rfl rfl ?_
                refine X.iconst 40 i122_39 rfl rfl (by decide) ?_
                refine X.icmpne 45 43 i122_40 rfl rfl rfl (fun h516 => ?_) (fun h516 => ?_)
                · refine X.aload_n 46 i122_45 rfl rfl rfl ?_
                  refine X.getF 49 i122_46 rfl rfl (by decide) rfl rfl ?_
                  refine X.getR 52 i122_49 rfl rfl (by decide) rfl rfl ?_
                  refine X.getR 55 i122_52 rfl rfl (by decide) rfl rfl ?_
                  refine X.iload_n 56 i122_55 rfl rfl rfl ?_
                  refine X.iload_n 57 i122_56 rfl rfl rfl ?_
                  refine X.iast' 58 i122_57 rfl rfl (by decide) rfl (by omega) (fun hrm517 m517 hm517 => ?_)
                  have hJ518 := w15_0 hJ hm517 (by omega) (by omega)
                  have wt519 : m517 0 39 0 = (m 0 39 0) := by rw [hm517]; exact z_upd_o _ _ rfl
                  refine X.iconst 59 i122_58 rfl rfl (by decide) ?_
                  refine X.retz i122_59 rfl t122 (by omega) ?_
                  exact hQ 1 m517 (by first | trivial | omega) (hJ518.up (by omega)) (by first | exact (.inl ⟨by omega, by omega, by omega, by omega, by omega, by omega, by omega⟩) | exact (.inr ⟨by omega, by omega⟩))
                · refine X.iconst 44 i122_43 rfl rfl (by decide) ?_
                  refine X.retz i122_44 rfl t122 (by omega) ?_
                  exact hQ 0 m (by first | trivial | omega) (hJ.up (by omega)) (by first | exact (.inl ⟨by omega, by omega, by omega, by omega, by omega, by omega, by omega⟩) | exact (.inr ⟨by omega, by omega⟩))
            · refine X.cut [] i122_32 rfl ?_
              refine X.iconst 33 i122_32 rfl rfl (by decide) ?_
              refine X.retz i122_33 rfl t122 (by omega) ?_
              exact hQ 0 m (by first | trivial | omega) (hJ.up (by omega)) (by first | exact (.inl ⟨by omega, by omega, by omega, by omega, by omega, by omega, by omega⟩) | exact (.inr ⟨by omega, by omega⟩))
  · refine X.aload_n 8 i17_7 rfl rfl rfl ?_
    refine X.dup 9 i17_8 rfl rfl rfl ?_
    refine X.getIr 12 3 i17_9 rfl rfl (by decide) rfl rfl rfl (fun h520 => ?_)
    refine X.iconst 13 i17_12 rfl rfl (by decide) ?_
    refine X.iiF 14 .iadd (fun x y => x + y) i17_13 rfl rfl rfl (fun _ _ => rfl) (fun z521 hz521 => ?_)
    refine X.putI' 17 3 i17_14 rfl rfl (by decide) rfl rfl rfl (fun hrm522 m522 hm522 => ?_)
    have hJ523 := w39_3 hJ hm522 hrm522
    have wt524 : m522 0 39 0 = (m 0 39 0) := by rw [hm522]; exact z_upd_o _ _ rfl
    refine X.aload_n 18 i17_17 rfl rfl rfl ?_
    refine X.getZ 21 0 i17_18 rfl rfl (by decide) rfl rfl rfl (fun h525 => ?_)
    refine X.retz i17_21 rfl t17 (by omega) ?_
    show X (EE s) d 122 10 [(0, zr 4 40), (1, zi a1), (2, zi a2)] [zi (m522 0 39 0)] m522 _
    refine X.ifne 32 13 i122_10 rfl rfl rfl (fun h526 => ?_) (fun h526 => ?_)
    · refine X.cut [] i122_32 rfl ?_
      refine X.iconst 33 i122_32 rfl rfl (by decide) ?_
      refine X.retz i122_33 rfl t122 (by omega) ?_
      exact hQ 0 m522 (by first | trivial | omega) (hJ523.up (by omega)) (by first | exact (.inl ⟨by omega, by omega, by omega, by omega, by omega, by omega, by omega⟩) | exact (.inr ⟨by omega, by omega⟩))
    · refine X.iload_n 14 i122_13 rfl rfl rfl ?_
      refine X.calls 17 [zi a1] [] [(0, zi a1)] i122_14 (by decide) rfl rfl (by omega) rfl rfl t123 (Nat.le_of_ble_eq_true rfl) (Nat.le_of_ble_eq_true rfl) rfl ?_
      refine X.iload_n 1 i123_0 rfl rfl rfl ?_
      refine X.iflt 13 4 i123_1 rfl rfl rfl (fun h527 => ?_) (fun h527 => ?_)
      · refine X.cut [] i123_13 rfl ?_
        refine X.iconst 14 i123_13 rfl rfl (by decide) ?_
        refine X.retz i123_14 rfl t123 (by omega) ?_
        show X (EE s) d 122 17 [(0, zr 4 40), (1, zi a1), (2, zi a2)] [zi 0] m522 _
        refine X.ifeq 32 20 i122_17 rfl rfl rfl (fun h528 => ?_) (fun h528 => (by exfalso; omega))
        refine X.cut [] i122_32 rfl ?_
        refine X.iconst 33 i122_32 rfl rfl (by decide) ?_
        refine X.retz i122_33 rfl t122 (by omega) ?_
        exact hQ 0 m522 (by first | trivial | omega) (hJ523.up (by omega)) (by first | exact (.inl ⟨by omega, by omega, by omega, by omega, by omega, by omega, by omega⟩) | exact (.inr ⟨by omega, by omega⟩))
      · refine X.iload_n 5 i123_4 rfl rfl rfl ?_
        refine X.iconst 6 i123_5 rfl rfl (by decide) ?_
        refine X.icmpge 13 9 i123_6 rfl rfl rfl (fun h529 => ?_) (fun h529 => ?_)
        · refine X.cut [] i123_13 rfl ?_
          refine X.iconst 14 i123_13 rfl rfl (by decide) ?_
          refine X.retz i123_14 rfl t123 (by omega) ?_
          show X (EE s) d 122 17 [(0, zr 4 40), (1, zi a1), (2, zi a2)] [zi 0] m522 _
          refine X.ifeq 32 20 i122_17 rfl rfl rfl (fun h530 => ?_) (fun h530 => (by exfalso; omega))
          refine X.cut [] i122_32 rfl ?_
          refine X.iconst 33 i122_32 rfl rfl (by decide) ?_
          refine X.retz i122_33 rfl t122 (by omega) ?_
          exact hQ 0 m522 (by first | trivial | omega) (hJ523.up (by omega)) (by first | exact (.inl ⟨by omega, by omega, by omega, by omega, by omega, by omega, by omega⟩) | exact (.inr ⟨by omega, by omega⟩))
        · refine X.iconst 10 i123_9 rfl rfl (by decide) ?_
          refine X.goto 14 i123_10 rfl rfl ?_
          refine X.cut [] i123_14 rfl ?_
          refine X.retz i123_14 rfl t123 (by omega) ?_
          show X (EE s) d 122 17 [(0, zr 4 40), (1, zi a1), (2, zi a2)] [zi 1] m522 _
          refine X.ifeq 32 20 i122_17 rfl rfl rfl (fun h531 => (by exfalso; omega)) (fun h531 => ?_)
          refine X.iload_n 21 i122_20 rfl rfl rfl ?_
          refine X.iconst 22 i122_21 rfl rfl (by decide) ?_
          refine X.icmplt 32 25 i122_22 rfl rfl rfl (fun h532 => ?_) (fun h532 => ?_)
          · refine X.cut [] i122_32 rfl ?_
            refine X.iconst 33 i122_32 rfl rfl (by decide) ?_
            refine X.retz i122_33 rfl t122 (by omega) ?_
            exact hQ 0 m522 (by first | trivial | omega) (hJ523.up (by omega)) (by first | exact (.inl ⟨by omega, by omega, by omega, by omega, by omega, by omega, by omega⟩) | exact (.inr ⟨by omega, by omega⟩))
          · refine X.iload_n 26 i122_25 rfl rfl rfl ?_
            refine X.sipush 29 i122_26 rfl rfl (by decide) ?_
            refine X.icmplt 34 32 i122_29 rfl rfl rfl (fun h533 => ?_) (fun h533 => ?_)
            · refine X.iload_n 35 i122_34 rfl rfl rfl ?_
              refine X.ifne 45 38 i122_35 rfl rfl rfl (fun h534 => ?_) (fun h534 => ?_)
              · refine X.aload_n 46 i122_45 rfl rfl rfl ?_
                refine X.getF 49 i122_46 rfl rfl (by decide) rfl rfl ?_
                refine X.getR 52 i122_49 rfl rfl (by decide) rfl rfl ?_
                refine X.getR 55 i122_52 rfl rfl (by decide) rfl rfl ?_
                refine X.iload_n 56 i122_55 rfl rfl rfl ?_
                refine X.iload_n 57 i122_56 rfl rfl rfl ?_
                refine X.iast' 58 i122_57 rfl rfl (by decide) rfl (by omega) (fun hrm535 m535 hm535 => ?_)
                have hJ536 := w15_0 hJ523 hm535 (by omega) (by omega)
                have wt537 : m535 0 39 0 = (m 0 39 0) := Eq.trans (by rw [hm535]; exact z_upd_o _ _ rfl) wt524
                refine X.iconst 59 i122_58 rfl rfl (by decide) ?_
                refine X.retz i122_59 rfl t122 (by omega) ?_
                exact hQ 1 m535 (by first | trivial | omega) (hJ536.up (by omega)) (by first | exact (.inl ⟨by omega, by omega, by omega, by omega, by omega, by omega, by omega⟩) | exact (.inr ⟨by omega, by omega⟩))
              · refine X.iload_n 39 i122_38 rfl rfl rfl ?_
                refine X.iconst 40 i122_39 rfl rfl (by decide) ?_
                refine X.icmpne 45 43 i122_40 rfl rfl rfl (fun h538 => ?_) (fun h538 => ?_)
                · refine X.aload_n 46 i122_45 rfl rfl rfl ?_
                  refine X.getF 49 i122_46 rfl rfl (by decide) rfl rfl ?_
                  refine X.getR 52 i122_49 rfl rfl (by decide) rfl rfl ?_
                  refine X.getR 55 i122_52 rfl rfl (by decide) rfl rfl ?_
                  refine X.iload_n 56 i122_55 rfl rfl rfl ?_
                  refine X.iload_n 57 i122_56 rfl rfl rfl ?_
                  refine X.iast' 58 i122_57 rfl rfl (by decide) rfl (by omega) (fun hrm539 m539 hm539 => ?_)
                  have hJ540 := w15_0 hJ523 hm539 (by omega) (by omega)
                  have wt541 : m539 0 39 0 = (m 0 39 0) := Eq.trans (by rw [hm539]; exact z_upd_o _ _ rfl) wt524
                  refine X.iconst 59 i122_58 rfl rfl (by decide) ?_
                  refine X.retz i122_59 rfl t122 (by omega) ?_
                  exact hQ 1 m539 (by first | trivial | omega) (hJ540.up (by omega)) (by first | exact (.inl ⟨by omega, by omega, by omega, by omega, by omega, by omega, by omega⟩) | exact (.inr ⟨by omega, by omega⟩))
                · refine X.iconst 44 i122_43 rfl rfl (by decide) ?_
                  refine X.retz i122_44 rfl t122 (by omega) ?_
                  exact hQ 0 m522 (by first | trivial | omega) (hJ523.up (by omega)) (by first | exact (.inl ⟨by omega, by omega, by omega, by omega, by omega, by omega, by omega⟩) | exact (.inr ⟨by omega, by omega⟩))
            · refine X.cut [] i122_32 rfl ?_
              refine X.iconst 33 i122_32 rfl rfl (by decide) ?_
              refine X.retz i122_33 rfl t122 (by omega) ?_
              exact hQ 0 m522 (by first | trivial | omega) (hJ523.up (by omega)) (by first | exact (.inl ⟨by omega, by omega, by omega, by omega, by omega, by omega, by omega⟩) | exact (.inr ⟨by omega, by omega⟩))
-- WorkMeterModel.season
theorem c245_1 {s : Nat × (Nat → Int32)} {S : zS} {m0 m : zM} {B : Int} {d : Nat} {Q : Option zV → zM → Prop} (a1 a2 : Int) (hd : 13 ≤ d) (hJ : J S m0 B m) (hB : B + 0 ≤ 1000000000) (ha1 : (-2147483648) ≤ a1 ∧ a1 ≤ 2147483647) (ha2 : (-2147483648) ≤ a2 ∧ a2 ≤ 2147483647) (hQ : ∀ (v : Int) m', (0 ≤ v ∧ v ≤ 1) → J S m0 (B) m' → ((v = 1 ∧ m 4 45 1614 = 0 ∧ 0 ≤ a1 ∧ a1 ≤ 3 ∧ -1 ≤ a2 ∧ a2 ≤ 364 ∧ ¬ (a1 = 0 ∧ a2 = -1)) ∨ (v = 0 ∧ ¬ (m 4 45 1614 = 0 ∧ 0 ≤ a1 ∧ a1 ≤ 3 ∧ -1 ≤ a2 ∧ a2 ≤ 364 ∧ ¬ (a1 = 0 ∧ a2 = -1)))) → Q (some (zi v)) m') : X (EE s) d 245 0 [(0, zr 4 44), (1, zi a1), (2, zi a2)] [] m Q := by
  refine X.aload_n 1 i245_0 rfl rfl rfl ?_
  refine X.callv 4 [] [] [(0, zr 4 44)] i245_1 rfl (by decide) rfl rfl (by omega) rfl rfl (by decide) rfl t203 (Nat.le_of_ble_eq_true rfl) (Nat.le_of_ble_eq_true rfl) rfl ?_
  refine X.aload_n 1 i203_0 rfl rfl rfl ?_
  refine X.getF 4 i203_1 rfl rfl (by decide) rfl rfl ?_
  refine X.sipush 7 i203_4 rfl rfl (by decide) ?_
  refine X.dup2 8 i203_7 rfl rfl ?_
  refine X.lald 9 i203_8 rfl rfl (by decide) rfl (by omega) ?_
  refine X.aload_n 10 i203_9 rfl rfl rfl ?_
  refine X.getF 13 i203_10 rfl rfl (by decide) rfl rfl ?_
  refine X.sipush 16 i203_13 rfl rfl (by decide) ?_
  refine X.lald 17 i203_16 rfl rfl (by decide) rfl (by omega) ?_
  have h501 := r45_1614 hJ 4
  refine X.llF 18 .ladd (fun x y => x + y) i203_17 rfl rfl rfl (fun _ _ => rfl) (fun z502 hz502 => ?_)
  refine X.last' 19 i203_18 rfl rfl (by decide) rfl (by omega) (fun hrm503 m503 hm503 => ?_)
  have hJ504 := w45_1618 hJ hm503 hrm503
  have wt505 : m503 4 45 1614 = (m 4 45 1614) := by rw [hm503]; exact z_upd_o _ _ rfl
  refine X.aload_n 20 i203_19 rfl rfl rfl ?_
  refine X.getF 23 i203_20 rfl rfl (by decide) rfl rfl ?_
  refine X.sipush 26 i203_23 rfl rfl (by decide) ?_
  refine X.lald 27 i203_26 rfl rfl (by decide) rfl (by omega) ?_
  have h506 := r45_1614 hJ504 4
  refine X.lconst (y := 1) 28 i203_27 rfl rfl rfl ?_
  refine X.lcmp 29 i203_28 rfl rfl (fun z507 hz507 => ?_)
  refine X.ifne 36 32 i203_29 rfl rfl rfl (fun h508 => ?_) (fun h508 => ?_)
  · have h508c : (m503 4 45 1614) ≠ 1 := by omega
    clear h508 hz507
    refine X.cut [] i203_36 rfl ?_
    refine X.iconst 37 i203_36 rfl rfl (by decide) ?_
    refine X.retz i203_37 rfl t203 (by omega) ?_
    show X (EE s) d 245 4 [(0, zr 4 44), (1, zi a1), (2, zi a2)] [zi 0] m503 _
    refine X.ifne 36 7 i245_4 rfl rfl rfl (fun h509 => (by exfalso; omega)) (fun h509 => ?_)
    refine X.iload_n 8 i245_7 rfl rfl rfl ?_
    refine X.calls 11 [zi a1] [] [(0, zi a1)] i245_8 (by decide) rfl rfl (by omega) rfl rfl t246 (Nat.le_of_ble_eq_true rfl) (Nat.le_of_ble_eq_true rfl) rfl ?_
    refine X.iload_n 1 i246_0 rfl rfl rfl ?_
    refine X.i2l 2 i246_1 rfl rfl ?_
    refine X.lconst (y := 0) 3 i246_2 rfl rfl rfl ?_
    refine X.ldc2 6 i246_3 rfl rfl (by decide) ?_
    refine X.calls 9 [zl a1, zl 0, zl 3] [] [(0, zl a1), (2, zl 0), (4, zl 3)] i246_6 (by decide) rfl rfl (by omega) rfl rfl t204 (Nat.le_of_ble_eq_true rfl) (Nat.le_of_ble_eq_true rfl) rfl ?_
    refine X.lload_n 1 i204_0 rfl rfl rfl ?_
    refine X.lload_n 2 i204_1 rfl rfl rfl ?_
    refine X.lcmp 3 i204_2 rfl rfl (fun z510 hz510 => ?_)
    refine X.iflt 17 6 i204_3 rfl rfl rfl (fun h511 => ?_) (fun h511 => ?_)
    · have h511c : a1 < 0 := by omega
      clear h511 hz510
      refine X.cut [] i204_17 rfl ?_
      refine X.iconst 18 i204_17 rfl rfl (by decide) ?_
      refine X.retz i204_18 rfl t204 (by omega) ?_
      show X (EE s) (d - 1) 246 9 [(0, zi a1)] [zi 0] m503 _
      refine X.retz i246_9 rfl t246 (by omega) ?_
      show X (EE s) d 245 11 [(0, zr 4 44), (1, zi a1), (2, zi a2)] [zi 0] m503 _
      refine X.ifeq 36 14 i245_11 rfl rfl rfl (fun h512 => ?_) (fun h512 => (by exfalso; omega))
      refine X.cut [] i245_36 rfl ?_
      refine X.iconst 37 i245_36 rfl rfl (by decide) ?_
      refine X.retz i245_37 rfl t245 (by omega) ?_
      exact hQ 0 m503 (by first | trivial | omega) (hJ504.up (by omega)) (by first | exact (.inl ⟨by omega, by omega, by omega, by omega, by omega, by omega, by omega⟩) | exact (.inr ⟨by omega, by omega⟩))
    · have h511c : a1 ≥ 0 := by omega
      clear h511 hz510
      refine X.lload_n 7 i204_6 rfl rfl rfl ?_
      refine X.lload 9 i204_7 rfl rfl rfl ?_
      refine X.lcmp 10 i204_9 rfl rfl (fun z513 hz513 => ?_)
      refine X.ifgt 17 13 i204_10 rfl rfl rfl (fun h514 => ?_) (fun h514 => ?_)
      · have h514c : a1 > 3 := by omega
        clear h514 hz513
        refine X.cut [] i204_17 rfl ?_
        refine X.iconst 18 i204_17 rfl rfl (by decide) ?_
        refine X.retz i204_18 rfl t204 (by omega) ?_
        show X (EE s) (d - 1) 246 9 [(0, zi a1)] [zi 0] m503 _
        refine X.retz i246_9 rfl t246 (by omega) ?_
        show X (EE s) d 245 11 [(0, zr 4 44), (1, zi a1), (2, zi a2)] [zi 0] m503 _
        refine X.ifeq 36 14 i245_11 rfl rfl rfl (fun h515 => ?_) (fun h515 => (by exfalso; omega))
        refine X.cut [] i245_36 rfl ?_
        refine X.iconst 37 i245_36 rfl rfl (by decide) ?_
        refine X.retz i245_37 rfl t245 (by omega) ?_
        exact hQ 0 m503 (by first | trivial | omega) (hJ504.up (by omega)) (by first | exact (.inl ⟨by omega, by omega, by omega, by omega, by omega, by omega, by omega⟩) | exact (.inr ⟨by omega, by omega⟩))
      · have h514c : a1 ≤ 3 := by omega
        clear h514 hz513
        refine X.iconst 14 i204_13 rfl rfl (by decide) ?_
        refine X.goto 18 i204_14 rfl rfl ?_
        refine X.cut [] i204_18 rfl ?_
        refine X.retz i204_18 rfl t204 (by omega) ?_
        show X (EE s) (d - 1) 246 9 [(0, zi a1)] [zi 1] m503 _
        refine X.retz i246_9 rfl t246 (by omega) ?_
        show X (EE s) d 245 11 [(0, zr 4 44), (1, zi a1), (2, zi a2)] [zi 1] m503 _
        refine X.ifeq 36 14 i245_11 rfl rfl rfl (fun h516 => (by exfalso; omega)) (fun h516 => ?_)
        refine X.iload_n 15 i245_14 rfl rfl rfl ?_
        refine X.i2l 16 i245_15 rfl rfl ?_
        refine X.iload_n 17 i245_16 rfl rfl rfl ?_
        refine X.ifne 24 20 i245_17 rfl rfl rfl (fun h517 => ?_) (fun h517 => ?_)
        · refine X.ldc2 27 i245_24 rfl rfl (by decide) ?_
          refine X.ldc2 30 i245_27 rfl rfl (by decide) ?_
          refine X.calls 33 [zl a2, zl (-1), zl 364] [] [(0, zl a2), (2, zl (-1)), (4, zl 364)] i245_30 (by decide) rfl rfl (by omega) rfl rfl t204 (Nat.le_of_ble_eq_true rfl) (Nat.le_of_ble_eq_true rfl) rfl ?_
          refine X.lload_n 1 i204_0 rfl rfl rfl ?_
          refine X.lload_n 2 i204_1 rfl rfl rfl ?_
          refine X.lcmp 3 i204_2 rfl rfl (fun z518 hz518 => ?_)
          refine X.iflt 17 6 i204_3 rfl rfl rfl (fun h519 => ?_) (fun h519 => ?_)
          · have h519c : a2 < (-1) := by omega
            clear h519 hz518
            refine X.cut [] i204_17 rfl ?_
            refine X.iconst 18 i204_17 rfl rfl (by decide) ?_
            refine X.retz i204_18 rfl t204 (by omega) ?_
            show X (EE s) d 245 33 [(0, zr 4 44), (1, zi a1), (2, zi a2)] [zi 0] m503 _
            refine X.ifne 38 36 i245_33 rfl rfl rfl (fun h520 => (by exfalso; omega)) (fun h520 => ?_)
            refine X.cut [] i245_36 rfl ?_
            refine X.iconst 37 i245_36 rfl rfl (by decide) ?_
            refine X.retz i245_37 rfl t245 (by omega) ?_
            exact hQ 0 m503 (by first | trivial | omega) (hJ504.up (by omega)) (by first | exact (.inl ⟨by omega, by omega, by omega, by omega, by omega, by omega, by omega⟩) | exact (.inr ⟨by omega, by omega⟩))
          · have h519c : a2 ≥ (-1) := by omega
            clear h519 hz518
            refine X.lload_n 7 i204_6 rfl rfl rfl ?_
            refine X.lload 9 i204_7 rfl rfl rfl ?_
            refine X.lcmp 10 i204_9 rfl rfl (fun z521 hz521 => ?_)
            refine X.ifgt 17 13 i204_10 rfl rfl rfl (fun h522 => ?_) (fun h522 => ?_)
            · have h522c : a2 > 364 := by omega
              clear h522 hz521
              refine X.cut [] i204_17 rfl ?_
              refine X.iconst 18 i204_17 rfl rfl (by decide) ?_
              refine X.retz i204_18 rfl t204 (by omega) ?_
              show X (EE s) d 245 33 [(0, zr 4 44), (1, zi a1), (2, zi a2)] [zi 0] m503 _
              refine X.ifne 38 36 i245_33 rfl rfl rfl (fun h523 => (by exfalso; omega)) (fun h523 => ?_)
              refine X.cut [] i245_36 rfl ?_
              refine X.iconst 37 i245_36 rfl rfl (by decide) ?_
              refine X.retz i245_37 rfl t245 (by omega) ?_
              exact hQ 0 m503 (by first | trivial | omega) (hJ504.up (by omega)) (by first | exact (.inl ⟨by omega, by omega, by omega, by omega, by omega, by omega, by omega⟩) | exact (.inr ⟨by omega, by omega⟩))
            · have h522c : a2 ≤ 364 := by omega
              clear h522 hz521
              refine X.iconst 14 i204_13 rfl rfl (by decide) ?_
              refine X.goto 18 i204_14 rfl rfl ?_
              refine X.cut [] i204_18 rfl ?_
              refine X.retz i204_18 rfl t204 (by omega) ?_
              show X (EE s) d 245 33 [(0, zr 4 44), (1, zi a1), (2, zi a2)] [zi 1] m503 _
              refine X.ifne 38 36 i245_33 rfl rfl rfl (fun h524 => ?_) (fun h524 => (by exfalso; omega))
              refine X.aload_n 39 i245_38 rfl rfl rfl ?_
              refine X.getF 42 i245_39 rfl rfl (by decide) rfl rfl ?_
              refine X.sipush 45 i245_42 rfl rfl (by decide) ?_
              refine X.iload_n 46 i245_45 rfl rfl rfl ?_
              refine X.iadd 47 i245_46 rfl rfl (by omega) ?_
              refine X.iload_n 48 i245_47 rfl rfl rfl ?_
              refine X.i2l 49 i245_48 rfl rfl ?_
              refine X.last' 50 i245_49 rfl rfl (by decide) rfl (by omega) (fun hrm525 m525 hm525 => ?_)
              have hJ526 := w45_391 hJ504 hm525 (by omega) (by omega)
              have wt527 : m525 4 45 1614 = (m 4 45 1614) := Eq.trans (by rw [hm525]; exact z_upd_i _ _ _ _ (by omega)) wt505
              refine X.iconst 51 i245_50 rfl rfl (by decide) ?_
              refine X.retz i245_51 rfl t245 (by omega) ?_
              exact hQ 1 m525 (by first | trivial | omega) (hJ526.up (by omega)) (by first | exact (.inl ⟨by omega, by omega, by omega, by omega, by omega, by omega, by omega⟩) | exact (.inr ⟨by omega, by omega⟩))
        · refine X.lconst (y := 0) 21 i245_20 rfl rfl rfl ?_
          refine X.goto 27 i245_21 rfl rfl ?_
          refine X.ldc2 30 i245_27 rfl rfl (by decide) ?_
          refine X.calls 33 [zl a2, zl 0, zl 364] [] [(0, zl a2), (2, zl 0), (4, zl 364)] i245_30 (by decide) rfl rfl (by omega) rfl rfl t204 (Nat.le_of_ble_eq_true rfl) (Nat.le_of_ble_eq_true rfl) rfl ?_
          refine X.lload_n 1 i204_0 rfl rfl rfl ?_
          refine X.lload_n 2 i204_1 rfl rfl rfl ?_
          refine X.lcmp 3 i204_2 rfl rfl (fun z528 hz528 => ?_)
          refine X.iflt 17 6 i204_3 rfl rfl rfl (fun h529 => ?_) (fun h529 => ?_)
          · have h529c : a2 < 0 := by omega
            clear h529 hz528
            refine X.cut [] i204_17 rfl ?_
            refine X.iconst 18 i204_17 rfl rfl (by decide) ?_
            refine X.retz i204_18 rfl t204 (by omega) ?_
            show X (EE s) d 245 33 [(0, zr 4 44), (1, zi a1), (2, zi a2)] [zi 0] m503 _
            refine X.ifne 38 36 i245_33 rfl rfl rfl (fun h530 => (by exfalso; omega)) (fun h530 => ?_)
            refine X.cut [] i245_36 rfl ?_
            refine X.iconst 37 i245_36 rfl rfl (by decide) ?_
            refine X.retz i245_37 rfl t245 (by omega) ?_
            exact hQ 0 m503 (by first | trivial | omega) (hJ504.up (by omega)) (by first | exact (.inl ⟨by omega, by omega, by omega, by omega, by omega, by omega, by omega⟩) | exact (.inr ⟨by omega, by omega⟩))
          · have h529c : a2 ≥ 0 := by omega
            clear h529 hz528
            refine X.lload_n 7 i204_6 rfl rfl rfl ?_
            refine X.lload 9 i204_7 rfl rfl rfl ?_
            refine X.lcmp 10 i204_9 rfl rfl (fun z531 hz531 => ?_)
            refine X.ifgt 17 13 i204_10 rfl rfl rfl (fun h532 => ?_) (fun h532 => ?_)
            · have h532c : a2 > 364 := by omega
              clear h532 hz531
              refine X.cut [] i204_17 rfl ?_
              refine X.iconst 18 i204_17 rfl rfl (by decide) ?_
              refine X.retz i204_18 rfl t204 (by omega) ?_
              show X (EE s) d 245 33 [(0, zr 4 44), (1, zi a1), (2, zi a2)] [zi 0] m503 _
              refine X.ifne 38 36 i245_33 rfl rfl rfl (fun h533 => (by exfalso; omega)) (fun h533 => ?_)
              refine X.cut [] i245_36 rfl ?_
              refine X.iconst 37 i245_36 rfl rfl (by decide) ?_
              refine X.retz i245_37 rfl t245 (by omega) ?_
              exact hQ 0 m503 (by first | trivial | omega) (hJ504.up (by omega)) (by first | exact (.inl ⟨by omega, by omega, by omega, by omega, by omega, by omega, by omega⟩) | exact (.inr ⟨by omega, by omega⟩))
            · have h532c : a2 ≤ 364 := by omega
              clear h532 hz531
              refine X.iconst 14 i204_13 rfl rfl (by decide) ?_
              refine X.goto 18 i204_14 rfl rfl ?_
              refine X.cut [] i204_18 rfl ?_
              refine X.retz i204_18 rfl t204 (by omega) ?_
              show X (EE s) d 245 33 [(0, zr 4 44), (1, zi a1), (2, zi a2)] [zi 1] m503 _
              refine X.ifne 38 36 i245_33 rfl rfl rfl (fun h534 => ?_) (fun h534 => (by exfalso; omega))
              refine X.aload_n 39 i245_38 rfl rfl rfl ?_
              refine X.getF 42 i245_39 rfl rfl (by decide) rfl rfl ?_
              refine X.sipush 45 i245_42 rfl rfl (by decide) ?_
              refine X.iload_n 46 i245_45 rfl rfl rfl ?_
              refine X.iadd 47 i245_46 rfl rfl (by omega) ?_
              refine X.iload_n 48 i245_47 rfl rfl rfl ?_
              refine X.i2l 49 i245_48 rfl rfl ?_
              refine X.last' 50 i245_49 rfl rfl (by decide) rfl (by omega) (fun hrm535 m535 hm535 => ?_)
              have hJ536 := w45_391 hJ504 hm535 (by omega) (by omega)
              have wt537 : m535 4 45 1614 = (m 4 45 1614) := Eq.trans (by rw [hm535]; exact z_upd_i _ _ _ _ (by omega)) wt505
              refine X.iconst 51 i245_50 rfl rfl (by decide) ?_
              refine X.retz i245_51 rfl t245 (by omega) ?_
              exact hQ 1 m535 (by first | trivial | omega) (hJ536.up (by omega)) (by first | exact (.inl ⟨by omega, by omega, by omega, by omega, by omega, by omega, by omega⟩) | exact (.inr ⟨by omega, by omega⟩))
  · have h508c : (m503 4 45 1614) = 1 := by omega
    clear h508 hz507
    refine X.iconst 33 i203_32 rfl rfl (by decide) ?_
    refine X.goto 37 i203_33 rfl rfl ?_
    refine X.cut [] i203_37 rfl ?_
    refine X.retz i203_37 rfl t203 (by omega) ?_
    show X (EE s) d 245 4 [(0, zr 4 44), (1, zi a1), (2, zi a2)] [zi 1] m503 _
    refine X.ifne 36 7 i245_4 rfl rfl rfl (fun h538 => ?_) (fun h538 => (by exfalso; omega))
    refine X.cut [] i245_36 rfl ?_
    refine X.iconst 37 i245_36 rfl rfl (by decide) ?_
    refine X.retz i245_37 rfl t245 (by omega) ?_
    exact hQ 0 m503 (by first | trivial | omega) (hJ504.up (by omega)) (by first | exact (.inl ⟨by omega, by omega, by omega, by omega, by omega, by omega, by omega⟩) | exact (.inr ⟨by omega, by omega⟩))
-- WorkMeter.week
theorem c124_1 {s : Nat × (Nat → Int32)} {S : zS} {m0 m : zM} {B : Int} {d : Nat} {Q : Option zV → zM → Prop} (a1 a2 a3 : Int) (hd : 13 ≤ d) (hJ : J S m0 B m) (hB : B + 0 ≤ 1000000000) (ha1 : (-2147483648) ≤ a1 ∧ a1 ≤ 2147483647) (ha2 : (-2147483648) ≤ a2 ∧ a2 ≤ 2147483647) (ha3 : (-2147483648) ≤ a3 ∧ a3 ≤ 2147483647) (hQ : ∀ (v : Int) m', (0 ≤ v ∧ v ≤ 1) → J S m0 (B) m' → ((v = 1 ∧ m 0 39 0 = 0 ∧ 0 ≤ a1 ∧ a1 ≤ 3 ∧ 0 ≤ a2 ∧ a2 ≤ 6 ∧ 0 ≤ a3 ∧ a3 ≤ 7) ∨ (v = 0 ∧ ¬ (m 0 39 0 = 0 ∧ 0 ≤ a1 ∧ a1 ≤ 3 ∧ 0 ≤ a2 ∧ a2 ≤ 6 ∧ 0 ≤ a3 ∧ a3 ≤ 7))) → Q (some (zi v)) m') : X (EE s) d 124 0 [(0, zr 4 40), (1, zi a1), (2, zi a2), (3, zi a3)] [] m Q := by
  refine X.aload_n 1 i124_0 rfl rfl rfl ?_
  refine X.getF 4 i124_1 rfl rfl (by decide) rfl rfl ?_
  refine X.getR 7 i124_4 rfl rfl (by decide) rfl rfl ?_
  refine X.callv 10 [] [] [(0, zr 0 39)] i124_7 rfl (by decide) rfl rfl (by omega) rfl rfl (by decide) rfl t17 (Nat.le_of_ble_eq_true rfl) (Nat.le_of_ble_eq_true rfl) rfl ?_
  refine X.aload_n 1 i17_0 rfl rfl rfl ?_
  refine X.getZ 4 0 i17_1 rfl rfl (by decide) rfl rfl rfl (fun h501 => ?_)
  refine X.ifeq 17 7 i17_4 rfl rfl rfl (fun h502 => ?_) (fun h502 => ?_)
  · refine X.aload_n 18 i17_17 rfl rfl rfl ?_
    refine X.getZ 21 0 i17_18 rfl rfl (by decide) rfl rfl rfl (fun h503 => ?_)
    refine X.retz i17_21 rfl t17 (by omega) ?_
    show X (EE s) d 124 10 [(0, zr 4 40), (1, zi a1), (2, zi a2), (3, zi a3)] [zi (m 0 39 0)] m _
    refine X.ifne 27 13 i124_10 rfl rfl rfl (fun h504 => ?_) (fun h504 => ?_)
    · refine X.cut [] i124_27 rfl ?_
      refine X.iconst 28 i124_27 rfl rfl (by decide) ?_
      refine X.retz i124_28 rfl t124 (by omega) ?_
      exact hQ 0 m (by first | trivial | omega) (hJ.up (by omega)) (by first | exact (.inl ⟨by omega, by omega, by omega, by omega, by omega, by omega, by omega, by omega⟩) | exact (.inr ⟨by omega, by omega⟩))
    · refine X.iload_n 14 i124_13 rfl rfl rfl ?_
      refine X.calls 17 [zi a1] [] [(0, zi a1)] i124_14 (by decide) rfl rfl (by omega) rfl rfl t123 (Nat.le_of_ble_eq_true rfl) (Nat.le_of_ble_eq_true rfl) rfl ?_
      refine X.iload_n 1 i123_0 rfl rfl rfl ?_
      refine X.iflt 13 4 i123_1 rfl rfl rfl (fun h505 => ?_) (fun h505 => ?_)
      · refine X.cut [] i123_13 rfl ?_
        refine X.iconst 14 i123_13 rfl rfl (by decide) ?_
        refine X.retz i123_14 rfl t123 (by omega) ?_
        show X (EE s) d 124 17 [(0, zr 4 40), (1, zi a1), (2, zi a2), (3, zi a3)] [zi 0] m _
        refine X.ifeq 27 20 i124_17 rfl rfl rfl (fun h506 => ?_) (fun h506 => (by exfalso; omega))
        refine X.cut [] i124_27 rfl ?_
        refine X.iconst 28 i124_27 rfl rfl (by decide) ?_
        refine X.retz i124_28 rfl t124 (by omega) ?_
        exact hQ 0 m (by first | trivial | omega) (hJ.up (by omega)) (by first | exact (.inl ⟨by omega, by omega, by omega, by omega, by omega, by omega, by omega, by omega⟩) | exact (.inr ⟨by omega, by omega⟩))
      · refine X.iload_n 5 i123_4 rfl rfl rfl ?_
        refine X.iconst 6 i123_5 rfl rfl (by decide) ?_
        refine X.icmpge 13 9 i123_6 rfl rfl rfl (fun h507 => ?_) (fun h507 => ?_)
        · refine X.cut [] i123_13 rfl ?_
          refine X.iconst 14 i123_13 rfl rfl (by decide) ?_
          refine X.retz i123_14 rfl t123 (by omega) ?_
          show X (EE s) d 124 17 [(0, zr 4 40), (1, zi a1), (2, zi a2), (3, zi a3)] [zi 0] m _
          refine X.ifeq 27 20 i124_17 rfl rfl rfl (fun h508 => ?_) (fun h508 => (by exfalso; omega))
          refine X.cut [] i124_27 rfl ?_
          refine X.iconst 28 i124_27 rfl rfl (by decide) ?_
          refine X.retz i124_28 rfl t124 (by omega) ?_
          exact hQ 0 m (by first | trivial | omega) (hJ.up (by omega)) (by first | exact (.inl ⟨by omega, by omega, by omega, by omega, by omega, by omega, by omega, by omega⟩) | exact (.inr ⟨by omega, by omega⟩))
        · refine X.iconst 10 i123_9 rfl rfl (by decide) ?_
          refine X.goto 14 i123_10 rfl rfl ?_
          refine X.cut [] i123_14 rfl ?_
          refine X.retz i123_14 rfl t123 (by omega) ?_
          show X (EE s) d 124 17 [(0, zr 4 40), (1, zi a1), (2, zi a2), (3, zi a3)] [zi 1] m _
          refine X.ifeq 27 20 i124_17 rfl rfl rfl (fun h509 => (by exfalso; omega)) (fun h509 => ?_)
          refine X.iload_n 21 i124_20 rfl rfl rfl ?_
          refine X.calls 24 [zi a3] [] [(0, zi a3)] i124_21 (by decide) rfl rfl (by omega) rfl rfl t79 (Nat.le_of_ble_eq_true rfl) (Nat.le_of_ble_eq_true rfl) rfl ?_
          refine X.iload_n 1 i79_0 rfl rfl rfl ?_
          refine X.iflt 14 4 i79_1 rfl rfl rfl (fun h510 => ?_) (fun h510 => ?_)
          · refine X.cut [] i79_14 rfl ?_
            refine X.iconst 15 i79_14 rfl rfl (by decide) ?_
            refine X.retz i79_15 rfl t79 (by omega) ?_
            show X (EE s) d 124 24 [(0, zr 4 40), (1, zi a1), (2, zi a2), (3, zi a3)] [zi 0] m _
            refine X.ifne 29 27 i124_24 rfl rfl rfl (fun h511 => (by exfalso; omega)) (fun h511 => ?_)
            refine X.cut [] i124_27 rfl ?_
            refine X.iconst 28 i124_27 rfl rfl (by decide) ?_
            refine X.retz i124_28 rfl t124 (by omega) ?_
            exact hQ 0 m (by first | trivial | omega) (hJ.up (by omega)) (by first | exact (.inl ⟨by omega, by omega, by omega, by omega, by omega, by omega, by omega, by omega⟩) | exact (.inr ⟨by omega, by omega⟩))
          · refine X.iload_n 5 i79_4 rfl rfl rfl ?_
            refine X.bipush 7 i79_5 rfl rfl (by decide) ?_
            refine X.icmpge 14 10 i79_7 rfl rfl rfl (fun h512 => ?_) (fun h512 => ?_)
            · refine X.cut [] i79_14 rfl ?_
              refine X.iconst 15 i79_14 rfl rfl (by decide) ?_
              refine X.retz i79_15 rfl t79 (by omega) ?_
              show X (EE s) d 124 24 [(0, zr 4 40), (1, zi a1), (2, zi a2), (3, zi a3)] [zi 0] m _
              refine X.ifne 29 27 i124_24 rfl rfl rfl (fun h513 => (by exfalso; omega)) (fun h513 => ?_)
              refine X.cut [] i124_27 rfl ?_
              refine X.iconst 28 i124_27 rfl rfl (by decide) ?_
              refine X.retz i124_28 rfl t124 (by omega) ?_
              exact hQ 0 m (by first | trivial | omega) (hJ.up (by omega)) (by first | exact (.inl ⟨by omega, by omega, by omega, by omega, by omega, by omega, by omega, by omega⟩) | exact (.inr ⟨by omega, by omega⟩))
            · refine X.iconst 11 i79_10 rfl rfl (by decide) ?_
              refine X.goto 15 i79_11 rfl rfl ?_
              refine X.cut [] i79_15 rfl ?_
              refine X.retz i79_15 rfl t79 (by omega) ?_
              show X (EE s) d 124 24 [(0, zr 4 40), (1, zi a1), (2, zi a2), (3, zi a3)] [zi 1] m _
              refine X.ifne 29 27 i124_24 rfl rfl rfl (fun h514 => ?_) (fun h514 => (by exfalso; omega))
              refine X.iload_n 30 i124_29 rfl rfl rfl ?_
              refine X.iflt 39 33 i124_30 rfl rfl rfl (fun h515 => ?_) (fun h515 => ?_)
              · refine X.cut [] i124_39 rfl ?_
                refine X.iconst 40 i124_39 rfl rfl (by decide) ?_
                refine X.retz i124_40 rfl t124 (by omega) ?_
                exact hQ 0 m (by first | trivial | omega) (hJ.up (by omega)) (by first | exact (.inl ⟨by omega, by omega, by omega, by omega, by omega, by omega, by omega, by omega⟩) | exact (.inr ⟨by omega, by omega⟩))
              · refine X.iload_n 34 i124_33 rfl rfl rfl ?_
                refine X.bipush 36 i124_34 rfl rfl (by decide) ?_
                refine X.icmplt 41 39 i124_36 rfl rfl rfl (fun h516 => ?_) (fun h516 => ?_)
                · refine X.aload_n 42 i124_41 rfl rfl rfl ?_
                  refine X.getF 45 i124_42 rfl rfl (by decide) rfl rfl ?_
                  refine X.getR 48 i124_45 rfl rfl (by decide) rfl rfl ?_
                  refine X.getR 51 i124_48 rfl rfl (by decide) rfl rfl ?_
                  refine X.iload_n 52 i124_51 rfl rfl rfl ?_
                  refine X.bipush 54 i124_52 rfl rfl (by decide) ?_
                  refine X.imul 55 i124_54 rfl rfl (by omega) ?_
                  refine X.iload_n 56 i124_55 rfl rfl rfl ?_
                  refine X.iadd 57 i124_56 rfl rfl (by omega) ?_
                  refine X.iload_n 58 i124_57 rfl rfl rfl ?_
                  refine X.iast' 59 i124_58 rfl rfl (by decide) rfl (by omega) (fun hrm517 m517 hm517 => ?_)
                  have hJ518 := w16_0 hJ hm517 (by omega) (by omega)
                  have wt519 : m517 0 39 0 = (m 0 39 0) := by rw [hm517]; exact z_upd_o _ _ rfl
                  refine X.iconst 60 i124_59 rfl rfl (by decide) ?_
                  refine X.retz i124_60 rfl t124 (by omega) ?_
                  exact hQ 1 m517 (by first | trivial | omega) (hJ518.up (by omega)) (by first | exact (.inl ⟨by omega, by omega, by omega, by omega, by omega, by omega, by omega, by omega⟩) | exact (.inr ⟨by omega, by omega⟩))
                · refine X.cut [] i124_39 rfl ?_
                  refine X.iconst 40 i124_39 rfl rfl (by decide) ?_
                  refine X.retz i124_40 rfl t124 (by omega) ?_
                  exact hQ 0 m (by first | trivial | omega) (hJ.up (by omega)) (by first | exact (.inl ⟨by omega, by omega, by omega, by omega, by omega, by omega, by omega, by omega⟩) | exact (.inr ⟨by omega, by omega⟩))
  · refine X.aload_n 8 i17_7 rfl rfl rfl ?_
    refine X.dup 9 i17_8 rfl rfl rfl ?_
    refine X.getIr 12 3 i17_9 rfl rfl (by decide) rfl rfl rfl (fun h520 => ?_)
    refine X.iconst 13 i17_12 rfl rfl (by decide) ?_
    refine X.iiF 14 .iadd (fun x y => x + y) i17_13 rfl rfl rfl (fun _ _ => rfl) (fun z521 hz521 => ?_)
    refine X.putI' 17 3 i17_14 rfl rfl (by decide) rfl rfl rfl (fun hrm522 m522 hm522 => ?_)
    have hJ523 := w39_3 hJ hm522 hrm522
    have wt524 : m522 0 39 0 = (m 0 39 0) := by rw [hm522]; exact z_upd_o _ _ rfl
    refine X.aload_n 18 i17_17 rfl rfl rfl ?_
    refine X.getZ 21 0 i17_18 rfl rfl (by decide) rfl rfl rfl (fun h525 => ?_)
    refine X.retz i17_21 rfl t17 (by omega) ?_
    show X (EE s) d 124 10 [(0, zr 4 40), (1, zi a1), (2, zi a2), (3, zi a3)] [zi (m522 0 39 0)] m522 _
    refine X.ifne 27 13 i124_10 rfl rfl rfl (fun h526 => ?_) (fun h526 => ?_)
    · refine X.cut [] i124_27 rfl ?_
      refine X.iconst 28 i124_27 rfl rfl (by decide) ?_
      refine X.retz i124_28 rfl t124 (by omega) ?_
      exact hQ 0 m522 (by first | trivial | omega) (hJ523.up (by omega)) (by first | exact (.inl ⟨by omega, by omega, by omega, by omega, by omega, by omega, by omega, by omega⟩) | exact (.inr ⟨by omega, by omega⟩))
    · refine X.iload_n 14 i124_13 rfl rfl rfl ?_
      refine X.calls 17 [zi a1] [] [(0, zi a1)] i124_14 (by decide) rfl rfl (by omega) rfl rfl t123 (Nat.le_of_ble_eq_true rfl) (Nat.le_of_ble_eq_true rfl) rfl ?_
      refine X.iload_n 1 i123_0 rfl rfl rfl ?_
      refine X.iflt 13 4 i123_1 rfl rfl rfl (fun h527 => ?_) (fun h527 => ?_)
      · refine X.cut [] i123_13 rfl ?_
        refine X.iconst 14 i123_13 rfl rfl (by decide) ?_
        refine X.retz i123_14 rfl t123 (by omega) ?_
        show X (EE s) d 124 17 [(0, zr 4 40), (1, zi a1), (2, zi a2), (3, zi a3)] [zi 0] m522 _
        refine X.ifeq 27 20 i124_17 rfl rfl rfl (fun h528 => ?_) (fun h528 => (by exfalso; omega))
        refine X.cut [] i124_27 rfl ?_
        refine X.iconst 28 i124_27 rfl rfl (by decide) ?_
        refine X.retz i124_28 rfl t124 (by omega) ?_
        exact hQ 0 m522 (by first | trivial | omega) (hJ523.up (by omega)) (by first | exact (.inl ⟨by omega, by omega, by omega, by omega, by omega, by omega, by omega, by omega⟩) | exact (.inr ⟨by omega, by omega⟩))
      · refine X.iload_n 5 i123_4 rfl rfl rfl ?_
        refine X.iconst 6 i123_5 rfl rfl (by decide) ?_
        refine X.icmpge 13 9 i123_6 rfl rfl rfl (fun h529 => ?_) (fun h529 => ?_)
        · refine X.cut [] i123_13 rfl ?_
          refine X.iconst 14 i123_13 rfl rfl (by decide) ?_
          refine X.retz i123_14 rfl t123 (by omega) ?_
          show X (EE s) d 124 17 [(0, zr 4 40), (1, zi a1), (2, zi a2), (3, zi a3)] [zi 0] m522 _
          refine X.ifeq 27 20 i124_17 rfl rfl rfl (fun h530 => ?_) (fun h530 => (by exfalso; omega))
          refine X.cut [] i124_27 rfl ?_
          refine X.iconst 28 i124_27 rfl rfl (by decide) ?_
          refine X.retz i124_28 rfl t124 (by omega) ?_
          exact hQ 0 m522 (by first | trivial | omega) (hJ523.up (by omega)) (by first | exact (.inl ⟨by omega, by omega, by omega, by omega, by omega, by omega, by omega, by omega⟩) | exact (.inr ⟨by omega, by omega⟩))
        · refine X.iconst 10 i123_9 rfl rfl (by decide) ?_
          refine X.goto 14 i123_10 rfl rfl ?_
          refine X.cut [] i123_14 rfl ?_
          refine X.retz i123_14 rfl t123 (by omega) ?_
          show X (EE s) d 124 17 [(0, zr 4 40), (1, zi a1), (2, zi a2), (3, zi a3)] [zi 1] m522 _
          refine X.ifeq 27 20 i124_17 rfl rfl rfl (fun h531 => (by exfalso; omega)) (fun h531 => ?_)
          refine X.iload_n 21 i124_20 rfl rfl rfl ?_
          refine X.calls 24 [zi a3] [] [(0, zi a3)] i124_21 (by decide) rfl rfl (by omega) rfl rfl t79 (Nat.le_of_ble_eq_true rfl) (Nat.le_of_ble_eq_true rfl) rfl ?_
          refine X.iload_n 1 i79_0 rfl rfl rfl ?_
          refine X.iflt 14 4 i79_1 rfl rfl rfl (fun h532 => ?_) (fun h532 => ?_)
          · refine X.cut [] i79_14 rfl ?_
            refine X.iconst 15 i79_14 rfl rfl (by decide) ?_
            refine X.retz i79_15 rfl t79 (by omega) ?_
            show X (EE s) d 124 24 [(0, zr 4 40), (1, zi a1), (2, zi a2), (3, zi a3)] [zi 0] m522 _
            refine X.ifne 29 27 i124_24 rfl rfl rfl (fun h533 => (by exfalso; omega)) (fun h533 => ?_)
            refine X.cut [] i124_27 rfl ?_
            refine X.iconst 28 i124_27 rfl rfl (by decide) ?_
            refine X.retz i124_28 rfl t124 (by omega) ?_
            exact hQ 0 m522 (by first | trivial | omega) (hJ523.up (by omega)) (by first | exact (.inl ⟨by omega, by omega, by omega, by omega, by omega, by omega, by omega, by omega⟩) | exact (.inr ⟨by omega, by omega⟩))
          · refine X.iload_n 5 i79_4 rfl rfl rfl ?_
            refine X.bipush 7 i79_5 rfl rfl (by decide) ?_
            refine X.icmpge 14 10 i79_7 rfl rfl rfl (fun h534 => ?_) (fun h534 => ?_)
            · refine X.cut [] i79_14 rfl ?_
              refine X.iconst 15 i79_14 rfl rfl (by decide) ?_
              refine X.retz i79_15 rfl t79 (by omega) ?_
              show X (EE s) d 124 24 [(0, zr 4 40), (1, zi a1), (2, zi a2), (3, zi a3)] [zi 0] m522 _
              refine X.ifne 29 27 i124_24 rfl rfl rfl (fun h535 => (by exfalso; omega)) (fun h535 => ?_)
              refine X.cut [] i124_27 rfl ?_
              refine X.iconst 28 i124_27 rfl rfl (by decide) ?_
              refine X.retz i124_28 rfl t124 (by omega) ?_
              exact hQ 0 m522 (by first | trivial | omega) (hJ523.up (by omega)) (by first | exact (.inl ⟨by omega, by omega, by omega, by omega, by omega, by omega, by omega, by omega⟩) | exact (.inr ⟨by omega, by omega⟩))
            · refine X.iconst 11 i79_10 rfl rfl (by decide) ?_
              refine X.goto 15 i79_11 rfl rfl ?_
              refine X.cut [] i79_15 rfl ?_
              refine X.retz i79_15 rfl t79 (by omega) ?_
              show X (EE s) d 124 24 [(0, zr 4 40), (1, zi a1), (2, zi a2), (3, zi a3)] [zi 1] m522 _
              refine X.ifne 29 27 i124_24 rfl rfl rfl (fun h536 => ?_) (fun h536 => (by exfalso; omega))
              refine X.iload_n 30 i124_29 rfl rfl rfl ?_
              refine X.iflt 39 33 i124_30 rfl rfl rfl (fun h537 => ?_) (fun h537 => ?_)
              · refine X.cut [] i124_39 rfl ?_
                refine X.iconst 40 i124_39 rfl rfl (by decide) ?_
                refine X.retz i124_40 rfl t124 (by omega) ?_
                exact hQ 0 m522 (by first | trivial | omega) (hJ523.up (by omega)) (by first | exact (.inl ⟨by omega, by omega, by omega, by omega, by omega, by omega, by omega, by omega⟩) | exact (.inr ⟨by omega, by omega⟩))
              · refine X.iload_n 34 i124_33 rfl rfl rfl ?_
                refine X.bipush 36 i124_34 rfl rfl (by decide) ?_
                refine X.icmplt 41 39 i124_36 rfl rfl rfl (fun h538 => ?_) (fun h538 => ?_)
                · refine X.aload_n 42 i124_41 rfl rfl rfl ?_
                  refine X.getF 45 i124_42 rfl rfl (by decide) rfl rfl ?_
                  refine X.getR 48 i124_45 rfl rfl (by decide) rfl rfl ?_
                  refine X.getR 51 i124_48 rfl rfl (by decide) rfl rfl ?_
                  refine X.iload_n 52 i124_51 rfl rfl rfl ?_
                  refine X.bipush 54 i124_52 rfl rfl (by decide) ?_
                  refine X.imul 55 i124_54 rfl rfl (by omega) ?_
                  refine X.iload_n 56 i124_55 rfl rfl rfl ?_
                  refine X.iadd 57 i124_56 rfl rfl (by omega) ?_
                  refine X.iload_n 58 i124_57 rfl rfl rfl ?_
                  refine X.iast' 59 i124_58 rfl rfl (by decide) rfl (by omega) (fun hrm539 m539 hm539 => ?_)
                  have hJ540 := w16_0 hJ523 hm539 (by omega) (by omega)
                  have wt541 : m539 0 39 0 = (m 0 39 0) := Eq.trans (by rw [hm539]; exact z_upd_o _ _ rfl) wt524
                  refine X.iconst 60 i124_59 rfl rfl (by decide) ?_
                  refine X.retz i124_60 rfl t124 (by omega) ?_
                  exact hQ 1 m539 (by first | trivial | omega) (hJ540.up (by omega)) (by first | exact (.inl ⟨by omega, by omega, by omega, by omega, by omega, by omega, by omega, by omega⟩) | exact (.inr ⟨by omega, by omega⟩))
                · refine X.cut [] i124_39 rfl ?_
                  refine X.iconst 40 i124_39 rfl rfl (by decide) ?_
                  refine X.retz i124_40 rfl t124 (by omega) ?_
                  exact hQ 0 m522 (by first | trivial | omega) (hJ523.up (by omega)) (by first | exact (.inl ⟨by omega, by omega, by omega, by omega, by omega, by omega, by omega, by omega⟩) | exact (.inr ⟨by omega, by omega⟩))
-- WorkMeterModel.week
theorem c247_1 {s : Nat × (Nat → Int32)} {S : zS} {m0 m : zM} {B : Int} {d : Nat} {Q : Option zV → zM → Prop} (a1 a2 a3 : Int) (hd : 13 ≤ d) (hJ : J S m0 B m) (hB : B + 0 ≤ 1000000000) (ha1 : (-2147483648) ≤ a1 ∧ a1 ≤ 2147483647) (ha2 : (-2147483648) ≤ a2 ∧ a2 ≤ 2147483647) (ha3 : (-2147483648) ≤ a3 ∧ a3 ≤ 2147483647) (hQ : ∀ (v : Int) m', (0 ≤ v ∧ v ≤ 1) → J S m0 (B) m' → ((v = 1 ∧ m 4 45 1614 = 0 ∧ 0 ≤ a1 ∧ a1 ≤ 3 ∧ 0 ≤ a2 ∧ a2 ≤ 6 ∧ 0 ≤ a3 ∧ a3 ≤ 7) ∨ (v = 0 ∧ ¬ (m 4 45 1614 = 0 ∧ 0 ≤ a1 ∧ a1 ≤ 3 ∧ 0 ≤ a2 ∧ a2 ≤ 6 ∧ 0 ≤ a3 ∧ a3 ≤ 7))) → Q (some (zi v)) m') : X (EE s) d 247 0 [(0, zr 4 44), (1, zi a1), (2, zi a2), (3, zi a3)] [] m Q := by
  refine X.aload_n 1 i247_0 rfl rfl rfl ?_
  refine X.callv 4 [] [] [(0, zr 4 44)] i247_1 rfl (by decide) rfl rfl (by omega) rfl rfl (by decide) rfl t203 (Nat.le_of_ble_eq_true rfl) (Nat.le_of_ble_eq_true rfl) rfl ?_
  refine X.aload_n 1 i203_0 rfl rfl rfl ?_
  refine X.getF 4 i203_1 rfl rfl (by decide) rfl rfl ?_
  refine X.sipush 7 i203_4 rfl rfl (by decide) ?_
  refine X.dup2 8 i203_7 rfl rfl ?_
  refine X.lald 9 i203_8 rfl rfl (by decide) rfl (by omega) ?_
  refine X.aload_n 10 i203_9 rfl rfl rfl ?_
  refine X.getF 13 i203_10 rfl rfl (by decide) rfl rfl ?_
  refine X.sipush 16 i203_13 rfl rfl (by decide) ?_
  refine X.lald 17 i203_16 rfl rfl (by decide) rfl (by omega) ?_
  have h501 := r45_1614 hJ 4
  refine X.llF 18 .ladd (fun x y => x + y) i203_17 rfl rfl rfl (fun _ _ => rfl) (fun z502 hz502 => ?_)
  refine X.last' 19 i203_18 rfl rfl (by decide) rfl (by omega) (fun hrm503 m503 hm503 => ?_)
  have hJ504 := w45_1618 hJ hm503 hrm503
  have wt505 : m503 4 45 1614 = (m 4 45 1614) := by rw [hm503]; exact z_upd_o _ _ rfl
  refine X.aload_n 20 i203_19 rfl rfl rfl ?_
  refine X.getF 23 i203_20 rfl rfl (by decide) rfl rfl ?_
  refine X.sipush 26 i203_23 rfl rfl (by decide) ?_
  refine X.lald 27 i203_26 rfl rfl (by decide) rfl (by omega) ?_
  have h506 := r45_1614 hJ504 4
  refine X.lconst (y := 1) 28 i203_27 rfl rfl rfl ?_
  refine X.lcmp 29 i203_28 rfl rfl (fun z507 hz507 => ?_)
  refine X.ifne 36 32 i203_29 rfl rfl rfl (fun h508 => ?_) (fun h508 => ?_)
  · have h508c : (m503 4 45 1614) ≠ 1 := by omega
    clear h508 hz507
    refine X.cut [] i203_36 rfl ?_
    refine X.iconst 37 i203_36 rfl rfl (by decide) ?_
    refine X.retz i203_37 rfl t203 (by omega) ?_
    show X (EE s) d 247 4 [(0, zr 4 44), (1, zi a1), (2, zi a2), (3, zi a3)] [zi 0] m503 _
    refine X.ifne 33 7 i247_4 rfl rfl rfl (fun h509 => (by exfalso; omega)) (fun h509 => ?_)
    refine X.iload_n 8 i247_7 rfl rfl rfl ?_
    refine X.calls 11 [zi a1] [] [(0, zi a1)] i247_8 (by decide) rfl rfl (by omega) rfl rfl t246 (Nat.le_of_ble_eq_true rfl) (Nat.le_of_ble_eq_true rfl) rfl ?_
    refine X.iload_n 1 i246_0 rfl rfl rfl ?_
    refine X.i2l 2 i246_1 rfl rfl ?_
    refine X.lconst (y := 0) 3 i246_2 rfl rfl rfl ?_
    refine X.ldc2 6 i246_3 rfl rfl (by decide) ?_
    refine X.calls 9 [zl a1, zl 0, zl 3] [] [(0, zl a1), (2, zl 0), (4, zl 3)] i246_6 (by decide) rfl rfl (by omega) rfl rfl t204 (Nat.le_of_ble_eq_true rfl) (Nat.le_of_ble_eq_true rfl) rfl ?_
    refine X.lload_n 1 i204_0 rfl rfl rfl ?_
    refine X.lload_n 2 i204_1 rfl rfl rfl ?_
    refine X.lcmp 3 i204_2 rfl rfl (fun z510 hz510 => ?_)
    refine X.iflt 17 6 i204_3 rfl rfl rfl (fun h511 => ?_) (fun h511 => ?_)
    · have h511c : a1 < 0 := by omega
      clear h511 hz510
      refine X.cut [] i204_17 rfl ?_
      refine X.iconst 18 i204_17 rfl rfl (by decide) ?_
      refine X.retz i204_18 rfl t204 (by omega) ?_
      show X (EE s) (d - 1) 246 9 [(0, zi a1)] [zi 0] m503 _
      refine X.retz i246_9 rfl t246 (by omega) ?_
      show X (EE s) d 247 11 [(0, zr 4 44), (1, zi a1), (2, zi a2), (3, zi a3)] [zi 0] m503 _
      refine X.ifeq 33 14 i247_11 rfl rfl rfl (fun h512 => ?_) (fun h512 => (by exfalso; omega))
      refine X.cut [] i247_33 rfl ?_
      refine X.iconst 34 i247_33 rfl rfl (by decide) ?_
      refine X.retz i247_34 rfl t247 (by omega) ?_
      exact hQ 0 m503 (by first | trivial | omega) (hJ504.up (by omega)) (by first | exact (.inl ⟨by omega, by omega, by omega, by omega, by omega, by omega, by omega, by omega⟩) | exact (.inr ⟨by omega, by omega⟩))
    · have h511c : a1 ≥ 0 := by omega
      clear h511 hz510
      refine X.lload_n 7 i204_6 rfl rfl rfl ?_
      refine X.lload 9 i204_7 rfl rfl rfl ?_
      refine X.lcmp 10 i204_9 rfl rfl (fun z513 hz513 => ?_)
      refine X.ifgt 17 13 i204_10 rfl rfl rfl (fun h514 => ?_) (fun h514 => ?_)
      · have h514c : a1 > 3 := by omega
        clear h514 hz513
        refine X.cut [] i204_17 rfl ?_
        refine X.iconst 18 i204_17 rfl rfl (by decide) ?_
        refine X.retz i204_18 rfl t204 (by omega) ?_
        show X (EE s) (d - 1) 246 9 [(0, zi a1)] [zi 0] m503 _
        refine X.retz i246_9 rfl t246 (by omega) ?_
        show X (EE s) d 247 11 [(0, zr 4 44), (1, zi a1), (2, zi a2), (3, zi a3)] [zi 0] m503 _
        refine X.ifeq 33 14 i247_11 rfl rfl rfl (fun h515 => ?_) (fun h515 => (by exfalso; omega))
        refine X.cut [] i247_33 rfl ?_
        refine X.iconst 34 i247_33 rfl rfl (by decide) ?_
        refine X.retz i247_34 rfl t247 (by omega) ?_
        exact hQ 0 m503 (by first | trivial | omega) (hJ504.up (by omega)) (by first | exact (.inl ⟨by omega, by omega, by omega, by omega, by omega, by omega, by omega, by omega⟩) | exact (.inr ⟨by omega, by omega⟩))
      · have h514c : a1 ≤ 3 := by omega
        clear h514 hz513
        refine X.iconst 14 i204_13 rfl rfl (by decide) ?_
        refine X.goto 18 i204_14 rfl rfl ?_
        refine X.cut [] i204_18 rfl ?_
        refine X.retz i204_18 rfl t204 (by omega) ?_
        show X (EE s) (d - 1) 246 9 [(0, zi a1)] [zi 1] m503 _
        refine X.retz i246_9 rfl t246 (by omega) ?_
        show X (EE s) d 247 11 [(0, zr 4 44), (1, zi a1), (2, zi a2), (3, zi a3)] [zi 1] m503 _
        refine X.ifeq 33 14 i247_11 rfl rfl rfl (fun h516 => (by exfalso; omega)) (fun h516 => ?_)
        refine X.iload_n 15 i247_14 rfl rfl rfl ?_
        refine X.i2l 16 i247_15 rfl rfl ?_
        refine X.lconst (y := 0) 17 i247_16 rfl rfl rfl ?_
        refine X.ldc2 20 i247_17 rfl rfl (by decide) ?_
        refine X.calls 23 [zl a2, zl 0, zl 6] [] [(0, zl a2), (2, zl 0), (4, zl 6)] i247_20 (by decide) rfl rfl (by omega) rfl rfl t204 (Nat.le_of_ble_eq_true rfl) (Nat.le_of_ble_eq_true rfl) rfl ?_
        refine X.lload_n 1 i204_0 rfl rfl rfl ?_
        refine X.lload_n 2 i204_1 rfl rfl rfl ?_
        refine X.lcmp 3 i204_2 rfl rfl (fun z517 hz517 => ?_)
        refine X.iflt 17 6 i204_3 rfl rfl rfl (fun h518 => ?_) (fun h518 => ?_)
        · have h518c : a2 < 0 := by omega
          clear h518 hz517
          refine X.cut [] i204_17 rfl ?_
          refine X.iconst 18 i204_17 rfl rfl (by decide) ?_
          refine X.retz i204_18 rfl t204 (by omega) ?_
          show X (EE s) d 247 23 [(0, zr 4 44), (1, zi a1), (2, zi a2), (3, zi a3)] [zi 0] m503 _
          refine X.ifeq 33 26 i247_23 rfl rfl rfl (fun h519 => ?_) (fun h519 => (by exfalso; omega))
          refine X.cut [] i247_33 rfl ?_
          refine X.iconst 34 i247_33 rfl rfl (by decide) ?_
          refine X.retz i247_34 rfl t247 (by omega) ?_
          exact hQ 0 m503 (by first | trivial | omega) (hJ504.up (by omega)) (by first | exact (.inl ⟨by omega, by omega, by omega, by omega, by omega, by omega, by omega, by omega⟩) | exact (.inr ⟨by omega, by omega⟩))
        · have h518c : a2 ≥ 0 := by omega
          clear h518 hz517
          refine X.lload_n 7 i204_6 rfl rfl rfl ?_
          refine X.lload 9 i204_7 rfl rfl rfl ?_
          refine X.lcmp 10 i204_9 rfl rfl (fun z520 hz520 => ?_)
          refine X.ifgt 17 13 i204_10 rfl rfl rfl (fun h521 => ?_) (fun h521 => ?_)
          · have h521c : a2 > 6 := by omega
            clear h521 hz520
            refine X.cut [] i204_17 rfl ?_
            refine X.iconst 18 i204_17 rfl rfl (by decide) ?_
            refine X.retz i204_18 rfl t204 (by omega) ?_
            show X (EE s) d 247 23 [(0, zr 4 44), (1, zi a1), (2, zi a2), (3, zi a3)] [zi 0] m503 _
            refine X.ifeq 33 26 i247_23 rfl rfl rfl (fun h522 => ?_) (fun h522 => (by exfalso; omega))
            refine X.cut [] i247_33 rfl ?_
            refine X.iconst 34 i247_33 rfl rfl (by decide) ?_
            refine X.retz i247_34 rfl t247 (by omega) ?_
            exact hQ 0 m503 (by first | trivial | omega) (hJ504.up (by omega)) (by first | exact (.inl ⟨by omega, by omega, by omega, by omega, by omega, by omega, by omega, by omega⟩) | exact (.inr ⟨by omega, by omega⟩))
          · have h521c : a2 ≤ 6 := by omega
            clear h521 hz520
            refine X.iconst 14 i204_13 rfl rfl (by decide) ?_
            refine X.goto 18 i204_14 rfl rfl ?_
            refine X.cut [] i204_18 rfl ?_
            refine X.retz i204_18 rfl t204 (by omega) ?_
            show X (EE s) d 247 23 [(0, zr 4 44), (1, zi a1), (2, zi a2), (3, zi a3)] [zi 1] m503 _
            refine X.ifeq 33 26 i247_23 rfl rfl rfl (fun h523 => (by exfalso; omega)) (fun h523 => ?_)
            refine X.iload_n 27 i247_26 rfl rfl rfl ?_
            refine X.calls 30 [zi a3] [] [(0, zi a3)] i247_27 (by decide) rfl rfl (by omega) rfl rfl t241 (Nat.le_of_ble_eq_true rfl) (Nat.le_of_ble_eq_true rfl) rfl ?_
            refine X.iload_n 1 i241_0 rfl rfl rfl ?_
            refine X.i2l 2 i241_1 rfl rfl ?_
            refine X.lconst (y := 0) 3 i241_2 rfl rfl rfl ?_
            refine X.ldc2 6 i241_3 rfl rfl (by decide) ?_
            refine X.calls 9 [zl a3, zl 0, zl 7] [] [(0, zl a3), (2, zl 0), (4, zl 7)] i241_6 (by decide) rfl rfl (by omega) rfl rfl t204 (Nat.le_of_ble_eq_true rfl) (Nat.le_of_ble_eq_true rfl) rfl ?_
            refine X.lload_n 1 i204_0 rfl rfl rfl ?_
            refine X.lload_n 2 i204_1 rfl rfl rfl ?_
            refine X.lcmp 3 i204_2 rfl rfl (fun z524 hz524 => ?_)
            refine X.iflt 17 6 i204_3 rfl rfl rfl (fun h525 => ?_) (fun h525 => ?_)
            · have h525c : a3 < 0 := by omega
              clear h525 hz524
              refine X.cut [] i204_17 rfl ?_
              refine X.iconst 18 i204_17 rfl rfl (by decide) ?_
              refine X.retz i204_18 rfl t204 (by omega) ?_
              show X (EE s) (d - 1) 241 9 [(0, zi a3)] [zi 0] m503 _
              refine X.retz i241_9 rfl t241 (by omega) ?_
              show X (EE s) d 247 30 [(0, zr 4 44), (1, zi a1), (2, zi a2), (3, zi a3)] [zi 0] m503 _
              refine X.ifne 35 33 i247_30 rfl rfl rfl (fun h526 => (by exfalso; omega)) (fun h526 => ?_)
              refine X.cut [] i247_33 rfl ?_
              refine X.iconst 34 i247_33 rfl rfl (by decide) ?_
              refine X.retz i247_34 rfl t247 (by omega) ?_
              exact hQ 0 m503 (by first | trivial | omega) (hJ504.up (by omega)) (by first | exact (.inl ⟨by omega, by omega, by omega, by omega, by omega, by omega, by omega, by omega⟩) | exact (.inr ⟨by omega, by omega⟩))
            · have h525c : a3 ≥ 0 := by omega
              clear h525 hz524
              refine X.lload_n 7 i204_6 rfl rfl rfl ?_
              refine X.lload 9 i204_7 rfl rfl rfl ?_
              refine X.lcmp 10 i204_9 rfl rfl (fun z527 hz527 => ?_)
              refine X.ifgt 17 13 i204_10 rfl rfl rfl (fun h528 => ?_) (fun h528 => ?_)
              · have h528c : a3 > 7 := by omega
                clear h528 hz527
                refine X.cut [] i204_17 rfl ?_
                refine X.iconst 18 i204_17 rfl rfl (by decide) ?_
                refine X.retz i204_18 rfl t204 (by omega) ?_
                show X (EE s) (d - 1) 241 9 [(0, zi a3)] [zi 0] m503 _
                refine X.retz i241_9 rfl t241 (by omega) ?_
                show X (EE s) d 247 30 [(0, zr 4 44), (1, zi a1), (2, zi a2), (3, zi a3)] [zi 0] m503 _
                refine X.ifne 35 33 i247_30 rfl rfl rfl (fun h529 => (by exfalso; omega)) (fun h529 => ?_)
                refine X.cut [] i247_33 rfl ?_
                refine X.iconst 34 i247_33 rfl rfl (by decide) ?_
                refine X.retz i247_34 rfl t247 (by omega) ?_
                exact hQ 0 m503 (by first | trivial | omega) (hJ504.up (by omega)) (by first | exact (.inl ⟨by omega, by omega, by omega, by omega, by omega, by omega, by omega, by omega⟩) | exact (.inr ⟨by omega, by omega⟩))
              · have h528c : a3 ≤ 7 := by omega
                clear h528 hz527
                refine X.iconst 14 i204_13 rfl rfl (by decide) ?_
                refine X.goto 18 i204_14 rfl rfl ?_
                refine X.cut [] i204_18 rfl ?_
                refine X.retz i204_18 rfl t204 (by omega) ?_
                show X (EE s) (d - 1) 241 9 [(0, zi a3)] [zi 1] m503 _
                refine X.retz i241_9 rfl t241 (by omega) ?_
                show X (EE s) d 247 30 [(0, zr 4 44), (1, zi a1), (2, zi a2), (3, zi a3)] [zi 1] m503 _
                refine X.ifne 35 33 i247_30 rfl rfl rfl (fun h530 => ?_) (fun h530 => (by exfalso; omega))
                refine X.aload_n 36 i247_35 rfl rfl rfl ?_
                refine X.getF 39 i247_36 rfl rfl (by decide) rfl rfl ?_
                refine X.sipush 42 i247_39 rfl rfl (by decide) ?_
                refine X.bipush 44 i247_42 rfl rfl (by decide) ?_
                refine X.iload_n 45 i247_44 rfl rfl rfl ?_
                refine X.imul 46 i247_45 rfl rfl (by omega) ?_
                refine X.iadd 47 i247_46 rfl rfl (by omega) ?_
                refine X.iload_n 48 i247_47 rfl rfl rfl ?_
                refine X.iadd 49 i247_48 rfl rfl (by omega) ?_
                refine X.iload_n 50 i247_49 rfl rfl rfl ?_
                refine X.i2l 51 i247_50 rfl rfl ?_
                refine X.last' 52 i247_51 rfl rfl (by decide) rfl (by omega) (fun hrm531 m531 hm531 => ?_)
                have hJ532 := w45_395 hJ504 hm531 (by omega) (by omega)
                have wt533 : m531 4 45 1614 = (m 4 45 1614) := Eq.trans (by rw [hm531]; exact z_upd_i _ _ _ _ (by omega)) wt505
                refine X.iconst 53 i247_52 rfl rfl (by decide) ?_
                refine X.retz i247_53 rfl t247 (by omega) ?_
                exact hQ 1 m531 (by first | trivial | omega) (hJ532.up (by omega)) (by first | exact (.inl ⟨by omega, by omega, by omega, by omega, by omega, by omega, by omega, by omega⟩) | exact (.inr ⟨by omega, by omega⟩))
  · have h508c : (m503 4 45 1614) = 1 := by omega
    clear h508 hz507
    refine X.iconst 33 i203_32 rfl rfl (by decide) ?_
    refine X.goto 37 i203_33 rfl rfl ?_
    refine X.cut [] i203_37 rfl ?_
    refine X.retz i203_37 rfl t203 (by omega) ?_
    show X (EE s) d 247 4 [(0, zr 4 44), (1, zi a1), (2, zi a2), (3, zi a3)] [zi 1] m503 _
    refine X.ifne 33 7 i247_4 rfl rfl rfl (fun h534 => ?_) (fun h534 => (by exfalso; omega))
    refine X.cut [] i247_33 rfl ?_
    refine X.iconst 34 i247_33 rfl rfl (by decide) ?_
    refine X.retz i247_34 rfl t247 (by omega) ?_
    exact hQ 0 m503 (by first | trivial | omega) (hJ504.up (by omega)) (by first | exact (.inl ⟨by omega, by omega, by omega, by omega, by omega, by omega, by omega, by omega⟩) | exact (.inr ⟨by omega, by omega⟩))
-- WorkMeter$Calendar.dropSpecial
theorem c126_1 {s : Nat × (Nat → Int32)} {S : zS} {m0 m : zM} {B : Int} {d : Nat} {Q : Option zV → zM → Prop} (g0 : Nat) (a1 : Int) (hd : 14 ≤ d) (hJ : J S m0 B m) (hB : B + 0 ≤ 1000000000) (ha1 : 0 ≤ a1 ∧ a1 ≤ 364) (hQ : ∀ (v : Int) m', (0 ≤ v ∧ v ≤ 1) → J S m0 (B) m' → Q (some (zi v)) m') : X (EE s) d 126 0 [(0, zr g0 11), (1, zi a1)] [] m Q := by
  refine X.aload_n 1 i126_0 rfl rfl rfl ?_
  refine X.iload_n 2 i126_1 rfl rfl rfl ?_
  refine X.callv 5 [zi a1] [] [(0, zr g0 11), (1, zi a1)] i126_2 rfl (by decide) rfl rfl (by omega) rfl rfl (by decide) rfl t29 (Nat.le_of_ble_eq_true rfl) (Nat.le_of_ble_eq_true rfl) rfl ?_
  refine c29_1 (B := B) g0 a1 (by omega) (hJ.up (by omega)) (by omega) (by omega) (fun v503 hv503 hqv5030 => ?_)
  show X (EE s) d 126 5 [(0, zr g0 11), (1, zi a1)] [zi v503] m _
  refine X.istore_n 6 [(0, zr g0 11), (1, zi a1), (2, zi v503)] i126_5 rfl rfl rfl ?_
  refine X.iload_n 7 i126_6 rfl rfl rfl ?_
  refine X.iconst 8 i126_7 rfl rfl (by decide) ?_
  refine X.icmpne 13 11 i126_8 rfl rfl rfl (fun h504 => ?_) (fun h504 => ?_)
  · refine X.cut [(0, zr g0 11), (2, zi v503)] i126_13 rfl ?_
    refine X.aload_n 14 i126_13 rfl rfl rfl ?_
    refine X.dup 15 i126_14 rfl rfl rfl ?_
    refine X.getI 18 7 i126_15 rfl rfl (by decide) rfl rfl rfl ?_
    have h505 := r11_7 hJ g0
    refine X.iconst 19 i126_18 rfl rfl (by decide) ?_
    refine X.isub 20 i126_19 rfl rfl (by omega) ?_
    refine X.putI' 23 7 i126_20 rfl rfl (by decide) rfl rfl rfl (fun hrm506 m506 hm506 => ?_)
    have hJ507 := w11_7 hJ hm506 (by omega)
    have em506 : m506 g0 11 7 = ((m g0 11 7) - 1) := by rw [hm506]; exact z_upd_same _ _ _ _ _
    refine X.aload_n 24 i126_23 rfl rfl rfl ?_
    refine X.getR 27 i126_24 rfl rfl (by decide) rfl rfl ?_
    refine X.iload_n 28 i126_27 rfl rfl rfl ?_
    refine X.aload_n 29 i126_28 rfl rfl rfl ?_
    refine X.getR 32 i126_29 rfl rfl (by decide) rfl rfl ?_
    refine X.aload_n 33 i126_32 rfl rfl rfl ?_
    refine X.getI 36 7 i126_33 rfl rfl (by decide) rfl rfl rfl ?_
    refine X.iald 37 i126_36 rfl rfl (by decide) rfl (by omega) ?_
    have h508 := r17_0 hJ507 g0 (i := (m506 g0 11 7)) (by omega)
    refine X.iast' 38 i126_37 rfl rfl (by decide) rfl (by omega) (fun hrm509 m509 hm509 => ?_)
    have hJ510 := w17_0 hJ507 hm509 (by omega) (by omega)
    have wtm509_0 : m509 g0 11 7 = m506 g0 11 7 := by rw [hm509]; exact z_upd_o _ _ rfl
    refine X.aload_n 39 i126_38 rfl rfl rfl ?_
    refine X.getR 42 i126_39 rfl rfl (by decide) rfl rfl ?_
    refine X.iload_n 43 i126_42 rfl rfl rfl ?_
    refine X.aload_n 44 i126_43 rfl rfl rfl ?_
    refine X.getR 47 i126_44 rfl rfl (by decide) rfl rfl ?_
    refine X.aload_n 48 i126_47 rfl rfl rfl ?_
    refine X.getI 51 7 i126_48 rfl rfl (by decide) rfl rfl rfl ?_
    have h511 := r11_7 hJ510 g0
    refine X.iald 52 i126_51 rfl rfl (by decide) rfl (by omega) ?_
    have h512 := r18_0 hJ510 g0 (i := (m509 g0 11 7)) (by omega)
    refine X.iast' 53 i126_52 rfl rfl (by decide) rfl (by omega) (fun hrm513 m513 hm513 => ?_)
    have hJ514 := w18_0 hJ510 hm513 (by omega) (by omega)
    have wtm513_0 : m513 g0 11 7 = m509 g0 11 7 := by rw [hm513]; exact z_upd_o _ _ rfl
    refine X.iconst 54 i126_53 rfl rfl (by decide) ?_
    refine X.retz i126_54 rfl t126 (by omega) ?_
    exact hQ 1 m513 (by first | trivial | omega) (hJ514.up (by omega)) 
  · refine X.iconst 12 i126_11 rfl rfl (by decide) ?_
    refine X.retz i126_12 rfl t126 (by omega) ?_
    exact hQ 0 m (by first | trivial | omega) (hJ.up (by omega)) 
-- WorkMeter.special
theorem c125_1 {s : Nat × (Nat → Int32)} {S : zS} {m0 m : zM} {B : Int} {d : Nat} {Q : Option zV → zM → Prop} (a1 a2 : Int) (hd : 15 ≤ d) (hJ : J S m0 B m) (hB : B + 0 ≤ 1000000000) (ha1 : (-2147483648) ≤ a1 ∧ a1 ≤ 2147483647) (ha2 : (-2147483648) ≤ a2 ∧ a2 ≤ 2147483647) (hQ : ∀ (v : Int) m', (0 ≤ v ∧ v ≤ 1) → J S m0 (B) m' → Q (some (zi v)) m') : X (EE s) d 125 0 [(0, zr 4 40), (1, zi a1), (2, zi a2)] [] m Q := by
  refine X.aload_n 1 i125_0 rfl rfl rfl ?_
  refine X.getF 4 i125_1 rfl rfl (by decide) rfl rfl ?_
  refine X.getR 7 i125_4 rfl rfl (by decide) rfl rfl ?_
  refine X.callv 10 [] [] [(0, zr 0 39)] i125_7 rfl (by decide) rfl rfl (by omega) rfl rfl (by decide) rfl t17 (Nat.le_of_ble_eq_true rfl) (Nat.le_of_ble_eq_true rfl) rfl ?_
  refine X.aload_n 1 i17_0 rfl rfl rfl ?_
  refine X.getZ 4 0 i17_1 rfl rfl (by decide) rfl rfl rfl (fun h501 => ?_)
  refine X.ifeq 17 7 i17_4 rfl rfl rfl (fun h502 => ?_) (fun h502 => ?_)
  · refine X.aload_n 18 i17_17 rfl rfl rfl ?_
    refine X.getZ 21 0 i17_18 rfl rfl (by decide) rfl rfl rfl (fun h503 => ?_)
    refine X.retz i17_21 rfl t17 (by omega) ?_
    show X (EE s) d 125 10 [(0, zr 4 40), (1, zi a1), (2, zi a2)] [zi (m 0 39 0)] m _
    refine X.ifne 24 13 i125_10 rfl rfl rfl (fun h504 => ?_) (fun h504 => ?_)
    · refine X.cut [] i125_24 rfl ?_
      refine X.iconst 25 i125_24 rfl rfl (by decide) ?_
      refine X.retz i125_25 rfl t125 (by omega) ?_
      exact hQ 0 m (by first | trivial | omega) (hJ.up (by omega)) 
    · refine X.iload_n 14 i125_13 rfl rfl rfl ?_
      refine X.iflt 24 17 i125_14 rfl rfl rfl (fun h505 => ?_) (fun h505 => ?_)
      · refine X.cut [] i125_24 rfl ?_
        refine X.iconst 25 i125_24 rfl rfl (by decide) ?_
        refine X.retz i125_25 rfl t125 (by omega) ?_
        exact hQ 0 m (by first | trivial | omega) (hJ.up (by omega)) 
      · refine X.iload_n 18 i125_17 rfl rfl rfl ?_
        refine X.sipush 21 i125_18 rfl rfl (by decide) ?_
        refine X.icmplt 26 24 i125_21 rfl rfl rfl (fun h506 => ?_) (fun h506 => ?_)
        · refine X.iload_n 27 i125_26 rfl rfl rfl ?_
          refine X.iconst 28 i125_27 rfl rfl (by decide) ?_
          refine X.icmpne 43 31 i125_28 rfl rfl rfl (fun h507 => ?_) (fun h507 => ?_)
          · refine X.iload_n 44 i125_43 rfl rfl rfl ?_
            refine X.calls 47 [zi a2] [] [(0, zi a2)] i125_44 (by decide) rfl rfl (by omega) rfl rfl t79 (Nat.le_of_ble_eq_true rfl) (Nat.le_of_ble_eq_true rfl) rfl ?_
            refine X.iload_n 1 i79_0 rfl rfl rfl ?_
            refine X.iflt 14 4 i79_1 rfl rfl rfl (fun h508 => ?_) (fun h508 => ?_)
            · refine X.cut [] i79_14 rfl ?_
              refine X.iconst 15 i79_14 rfl rfl (by decide) ?_
              refine X.retz i79_15 rfl t79 (by omega) ?_
              show X (EE s) d 125 47 [(0, zr 4 40), (1, zi a1), (2, zi a2)] [zi 0] m _
              refine X.ifeq 69 50 i125_47 rfl rfl rfl (fun h509 => ?_) (fun h509 => (by exfalso; omega))
              refine X.cut [] i125_69 rfl ?_
              refine X.iconst 70 i125_69 rfl rfl (by decide) ?_
              refine X.retz i125_70 rfl t125 (by omega) ?_
              exact hQ 0 m (by first | trivial | omega) (hJ.up (by omega)) 
            · refine X.iload_n 5 i79_4 rfl rfl rfl ?_
              refine X.bipush 7 i79_5 rfl rfl (by decide) ?_
              refine X.icmpge 14 10 i79_7 rfl rfl rfl (fun h510 => ?_) (fun h510 => ?_)
              · refine X.cut [] i79_14 rfl ?_
                refine X.iconst 15 i79_14 rfl rfl (by decide) ?_
                refine X.retz i79_15 rfl t79 (by omega) ?_
                show X (EE s) d 125 47 [(0, zr 4 40), (1, zi a1), (2, zi a2)] [zi 0] m _
                refine X.ifeq 69 50 i125_47 rfl rfl rfl (fun h511 => ?_) (fun h511 => (by exfalso; omega))
                refine X.cut [] i125_69 rfl ?_
                refine X.iconst 70 i125_69 rfl rfl (by decide) ?_
                refine X.retz i125_70 rfl t125 (by omega) ?_
                exact hQ 0 m (by first | trivial | omega) (hJ.up (by omega)) 
              · refine X.iconst 11 i79_10 rfl rfl (by decide) ?_
                refine X.goto 15 i79_11 rfl rfl ?_
                refine X.cut [] i79_15 rfl ?_
                refine X.retz i79_15 rfl t79 (by omega) ?_
                show X (EE s) d 125 47 [(0, zr 4 40), (1, zi a1), (2, zi a2)] [zi 1] m _
                refine X.ifeq 69 50 i125_47 rfl rfl rfl (fun h512 => (by exfalso; omega)) (fun h512 => ?_)
                refine X.aload_n 51 i125_50 rfl rfl rfl ?_
                refine X.getF 54 i125_51 rfl rfl (by decide) rfl rfl ?_
                refine X.getR 57 i125_54 rfl rfl (by decide) rfl rfl ?_
                refine X.iload_n 58 i125_57 rfl rfl rfl ?_
                refine X.iload_n 59 i125_58 rfl rfl rfl ?_
                refine X.callv 62 [zi a1, zi a2] [] [(0, zr 0 11), (1, zi a1), (2, zi a2)] i125_59 rfl (by decide) rfl rfl (by omega) rfl rfl (by decide) rfl t109 (Nat.le_of_ble_eq_true rfl) (Nat.le_of_ble_eq_true rfl) rfl ?_
                refine c109_1 (B := B) 0 a1 a2 (by omega) (hJ.up (by omega)) (by omega) (by omega) (by omega) (fun v515 m513 hv515 hJ514 => ?_)
                show X (EE s) d 125 62 [(0, zr 4 40), (1, zi a1), (2, zi a2)] [zi v515] m513 _
                refine X.ifeq 69 65 i125_62 rfl rfl rfl (fun h516 => ?_) (fun h516 => ?_)
                · refine X.cut [] i125_69 rfl ?_
                  refine X.iconst 70 i125_69 rfl rfl (by decide) ?_
                  refine X.retz i125_70 rfl t125 (by omega) ?_
                  exact hQ 0 m513 (by first | trivial | omega) (hJ514.up (by omega)) 
                · refine X.iconst 66 i125_65 rfl rfl (by decide) ?_
                  refine X.goto 70 i125_66 rfl rfl ?_
                  refine X.cut [] i125_70 rfl ?_
                  refine X.retz i125_70 rfl t125 (by omega) ?_
                  exact hQ 1 m513 (by first | trivial | omega) (hJ514.up (by omega)) 
          · refine X.aload_n 32 i125_31 rfl rfl rfl ?_
            refine X.getF 35 i125_32 rfl rfl (by decide) rfl rfl ?_
            refine X.getR 38 i125_35 rfl rfl (by decide) rfl rfl ?_
            refine X.iload_n 39 i125_38 rfl rfl rfl ?_
            refine X.callv 42 [zi a1] [] [(0, zr 0 11), (1, zi a1)] i125_39 rfl (by decide) rfl rfl (by omega) rfl rfl (by decide) rfl t126 (Nat.le_of_ble_eq_true rfl) (Nat.le_of_ble_eq_true rfl) rfl ?_
            refine c126_1 (B := B) 0 a1 (by omega) (hJ.up (by omega)) (by omega) (by omega) (fun v519 m517 hv519 hJ518 => ?_)
            show X (EE s) d 125 42 [(0, zr 4 40), (1, zi a1), (2, zi a2)] [zi v519] m517 _
            refine X.retz i125_42 rfl t125 (by omega) ?_
            exact hQ v519 m517 (by first | trivial | omega) (hJ518.up (by omega)) 
        · refine X.cut [] i125_24 rfl ?_
          refine X.iconst 25 i125_24 rfl rfl (by decide) ?_
          refine X.retz i125_25 rfl t125 (by omega) ?_
          exact hQ 0 m (by first | trivial | omega) (hJ.up (by omega)) 
  · refine X.aload_n 8 i17_7 rfl rfl rfl ?_
    refine X.dup 9 i17_8 rfl rfl rfl ?_
    refine X.getIr 12 3 i17_9 rfl rfl (by decide) rfl rfl rfl (fun h520 => ?_)
    refine X.iconst 13 i17_12 rfl rfl (by decide) ?_
    refine X.iiF 14 .iadd (fun x y => x + y) i17_13 rfl rfl rfl (fun _ _ => rfl) (fun z521 hz521 => ?_)
    refine X.putI' 17 3 i17_14 rfl rfl (by decide) rfl rfl rfl (fun hrm522 m522 hm522 => ?_)
    have hJ523 := w39_3 hJ hm522 hrm522
    refine X.aload_n 18 i17_17 rfl rfl rfl ?_
    refine X.getZ 21 0 i17_18 rfl rfl (by decide) rfl rfl rfl (fun h524 => ?_)
    refine X.retz i17_21 rfl t17 (by omega) ?_
    show X (EE s) d 125 10 [(0, zr 4 40), (1, zi a1), (2, zi a2)] [zi (m522 0 39 0)] m522 _
    refine X.ifne 24 13 i125_10 rfl rfl rfl (fun h525 => ?_) (fun h525 => ?_)
    · refine X.cut [] i125_24 rfl ?_
      refine X.iconst 25 i125_24 rfl rfl (by decide) ?_
      refine X.retz i125_25 rfl t125 (by omega) ?_
      exact hQ 0 m522 (by first | trivial | omega) (hJ523.up (by omega)) 
    · refine X.iload_n 14 i125_13 rfl rfl rfl ?_
      refine X.iflt 24 17 i125_14 rfl rfl rfl (fun h526 => ?_) (fun h526 => ?_)
      · refine X.cut [] i125_24 rfl ?_
        refine X.iconst 25 i125_24 rfl rfl (by decide) ?_
        refine X.retz i125_25 rfl t125 (by omega) ?_
        exact hQ 0 m522 (by first | trivial | omega) (hJ523.up (by omega)) 
      · refine X.iload_n 18 i125_17 rfl rfl rfl ?_
        refine X.sipush 21 i125_18 rfl rfl (by decide) ?_
        refine X.icmplt 26 24 i125_21 rfl rfl rfl (fun h527 => ?_) (fun h527 => ?_)
        · refine X.iload_n 27 i125_26 rfl rfl rfl ?_
          refine X.iconst 28 i125_27 rfl rfl (by decide) ?_
          refine X.icmpne 43 31 i125_28 rfl rfl rfl (fun h528 => ?_) (fun h528 => ?_)
          · refine X.iload_n 44 i125_43 rfl rfl rfl ?_
            refine X.calls 47 [zi a2] [] [(0, zi a2)] i125_44 (by decide) rfl rfl (by omega) rfl rfl t79 (Nat.le_of_ble_eq_true rfl) (Nat.le_of_ble_eq_true rfl) rfl ?_
            refine X.iload_n 1 i79_0 rfl rfl rfl ?_
            refine X.iflt 14 4 i79_1 rfl rfl rfl (fun h529 => ?_) (fun h529 => ?_)
            · refine X.cut [] i79_14 rfl ?_
              refine X.iconst 15 i79_14 rfl rfl (by decide) ?_
              refine X.retz i79_15 rfl t79 (by omega) ?_
              show X (EE s) d 125 47 [(0, zr 4 40), (1, zi a1), (2, zi a2)] [zi 0] m522 _
              refine X.ifeq 69 50 i125_47 rfl rfl rfl (fun h530 => ?_) (fun h530 => (by exfalso; omega))
              refine X.cut [] i125_69 rfl ?_
              refine X.iconst 70 i125_69 rfl rfl (by decide) ?_
              refine X.retz i125_70 rfl t125 (by omega) ?_
              exact hQ 0 m522 (by first | trivial | omega) (hJ523.up (by omega)) 
            · refine X.iload_n 5 i79_4 rfl rfl rfl ?_
              refine X.bipush 7 i79_5 rfl rfl (by decide) ?_
              refine X.icmpge 14 10 i79_7 rfl rfl rfl (fun h531 => ?_) (fun h531 => ?_)
              · refine X.cut [] i79_14 rfl ?_
                refine X.iconst 15 i79_14 rfl rfl (by decide) ?_
                refine X.retz i79_15 rfl t79 (by omega) ?_
                show X (EE s) d 125 47 [(0, zr 4 40), (1, zi a1), (2, zi a2)] [zi 0] m522 _
                refine X.ifeq 69 50 i125_47 rfl rfl rfl (fun h532 => ?_) (fun h532 => (by exfalso; omega))
                refine X.cut [] i125_69 rfl ?_
                refine X.iconst 70 i125_69 rfl rfl (by decide) ?_
                refine X.retz i125_70 rfl t125 (by omega) ?_
                exact hQ 0 m522 (by first | trivial | omega) (hJ523.up (by omega)) 
              · refine X.iconst 11 i79_10 rfl rfl (by decide) ?_
                refine X.goto 15 i79_11 rfl rfl ?_
                refine X.cut [] i79_15 rfl ?_
                refine X.retz i79_15 rfl t79 (by omega) ?_
                show X (EE s) d 125 47 [(0, zr 4 40), (1, zi a1), (2, zi a2)] [zi 1] m522 _
                refine X.ifeq 69 50 i125_47 rfl rfl rfl (fun h533 => (by exfalso; omega)) (fun h533 => ?_)
                refine X.aload_n 51 i125_50 rfl rfl rfl ?_
                refine X.getF 54 i125_51 rfl rfl (by decide) rfl rfl ?_
                refine X.getR 57 i125_54 rfl rfl (by decide) rfl rfl ?_
                refine X.iload_n 58 i125_57 rfl rfl rfl ?_
                refine X.iload_n 59 i125_58 rfl rfl rfl ?_
                refine X.callv 62 [zi a1, zi a2] [] [(0, zr 0 11), (1, zi a1), (2, zi a2)] i125_59 rfl (by decide) rfl rfl (by omega) rfl rfl (by decide) rfl t109 (Nat.le_of_ble_eq_true rfl) (Nat.le_of_ble_eq_true rfl) rfl ?_
                refine c109_1 (B := B) 0 a1 a2 (by omega) (hJ523.up (by omega)) (by omega) (by omega) (by omega) (fun v536 m534 hv536 hJ535 => ?_)
                show X (EE s) d 125 62 [(0, zr 4 40), (1, zi a1), (2, zi a2)] [zi v536] m534 _
                refine X.ifeq 69 65 i125_62 rfl rfl rfl (fun h537 => ?_) (fun h537 => ?_)
                · refine X.cut [] i125_69 rfl ?_
                  refine X.iconst 70 i125_69 rfl rfl (by decide) ?_
                  refine X.retz i125_70 rfl t125 (by omega) ?_
                  exact hQ 0 m534 (by first | trivial | omega) (hJ535.up (by omega)) 
                · refine X.iconst 66 i125_65 rfl rfl (by decide) ?_
                  refine X.goto 70 i125_66 rfl rfl ?_
                  refine X.cut [] i125_70 rfl ?_
                  refine X.retz i125_70 rfl t125 (by omega) ?_
                  exact hQ 1 m534 (by first | trivial | omega) (hJ535.up (by omega)) 
          · refine X.aload_n 32 i125_31 rfl rfl rfl ?_
            refine X.getF 35 i125_32 rfl rfl (by decide) rfl rfl ?_
            refine X.getR 38 i125_35 rfl rfl (by decide) rfl rfl ?_
            refine X.iload_n 39 i125_38 rfl rfl rfl ?_
            refine X.callv 42 [zi a1] [] [(0, zr 0 11), (1, zi a1)] i125_39 rfl (by decide) rfl rfl (by omega) rfl rfl (by decide) rfl t126 (Nat.le_of_ble_eq_true rfl) (Nat.le_of_ble_eq_true rfl) rfl ?_
            refine c126_1 (B := B) 0 a1 (by omega) (hJ523.up (by omega)) (by omega) (by omega) (fun v540 m538 hv540 hJ539 => ?_)
            show X (EE s) d 125 42 [(0, zr 4 40), (1, zi a1), (2, zi a2)] [zi v540] m538 _
            refine X.retz i125_42 rfl t125 (by omega) ?_
            exact hQ v540 m538 (by first | trivial | omega) (hJ539.up (by omega)) 
        · refine X.cut [] i125_24 rfl ?_
          refine X.iconst 25 i125_24 rfl rfl (by decide) ?_
          refine X.retz i125_25 rfl t125 (by omega) ?_
          exact hQ 0 m522 (by first | trivial | omega) (hJ523.up (by omega)) 
theorem l249_4_1 {s : Nat × (Nat → Int32)} {S : zS} {m0 m : zM} {B : Int} {d : Nat} {Q : Option zV → zM → Prop} (hd : 13 ≤ d) (hJ : J S m0 B m) (hB9 : B ≤ 1000000000)
    (K42 : ∀ (x1 : Int) , ((-2147483648) ≤ x1 ∧ x1 ≤ 2147483647) → X (EE s) d 249 42 [(1, zi x1)] [] m Q) :
    ∀ (n : Nat) (y1 y2 : Int) , ((-2147483648) ≤ y1 ∧ y1 ≤ 2147483647) → (0 ≤ y2 ∧ y2 ≤ 365) → 365 - y2 < (n : Int) → X (EE s) d 249 4 [(0, zr 4 44), (1, zi y1), (2, zi y2)] [] m Q := by
  intro n
  induction n with
  | zero =>
    intro y1 y2 hy1 hy2 hn
    exfalso
    omega
  | succ n ih =>
    intro y1 y2 hy1 hy2 hn
    refine X.iload_n 5 i249_4 rfl rfl rfl ?_
    refine X.sipush 8 i249_5 rfl rfl (by decide) ?_
    refine X.icmpge 42 11 i249_8 rfl rfl rfl (fun h522 => ?_) (fun h522 => ?_)
    · refine X.cut [(1, zi y1)] i249_42 rfl ?_
      exact K42 y1 (by first | trivial | omega)
    · refine X.iload_n 12 i249_11 rfl rfl rfl ?_
      refine X.aload_n 13 i249_12 rfl rfl rfl ?_
      refine X.getF 16 i249_13 rfl rfl (by decide) rfl rfl ?_
      refine X.sipush 19 i249_16 rfl rfl (by decide) ?_
      refine X.iload_n 20 i249_19 rfl rfl rfl ?_
      refine X.iadd 21 i249_20 rfl rfl (by omega) ?_
      refine X.lald 22 i249_21 rfl rfl (by decide) rfl (by omega) ?_
      have h523 := r45_423 hJ 4 (i := (423 + y2)) (by omega)
      refine X.ldc2 25 i249_22 rfl rfl (by decide) ?_
      refine X.lcmp 26 i249_25 rfl rfl (fun z524 hz524 => ?_)
      refine X.ifne 33 29 i249_26 rfl rfl rfl (fun h525 => ?_) (fun h525 => ?_)
      · have h525c : (m 4 45 (423 + y2)) ≠ (-1) := by omega
        clear h525 hz524
        refine X.cut [(0, zr 4 44), (2, zi y2)] i249_33 rfl ?_
        refine X.iconst 34 i249_33 rfl rfl (by decide) ?_
        refine X.iiF 35 .iadd (fun x y => x + y) i249_34 rfl rfl rfl (fun _ _ => rfl) (fun z526 hz526 => ?_)
        refine X.istore_n 36 [(0, zr 4 44), (1, zi z526), (2, zi y2)] i249_35 rfl rfl rfl ?_
        refine X.iinc 39 [(0, zr 4 44), (1, zi z526), (2, zi (y2 + 1))] i249_36 rfl rfl rfl (by omega) rfl ?_
        refine X.goto 4 i249_39 rfl rfl ?_
        exact ih z526 (y2 + 1) (by omega) (by omega) (by omega)
      · have h525c : (m 4 45 (423 + y2)) = (-1) := by omega
        clear h525 hz524
        refine X.iconst 30 i249_29 rfl rfl (by decide) ?_
        refine X.goto 34 i249_30 rfl rfl ?_
        refine X.cut [(0, zr 4 44), (2, zi y2)] i249_34 rfl ?_
        refine X.iadd 35 i249_34 rfl rfl (by omega) ?_
        refine X.istore_n 36 [(0, zr 4 44), (1, zi (y1 + 0)), (2, zi y2)] i249_35 rfl rfl rfl ?_
        refine X.iinc 39 [(0, zr 4 44), (1, zi (y1 + 0)), (2, zi (y2 + 1))] i249_36 rfl rfl rfl (by omega) rfl ?_
        refine X.goto 4 i249_39 rfl rfl ?_
        exact ih (y1 + 0) (y2 + 1) (by omega) (by omega) (by omega)
-- WorkMeterModel.specials
theorem c249_1 {s : Nat × (Nat → Int32)} {S : zS} {m0 m : zM} {B : Int} {d : Nat} {Q : Option zV → zM → Prop} (hd : 13 ≤ d) (hJ : J S m0 B m) (hB : B + 0 ≤ 1000000000) (hQ : ∀ (v : Int), ((-2147483648) ≤ v ∧ v ≤ 2147483647) → Q (some (zi v)) m) : X (EE s) d 249 0 [(0, zr 4 44)] [] m Q := by
  refine X.iconst 1 i249_0 rfl rfl (by decide) ?_
  refine X.istore_n 2 [(0, zr 4 44), (1, zi 0)] i249_1 rfl rfl rfl ?_
  refine X.iconst 3 i249_2 rfl rfl (by decide) ?_
  refine X.istore_n 4 [(0, zr 4 44), (1, zi 0), (2, zi 0)] i249_3 rfl rfl rfl ?_
  refine l249_4_1 (s := s) (S := S) (m0 := m0) (m := m) (B := B) (d := d)   (by omega) (hJ.up (by omega)) (by omega) (fun y501 hby501 => ?_) ((365 - 0 : Int).toNat + 1) 0 0 (by omega) (by omega) (by omega)
  refine X.iload_n 43 i249_42 rfl rfl rfl ?_
  refine X.reti i249_43 rfl t249 ?_
  exact hQ y501 (by first | trivial | omega) 
-- WorkMeterModel.special
theorem c248_1 {s : Nat × (Nat → Int32)} {S : zS} {m0 m : zM} {B : Int} {d : Nat} {Q : Option zV → zM → Prop} (a1 a2 : Int) (hd : 14 ≤ d) (hJ : J S m0 B m) (hB : B + 0 ≤ 1000000000) (ha1 : (-2147483648) ≤ a1 ∧ a1 ≤ 2147483647) (ha2 : (-2147483648) ≤ a2 ∧ a2 ≤ 2147483647) (hQ : ∀ (v : Int) m', (0 ≤ v ∧ v ≤ 1) → J S m0 (B) m' → Q (some (zi v)) m') : X (EE s) d 248 0 [(0, zr 4 44), (1, zi a1), (2, zi a2)] [] m Q := by
  refine X.aload_n 1 i248_0 rfl rfl rfl ?_
  refine X.callv 4 [] [] [(0, zr 4 44)] i248_1 rfl (by decide) rfl rfl (by omega) rfl rfl (by decide) rfl t203 (Nat.le_of_ble_eq_true rfl) (Nat.le_of_ble_eq_true rfl) rfl ?_
  refine X.aload_n 1 i203_0 rfl rfl rfl ?_
  refine X.getF 4 i203_1 rfl rfl (by decide) rfl rfl ?_
  refine X.sipush 7 i203_4 rfl rfl (by decide) ?_
  refine X.dup2 8 i203_7 rfl rfl ?_
  refine X.lald 9 i203_8 rfl rfl (by decide) rfl (by omega) ?_
  refine X.aload_n 10 i203_9 rfl rfl rfl ?_
  refine X.getF 13 i203_10 rfl rfl (by decide) rfl rfl ?_
  refine X.sipush 16 i203_13 rfl rfl (by decide) ?_
  refine X.lald 17 i203_16 rfl rfl (by decide) rfl (by omega) ?_
  have h501 := r45_1614 hJ 4
  refine X.llF 18 .ladd (fun x y => x + y) i203_17 rfl rfl rfl (fun _ _ => rfl) (fun z502 hz502 => ?_)
  refine X.last' 19 i203_18 rfl rfl (by decide) rfl (by omega) (fun hrm503 m503 hm503 => ?_)
  have hJ504 := w45_1618 hJ hm503 hrm503
  refine X.aload_n 20 i203_19 rfl rfl rfl ?_
  refine X.getF 23 i203_20 rfl rfl (by decide) rfl rfl ?_
  refine X.sipush 26 i203_23 rfl rfl (by decide) ?_
  refine X.lald 27 i203_26 rfl rfl (by decide) rfl (by omega) ?_
  have h505 := r45_1614 hJ504 4
  refine X.lconst (y := 1) 28 i203_27 rfl rfl rfl ?_
  refine X.lcmp 29 i203_28 rfl rfl (fun z506 hz506 => ?_)
  refine X.ifne 36 32 i203_29 rfl rfl rfl (fun h507 => ?_) (fun h507 => ?_)
  · have h507c : (m503 4 45 1614) ≠ 1 := by omega
    clear h507 hz506
    refine X.cut [] i203_36 rfl ?_
    refine X.iconst 37 i203_36 rfl rfl (by decide) ?_
    refine X.retz i203_37 rfl t203 (by omega) ?_
    show X (EE s) d 248 4 [(0, zr 4 44), (1, zi a1), (2, zi a2)] [zi 0] m503 _
    refine X.ifne 31 7 i248_4 rfl rfl rfl (fun h508 => (by exfalso; omega)) (fun h508 => ?_)
    refine X.iload_n 8 i248_7 rfl rfl rfl ?_
    refine X.i2l 9 i248_8 rfl rfl ?_
    refine X.lconst (y := 0) 10 i248_9 rfl rfl rfl ?_
    refine X.ldc2 13 i248_10 rfl rfl (by decide) ?_
    refine X.calls 16 [zl a1, zl 0, zl 364] [] [(0, zl a1), (2, zl 0), (4, zl 364)] i248_13 (by decide) rfl rfl (by omega) rfl rfl t204 (Nat.le_of_ble_eq_true rfl) (Nat.le_of_ble_eq_true rfl) rfl ?_
    refine X.lload_n 1 i204_0 rfl rfl rfl ?_
    refine X.lload_n 2 i204_1 rfl rfl rfl ?_
    refine X.lcmp 3 i204_2 rfl rfl (fun z509 hz509 => ?_)
    refine X.iflt 17 6 i204_3 rfl rfl rfl (fun h510 => ?_) (fun h510 => ?_)
    · have h510c : a1 < 0 := by omega
      clear h510 hz509
      refine X.cut [] i204_17 rfl ?_
      refine X.iconst 18 i204_17 rfl rfl (by decide) ?_
      refine X.retz i204_18 rfl t204 (by omega) ?_
      show X (EE s) d 248 16 [(0, zr 4 44), (1, zi a1), (2, zi a2)] [zi 0] m503 _
      refine X.ifeq 31 19 i248_16 rfl rfl rfl (fun h511 => ?_) (fun h511 => (by exfalso; omega))
      refine X.cut [] i248_31 rfl ?_
      refine X.iconst 32 i248_31 rfl rfl (by decide) ?_
      refine X.retz i248_32 rfl t248 (by omega) ?_
      exact hQ 0 m503 (by first | trivial | omega) (hJ504.up (by omega)) 
    · have h510c : a1 ≥ 0 := by omega
      clear h510 hz509
      refine X.lload_n 7 i204_6 rfl rfl rfl ?_
      refine X.lload 9 i204_7 rfl rfl rfl ?_
      refine X.lcmp 10 i204_9 rfl rfl (fun z512 hz512 => ?_)
      refine X.ifgt 17 13 i204_10 rfl rfl rfl (fun h513 => ?_) (fun h513 => ?_)
      · have h513c : a1 > 364 := by omega
        clear h513 hz512
        refine X.cut [] i204_17 rfl ?_
        refine X.iconst 18 i204_17 rfl rfl (by decide) ?_
        refine X.retz i204_18 rfl t204 (by omega) ?_
        show X (EE s) d 248 16 [(0, zr 4 44), (1, zi a1), (2, zi a2)] [zi 0] m503 _
        refine X.ifeq 31 19 i248_16 rfl rfl rfl (fun h514 => ?_) (fun h514 => (by exfalso; omega))
        refine X.cut [] i248_31 rfl ?_
        refine X.iconst 32 i248_31 rfl rfl (by decide) ?_
        refine X.retz i248_32 rfl t248 (by omega) ?_
        exact hQ 0 m503 (by first | trivial | omega) (hJ504.up (by omega)) 
      · have h513c : a1 ≤ 364 := by omega
        clear h513 hz512
        refine X.iconst 14 i204_13 rfl rfl (by decide) ?_
        refine X.goto 18 i204_14 rfl rfl ?_
        refine X.cut [] i204_18 rfl ?_
        refine X.retz i204_18 rfl t204 (by omega) ?_
        show X (EE s) d 248 16 [(0, zr 4 44), (1, zi a1), (2, zi a2)] [zi 1] m503 _
        refine X.ifeq 31 19 i248_16 rfl rfl rfl (fun h515 => (by exfalso; omega)) (fun h515 => ?_)
        refine X.iload_n 20 i248_19 rfl rfl rfl ?_
        refine X.iconst 21 i248_20 rfl rfl (by decide) ?_
        refine X.icmpeq 33 24 i248_21 rfl rfl rfl (fun h516 => ?_) (fun h516 => ?_)
        · refine X.aload_n 34 i248_33 rfl rfl rfl ?_
          refine X.getF 37 i248_34 rfl rfl (by decide) rfl rfl ?_
          refine X.sipush 40 i248_37 rfl rfl (by decide) ?_
          refine X.iload_n 41 i248_40 rfl rfl rfl ?_
          refine X.iadd 42 i248_41 rfl rfl (by omega) ?_
          refine X.lald 43 i248_42 rfl rfl (by decide) rfl (by omega) ?_
          have h517 := r45_423 hJ504 4 (i := (423 + a1)) (by omega)
          refine X.ldc2 46 i248_43 rfl rfl (by decide) ?_
          refine X.lcmp 47 i248_46 rfl rfl (fun z518 hz518 => ?_)
          refine X.ifeq 54 50 i248_47 rfl rfl rfl (fun h519 => ?_) (fun h519 => ?_)
          · have h519c : (m503 4 45 (423 + a1)) = (-1) := by omega
            clear h519 hz518
            refine X.iconst 55 i248_54 rfl rfl (by decide) ?_
            refine X.istore_n 56 [(0, zr 4 44), (1, zi a1), (2, zi a2), (3, zi 0)] i248_55 rfl rfl rfl ?_
            refine X.iload_n 57 i248_56 rfl rfl rfl ?_
            refine X.iconst 58 i248_57 rfl rfl (by decide) ?_
            refine X.icmpne 68 61 i248_58 rfl rfl rfl (fun h520 => (by exfalso; omega)) (fun h520 => ?_)
            refine X.iload_n 62 i248_61 rfl rfl rfl ?_
            refine X.ifne 83 65 i248_62 rfl rfl rfl (fun h521 => (by exfalso; omega)) (fun h521 => ?_)
            refine X.goto 81 i248_65 rfl rfl ?_
            refine X.cut [] i248_81 rfl ?_
            refine X.iconst 82 i248_81 rfl rfl (by decide) ?_
            refine X.retz i248_82 rfl t248 (by omega) ?_
            exact hQ 0 m503 (by first | trivial | omega) (hJ504.up (by omega)) 
          · have h519c : (m503 4 45 (423 + a1)) ≠ (-1) := by omega
            clear h519 hz518
            refine X.iconst 51 i248_50 rfl rfl (by decide) ?_
            refine X.goto 55 i248_51 rfl rfl ?_
            refine X.istore_n 56 [(0, zr 4 44), (1, zi a1), (2, zi a2), (3, zi 1)] i248_55 rfl rfl rfl ?_
            refine X.iload_n 57 i248_56 rfl rfl rfl ?_
            refine X.iconst 58 i248_57 rfl rfl (by decide) ?_
            refine X.icmpne 68 61 i248_58 rfl rfl rfl (fun h522 => (by exfalso; omega)) (fun h522 => ?_)
            refine X.iload_n 62 i248_61 rfl rfl rfl ?_
            refine X.ifne 83 65 i248_62 rfl rfl rfl (fun h523 => ?_) (fun h523 => (by exfalso; omega))
            refine X.cut [(0, zr 4 44), (1, zi a1), (2, zi a2)] i248_83 rfl ?_
            refine X.aload_n 84 i248_83 rfl rfl rfl ?_
            refine X.getF 87 i248_84 rfl rfl (by decide) rfl rfl ?_
            refine X.sipush 90 i248_87 rfl rfl (by decide) ?_
            refine X.iload_n 91 i248_90 rfl rfl rfl ?_
            refine X.iadd 92 i248_91 rfl rfl (by omega) ?_
            refine X.iload_n 93 i248_92 rfl rfl rfl ?_
            refine X.i2l 94 i248_93 rfl rfl ?_
            refine X.last' 95 i248_94 rfl rfl (by decide) rfl (by omega) (fun hrm524 m524 hm524 => ?_)
            have hJ525 := w45_423 hJ504 hm524 (by omega) (by omega)
            refine X.iconst 96 i248_95 rfl rfl (by decide) ?_
            refine X.retz i248_96 rfl t248 (by omega) ?_
            exact hQ 1 m524 (by first | trivial | omega) (hJ525.up (by omega)) 
        · refine X.iload_n 25 i248_24 rfl rfl rfl ?_
          refine X.calls 28 [zi a2] [] [(0, zi a2)] i248_25 (by decide) rfl rfl (by omega) rfl rfl t241 (Nat.le_of_ble_eq_true rfl) (Nat.le_of_ble_eq_true rfl) rfl ?_
          refine X.iload_n 1 i241_0 rfl rfl rfl ?_
          refine X.i2l 2 i241_1 rfl rfl ?_
          refine X.lconst (y := 0) 3 i241_2 rfl rfl rfl ?_
          refine X.ldc2 6 i241_3 rfl rfl (by decide) ?_
          refine X.calls 9 [zl a2, zl 0, zl 7] [] [(0, zl a2), (2, zl 0), (4, zl 7)] i241_6 (by decide) rfl rfl (by omega) rfl rfl t204 (Nat.le_of_ble_eq_true rfl) (Nat.le_of_ble_eq_true rfl) rfl ?_
          refine X.lload_n 1 i204_0 rfl rfl rfl ?_
          refine X.lload_n 2 i204_1 rfl rfl rfl ?_
          refine X.lcmp 3 i204_2 rfl rfl (fun z526 hz526 => ?_)
          refine X.iflt 17 6 i204_3 rfl rfl rfl (fun h527 => ?_) (fun h527 => ?_)
          · have h527c : a2 < 0 := by omega
            clear h527 hz526
            refine X.cut [] i204_17 rfl ?_
            refine X.iconst 18 i204_17 rfl rfl (by decide) ?_
            refine X.retz i204_18 rfl t204 (by omega) ?_
            show X (EE s) (d - 1) 241 9 [(0, zi a2)] [zi 0] m503 _
            refine X.retz i241_9 rfl t241 (by omega) ?_
            show X (EE s) d 248 28 [(0, zr 4 44), (1, zi a1), (2, zi a2)] [zi 0] m503 _
            refine X.ifne 33 31 i248_28 rfl rfl rfl (fun h528 => (by exfalso; omega)) (fun h528 => ?_)
            refine X.cut [] i248_31 rfl ?_
            refine X.iconst 32 i248_31 rfl rfl (by decide) ?_
            refine X.retz i248_32 rfl t248 (by omega) ?_
            exact hQ 0 m503 (by first | trivial | omega) (hJ504.up (by omega)) 
          · have h527c : a2 ≥ 0 := by omega
            clear h527 hz526
            refine X.lload_n 7 i204_6 rfl rfl rfl ?_
            refine X.lload 9 i204_7 rfl rfl rfl ?_
            refine X.lcmp 10 i204_9 rfl rfl (fun z529 hz529 => ?_)
            refine X.ifgt 17 13 i204_10 rfl rfl rfl (fun h530 => ?_) (fun h530 => ?_)
            · have h530c : a2 > 7 := by omega
              clear h530 hz529
              refine X.cut [] i204_17 rfl ?_
              refine X.iconst 18 i204_17 rfl rfl (by decide) ?_
              refine X.retz i204_18 rfl t204 (by omega) ?_
              show X (EE s) (d - 1) 241 9 [(0, zi a2)] [zi 0] m503 _
              refine X.retz i241_9 rfl t241 (by omega) ?_
              show X (EE s) d 248 28 [(0, zr 4 44), (1, zi a1), (2, zi a2)] [zi 0] m503 _
              refine X.ifne 33 31 i248_28 rfl rfl rfl (fun h531 => (by exfalso; omega)) (fun h531 => ?_)
              refine X.cut [] i248_31 rfl ?_
              refine X.iconst 32 i248_31 rfl rfl (by decide) ?_
              refine X.retz i248_32 rfl t248 (by omega) ?_
              exact hQ 0 m503 (by first | trivial | omega) (hJ504.up (by omega)) 
            · have h530c : a2 ≤ 7 := by omega
              clear h530 hz529
              refine X.iconst 14 i204_13 rfl rfl (by decide) ?_
              refine X.goto 18 i204_14 rfl rfl ?_
              refine X.cut [] i204_18 rfl ?_
              refine X.retz i204_18 rfl t204 (by omega) ?_
              show X (EE s) (d - 1) 241 9 [(0, zi a2)] [zi 1] m503 _
              refine X.retz i241_9 rfl t241 (by omega) ?_
              show X (EE s) d 248 28 [(0, zr 4 44), (1, zi a1), (2, zi a2)] [zi 1] m503 _
              refine X.ifne 33 31 i248_28 rfl rfl rfl (fun h532 => ?_) (fun h532 => (by exfalso; omega))
              refine X.aload_n 34 i248_33 rfl rfl rfl ?_
              refine X.getF 37 i248_34 rfl rfl (by decide) rfl rfl ?_
              refine X.sipush 40 i248_37 rfl rfl (by decide) ?_
              refine X.iload_n 41 i248_40 rfl rfl rfl ?_
              refine X.iadd 42 i248_41 rfl rfl (by omega) ?_
              refine X.lald 43 i248_42 rfl rfl (by decide) rfl (by omega) ?_
              have h533 := r45_423 hJ504 4 (i := (423 + a1)) (by omega)
              refine X.ldc2 46 i248_43 rfl rfl (by decide) ?_
              refine X.lcmp 47 i248_46 rfl rfl (fun z534 hz534 => ?_)
              refine X.ifeq 54 50 i248_47 rfl rfl rfl (fun h535 => ?_) (fun h535 => ?_)
              · have h535c : (m503 4 45 (423 + a1)) = (-1) := by omega
                clear h535 hz534
                refine X.iconst 55 i248_54 rfl rfl (by decide) ?_
                refine X.istore_n 56 [(0, zr 4 44), (1, zi a1), (2, zi a2), (3, zi 0)] i248_55 rfl rfl rfl ?_
                refine X.iload_n 57 i248_56 rfl rfl rfl ?_
                refine X.iconst 58 i248_57 rfl rfl (by decide) ?_
                refine X.icmpne 68 61 i248_58 rfl rfl rfl (fun h536 => ?_) (fun h536 => (by exfalso; omega))
                refine X.iload_n 69 i248_68 rfl rfl rfl ?_
                refine X.ifne 83 72 i248_69 rfl rfl rfl (fun h537 => (by exfalso; omega)) (fun h537 => ?_)
                refine X.aload_n 73 i248_72 rfl rfl rfl ?_
                refine X.callv 76 [] [] [(0, zr 4 44)] i248_73 rfl (by decide) rfl rfl (by omega) rfl rfl (by decide) rfl t249 (Nat.le_of_ble_eq_true rfl) (Nat.le_of_ble_eq_true rfl) rfl ?_
                refine c249_1 (B := B)   (by omega) (hJ504.up (by omega)) (by omega)  (fun v540 hv540 => ?_)
                show X (EE s) d 248 76 [(0, zr 4 44), (1, zi a1), (2, zi a2), (3, zi 0)] [zi v540] m503 _
                refine X.bipush 78 i248_76 rfl rfl (by decide) ?_
                refine X.icmpne 83 81 i248_78 rfl rfl rfl (fun h541 => ?_) (fun h541 => ?_)
                · refine X.cut [(0, zr 4 44), (1, zi a1), (2, zi a2)] i248_83 rfl ?_
                  refine X.aload_n 84 i248_83 rfl rfl rfl ?_
                  refine X.getF 87 i248_84 rfl rfl (by decide) rfl rfl ?_
                  refine X.sipush 90 i248_87 rfl rfl (by decide) ?_
                  refine X.iload_n 91 i248_90 rfl rfl rfl ?_
                  refine X.iadd 92 i248_91 rfl rfl (by omega) ?_
                  refine X.iload_n 93 i248_92 rfl rfl rfl ?_
                  refine X.i2l 94 i248_93 rfl rfl ?_
                  refine X.last' 95 i248_94 rfl rfl (by decide) rfl (by omega) (fun hrm542 m542 hm542 => ?_)
                  have hJ543 := w45_423 hJ504 hm542 (by omega) (by omega)
                  refine X.iconst 96 i248_95 rfl rfl (by decide) ?_
                  refine X.retz i248_96 rfl t248 (by omega) ?_
                  exact hQ 1 m542 (by first | trivial | omega) (hJ543.up (by omega)) 
                · refine X.cut [] i248_81 rfl ?_
                  refine X.iconst 82 i248_81 rfl rfl (by decide) ?_
                  refine X.retz i248_82 rfl t248 (by omega) ?_
                  exact hQ 0 m503 (by first | trivial | omega) (hJ504.up (by omega)) 
              · have h535c : (m503 4 45 (423 + a1)) ≠ (-1) := by omega
                clear h535 hz534
                refine X.iconst 51 i248_50 rfl rfl (by decide) ?_
                refine X.goto 55 i248_51 rfl rfl ?_
                refine X.istore_n 56 [(0, zr 4 44), (1, zi a1), (2, zi a2), (3, zi 1)] i248_55 rfl rfl rfl ?_
                refine X.iload_n 57 i248_56 rfl rfl rfl ?_
                refine X.iconst 58 i248_57 rfl rfl (by decide) ?_
                refine X.icmpne 68 61 i248_58 rfl rfl rfl (fun h544 => ?_) (fun h544 => (by exfalso; omega))
                refine X.iload_n 69 i248_68 rfl rfl rfl ?_
                refine X.ifne 83 72 i248_69 rfl rfl rfl (fun h545 => ?_) (fun h545 => (by exfalso; omega))
                refine X.cut [(0, zr 4 44), (1, zi a1), (2, zi a2)] i248_83 rfl ?_
                refine X.aload_n 84 i248_83 rfl rfl rfl ?_
                refine X.getF 87 i248_84 rfl rfl (by decide) rfl rfl ?_
                refine X.sipush 90 i248_87 rfl rfl (by decide) ?_
                refine X.iload_n 91 i248_90 rfl rfl rfl ?_
                refine X.iadd 92 i248_91 rfl rfl (by omega) ?_
                refine X.iload_n 93 i248_92 rfl rfl rfl ?_
                refine X.i2l 94 i248_93 rfl rfl ?_
                refine X.last' 95 i248_94 rfl rfl (by decide) rfl (by omega) (fun hrm546 m546 hm546 => ?_)
                have hJ547 := w45_423 hJ504 hm546 (by omega) (by omega)
                refine X.iconst 96 i248_95 rfl rfl (by decide) ?_
                refine X.retz i248_96 rfl t248 (by omega) ?_
                exact hQ 1 m546 (by first | trivial | omega) (hJ547.up (by omega)) 
  · have h507c : (m503 4 45 1614) = 1 := by omega
    clear h507 hz506
    refine X.iconst 33 i203_32 rfl rfl (by decide) ?_
    refine X.goto 37 i203_33 rfl rfl ?_
    refine X.cut [] i203_37 rfl ?_
    refine X.retz i203_37 rfl t203 (by omega) ?_
    show X (EE s) d 248 4 [(0, zr 4 44), (1, zi a1), (2, zi a2)] [zi 1] m503 _
    refine X.ifne 31 7 i248_4 rfl rfl rfl (fun h548 => ?_) (fun h548 => (by exfalso; omega))
    refine X.cut [] i248_31 rfl ?_
    refine X.iconst 32 i248_31 rfl rfl (by decide) ?_
    refine X.retz i248_32 rfl t248 (by omega) ?_
    exact hQ 0 m503 (by first | trivial | omega) (hJ504.up (by omega)) 
-- WorkMeter$Meter.moveClock
theorem c129_1 {s : Nat × (Nat → Int32)} {S : zS} {m0 m : zM} {B : Int} {d : Nat} {Q : Option zV → zM → Prop} (g0 : Nat) (a1 : Int) (hd : 15 ≤ d) (hJ : J S m0 B m) (hB : B + 2 ≤ 1000000000) (ha1 : 0 ≤ a1 ∧ a1 ≤ 2000000000) (hs0 : S.1 g0 8 9) (hQ : ∀ (v : Int) m', (0 ≤ v ∧ v ≤ 2000000000) → J S m0 (B + 2) m' → (v = m g0 8 9 ∧ m' g0 8 9 = a1) → Q (some (zi v)) m') : X (EE s) d 129 0 [(0, zr g0 8), (1, zi a1)] [] m Q := by
  refine X.aload_n 1 i129_0 rfl rfl rfl ?_
  refine X.getI 4 9 i129_1 rfl rfl (by decide) rfl rfl rfl ?_
  have h501 := r8_9 hJ g0
  refine X.istore_n 5 [(0, zr g0 8), (1, zi a1), (2, zi (m g0 8 9))] i129_4 rfl rfl rfl ?_
  refine X.aload_n 6 i129_5 rfl rfl rfl ?_
  refine X.getR 9 i129_6 rfl rfl (by decide) rfl rfl ?_
  refine X.aload_n 10 i129_9 rfl rfl rfl ?_
  refine X.getI 13 9 i129_10 rfl rfl (by decide) rfl rfl rfl ?_
  refine X.aload_n 14 i129_13 rfl rfl rfl ?_
  refine X.getR 17 i129_14 rfl rfl (by decide) rfl rfl ?_
  refine X.callv 20 [] [zi (m g0 8 9), zr g0 27] [(0, zr g0 9)] i129_17 rfl (by decide) rfl rfl (by omega) rfl rfl (by decide) rfl t36 (Nat.le_of_ble_eq_true rfl) (Nat.le_of_ble_eq_true rfl) rfl ?_
  refine X.iconst 1 i36_0 rfl rfl (by decide) ?_
  refine X.aload_n 2 i36_1 rfl rfl rfl ?_
  refine X.getR 5 i36_2 rfl rfl (by decide) rfl rfl ?_
  refine X.iconst 6 i36_5 rfl rfl (by decide) ?_
  refine X.iald 7 i36_6 rfl rfl (by decide) rfl (by omega) ?_
  have h502 := r10_0 hJ g0 (i := 4) (by omega)
  refine X.maxI 10 i36_7 rfl rfl (by omega) (Nat.le_of_ble_eq_true rfl) ?_
  refine X.reti i36_10 rfl t36 ?_
  show X (EE s) d 129 20 [(0, zr g0 8), (1, zi a1), (2, zi (m g0 8 9))] [zi (max 1 (m g0 10 4)), zi (m g0 8 9), zr g0 27] m _
  refine X.bipush 22 i129_20 rfl rfl (by decide) ?_
  refine X.callv 25 [zi (m g0 8 9), zi (max 1 (m g0 10 4)), zi 64] [] [(0, zr g0 27), (1, zi (m g0 8 9)), (2, zi (max 1 (m g0 10 4))), (3, zi 64)] i129_22 rfl (by decide) rfl rfl (by omega) rfl rfl (by decide) rfl t60 (Nat.le_of_ble_eq_true rfl) (Nat.le_of_ble_eq_true rfl) rfl ?_
  refine c60_1 (S := zfr [] S) (m0 := m) (B := B) g0 (m g0 8 9) (max 1 (m g0 10 4)) 64 (by omega) (hJ.ow.up (by omega)) (by omega) (by omega) (by omega) (by omega) (fun m503 hJ504 => ?_)
  have hJ506 := hJ.trans hJ504 zi_n
  have wt507 : m503 g0 8 9 = (m g0 8 9) := hJ504.eq rfl rfl
  show X (EE s) d 129 25 [(0, zr g0 8), (1, zi a1), (2, zi (m g0 8 9))] [] m503 _
  refine X.aload_n 26 i129_25 rfl rfl rfl ?_
  refine X.iload_n 27 i129_26 rfl rfl rfl ?_
  refine X.putI' 30 9 i129_27 rfl rfl (by decide) rfl rfl rfl (fun hrm508 m508 hm508 => ?_)
  have hJ509 := w8_9 hJ506 hm508 (by omega) hs0
  have wt510 : m508 g0 8 9 = a1 := by rw [hm508]; exact z_upd_same _ _ _ _ _
  clear wt507
  have em508 : m508 g0 8 9 = a1 := by rw [hm508]; exact z_upd_same _ _ _ _ _
  refine X.aload_n 31 i129_30 rfl rfl rfl ?_
  refine X.getR 34 i129_31 rfl rfl (by decide) rfl rfl ?_
  refine X.iload_n 35 i129_34 rfl rfl rfl ?_
  refine X.putI' 38 9 i129_35 rfl rfl (by decide) rfl rfl rfl (fun hrm511 m511 hm511 => ?_)
  have hJ512 := w27_9 hJ509 hm511 (by omega)
  have wt513 : m511 g0 8 9 = a1 := Eq.trans (by rw [hm511]; exact z_upd_o _ _ rfl) wt510
  clear wt510
  refine X.aload_n 39 i129_38 rfl rfl rfl ?_
  refine X.bipush 41 i129_39 rfl rfl (by decide) ?_
  refine X.iload_n 42 i129_41 rfl rfl rfl ?_
  refine X.callv 45 [zi 20, zi (m g0 8 9)] [] [(0, zr g0 8), (1, zi 20), (2, zi (m g0 8 9))] i129_42 rfl (by decide) rfl rfl (by omega) rfl rfl (by decide) rfl t54 (Nat.le_of_ble_eq_true rfl) (Nat.le_of_ble_eq_true rfl) rfl ?_
  refine X.aload_n 1 i54_0 rfl rfl rfl ?_
  refine X.getR 4 i54_1 rfl rfl (by decide) rfl rfl ?_
  refine X.aload_n 5 i54_4 rfl rfl rfl ?_
  refine X.getI 8 9 i54_5 rfl rfl (by decide) rfl rfl rfl ?_
  have h514 := r8_9 hJ512 g0
  refine X.iload_n 9 i54_8 rfl rfl rfl ?_
  refine X.iload_n 10 i54_9 rfl rfl rfl ?_
  refine X.callv 13 [zi (m511 g0 8 9), zi 20, zi (m g0 8 9)] [] [(0, zr g0 37), (1, zi (m511 g0 8 9)), (2, zi 20), (3, zi (m g0 8 9))] i54_10 rfl (by decide) rfl rfl (by omega) rfl rfl (by decide) rfl t55 (Nat.le_of_ble_eq_true rfl) (Nat.le_of_ble_eq_true rfl) rfl ?_
  refine X.aload_n 1 i55_0 rfl rfl rfl ?_
  refine X.getI 4 1 i55_1 rfl rfl (by decide) rfl rfl rfl ?_
  have h515 := r37_1 hJ512 g0
  refine X.bipush 6 i55_4 rfl rfl (by decide) ?_
  refine X.irem 7 i55_6 rfl rfl (by omega) ?_
  refine X.iconst 8 i55_7 rfl rfl (by decide) ?_
  refine X.imul 9 i55_8 rfl rfl (by omega) ?_
  refine X.istore 11 [(0, zr g0 37), (1, zi (m511 g0 8 9)), (2, zi 20), (3, zi (m g0 8 9)), (4, zi (((m511 g0 37 1) % 40) * 3))] i55_9 rfl rfl rfl ?_
  refine X.aload_n 12 i55_11 rfl rfl rfl ?_
  refine X.getR 15 i55_12 rfl rfl (by decide) rfl rfl ?_
  refine X.iload 17 i55_15 rfl rfl rfl ?_
  refine X.iload_n 18 i55_17 rfl rfl rfl ?_
  refine X.iast' 19 i55_18 rfl rfl (by decide) rfl (by omega) (fun hrm516 m516 hm516 => ?_)
  have hJ517 := w38_0 hJ512 hm516 (by omega) hrm516
  have wt518 : m516 g0 8 9 = a1 := Eq.trans (by rw [hm516]; exact z_upd_o _ _ rfl) wt513
  refine X.aload_n 20 i55_19 rfl rfl rfl ?_
  refine X.getR 23 i55_20 rfl rfl (by decide) rfl rfl ?_
  refine X.iload 25 i55_23 rfl rfl rfl ?_
  refine X.iconst 26 i55_25 rfl rfl (by decide) ?_
  refine X.iadd 27 i55_26 rfl rfl (by omega) ?_
  refine X.iload_n 28 i55_27 rfl rfl rfl ?_
  refine X.iast' 29 i55_28 rfl rfl (by decide) rfl (by omega) (fun hrm519 m519 hm519 => ?_)
  have hJ520 := w38_0 hJ517 hm519 (by omega) hrm519
  have wt521 : m519 g0 8 9 = a1 := Eq.trans (by rw [hm519]; exact z_upd_o _ _ rfl) wt518
  clear wt518
  refine X.aload_n 30 i55_29 rfl rfl rfl ?_
  refine X.getR 33 i55_30 rfl rfl (by decide) rfl rfl ?_
  refine X.iload 35 i55_33 rfl rfl rfl ?_
  refine X.iconst 36 i55_35 rfl rfl (by decide) ?_
  refine X.iadd 37 i55_36 rfl rfl (by omega) ?_
  refine X.iload_n 38 i55_37 rfl rfl rfl ?_
  refine X.iast' 39 i55_38 rfl rfl (by decide) rfl (by omega) (fun hrm522 m522 hm522 => ?_)
  have hJ523 := w38_0 hJ520 hm522 (by omega) hrm522
  have wt524 : m522 g0 8 9 = a1 := Eq.trans (by rw [hm522]; exact z_upd_o _ _ rfl) wt521
  clear wt521
  refine X.aload_n 40 i55_39 rfl rfl rfl ?_
  refine X.dup 41 i55_40 rfl rfl rfl ?_
  refine X.getI 44 1 i55_41 rfl rfl (by decide) rfl rfl rfl ?_
  have h525 := r37_1 hJ523 g0
  refine X.iconst 45 i55_44 rfl rfl (by decide) ?_
  refine X.iadd 46 i55_45 rfl rfl (by omega) ?_
  refine X.putI' 49 1 i55_46 rfl rfl (by decide) rfl rfl rfl (fun hrm526 m526 hm526 => ?_)
  have hJ527 := w37_1 (hJ523.up (B' := B + 2) (by omega)) hm526 (by omega)
  have wt528 : m526 g0 8 9 = a1 := Eq.trans (by rw [hm526]; exact z_upd_o _ _ rfl) wt524
  clear wt524
  refine X.retv i55_49 rfl t55 ?_
  show X (EE s) (d - 1) 54 13 [(0, zr g0 8), (1, zi 20), (2, zi (m g0 8 9))] [] m526 _
  refine X.retv i54_13 rfl t54 ?_
  show X (EE s) d 129 45 [(0, zr g0 8), (1, zi a1), (2, zi (m g0 8 9))] [] m526 _
  refine X.iload_n 46 i129_45 rfl rfl rfl ?_
  refine X.reti i129_46 rfl t129 ?_
  exact hQ (m g0 8 9) m526 (by first | trivial | omega) (hJ527.up (by omega)) (by exact ⟨by omega, by omega⟩)
-- WorkMeter.move
theorem c127_1 {s : Nat × (Nat → Int32)} {S : zS} {m0 m : zM} {B : Int} {d : Nat} {Q : Option zV → zM → Prop} (a1 : Int) (hd : 16 ≤ d) (hJ : J S m0 B m) (hB : B + 2 ≤ 1000000000) (ha1 : (-2147483648) ≤ a1 ∧ a1 ≤ 2147483647) (hs0 : S.1 0 8 9) (hQ : ∀ (v : Int) m', ((-1) ≤ v ∧ v ≤ 2000000000) → J S m0 (B + 2) m' → ((v = -1 ∧ ¬ (m 0 39 0 = 0 ∧ 0 ≤ a1 ∧ a1 ≤ 2000000000) ∧ m' 0 8 9 = m 0 8 9) ∨ (v = m 0 8 9 ∧ m 0 39 0 = 0 ∧ 0 ≤ a1 ∧ a1 ≤ 2000000000 ∧ m' 0 8 9 = a1)) → Q (some (zi v)) m') : X (EE s) d 127 0 [(0, zr 4 40), (1, zi a1)] [] m Q := by
  refine X.aload_n 1 i127_0 rfl rfl rfl ?_
  refine X.getF 4 i127_1 rfl rfl (by decide) rfl rfl ?_
  refine X.getR 7 i127_4 rfl rfl (by decide) rfl rfl ?_
  refine X.callv 10 [] [] [(0, zr 0 39)] i127_7 rfl (by decide) rfl rfl (by omega) rfl rfl (by decide) rfl t17 (Nat.le_of_ble_eq_true rfl) (Nat.le_of_ble_eq_true rfl) rfl ?_
  refine X.aload_n 1 i17_0 rfl rfl rfl ?_
  refine X.getZ 4 0 i17_1 rfl rfl (by decide) rfl rfl rfl (fun h501 => ?_)
  refine X.ifeq 17 7 i17_4 rfl rfl rfl (fun h502 => ?_) (fun h502 => ?_)
  · refine X.aload_n 18 i17_17 rfl rfl rfl ?_
    refine X.getZ 21 0 i17_18 rfl rfl (by decide) rfl rfl rfl (fun h503 => ?_)
    refine X.retz i17_21 rfl t17 (by omega) ?_
    show X (EE s) d 127 10 [(0, zr 4 40), (1, zi a1)] [zi (m 0 39 0)] m _
    refine X.ifne 20 13 i127_10 rfl rfl rfl (fun h504 => ?_) (fun h504 => ?_)
    · refine X.cut [] i127_20 rfl ?_
      refine X.iconst 21 i127_20 rfl rfl (by decide) ?_
      refine X.reti i127_21 rfl t127 ?_
      exact hQ (-1) m (by first | trivial | omega) (hJ.up (by omega)) (by first | exact (.inl ⟨by omega, by omega, by omega⟩) | exact (.inr ⟨by omega, by omega, by omega, by omega, by omega⟩))
    · refine X.iload_n 14 i127_13 rfl rfl rfl ?_
      refine X.calls 17 [zi a1] [] [(0, zi a1)] i127_14 (by decide) rfl rfl (by omega) rfl rfl t128 (Nat.le_of_ble_eq_true rfl) (Nat.le_of_ble_eq_true rfl) rfl ?_
      refine X.iload_n 1 i128_0 rfl rfl rfl ?_
      refine X.iflt 14 4 i128_1 rfl rfl rfl (fun h505 => ?_) (fun h505 => ?_)
      · refine X.cut [] i128_14 rfl ?_
        refine X.iconst 15 i128_14 rfl rfl (by decide) ?_
        refine X.retz i128_15 rfl t128 (by omega) ?_
        show X (EE s) d 127 17 [(0, zr 4 40), (1, zi a1)] [zi 0] m _
        refine X.ifne 22 20 i127_17 rfl rfl rfl (fun h506 => (by exfalso; omega)) (fun h506 => ?_)
        refine X.cut [] i127_20 rfl ?_
        refine X.iconst 21 i127_20 rfl rfl (by decide) ?_
        refine X.reti i127_21 rfl t127 ?_
        exact hQ (-1) m (by first | trivial | omega) (hJ.up (by omega)) (by first | exact (.inl ⟨by omega, by omega, by omega⟩) | exact (.inr ⟨by omega, by omega, by omega, by omega, by omega⟩))
      · refine X.iload_n 5 i128_4 rfl rfl rfl ?_
        refine X.ldc 7 i128_5 rfl rfl (by decide) ?_
        refine X.icmpgt 14 10 i128_7 rfl rfl rfl (fun h507 => ?_) (fun h507 => ?_)
        · refine X.cut [] i128_14 rfl ?_
          refine X.iconst 15 i128_14 rfl rfl (by decide) ?_
          refine X.retz i128_15 rfl t128 (by omega) ?_
          show X (EE s) d 127 17 [(0, zr 4 40), (1, zi a1)] [zi 0] m _
          refine X.ifne 22 20 i127_17 rfl rfl rfl (fun h508 => (by exfalso; omega)) (fun h508 => ?_)
          refine X.cut [] i127_20 rfl ?_
          refine X.iconst 21 i127_20 rfl rfl (by decide) ?_
          refine X.reti i127_21 rfl t127 ?_
          exact hQ (-1) m (by first | trivial | omega) (hJ.up (by omega)) (by first | exact (.inl ⟨by omega, by omega, by omega⟩) | exact (.inr ⟨by omega, by omega, by omega, by omega, by omega⟩))
        · refine X.iconst 11 i128_10 rfl rfl (by decide) ?_
          refine X.goto 15 i128_11 rfl rfl ?_
          refine X.cut [] i128_15 rfl ?_
          refine X.retz i128_15 rfl t128 (by omega) ?_
          show X (EE s) d 127 17 [(0, zr 4 40), (1, zi a1)] [zi 1] m _
          refine X.ifne 22 20 i127_17 rfl rfl rfl (fun h509 => ?_) (fun h509 => (by exfalso; omega))
          refine X.aload_n 23 i127_22 rfl rfl rfl ?_
          refine X.getF 26 i127_23 rfl rfl (by decide) rfl rfl ?_
          refine X.iload_n 27 i127_26 rfl rfl rfl ?_
          refine X.callv 30 [zi a1] [] [(0, zr 0 8), (1, zi a1)] i127_27 rfl (by decide) rfl rfl (by omega) rfl rfl (by decide) rfl t129 (Nat.le_of_ble_eq_true rfl) (Nat.le_of_ble_eq_true rfl) rfl ?_
          refine c129_1 (S := zfr [(0, 8, 9)] S) (m0 := m) (B := B) 0 a1 (by omega) (hJ.ow.up (by omega)) (by omega) (by omega) zm_z (fun v512 m510 hv512 hJ511 hqv5120 => ?_)
          have hJ513 := hJ.trans hJ511 (zi_c hs0 zi_n)
          have wt514 : m510 0 39 0 = (m 0 39 0) := hJ511.eq rfl rfl
          show X (EE s) d 127 30 [(0, zr 4 40), (1, zi a1)] [zi v512] m510 _
          refine X.reti i127_30 rfl t127 ?_
          exact hQ v512 m510 (by first | trivial | omega) (hJ513.up (by omega)) (by first | exact (.inl ⟨by omega, by omega, by omega⟩) | exact (.inr ⟨by omega, by omega, by omega, by omega, by omega⟩))
  · refine X.aload_n 8 i17_7 rfl rfl rfl ?_
    refine X.dup 9 i17_8 rfl rfl rfl ?_
    refine X.getIr 12 3 i17_9 rfl rfl (by decide) rfl rfl rfl (fun h515 => ?_)
    refine X.iconst 13 i17_12 rfl rfl (by decide) ?_
    refine X.iiF 14 .iadd (fun x y => x + y) i17_13 rfl rfl rfl (fun _ _ => rfl) (fun z516 hz516 => ?_)
    refine X.putI' 17 3 i17_14 rfl rfl (by decide) rfl rfl rfl (fun hrm517 m517 hm517 => ?_)
    have hJ518 := w39_3 hJ hm517 hrm517
    have wt519 : m517 0 8 9 = (m 0 8 9) := by rw [hm517]; exact z_upd_o _ _ rfl
    have wt520 : m517 0 39 0 = (m 0 39 0) := by rw [hm517]; exact z_upd_o _ _ rfl
    refine X.aload_n 18 i17_17 rfl rfl rfl ?_
    refine X.getZ 21 0 i17_18 rfl rfl (by decide) rfl rfl rfl (fun h521 => ?_)
    refine X.retz i17_21 rfl t17 (by omega) ?_
    show X (EE s) d 127 10 [(0, zr 4 40), (1, zi a1)] [zi (m517 0 39 0)] m517 _
    refine X.ifne 20 13 i127_10 rfl rfl rfl (fun h522 => ?_) (fun h522 => ?_)
    · refine X.cut [] i127_20 rfl ?_
      refine X.iconst 21 i127_20 rfl rfl (by decide) ?_
      refine X.reti i127_21 rfl t127 ?_
      exact hQ (-1) m517 (by first | trivial | omega) (hJ518.up (by omega)) (by first | exact (.inl ⟨by omega, by omega, by omega⟩) | exact (.inr ⟨by omega, by omega, by omega, by omega, by omega⟩))
    · refine X.iload_n 14 i127_13 rfl rfl rfl ?_
      refine X.calls 17 [zi a1] [] [(0, zi a1)] i127_14 (by decide) rfl rfl (by omega) rfl rfl t128 (Nat.le_of_ble_eq_true rfl) (Nat.le_of_ble_eq_true rfl) rfl ?_
      refine X.iload_n 1 i128_0 rfl rfl rfl ?_
      refine X.iflt 14 4 i128_1 rfl rfl rfl (fun h523 => ?_) (fun h523 => ?_)
      · refine X.cut [] i128_14 rfl ?_
        refine X.iconst 15 i128_14 rfl rfl (by decide) ?_
        refine X.retz i128_15 rfl t128 (by omega) ?_
        show X (EE s) d 127 17 [(0, zr 4 40), (1, zi a1)] [zi 0] m517 _
        refine X.ifne 22 20 i127_17 rfl rfl rfl (fun h524 => (by exfalso; omega)) (fun h524 => ?_)
        refine X.cut [] i127_20 rfl ?_
        refine X.iconst 21 i127_20 rfl rfl (by decide) ?_
        refine X.reti i127_21 rfl t127 ?_
        exact hQ (-1) m517 (by first | trivial | omega) (hJ518.up (by omega)) (by first | exact (.inl ⟨by omega, by omega, by omega⟩) | exact (.inr ⟨by omega, by omega, by omega, by omega, by omega⟩))
      · refine X.iload_n 5 i128_4 rfl rfl rfl ?_
        refine X.ldc 7 i128_5 rfl rfl (by decide) ?_
        refine X.icmpgt 14 10 i128_7 rfl rfl rfl (fun h525 => ?_) (fun h525 => ?_)
        · refine X.cut [] i128_14 rfl ?_
          refine X.iconst 15 i128_14 rfl rfl (by decide) ?_
          refine X.retz i128_15 rfl t128 (by omega) ?_
          show X (EE s) d 127 17 [(0, zr 4 40), (1, zi a1)] [zi 0] m517 _
          refine X.ifne 22 20 i127_17 rfl rfl rfl (fun h526 => (by exfalso; omega)) (fun h526 => ?_)
          refine X.cut [] i127_20 rfl ?_
          refine X.iconst 21 i127_20 rfl rfl (by decide) ?_
          refine X.reti i127_21 rfl t127 ?_
          exact hQ (-1) m517 (by first | trivial | omega) (hJ518.up (by omega)) (by first | exact (.inl ⟨by omega, by omega, by omega⟩) | exact (.inr ⟨by omega, by omega, by omega, by omega, by omega⟩))
        · refine X.iconst 11 i128_10 rfl rfl (by decide) ?_
          refine X.goto 15 i128_11 rfl rfl ?_
          refine X.cut [] i128_15 rfl ?_
          refine X.retz i128_15 rfl t128 (by omega) ?_
          show X (EE s) d 127 17 [(0, zr 4 40), (1, zi a1)] [zi 1] m517 _
          refine X.ifne 22 20 i127_17 rfl rfl rfl (fun h527 => ?_) (fun h527 => (by exfalso; omega))
          refine X.aload_n 23 i127_22 rfl rfl rfl ?_
          refine X.getF 26 i127_23 rfl rfl (by decide) rfl rfl ?_
          refine X.iload_n 27 i127_26 rfl rfl rfl ?_
          refine X.callv 30 [zi a1] [] [(0, zr 0 8), (1, zi a1)] i127_27 rfl (by decide) rfl rfl (by omega) rfl rfl (by decide) rfl t129 (Nat.le_of_ble_eq_true rfl) (Nat.le_of_ble_eq_true rfl) rfl ?_
          refine c129_1 (S := zfr [(0, 8, 9)] S) (m0 := m517) (B := B) 0 a1 (by omega) (hJ518.ow.up (by omega)) (by omega) (by omega) zm_z (fun v530 m528 hv530 hJ529 hqv5300 => ?_)
          have hJ531 := hJ518.trans hJ529 (zi_c hs0 zi_n)
          have wt532 : m528 0 39 0 = (m 0 39 0) := Eq.trans (hJ529.eq rfl rfl) wt520
          show X (EE s) d 127 30 [(0, zr 4 40), (1, zi a1)] [zi v530] m528 _
          refine X.reti i127_30 rfl t127 ?_
          exact hQ v530 m528 (by first | trivial | omega) (hJ531.up (by omega)) (by first | exact (.inl ⟨by omega, by omega, by omega⟩) | exact (.inr ⟨by omega, by omega, by omega, by omega, by omega⟩))
theorem l223_17_3 {s : Nat × (Nat → Int32)} {S : zS} {m0 : zM} {d : Nat} {Q : Option zV → zM → Prop} (y1 y2 : Int) (BE : Int) (hE : BE ≤ 1000000000) (hd : 13 ≤ d) (hy1 : 0 ≤ y1 ∧ y1 ≤ 40) (hy2 : 0 ≤ y2 ∧ y2 ≤ 2000000000)
    (K54 : ∀ (m' : zM) (B' : Int), J S m0 B' m' → B' ≤ BE → X (EE s) d 223 54 [(0, zr 4 44), (1, zi y1), (2, zl y2)] [] m' Q) :
    ∀ (n : Nat) (y4 : Int) (m : zM) (B : Int), J S m0 B m → B + 0 * (n : Int) ≤ BE → (3 ≤ y4 ∧ y4 ≤ 120) → 120 - y4 < (n : Int) → X (EE s) d 223 17 [(0, zr 4 44), (1, zi y1), (2, zl y2), (4, zi y4)] [] m Q := by
  intro n
  induction n with
  | zero =>
    intro y4 m B hJ hB  hy4 hn
    exfalso
    omega
  | succ n ih =>
    intro y4 m B hJ hB  hy4 hn
    refine X.iload 19 i223_17 rfl rfl rfl ?_
    refine X.bipush 21 i223_19 rfl rfl (by decide) ?_
    refine X.icmpge 54 24 i223_21 rfl rfl rfl (fun h504 => ?_) (fun h504 => ?_)
    · refine X.cut [(0, zr 4 44), (1, zi y1), (2, zl y2)] i223_54 rfl ?_
      exact K54  m (B) (hJ.up (by omega)) (by omega)  
    · refine X.aload_n 25 i223_24 rfl rfl rfl ?_
      refine X.getF 28 i223_25 rfl rfl (by decide) rfl rfl ?_
      refine X.sipush 31 i223_28 rfl rfl (by decide) ?_
      refine X.iload 33 i223_31 rfl rfl rfl ?_
      refine X.iadd 34 i223_33 rfl rfl (by omega) ?_
      refine X.iconst 35 i223_34 rfl rfl (by decide) ?_
      refine X.isub 36 i223_35 rfl rfl (by omega) ?_
      refine X.aload_n 37 i223_36 rfl rfl rfl ?_
      refine X.getF 40 i223_37 rfl rfl (by decide) rfl rfl ?_
      refine X.sipush 43 i223_40 rfl rfl (by decide) ?_
      refine X.iload 45 i223_43 rfl rfl rfl ?_
      refine X.iadd 46 i223_45 rfl rfl (by omega) ?_
      refine X.lald 47 i223_46 rfl rfl (by decide) rfl (by omega) ?_
      refine X.last' 48 i223_47 rfl rfl (by decide) rfl (by omega) (fun hrm505 m505 hm505 => ?_)
      have hJ506 := w45_788 hJ hm505 (by omega) hrm505
      refine X.iinc 51 [(0, zr 4 44), (1, zi y1), (2, zl y2), (4, zi (y4 + 1))] i223_48 rfl rfl rfl (by omega) rfl ?_
      refine X.goto 17 i223_51 rfl rfl ?_
      exact ih (y4 + 1) m505 (B) (hJ506.up (by omega)) (by omega)  (by omega) (by omega)
-- WorkMeterModel.logs
theorem c223_3 {s : Nat × (Nat → Int32)} {S : zS} {m0 m : zM} {B : Int} {d : Nat} {Q : Option zV → zM → Prop} (a1 a2 : Int) (hd : 13 ≤ d) (hJ : J S m0 B m) (hB : B + 1 ≤ 1000000000) (ha1 : 0 ≤ a1 ∧ a1 ≤ 40) (ha2 : 0 ≤ a2 ∧ a2 ≤ 2000000000) (hQ : ∀ m', J S m0 (B + 1) m' → Q none m') : X (EE s) d 223 0 [(0, zr 4 44), (1, zi a1), (2, zl a2)] [] m Q := by
  refine X.aload_n 1 i223_0 rfl rfl rfl ?_
  refine X.getF 4 i223_1 rfl rfl (by decide) rfl rfl ?_
  refine X.bipush 6 i223_4 rfl rfl (by decide) ?_
  refine X.lald 7 i223_6 rfl rfl (by decide) rfl (by omega) ?_
  have h501 := r45_16 hJ 4
  refine X.ldc2 10 i223_7 rfl rfl (by decide) ?_
  refine X.lcmp 11 i223_10 rfl rfl (fun z502 hz502 => ?_)
  refine X.iflt 54 14 i223_11 rfl rfl rfl (fun h503 => ?_) (fun h503 => ?_)
  · have h503c : (m 4 45 16) < 40 := by omega
    clear h503 hz502
    refine X.sipush 57 i223_54 rfl rfl (by decide) ?_
    refine X.iconst 58 i223_57 rfl rfl (by decide) ?_
    refine X.aload_n 59 i223_58 rfl rfl rfl ?_
    refine X.getF 62 i223_59 rfl rfl (by decide) rfl rfl ?_
    refine X.bipush 64 i223_62 rfl rfl (by decide) ?_
    refine X.lald 65 i223_64 rfl rfl (by decide) rfl (by omega) ?_
    refine X.ldc2 68 i223_65 rfl rfl (by decide) ?_
    refine X.lcmp 69 i223_68 rfl rfl (fun z504 hz504 => ?_)
    refine X.ifge 82 72 i223_69 rfl rfl rfl (fun h505 => (by exfalso; omega)) (fun h505 => ?_)
    have h505c : (m 4 45 16) < 40 := by omega
    clear h505 hz504
    refine X.aload_n 73 i223_72 rfl rfl rfl ?_
    refine X.getF 76 i223_73 rfl rfl (by decide) rfl rfl ?_
    refine X.bipush 78 i223_76 rfl rfl (by decide) ?_
    refine X.lald 79 i223_78 rfl rfl (by decide) rfl (by omega) ?_
    refine X.goto 85 i223_79 rfl rfl ?_
    refine X.l2i 86 i223_85 rfl rfl (by omega) ?_
    refine X.imul 87 i223_86 rfl rfl (by omega) ?_
    refine X.iadd 88 i223_87 rfl rfl (by omega) ?_
    refine X.istore 90 [(0, zr 4 44), (1, zi a1), (2, zl a2), (4, zi (1487 + (3 * (m 4 45 16))))] i223_88 rfl rfl rfl ?_
    refine X.aload_n 91 i223_90 rfl rfl rfl ?_
    refine X.getF 94 i223_91 rfl rfl (by decide) rfl rfl ?_
    refine X.iload 96 i223_94 rfl rfl rfl ?_
    refine X.aload_n 97 i223_96 rfl rfl rfl ?_
    refine X.getF 100 i223_97 rfl rfl (by decide) rfl rfl ?_
    refine X.iconst 101 i223_100 rfl rfl (by decide) ?_
    refine X.lald 102 i223_101 rfl rfl (by decide) rfl (by omega) ?_
    have h506 := r45_0 hJ 4
    refine X.last' 103 i223_102 rfl rfl (by decide) rfl (by omega) (fun hrm507 m507 hm507 => ?_)
    have hJ508 := w45_788 hJ hm507 (by omega) hrm507
    refine X.aload_n 104 i223_103 rfl rfl rfl ?_
    refine X.getF 107 i223_104 rfl rfl (by decide) rfl rfl ?_
    refine X.iload 109 i223_107 rfl rfl rfl ?_
    refine X.iconst 110 i223_109 rfl rfl (by decide) ?_
    refine X.iadd 111 i223_110 rfl rfl (by omega) ?_
    refine X.iload_n 112 i223_111 rfl rfl rfl ?_
    refine X.i2l 113 i223_112 rfl rfl ?_
    refine X.last' 114 i223_113 rfl rfl (by decide) rfl (by omega) (fun hrm509 m509 hm509 => ?_)
    have hJ510 := w45_788 hJ508 hm509 (by omega) hrm509
    refine X.aload_n 115 i223_114 rfl rfl rfl ?_
    refine X.getF 118 i223_115 rfl rfl (by decide) rfl rfl ?_
    refine X.iload 120 i223_118 rfl rfl rfl ?_
    refine X.iconst 121 i223_120 rfl rfl (by decide) ?_
    refine X.iadd 122 i223_121 rfl rfl (by omega) ?_
    refine X.lload_n 123 i223_122 rfl rfl rfl ?_
    refine X.last' 124 i223_123 rfl rfl (by decide) rfl (by omega) (fun hrm511 m511 hm511 => ?_)
    have hJ512 := w45_788 hJ510 hm511 (by omega) hrm511
    refine X.aload_n 125 i223_124 rfl rfl rfl ?_
    refine X.getF 128 i223_125 rfl rfl (by decide) rfl rfl ?_
    refine X.bipush 130 i223_128 rfl rfl (by decide) ?_
    refine X.dup2 131 i223_130 rfl rfl ?_
    refine X.lald 132 i223_131 rfl rfl (by decide) rfl (by omega) ?_
    have h513 := r45_16 hJ512 4
    refine X.lconst (y := 1) 133 i223_132 rfl rfl rfl ?_
    refine X.ladd 134 i223_133 rfl rfl (by omega) ?_
    refine X.last' 135 i223_134 rfl rfl (by decide) rfl (by omega) (fun hrm514 m514 hm514 => ?_)
    have hJ515 := w45_16 (hJ512.up (B' := B + 1) (by omega)) hm514 (by omega)
    refine X.retv i223_135 rfl t223 ?_
    exact hQ  m514  (hJ515.up (by omega)) 
  · have h503c : (m 4 45 16) ≥ 40 := by omega
    clear h503 hz502
    refine X.iconst 15 i223_14 rfl rfl (by decide) ?_
    refine X.istore 17 [(0, zr 4 44), (1, zi a1), (2, zl a2), (4, zi 3)] i223_15 rfl rfl rfl ?_
    refine l223_17_3 (s := s) (S := S) (m0 := m0) (d := d)  a1 a2 (BE := B + 0) (by omega) (by omega) (by omega) (by omega) (fun  m516 B517 hJ518 hBB517 => ?_) ((120 - 3 : Int).toNat + 1) 3 m (B) (hJ.up (by omega)) (by omega)  (by omega) (by omega)
    refine X.sipush 57 i223_54 rfl rfl (by decide) ?_
    refine X.iconst 58 i223_57 rfl rfl (by decide) ?_
    refine X.aload_n 59 i223_58 rfl rfl rfl ?_
    refine X.getF 62 i223_59 rfl rfl (by decide) rfl rfl ?_
    refine X.bipush 64 i223_62 rfl rfl (by decide) ?_
    refine X.lald 65 i223_64 rfl rfl (by decide) rfl (by omega) ?_
    have h519 := r45_16 hJ518 4
    refine X.ldc2 68 i223_65 rfl rfl (by decide) ?_
    refine X.lcmp 69 i223_68 rfl rfl (fun z520 hz520 => ?_)
    refine X.ifge 82 72 i223_69 rfl rfl rfl (fun h521 => ?_) (fun h521 => ?_)
    · have h521c : (m516 4 45 16) ≥ 40 := by omega
      clear h521 hz520
      refine X.ldc2 85 i223_82 rfl rfl (by decide) ?_
      refine X.l2i 86 i223_85 rfl rfl (by omega) ?_
      refine X.imul 87 i223_86 rfl rfl (by omega) ?_
      refine X.iadd 88 i223_87 rfl rfl (by omega) ?_
      refine X.istore 90 [(0, zr 4 44), (1, zi a1), (2, zl a2), (4, zi (1487 + (3 * 39)))] i223_88 rfl rfl rfl ?_
      refine X.aload_n 91 i223_90 rfl rfl rfl ?_
      refine X.getF 94 i223_91 rfl rfl (by decide) rfl rfl ?_
      refine X.iload 96 i223_94 rfl rfl rfl ?_
      refine X.aload_n 97 i223_96 rfl rfl rfl ?_
      refine X.getF 100 i223_97 rfl rfl (by decide) rfl rfl ?_
      refine X.iconst 101 i223_100 rfl rfl (by decide) ?_
      refine X.lald 102 i223_101 rfl rfl (by decide) rfl (by omega) ?_
      have h522 := r45_0 hJ518 4
      refine X.last' 103 i223_102 rfl rfl (by decide) rfl (by omega) (fun hrm523 m523 hm523 => ?_)
      have hJ524 := w45_788 hJ518 hm523 (by omega) hrm523
      refine X.aload_n 104 i223_103 rfl rfl rfl ?_
      refine X.getF 107 i223_104 rfl rfl (by decide) rfl rfl ?_
      refine X.iload 109 i223_107 rfl rfl rfl ?_
      refine X.iconst 110 i223_109 rfl rfl (by decide) ?_
      refine X.iadd 111 i223_110 rfl rfl (by omega) ?_
      refine X.iload_n 112 i223_111 rfl rfl rfl ?_
      refine X.i2l 113 i223_112 rfl rfl ?_
      refine X.last' 114 i223_113 rfl rfl (by decide) rfl (by omega) (fun hrm525 m525 hm525 => ?_)
      have hJ526 := w45_788 hJ524 hm525 (by omega) hrm525
      refine X.aload_n 115 i223_114 rfl rfl rfl ?_
      refine X.getF 118 i223_115 rfl rfl (by decide) rfl rfl ?_
      refine X.iload 120 i223_118 rfl rfl rfl ?_
      refine X.iconst 121 i223_120 rfl rfl (by decide) ?_
      refine X.iadd 122 i223_121 rfl rfl (by omega) ?_
      refine X.lload_n 123 i223_122 rfl rfl rfl ?_
      refine X.last' 124 i223_123 rfl rfl (by decide) rfl (by omega) (fun hrm527 m527 hm527 => ?_)
      have hJ528 := w45_788 hJ526 hm527 (by omega) hrm527
      refine X.aload_n 125 i223_124 rfl rfl rfl ?_
      refine X.getF 128 i223_125 rfl rfl (by decide) rfl rfl ?_
      refine X.bipush 130 i223_128 rfl rfl (by decide) ?_
      refine X.dup2 131 i223_130 rfl rfl ?_
      refine X.lald 132 i223_131 rfl rfl (by decide) rfl (by omega) ?_
      have h529 := r45_16 hJ528 4
      refine X.lconst (y := 1) 133 i223_132 rfl rfl rfl ?_
      refine X.ladd 134 i223_133 rfl rfl (by omega) ?_
      refine X.last' 135 i223_134 rfl rfl (by decide) rfl (by omega) (fun hrm530 m530 hm530 => ?_)
      have hJ531 := w45_16 (hJ528.up (B' := B517 + 1) (by omega)) hm530 (by omega)
      refine X.retv i223_135 rfl t223 ?_
      exact hQ  m530  (hJ531.up (by omega)) 
    · have h521c : (m516 4 45 16) < 40 := by omega
      clear h521 hz520
      refine X.aload_n 73 i223_72 rfl rfl rfl ?_
      refine X.getF 76 i223_73 rfl rfl (by decide) rfl rfl ?_
      refine X.bipush 78 i223_76 rfl rfl (by decide) ?_
      refine X.lald 79 i223_78 rfl rfl (by decide) rfl (by omega) ?_
      refine X.goto 85 i223_79 rfl rfl ?_
      refine X.l2i 86 i223_85 rfl rfl (by omega) ?_
      refine X.imul 87 i223_86 rfl rfl (by omega) ?_
      refine X.iadd 88 i223_87 rfl rfl (by omega) ?_
      refine X.istore 90 [(0, zr 4 44), (1, zi a1), (2, zl a2), (4, zi (1487 + (3 * (m516 4 45 16))))] i223_88 rfl rfl rfl ?_
      refine X.aload_n 91 i223_90 rfl rfl rfl ?_
      refine X.getF 94 i223_91 rfl rfl (by decide) rfl rfl ?_
      refine X.iload 96 i223_94 rfl rfl rfl ?_
      refine X.aload_n 97 i223_96 rfl rfl rfl ?_
      refine X.getF 100 i223_97 rfl rfl (by decide) rfl rfl ?_
      refine X.iconst 101 i223_100 rfl rfl (by decide) ?_
      refine X.lald 102 i223_101 rfl rfl (by decide) rfl (by omega) ?_
      have h532 := r45_0 hJ518 4
      refine X.last' 103 i223_102 rfl rfl (by decide) rfl (by omega) (fun hrm533 m533 hm533 => ?_)
      have hJ534 := w45_788 hJ518 hm533 (by omega) hrm533
      refine X.aload_n 104 i223_103 rfl rfl rfl ?_
      refine X.getF 107 i223_104 rfl rfl (by decide) rfl rfl ?_
      refine X.iload 109 i223_107 rfl rfl rfl ?_
      refine X.iconst 110 i223_109 rfl rfl (by decide) ?_
      refine X.iadd 111 i223_110 rfl rfl (by omega) ?_
      refine X.iload_n 112 i223_111 rfl rfl rfl ?_
      refine X.i2l 113 i223_112 rfl rfl ?_
      refine X.last' 114 i223_113 rfl rfl (by decide) rfl (by omega) (fun hrm535 m535 hm535 => ?_)
      have hJ536 := w45_788 hJ534 hm535 (by omega) hrm535
      refine X.aload_n 115 i223_114 rfl rfl rfl ?_
      refine X.getF 118 i223_115 rfl rfl (by decide) rfl rfl ?_
      refine X.iload 120 i223_118 rfl rfl rfl ?_
      refine X.iconst 121 i223_120 rfl rfl (by decide) ?_
      refine X.iadd 122 i223_121 rfl rfl (by omega) ?_
      refine X.lload_n 123 i223_122 rfl rfl rfl ?_
      refine X.last' 124 i223_123 rfl rfl (by decide) rfl (by omega) (fun hrm537 m537 hm537 => ?_)
      have hJ538 := w45_788 hJ536 hm537 (by omega) hrm537
      refine X.aload_n 125 i223_124 rfl rfl rfl ?_
      refine X.getF 128 i223_125 rfl rfl (by decide) rfl rfl ?_
      refine X.bipush 130 i223_128 rfl rfl (by decide) ?_
      refine X.dup2 131 i223_130 rfl rfl ?_
      refine X.lald 132 i223_131 rfl rfl (by decide) rfl (by omega) ?_
      have h539 := r45_16 hJ538 4
      refine X.lconst (y := 1) 133 i223_132 rfl rfl rfl ?_
      refine X.ladd 134 i223_133 rfl rfl (by omega) ?_
      refine X.last' 135 i223_134 rfl rfl (by decide) rfl (by omega) (fun hrm540 m540 hm540 => ?_)
      have hJ541 := w45_16 (hJ538.up (B' := B517 + 1) (by omega)) hm540 (by omega)
      refine X.retv i223_135 rfl t223 ?_
      exact hQ  m540  (hJ541.up (by omega)) 
-- WorkMeterModel.move
theorem c281_1 {s : Nat × (Nat → Int32)} {S : zS} {m0 m : zM} {B : Int} {d : Nat} {Q : Option zV → zM → Prop} (a1 : Int) (hd : 18 ≤ d) (hJ : J S m0 B m) (hB : B + 2 ≤ 1000000000) (ha1 : (-2147483648) ≤ a1 ∧ a1 ≤ 2147483647) (hs0 : S.1 4 45 0) (hQ : ∀ (v : Int) m', ((-1) ≤ v ∧ v ≤ 2000000000) → J S m0 (B + 2) m' → ((v = -1 ∧ ¬ (m 4 45 1614 = 0 ∧ 0 ≤ a1 ∧ a1 ≤ 2000000000) ∧ m' 4 45 0 = m 4 45 0) ∨ (v = m 4 45 0 ∧ m 4 45 1614 = 0 ∧ 0 ≤ a1 ∧ a1 ≤ 2000000000 ∧ m' 4 45 0 = a1)) → Q (some (zi v)) m') : X (EE s) d 281 0 [(0, zr 4 44), (1, zi a1)] [] m Q := by
  refine X.aload_n 1 i281_0 rfl rfl rfl ?_
  refine X.callv 4 [] [] [(0, zr 4 44)] i281_1 rfl (by decide) rfl rfl (by omega) rfl rfl (by decide) rfl t203 (Nat.le_of_ble_eq_true rfl) (Nat.le_of_ble_eq_true rfl) rfl ?_
  refine X.aload_n 1 i203_0 rfl rfl rfl ?_
  refine X.getF 4 i203_1 rfl rfl (by decide) rfl rfl ?_
  refine X.sipush 7 i203_4 rfl rfl (by decide) ?_
  refine X.dup2 8 i203_7 rfl rfl ?_
  refine X.lald 9 i203_8 rfl rfl (by decide) rfl (by omega) ?_
  refine X.aload_n 10 i203_9 rfl rfl rfl ?_
  refine X.getF 13 i203_10 rfl rfl (by decide) rfl rfl ?_
  refine X.sipush 16 i203_13 rfl rfl (by decide) ?_
  refine X.lald 17 i203_16 rfl rfl (by decide) rfl (by omega) ?_
  have h501 := r45_1614 hJ 4
  refine X.llF 18 .ladd (fun x y => x + y) i203_17 rfl rfl rfl (fun _ _ => rfl) (fun z502 hz502 => ?_)
  refine X.last' 19 i203_18 rfl rfl (by decide) rfl (by omega) (fun hrm503 m503 hm503 => ?_)
  have hJ504 := w45_1618 hJ hm503 hrm503
  have wt505 : m503 4 45 0 = (m 4 45 0) := by rw [hm503]; exact z_upd_o _ _ rfl
  have wt506 : m503 4 45 1614 = (m 4 45 1614) := by rw [hm503]; exact z_upd_o _ _ rfl
  refine X.aload_n 20 i203_19 rfl rfl rfl ?_
  refine X.getF 23 i203_20 rfl rfl (by decide) rfl rfl ?_
  refine X.sipush 26 i203_23 rfl rfl (by decide) ?_
  refine X.lald 27 i203_26 rfl rfl (by decide) rfl (by omega) ?_
  have h507 := r45_1614 hJ504 4
  refine X.lconst (y := 1) 28 i203_27 rfl rfl rfl ?_
  refine X.lcmp 29 i203_28 rfl rfl (fun z508 hz508 => ?_)
  refine X.ifne 36 32 i203_29 rfl rfl rfl (fun h509 => ?_) (fun h509 => ?_)
  · have h509c : (m503 4 45 1614) ≠ 1 := by omega
    clear h509 hz508
    refine X.cut [] i203_36 rfl ?_
    refine X.iconst 37 i203_36 rfl rfl (by decide) ?_
    refine X.retz i203_37 rfl t203 (by omega) ?_
    show X (EE s) d 281 4 [(0, zr 4 44), (1, zi a1)] [zi 0] m503 _
    refine X.ifne 19 7 i281_4 rfl rfl rfl (fun h510 => (by exfalso; omega)) (fun h510 => ?_)
    refine X.iload_n 8 i281_7 rfl rfl rfl ?_
    refine X.i2l 9 i281_8 rfl rfl ?_
    refine X.lconst (y := 0) 10 i281_9 rfl rfl rfl ?_
    refine X.ldc2 13 i281_10 rfl rfl (by decide) ?_
    refine X.calls 16 [zl a1, zl 0, zl 2000000000] [] [(0, zl a1), (2, zl 0), (4, zl 2000000000)] i281_13 (by decide) rfl rfl (by omega) rfl rfl t204 (Nat.le_of_ble_eq_true rfl) (Nat.le_of_ble_eq_true rfl) rfl ?_
    refine X.lload_n 1 i204_0 rfl rfl rfl ?_
    refine X.lload_n 2 i204_1 rfl rfl rfl ?_
    refine X.lcmp 3 i204_2 rfl rfl (fun z511 hz511 => ?_)
    refine X.iflt 17 6 i204_3 rfl rfl rfl (fun h512 => ?_) (fun h512 => ?_)
    · have h512c : a1 < 0 := by omega
      clear h512 hz511
      refine X.cut [] i204_17 rfl ?_
      refine X.iconst 18 i204_17 rfl rfl (by decide) ?_
      refine X.retz i204_18 rfl t204 (by omega) ?_
      show X (EE s) d 281 16 [(0, zr 4 44), (1, zi a1)] [zi 0] m503 _
      refine X.ifne 21 19 i281_16 rfl rfl rfl (fun h513 => (by exfalso; omega)) (fun h513 => ?_)
      refine X.cut [] i281_19 rfl ?_
      refine X.iconst 20 i281_19 rfl rfl (by decide) ?_
      refine X.reti i281_20 rfl t281 ?_
      exact hQ (-1) m503 (by first | trivial | omega) (hJ504.up (by omega)) (by first | exact (.inl ⟨by omega, by omega, by omega⟩) | exact (.inr ⟨by omega, by omega, by omega, by omega, by omega⟩))
    · have h512c : a1 ≥ 0 := by omega
      clear h512 hz511
      refine X.lload_n 7 i204_6 rfl rfl rfl ?_
      refine X.lload 9 i204_7 rfl rfl rfl ?_
      refine X.lcmp 10 i204_9 rfl rfl (fun z514 hz514 => ?_)
      refine X.ifgt 17 13 i204_10 rfl rfl rfl (fun h515 => ?_) (fun h515 => ?_)
      · have h515c : a1 > 2000000000 := by omega
        clear h515 hz514
        refine X.cut [] i204_17 rfl ?_
        refine X.iconst 18 i204_17 rfl rfl (by decide) ?_
        refine X.retz i204_18 rfl t204 (by omega) ?_
        show X (EE s) d 281 16 [(0, zr 4 44), (1, zi a1)] [zi 0] m503 _
        refine X.ifne 21 19 i281_16 rfl rfl rfl (fun h516 => (by exfalso; omega)) (fun h516 => ?_)
        refine X.cut [] i281_19 rfl ?_
        refine X.iconst 20 i281_19 rfl rfl (by decide) ?_
        refine X.reti i281_20 rfl t281 ?_
        exact hQ (-1) m503 (by first | trivial | omega) (hJ504.up (by omega)) (by first | exact (.inl ⟨by omega, by omega, by omega⟩) | exact (.inr ⟨by omega, by omega, by omega, by omega, by omega⟩))
      · have h515c : a1 ≤ 2000000000 := by omega
        clear h515 hz514
        refine X.iconst 14 i204_13 rfl rfl (by decide) ?_
        refine X.goto 18 i204_14 rfl rfl ?_
        refine X.cut [] i204_18 rfl ?_
        refine X.retz i204_18 rfl t204 (by omega) ?_
        show X (EE s) d 281 16 [(0, zr 4 44), (1, zi a1)] [zi 1] m503 _
        refine X.ifne 21 19 i281_16 rfl rfl rfl (fun h517 => ?_) (fun h517 => (by exfalso; omega))
        refine X.aload_n 22 i281_21 rfl rfl rfl ?_
        refine X.getF 25 i281_22 rfl rfl (by decide) rfl rfl ?_
        refine X.iconst 26 i281_25 rfl rfl (by decide) ?_
        refine X.lald 27 i281_26 rfl rfl (by decide) rfl (by omega) ?_
        have h518 := r45_0 hJ504 4
        refine X.l2i 28 i281_27 rfl rfl (by omega) ?_
        refine X.istore_n 29 [(0, zr 4 44), (1, zi a1), (2, zi (m503 4 45 0))] i281_28 rfl rfl rfl ?_
        refine X.aload_n 30 i281_29 rfl rfl rfl ?_
        refine X.ldc2 33 i281_30 rfl rfl (by decide) ?_
        refine X.callv 36 [zl 64] [] [(0, zr 4 44), (1, zl 64)] i281_33 rfl (by decide) rfl rfl (by omega) rfl rfl (by decide) rfl t232 (Nat.le_of_ble_eq_true rfl) (Nat.le_of_ble_eq_true rfl) rfl ?_
        refine c232_1 (S := zfr [] S) (m0 := m503) (B := B)  64 (by omega) (hJ504.ow.up (by omega)) (by omega) (by omega) (fun m519 hJ520 => ?_)
        have hJ522 := hJ504.trans hJ520 zi_n
        have wt523 : m519 4 45 0 = (m 4 45 0) := Eq.trans (hJ520.eq rfl rfl) wt505
        have wt524 : m519 4 45 1614 = (m 4 45 1614) := Eq.trans (hJ520.eq rfl rfl) wt506
        show X (EE s) d 281 36 [(0, zr 4 44), (1, zi a1), (2, zi (m503 4 45 0))] [] m519 _
        refine X.aload_n 37 i281_36 rfl rfl rfl ?_
        refine X.getF 40 i281_37 rfl rfl (by decide) rfl rfl ?_
        refine X.iconst 41 i281_40 rfl rfl (by decide) ?_
        refine X.iload_n 42 i281_41 rfl rfl rfl ?_
        refine X.i2l 43 i281_42 rfl rfl ?_
        refine X.last' 44 i281_43 rfl rfl (by decide) rfl (by omega) (fun hrm525 m525 hm525 => ?_)
        have hJ526 := w45_0 hJ522 hm525 (by omega) hs0
        have wt527 : m525 4 45 0 = a1 := by rw [hm525]; exact z_upd_same _ _ _ _ _
        have wt528 : m525 4 45 1614 = (m 4 45 1614) := Eq.trans (by rw [hm525]; exact z_upd_o _ _ rfl) wt524
        clear wt523 wt524
        refine X.aload_n 45 i281_44 rfl rfl rfl ?_
        refine X.callv 48 [] [] [(0, zr 4 44)] i281_45 rfl (by decide) rfl rfl (by omega) rfl rfl (by decide) rfl t233 (Nat.le_of_ble_eq_true rfl) (Nat.le_of_ble_eq_true rfl) rfl ?_
        refine c233_1 (S := zfr [] S) (m0 := m525) (B := B + 1)   (by omega) (hJ526.ow.up (by omega)) (by omega)  (fun m529 hJ530 => ?_)
        have hJ532 := hJ526.trans hJ530 zi_n
        have wt533 : m529 4 45 0 = a1 := Eq.trans (hJ530.eq rfl rfl) wt527
        have wt534 : m529 4 45 1614 = (m 4 45 1614) := Eq.trans (hJ530.eq rfl rfl) wt528
        clear wt527 wt528
        show X (EE s) d 281 48 [(0, zr 4 44), (1, zi a1), (2, zi (m503 4 45 0))] [] m529 _
        refine X.aload_n 49 i281_48 rfl rfl rfl ?_
        refine X.bipush 51 i281_49 rfl rfl (by decide) ?_
        refine X.iload_n 52 i281_51 rfl rfl rfl ?_
        refine X.i2l 53 i281_52 rfl rfl ?_
        refine X.callv 56 [zi 20, zl (m503 4 45 0)] [] [(0, zr 4 44), (1, zi 20), (2, zl (m503 4 45 0))] i281_53 rfl (by decide) rfl rfl (by omega) rfl rfl (by decide) rfl t223 (Nat.le_of_ble_eq_true rfl) (Nat.le_of_ble_eq_true rfl) rfl ?_
        refine c223_3 (S := zfr [] S) (m0 := m529) (B := B + 1)  20 (m503 4 45 0) (by omega) (hJ532.ow.up (by omega)) (by omega) (by omega) (by omega) (fun m535 hJ536 => ?_)
        have hJ538 := hJ532.trans hJ536 zi_n
        have wt539 : m535 4 45 0 = a1 := Eq.trans (hJ536.eq rfl rfl) wt533
        have wt540 : m535 4 45 1614 = (m 4 45 1614) := Eq.trans (hJ536.eq rfl rfl) wt534
        clear wt533 wt534
        show X (EE s) d 281 56 [(0, zr 4 44), (1, zi a1), (2, zi (m503 4 45 0))] [] m535 _
        refine X.iload_n 57 i281_56 rfl rfl rfl ?_
        refine X.reti i281_57 rfl t281 ?_
        exact hQ (m503 4 45 0) m535 (by first | trivial | omega) (hJ538.up (by omega)) (by first | exact (.inl ⟨by omega, by omega, by omega⟩) | exact (.inr ⟨by omega, by omega, by omega, by omega, by omega⟩))
  · have h509c : (m503 4 45 1614) = 1 := by omega
    clear h509 hz508
    refine X.iconst 33 i203_32 rfl rfl (by decide) ?_
    refine X.goto 37 i203_33 rfl rfl ?_
    refine X.cut [] i203_37 rfl ?_
    refine X.retz i203_37 rfl t203 (by omega) ?_
    show X (EE s) d 281 4 [(0, zr 4 44), (1, zi a1)] [zi 1] m503 _
    refine X.ifne 19 7 i281_4 rfl rfl rfl (fun h541 => ?_) (fun h541 => (by exfalso; omega))
    refine X.cut [] i281_19 rfl ?_
    refine X.iconst 20 i281_19 rfl rfl (by decide) ?_
    refine X.reti i281_20 rfl t281 ?_
    exact hQ (-1) m503 (by first | trivial | omega) (hJ504.up (by omega)) (by first | exact (.inl ⟨by omega, by omega, by omega⟩) | exact (.inr ⟨by omega, by omega, by omega, by omega, by omega⟩))
theorem l132_2_1 {s : Nat × (Nat → Int32)} {S : zS} {m0 : zM} {d : Nat} {Q : Option zV → zM → Prop} (g0 g1 : Nat) (y2 : Int) (BE : Int) (hE : BE ≤ 1000000000) (hd : 14 ≤ d) (hy2 : 0 ≤ y2 ∧ y2 ≤ 2000000000)
    (K36 : ∀ (m' : zM) (B' : Int), J S m0 B' m' → B' ≤ BE → X (EE s) d 132 36 [] [] m' Q) :
    ∀ (n : Nat) (y3 : Int) (m : zM) (B : Int), J S m0 B m → B + 1 * (n : Int) ≤ BE → (2 ≤ y3 ∧ y3 ≤ 5) → 5 - y3 < (n : Int) → X (EE s) d 132 2 [(0, zr g0 33), (1, zr g1 37), (2, zi y2), (3, zi y3)] [] m Q := by
  intro n
  induction n with
  | zero =>
    intro y3 m B hJ hB  hy3 hn
    exfalso
    omega
  | succ n ih =>
    intro y3 m B hJ hB  hy3 hn
    refine X.iload_n 3 i132_2 rfl rfl rfl ?_
    refine X.iconst 4 i132_3 rfl rfl (by decide) ?_
    refine X.icmpge 36 7 i132_4 rfl rfl rfl (fun h513 => ?_) (fun h513 => ?_)
    · refine X.cut [] i132_36 rfl ?_
      exact K36  m (B) (hJ.up (by omega)) (by omega)  
    · refine X.aload_n 8 i132_7 rfl rfl rfl ?_
      refine X.getR 11 i132_8 rfl rfl (by decide) rfl rfl ?_
      refine X.iload_n 12 i132_11 rfl rfl rfl ?_
      refine X.iconst 13 i132_12 rfl rfl (by decide) ?_
      refine X.iast' 14 i132_13 rfl rfl (by decide) rfl (by omega) (fun hrm514 m514 hm514 => ?_)
      have hJ515 := w36_0 hJ hm514 (by omega) hrm514
      refine X.aload_n 15 i132_14 rfl rfl rfl ?_
      refine X.iload_n 16 i132_15 rfl rfl rfl ?_
      refine X.callv 19 [zi y3] [] [(0, zr g0 33), (1, zi y3)] i132_16 rfl (by decide) rfl rfl (by omega) rfl rfl (by decide) rfl t40 (Nat.le_of_ble_eq_true rfl) (Nat.le_of_ble_eq_true rfl) rfl ?_
      refine X.aload_n 1 i40_0 rfl rfl rfl ?_
      refine X.getIr 4 3 i40_1 rfl rfl (by decide) rfl rfl rfl (fun h516 => ?_)
      refine X.iload_n 5 i40_4 rfl rfl rfl ?_
      refine X.iiF 6 .ishr (fun x y => x >>> (y &&& 31)) i40_5 rfl rfl rfl (fun _ _ => rfl) (fun z517 hz517 => ?_)
      refine X.iconst 7 i40_6 rfl rfl (by decide) ?_
      refine X.andF 8 1 i40_7 rfl rfl (by decide) (.inl rfl) (fun z518 hz518 => ?_)
      refine X.iconst 9 i40_8 rfl rfl (by decide) ?_
      refine X.icmpne 16 12 i40_9 rfl rfl rfl (fun h519 => ?_) (fun h519 => ?_)
      · refine X.cut [] i40_16 rfl ?_
        refine X.iconst 17 i40_16 rfl rfl (by decide) ?_
        refine X.retz i40_17 rfl t40 (by omega) ?_
        show X (EE s) d 132 19 [(0, zr g0 33), (1, zr g1 37), (2, zi y2), (3, zi y3)] [zi 0] m514 _
        refine X.ifeq 30 22 i132_19 rfl rfl rfl (fun h520 => ?_) (fun h520 => (by exfalso; omega))
        refine X.iinc 33 [(0, zr g0 33), (1, zr g1 37), (2, zi y2), (3, zi (y3 + 1))] i132_30 rfl rfl rfl (by omega) rfl ?_
        refine X.goto 2 i132_33 rfl rfl ?_
        exact ih (y3 + 1) m514 (B) (hJ515.up (by omega)) (by omega)  (by omega) (by omega)
      · refine X.iconst 13 i40_12 rfl rfl (by decide) ?_
        refine X.goto 17 i40_13 rfl rfl ?_
        refine X.cut [] i40_17 rfl ?_
        refine X.retz i40_17 rfl t40 (by omega) ?_
        show X (EE s) d 132 19 [(0, zr g0 33), (1, zr g1 37), (2, zi y2), (3, zi y3)] [zi 1] m514 _
        refine X.ifeq 30 22 i132_19 rfl rfl rfl (fun h521 => (by exfalso; omega)) (fun h521 => ?_)
        refine X.aload_n 23 i132_22 rfl rfl rfl ?_
        refine X.iload_n 24 i132_23 rfl rfl rfl ?_
        refine X.iconst 25 i132_24 rfl rfl (by decide) ?_
        refine X.aload_n 26 i132_25 rfl rfl rfl ?_
        refine X.iload_n 27 i132_26 rfl rfl rfl ?_
        refine X.callv 30 [zi y3, zi 0, zr g1 37, zi y2] [] [(0, zr g0 33), (1, zi y3), (2, zi 0), (3, zr g1 37), (4, zi y2)] i132_27 rfl (by decide) rfl rfl (by omega) rfl rfl (by decide) rfl t57 (Nat.le_of_ble_eq_true rfl) (Nat.le_of_ble_eq_true rfl) rfl ?_
        refine c57_2 (B := B) g0 g1 y3 0 y2 (by omega) (hJ515.up (by omega)) (by omega) (by omega) (by omega) (by omega) (fun m522 hJ523 => ?_)
        show X (EE s) d 132 30 [(0, zr g0 33), (1, zr g1 37), (2, zi y2), (3, zi y3)] [] m522 _
        refine X.iinc 33 [(0, zr g0 33), (1, zr g1 37), (2, zi y2), (3, zi (y3 + 1))] i132_30 rfl rfl rfl (by omega) rfl ?_
        refine X.goto 2 i132_33 rfl rfl ?_
        exact ih (y3 + 1) m522 (B + 1) (hJ523.up (by omega)) (by omega)  (by omega) (by omega)
-- WorkMeter$Marks.beginAnew
theorem c132_1 {s : Nat × (Nat → Int32)} {S : zS} {m0 m : zM} {B : Int} {d : Nat} {Q : Option zV → zM → Prop} (g0 g1 : Nat) (a2 : Int) (hd : 14 ≤ d) (hJ : J S m0 B m) (hB : B + 4 ≤ 1000000000) (ha2 : 0 ≤ a2 ∧ a2 ≤ 2000000000) (hQ : ∀ m', J S m0 (B + 4) m' → Q none m') : X (EE s) d 132 0 [(0, zr g0 33), (1, zr g1 37), (2, zi a2)] [] m Q := by
  refine X.iconst 1 i132_0 rfl rfl (by decide) ?_
  refine X.istore_n 2 [(0, zr g0 33), (1, zr g1 37), (2, zi a2), (3, zi 2)] i132_1 rfl rfl rfl ?_
  refine l132_2_1 (s := s) (S := S) (m0 := m0) (d := d) g0 g1 a2 (BE := B + 4) (by omega) (by omega) (by omega) (fun  m501 B502 hJ503 hBB502 => ?_) ((5 - 2 : Int).toNat + 1) 2 m (B) (hJ.up (by omega)) (by omega)  (by omega) (by omega)
  refine X.retv i132_36 rfl t132 ?_
  exact hQ  m501  (hJ503.up (by omega)) 
theorem l131_43_1 {s : Nat × (Nat → Int32)} {S : zS} {m0 : zM} {d : Nat} {Q : Option zV → zM → Prop} (g0 : Nat) (y1 y2 : Int) (BE : Int) (hE : BE ≤ 1000000000) (hd : 17 ≤ d) (hy1 : 1 ≤ y1 ∧ y1 ≤ 100000) (hy2 : 1 ≤ y2 ∧ y2 ≤ 1000000) (hs0 : S.1 g0 8 9)
    (K133 : ∀ (m' : zM) (B' : Int), J S m0 B' m' → B' ≤ BE → (m0 g0 8 9 + y1 ≤ 2000000000) → (m' g0 8 9 = m0 g0 8 9 + y1) → X (EE s) d 131 133 [] [] m' Q) :
    ∀ (n : Nat) (y3 y4 : Int) (m : zM) (B : Int), J S m0 B m → B + 1 * (n : Int) ≤ BE → (0 ≤ y3 ∧ y3 ≤ 100000) → (0 ≤ y4 ∧ y4 ≤ 100000) → (0 ≤ y3) → (y3 + y4 ≤ y1) → (m g0 8 9 + y3 = m0 g0 8 9 + y1) → (m0 g0 8 9 + y1 ≤ 2000000000) → 100000 - y4 < (n : Int) → X (EE s) d 131 43 [(0, zr g0 8), (1, zi y1), (2, zi y2), (3, zi y3), (4, zi y4)] [] m Q := by
  intro n
  induction n with
  | zero =>
    intro y3 y4 m B hJ hB  hy3 hy4 hr0 hr1 hr2 hr3 hn
    exfalso
    omega
  | succ n ih =>
    intro y3 y4 m B hJ hB  hy3 hy4 hr0 hr1 hr2 hr3 hn
    refine X.iload 45 i131_43 rfl rfl rfl ?_
    refine X.iload_n 46 i131_45 rfl rfl rfl ?_
    refine X.icmpge 133 49 i131_46 rfl rfl rfl (fun h541 => ?_) (fun h541 => ?_)
    · refine X.cut [] i131_133 rfl ?_
      exact K133  m (B) (hJ.up (by omega)) (by omega)  (by omega) (by omega)
    · refine X.iload_n 50 i131_49 rfl rfl rfl ?_
      refine X.ifle 133 53 i131_50 rfl rfl rfl (fun h542 => ?_) (fun h542 => ?_)
      · refine X.cut [] i131_133 rfl ?_
        exact K133  m (B) (hJ.up (by omega)) (by omega)  (by omega) (by omega)
      · refine X.iload_n 54 i131_53 rfl rfl rfl ?_
        refine X.iload_n 55 i131_54 rfl rfl rfl ?_
        refine X.aload_n 56 i131_55 rfl rfl rfl ?_
        refine X.getI 59 9 i131_56 rfl rfl (by decide) rfl rfl rfl ?_
        have h543 := r8_9 hJ g0
        refine X.iload_n 60 i131_59 rfl rfl rfl ?_
        refine X.irem 61 i131_60 rfl rfl (by omega) ?_
        have hz544 := z_modb (x := (m g0 8 9)) (y := y2) (by omega) (by omega)
        obtain ⟨z544, ez544⟩ : ∃ z, z = ((m g0 8 9) % y2) := ⟨_, rfl⟩
        rw [← ez544] at hz544 ⊢
        clear ez544
        refine X.isub 62 i131_61 rfl rfl (by omega) ?_
        refine X.minI 65 i131_62 rfl rfl (by omega) (Nat.le_of_ble_eq_true rfl) ?_
        refine X.istore 67 [(0, zr g0 8), (1, zi y1), (2, zi y2), (3, zi y3), (4, zi y4), (5, zi (min y3 (y2 - z544)))] i131_65 rfl rfl rfl ?_
        refine X.aload_n 68 i131_67 rfl rfl rfl ?_
        refine X.getR 71 i131_68 rfl rfl (by decide) rfl rfl ?_
        refine X.iload 73 i131_71 rfl rfl rfl ?_
        refine X.aload_n 74 i131_73 rfl rfl rfl ?_
        refine X.getR 77 i131_74 rfl rfl (by decide) rfl rfl ?_
        refine X.getIr 80 3 i131_77 rfl rfl (by decide) rfl rfl rfl (fun h545 => ?_)
        refine X.callv 83 [zi (min y3 (y2 - z544)), zi (m g0 33 3)] [] [(0, zr g0 27), (1, zi (min y3 (y2 - z544))), (2, zi (m g0 33 3))] i131_80 rfl (by decide) rfl rfl (by omega) rfl rfl (by decide) rfl t133 (Nat.le_of_ble_eq_true rfl) (Nat.le_of_ble_eq_true rfl) rfl ?_
        refine X.aload_n 1 i133_0 rfl rfl rfl ?_
        refine X.dup 2 i133_1 rfl rfl rfl ?_
        refine X.getIr 5 7 i133_2 rfl rfl (by decide) rfl rfl rfl (fun h546 => ?_)
        refine X.iload_n 6 i133_5 rfl rfl rfl ?_
        refine X.iiF 7 .iadd (fun x y => x + y) i133_6 rfl rfl rfl (fun _ _ => rfl) (fun z547 hz547 => ?_)
        refine X.putI' 10 7 i133_7 rfl rfl (by decide) rfl rfl rfl (fun hrm548 m548 hm548 => ?_)
        have hJ549 := w27_3 hJ hm548 (by omega) hrm548
        have wt550 : m548 g0 8 9 = (m g0 8 9) := by rw [hm548]; exact z_upd_o _ _ rfl
        have wt551 : m548 g0 19 5 = (m g0 19 5) := by rw [hm548]; exact z_upd_o _ _ rfl
        refine X.aload_n 11 i133_10 rfl rfl rfl ?_
        refine X.dup 12 i133_11 rfl rfl rfl ?_
        refine X.getIr 15 8 i133_12 rfl rfl (by decide) rfl rfl rfl (fun h552 => ?_)
        refine X.iload_n 16 i133_15 rfl rfl rfl ?_
        refine X.iiF 17 .ior (fun x y => x ||| y) i133_16 rfl rfl rfl (fun _ _ => rfl) (fun z553 hz553 => ?_)
        refine X.putI' 20 8 i133_17 rfl rfl (by decide) rfl rfl rfl (fun hrm554 m554 hm554 => ?_)
        have hJ555 := w27_3 hJ549 hm554 (by omega) hrm554
        have wt556 : m554 g0 8 9 = (m g0 8 9) := Eq.trans (by rw [hm554]; exact z_upd_o _ _ rfl) wt550
        have wt557 : m554 g0 19 5 = (m g0 19 5) := Eq.trans (by rw [hm554]; exact z_upd_o _ _ rfl) wt551
        clear wt550 wt551
        refine X.retv i133_20 rfl t133 ?_
        show X (EE s) d 131 83 [(0, zr g0 8), (1, zi y1), (2, zi y2), (3, zi y3), (4, zi y4), (5, zi (min y3 (y2 - z544)))] [] m554 _
        refine X.aload_n 84 i131_83 rfl rfl rfl ?_
        refine X.dup 85 i131_84 rfl rfl rfl ?_
        refine X.getIr 88 15 i131_85 rfl rfl (by decide) rfl rfl rfl (fun h558 => ?_)
        refine X.iload 90 i131_88 rfl rfl rfl ?_
        refine X.iiF 91 .iadd (fun x y => x + y) i131_90 rfl rfl rfl (fun _ _ => rfl) (fun z559 hz559 => ?_)
        refine X.putI' 94 15 i131_91 rfl rfl (by decide) rfl rfl rfl (fun hrm560 m560 hm560 => ?_)
        have hJ561 := w8_14 hJ555 hm560 (by omega) hrm560
        have wt562 : m560 g0 8 9 = (m g0 8 9) := Eq.trans (by rw [hm560]; exact z_upd_i _ _ _ _ (by omega)) wt556
        have wt563 : m560 g0 19 5 = (m g0 19 5) := Eq.trans (by rw [hm560]; exact z_upd_o _ _ rfl) wt557
        clear wt556 wt557
        refine X.aload_n 95 i131_94 rfl rfl rfl ?_
        refine X.dup 96 i131_95 rfl rfl rfl ?_
        refine X.getI 99 9 i131_96 rfl rfl (by decide) rfl rfl rfl ?_
        have h564 := r8_9 hJ561 g0
        refine X.iload 101 i131_99 rfl rfl rfl ?_
        refine X.iadd 102 i131_101 rfl rfl (by omega) ?_
        refine X.putI' 105 9 i131_102 rfl rfl (by decide) rfl rfl rfl (fun hrm565 m565 hm565 => ?_)
        have hJ566 := w8_9 hJ561 hm565 (by omega) hs0
        have wt567 : m565 g0 8 9 = ((m560 g0 8 9) + (min y3 (y2 - z544))) := by rw [hm565]; exact z_upd_same _ _ _ _ _
        have wt568 : m565 g0 19 5 = (m g0 19 5) := Eq.trans (by rw [hm565]; exact z_upd_o _ _ rfl) wt563
        clear wt563
        have em565 : m565 g0 8 9 = ((m560 g0 8 9) + (min y3 (y2 - z544))) := by rw [hm565]; exact z_upd_same _ _ _ _ _
        refine X.iload_n 106 i131_105 rfl rfl rfl ?_
        refine X.iload 108 i131_106 rfl rfl rfl ?_
        refine X.isub 109 i131_108 rfl rfl (by omega) ?_
        refine X.istore_n 110 [(0, zr g0 8), (1, zi y1), (2, zi y2), (3, zi (y3 - (min y3 (y2 - z544)))), (4, zi y4), (5, zi (min y3 (y2 - z544)))] i131_109 rfl rfl rfl ?_
        refine X.aload_n 111 i131_110 rfl rfl rfl ?_
        refine X.aload_n 112 i131_111 rfl rfl rfl ?_
        refine X.getR 115 i131_112 rfl rfl (by decide) rfl rfl ?_
        refine X.aload_n 116 i131_115 rfl rfl rfl ?_
        refine X.getI 119 9 i131_116 rfl rfl (by decide) rfl rfl rfl ?_
        refine X.iconst 120 i131_119 rfl rfl (by decide) ?_
        refine X.isub 121 i131_120 rfl rfl (by omega) ?_
        refine X.callv 124 [zi ((m565 g0 8 9) - 1)] [zr g0 8] [(0, zr g0 11), (1, zi ((m565 g0 8 9) - 1))] i131_121 rfl (by decide) rfl rfl (by omega) rfl rfl (by decide) rfl t27 (Nat.le_of_ble_eq_true rfl) (Nat.le_of_ble_eq_true rfl) rfl ?_
        refine X.aload_n 1 i27_0 rfl rfl rfl ?_
        refine X.aload_n 2 i27_1 rfl rfl rfl ?_
        refine X.iload_n 3 i27_2 rfl rfl rfl ?_
        refine X.ldc 5 i27_3 rfl rfl (by decide) ?_
        refine X.idiv 6 i27_5 rfl rfl (by omega) ?_
        refine X.callv 9 [zi (((m565 g0 8 9) - 1) / 86400)] [zr g0 11] [(0, zr g0 11), (1, zi (((m565 g0 8 9) - 1) / 86400))] i27_6 rfl (by decide) rfl rfl (by omega) rfl rfl (by decide) rfl t28 (Nat.le_of_ble_eq_true rfl) (Nat.le_of_ble_eq_true rfl) rfl ?_
        refine c28_1 (B := B) g0 (((m565 g0 8 9) - 1) / 86400) (by omega) (hJ566.up (by omega)) (by omega) (by omega) (fun v571 hv571 => ?_)
        show X (EE s) (d - 1) 27 9 [(0, zr g0 11), (1, zi ((m565 g0 8 9) - 1))] [zi v571, zr g0 11] m565 _
        refine X.iload_n 10 i27_9 rfl rfl rfl ?_
        refine X.ldc 12 i27_10 rfl rfl (by decide) ?_
        refine X.irem 13 i27_12 rfl rfl (by omega) ?_
        refine X.callv 16 [zi v571, zi (((m565 g0 8 9) - 1) % 86400)] [] [(0, zr g0 11), (1, zi v571), (2, zi (((m565 g0 8 9) - 1) % 86400))] i27_13 rfl (by decide) rfl rfl (by omega) rfl rfl (by decide) rfl t31 (Nat.le_of_ble_eq_true rfl) (Nat.le_of_ble_eq_true rfl) rfl ?_
        refine c31_1 (B := B) g0 v571 (((m565 g0 8 9) - 1) % 86400) (by omega) (hJ566.up (by omega)) (by omega) (by omega) (by omega) (fun v574 hv574 => ?_)
        show X (EE s) (d - 1) 27 16 [(0, zr g0 11), (1, zi ((m565 g0 8 9) - 1))] [zi v574] m565 _
        refine X.reti i27_16 rfl t27 ?_
        show X (EE s) d 131 124 [(0, zr g0 8), (1, zi y1), (2, zi y2), (3, zi (y3 - (min y3 (y2 - z544)))), (4, zi y4), (5, zi (min y3 (y2 - z544)))] [zi v574, zr g0 8] m565 _
        refine X.callv 127 [zi v574] [] [(0, zr g0 8), (1, zi v574)] i131_124 rfl (by decide) rfl rfl (by omega) rfl rfl (by decide) rfl t59 (Nat.le_of_ble_eq_true rfl) (Nat.le_of_ble_eq_true rfl) rfl ?_
        refine c59_1 (S := zfr [] S) (m0 := m565) (B := B) g0 v574 (by omega) (hJ566.ow.up (by omega)) (by omega) (by omega) (fun m575 hJ576 => ?_)
        have hJ578 := hJ566.trans hJ576 zi_n
        have wt579 : m575 g0 8 9 = ((m560 g0 8 9) + (min y3 (y2 - z544))) := Eq.trans (hJ576.eq rfl rfl) wt567
        have wt580 : m575 g0 19 5 = (m g0 19 5) := Eq.trans (hJ576.eq rfl rfl) wt568
        clear wt568
        show X (EE s) d 131 127 [(0, zr g0 8), (1, zi y1), (2, zi y2), (3, zi (y3 - (min y3 (y2 - z544)))), (4, zi y4), (5, zi (min y3 (y2 - z544)))] [] m575 _
        refine X.iinc 130 [(0, zr g0 8), (1, zi y1), (2, zi y2), (3, zi (y3 - (min y3 (y2 - z544)))), (4, zi (y4 + 1)), (5, zi (min y3 (y2 - z544)))] i131_127 rfl rfl rfl (by omega) rfl ?_
        refine X.goto 43 i131_130 rfl rfl ?_
        refine X.cut [(0, zr g0 8), (1, zi y1), (2, zi y2), (3, zi (y3 - (min y3 (y2 - z544)))), (4, zi (y4 + 1))] i131_43 rfl ?_
        exact ih (y3 - (min y3 (y2 - z544))) (y4 + 1) m575 (B + 1) (hJ578.up (by omega)) (by omega)  (by omega) (by omega) (by omega) (by omega) (by omega) (by omega) (by omega)
-- WorkMeter$Meter.goOff
theorem c131_1 {s : Nat × (Nat → Int32)} {S : zS} {m0 m : zM} {B : Int} {d : Nat} {Q : Option zV → zM → Prop} (g0 : Nat) (a1 : Int) (hd : 17 ≤ d) (hJ : J S m0 B m) (hB : B + 100006 ≤ 1000000000) (ha1 : 1 ≤ a1 ∧ a1 ≤ 100000) (hp0 : 1 ≤ a1) (hp1 : m g0 8 9 + a1 ≤ 2000000000) (hs0 : S.1 g0 8 9) (hs1 : S.1 g0 19 5) (hQ : ∀ m', J S m0 (B + 100006) m' → (m' g0 8 9 = m g0 8 9 + a1 ∧ m' g0 19 5 = 0) → Q none m') : X (EE s) d 131 0 [(0, zr g0 8), (1, zi a1)] [] m Q := by
  refine X.aload_n 1 i131_0 rfl rfl rfl ?_
  refine X.bipush 3 i131_1 rfl rfl (by decide) ?_
  refine X.iload_n 4 i131_3 rfl rfl rfl ?_
  refine X.callv 7 [zi 21, zi a1] [] [(0, zr g0 8), (1, zi 21), (2, zi a1)] i131_4 rfl (by decide) rfl rfl (by omega) rfl rfl (by decide) rfl t54 (Nat.le_of_ble_eq_true rfl) (Nat.le_of_ble_eq_true rfl) rfl ?_
  refine X.aload_n 1 i54_0 rfl rfl rfl ?_
  refine X.getR 4 i54_1 rfl rfl (by decide) rfl rfl ?_
  refine X.aload_n 5 i54_4 rfl rfl rfl ?_
  refine X.getI 8 9 i54_5 rfl rfl (by decide) rfl rfl rfl ?_
  have h501 := r8_9 hJ g0
  refine X.iload_n 9 i54_8 rfl rfl rfl ?_
  refine X.iload_n 10 i54_9 rfl rfl rfl ?_
  refine X.callv 13 [zi (m g0 8 9), zi 21, zi a1] [] [(0, zr g0 37), (1, zi (m g0 8 9)), (2, zi 21), (3, zi a1)] i54_10 rfl (by decide) rfl rfl (by omega) rfl rfl (by decide) rfl t55 (Nat.le_of_ble_eq_true rfl) (Nat.le_of_ble_eq_true rfl) rfl ?_
  refine X.aload_n 1 i55_0 rfl rfl rfl ?_
  refine X.getI 4 1 i55_1 rfl rfl (by decide) rfl rfl rfl ?_
  have h502 := r37_1 hJ g0
  refine X.bipush 6 i55_4 rfl rfl (by decide) ?_
  refine X.irem 7 i55_6 rfl rfl (by omega) ?_
  refine X.iconst 8 i55_7 rfl rfl (by decide) ?_
  refine X.imul 9 i55_8 rfl rfl (by omega) ?_
  refine X.istore 11 [(0, zr g0 37), (1, zi (m g0 8 9)), (2, zi 21), (3, zi a1), (4, zi (((m g0 37 1) % 40) * 3))] i55_9 rfl rfl rfl ?_
  refine X.aload_n 12 i55_11 rfl rfl rfl ?_
  refine X.getR 15 i55_12 rfl rfl (by decide) rfl rfl ?_
  refine X.iload 17 i55_15 rfl rfl rfl ?_
  refine X.iload_n 18 i55_17 rfl rfl rfl ?_
  refine X.iast' 19 i55_18 rfl rfl (by decide) rfl (by omega) (fun hrm503 m503 hm503 => ?_)
  have hJ504 := w38_0 hJ hm503 (by omega) hrm503
  have wt505 : m503 g0 8 9 = (m g0 8 9) := by rw [hm503]; exact z_upd_o _ _ rfl
  have wt506 : m503 g0 19 5 = (m g0 19 5) := by rw [hm503]; exact z_upd_o _ _ rfl
  refine X.aload_n 20 i55_19 rfl rfl rfl ?_
  refine X.getR 23 i55_20 rfl rfl (by decide) rfl rfl ?_
  refine X.iload 25 i55_23 rfl rfl rfl ?_
  refine X.iconst 26 i55_25 rfl rfl (by decide) ?_
  refine X.iadd 27 i55_26 rfl rfl (by omega) ?_
  refine X.iload_n 28 i55_27 rfl rfl rfl ?_
  refine X.iast' 29 i55_28 rfl rfl (by decide) rfl (by omega) (fun hrm507 m507 hm507 => ?_)
  have hJ508 := w38_0 hJ504 hm507 (by omega) hrm507
  have wt509 : m507 g0 8 9 = (m g0 8 9) := Eq.trans (by rw [hm507]; exact z_upd_o _ _ rfl) wt505
  have wt510 : m507 g0 19 5 = (m g0 19 5) := Eq.trans (by rw [hm507]; exact z_upd_o _ _ rfl) wt506
  clear wt505 wt506
  refine X.aload_n 30 i55_29 rfl rfl rfl ?_
  refine X.getR 33 i55_30 rfl rfl (by decide) rfl rfl ?_
  refine X.iload 35 i55_33 rfl rfl rfl ?_
  refine X.iconst 36 i55_35 rfl rfl (by decide) ?_
  refine X.iadd 37 i55_36 rfl rfl (by omega) ?_
  refine X.iload_n 38 i55_37 rfl rfl rfl ?_
  refine X.iast' 39 i55_38 rfl rfl (by decide) rfl (by omega) (fun hrm511 m511 hm511 => ?_)
  have hJ512 := w38_0 hJ508 hm511 (by omega) hrm511
  have wt513 : m511 g0 8 9 = (m g0 8 9) := Eq.trans (by rw [hm511]; exact z_upd_o _ _ rfl) wt509
  have wt514 : m511 g0 19 5 = (m g0 19 5) := Eq.trans (by rw [hm511]; exact z_upd_o _ _ rfl) wt510
  clear wt509 wt510
  refine X.aload_n 40 i55_39 rfl rfl rfl ?_
  refine X.dup 41 i55_40 rfl rfl rfl ?_
  refine X.getI 44 1 i55_41 rfl rfl (by decide) rfl rfl rfl ?_
  have h515 := r37_1 hJ512 g0
  refine X.iconst 45 i55_44 rfl rfl (by decide) ?_
  refine X.iadd 46 i55_45 rfl rfl (by omega) ?_
  refine X.putI' 49 1 i55_46 rfl rfl (by decide) rfl rfl rfl (fun hrm516 m516 hm516 => ?_)
  have hJ517 := w37_1 (hJ512.up (B' := B + 1) (by omega)) hm516 (by omega)
  have wt518 : m516 g0 8 9 = (m g0 8 9) := Eq.trans (by rw [hm516]; exact z_upd_o _ _ rfl) wt513
  have wt519 : m516 g0 19 5 = (m g0 19 5) := Eq.trans (by rw [hm516]; exact z_upd_o _ _ rfl) wt514
  clear wt513 wt514
  refine X.retv i55_49 rfl t55 ?_
  show X (EE s) (d - 1) 54 13 [(0, zr g0 8), (1, zi 21), (2, zi a1)] [] m516 _
  refine X.retv i54_13 rfl t54 ?_
  show X (EE s) d 131 7 [(0, zr g0 8), (1, zi a1)] [] m516 _
  refine X.aload_n 8 i131_7 rfl rfl rfl ?_
  refine X.getR 11 i131_8 rfl rfl (by decide) rfl rfl ?_
  refine X.aload_n 12 i131_11 rfl rfl rfl ?_
  refine X.getR 15 i131_12 rfl rfl (by decide) rfl rfl ?_
  refine X.aload_n 16 i131_15 rfl rfl rfl ?_
  refine X.getI 19 9 i131_16 rfl rfl (by decide) rfl rfl rfl ?_
  have h520 := r8_9 hJ517 g0
  refine X.callv 22 [zr g0 37, zi (m516 g0 8 9)] [] [(0, zr g0 33), (1, zr g0 37), (2, zi (m516 g0 8 9))] i131_19 rfl (by decide) rfl rfl (by omega) rfl rfl (by decide) rfl t132 (Nat.le_of_ble_eq_true rfl) (Nat.le_of_ble_eq_true rfl) rfl ?_
  refine c132_1 (S := zfr [] S) (m0 := m516) (B := B + 1) g0 g0 (m516 g0 8 9) (by omega) (hJ517.ow.up (by omega)) (by omega) (by omega) (fun m521 hJ522 => ?_)
  have hJ524 := hJ517.trans hJ522 zi_n
  have wt525 : m521 g0 8 9 = (m g0 8 9) := Eq.trans (hJ522.eq rfl rfl) wt518
  have wt526 : m521 g0 19 5 = (m g0 19 5) := Eq.trans (hJ522.eq rfl rfl) wt519
  clear wt519
  show X (EE s) d 131 22 [(0, zr g0 8), (1, zi a1)] [] m521 _
  refine X.aload_n 23 i131_22 rfl rfl rfl ?_
  refine X.getR 26 i131_23 rfl rfl (by decide) rfl rfl ?_
  refine X.iconst 27 i131_26 rfl rfl (by decide) ?_
  refine X.putI' 30 5 i131_27 rfl rfl (by decide) rfl rfl rfl (fun hrm527 m527 hm527 => ?_)
  have hJ528 := w19_5 hJ524 hm527 (by omega) hs1
  have wt529 : m527 g0 8 9 = (m g0 8 9) := Eq.trans (by rw [hm527]; exact z_upd_o _ _ rfl) wt525
  have wt530 : m527 g0 19 5 = 0 := by rw [hm527]; exact z_upd_same _ _ _ _ _
  clear wt525 wt526
  have em527 : m527 g0 19 5 = 0 := by rw [hm527]; exact z_upd_same _ _ _ _ _
  refine X.aload_n 31 i131_30 rfl rfl rfl ?_
  refine X.getR 34 i131_31 rfl rfl (by decide) rfl rfl ?_
  refine X.callv 37 [] [] [(0, zr g0 9)] i131_34 rfl (by decide) rfl rfl (by omega) rfl rfl (by decide) rfl t36 (Nat.le_of_ble_eq_true rfl) (Nat.le_of_ble_eq_true rfl) rfl ?_
  refine X.iconst 1 i36_0 rfl rfl (by decide) ?_
  refine X.aload_n 2 i36_1 rfl rfl rfl ?_
  refine X.getR 5 i36_2 rfl rfl (by decide) rfl rfl ?_
  refine X.iconst 6 i36_5 rfl rfl (by decide) ?_
  refine X.iald 7 i36_6 rfl rfl (by decide) rfl (by omega) ?_
  have h531 := r10_0 hJ528 g0 (i := 4) (by omega)
  refine X.maxI 10 i36_7 rfl rfl (by omega) (Nat.le_of_ble_eq_true rfl) ?_
  refine X.reti i36_10 rfl t36 ?_
  show X (EE s) d 131 37 [(0, zr g0 8), (1, zi a1)] [zi (max 1 (m527 g0 10 4))] m527 _
  refine X.istore_n 38 [(0, zr g0 8), (1, zi a1), (2, zi (max 1 (m527 g0 10 4)))] i131_37 rfl rfl rfl ?_
  refine X.iload_n 39 i131_38 rfl rfl rfl ?_
  refine X.istore_n 40 [(0, zr g0 8), (1, zi a1), (2, zi (max 1 (m527 g0 10 4))), (3, zi a1)] i131_39 rfl rfl rfl ?_
  refine X.iconst 41 i131_40 rfl rfl (by decide) ?_
  refine X.istore 43 [(0, zr g0 8), (1, zi a1), (2, zi (max 1 (m527 g0 10 4))), (3, zi a1), (4, zi 0)] i131_41 rfl rfl rfl ?_
  refine l131_43_1 (s := s) (S := (zfr [(g0, 8, 9)] S)) (m0 := m527) (d := d) g0 a1 (max 1 (m527 g0 10 4)) (BE := B + 100006) (by omega) (by omega) (by omega) (by omega) zm_z (fun  m532 B533 hJ534 hBB533 hrlm5320 hrlm5321 => ?_) ((100000 - 0 : Int).toNat + 1) a1 0 m527 (B + 5) (hJ528.ow.up (by omega)) (by omega)  (by omega) (by omega) (by omega) (by omega) (by omega) (by omega) (by omega)
  have hJ535 := hJ528.trans hJ534 (zi_c hs0 zi_n)
  have wt536 : m532 g0 19 5 = 0 := Eq.trans (hJ534.eq rfl rfl) wt530
  refine X.retv i131_133 rfl t131 ?_
  exact hQ  m532  (hJ535.up (by omega)) (by exact ⟨by omega, by omega⟩)
-- WorkMeter.off
theorem c130_1 {s : Nat × (Nat → Int32)} {S : zS} {m0 m : zM} {B : Int} {d : Nat} {Q : Option zV → zM → Prop} (a1 : Int) (hd : 18 ≤ d) (hJ : J S m0 B m) (hB : B + 100006 ≤ 1000000000) (ha1 : (-2147483648) ≤ a1 ∧ a1 ≤ 2147483647) (hs0 : S.1 0 8 9) (hs1 : S.1 0 19 5) (hQ : ∀ (v : Int) m', ((-1) ≤ v ∧ v ≤ 2000000000) → J S m0 (B + 100006) m' → ((v = -1 ∧ ¬ (1 ≤ a1 ∧ a1 ≤ 100000 ∧ m 0 8 9 + a1 ≤ 2000000000) ∧ m' 0 8 9 = m 0 8 9 ∧ m' 0 19 5 = m 0 19 5) ∨ (v = m 0 8 9 + a1 ∧ 1 ≤ a1 ∧ a1 ≤ 100000 ∧ m 0 8 9 + a1 ≤ 2000000000 ∧ m' 0 8 9 = m 0 8 9 + a1 ∧ m' 0 19 5 = 0)) → Q (some (zi v)) m') : X (EE s) d 130 0 [(0, zr 4 40), (1, zi a1)] [] m Q := by
  refine X.iload_n 1 i130_0 rfl rfl rfl ?_
  refine X.iconst 2 i130_1 rfl rfl (by decide) ?_
  refine X.icmplt 25 5 i130_2 rfl rfl rfl (fun h501 => ?_) (fun h501 => ?_)
  · refine X.cut [] i130_25 rfl ?_
    refine X.iconst 26 i130_25 rfl rfl (by decide) ?_
    refine X.reti i130_26 rfl t130 ?_
    exact hQ (-1) m (by first | trivial | omega) (hJ.up (by omega)) (by first | exact (.inl ⟨by omega, by omega, by omega, by omega⟩) | exact (.inr ⟨by omega, by omega, by omega, by omega, by omega, by omega⟩))
  · refine X.iload_n 6 i130_5 rfl rfl rfl ?_
    refine X.ldc 8 i130_6 rfl rfl (by decide) ?_
    refine X.icmpgt 25 11 i130_8 rfl rfl rfl (fun h502 => ?_) (fun h502 => ?_)
    · refine X.cut [] i130_25 rfl ?_
      refine X.iconst 26 i130_25 rfl rfl (by decide) ?_
      refine X.reti i130_26 rfl t130 ?_
      exact hQ (-1) m (by first | trivial | omega) (hJ.up (by omega)) (by first | exact (.inl ⟨by omega, by omega, by omega, by omega⟩) | exact (.inr ⟨by omega, by omega, by omega, by omega, by omega, by omega⟩))
    · refine X.aload_n 12 i130_11 rfl rfl rfl ?_
      refine X.getF 15 i130_12 rfl rfl (by decide) rfl rfl ?_
      refine X.getI 18 9 i130_15 rfl rfl (by decide) rfl rfl rfl ?_
      have h503 := r8_9 hJ 0
      refine X.iload_n 19 i130_18 rfl rfl rfl ?_
      refine X.iadd 20 i130_19 rfl rfl (by omega) ?_
      refine X.ldc 22 i130_20 rfl rfl (by decide) ?_
      refine X.icmple 27 25 i130_22 rfl rfl rfl (fun h504 => ?_) (fun h504 => ?_)
      · refine X.aload_n 28 i130_27 rfl rfl rfl ?_
        refine X.getF 31 i130_28 rfl rfl (by decide) rfl rfl ?_
        refine X.iload_n 32 i130_31 rfl rfl rfl ?_
        refine X.callv 35 [zi a1] [] [(0, zr 0 8), (1, zi a1)] i130_32 rfl (by decide) rfl rfl (by omega) rfl rfl (by decide) rfl t131 (Nat.le_of_ble_eq_true rfl) (Nat.le_of_ble_eq_true rfl) rfl ?_
        refine c131_1 (S := zfr [(0, 8, 9), (0, 19, 5)] S) (m0 := m) (B := B) 0 a1 (by omega) (hJ.ow.up (by omega)) (by omega) (by omega) (by omega) (by omega) zm_z (zm_s zm_z) (fun m505 hJ506 hqv5070 => ?_)
        have hJ508 := hJ.trans hJ506 (zi_c hs0 (zi_c hs1 zi_n))
        show X (EE s) d 130 35 [(0, zr 4 40), (1, zi a1)] [] m505 _
        refine X.aload_n 36 i130_35 rfl rfl rfl ?_
        refine X.getF 39 i130_36 rfl rfl (by decide) rfl rfl ?_
        refine X.getI 42 9 i130_39 rfl rfl (by decide) rfl rfl rfl ?_
        have h509 := r8_9 hJ508 0
        refine X.reti i130_42 rfl t130 ?_
        exact hQ (m505 0 8 9) m505 (by first | trivial | omega) (hJ508.up (by omega)) (by first | exact (.inl ⟨by omega, by omega, by omega, by omega⟩) | exact (.inr ⟨by omega, by omega, by omega, by omega, by omega, by omega⟩))
      · refine X.cut [] i130_25 rfl ?_
        refine X.iconst 26 i130_25 rfl rfl (by decide) ?_
        refine X.reti i130_26 rfl t130 ?_
        exact hQ (-1) m (by first | trivial | omega) (hJ.up (by omega)) (by first | exact (.inl ⟨by omega, by omega, by omega, by omega⟩) | exact (.inr ⟨by omega, by omega, by omega, by omega, by omega, by omega⟩))
theorem l282_47_1 {s : Nat × (Nat → Int32)} {S : zS} {m0 : zM} {d : Nat} {Q : Option zV → zM → Prop} (y1 : Int) (BE : Int) (hE : BE ≤ 1000000000) (hd : 15 ≤ d) (hy1 : 1 ≤ y1 ∧ y1 ≤ 100000)
    (K87 : ∀ (m' : zM) (B' : Int), J S m0 B' m' → B' ≤ BE → X (EE s) d 282 87 [(0, zr 4 44), (1, zi y1)] [] m' Q) :
    ∀ (n : Nat) (y2 : Int) (m : zM) (B : Int), J S m0 B m → B + 1 * (n : Int) ≤ BE → (2 ≤ y2 ∧ y2 ≤ 5) → 5 - y2 < (n : Int) → X (EE s) d 282 47 [(0, zr 4 44), (1, zi y1), (2, zi y2)] [] m Q := by
  intro n
  induction n with
  | zero =>
    intro y2 m B hJ hB  hy2 hn
    exfalso
    omega
  | succ n ih =>
    intro y2 m B hJ hB  hy2 hn
    refine X.iload_n 48 i282_47 rfl rfl rfl ?_
    refine X.iconst 49 i282_48 rfl rfl (by decide) ?_
    refine X.icmpge 87 52 i282_49 rfl rfl rfl (fun h518 => ?_) (fun h518 => ?_)
    · refine X.cut [(0, zr 4 44), (1, zi y1)] i282_87 rfl ?_
      exact K87  m (B) (hJ.up (by omega)) (by omega)  
    · refine X.aload_n 53 i282_52 rfl rfl rfl ?_
      refine X.getF 56 i282_53 rfl rfl (by decide) rfl rfl ?_
      refine X.bipush 58 i282_56 rfl rfl (by decide) ?_
      refine X.iload_n 59 i282_58 rfl rfl rfl ?_
      refine X.iadd 60 i282_59 rfl rfl (by omega) ?_
      refine X.lconst (y := 0) 61 i282_60 rfl rfl rfl ?_
      refine X.last' 62 i282_61 rfl rfl (by decide) rfl (by omega) (fun hrm519 m519 hm519 => ?_)
      have hJ520 := w45_19 hJ hm519 (by omega) hrm519
      have wt521 : m519 4 45 0 = (m 4 45 0) := by rw [hm519]; exact z_upd_i _ _ _ _ (by omega)
      have wt522 : m519 4 45 3 = (m 4 45 3) := by rw [hm519]; exact z_upd_i _ _ _ _ (by omega)
      refine X.aload_n 63 i282_62 rfl rfl rfl ?_
      refine X.getF 66 i282_63 rfl rfl (by decide) rfl rfl ?_
      refine X.bipush 68 i282_66 rfl rfl (by decide) ?_
      refine X.iload_n 69 i282_68 rfl rfl rfl ?_
      refine X.iadd 70 i282_69 rfl rfl (by omega) ?_
      refine X.lald 71 i282_70 rfl rfl (by decide) rfl (by omega) ?_
      refine X.lconst (y := 1) 72 i282_71 rfl rfl rfl ?_
      refine X.lcmp 73 i282_72 rfl rfl (fun z523 hz523 => ?_)
      refine X.ifne 81 76 i282_73 rfl rfl rfl (fun h524 => ?_) (fun h524 => ?_)
      · have h524c : (m519 4 45 (40 + y2)) ≠ 1 := by omega
        clear h524 hz523
        refine X.iinc 84 [(0, zr 4 44), (1, zi y1), (2, zi (y2 + 1))] i282_81 rfl rfl rfl (by omega) rfl ?_
        refine X.goto 47 i282_84 rfl rfl ?_
        exact ih (y2 + 1) m519 (B) (hJ520.up (by omega)) (by omega)  (by omega) (by omega)
      · have h524c : (m519 4 45 (40 + y2)) = 1 := by omega
        clear h524 hz523
        refine X.aload_n 77 i282_76 rfl rfl rfl ?_
        refine X.iload_n 78 i282_77 rfl rfl rfl ?_
        refine X.callv 81 [zi y2] [] [(0, zr 4 44), (1, zi y2)] i282_78 rfl (by decide) rfl rfl (by omega) rfl rfl (by decide) rfl t229 (Nat.le_of_ble_eq_true rfl) (Nat.le_of_ble_eq_true rfl) rfl ?_
        refine X.aload_n 1 i229_0 rfl rfl rfl ?_
        refine X.getF 4 i229_1 rfl rfl (by decide) rfl rfl ?_
        refine X.bipush 6 i229_4 rfl rfl (by decide) ?_
        refine X.iload_n 7 i229_6 rfl rfl rfl ?_
        refine X.iadd 8 i229_7 rfl rfl (by omega) ?_
        refine X.lconst (y := 0) 9 i229_8 rfl rfl rfl ?_
        refine X.last' 10 i229_9 rfl rfl (by decide) rfl (by omega) (fun hrm525 m525 hm525 => ?_)
        have hJ526 := w45_19 hJ520 hm525 (by omega) hrm525
        have wt527 : m525 4 45 0 = (m 4 45 0) := Eq.trans (by rw [hm525]; exact z_upd_i _ _ _ _ (by omega)) wt521
        have wt528 : m525 4 45 3 = (m 4 45 3) := Eq.trans (by rw [hm525]; exact z_upd_i _ _ _ _ (by omega)) wt522
        clear wt521 wt522
        refine X.aload_n 11 i229_10 rfl rfl rfl ?_
        refine X.bipush 13 i229_11 rfl rfl (by decide) ?_
        refine X.iload_n 14 i229_13 rfl rfl rfl ?_
        refine X.iadd 15 i229_14 rfl rfl (by omega) ?_
        refine X.lconst (y := 0) 16 i229_15 rfl rfl rfl ?_
        refine X.callv 19 [zi (10 + y2), zl 0] [] [(0, zr 4 44), (1, zi (10 + y2)), (2, zl 0)] i229_16 rfl (by decide) rfl rfl (by omega) rfl rfl (by decide) rfl t223 (Nat.le_of_ble_eq_true rfl) (Nat.le_of_ble_eq_true rfl) rfl ?_
        refine c223_1 (S := zfr [] S) (m0 := m525) (B := B)  (10 + y2) 0 (by omega) (hJ526.ow.up (by omega)) (by omega) (by omega) (by omega) (fun m529 hJ530 => ?_)
        have hJ532 := hJ526.trans hJ530 zi_n
        have wt533 : m529 4 45 0 = (m 4 45 0) := Eq.trans (hJ530.eq rfl rfl) wt527
        have wt534 : m529 4 45 3 = (m 4 45 3) := Eq.trans (hJ530.eq rfl rfl) wt528
        clear wt527 wt528
        show X (EE s) (d - 1) 229 19 [(0, zr 4 44), (1, zi y2)] [] m529 _
        refine X.retv i229_19 rfl t229 ?_
        show X (EE s) d 282 81 [(0, zr 4 44), (1, zi y1), (2, zi y2)] [] m529 _
        refine X.iinc 84 [(0, zr 4 44), (1, zi y1), (2, zi (y2 + 1))] i282_81 rfl rfl rfl (by omega) rfl ?_
        refine X.goto 47 i282_84 rfl rfl ?_
        exact ih (y2 + 1) m529 (B + 1) (hJ532.up (by omega)) (by omega)  (by omega) (by omega)
theorem l282_89_1 {s : Nat × (Nat → Int32)} {S : zS} {m0 : zM} {d : Nat} {Q : Option zV → zM → Prop} (y1 : Int) (BE : Int) (hE : BE ≤ 1000000000) (hd : 19 ≤ d) (hy1 : 1 ≤ y1 ∧ y1 ≤ 100000) (hs0 : S.1 4 45 0)
    (K126 : ∀ (m' : zM) (B' : Int), J S m0 B' m' → B' ≤ BE → (m0 4 45 0 + y1 ≤ 2000000000) → (m' 4 45 0 = m0 4 45 0 + y1) → X (EE s) d 282 126 [(0, zr 4 44)] [] m' Q) :
    ∀ (n : Nat) (y2 : Int) (m : zM) (B : Int), J S m0 B m → B + 1 * (n : Int) ≤ BE → (0 ≤ y2 ∧ y2 ≤ 100000) → (y2 ≤ y1) → (m 4 45 0 = m0 4 45 0 + y2) → (m0 4 45 0 + y1 ≤ 2000000000) → 100000 - y2 < (n : Int) → X (EE s) d 282 89 [(0, zr 4 44), (1, zi y1), (2, zi y2)] [] m Q := by
  intro n
  induction n with
  | zero =>
    intro y2 m B hJ hB  hy2 hr0 hr1 hr2 hn
    exfalso
    omega
  | succ n ih =>
    intro y2 m B hJ hB  hy2 hr0 hr1 hr2 hn
    refine X.iload_n 90 i282_89 rfl rfl rfl ?_
    refine X.iload_n 91 i282_90 rfl rfl rfl ?_
    refine X.icmpge 126 94 i282_91 rfl rfl rfl (fun h517 => ?_) (fun h517 => ?_)
    · refine X.cut [(0, zr 4 44)] i282_126 rfl ?_
      exact K126  m (B) (hJ.up (by omega)) (by omega)  (by omega) (by omega)
    · refine X.aload_n 95 i282_94 rfl rfl rfl ?_
      refine X.getF 98 i282_95 rfl rfl (by decide) rfl rfl ?_
      refine X.bipush 100 i282_98 rfl rfl (by decide) ?_
      refine X.dup2 101 i282_100 rfl rfl ?_
      refine X.lald 102 i282_101 rfl rfl (by decide) rfl (by omega) ?_
      refine X.lconst (y := 1) 103 i282_102 rfl rfl rfl ?_
      refine X.llF 104 .ladd (fun x y => x + y) i282_103 rfl rfl rfl (fun _ _ => rfl) (fun z518 hz518 => ?_)
      refine X.last' 105 i282_104 rfl rfl (by decide) rfl (by omega) (fun hrm519 m519 hm519 => ?_)
      have hJ520 := w45_14 hJ hm519 (by omega) hrm519
      have wt521 : m519 4 45 0 = (m 4 45 0) := by rw [hm519]; exact z_upd_i _ _ _ _ (by omega)
      have wt522 : m519 4 45 3 = (m 4 45 3) := by rw [hm519]; exact z_upd_i _ _ _ _ (by omega)
      refine X.aload_n 106 i282_105 rfl rfl rfl ?_
      refine X.getF 109 i282_106 rfl rfl (by decide) rfl rfl ?_
      refine X.bipush 111 i282_109 rfl rfl (by decide) ?_
      refine X.dup2 112 i282_111 rfl rfl ?_
      refine X.lald 113 i282_112 rfl rfl (by decide) rfl (by omega) ?_
      refine X.lconst (y := 1) 114 i282_113 rfl rfl rfl ?_
      refine X.llF 115 .ladd (fun x y => x + y) i282_114 rfl rfl rfl (fun _ _ => rfl) (fun z523 hz523 => ?_)
      refine X.last' 116 i282_115 rfl rfl (by decide) rfl (by omega) (fun hrm524 m524 hm524 => ?_)
      have hJ525 := w45_19 hJ520 hm524 (by omega) hrm524
      have wt526 : m524 4 45 0 = (m 4 45 0) := Eq.trans (by rw [hm524]; exact z_upd_i _ _ _ _ (by omega)) wt521
      have wt527 : m524 4 45 3 = (m 4 45 3) := Eq.trans (by rw [hm524]; exact z_upd_i _ _ _ _ (by omega)) wt522
      clear wt521 wt522
      refine X.aload_n 117 i282_116 rfl rfl rfl ?_
      refine X.callv 120 [] [] [(0, zr 4 44)] i282_117 rfl (by decide) rfl rfl (by omega) rfl rfl (by decide) rfl t230 (Nat.le_of_ble_eq_true rfl) (Nat.le_of_ble_eq_true rfl) rfl ?_
      refine c230_1 (S := zfr [(4, 45, 0)] S) (m0 := m524) (B := B)   (by omega) (hJ525.ow.up (by omega)) (by omega) zm_z (fun m528 hJ529 hqv5300 => ?_)
      have hJ531 := hJ525.trans hJ529 (zi_c hs0 zi_n)
      have wt532 : m528 4 45 3 = (m 4 45 3) := Eq.trans (hJ529.eq rfl rfl) wt527
      show X (EE s) d 282 120 [(0, zr 4 44), (1, zi y1), (2, zi y2)] [] m528 _
      refine X.iinc 123 [(0, zr 4 44), (1, zi y1), (2, zi (y2 + 1))] i282_120 rfl rfl rfl (by omega) rfl ?_
      refine X.goto 89 i282_123 rfl rfl ?_
      exact ih (y2 + 1) m528 (B + 1) (hJ531.up (by omega)) (by omega)  (by omega) (by omega) (by omega) (by omega) (by omega)
-- WorkMeterModel.off
theorem c282_1 {s : Nat × (Nat → Int32)} {S : zS} {m0 m : zM} {B : Int} {d : Nat} {Q : Option zV → zM → Prop} (a1 : Int) (hd : 19 ≤ d) (hJ : J S m0 B m) (hB : B + 100006 ≤ 1000000000) (ha1 : (-2147483648) ≤ a1 ∧ a1 ≤ 2147483647) (hs0 : S.1 4 45 0) (hs1 : S.1 4 45 3) (hQ : ∀ (v : Int) m', ((-1) ≤ v ∧ v ≤ 2000000000) → J S m0 (B + 100006) m' → ((v = -1 ∧ ¬ (1 ≤ a1 ∧ a1 ≤ 100000 ∧ m 4 45 0 + a1 ≤ 2000000000) ∧ m' 4 45 0 = m 4 45 0 ∧ m' 4 45 3 = m 4 45 3) ∨ (v = m 4 45 0 + a1 ∧ 1 ≤ a1 ∧ a1 ≤ 100000 ∧ m 4 45 0 + a1 ≤ 2000000000 ∧ m' 4 45 0 = m 4 45 0 + a1 ∧ m' 4 45 3 = 0)) → Q (some (zi v)) m') : X (EE s) d 282 0 [(0, zr 4 44), (1, zi a1)] [] m Q := by
  refine X.iload_n 1 i282_0 rfl rfl rfl ?_
  refine X.i2l 2 i282_1 rfl rfl ?_
  refine X.lconst (y := 1) 3 i282_2 rfl rfl rfl ?_
  refine X.ldc2 6 i282_3 rfl rfl (by decide) ?_
  refine X.calls 9 [zl a1, zl 1, zl 100000] [] [(0, zl a1), (2, zl 1), (4, zl 100000)] i282_6 (by decide) rfl rfl (by omega) rfl rfl t204 (Nat.le_of_ble_eq_true rfl) (Nat.le_of_ble_eq_true rfl) rfl ?_
  refine X.lload_n 1 i204_0 rfl rfl rfl ?_
  refine X.lload_n 2 i204_1 rfl rfl rfl ?_
  refine X.lcmp 3 i204_2 rfl rfl (fun z501 hz501 => ?_)
  refine X.iflt 17 6 i204_3 rfl rfl rfl (fun h502 => ?_) (fun h502 => ?_)
  · have h502c : a1 < 1 := by omega
    clear h502 hz501
    refine X.cut [] i204_17 rfl ?_
    refine X.iconst 18 i204_17 rfl rfl (by decide) ?_
    refine X.retz i204_18 rfl t204 (by omega) ?_
    show X (EE s) d 282 9 [(0, zr 4 44), (1, zi a1)] [zi 0] m _
    refine X.ifeq 28 12 i282_9 rfl rfl rfl (fun h503 => ?_) (fun h503 => (by exfalso; omega))
    refine X.cut [] i282_28 rfl ?_
    refine X.iconst 29 i282_28 rfl rfl (by decide) ?_
    refine X.reti i282_29 rfl t282 ?_
    exact hQ (-1) m (by first | trivial | omega) (hJ.up (by omega)) (by first | exact (.inl ⟨by omega, by omega, by omega, by omega⟩) | exact (.inr ⟨by omega, by omega, by omega, by omega, by omega, by omega⟩))
  · have h502c : a1 ≥ 1 := by omega
    clear h502 hz501
    refine X.lload_n 7 i204_6 rfl rfl rfl ?_
    refine X.lload 9 i204_7 rfl rfl rfl ?_
    refine X.lcmp 10 i204_9 rfl rfl (fun z504 hz504 => ?_)
    refine X.ifgt 17 13 i204_10 rfl rfl rfl (fun h505 => ?_) (fun h505 => ?_)
    · have h505c : a1 > 100000 := by omega
      clear h505 hz504
      refine X.cut [] i204_17 rfl ?_
      refine X.iconst 18 i204_17 rfl rfl (by decide) ?_
      refine X.retz i204_18 rfl t204 (by omega) ?_
      show X (EE s) d 282 9 [(0, zr 4 44), (1, zi a1)] [zi 0] m _
      refine X.ifeq 28 12 i282_9 rfl rfl rfl (fun h506 => ?_) (fun h506 => (by exfalso; omega))
      refine X.cut [] i282_28 rfl ?_
      refine X.iconst 29 i282_28 rfl rfl (by decide) ?_
      refine X.reti i282_29 rfl t282 ?_
      exact hQ (-1) m (by first | trivial | omega) (hJ.up (by omega)) (by first | exact (.inl ⟨by omega, by omega, by omega, by omega⟩) | exact (.inr ⟨by omega, by omega, by omega, by omega, by omega, by omega⟩))
    · have h505c : a1 ≤ 100000 := by omega
      clear h505 hz504
      refine X.iconst 14 i204_13 rfl rfl (by decide) ?_
      refine X.goto 18 i204_14 rfl rfl ?_
      refine X.cut [] i204_18 rfl ?_
      refine X.retz i204_18 rfl t204 (by omega) ?_
      show X (EE s) d 282 9 [(0, zr 4 44), (1, zi a1)] [zi 1] m _
      refine X.ifeq 28 12 i282_9 rfl rfl rfl (fun h507 => (by exfalso; omega)) (fun h507 => ?_)
      refine X.aload_n 13 i282_12 rfl rfl rfl ?_
      refine X.getF 16 i282_13 rfl rfl (by decide) rfl rfl ?_
      refine X.iconst 17 i282_16 rfl rfl (by decide) ?_
      refine X.lald 18 i282_17 rfl rfl (by decide) rfl (by omega) ?_
      have h508 := r45_0 hJ 4
      refine X.iload_n 19 i282_18 rfl rfl rfl ?_
      refine X.i2l 20 i282_19 rfl rfl ?_
      refine X.ladd 21 i282_20 rfl rfl (by omega) ?_
      refine X.ldc2 24 i282_21 rfl rfl (by decide) ?_
      refine X.lcmp 25 i282_24 rfl rfl (fun z509 hz509 => ?_)
      refine X.ifle 30 28 i282_25 rfl rfl rfl (fun h510 => ?_) (fun h510 => ?_)
      · have h510c : ((m 4 45 0) + a1) ≤ 2000000000 := by omega
        clear h510 hz509
        refine X.aload_n 31 i282_30 rfl rfl rfl ?_
        refine X.bipush 33 i282_31 rfl rfl (by decide) ?_
        refine X.iload_n 34 i282_33 rfl rfl rfl ?_
        refine X.i2l 35 i282_34 rfl rfl ?_
        refine X.callv 38 [zi 21, zl a1] [] [(0, zr 4 44), (1, zi 21), (2, zl a1)] i282_35 rfl (by decide) rfl rfl (by omega) rfl rfl (by decide) rfl t223 (Nat.le_of_ble_eq_true rfl) (Nat.le_of_ble_eq_true rfl) rfl ?_
        refine c223_2 (S := zfr [] S) (m0 := m) (B := B)  21 a1 (by omega) (hJ.ow.up (by omega)) (by omega) (by omega) (by omega) (fun m511 hJ512 => ?_)
        have hJ514 := hJ.trans hJ512 zi_n
        have wt515 : m511 4 45 0 = (m 4 45 0) := hJ512.eq rfl rfl
        have wt516 : m511 4 45 3 = (m 4 45 3) := hJ512.eq rfl rfl
        show X (EE s) d 282 38 [(0, zr 4 44), (1, zi a1)] [] m511 _
        refine X.aload_n 39 i282_38 rfl rfl rfl ?_
        refine X.getF 42 i282_39 rfl rfl (by decide) rfl rfl ?_
        refine X.iconst 43 i282_42 rfl rfl (by decide) ?_
        refine X.lconst (y := 0) 44 i282_43 rfl rfl rfl ?_
        refine X.last' 45 i282_44 rfl rfl (by decide) rfl (by omega) (fun hrm517 m517 hm517 => ?_)
        have hJ518 := w45_3 hJ514 hm517 (by omega) hs1
        have wt519 : m517 4 45 0 = (m 4 45 0) := Eq.trans (by rw [hm517]; exact z_upd_o _ _ rfl) wt515
        have wt520 : m517 4 45 3 = 0 := by rw [hm517]; exact z_upd_same _ _ _ _ _
        clear wt515 wt516
        refine X.iconst 46 i282_45 rfl rfl (by decide) ?_
        refine X.istore_n 47 [(0, zr 4 44), (1, zi a1), (2, zi 2)] i282_46 rfl rfl rfl ?_
        refine l282_47_1 (s := s) (S := (zfr [] S)) (m0 := m517) (d := d)  a1 (BE := B + 5) (by omega) (by omega) (by omega) (fun  m521 B522 hJ523 hBB522 => ?_) ((5 - 2 : Int).toNat + 1) 2 m517 (B + 1) (hJ518.ow.up (by omega)) (by omega)  (by omega) (by omega)
        have hJ524 := hJ518.trans hJ523 zi_n
        have wt525 : m521 4 45 0 = (m 4 45 0) := Eq.trans (hJ523.eq rfl rfl) wt519
        have wt526 : m521 4 45 3 = 0 := Eq.trans (hJ523.eq rfl rfl) wt520
        refine X.iconst 88 i282_87 rfl rfl (by decide) ?_
        refine X.istore_n 89 [(0, zr 4 44), (1, zi a1), (2, zi 0)] i282_88 rfl rfl rfl ?_
        refine l282_89_1 (s := s) (S := (zfr [(4, 45, 0)] S)) (m0 := m521) (d := d)  a1 (BE := B522 + 100001) (by omega) (by omega) (by omega) zm_z (fun  m527 B528 hJ529 hBB528 hrlm5270 hrlm5271 => ?_) ((100000 - 0 : Int).toNat + 1) 0 m521 (B522) (hJ524.ow.up (by omega)) (by omega)  (by omega) (by omega) (by omega) (by omega) (by omega)
        have hJ530 := hJ524.trans hJ529 (zi_c hs0 zi_n)
        have wt531 : m527 4 45 3 = 0 := Eq.trans (hJ529.eq rfl rfl) wt526
        refine X.aload_n 127 i282_126 rfl rfl rfl ?_
        refine X.getF 130 i282_127 rfl rfl (by decide) rfl rfl ?_
        refine X.iconst 131 i282_130 rfl rfl (by decide) ?_
        refine X.lald 132 i282_131 rfl rfl (by decide) rfl (by omega) ?_
        have h532 := r45_0 hJ530 4
        refine X.l2i 133 i282_132 rfl rfl (by omega) ?_
        refine X.reti i282_133 rfl t282 ?_
        exact hQ (m527 4 45 0) m527 (by first | trivial | omega) (hJ530.up (by omega)) (by first | exact (.inl ⟨by omega, by omega, by omega, by omega⟩) | exact (.inr ⟨by omega, by omega, by omega, by omega, by omega, by omega⟩))
      · have h510c : ((m 4 45 0) + a1) > 2000000000 := by omega
        clear h510 hz509
        refine X.cut [] i282_28 rfl ?_
        refine X.iconst 29 i282_28 rfl rfl (by decide) ?_
        refine X.reti i282_29 rfl t282 ?_
        exact hQ (-1) m (by first | trivial | omega) (hJ.up (by omega)) (by first | exact (.inl ⟨by omega, by omega, by omega, by omega⟩) | exact (.inr ⟨by omega, by omega, by omega, by omega, by omega, by omega⟩))
-- WorkMeter$Marks.turn
theorem c57_3 {s : Nat × (Nat → Int32)} {S : zS} {m0 m : zM} {B : Int} {d : Nat} {Q : Option zV → zM → Prop} (g0 g3 : Nat) (a1 a2 a4 : Int) (hd : 13 ≤ d) (hJ : J S m0 B m) (hB : B + 1 ≤ 1000000000) (ha1 : 0 ≤ a1 ∧ a1 ≤ 1) (ha2 : 0 ≤ a2 ∧ a2 ≤ 1) (ha4 : 0 ≤ a4 ∧ a4 ≤ 2000000000) (hQ : ∀ m', J S m0 (B + 1) m' → Q none m') : X (EE s) d 57 0 [(0, zr g0 33), (1, zi a1), (2, zi a2), (3, zr g3 37), (4, zi a4)] [] m Q := by
  refine X.iload_n 1 i57_0 rfl rfl rfl ?_
  refine X.ifeq 37 4 i57_1 rfl rfl rfl (fun h501 => ?_) (fun h501 => ?_)
  · refine X.cut [(0, zr g0 33), (1, zi a1), (3, zr g3 37), (4, zi a4)] i57_37 rfl ?_
    refine X.aload_n 38 i57_37 rfl rfl rfl ?_
    refine X.dup 39 i57_38 rfl rfl rfl ?_
    refine X.getIr 42 3 i57_39 rfl rfl (by decide) rfl rfl rfl (fun h502 => ?_)
    refine X.iconst 43 i57_42 rfl rfl (by decide) ?_
    refine X.iload_n 44 i57_43 rfl rfl rfl ?_
    refine X.iiF 45 .ishl (fun x y => x <<< (y &&& 31)) i57_44 rfl rfl rfl (fun _ _ => rfl) (fun z503 hz503 => ?_)
    refine X.iconst 46 i57_45 rfl rfl (by decide) ?_
    refine X.iiF 47 .ixor (fun x y => x ^^^ y) i57_46 rfl rfl rfl (fun _ _ => rfl) (fun z504 hz504 => ?_)
    refine X.iiF 48 .iand (fun x y => x &&& y) i57_47 rfl rfl rfl (fun _ _ => rfl) (fun z505 hz505 => ?_)
    refine X.putI' 51 3 i57_48 rfl rfl (by decide) rfl rfl rfl (fun hrm506 m506 hm506 => ?_)
    have hJ507 := w33_0 hJ hm506 (by omega) hrm506
    refine X.aload_n 52 i57_51 rfl rfl rfl ?_
    refine X.iload 54 i57_52 rfl rfl rfl ?_
    refine X.iload_n 55 i57_54 rfl rfl rfl ?_
    refine X.bipush 57 i57_55 rfl rfl (by decide) ?_
    refine X.iadd 58 i57_57 rfl rfl (by omega) ?_
    refine X.iconst 59 i57_58 rfl rfl (by decide) ?_
    refine X.callv 62 [zi a4, zi (a1 + 10), zi 0] [] [(0, zr g3 37), (1, zi a4), (2, zi (a1 + 10)), (3, zi 0)] i57_59 rfl (by decide) rfl rfl (by omega) rfl rfl (by decide) rfl t55 (Nat.le_of_ble_eq_true rfl) (Nat.le_of_ble_eq_true rfl) rfl ?_
    refine X.aload_n 1 i55_0 rfl rfl rfl ?_
    refine X.getI 4 1 i55_1 rfl rfl (by decide) rfl rfl rfl ?_
    have h508 := r37_1 hJ507 g3
    refine X.bipush 6 i55_4 rfl rfl (by decide) ?_
    refine X.irem 7 i55_6 rfl rfl (by omega) ?_
    refine X.iconst 8 i55_7 rfl rfl (by decide) ?_
    refine X.imul 9 i55_8 rfl rfl (by omega) ?_
    refine X.istore 11 [(0, zr g3 37), (1, zi a4), (2, zi (a1 + 10)), (3, zi 0), (4, zi (((m506 g3 37 1) % 40) * 3))] i55_9 rfl rfl rfl ?_
    refine X.aload_n 12 i55_11 rfl rfl rfl ?_
    refine X.getR 15 i55_12 rfl rfl (by decide) rfl rfl ?_
    refine X.iload 17 i55_15 rfl rfl rfl ?_
    refine X.iload_n 18 i55_17 rfl rfl rfl ?_
    refine X.iast' 19 i55_18 rfl rfl (by decide) rfl (by omega) (fun hrm509 m509 hm509 => ?_)
    have hJ510 := w38_0 hJ507 hm509 (by omega) hrm509
    refine X.aload_n 20 i55_19 rfl rfl rfl ?_
    refine X.getR 23 i55_20 rfl rfl (by decide) rfl rfl ?_
    refine X.iload 25 i55_23 rfl rfl rfl ?_
    refine X.iconst 26 i55_25 rfl rfl (by decide) ?_
    refine X.iadd 27 i55_26 rfl rfl (by omega) ?_
    refine X.iload_n 28 i55_27 rfl rfl rfl ?_
    refine X.iast' 29 i55_28 rfl rfl (by decide) rfl (by omega) (fun hrm511 m511 hm511 => ?_)
    have hJ512 := w38_0 hJ510 hm511 (by omega) hrm511
    refine X.aload_n 30 i55_29 rfl rfl rfl ?_
    refine X.getR 33 i55_30 rfl rfl (by decide) rfl rfl ?_
    refine X.iload 35 i55_33 rfl rfl rfl ?_
    refine X.iconst 36 i55_35 rfl rfl (by decide) ?_
    refine X.iadd 37 i55_36 rfl rfl (by omega) ?_
    refine X.iload_n 38 i55_37 rfl rfl rfl ?_
    refine X.iast' 39 i55_38 rfl rfl (by decide) rfl (by omega) (fun hrm513 m513 hm513 => ?_)
    have hJ514 := w38_0 hJ512 hm513 (by omega) hrm513
    refine X.aload_n 40 i55_39 rfl rfl rfl ?_
    refine X.dup 41 i55_40 rfl rfl rfl ?_
    refine X.getI 44 1 i55_41 rfl rfl (by decide) rfl rfl rfl ?_
    have h515 := r37_1 hJ514 g3
    refine X.iconst 45 i55_44 rfl rfl (by decide) ?_
    refine X.iadd 46 i55_45 rfl rfl (by omega) ?_
    refine X.putI' 49 1 i55_46 rfl rfl (by decide) rfl rfl rfl (fun hrm516 m516 hm516 => ?_)
    have hJ517 := w37_1 (hJ514.up (B' := B + 1) (by omega)) hm516 (by omega)
    refine X.retv i55_49 rfl t55 ?_
    show X (EE s) d 57 62 [(0, zr g0 33), (1, zi a1), (3, zr g3 37), (4, zi a4)] [] m516 _
    refine X.cut [] i57_62 rfl ?_
    refine X.retv i57_62 rfl t57 ?_
    exact hQ  m516  (hJ517.up (by omega)) 
  · refine X.aload_n 5 i57_4 rfl rfl rfl ?_
    refine X.dup 6 i57_5 rfl rfl rfl ?_
    refine X.getIr 9 3 i57_6 rfl rfl (by decide) rfl rfl rfl (fun h518 => ?_)
    refine X.iconst 10 i57_9 rfl rfl (by decide) ?_
    refine X.iload_n 11 i57_10 rfl rfl rfl ?_
    refine X.iiF 12 .ishl (fun x y => x <<< (y &&& 31)) i57_11 rfl rfl rfl (fun _ _ => rfl) (fun z519 hz519 => ?_)
    refine X.iiF 13 .ior (fun x y => x ||| y) i57_12 rfl rfl rfl (fun _ _ => rfl) (fun z520 hz520 => ?_)
    refine X.putI' 16 3 i57_13 rfl rfl (by decide) rfl rfl rfl (fun hrm521 m521 hm521 => ?_)
    have hJ522 := w33_0 hJ hm521 (by omega) hrm521
    refine X.aload_n 17 i57_16 rfl rfl rfl ?_
    refine X.getR 20 i57_17 rfl rfl (by decide) rfl rfl ?_
    refine X.iload_n 21 i57_20 rfl rfl rfl ?_
    refine X.dup2 22 i57_21 rfl rfl ?_
    refine X.ialdr 23 i57_22 rfl rfl (by decide) rfl (by omega) (fun h523 => ?_)
    refine X.iconst 24 i57_23 rfl rfl (by decide) ?_
    refine X.iiF 25 .iadd (fun x y => x + y) i57_24 rfl rfl rfl (fun _ _ => rfl) (fun z524 hz524 => ?_)
    refine X.iast' 26 i57_25 rfl rfl (by decide) rfl (by omega) (fun hrm525 m525 hm525 => ?_)
    have hJ526 := w34_0 hJ522 hm525 (by omega) hrm525
    refine X.aload_n 27 i57_26 rfl rfl rfl ?_
    refine X.iload 29 i57_27 rfl rfl rfl ?_
    refine X.iload_n 30 i57_29 rfl rfl rfl ?_
    refine X.iconst 31 i57_30 rfl rfl (by decide) ?_
    refine X.callv 34 [zi a4, zi a1, zi 0] [] [(0, zr g3 37), (1, zi a4), (2, zi a1), (3, zi 0)] i57_31 rfl (by decide) rfl rfl (by omega) rfl rfl (by decide) rfl t55 (Nat.le_of_ble_eq_true rfl) (Nat.le_of_ble_eq_true rfl) rfl ?_
    refine X.aload_n 1 i55_0 rfl rfl rfl ?_
    refine X.getI 4 1 i55_1 rfl rfl (by decide) rfl rfl rfl ?_
    have h527 := r37_1 hJ526 g3
    refine X.bipush 6 i55_4 rfl rfl (by decide) ?_
    refine X.irem 7 i55_6 rfl rfl (by omega) ?_
    refine X.iconst 8 i55_7 rfl rfl (by decide) ?_
    refine X.imul 9 i55_8 rfl rfl (by omega) ?_
    refine X.istore 11 [(0, zr g3 37), (1, zi a4), (2, zi a1), (3, zi 0), (4, zi (((m525 g3 37 1) % 40) * 3))] i55_9 rfl rfl rfl ?_
    refine X.aload_n 12 i55_11 rfl rfl rfl ?_
    refine X.getR 15 i55_12 rfl rfl (by decide) rfl rfl ?_
    refine X.iload 17 i55_15 rfl rfl rfl ?_
    refine X.iload_n 18 i55_17 rfl rfl rfl ?_
    refine X.iast' 19 i55_18 rfl rfl (by decide) rfl (by omega) (fun hrm528 m528 hm528 => ?_)
    have hJ529 := w38_0 hJ526 hm528 (by omega) hrm528
    refine X.aload_n 20 i55_19 rfl rfl rfl ?_
    refine X.getR 23 i55_20 rfl rfl (by decide) rfl rfl ?_
    refine X.iload 25 i55_23 rfl rfl rfl ?_
    refine X.iconst 26 i55_25 rfl rfl (by decide) ?_
    refine X.iadd 27 i55_26 rfl rfl (by omega) ?_
    refine X.iload_n 28 i55_27 rfl rfl rfl ?_
    refine X.iast' 29 i55_28 rfl rfl (by decide) rfl (by omega) (fun hrm530 m530 hm530 => ?_)
    have hJ531 := w38_0 hJ529 hm530 (by omega) hrm530
    refine X.aload_n 30 i55_29 rfl rfl rfl ?_
    refine X.getR 33 i55_30 rfl rfl (by decide) rfl rfl ?_
    refine X.iload 35 i55_33 rfl rfl rfl ?_
    refine X.iconst 36 i55_35 rfl rfl (by decide) ?_
    refine X.iadd 37 i55_36 rfl rfl (by omega) ?_
    refine X.iload_n 38 i55_37 rfl rfl rfl ?_
    refine X.iast' 39 i55_38 rfl rfl (by decide) rfl (by omega) (fun hrm532 m532 hm532 => ?_)
    have hJ533 := w38_0 hJ531 hm532 (by omega) hrm532
    refine X.aload_n 40 i55_39 rfl rfl rfl ?_
    refine X.dup 41 i55_40 rfl rfl rfl ?_
    refine X.getI 44 1 i55_41 rfl rfl (by decide) rfl rfl rfl ?_
    have h534 := r37_1 hJ533 g3
    refine X.iconst 45 i55_44 rfl rfl (by decide) ?_
    refine X.iadd 46 i55_45 rfl rfl (by omega) ?_
    refine X.putI' 49 1 i55_46 rfl rfl (by decide) rfl rfl rfl (fun hrm535 m535 hm535 => ?_)
    have hJ536 := w37_1 (hJ533.up (B' := B + 1) (by omega)) hm535 (by omega)
    refine X.retv i55_49 rfl t55 ?_
    show X (EE s) d 57 34 [(0, zr g0 33), (1, zi a1), (2, zi a2), (3, zr g3 37), (4, zi a4)] [] m535 _
    refine X.goto 62 i57_34 rfl rfl ?_
    refine X.cut [] i57_62 rfl ?_
    refine X.retv i57_62 rfl t57 ?_
    exact hQ  m535  (hJ536.up (by omega)) 
-- WorkMeter.mark
theorem c134_1 {s : Nat × (Nat → Int32)} {S : zS} {m0 m : zM} {B : Int} {d : Nat} {Q : Option zV → zM → Prop} (a1 a2 : Int) (hd : 14 ≤ d) (hJ : J S m0 B m) (hB : B + 1 ≤ 1000000000) (ha1 : (-2147483648) ≤ a1 ∧ a1 ≤ 2147483647) (ha2 : 0 ≤ a2 ∧ a2 ≤ 1) (hQ : ∀ (v : Int) m', (0 ≤ v ∧ v ≤ 1) → J S m0 (B + 1) m' → Q (some (zi v)) m') : X (EE s) d 134 0 [(0, zr 4 40), (1, zi a1), (2, zi a2)] [] m Q := by
  refine X.iload_n 1 i134_0 rfl rfl rfl ?_
  refine X.iflt 24 4 i134_1 rfl rfl rfl (fun h501 => ?_) (fun h501 => ?_)
  · refine X.cut [] i134_24 rfl ?_
    refine X.iconst 25 i134_24 rfl rfl (by decide) ?_
    refine X.retz i134_25 rfl t134 (by omega) ?_
    exact hQ 0 m (by first | trivial | omega) (hJ.up (by omega)) 
  · refine X.iload_n 5 i134_4 rfl rfl rfl ?_
    refine X.iconst 6 i134_5 rfl rfl (by decide) ?_
    refine X.icmpge 24 9 i134_6 rfl rfl rfl (fun h502 => ?_) (fun h502 => ?_)
    · refine X.cut [] i134_24 rfl ?_
      refine X.iconst 25 i134_24 rfl rfl (by decide) ?_
      refine X.retz i134_25 rfl t134 (by omega) ?_
      exact hQ 0 m (by first | trivial | omega) (hJ.up (by omega)) 
    · refine X.aload_n 10 i134_9 rfl rfl rfl ?_
      refine X.getF 13 i134_10 rfl rfl (by decide) rfl rfl ?_
      refine X.getR 16 i134_13 rfl rfl (by decide) rfl rfl ?_
      refine X.iload_n 17 i134_16 rfl rfl rfl ?_
      refine X.callv 20 [zi a1] [] [(0, zr 0 33), (1, zi a1)] i134_17 rfl (by decide) rfl rfl (by omega) rfl rfl (by decide) rfl t40 (Nat.le_of_ble_eq_true rfl) (Nat.le_of_ble_eq_true rfl) rfl ?_
      refine X.aload_n 1 i40_0 rfl rfl rfl ?_
      refine X.getIr 4 3 i40_1 rfl rfl (by decide) rfl rfl rfl (fun h503 => ?_)
      refine X.iload_n 5 i40_4 rfl rfl rfl ?_
      refine X.iiF 6 .ishr (fun x y => x >>> (y &&& 31)) i40_5 rfl rfl rfl (fun _ _ => rfl) (fun z504 hz504 => ?_)
      refine X.iconst 7 i40_6 rfl rfl (by decide) ?_
      refine X.andF 8 1 i40_7 rfl rfl (by decide) (.inl rfl) (fun z505 hz505 => ?_)
      refine X.iconst 9 i40_8 rfl rfl (by decide) ?_
      refine X.icmpne 16 12 i40_9 rfl rfl rfl (fun h506 => ?_) (fun h506 => ?_)
      · refine X.cut [] i40_16 rfl ?_
        refine X.iconst 17 i40_16 rfl rfl (by decide) ?_
        refine X.retz i40_17 rfl t40 (by omega) ?_
        show X (EE s) d 134 20 [(0, zr 4 40), (1, zi a1), (2, zi a2)] [zi 0] m _
        refine X.iload_n 21 i134_20 rfl rfl rfl ?_
        refine X.icmpne 26 24 i134_21 rfl rfl rfl (fun h507 => ?_) (fun h507 => ?_)
        · refine X.aload_n 27 i134_26 rfl rfl rfl ?_
          refine X.getF 30 i134_27 rfl rfl (by decide) rfl rfl ?_
          refine X.getR 33 i134_30 rfl rfl (by decide) rfl rfl ?_
          refine X.iload_n 34 i134_33 rfl rfl rfl ?_
          refine X.iload_n 35 i134_34 rfl rfl rfl ?_
          refine X.aload_n 36 i134_35 rfl rfl rfl ?_
          refine X.getF 39 i134_36 rfl rfl (by decide) rfl rfl ?_
          refine X.getR 42 i134_39 rfl rfl (by decide) rfl rfl ?_
          refine X.aload_n 43 i134_42 rfl rfl rfl ?_
          refine X.getF 46 i134_43 rfl rfl (by decide) rfl rfl ?_
          refine X.getI 49 9 i134_46 rfl rfl (by decide) rfl rfl rfl ?_
          have h508 := r8_9 hJ 0
          refine X.callv 52 [zi a1, zi a2, zr 0 37, zi (m 0 8 9)] [] [(0, zr 0 33), (1, zi a1), (2, zi a2), (3, zr 0 37), (4, zi (m 0 8 9))] i134_49 rfl (by decide) rfl rfl (by omega) rfl rfl (by decide) rfl t57 (Nat.le_of_ble_eq_true rfl) (Nat.le_of_ble_eq_true rfl) rfl ?_
          refine c57_3 (B := B) 0 0 a1 a2 (m 0 8 9) (by omega) (hJ.up (by omega)) (by omega) (by omega) (by omega) (by omega) (fun m509 hJ510 => ?_)
          show X (EE s) d 134 52 [(0, zr 4 40), (1, zi a1), (2, zi a2)] [] m509 _
          refine X.iconst 53 i134_52 rfl rfl (by decide) ?_
          refine X.retz i134_53 rfl t134 (by omega) ?_
          exact hQ 1 m509 (by first | trivial | omega) (hJ510.up (by omega)) 
        · refine X.cut [] i134_24 rfl ?_
          refine X.iconst 25 i134_24 rfl rfl (by decide) ?_
          refine X.retz i134_25 rfl t134 (by omega) ?_
          exact hQ 0 m (by first | trivial | omega) (hJ.up (by omega)) 
      · refine X.iconst 13 i40_12 rfl rfl (by decide) ?_
        refine X.goto 17 i40_13 rfl rfl ?_
        refine X.cut [] i40_17 rfl ?_
        refine X.retz i40_17 rfl t40 (by omega) ?_
        show X (EE s) d 134 20 [(0, zr 4 40), (1, zi a1), (2, zi a2)] [zi 1] m _
        refine X.iload_n 21 i134_20 rfl rfl rfl ?_
        refine X.icmpne 26 24 i134_21 rfl rfl rfl (fun h512 => ?_) (fun h512 => ?_)
        · refine X.aload_n 27 i134_26 rfl rfl rfl ?_
          refine X.getF 30 i134_27 rfl rfl (by decide) rfl rfl ?_
          refine X.getR 33 i134_30 rfl rfl (by decide) rfl rfl ?_
          refine X.iload_n 34 i134_33 rfl rfl rfl ?_
          refine X.iload_n 35 i134_34 rfl rfl rfl ?_
          refine X.aload_n 36 i134_35 rfl rfl rfl ?_
          refine X.getF 39 i134_36 rfl rfl (by decide) rfl rfl ?_
          refine X.getR 42 i134_39 rfl rfl (by decide) rfl rfl ?_
          refine X.aload_n 43 i134_42 rfl rfl rfl ?_
          refine X.getF 46 i134_43 rfl rfl (by decide) rfl rfl ?_
          refine X.getI 49 9 i134_46 rfl rfl (by decide) rfl rfl rfl ?_
          have h513 := r8_9 hJ 0
          refine X.callv 52 [zi a1, zi a2, zr 0 37, zi (m 0 8 9)] [] [(0, zr 0 33), (1, zi a1), (2, zi a2), (3, zr 0 37), (4, zi (m 0 8 9))] i134_49 rfl (by decide) rfl rfl (by omega) rfl rfl (by decide) rfl t57 (Nat.le_of_ble_eq_true rfl) (Nat.le_of_ble_eq_true rfl) rfl ?_
          refine c57_3 (B := B) 0 0 a1 a2 (m 0 8 9) (by omega) (hJ.up (by omega)) (by omega) (by omega) (by omega) (by omega) (fun m514 hJ515 => ?_)
          show X (EE s) d 134 52 [(0, zr 4 40), (1, zi a1), (2, zi a2)] [] m514 _
          refine X.iconst 53 i134_52 rfl rfl (by decide) ?_
          refine X.retz i134_53 rfl t134 (by omega) ?_
          exact hQ 1 m514 (by first | trivial | omega) (hJ515.up (by omega)) 
        · refine X.cut [] i134_24 rfl ?_
          refine X.iconst 25 i134_24 rfl rfl (by decide) ?_
          refine X.retz i134_25 rfl t134 (by omega) ?_
          exact hQ 0 m (by first | trivial | omega) (hJ.up (by omega)) 
-- WorkMeterModel.turnsOn
theorem c228_4 {s : Nat × (Nat → Int32)} {S : zS} {m0 m : zM} {B : Int} {d : Nat} {Q : Option zV → zM → Prop} (a1 : Int) (hd : 14 ≤ d) (hJ : J S m0 B m) (hB : B + 1 ≤ 1000000000) (ha1 : 0 ≤ a1 ∧ a1 ≤ 1) (hQ : ∀ m', J S m0 (B + 1) m' → Q none m') : X (EE s) d 228 0 [(0, zr 4 44), (1, zi a1)] [] m Q := by
  refine X.aload_n 1 i228_0 rfl rfl rfl ?_
  refine X.getF 4 i228_1 rfl rfl (by decide) rfl rfl ?_
  refine X.bipush 6 i228_4 rfl rfl (by decide) ?_
  refine X.iload_n 7 i228_6 rfl rfl rfl ?_
  refine X.iadd 8 i228_7 rfl rfl (by omega) ?_
  refine X.lconst (y := 1) 9 i228_8 rfl rfl rfl ?_
  refine X.last' 10 i228_9 rfl rfl (by decide) rfl (by omega) (fun hrm501 m501 hm501 => ?_)
  have hJ502 := w45_19 hJ hm501 (by omega) hrm501
  refine X.aload_n 11 i228_10 rfl rfl rfl ?_
  refine X.getF 14 i228_11 rfl rfl (by decide) rfl rfl ?_
  refine X.bipush 16 i228_14 rfl rfl (by decide) ?_
  refine X.iload_n 17 i228_16 rfl rfl rfl ?_
  refine X.iadd 18 i228_17 rfl rfl (by omega) ?_
  refine X.dup2 19 i228_18 rfl rfl ?_
  refine X.lald 20 i228_19 rfl rfl (by decide) rfl (by omega) ?_
  refine X.lconst (y := 1) 21 i228_20 rfl rfl rfl ?_
  refine X.llF 22 .ladd (fun x y => x + y) i228_21 rfl rfl rfl (fun _ _ => rfl) (fun z503 hz503 => ?_)
  refine X.last' 23 i228_22 rfl rfl (by decide) rfl (by omega) (fun hrm504 m504 hm504 => ?_)
  have hJ505 := w45_19 hJ502 hm504 (by omega) hrm504
  refine X.aload_n 24 i228_23 rfl rfl rfl ?_
  refine X.iload_n 25 i228_24 rfl rfl rfl ?_
  refine X.lconst (y := 0) 26 i228_25 rfl rfl rfl ?_
  refine X.callv 29 [zi a1, zl 0] [] [(0, zr 4 44), (1, zi a1), (2, zl 0)] i228_26 rfl (by decide) rfl rfl (by omega) rfl rfl (by decide) rfl t223 (Nat.le_of_ble_eq_true rfl) (Nat.le_of_ble_eq_true rfl) rfl ?_
  refine c223_1 (B := B)  a1 0 (by omega) (hJ505.up (by omega)) (by omega) (by omega) (by omega) (fun m506 hJ507 => ?_)
  show X (EE s) d 228 29 [(0, zr 4 44), (1, zi a1)] [] m506 _
  refine X.retv i228_29 rfl t228 ?_
  exact hQ  m506  (hJ507.up (by omega)) 
-- WorkMeterModel.mark
theorem c283_1 {s : Nat × (Nat → Int32)} {S : zS} {m0 m : zM} {B : Int} {d : Nat} {Q : Option zV → zM → Prop} (a1 a2 : Int) (hd : 15 ≤ d) (hJ : J S m0 B m) (hB : B + 1 ≤ 1000000000) (ha1 : (-2147483648) ≤ a1 ∧ a1 ≤ 2147483647) (ha2 : 0 ≤ a2 ∧ a2 ≤ 1) (hQ : ∀ (v : Int) m', (0 ≤ v ∧ v ≤ 1) → J S m0 (B + 1) m' → Q (some (zi v)) m') : X (EE s) d 283 0 [(0, zr 4 44), (1, zi a1), (2, zi a2)] [] m Q := by
  refine X.iload_n 1 i283_0 rfl rfl rfl ?_
  refine X.i2l 2 i283_1 rfl rfl ?_
  refine X.lconst (y := 0) 3 i283_2 rfl rfl rfl ?_
  refine X.lconst (y := 1) 4 i283_3 rfl rfl rfl ?_
  refine X.calls 7 [zl a1, zl 0, zl 1] [] [(0, zl a1), (2, zl 0), (4, zl 1)] i283_4 (by decide) rfl rfl (by omega) rfl rfl t204 (Nat.le_of_ble_eq_true rfl) (Nat.le_of_ble_eq_true rfl) rfl ?_
  refine X.lload_n 1 i204_0 rfl rfl rfl ?_
  refine X.lload_n 2 i204_1 rfl rfl rfl ?_
  refine X.lcmp 3 i204_2 rfl rfl (fun z501 hz501 => ?_)
  refine X.iflt 17 6 i204_3 rfl rfl rfl (fun h502 => ?_) (fun h502 => ?_)
  · have h502c : a1 < 0 := by omega
    clear h502 hz501
    refine X.cut [] i204_17 rfl ?_
    refine X.iconst 18 i204_17 rfl rfl (by decide) ?_
    refine X.retz i204_18 rfl t204 (by omega) ?_
    show X (EE s) d 283 7 [(0, zr 4 44), (1, zi a1), (2, zi a2)] [zi 0] m _
    refine X.ifeq 33 10 i283_7 rfl rfl rfl (fun h503 => ?_) (fun h503 => (by exfalso; omega))
    refine X.cut [] i283_33 rfl ?_
    refine X.iconst 34 i283_33 rfl rfl (by decide) ?_
    refine X.retz i283_34 rfl t283 (by omega) ?_
    exact hQ 0 m (by first | trivial | omega) (hJ.up (by omega)) 
  · have h502c : a1 ≥ 0 := by omega
    clear h502 hz501
    refine X.lload_n 7 i204_6 rfl rfl rfl ?_
    refine X.lload 9 i204_7 rfl rfl rfl ?_
    refine X.lcmp 10 i204_9 rfl rfl (fun z504 hz504 => ?_)
    refine X.ifgt 17 13 i204_10 rfl rfl rfl (fun h505 => ?_) (fun h505 => ?_)
    · have h505c : a1 > 1 := by omega
      clear h505 hz504
      refine X.cut [] i204_17 rfl ?_
      refine X.iconst 18 i204_17 rfl rfl (by decide) ?_
      refine X.retz i204_18 rfl t204 (by omega) ?_
      show X (EE s) d 283 7 [(0, zr 4 44), (1, zi a1), (2, zi a2)] [zi 0] m _
      refine X.ifeq 33 10 i283_7 rfl rfl rfl (fun h506 => ?_) (fun h506 => (by exfalso; omega))
      refine X.cut [] i283_33 rfl ?_
      refine X.iconst 34 i283_33 rfl rfl (by decide) ?_
      refine X.retz i283_34 rfl t283 (by omega) ?_
      exact hQ 0 m (by first | trivial | omega) (hJ.up (by omega)) 
    · have h505c : a1 ≤ 1 := by omega
      clear h505 hz504
      refine X.iconst 14 i204_13 rfl rfl (by decide) ?_
      refine X.goto 18 i204_14 rfl rfl ?_
      refine X.cut [] i204_18 rfl ?_
      refine X.retz i204_18 rfl t204 (by omega) ?_
      show X (EE s) d 283 7 [(0, zr 4 44), (1, zi a1), (2, zi a2)] [zi 1] m _
      refine X.ifeq 33 10 i283_7 rfl rfl rfl (fun h507 => (by exfalso; omega)) (fun h507 => ?_)
      refine X.aload_n 11 i283_10 rfl rfl rfl ?_
      refine X.getF 14 i283_11 rfl rfl (by decide) rfl rfl ?_
      refine X.bipush 16 i283_14 rfl rfl (by decide) ?_
      refine X.iload_n 17 i283_16 rfl rfl rfl ?_
      refine X.iadd 18 i283_17 rfl rfl (by omega) ?_
      refine X.lald 19 i283_18 rfl rfl (by decide) rfl (by omega) ?_
      refine X.lconst (y := 1) 20 i283_19 rfl rfl rfl ?_
      refine X.lcmp 21 i283_20 rfl rfl (fun z508 hz508 => ?_)
      refine X.ifne 28 24 i283_21 rfl rfl rfl (fun h509 => ?_) (fun h509 => ?_)
      · have h509c : (m 4 45 (40 + a1)) ≠ 1 := by omega
        clear h509 hz508
        refine X.iconst 29 i283_28 rfl rfl (by decide) ?_
        refine X.iload_n 30 i283_29 rfl rfl rfl ?_
        refine X.icmpne 35 33 i283_30 rfl rfl rfl (fun h510 => ?_) (fun h510 => ?_)
        · refine X.iload_n 36 i283_35 rfl rfl rfl ?_
          refine X.ifeq 47 39 i283_36 rfl rfl rfl (fun h511 => ?_) (fun h511 => ?_)
          · refine X.cut [(0, zr 4 44), (1, zi a1)] i283_47 rfl ?_
            refine X.aload_n 48 i283_47 rfl rfl rfl ?_
            refine X.iload_n 49 i283_48 rfl rfl rfl ?_
            refine X.callv 52 [zi a1] [] [(0, zr 4 44), (1, zi a1)] i283_49 rfl (by decide) rfl rfl (by omega) rfl rfl (by decide) rfl t229 (Nat.le_of_ble_eq_true rfl) (Nat.le_of_ble_eq_true rfl) rfl ?_
            refine X.aload_n 1 i229_0 rfl rfl rfl ?_
            refine X.getF 4 i229_1 rfl rfl (by decide) rfl rfl ?_
            refine X.bipush 6 i229_4 rfl rfl (by decide) ?_
            refine X.iload_n 7 i229_6 rfl rfl rfl ?_
            refine X.iadd 8 i229_7 rfl rfl (by omega) ?_
            refine X.lconst (y := 0) 9 i229_8 rfl rfl rfl ?_
            refine X.last' 10 i229_9 rfl rfl (by decide) rfl (by omega) (fun hrm512 m512 hm512 => ?_)
            have hJ513 := w45_19 hJ hm512 (by omega) hrm512
            refine X.aload_n 11 i229_10 rfl rfl rfl ?_
            refine X.bipush 13 i229_11 rfl rfl (by decide) ?_
            refine X.iload_n 14 i229_13 rfl rfl rfl ?_
            refine X.iadd 15 i229_14 rfl rfl (by omega) ?_
            refine X.lconst (y := 0) 16 i229_15 rfl rfl rfl ?_
            refine X.callv 19 [zi (10 + a1), zl 0] [] [(0, zr 4 44), (1, zi (10 + a1)), (2, zl 0)] i229_16 rfl (by decide) rfl rfl (by omega) rfl rfl (by decide) rfl t223 (Nat.le_of_ble_eq_true rfl) (Nat.le_of_ble_eq_true rfl) rfl ?_
            refine c223_1 (B := B)  (10 + a1) 0 (by omega) (hJ513.up (by omega)) (by omega) (by omega) (by omega) (fun m514 hJ515 => ?_)
            show X (EE s) (d - 1) 229 19 [(0, zr 4 44), (1, zi a1)] [] m514 _
            refine X.retv i229_19 rfl t229 ?_
            show X (EE s) d 283 52 [(0, zr 4 44), (1, zi a1)] [] m514 _
            refine X.cut [] i283_52 rfl ?_
            refine X.iconst 53 i283_52 rfl rfl (by decide) ?_
            refine X.retz i283_53 rfl t283 (by omega) ?_
            exact hQ 1 m514 (by first | trivial | omega) (hJ515.up (by omega)) 
          · refine X.aload_n 40 i283_39 rfl rfl rfl ?_
            refine X.iload_n 41 i283_40 rfl rfl rfl ?_
            refine X.callv 44 [zi a1] [] [(0, zr 4 44), (1, zi a1)] i283_41 rfl (by decide) rfl rfl (by omega) rfl rfl (by decide) rfl t228 (Nat.le_of_ble_eq_true rfl) (Nat.le_of_ble_eq_true rfl) rfl ?_
            refine c228_4 (B := B)  a1 (by omega) (hJ.up (by omega)) (by omega) (by omega) (fun m517 hJ518 => ?_)
            show X (EE s) d 283 44 [(0, zr 4 44), (1, zi a1), (2, zi a2)] [] m517 _
            refine X.goto 52 i283_44 rfl rfl ?_
            refine X.cut [] i283_52 rfl ?_
            refine X.iconst 53 i283_52 rfl rfl (by decide) ?_
            refine X.retz i283_53 rfl t283 (by omega) ?_
            exact hQ 1 m517 (by first | trivial | omega) (hJ518.up (by omega)) 
        · refine X.cut [] i283_33 rfl ?_
          refine X.iconst 34 i283_33 rfl rfl (by decide) ?_
          refine X.retz i283_34 rfl t283 (by omega) ?_
          exact hQ 0 m (by first | trivial | omega) (hJ.up (by omega)) 
      · have h509c : (m 4 45 (40 + a1)) = 1 := by omega
        clear h509 hz508
        refine X.iconst 25 i283_24 rfl rfl (by decide) ?_
        refine X.goto 29 i283_25 rfl rfl ?_
        refine X.iload_n 30 i283_29 rfl rfl rfl ?_
        refine X.icmpne 35 33 i283_30 rfl rfl rfl (fun h520 => ?_) (fun h520 => ?_)
        · refine X.iload_n 36 i283_35 rfl rfl rfl ?_
          refine X.ifeq 47 39 i283_36 rfl rfl rfl (fun h521 => ?_) (fun h521 => ?_)
          · refine X.cut [(0, zr 4 44), (1, zi a1)] i283_47 rfl ?_
            refine X.aload_n 48 i283_47 rfl rfl rfl ?_
            refine X.iload_n 49 i283_48 rfl rfl rfl ?_
            refine X.callv 52 [zi a1] [] [(0, zr 4 44), (1, zi a1)] i283_49 rfl (by decide) rfl rfl (by omega) rfl rfl (by decide) rfl t229 (Nat.le_of_ble_eq_true rfl) (Nat.le_of_ble_eq_true rfl) rfl ?_
            refine X.aload_n 1 i229_0 rfl rfl rfl ?_
            refine X.getF 4 i229_1 rfl rfl (by decide) rfl rfl ?_
            refine X.bipush 6 i229_4 rfl rfl (by decide) ?_
            refine X.iload_n 7 i229_6 rfl rfl rfl ?_
            refine X.iadd 8 i229_7 rfl rfl (by omega) ?_
            refine X.lconst (y := 0) 9 i229_8 rfl rfl rfl ?_
            refine X.last' 10 i229_9 rfl rfl (by decide) rfl (by omega) (fun hrm522 m522 hm522 => ?_)
            have hJ523 := w45_19 hJ hm522 (by omega) hrm522
            refine X.aload_n 11 i229_10 rfl rfl rfl ?_
            refine X.bipush 13 i229_11 rfl rfl (by decide) ?_
            refine X.iload_n 14 i229_13 rfl rfl rfl ?_
            refine X.iadd 15 i229_14 rfl rfl (by omega) ?_
            refine X.lconst (y := 0) 16 i229_15 rfl rfl rfl ?_
            refine X.callv 19 [zi (10 + a1), zl 0] [] [(0, zr 4 44), (1, zi (10 + a1)), (2, zl 0)] i229_16 rfl (by decide) rfl rfl (by omega) rfl rfl (by decide) rfl t223 (Nat.le_of_ble_eq_true rfl) (Nat.le_of_ble_eq_true rfl) rfl ?_
            refine c223_1 (B := B)  (10 + a1) 0 (by omega) (hJ523.up (by omega)) (by omega) (by omega) (by omega) (fun m524 hJ525 => ?_)
            show X (EE s) (d - 1) 229 19 [(0, zr 4 44), (1, zi a1)] [] m524 _
            refine X.retv i229_19 rfl t229 ?_
            show X (EE s) d 283 52 [(0, zr 4 44), (1, zi a1)] [] m524 _
            refine X.cut [] i283_52 rfl ?_
            refine X.iconst 53 i283_52 rfl rfl (by decide) ?_
            refine X.retz i283_53 rfl t283 (by omega) ?_
            exact hQ 1 m524 (by first | trivial | omega) (hJ525.up (by omega)) 
          · refine X.aload_n 40 i283_39 rfl rfl rfl ?_
            refine X.iload_n 41 i283_40 rfl rfl rfl ?_
            refine X.callv 44 [zi a1] [] [(0, zr 4 44), (1, zi a1)] i283_41 rfl (by decide) rfl rfl (by omega) rfl rfl (by decide) rfl t228 (Nat.le_of_ble_eq_true rfl) (Nat.le_of_ble_eq_true rfl) rfl ?_
            refine c228_4 (B := B)  a1 (by omega) (hJ.up (by omega)) (by omega) (by omega) (fun m527 hJ528 => ?_)
            show X (EE s) d 283 44 [(0, zr 4 44), (1, zi a1), (2, zi a2)] [] m527 _
            refine X.goto 52 i283_44 rfl rfl ?_
            refine X.cut [] i283_52 rfl ?_
            refine X.iconst 53 i283_52 rfl rfl (by decide) ?_
            refine X.retz i283_53 rfl t283 (by omega) ?_
            exact hQ 1 m527 (by first | trivial | omega) (hJ528.up (by omega)) 
        · refine X.cut [] i283_33 rfl ?_
          refine X.iconst 34 i283_33 rfl rfl (by decide) ?_
          refine X.retz i283_34 rfl t283 (by omega) ?_
          exact hQ 0 m (by first | trivial | omega) (hJ.up (by omega)) 
-- WorkMeter.prepaid
theorem c135_1 {s : Nat × (Nat → Int32)} {S : zS} {m0 m : zM} {B : Int} {d : Nat} {Q : Option zV → zM → Prop} (a1 : Int) (hd : 13 ≤ d) (hJ : J S m0 B m) (hB : B + 1 ≤ 1000000000) (ha1 : 0 ≤ a1 ∧ a1 ≤ 1) (hs0 : S.1 0 8 11) (hQ : ∀ (v : Int) m', (0 ≤ v ∧ v ≤ 1) → J S m0 (B + 1) m' → Q (some (zi v)) m') : X (EE s) d 135 0 [(0, zr 4 40), (1, zi a1)] [] m Q := by
  refine X.aload_n 1 i135_0 rfl rfl rfl ?_
  refine X.getF 4 i135_1 rfl rfl (by decide) rfl rfl ?_
  refine X.getZ 7 11 i135_4 rfl rfl (by decide) rfl rfl rfl (fun h501 => ?_)
  refine X.iload_n 8 i135_7 rfl rfl rfl ?_
  refine X.icmpne 13 11 i135_8 rfl rfl rfl (fun h502 => ?_) (fun h502 => ?_)
  · refine X.aload_n 14 i135_13 rfl rfl rfl ?_
    refine X.getF 17 i135_14 rfl rfl (by decide) rfl rfl ?_
    refine X.iload_n 18 i135_17 rfl rfl rfl ?_
    refine X.putZ' 21 11 i135_18 rfl rfl (by decide) rfl rfl rfl (by omega) (fun hrm503 m503 hm503 => ?_)
    have hJ504 := w8_11 hJ hm503 (by omega) hs0
    have wt505 : m503 0 8 11 = a1 := by rw [hm503]; exact z_upd_same _ _ _ _ _
    refine X.aload_n 22 i135_21 rfl rfl rfl ?_
    refine X.getF 25 i135_22 rfl rfl (by decide) rfl rfl ?_
    refine X.callv 28 [] [] [(0, zr 0 8)] i135_25 rfl (by decide) rfl rfl (by omega) rfl rfl (by decide) rfl t53 (Nat.le_of_ble_eq_true rfl) (Nat.le_of_ble_eq_true rfl) rfl ?_
    refine X.aload_n 1 i53_0 rfl rfl rfl ?_
    refine X.getZ 4 11 i53_1 rfl rfl (by decide) rfl rfl rfl (fun h506 => ?_)
    refine X.ifeq 20 7 i53_4 rfl rfl rfl (fun h507 => ?_) (fun h507 => ?_)
    · refine X.iconst 21 i53_20 rfl rfl (by decide) ?_
      refine X.istore_n 22 [(0, zr 0 8), (1, zi 0)] i53_21 rfl rfl rfl ?_
      refine X.iload_n 23 i53_22 rfl rfl rfl ?_
      refine X.aload_n 24 i53_23 rfl rfl rfl ?_
      refine X.getZ 27 12 i53_24 rfl rfl (by decide) rfl rfl rfl (fun h508 => ?_)
      refine X.icmpeq 54 30 i53_27 rfl rfl rfl (fun h509 => ?_) (fun h509 => ?_)
      · refine X.cut [] i53_54 rfl ?_
        refine X.retv i53_54 rfl t53 ?_
        show X (EE s) d 135 28 [(0, zr 4 40), (1, zi a1)] [] m503 _
        refine X.iconst 29 i135_28 rfl rfl (by decide) ?_
        refine X.retz i135_29 rfl t135 (by omega) ?_
        exact hQ 1 m503 (by first | trivial | omega) (hJ504.up (by omega)) 
      · refine X.aload_n 31 i53_30 rfl rfl rfl ?_
        refine X.iload_n 32 i53_31 rfl rfl rfl ?_
        refine X.putZ' 35 12 i53_32 rfl rfl (by decide) rfl rfl rfl (by omega) (fun hrm510 m510 hm510 => ?_)
        have hJ511 := w8_12 hJ504 hm510 (by omega)
        have wt512 : m510 0 8 11 = a1 := Eq.trans (by rw [hm510]; exact z_upd_o _ _ rfl) wt505
        refine X.aload_n 36 i53_35 rfl rfl rfl ?_
        refine X.aload_n 37 i53_36 rfl rfl rfl ?_
        refine X.getZ 40 12 i53_37 rfl rfl (by decide) rfl rfl rfl (fun h513 => ?_)
        refine X.ifeq 48 43 i53_40 rfl rfl rfl (fun h514 => ?_) (fun h514 => ?_)
        · refine X.cut [] i53_48 rfl ?_
          refine X.bipush 50 i53_48 rfl rfl (by decide) ?_
          refine X.iconst 51 i53_50 rfl rfl (by decide) ?_
          refine X.callv 54 [zi 23, zi 0] [] [(0, zr 0 8), (1, zi 23), (2, zi 0)] i53_51 rfl (by decide) rfl rfl (by omega) rfl rfl (by decide) rfl t54 (Nat.le_of_ble_eq_true rfl) (Nat.le_of_ble_eq_true rfl) rfl ?_
          refine X.aload_n 1 i54_0 rfl rfl rfl ?_
          refine X.getR 4 i54_1 rfl rfl (by decide) rfl rfl ?_
          refine X.aload_n 5 i54_4 rfl rfl rfl ?_
          refine X.getI 8 9 i54_5 rfl rfl (by decide) rfl rfl rfl ?_
          have h515 := r8_9 hJ511 0
          refine X.iload_n 9 i54_8 rfl rfl rfl ?_
          refine X.iload_n 10 i54_9 rfl rfl rfl ?_
          refine X.callv 13 [zi (m510 0 8 9), zi 23, zi 0] [] [(0, zr 0 37), (1, zi (m510 0 8 9)), (2, zi 23), (3, zi 0)] i54_10 rfl (by decide) rfl rfl (by omega) rfl rfl (by decide) rfl t55 (Nat.le_of_ble_eq_true rfl) (Nat.le_of_ble_eq_true rfl) rfl ?_
          refine X.aload_n 1 i55_0 rfl rfl rfl ?_
          refine X.getI 4 1 i55_1 rfl rfl (by decide) rfl rfl rfl ?_
          have h516 := r37_1 hJ511 0
          refine X.bipush 6 i55_4 rfl rfl (by decide) ?_
          refine X.irem 7 i55_6 rfl rfl (by omega) ?_
          refine X.iconst 8 i55_7 rfl rfl (by decide) ?_
          refine X.imul 9 i55_8 rfl rfl (by omega) ?_
          refine X.istore 11 [(0, zr 0 37), (1, zi (m510 0 8 9)), (2, zi 23), (3, zi 0), (4, zi (((m510 0 37 1) % 40) * 3))] i55_9 rfl rfl rfl ?_
          refine X.aload_n 12 i55_11 rfl rfl rfl ?_
          refine X.getR 15 i55_12 rfl rfl (by decide) rfl rfl ?_
          refine X.iload 17 i55_15 rfl rfl rfl ?_
          refine X.iload_n 18 i55_17 rfl rfl rfl ?_
          refine X.iast' 19 i55_18 rfl rfl (by decide) rfl (by omega) (fun hrm517 m517 hm517 => ?_)
          have hJ518 := w38_0 hJ511 hm517 (by omega) hrm517
          have wt519 : m517 0 8 11 = a1 := Eq.trans (by rw [hm517]; exact z_upd_o _ _ rfl) wt512
          clear wt512
          refine X.aload_n 20 i55_19 rfl rfl rfl ?_
          refine X.getR 23 i55_20 rfl rfl (by decide) rfl rfl ?_
          refine X.iload 25 i55_23 rfl rfl rfl ?_
          refine X.iconst 26 i55_25 rfl rfl (by decide) ?_
          refine X.iadd 27 i55_26 rfl rfl (by omega) ?_
          refine X.iload_n 28 i55_27 rfl rfl rfl ?_
          refine X.iast' 29 i55_28 rfl rfl (by decide) rfl (by omega) (fun hrm520 m520 hm520 => ?_)
          have hJ521 := w38_0 hJ518 hm520 (by omega) hrm520
          have wt522 : m520 0 8 11 = a1 := Eq.trans (by rw [hm520]; exact z_upd_o _ _ rfl) wt519
          clear wt519
          refine X.aload_n 30 i55_29 rfl rfl rfl ?_
          refine X.getR 33 i55_30 rfl rfl (by decide) rfl rfl ?_
          refine X.iload 35 i55_33 rfl rfl rfl ?_
          refine X.iconst 36 i55_35 rfl rfl (by decide) ?_
          refine X.iadd 37 i55_36 rfl rfl (by omega) ?_
          refine X.iload_n 38 i55_37 rfl rfl rfl ?_
          refine X.iast' 39 i55_38 rfl rfl (by decide) rfl (by omega) (fun hrm523 m523 hm523 => ?_)
          have hJ524 := w38_0 hJ521 hm523 (by omega) hrm523
          have wt525 : m523 0 8 11 = a1 := Eq.trans (by rw [hm523]; exact z_upd_o _ _ rfl) wt522
          clear wt522
          refine X.aload_n 40 i55_39 rfl rfl rfl ?_
          refine X.dup 41 i55_40 rfl rfl rfl ?_
          refine X.getI 44 1 i55_41 rfl rfl (by decide) rfl rfl rfl ?_
          have h526 := r37_1 hJ524 0
          refine X.iconst 45 i55_44 rfl rfl (by decide) ?_
          refine X.iadd 46 i55_45 rfl rfl (by omega) ?_
          refine X.putI' 49 1 i55_46 rfl rfl (by decide) rfl rfl rfl (fun hrm527 m527 hm527 => ?_)
          have hJ528 := w37_1 (hJ524.up (B' := B + 1) (by omega)) hm527 (by omega)
          have wt529 : m527 0 8 11 = a1 := Eq.trans (by rw [hm527]; exact z_upd_o _ _ rfl) wt525
          clear wt525
          refine X.retv i55_49 rfl t55 ?_
          show X (EE s) ((d - 1) - 1) 54 13 [(0, zr 0 8), (1, zi 23), (2, zi 0)] [] m527 _
          refine X.retv i54_13 rfl t54 ?_
          show X (EE s) (d - 1) 53 54 [] [] m527 _
          refine X.retv i53_54 rfl t53 ?_
          show X (EE s) d 135 28 [(0, zr 4 40), (1, zi a1)] [] m527 _
          refine X.iconst 29 i135_28 rfl rfl (by decide) ?_
          refine X.retz i135_29 rfl t135 (by omega) ?_
          exact hQ 1 m527 (by first | trivial | omega) (hJ528.up (by omega)) 
        · refine X.bipush 45 i53_43 rfl rfl (by decide) ?_
          refine X.goto 50 i53_45 rfl rfl ?_
          refine X.cut [] i53_50 rfl ?_
          refine X.iconst 51 i53_50 rfl rfl (by decide) ?_
          refine X.callv 54 [zi 22, zi 0] [] [(0, zr 0 8), (1, zi 22), (2, zi 0)] i53_51 rfl (by decide) rfl rfl (by omega) rfl rfl (by decide) rfl t54 (Nat.le_of_ble_eq_true rfl) (Nat.le_of_ble_eq_true rfl) rfl ?_
          refine X.aload_n 1 i54_0 rfl rfl rfl ?_
          refine X.getR 4 i54_1 rfl rfl (by decide) rfl rfl ?_
          refine X.aload_n 5 i54_4 rfl rfl rfl ?_
          refine X.getI 8 9 i54_5 rfl rfl (by decide) rfl rfl rfl ?_
          have h530 := r8_9 hJ511 0
          refine X.iload_n 9 i54_8 rfl rfl rfl ?_
          refine X.iload_n 10 i54_9 rfl rfl rfl ?_
          refine X.callv 13 [zi (m510 0 8 9), zi 22, zi 0] [] [(0, zr 0 37), (1, zi (m510 0 8 9)), (2, zi 22), (3, zi 0)] i54_10 rfl (by decide) rfl rfl (by omega) rfl rfl (by decide) rfl t55 (Nat.le_of_ble_eq_true rfl) (Nat.le_of_ble_eq_true rfl) rfl ?_
          refine X.aload_n 1 i55_0 rfl rfl rfl ?_
          refine X.getI 4 1 i55_1 rfl rfl (by decide) rfl rfl rfl ?_
          have h531 := r37_1 hJ511 0
          refine X.bipush 6 i55_4 rfl rfl (by decide) ?_
          refine X.irem 7 i55_6 rfl rfl (by omega) ?_
          refine X.iconst 8 i55_7 rfl rfl (by decide) ?_
          refine X.imul 9 i55_8 rfl rfl (by omega) ?_
          refine X.istore 11 [(0, zr 0 37), (1, zi (m510 0 8 9)), (2, zi 22), (3, zi 0), (4, zi (((m510 0 37 1) % 40) * 3))] i55_9 rfl rfl rfl ?_
          refine X.aload_n 12 i55_11 rfl rfl rfl ?_
          refine X.getR 15 i55_12 rfl rfl (by decide) rfl rfl ?_
          refine X.iload 17 i55_15 rfl rfl rfl ?_
          refine X.iload_n 18 i55_17 rfl rfl rfl ?_
          refine X.iast' 19 i55_18 rfl rfl (by decide) rfl (by omega) (fun hrm532 m532 hm532 => ?_)
          have hJ533 := w38_0 hJ511 hm532 (by omega) hrm532
          have wt534 : m532 0 8 11 = a1 := Eq.trans (by rw [hm532]; exact z_upd_o _ _ rfl) wt512
          clear wt512
          refine X.aload_n 20 i55_19 rfl rfl rfl ?_
          refine X.getR 23 i55_20 rfl rfl (by decide) rfl rfl ?_
          refine X.iload 25 i55_23 rfl rfl rfl ?_
          refine X.iconst 26 i55_25 rfl rfl (by decide) ?_
          refine X.iadd 27 i55_26 rfl rfl (by omega) ?_
          refine X.iload_n 28 i55_27 rfl rfl rfl ?_
          refine X.iast' 29 i55_28 rfl rfl (by decide) rfl (by omega) (fun hrm535 m535 hm535 => ?_)
          have hJ536 := w38_0 hJ533 hm535 (by omega) hrm535
          have wt537 : m535 0 8 11 = a1 := Eq.trans (by rw [hm535]; exact z_upd_o _ _ rfl) wt534
          clear wt534
          refine X.aload_n 30 i55_29 rfl rfl rfl ?_
          refine X.getR 33 i55_30 rfl rfl (by decide) rfl rfl ?_
          refine X.iload 35 i55_33 rfl rfl rfl ?_
          refine X.iconst 36 i55_35 rfl rfl (by decide) ?_
          refine X.iadd 37 i55_36 rfl rfl (by omega) ?_
          refine X.iload_n 38 i55_37 rfl rfl rfl ?_
          refine X.iast' 39 i55_38 rfl rfl (by decide) rfl (by omega) (fun hrm538 m538 hm538 => ?_)
          have hJ539 := w38_0 hJ536 hm538 (by omega) hrm538
          have wt540 : m538 0 8 11 = a1 := Eq.trans (by rw [hm538]; exact z_upd_o _ _ rfl) wt537
          clear wt537
          refine X.aload_n 40 i55_39 rfl rfl rfl ?_
          refine X.dup 41 i55_40 rfl rfl rfl ?_
          refine X.getI 44 1 i55_41 rfl rfl (by decide) rfl rfl rfl ?_
          have h541 := r37_1 hJ539 0
          refine X.iconst 45 i55_44 rfl rfl (by decide) ?_
          refine X.iadd 46 i55_45 rfl rfl (by omega) ?_
          refine X.putI' 49 1 i55_46 rfl rfl (by decide) rfl rfl rfl (fun hrm542 m542 hm542 => ?_)
          have hJ543 := w37_1 (hJ539.up (B' := B + 1) (by omega)) hm542 (by omega)
          have wt544 : m542 0 8 11 = a1 := Eq.trans (by rw [hm542]; exact z_upd_o _ _ rfl) wt540
          clear wt540
          refine X.retv i55_49 rfl t55 ?_
          show X (EE s) ((d - 1) - 1) 54 13 [(0, zr 0 8), (1, zi 22), (2, zi 0)] [] m542 _
          refine X.retv i54_13 rfl t54 ?_
          show X (EE s) (d - 1) 53 54 [] [] m542 _
          refine X.retv i53_54 rfl t53 ?_
          show X (EE s) d 135 28 [(0, zr 4 40), (1, zi a1)] [] m542 _
          refine X.iconst 29 i135_28 rfl rfl (by decide) ?_
          refine X.retz i135_29 rfl t135 (by omega) ?_
          exact hQ 1 m542 (by first | trivial | omega) (hJ543.up (by omega)) 
    · refine X.aload_n 8 i53_7 rfl rfl rfl ?_
      refine X.getL 11 10 i53_8 rfl rfl (by decide) rfl rfl rfl ?_
      refine X.lconst (y := 0) 12 i53_11 rfl rfl rfl ?_
      refine X.lcmp 13 i53_12 rfl rfl (fun z545 hz545 => ?_)
      refine X.ifgt 20 16 i53_13 rfl rfl rfl (fun h546 => ?_) (fun h546 => ?_)
      · have h546c : (m503 0 8 10) > 0 := by omega
        clear h546 hz545
        refine X.iconst 21 i53_20 rfl rfl (by decide) ?_
        refine X.istore_n 22 [(0, zr 0 8), (1, zi 0)] i53_21 rfl rfl rfl ?_
        refine X.iload_n 23 i53_22 rfl rfl rfl ?_
        refine X.aload_n 24 i53_23 rfl rfl rfl ?_
        refine X.getZ 27 12 i53_24 rfl rfl (by decide) rfl rfl rfl (fun h547 => ?_)
        refine X.icmpeq 54 30 i53_27 rfl rfl rfl (fun h548 => ?_) (fun h548 => ?_)
        · refine X.cut [] i53_54 rfl ?_
          refine X.retv i53_54 rfl t53 ?_
          show X (EE s) d 135 28 [(0, zr 4 40), (1, zi a1)] [] m503 _
          refine X.iconst 29 i135_28 rfl rfl (by decide) ?_
          refine X.retz i135_29 rfl t135 (by omega) ?_
          exact hQ 1 m503 (by first | trivial | omega) (hJ504.up (by omega)) 
        · refine X.aload_n 31 i53_30 rfl rfl rfl ?_
          refine X.iload_n 32 i53_31 rfl rfl rfl ?_
          refine X.putZ' 35 12 i53_32 rfl rfl (by decide) rfl rfl rfl (by omega) (fun hrm549 m549 hm549 => ?_)
          have hJ550 := w8_12 hJ504 hm549 (by omega)
          have wt551 : m549 0 8 11 = a1 := Eq.trans (by rw [hm549]; exact z_upd_o _ _ rfl) wt505
          refine X.aload_n 36 i53_35 rfl rfl rfl ?_
          refine X.aload_n 37 i53_36 rfl rfl rfl ?_
          refine X.getZ 40 12 i53_37 rfl rfl (by decide) rfl rfl rfl (fun h552 => ?_)
          refine X.ifeq 48 43 i53_40 rfl rfl rfl (fun h553 => ?_) (fun h553 => ?_)
          · refine X.cut [] i53_48 rfl ?_
            refine X.bipush 50 i53_48 rfl rfl (by decide) ?_
            refine X.iconst 51 i53_50 rfl rfl (by decide) ?_
            refine X.callv 54 [zi 23, zi 0] [] [(0, zr 0 8), (1, zi 23), (2, zi 0)] i53_51 rfl (by decide) rfl rfl (by omega) rfl rfl (by decide) rfl t54 (Nat.le_of_ble_eq_true rfl) (Nat.le_of_ble_eq_true rfl) rfl ?_
            refine X.aload_n 1 i54_0 rfl rfl rfl ?_
            refine X.getR 4 i54_1 rfl rfl (by decide) rfl rfl ?_
            refine X.aload_n 5 i54_4 rfl rfl rfl ?_
            refine X.getI 8 9 i54_5 rfl rfl (by decide) rfl rfl rfl ?_
            have h554 := r8_9 hJ550 0
            refine X.iload_n 9 i54_8 rfl rfl rfl ?_
            refine X.iload_n 10 i54_9 rfl rfl rfl ?_
            refine X.callv 13 [zi (m549 0 8 9), zi 23, zi 0] [] [(0, zr 0 37), (1, zi (m549 0 8 9)), (2, zi 23), (3, zi 0)] i54_10 rfl (by decide) rfl rfl (by omega) rfl rfl (by decide) rfl t55 (Nat.le_of_ble_eq_true rfl) (Nat.le_of_ble_eq_true rfl) rfl ?_
            refine X.aload_n 1 i55_0 rfl rfl rfl ?_
            refine X.getI 4 1 i55_1 rfl rfl (by decide) rfl rfl rfl ?_
            have h555 := r37_1 hJ550 0
            refine X.bipush 6 i55_4 rfl rfl (by decide) ?_
            refine X.irem 7 i55_6 rfl rfl (by omega) ?_
            refine X.iconst 8 i55_7 rfl rfl (by decide) ?_
            refine X.imul 9 i55_8 rfl rfl (by omega) ?_
            refine X.istore 11 [(0, zr 0 37), (1, zi (m549 0 8 9)), (2, zi 23), (3, zi 0), (4, zi (((m549 0 37 1) % 40) * 3))] i55_9 rfl rfl rfl ?_
            refine X.aload_n 12 i55_11 rfl rfl rfl ?_
            refine X.getR 15 i55_12 rfl rfl (by decide) rfl rfl ?_
            refine X.iload 17 i55_15 rfl rfl rfl ?_
            refine X.iload_n 18 i55_17 rfl rfl rfl ?_
            refine X.iast' 19 i55_18 rfl rfl (by decide) rfl (by omega) (fun hrm556 m556 hm556 => ?_)
            have hJ557 := w38_0 hJ550 hm556 (by omega) hrm556
            have wt558 : m556 0 8 11 = a1 := Eq.trans (by rw [hm556]; exact z_upd_o _ _ rfl) wt551
            clear wt551
            refine X.aload_n 20 i55_19 rfl rfl rfl ?_
            refine X.getR 23 i55_20 rfl rfl (by decide) rfl rfl ?_
            refine X.iload 25 i55_23 rfl rfl rfl ?_
            refine X.iconst 26 i55_25 rfl rfl (by decide) ?_
            refine X.iadd 27 i55_26 rfl rfl (by omega) ?_
            refine X.iload_n 28 i55_27 rfl rfl rfl ?_
            refine X.iast' 29 i55_28 rfl rfl (by decide) rfl (by omega) (fun hrm559 m559 hm559 => ?_)
            have hJ560 := w38_0 hJ557 hm559 (by omega) hrm559
            have wt561 : m559 0 8 11 = a1 := Eq.trans (by rw [hm559]; exact z_upd_o _ _ rfl) wt558
            clear wt558
            refine X.aload_n 30 i55_29 rfl rfl rfl ?_
            refine X.getR 33 i55_30 rfl rfl (by decide) rfl rfl ?_
            refine X.iload 35 i55_33 rfl rfl rfl ?_
            refine X.iconst 36 i55_35 rfl rfl (by decide) ?_
            refine X.iadd 37 i55_36 rfl rfl (by omega) ?_
            refine X.iload_n 38 i55_37 rfl rfl rfl ?_
            refine X.iast' 39 i55_38 rfl rfl (by decide) rfl (by omega) (fun hrm562 m562 hm562 => ?_)
            have hJ563 := w38_0 hJ560 hm562 (by omega) hrm562
            have wt564 : m562 0 8 11 = a1 := Eq.trans (by rw [hm562]; exact z_upd_o _ _ rfl) wt561
            clear wt561
            refine X.aload_n 40 i55_39 rfl rfl rfl ?_
            refine X.dup 41 i55_40 rfl rfl rfl ?_
            refine X.getI 44 1 i55_41 rfl rfl (by decide) rfl rfl rfl ?_
            have h565 := r37_1 hJ563 0
            refine X.iconst 45 i55_44 rfl rfl (by decide) ?_
            refine X.iadd 46 i55_45 rfl rfl (by omega) ?_
            refine X.putI' 49 1 i55_46 rfl rfl (by decide) rfl rfl rfl (fun hrm566 m566 hm566 => ?_)
            have hJ567 := w37_1 (hJ563.up (B' := B + 1) (by omega)) hm566 (by omega)
            have wt568 : m566 0 8 11 = a1 := Eq.trans (by rw [hm566]; exact z_upd_o _ _ rfl) wt564
            clear wt564
            refine X.retv i55_49 rfl t55 ?_
            show X (EE s) ((d - 1) - 1) 54 13 [(0, zr 0 8), (1, zi 23), (2, zi 0)] [] m566 _
            refine X.retv i54_13 rfl t54 ?_
            show X (EE s) (d - 1) 53 54 [] [] m566 _
            refine X.retv i53_54 rfl t53 ?_
            show X (EE s) d 135 28 [(0, zr 4 40), (1, zi a1)] [] m566 _
            refine X.iconst 29 i135_28 rfl rfl (by decide) ?_
            refine X.retz i135_29 rfl t135 (by omega) ?_
            exact hQ 1 m566 (by first | trivial | omega) (hJ567.up (by omega)) 
          · refine X.bipush 45 i53_43 rfl rfl (by decide) ?_
            refine X.goto 50 i53_45 rfl rfl ?_
            refine X.cut [] i53_50 rfl ?_
            refine X.iconst 51 i53_50 rfl rfl (by decide) ?_
            refine X.callv 54 [zi 22, zi 0] [] [(0, zr 0 8), (1, zi 22), (2, zi 0)] i53_51 rfl (by decide) rfl rfl (by omega) rfl rfl (by decide) rfl t54 (Nat.le_of_ble_eq_true rfl) (Nat.le_of_ble_eq_true rfl) rfl ?_
            refine X.aload_n 1 i54_0 rfl rfl rfl ?_
            refine X.getR 4 i54_1 rfl rfl (by decide) rfl rfl ?_
            refine X.aload_n 5 i54_4 rfl rfl rfl ?_
            refine X.getI 8 9 i54_5 rfl rfl (by decide) rfl rfl rfl ?_
            have h569 := r8_9 hJ550 0
            refine X.iload_n 9 i54_8 rfl rfl rfl ?_
            refine X.iload_n 10 i54_9 rfl rfl rfl ?_
            refine X.callv 13 [zi (m549 0 8 9), zi 22, zi 0] [] [(0, zr 0 37), (1, zi (m549 0 8 9)), (2, zi 22), (3, zi 0)] i54_10 rfl (by decide) rfl rfl (by omega) rfl rfl (by decide) rfl t55 (Nat.le_of_ble_eq_true rfl) (Nat.le_of_ble_eq_true rfl) rfl ?_
            refine X.aload_n 1 i55_0 rfl rfl rfl ?_
            refine X.getI 4 1 i55_1 rfl rfl (by decide) rfl rfl rfl ?_
            have h570 := r37_1 hJ550 0
            refine X.bipush 6 i55_4 rfl rfl (by decide) ?_
            refine X.irem 7 i55_6 rfl rfl (by omega) ?_
            refine X.iconst 8 i55_7 rfl rfl (by decide) ?_
            refine X.imul 9 i55_8 rfl rfl (by omega) ?_
            refine X.istore 11 [(0, zr 0 37), (1, zi (m549 0 8 9)), (2, zi 22), (3, zi 0), (4, zi (((m549 0 37 1) % 40) * 3))] i55_9 rfl rfl rfl ?_
            refine X.aload_n 12 i55_11 rfl rfl rfl ?_
            refine X.getR 15 i55_12 rfl rfl (by decide) rfl rfl ?_
            refine X.iload 17 i55_15 rfl rfl rfl ?_
            refine X.iload_n 18 i55_17 rfl rfl rfl ?_
            refine X.iast' 19 i55_18 rfl rfl (by decide) rfl (by omega) (fun hrm571 m571 hm571 => ?_)
            have hJ572 := w38_0 hJ550 hm571 (by omega) hrm571
            have wt573 : m571 0 8 11 = a1 := Eq.trans (by rw [hm571]; exact z_upd_o _ _ rfl) wt551
            clear wt551
            refine X.aload_n 20 i55_19 rfl rfl rfl ?_
            refine X.getR 23 i55_20 rfl rfl (by decide) rfl rfl ?_
            refine X.iload 25 i55_23 rfl rfl rfl ?_
            refine X.iconst 26 i55_25 rfl rfl (by decide) ?_
            refine X.iadd 27 i55_26 rfl rfl (by omega) ?_
            refine X.iload_n 28 i55_27 rfl rfl rfl ?_
            refine X.iast' 29 i55_28 rfl rfl (by decide) rfl (by omega) (fun hrm574 m574 hm574 => ?_)
            have hJ575 := w38_0 hJ572 hm574 (by omega) hrm574
            have wt576 : m574 0 8 11 = a1 := Eq.trans (by rw [hm574]; exact z_upd_o _ _ rfl) wt573
            clear wt573
            refine X.aload_n 30 i55_29 rfl rfl rfl ?_
            refine X.getR 33 i55_30 rfl rfl (by decide) rfl rfl ?_
            refine X.iload 35 i55_33 rfl rfl rfl ?_
            refine X.iconst 36 i55_35 rfl rfl (by decide) ?_
            refine X.iadd 37 i55_36 rfl rfl (by omega) ?_
            refine X.iload_n 38 i55_37 rfl rfl rfl ?_
            refine X.iast' 39 i55_38 rfl rfl (by decide) rfl (by omega) (fun hrm577 m577 hm577 => ?_)
            have hJ578 := w38_0 hJ575 hm577 (by omega) hrm577
            have wt579 : m577 0 8 11 = a1 := Eq.trans (by rw [hm577]; exact z_upd_o _ _ rfl) wt576
            clear wt576
            refine X.aload_n 40 i55_39 rfl rfl rfl ?_
            refine X.dup 41 i55_40 rfl rfl rfl ?_
            refine X.getI 44 1 i55_41 rfl rfl (by decide) rfl rfl rfl ?_
            have h580 := r37_1 hJ578 0
            refine X.iconst 45 i55_44 rfl rfl (by decide) ?_
            refine X.iadd 46 i55_45 rfl rfl (by omega) ?_
            refine X.putI' 49 1 i55_46 rfl rfl (by decide) rfl rfl rfl (fun hrm581 m581 hm581 => ?_)
            have hJ582 := w37_1 (hJ578.up (B' := B + 1) (by omega)) hm581 (by omega)
            have wt583 : m581 0 8 11 = a1 := Eq.trans (by rw [hm581]; exact z_upd_o _ _ rfl) wt579
            clear wt579
            refine X.retv i55_49 rfl t55 ?_
            show X (EE s) ((d - 1) - 1) 54 13 [(0, zr 0 8), (1, zi 22), (2, zi 0)] [] m581 _
            refine X.retv i54_13 rfl t54 ?_
            show X (EE s) (d - 1) 53 54 [] [] m581 _
            refine X.retv i53_54 rfl t53 ?_
            show X (EE s) d 135 28 [(0, zr 4 40), (1, zi a1)] [] m581 _
            refine X.iconst 29 i135_28 rfl rfl (by decide) ?_
            refine X.retz i135_29 rfl t135 (by omega) ?_
            exact hQ 1 m581 (by first | trivial | omega) (hJ582.up (by omega)) 
      · have h546c : (m503 0 8 10) ≤ 0 := by omega
        clear h546 hz545
        refine X.iconst 17 i53_16 rfl rfl (by decide) ?_
        refine X.goto 21 i53_17 rfl rfl ?_
        refine X.istore_n 22 [(0, zr 0 8), (1, zi 1)] i53_21 rfl rfl rfl ?_
        refine X.iload_n 23 i53_22 rfl rfl rfl ?_
        refine X.aload_n 24 i53_23 rfl rfl rfl ?_
        refine X.getZ 27 12 i53_24 rfl rfl (by decide) rfl rfl rfl (fun h584 => ?_)
        refine X.icmpeq 54 30 i53_27 rfl rfl rfl (fun h585 => ?_) (fun h585 => ?_)
        · refine X.cut [] i53_54 rfl ?_
          refine X.retv i53_54 rfl t53 ?_
          show X (EE s) d 135 28 [(0, zr 4 40), (1, zi a1)] [] m503 _
          refine X.iconst 29 i135_28 rfl rfl (by decide) ?_
          refine X.retz i135_29 rfl t135 (by omega) ?_
          exact hQ 1 m503 (by first | trivial | omega) (hJ504.up (by omega)) 
        · refine X.aload_n 31 i53_30 rfl rfl rfl ?_
          refine X.iload_n 32 i53_31 rfl rfl rfl ?_
          refine X.putZ' 35 12 i53_32 rfl rfl (by decide) rfl rfl rfl (by omega) (fun hrm586 m586 hm586 => ?_)
          have hJ587 := w8_12 hJ504 hm586 (by omega)
          have wt588 : m586 0 8 11 = a1 := Eq.trans (by rw [hm586]; exact z_upd_o _ _ rfl) wt505
          refine X.aload_n 36 i53_35 rfl rfl rfl ?_
          refine X.aload_n 37 i53_36 rfl rfl rfl ?_
          refine X.getZ 40 12 i53_37 rfl rfl (by decide) rfl rfl rfl (fun h589 => ?_)
          refine X.ifeq 48 43 i53_40 rfl rfl rfl (fun h590 => ?_) (fun h590 => ?_)
          · refine X.cut [] i53_48 rfl ?_
            refine X.bipush 50 i53_48 rfl rfl (by decide) ?_
            refine X.iconst 51 i53_50 rfl rfl (by decide) ?_
            refine X.callv 54 [zi 23, zi 0] [] [(0, zr 0 8), (1, zi 23), (2, zi 0)] i53_51 rfl (by decide) rfl rfl (by omega) rfl rfl (by decide) rfl t54 (Nat.le_of_ble_eq_true rfl) (Nat.le_of_ble_eq_true rfl) rfl ?_
            refine X.aload_n 1 i54_0 rfl rfl rfl ?_
            refine X.getR 4 i54_1 rfl rfl (by decide) rfl rfl ?_
            refine X.aload_n 5 i54_4 rfl rfl rfl ?_
            refine X.getI 8 9 i54_5 rfl rfl (by decide) rfl rfl rfl ?_
            have h591 := r8_9 hJ587 0
            refine X.iload_n 9 i54_8 rfl rfl rfl ?_
            refine X.iload_n 10 i54_9 rfl rfl rfl ?_
            refine X.callv 13 [zi (m586 0 8 9), zi 23, zi 0] [] [(0, zr 0 37), (1, zi (m586 0 8 9)), (2, zi 23), (3, zi 0)] i54_10 rfl (by decide) rfl rfl (by omega) rfl rfl (by decide) rfl t55 (Nat.le_of_ble_eq_true rfl) (Nat.le_of_ble_eq_true rfl) rfl ?_
            refine X.aload_n 1 i55_0 rfl rfl rfl ?_
            refine X.getI 4 1 i55_1 rfl rfl (by decide) rfl rfl rfl ?_
            have h592 := r37_1 hJ587 0
            refine X.bipush 6 i55_4 rfl rfl (by decide) ?_
            refine X.irem 7 i55_6 rfl rfl (by omega) ?_
            refine X.iconst 8 i55_7 rfl rfl (by decide) ?_
            refine X.imul 9 i55_8 rfl rfl (by omega) ?_
            refine X.istore 11 [(0, zr 0 37), (1, zi (m586 0 8 9)), (2, zi 23), (3, zi 0), (4, zi (((m586 0 37 1) % 40) * 3))] i55_9 rfl rfl rfl ?_
            refine X.aload_n 12 i55_11 rfl rfl rfl ?_
            refine X.getR 15 i55_12 rfl rfl (by decide) rfl rfl ?_
            refine X.iload 17 i55_15 rfl rfl rfl ?_
            refine X.iload_n 18 i55_17 rfl rfl rfl ?_
            refine X.iast' 19 i55_18 rfl rfl (by decide) rfl (by omega) (fun hrm593 m593 hm593 => ?_)
            have hJ594 := w38_0 hJ587 hm593 (by omega) hrm593
            have wt595 : m593 0 8 11 = a1 := Eq.trans (by rw [hm593]; exact z_upd_o _ _ rfl) wt588
            clear wt588
            refine X.aload_n 20 i55_19 rfl rfl rfl ?_
            refine X.getR 23 i55_20 rfl rfl (by decide) rfl rfl ?_
            refine X.iload 25 i55_23 rfl rfl rfl ?_
            refine X.iconst 26 i55_25 rfl rfl (by decide) ?_
            refine X.iadd 27 i55_26 rfl rfl (by omega) ?_
            refine X.iload_n 28 i55_27 rfl rfl rfl ?_
            refine X.iast' 29 i55_28 rfl rfl (by decide) rfl (by omega) (fun hrm596 m596 hm596 => ?_)
            have hJ597 := w38_0 hJ594 hm596 (by omega) hrm596
            have wt598 : m596 0 8 11 = a1 := Eq.trans (by rw [hm596]; exact z_upd_o _ _ rfl) wt595
            clear wt595
            refine X.aload_n 30 i55_29 rfl rfl rfl ?_
            refine X.getR 33 i55_30 rfl rfl (by decide) rfl rfl ?_
            refine X.iload 35 i55_33 rfl rfl rfl ?_
            refine X.iconst 36 i55_35 rfl rfl (by decide) ?_
            refine X.iadd 37 i55_36 rfl rfl (by omega) ?_
            refine X.iload_n 38 i55_37 rfl rfl rfl ?_
            refine X.iast' 39 i55_38 rfl rfl (by decide) rfl (by omega) (fun hrm599 m599 hm599 => ?_)
            have hJ600 := w38_0 hJ597 hm599 (by omega) hrm599
            have wt601 : m599 0 8 11 = a1 := Eq.trans (by rw [hm599]; exact z_upd_o _ _ rfl) wt598
            clear wt598
            refine X.aload_n 40 i55_39 rfl rfl rfl ?_
            refine X.dup 41 i55_40 rfl rfl rfl ?_
            refine X.getI 44 1 i55_41 rfl rfl (by decide) rfl rfl rfl ?_
            have h602 := r37_1 hJ600 0
            refine X.iconst 45 i55_44 rfl rfl (by decide) ?_
            refine X.iadd 46 i55_45 rfl rfl (by omega) ?_
            refine X.putI' 49 1 i55_46 rfl rfl (by decide) rfl rfl rfl (fun hrm603 m603 hm603 => ?_)
            have hJ604 := w37_1 (hJ600.up (B' := B + 1) (by omega)) hm603 (by omega)
            have wt605 : m603 0 8 11 = a1 := Eq.trans (by rw [hm603]; exact z_upd_o _ _ rfl) wt601
            clear wt601
            refine X.retv i55_49 rfl t55 ?_
            show X (EE s) ((d - 1) - 1) 54 13 [(0, zr 0 8), (1, zi 23), (2, zi 0)] [] m603 _
            refine X.retv i54_13 rfl t54 ?_
            show X (EE s) (d - 1) 53 54 [] [] m603 _
            refine X.retv i53_54 rfl t53 ?_
            show X (EE s) d 135 28 [(0, zr 4 40), (1, zi a1)] [] m603 _
            refine X.iconst 29 i135_28 rfl rfl (by decide) ?_
            refine X.retz i135_29 rfl t135 (by omega) ?_
            exact hQ 1 m603 (by first | trivial | omega) (hJ604.up (by omega)) 
          · refine X.bipush 45 i53_43 rfl rfl (by decide) ?_
            refine X.goto 50 i53_45 rfl rfl ?_
            refine X.cut [] i53_50 rfl ?_
            refine X.iconst 51 i53_50 rfl rfl (by decide) ?_
            refine X.callv 54 [zi 22, zi 0] [] [(0, zr 0 8), (1, zi 22), (2, zi 0)] i53_51 rfl (by decide) rfl rfl (by omega) rfl rfl (by decide) rfl t54 (Nat.le_of_ble_eq_true rfl) (Nat.le_of_ble_eq_true rfl) rfl ?_
            refine X.aload_n 1 i54_0 rfl rfl rfl ?_
            refine X.getR 4 i54_1 rfl rfl (by decide) rfl rfl ?_
            refine X.aload_n 5 i54_4 rfl rfl rfl ?_
            refine X.getI 8 9 i54_5 rfl rfl (by decide) rfl rfl rfl ?_
            have h606 := r8_9 hJ587 0
            refine X.iload_n 9 i54_8 rfl rfl rfl ?_
            refine X.iload_n 10 i54_9 rfl rfl rfl ?_
            refine X.callv 13 [zi (m586 0 8 9), zi 22, zi 0] [] [(0, zr 0 37), (1, zi (m586 0 8 9)), (2, zi 22), (3, zi 0)] i54_10 rfl (by decide) rfl rfl (by omega) rfl rfl (by decide) rfl t55 (Nat.le_of_ble_eq_true rfl) (Nat.le_of_ble_eq_true rfl) rfl ?_
            refine X.aload_n 1 i55_0 rfl rfl rfl ?_
            refine X.getI 4 1 i55_1 rfl rfl (by decide) rfl rfl rfl ?_
            have h607 := r37_1 hJ587 0
            refine X.bipush 6 i55_4 rfl rfl (by decide) ?_
            refine X.irem 7 i55_6 rfl rfl (by omega) ?_
            refine X.iconst 8 i55_7 rfl rfl (by decide) ?_
            refine X.imul 9 i55_8 rfl rfl (by omega) ?_
            refine X.istore 11 [(0, zr 0 37), (1, zi (m586 0 8 9)), (2, zi 22), (3, zi 0), (4, zi (((m586 0 37 1) % 40) * 3))] i55_9 rfl rfl rfl ?_
            refine X.aload_n 12 i55_11 rfl rfl rfl ?_
            refine X.getR 15 i55_12 rfl rfl (by decide) rfl rfl ?_
            refine X.iload 17 i55_15 rfl rfl rfl ?_
            refine X.iload_n 18 i55_17 rfl rfl rfl ?_
            refine X.iast' 19 i55_18 rfl rfl (by decide) rfl (by omega) (fun hrm608 m608 hm608 => ?_)
            have hJ609 := w38_0 hJ587 hm608 (by omega) hrm608
            have wt610 : m608 0 8 11 = a1 := Eq.trans (by rw [hm608]; exact z_upd_o _ _ rfl) wt588
            clear wt588
            refine X.aload_n 20 i55_19 rfl rfl rfl ?_
            refine X.getR 23 i55_20 rfl rfl (by decide) rfl rfl ?_
            refine X.iload 25 i55_23 rfl rfl rfl ?_
            refine X.iconst 26 i55_25 rfl rfl (by decide) ?_
            refine X.iadd 27 i55_26 rfl rfl (by omega) ?_
            refine X.iload_n 28 i55_27 rfl rfl rfl ?_
            refine X.iast' 29 i55_28 rfl rfl (by decide) rfl (by omega) (fun hrm611 m611 hm611 => ?_)
            have hJ612 := w38_0 hJ609 hm611 (by omega) hrm611
            have wt613 : m611 0 8 11 = a1 := Eq.trans (by rw [hm611]; exact z_upd_o _ _ rfl) wt610
            clear wt610
            refine X.aload_n 30 i55_29 rfl rfl rfl ?_
            refine X.getR 33 i55_30 rfl rfl (by decide) rfl rfl ?_
            refine X.iload 35 i55_33 rfl rfl rfl ?_
            refine X.iconst 36 i55_35 rfl rfl (by decide) ?_
            refine X.iadd 37 i55_36 rfl rfl (by omega) ?_
            refine X.iload_n 38 i55_37 rfl rfl rfl ?_
            refine X.iast' 39 i55_38 rfl rfl (by decide) rfl (by omega) (fun hrm614 m614 hm614 => ?_)
            have hJ615 := w38_0 hJ612 hm614 (by omega) hrm614
            have wt616 : m614 0 8 11 = a1 := Eq.trans (by rw [hm614]; exact z_upd_o _ _ rfl) wt613
            clear wt613
            refine X.aload_n 40 i55_39 rfl rfl rfl ?_
            refine X.dup 41 i55_40 rfl rfl rfl ?_
            refine X.getI 44 1 i55_41 rfl rfl (by decide) rfl rfl rfl ?_
            have h617 := r37_1 hJ615 0
            refine X.iconst 45 i55_44 rfl rfl (by decide) ?_
            refine X.iadd 46 i55_45 rfl rfl (by omega) ?_
            refine X.putI' 49 1 i55_46 rfl rfl (by decide) rfl rfl rfl (fun hrm618 m618 hm618 => ?_)
            have hJ619 := w37_1 (hJ615.up (B' := B + 1) (by omega)) hm618 (by omega)
            have wt620 : m618 0 8 11 = a1 := Eq.trans (by rw [hm618]; exact z_upd_o _ _ rfl) wt616
            clear wt616
            refine X.retv i55_49 rfl t55 ?_
            show X (EE s) ((d - 1) - 1) 54 13 [(0, zr 0 8), (1, zi 22), (2, zi 0)] [] m618 _
            refine X.retv i54_13 rfl t54 ?_
            show X (EE s) (d - 1) 53 54 [] [] m618 _
            refine X.retv i53_54 rfl t53 ?_
            show X (EE s) d 135 28 [(0, zr 4 40), (1, zi a1)] [] m618 _
            refine X.iconst 29 i135_28 rfl rfl (by decide) ?_
            refine X.retz i135_29 rfl t135 (by omega) ?_
            exact hQ 1 m618 (by first | trivial | omega) (hJ619.up (by omega)) 
  · refine X.iconst 12 i135_11 rfl rfl (by decide) ?_
    refine X.retz i135_12 rfl t135 (by omega) ?_
    exact hQ 0 m (by first | trivial | omega) (hJ.up (by omega)) 
-- WorkMeterModel.prepaid
theorem c284_1 {s : Nat × (Nat → Int32)} {S : zS} {m0 m : zM} {B : Int} {d : Nat} {Q : Option zV → zM → Prop} (a1 : Int) (hd : 15 ≤ d) (hJ : J S m0 B m) (hB : B + 1 ≤ 1000000000) (ha1 : 0 ≤ a1 ∧ a1 ≤ 1) (hs0 : S.1 4 45 11) (hQ : ∀ (v : Int) m', (0 ≤ v ∧ v ≤ 1) → J S m0 (B + 1) m' → Q (some (zi v)) m') : X (EE s) d 284 0 [(0, zr 4 44), (1, zi a1)] [] m Q := by
  refine X.aload_n 1 i284_0 rfl rfl rfl ?_
  refine X.getF 4 i284_1 rfl rfl (by decide) rfl rfl ?_
  refine X.bipush 6 i284_4 rfl rfl (by decide) ?_
  refine X.lald 7 i284_6 rfl rfl (by decide) rfl (by omega) ?_
  have h501 := r45_11 hJ 4
  refine X.lconst (y := 1) 8 i284_7 rfl rfl rfl ?_
  refine X.lcmp 9 i284_8 rfl rfl (fun z502 hz502 => ?_)
  refine X.ifne 16 12 i284_9 rfl rfl rfl (fun h503 => ?_) (fun h503 => ?_)
  · have h503c : (m 4 45 11) ≠ 1 := by omega
    clear h503 hz502
    refine X.iconst 17 i284_16 rfl rfl (by decide) ?_
    refine X.iload_n 18 i284_17 rfl rfl rfl ?_
    refine X.icmpne 23 21 i284_18 rfl rfl rfl (fun h504 => ?_) (fun h504 => ?_)
    · refine X.aload_n 24 i284_23 rfl rfl rfl ?_
      refine X.getF 27 i284_24 rfl rfl (by decide) rfl rfl ?_
      refine X.bipush 29 i284_27 rfl rfl (by decide) ?_
      refine X.iload_n 30 i284_29 rfl rfl rfl ?_
      refine X.ifeq 37 33 i284_30 rfl rfl rfl (fun h505 => ?_) (fun h505 => ?_)
      · refine X.cut [(0, zr 4 44)] i284_37 rfl ?_
        refine X.lconst (y := 0) 38 i284_37 rfl rfl rfl ?_
        refine X.last' 39 i284_38 rfl rfl (by decide) rfl (by omega) (fun hrm506 m506 hm506 => ?_)
        have hJ507 := w45_11 hJ hm506 (by omega) hs0
        have wt508 : m506 4 45 11 = 0 := by rw [hm506]; exact z_upd_same _ _ _ _ _
        refine X.aload_n 40 i284_39 rfl rfl rfl ?_
        refine X.callv 43 [] [] [(0, zr 4 44)] i284_40 rfl (by decide) rfl rfl (by omega) rfl rfl (by decide) rfl t222 (Nat.le_of_ble_eq_true rfl) (Nat.le_of_ble_eq_true rfl) rfl ?_
        refine c222_1 (S := zfr [] S) (m0 := m506) (B := B)   (by omega) (hJ507.ow.up (by omega)) (by omega)  (fun m509 hJ510 => ?_)
        have hJ512 := hJ507.trans hJ510 zi_n
        have wt513 : m509 4 45 11 = 0 := Eq.trans (hJ510.eq rfl rfl) wt508
        clear wt508
        show X (EE s) d 284 43 [(0, zr 4 44)] [] m509 _
        refine X.iconst 44 i284_43 rfl rfl (by decide) ?_
        refine X.retz i284_44 rfl t284 (by omega) ?_
        exact hQ 1 m509 (by first | trivial | omega) (hJ512.up (by omega)) 
      · refine X.lconst (y := 1) 34 i284_33 rfl rfl rfl ?_
        refine X.goto 38 i284_34 rfl rfl ?_
        refine X.cut [(0, zr 4 44)] i284_38 rfl ?_
        refine X.last' 39 i284_38 rfl rfl (by decide) rfl (by omega) (fun hrm514 m514 hm514 => ?_)
        have hJ515 := w45_11 hJ hm514 (by omega) hs0
        have wt516 : m514 4 45 11 = 1 := by rw [hm514]; exact z_upd_same _ _ _ _ _
        refine X.aload_n 40 i284_39 rfl rfl rfl ?_
        refine X.callv 43 [] [] [(0, zr 4 44)] i284_40 rfl (by decide) rfl rfl (by omega) rfl rfl (by decide) rfl t222 (Nat.le_of_ble_eq_true rfl) (Nat.le_of_ble_eq_true rfl) rfl ?_
        refine c222_1 (S := zfr [] S) (m0 := m514) (B := B)   (by omega) (hJ515.ow.up (by omega)) (by omega)  (fun m517 hJ518 => ?_)
        have hJ520 := hJ515.trans hJ518 zi_n
        have wt521 : m517 4 45 11 = 1 := Eq.trans (hJ518.eq rfl rfl) wt516
        clear wt516
        show X (EE s) d 284 43 [(0, zr 4 44)] [] m517 _
        refine X.iconst 44 i284_43 rfl rfl (by decide) ?_
        refine X.retz i284_44 rfl t284 (by omega) ?_
        exact hQ 1 m517 (by first | trivial | omega) (hJ520.up (by omega)) 
    · refine X.iconst 22 i284_21 rfl rfl (by decide) ?_
      refine X.retz i284_22 rfl t284 (by omega) ?_
      exact hQ 0 m (by first | trivial | omega) (hJ.up (by omega)) 
  · have h503c : (m 4 45 11) = 1 := by omega
    clear h503 hz502
    refine X.iconst 13 i284_12 rfl rfl (by decide) ?_
    refine X.goto 17 i284_13 rfl rfl ?_
    refine X.iload_n 18 i284_17 rfl rfl rfl ?_
    refine X.icmpne 23 21 i284_18 rfl rfl rfl (fun h522 => ?_) (fun h522 => ?_)
    · refine X.aload_n 24 i284_23 rfl rfl rfl ?_
      refine X.getF 27 i284_24 rfl rfl (by decide) rfl rfl ?_
      refine X.bipush 29 i284_27 rfl rfl (by decide) ?_
      refine X.iload_n 30 i284_29 rfl rfl rfl ?_
      refine X.ifeq 37 33 i284_30 rfl rfl rfl (fun h523 => ?_) (fun h523 => ?_)
      · refine X.cut [(0, zr 4 44)] i284_37 rfl ?_
        refine X.lconst (y := 0) 38 i284_37 rfl rfl rfl ?_
        refine X.last' 39 i284_38 rfl rfl (by decide) rfl (by omega) (fun hrm524 m524 hm524 => ?_)
        have hJ525 := w45_11 hJ hm524 (by omega) hs0
        have wt526 : m524 4 45 11 = 0 := by rw [hm524]; exact z_upd_same _ _ _ _ _
        refine X.aload_n 40 i284_39 rfl rfl rfl ?_
        refine X.callv 43 [] [] [(0, zr 4 44)] i284_40 rfl (by decide) rfl rfl (by omega) rfl rfl (by decide) rfl t222 (Nat.le_of_ble_eq_true rfl) (Nat.le_of_ble_eq_true rfl) rfl ?_
        refine c222_1 (S := zfr [] S) (m0 := m524) (B := B)   (by omega) (hJ525.ow.up (by omega)) (by omega)  (fun m527 hJ528 => ?_)
        have hJ530 := hJ525.trans hJ528 zi_n
        have wt531 : m527 4 45 11 = 0 := Eq.trans (hJ528.eq rfl rfl) wt526
        clear wt526
        show X (EE s) d 284 43 [(0, zr 4 44)] [] m527 _
        refine X.iconst 44 i284_43 rfl rfl (by decide) ?_
        refine X.retz i284_44 rfl t284 (by omega) ?_
        exact hQ 1 m527 (by first | trivial | omega) (hJ530.up (by omega)) 
      · refine X.lconst (y := 1) 34 i284_33 rfl rfl rfl ?_
        refine X.goto 38 i284_34 rfl rfl ?_
        refine X.cut [(0, zr 4 44)] i284_38 rfl ?_
        refine X.last' 39 i284_38 rfl rfl (by decide) rfl (by omega) (fun hrm532 m532 hm532 => ?_)
        have hJ533 := w45_11 hJ hm532 (by omega) hs0
        have wt534 : m532 4 45 11 = 1 := by rw [hm532]; exact z_upd_same _ _ _ _ _
        refine X.aload_n 40 i284_39 rfl rfl rfl ?_
        refine X.callv 43 [] [] [(0, zr 4 44)] i284_40 rfl (by decide) rfl rfl (by omega) rfl rfl (by decide) rfl t222 (Nat.le_of_ble_eq_true rfl) (Nat.le_of_ble_eq_true rfl) rfl ?_
        refine c222_1 (S := zfr [] S) (m0 := m532) (B := B)   (by omega) (hJ533.ow.up (by omega)) (by omega)  (fun m535 hJ536 => ?_)
        have hJ538 := hJ533.trans hJ536 zi_n
        have wt539 : m535 4 45 11 = 1 := Eq.trans (hJ536.eq rfl rfl) wt534
        clear wt534
        show X (EE s) d 284 43 [(0, zr 4 44)] [] m535 _
        refine X.iconst 44 i284_43 rfl rfl (by decide) ?_
        refine X.retz i284_44 rfl t284 (by omega) ?_
        exact hQ 1 m535 (by first | trivial | omega) (hJ538.up (by omega)) 
    · refine X.iconst 22 i284_21 rfl rfl (by decide) ?_
      refine X.retz i284_22 rfl t284 (by omega) ?_
      exact hQ 0 m (by first | trivial | omega) (hJ.up (by omega)) 
-- WorkMeter.pay
theorem c136_1 {s : Nat × (Nat → Int32)} {S : zS} {m0 m : zM} {B : Int} {d : Nat} {Q : Option zV → zM → Prop} (a1 : Int) (hd : 13 ≤ d) (hJ : J S m0 B m) (hB : B + 1 ≤ 1000000000) (ha1 : (-2147483648) ≤ a1 ∧ a1 ≤ 2147483647) (hQ : ∀ (v : Int) m', (True) → J S m0 (B + 1) m' → Q (some (zl v)) m') : X (EE s) d 136 0 [(0, zr 4 40), (1, zi a1)] [] m Q := by
  refine X.iload_n 1 i136_0 rfl rfl rfl ?_
  refine X.iflt 10 4 i136_1 rfl rfl rfl (fun h501 => ?_) (fun h501 => ?_)
  · refine X.cut [] i136_10 rfl ?_
    refine X.ldc2 13 i136_10 rfl rfl (by decide) ?_
    refine X.retl i136_13 rfl t136 ?_
    exact hQ (-10000000000) m (by first | trivial | omega) (hJ.up (by omega)) 
  · refine X.iload_n 5 i136_4 rfl rfl rfl ?_
    refine X.ldc 7 i136_5 rfl rfl (by decide) ?_
    refine X.icmple 14 10 i136_7 rfl rfl rfl (fun h502 => ?_) (fun h502 => ?_)
    · refine X.aload_n 15 i136_14 rfl rfl rfl ?_
      refine X.getF 18 i136_15 rfl rfl (by decide) rfl rfl ?_
      refine X.dup 19 i136_18 rfl rfl rfl ?_
      refine X.getL 22 10 i136_19 rfl rfl (by decide) rfl rfl rfl ?_
      refine X.iload_n 23 i136_22 rfl rfl rfl ?_
      refine X.i2l 24 i136_23 rfl rfl ?_
      refine X.llF 25 .ladd (fun x y => x + y) i136_24 rfl rfl rfl (fun _ _ => rfl) (fun z503 hz503 => ?_)
      refine X.putL' 28 10 i136_25 rfl rfl (by decide) rfl rfl rfl (fun hrm504 m504 hm504 => ?_)
      have hJ505 := w8_10 hJ hm504 hrm504
      refine X.aload_n 29 i136_28 rfl rfl rfl ?_
      refine X.getF 32 i136_29 rfl rfl (by decide) rfl rfl ?_
      refine X.callv 35 [] [] [(0, zr 0 8)] i136_32 rfl (by decide) rfl rfl (by omega) rfl rfl (by decide) rfl t53 (Nat.le_of_ble_eq_true rfl) (Nat.le_of_ble_eq_true rfl) rfl ?_
      refine X.aload_n 1 i53_0 rfl rfl rfl ?_
      refine X.getZ 4 11 i53_1 rfl rfl (by decide) rfl rfl rfl (fun h506 => ?_)
      refine X.ifeq 20 7 i53_4 rfl rfl rfl (fun h507 => ?_) (fun h507 => ?_)
      · refine X.iconst 21 i53_20 rfl rfl (by decide) ?_
        refine X.istore_n 22 [(0, zr 0 8), (1, zi 0)] i53_21 rfl rfl rfl ?_
        refine X.iload_n 23 i53_22 rfl rfl rfl ?_
        refine X.aload_n 24 i53_23 rfl rfl rfl ?_
        refine X.getZ 27 12 i53_24 rfl rfl (by decide) rfl rfl rfl (fun h508 => ?_)
        refine X.icmpeq 54 30 i53_27 rfl rfl rfl (fun h509 => ?_) (fun h509 => ?_)
        · refine X.cut [] i53_54 rfl ?_
          refine X.retv i53_54 rfl t53 ?_
          show X (EE s) d 136 35 [(0, zr 4 40), (1, zi a1)] [] m504 _
          refine X.aload_n 36 i136_35 rfl rfl rfl ?_
          refine X.getF 39 i136_36 rfl rfl (by decide) rfl rfl ?_
          refine X.getL 42 10 i136_39 rfl rfl (by decide) rfl rfl rfl ?_
          refine X.retl i136_42 rfl t136 ?_
          exact hQ (m504 0 8 10) m504 (by first | trivial | omega) (hJ505.up (by omega)) 
        · refine X.aload_n 31 i53_30 rfl rfl rfl ?_
          refine X.iload_n 32 i53_31 rfl rfl rfl ?_
          refine X.putZ' 35 12 i53_32 rfl rfl (by decide) rfl rfl rfl (by omega) (fun hrm510 m510 hm510 => ?_)
          have hJ511 := w8_12 hJ505 hm510 (by omega)
          refine X.aload_n 36 i53_35 rfl rfl rfl ?_
          refine X.aload_n 37 i53_36 rfl rfl rfl ?_
          refine X.getZ 40 12 i53_37 rfl rfl (by decide) rfl rfl rfl (fun h512 => ?_)
          refine X.ifeq 48 43 i53_40 rfl rfl rfl (fun h513 => ?_) (fun h513 => ?_)
          · refine X.cut [] i53_48 rfl ?_
            refine X.bipush 50 i53_48 rfl rfl (by decide) ?_
            refine X.iconst 51 i53_50 rfl rfl (by decide) ?_
            refine X.callv 54 [zi 23, zi 0] [] [(0, zr 0 8), (1, zi 23), (2, zi 0)] i53_51 rfl (by decide) rfl rfl (by omega) rfl rfl (by decide) rfl t54 (Nat.le_of_ble_eq_true rfl) (Nat.le_of_ble_eq_true rfl) rfl ?_
            refine X.aload_n 1 i54_0 rfl rfl rfl ?_
            refine X.getR 4 i54_1 rfl rfl (by decide) rfl rfl ?_
            refine X.aload_n 5 i54_4 rfl rfl rfl ?_
            refine X.getI 8 9 i54_5 rfl rfl (by decide) rfl rfl rfl ?_
            have h514 := r8_9 hJ511 0
            refine X.iload_n 9 i54_8 rfl rfl rfl ?_
            refine X.iload_n 10 i54_9 rfl rfl rfl ?_
            refine X.callv 13 [zi (m510 0 8 9), zi 23, zi 0] [] [(0, zr 0 37), (1, zi (m510 0 8 9)), (2, zi 23), (3, zi 0)] i54_10 rfl (by decide) rfl rfl (by omega) rfl rfl (by decide) rfl t55 (Nat.le_of_ble_eq_true rfl) (Nat.le_of_ble_eq_true rfl) rfl ?_
            refine X.aload_n 1 i55_0 rfl rfl rfl ?_
            refine X.getI 4 1 i55_1 rfl rfl (by decide) rfl rfl rfl ?_
            have h515 := r37_1 hJ511 0
            refine X.bipush 6 i55_4 rfl rfl (by decide) ?_
            refine X.irem 7 i55_6 rfl rfl (by omega) ?_
            refine X.iconst 8 i55_7 rfl rfl (by decide) ?_
            refine X.imul 9 i55_8 rfl rfl (by omega) ?_
            refine X.istore 11 [(0, zr 0 37), (1, zi (m510 0 8 9)), (2, zi 23), (3, zi 0), (4, zi (((m510 0 37 1) % 40) * 3))] i55_9 rfl rfl rfl ?_
            refine X.aload_n 12 i55_11 rfl rfl rfl ?_
            refine X.getR 15 i55_12 rfl rfl (by decide) rfl rfl ?_
            refine X.iload 17 i55_15 rfl rfl rfl ?_
            refine X.iload_n 18 i55_17 rfl rfl rfl ?_
            refine X.iast' 19 i55_18 rfl rfl (by decide) rfl (by omega) (fun hrm516 m516 hm516 => ?_)
            have hJ517 := w38_0 hJ511 hm516 (by omega) hrm516
            refine X.aload_n 20 i55_19 rfl rfl rfl ?_
            refine X.getR 23 i55_20 rfl rfl (by decide) rfl rfl ?_
            refine X.iload 25 i55_23 rfl rfl rfl ?_
            refine X.iconst 26 i55_25 rfl rfl (by decide) ?_
            refine X.iadd 27 i55_26 rfl rfl (by omega) ?_
            refine X.iload_n 28 i55_27 rfl rfl rfl ?_
            refine X.iast' 29 i55_28 rfl rfl (by decide) rfl (by omega) (fun hrm518 m518 hm518 => ?_)
            have hJ519 := w38_0 hJ517 hm518 (by omega) hrm518
            refine X.aload_n 30 i55_29 rfl rfl rfl ?_
            refine X.getR 33 i55_30 rfl rfl (by decide) rfl rfl ?_
            refine X.iload 35 i55_33 rfl rfl rfl ?_
            refine X.iconst 36 i55_35 rfl rfl (by decide) ?_
            refine X.iadd 37 i55_36 rfl rfl (by omega) ?_
            refine X.iload_n 38 i55_37 rfl rfl rfl ?_
            refine X.iast' 39 i55_38 rfl rfl (by decide) rfl (by omega) (fun hrm520 m520 hm520 => ?_)
            have hJ521 := w38_0 hJ519 hm520 (by omega) hrm520
            refine X.aload_n 40 i55_39 rfl rfl rfl ?_
            refine X.dup 41 i55_40 rfl rfl rfl ?_
            refine X.getI 44 1 i55_41 rfl rfl (by decide) rfl rfl rfl ?_
            have h522 := r37_1 hJ521 0
            refine X.iconst 45 i55_44 rfl rfl (by decide) ?_
            refine X.iadd 46 i55_45 rfl rfl (by omega) ?_
            refine X.putI' 49 1 i55_46 rfl rfl (by decide) rfl rfl rfl (fun hrm523 m523 hm523 => ?_)
            have hJ524 := w37_1 (hJ521.up (B' := B + 1) (by omega)) hm523 (by omega)
            refine X.retv i55_49 rfl t55 ?_
            show X (EE s) ((d - 1) - 1) 54 13 [(0, zr 0 8), (1, zi 23), (2, zi 0)] [] m523 _
            refine X.retv i54_13 rfl t54 ?_
            show X (EE s) (d - 1) 53 54 [] [] m523 _
            refine X.retv i53_54 rfl t53 ?_
            show X (EE s) d 136 35 [(0, zr 4 40), (1, zi a1)] [] m523 _
            refine X.aload_n 36 i136_35 rfl rfl rfl ?_
            refine X.getF 39 i136_36 rfl rfl (by decide) rfl rfl ?_
            refine X.getL 42 10 i136_39 rfl rfl (by decide) rfl rfl rfl ?_
            refine X.retl i136_42 rfl t136 ?_
            exact hQ (m523 0 8 10) m523 (by first | trivial | omega) (hJ524.up (by omega)) 
          · refine X.bipush 45 i53_43 rfl rfl (by decide) ?_
            refine X.goto 50 i53_45 rfl rfl ?_
            refine X.cut [] i53_50 rfl ?_
            refine X.iconst 51 i53_50 rfl rfl (by decide) ?_
            refine X.callv 54 [zi 22, zi 0] [] [(0, zr 0 8), (1, zi 22), (2, zi 0)] i53_51 rfl (by decide) rfl rfl (by omega) rfl rfl (by decide) rfl t54 (Nat.le_of_ble_eq_true rfl) (Nat.le_of_ble_eq_true rfl) rfl ?_
            refine X.aload_n 1 i54_0 rfl rfl rfl ?_
            refine X.getR 4 i54_1 rfl rfl (by decide) rfl rfl ?_
            refine X.aload_n 5 i54_4 rfl rfl rfl ?_
            refine X.getI 8 9 i54_5 rfl rfl (by decide) rfl rfl rfl ?_
            have h525 := r8_9 hJ511 0
            refine X.iload_n 9 i54_8 rfl rfl rfl ?_
            refine X.iload_n 10 i54_9 rfl rfl rfl ?_
            refine X.callv 13 [zi (m510 0 8 9), zi 22, zi 0] [] [(0, zr 0 37), (1, zi (m510 0 8 9)), (2, zi 22), (3, zi 0)] i54_10 rfl (by decide) rfl rfl (by omega) rfl rfl (by decide) rfl t55 (Nat.le_of_ble_eq_true rfl) (Nat.le_of_ble_eq_true rfl) rfl ?_
            refine X.aload_n 1 i55_0 rfl rfl rfl ?_
            refine X.getI 4 1 i55_1 rfl rfl (by decide) rfl rfl rfl ?_
            have h526 := r37_1 hJ511 0
            refine X.bipush 6 i55_4 rfl rfl (by decide) ?_
            refine X.irem 7 i55_6 rfl rfl (by omega) ?_
            refine X.iconst 8 i55_7 rfl rfl (by decide) ?_
            refine X.imul 9 i55_8 rfl rfl (by omega) ?_
            refine X.istore 11 [(0, zr 0 37), (1, zi (m510 0 8 9)), (2, zi 22), (3, zi 0), (4, zi (((m510 0 37 1) % 40) * 3))] i55_9 rfl rfl rfl ?_
            refine X.aload_n 12 i55_11 rfl rfl rfl ?_
            refine X.getR 15 i55_12 rfl rfl (by decide) rfl rfl ?_
            refine X.iload 17 i55_15 rfl rfl rfl ?_
            refine X.iload_n 18 i55_17 rfl rfl rfl ?_
            refine X.iast' 19 i55_18 rfl rfl (by decide) rfl (by omega) (fun hrm527 m527 hm527 => ?_)
            have hJ528 := w38_0 hJ511 hm527 (by omega) hrm527
            refine X.aload_n 20 i55_19 rfl rfl rfl ?_
            refine X.getR 23 i55_20 rfl rfl (by decide) rfl rfl ?_
            refine X.iload 25 i55_23 rfl rfl rfl ?_
            refine X.iconst 26 i55_25 rfl rfl (by decide) ?_
            refine X.iadd 27 i55_26 rfl rfl (by omega) ?_
            refine X.iload_n 28 i55_27 rfl rfl rfl ?_
            refine X.iast' 29 i55_28 rfl rfl (by decide) rfl (by omega) (fun hrm529 m529 hm529 => ?_)
            have hJ530 := w38_0 hJ528 hm529 (by omega) hrm529
            refine X.aload_n 30 i55_29 rfl rfl rfl ?_
            refine X.getR 33 i55_30 rfl rfl (by decide) rfl rfl ?_
            refine X.iload 35 i55_33 rfl rfl rfl ?_
            refine X.iconst 36 i55_35 rfl rfl (by decide) ?_
            refine X.iadd 37 i55_36 rfl rfl (by omega) ?_
            refine X.iload_n 38 i55_37 rfl rfl rfl ?_
            refine X.iast' 39 i55_38 rfl rfl (by decide) rfl (by omega) (fun hrm531 m531 hm531 => ?_)
            have hJ532 := w38_0 hJ530 hm531 (by omega) hrm531
            refine X.aload_n 40 i55_39 rfl rfl rfl ?_
            refine X.dup 41 i55_40 rfl rfl rfl ?_
            refine X.getI 44 1 i55_41 rfl rfl (by decide) rfl rfl rfl ?_
            have h533 := r37_1 hJ532 0
            refine X.iconst 45 i55_44 rfl rfl (by decide) ?_
            refine X.iadd 46 i55_45 rfl rfl (by omega) ?_
            refine X.putI' 49 1 i55_46 rfl rfl (by decide) rfl rfl rfl (fun hrm534 m534 hm534 => ?_)
            have hJ535 := w37_1 (hJ532.up (B' := B + 1) (by omega)) hm534 (by omega)
            refine X.retv i55_49 rfl t55 ?_
            show X (EE s) ((d - 1) - 1) 54 13 [(0, zr 0 8), (1, zi 22), (2, zi 0)] [] m534 _
            refine X.retv i54_13 rfl t54 ?_
            show X (EE s) (d - 1) 53 54 [] [] m534 _
            refine X.retv i53_54 rfl t53 ?_
            show X (EE s) d 136 35 [(0, zr 4 40), (1, zi a1)] [] m534 _
            refine X.aload_n 36 i136_35 rfl rfl rfl ?_
            refine X.getF 39 i136_36 rfl rfl (by decide) rfl rfl ?_
            refine X.getL 42 10 i136_39 rfl rfl (by decide) rfl rfl rfl ?_
            refine X.retl i136_42 rfl t136 ?_
            exact hQ (m534 0 8 10) m534 (by first | trivial | omega) (hJ535.up (by omega)) 
      · refine X.aload_n 8 i53_7 rfl rfl rfl ?_
        refine X.getL 11 10 i53_8 rfl rfl (by decide) rfl rfl rfl ?_
        refine X.lconst (y := 0) 12 i53_11 rfl rfl rfl ?_
        refine X.lcmp 13 i53_12 rfl rfl (fun z536 hz536 => ?_)
        refine X.ifgt 20 16 i53_13 rfl rfl rfl (fun h537 => ?_) (fun h537 => ?_)
        · have h537c : (m504 0 8 10) > 0 := by omega
          clear h537 hz536
          refine X.iconst 21 i53_20 rfl rfl (by decide) ?_
          refine X.istore_n 22 [(0, zr 0 8), (1, zi 0)] i53_21 rfl rfl rfl ?_
          refine X.iload_n 23 i53_22 rfl rfl rfl ?_
          refine X.aload_n 24 i53_23 rfl rfl rfl ?_
          refine X.getZ 27 12 i53_24 rfl rfl (by decide) rfl rfl rfl (fun h538 => ?_)
          refine X.icmpeq 54 30 i53_27 rfl rfl rfl (fun h539 => ?_) (fun h539 => ?_)
          · refine X.cut [] i53_54 rfl ?_
            refine X.retv i53_54 rfl t53 ?_
            show X (EE s) d 136 35 [(0, zr 4 40), (1, zi a1)] [] m504 _
            refine X.aload_n 36 i136_35 rfl rfl rfl ?_
            refine X.getF 39 i136_36 rfl rfl (by decide) rfl rfl ?_
            refine X.getL 42 10 i136_39 rfl rfl (by decide) rfl rfl rfl ?_
            refine X.retl i136_42 rfl t136 ?_
            exact hQ (m504 0 8 10) m504 (by first | trivial | omega) (hJ505.up (by omega)) 
          · refine X.aload_n 31 i53_30 rfl rfl rfl ?_
            refine X.iload_n 32 i53_31 rfl rfl rfl ?_
            refine X.putZ' 35 12 i53_32 rfl rfl (by decide) rfl rfl rfl (by omega) (fun hrm540 m540 hm540 => ?_)
            have hJ541 := w8_12 hJ505 hm540 (by omega)
            refine X.aload_n 36 i53_35 rfl rfl rfl ?_
            refine X.aload_n 37 i53_36 rfl rfl rfl ?_
            refine X.getZ 40 12 i53_37 rfl rfl (by decide) rfl rfl rfl (fun h542 => ?_)
            refine X.ifeq 48 43 i53_40 rfl rfl rfl (fun h543 => ?_) (fun h543 => ?_)
            · refine X.cut [] i53_48 rfl ?_
              refine X.bipush 50 i53_48 rfl rfl (by decide) ?_
              refine X.iconst 51 i53_50 rfl rfl (by decide) ?_
              refine X.callv 54 [zi 23, zi 0] [] [(0, zr 0 8), (1, zi 23), (2, zi 0)] i53_51 rfl (by decide) rfl rfl (by omega) rfl rfl (by decide) rfl t54 (Nat.le_of_ble_eq_true rfl) (Nat.le_of_ble_eq_true rfl) rfl ?_
              refine X.aload_n 1 i54_0 rfl rfl rfl ?_
              refine X.getR 4 i54_1 rfl rfl (by decide) rfl rfl ?_
              refine X.aload_n 5 i54_4 rfl rfl rfl ?_
              refine X.getI 8 9 i54_5 rfl rfl (by decide) rfl rfl rfl ?_
              have h544 := r8_9 hJ541 0
              refine X.iload_n 9 i54_8 rfl rfl rfl ?_
              refine X.iload_n 10 i54_9 rfl rfl rfl ?_
              refine X.callv 13 [zi (m540 0 8 9), zi 23, zi 0] [] [(0, zr 0 37), (1, zi (m540 0 8 9)), (2, zi 23), (3, zi 0)] i54_10 rfl (by decide) rfl rfl (by omega) rfl rfl (by decide) rfl t55 (Nat.le_of_ble_eq_true rfl) (Nat.le_of_ble_eq_true rfl) rfl ?_
              refine X.aload_n 1 i55_0 rfl rfl rfl ?_
              refine X.getI 4 1 i55_1 rfl rfl (by decide) rfl rfl rfl ?_
              have h545 := r37_1 hJ541 0
              refine X.bipush 6 i55_4 rfl rfl (by decide) ?_
              refine X.irem 7 i55_6 rfl rfl (by omega) ?_
              refine X.iconst 8 i55_7 rfl rfl (by decide) ?_
              refine X.imul 9 i55_8 rfl rfl (by omega) ?_
              refine X.istore 11 [(0, zr 0 37), (1, zi (m540 0 8 9)), (2, zi 23), (3, zi 0), (4, zi (((m540 0 37 1) % 40) * 3))] i55_9 rfl rfl rfl ?_
              refine X.aload_n 12 i55_11 rfl rfl rfl ?_
              refine X.getR 15 i55_12 rfl rfl (by decide) rfl rfl ?_
              refine X.iload 17 i55_15 rfl rfl rfl ?_
              refine X.iload_n 18 i55_17 rfl rfl rfl ?_
              refine X.iast' 19 i55_18 rfl rfl (by decide) rfl (by omega) (fun hrm546 m546 hm546 => ?_)
              have hJ547 := w38_0 hJ541 hm546 (by omega) hrm546
              refine X.aload_n 20 i55_19 rfl rfl rfl ?_
              refine X.getR 23 i55_20 rfl rfl (by decide) rfl rfl ?_
              refine X.iload 25 i55_23 rfl rfl rfl ?_
              refine X.iconst 26 i55_25 rfl rfl (by decide) ?_
              refine X.iadd 27 i55_26 rfl rfl (by omega) ?_
              refine X.iload_n 28 i55_27 rfl rfl rfl ?_
              refine X.iast' 29 i55_28 rfl rfl (by decide) rfl (by omega) (fun hrm548 m548 hm548 => ?_)
              have hJ549 := w38_0 hJ547 hm548 (by omega) hrm548
              refine X.aload_n 30 i55_29 rfl rfl rfl ?_
              refine X.getR 33 i55_30 rfl rfl (by decide) rfl rfl ?_
              refine X.iload 35 i55_33 rfl rfl rfl ?_
              refine X.iconst 36 i55_35 rfl rfl (by decide) ?_
              refine X.iadd 37 i55_36 rfl rfl (by omega) ?_
              refine X.iload_n 38 i55_37 rfl rfl rfl ?_
              refine X.iast' 39 i55_38 rfl rfl (by decide) rfl (by omega) (fun hrm550 m550 hm550 => ?_)
              have hJ551 := w38_0 hJ549 hm550 (by omega) hrm550
              refine X.aload_n 40 i55_39 rfl rfl rfl ?_
              refine X.dup 41 i55_40 rfl rfl rfl ?_
              refine X.getI 44 1 i55_41 rfl rfl (by decide) rfl rfl rfl ?_
              have h552 := r37_1 hJ551 0
              refine X.iconst 45 i55_44 rfl rfl (by decide) ?_
              refine X.iadd 46 i55_45 rfl rfl (by omega) ?_
              refine X.putI' 49 1 i55_46 rfl rfl (by decide) rfl rfl rfl (fun hrm553 m553 hm553 => ?_)
              have hJ554 := w37_1 (hJ551.up (B' := B + 1) (by omega)) hm553 (by omega)
              refine X.retv i55_49 rfl t55 ?_
              show X (EE s) ((d - 1) - 1) 54 13 [(0, zr 0 8), (1, zi 23), (2, zi 0)] [] m553 _
              refine X.retv i54_13 rfl t54 ?_
              show X (EE s) (d - 1) 53 54 [] [] m553 _
              refine X.retv i53_54 rfl t53 ?_
              show X (EE s) d 136 35 [(0, zr 4 40), (1, zi a1)] [] m553 _
              refine X.aload_n 36 i136_35 rfl rfl rfl ?_
              refine X.getF 39 i136_36 rfl rfl (by decide) rfl rfl ?_
              refine X.getL 42 10 i136_39 rfl rfl (by decide) rfl rfl rfl ?_
              refine X.retl i136_42 rfl t136 ?_
              exact hQ (m553 0 8 10) m553 (by first | trivial | omega) (hJ554.up (by omega)) 
            · refine X.bipush 45 i53_43 rfl rfl (by decide) ?_
              refine X.goto 50 i53_45 rfl rfl ?_
              refine X.cut [] i53_50 rfl ?_
              refine X.iconst 51 i53_50 rfl rfl (by decide) ?_
              refine X.callv 54 [zi 22, zi 0] [] [(0, zr 0 8), (1, zi 22), (2, zi 0)] i53_51 rfl (by decide) rfl rfl (by omega) rfl rfl (by decide) rfl t54 (Nat.le_of_ble_eq_true rfl) (Nat.le_of_ble_eq_true rfl) rfl ?_
              refine X.aload_n 1 i54_0 rfl rfl rfl ?_
              refine X.getR 4 i54_1 rfl rfl (by decide) rfl rfl ?_
              refine X.aload_n 5 i54_4 rfl rfl rfl ?_
              refine X.getI 8 9 i54_5 rfl rfl (by decide) rfl rfl rfl ?_
              have h555 := r8_9 hJ541 0
              refine X.iload_n 9 i54_8 rfl rfl rfl ?_
              refine X.iload_n 10 i54_9 rfl rfl rfl ?_
              refine X.callv 13 [zi (m540 0 8 9), zi 22, zi 0] [] [(0, zr 0 37), (1, zi (m540 0 8 9)), (2, zi 22), (3, zi 0)] i54_10 rfl (by decide) rfl rfl (by omega) rfl rfl (by decide) rfl t55 (Nat.le_of_ble_eq_true rfl) (Nat.le_of_ble_eq_true rfl) rfl ?_
              refine X.aload_n 1 i55_0 rfl rfl rfl ?_
              refine X.getI 4 1 i55_1 rfl rfl (by decide) rfl rfl rfl ?_
              have h556 := r37_1 hJ541 0
              refine X.bipush 6 i55_4 rfl rfl (by decide) ?_
              refine X.irem 7 i55_6 rfl rfl (by omega) ?_
              refine X.iconst 8 i55_7 rfl rfl (by decide) ?_
              refine X.imul 9 i55_8 rfl rfl (by omega) ?_
              refine X.istore 11 [(0, zr 0 37), (1, zi (m540 0 8 9)), (2, zi 22), (3, zi 0), (4, zi (((m540 0 37 1) % 40) * 3))] i55_9 rfl rfl rfl ?_
              refine X.aload_n 12 i55_11 rfl rfl rfl ?_
              refine X.getR 15 i55_12 rfl rfl (by decide) rfl rfl ?_
              refine X.iload 17 i55_15 rfl rfl rfl ?_
              refine X.iload_n 18 i55_17 rfl rfl rfl ?_
              refine X.iast' 19 i55_18 rfl rfl (by decide) rfl (by omega) (fun hrm557 m557 hm557 => ?_)
              have hJ558 := w38_0 hJ541 hm557 (by omega) hrm557
              refine X.aload_n 20 i55_19 rfl rfl rfl ?_
              refine X.getR 23 i55_20 rfl rfl (by decide) rfl rfl ?_
              refine X.iload 25 i55_23 rfl rfl rfl ?_
              refine X.iconst 26 i55_25 rfl rfl (by decide) ?_
              refine X.iadd 27 i55_26 rfl rfl (by omega) ?_
              refine X.iload_n 28 i55_27 rfl rfl rfl ?_
              refine X.iast' 29 i55_28 rfl rfl (by decide) rfl (by omega) (fun hrm559 m559 hm559 => ?_)
              have hJ560 := w38_0 hJ558 hm559 (by omega) hrm559
              refine X.aload_n 30 i55_29 rfl rfl rfl ?_
              refine X.getR 33 i55_30 rfl rfl (by decide) rfl rfl ?_
              refine X.iload 35 i55_33 rfl rfl rfl ?_
              refine X.iconst 36 i55_35 rfl rfl (by decide) ?_
              refine X.iadd 37 i55_36 rfl rfl (by omega) ?_
              refine X.iload_n 38 i55_37 rfl rfl rfl ?_
              refine X.iast' 39 i55_38 rfl rfl (by decide) rfl (by omega) (fun hrm561 m561 hm561 => ?_)
              have hJ562 := w38_0 hJ560 hm561 (by omega) hrm561
              refine X.aload_n 40 i55_39 rfl rfl rfl ?_
              refine X.dup 41 i55_40 rfl rfl rfl ?_
              refine X.getI 44 1 i55_41 rfl rfl (by decide) rfl rfl rfl ?_
              have h563 := r37_1 hJ562 0
              refine X.iconst 45 i55_44 rfl rfl (by decide) ?_
              refine X.iadd 46 i55_45 rfl rfl (by omega) ?_
              refine X.putI' 49 1 i55_46 rfl rfl (by decide) rfl rfl rfl (fun hrm564 m564 hm564 => ?_)
              have hJ565 := w37_1 (hJ562.up (B' := B + 1) (by omega)) hm564 (by omega)
              refine X.retv i55_49 rfl t55 ?_
              show X (EE s) ((d - 1) - 1) 54 13 [(0, zr 0 8), (1, zi 22), (2, zi 0)] [] m564 _
              refine X.retv i54_13 rfl t54 ?_
              show X (EE s) (d - 1) 53 54 [] [] m564 _
              refine X.retv i53_54 rfl t53 ?_
              show X (EE s) d 136 35 [(0, zr 4 40), (1, zi a1)] [] m564 _
              refine X.aload_n 36 i136_35 rfl rfl rfl ?_
              refine X.getF 39 i136_36 rfl rfl (by decide) rfl rfl ?_
              refine X.getL 42 10 i136_39 rfl rfl (by decide) rfl rfl rfl ?_
              refine X.retl i136_42 rfl t136 ?_
              exact hQ (m564 0 8 10) m564 (by first | trivial | omega) (hJ565.up (by omega)) 
        · have h537c : (m504 0 8 10) ≤ 0 := by omega
          clear h537 hz536
          refine X.iconst 17 i53_16 rfl rfl (by decide) ?_
          refine X.goto 21 i53_17 rfl rfl ?_
          refine X.istore_n 22 [(0, zr 0 8), (1, zi 1)] i53_21 rfl rfl rfl ?_
          refine X.iload_n 23 i53_22 rfl rfl rfl ?_
          refine X.aload_n 24 i53_23 rfl rfl rfl ?_
          refine X.getZ 27 12 i53_24 rfl rfl (by decide) rfl rfl rfl (fun h566 => ?_)
          refine X.icmpeq 54 30 i53_27 rfl rfl rfl (fun h567 => ?_) (fun h567 => ?_)
          · refine X.cut [] i53_54 rfl ?_
            refine X.retv i53_54 rfl t53 ?_
            show X (EE s) d 136 35 [(0, zr 4 40), (1, zi a1)] [] m504 _
            refine X.aload_n 36 i136_35 rfl rfl rfl ?_
            refine X.getF 39 i136_36 rfl rfl (by decide) rfl rfl ?_
            refine X.getL 42 10 i136_39 rfl rfl (by decide) rfl rfl rfl ?_
            refine X.retl i136_42 rfl t136 ?_
            exact hQ (m504 0 8 10) m504 (by first | trivial | omega) (hJ505.up (by omega)) 
          · refine X.aload_n 31 i53_30 rfl rfl rfl ?_
            refine X.iload_n 32 i53_31 rfl rfl rfl ?_
            refine X.putZ' 35 12 i53_32 rfl rfl (by decide) rfl rfl rfl (by omega) (fun hrm568 m568 hm568 => ?_)
            have hJ569 := w8_12 hJ505 hm568 (by omega)
            refine X.aload_n 36 i53_35 rfl rfl rfl ?_
            refine X.aload_n 37 i53_36 rfl rfl rfl ?_
            refine X.getZ 40 12 i53_37 rfl rfl (by decide) rfl rfl rfl (fun h570 => ?_)
            refine X.ifeq 48 43 i53_40 rfl rfl rfl (fun h571 => ?_) (fun h571 => ?_)
            · refine X.cut [] i53_48 rfl ?_
              refine X.bipush 50 i53_48 rfl rfl (by decide) ?_
              refine X.iconst 51 i53_50 rfl rfl (by decide) ?_
              refine X.callv 54 [zi 23, zi 0] [] [(0, zr 0 8), (1, zi 23), (2, zi 0)] i53_51 rfl (by decide) rfl rfl (by omega) rfl rfl (by decide) rfl t54 (Nat.le_of_ble_eq_true rfl) (Nat.le_of_ble_eq_true rfl) rfl ?_
              refine X.aload_n 1 i54_0 rfl rfl rfl ?_
              refine X.getR 4 i54_1 rfl rfl (by decide) rfl rfl ?_
              refine X.aload_n 5 i54_4 rfl rfl rfl ?_
              refine X.getI 8 9 i54_5 rfl rfl (by decide) rfl rfl rfl ?_
              have h572 := r8_9 hJ569 0
              refine X.iload_n 9 i54_8 rfl rfl rfl ?_
              refine X.iload_n 10 i54_9 rfl rfl rfl ?_
              refine X.callv 13 [zi (m568 0 8 9), zi 23, zi 0] [] [(0, zr 0 37), (1, zi (m568 0 8 9)), (2, zi 23), (3, zi 0)] i54_10 rfl (by decide) rfl rfl (by omega) rfl rfl (by decide) rfl t55 (Nat.le_of_ble_eq_true rfl) (Nat.le_of_ble_eq_true rfl) rfl ?_
              refine X.aload_n 1 i55_0 rfl rfl rfl ?_
              refine X.getI 4 1 i55_1 rfl rfl (by decide) rfl rfl rfl ?_
              have h573 := r37_1 hJ569 0
              refine X.bipush 6 i55_4 rfl rfl (by decide) ?_
              refine X.irem 7 i55_6 rfl rfl (by omega) ?_
              refine X.iconst 8 i55_7 rfl rfl (by decide) ?_
              refine X.imul 9 i55_8 rfl rfl (by omega) ?_
              refine X.istore 11 [(0, zr 0 37), (1, zi (m568 0 8 9)), (2, zi 23), (3, zi 0), (4, zi (((m568 0 37 1) % 40) * 3))] i55_9 rfl rfl rfl ?_
              refine X.aload_n 12 i55_11 rfl rfl rfl ?_
              refine X.getR 15 i55_12 rfl rfl (by decide) rfl rfl ?_
              refine X.iload 17 i55_15 rfl rfl rfl ?_
              refine X.iload_n 18 i55_17 rfl rfl rfl ?_
              refine X.iast' 19 i55_18 rfl rfl (by decide) rfl (by omega) (fun hrm574 m574 hm574 => ?_)
              have hJ575 := w38_0 hJ569 hm574 (by omega) hrm574
              refine X.aload_n 20 i55_19 rfl rfl rfl ?_
              refine X.getR 23 i55_20 rfl rfl (by decide) rfl rfl ?_
              refine X.iload 25 i55_23 rfl rfl rfl ?_
              refine X.iconst 26 i55_25 rfl rfl (by decide) ?_
              refine X.iadd 27 i55_26 rfl rfl (by omega) ?_
              refine X.iload_n 28 i55_27 rfl rfl rfl ?_
              refine X.iast' 29 i55_28 rfl rfl (by decide) rfl (by omega) (fun hrm576 m576 hm576 => ?_)
              have hJ577 := w38_0 hJ575 hm576 (by omega) hrm576
              refine X.aload_n 30 i55_29 rfl rfl rfl ?_
              refine X.getR 33 i55_30 rfl rfl (by decide) rfl rfl ?_
              refine X.iload 35 i55_33 rfl rfl rfl ?_
              refine X.iconst 36 i55_35 rfl rfl (by decide) ?_
              refine X.iadd 37 i55_36 rfl rfl (by omega) ?_
              refine X.iload_n 38 i55_37 rfl rfl rfl ?_
              refine X.iast' 39 i55_38 rfl rfl (by decide) rfl (by omega) (fun hrm578 m578 hm578 => ?_)
              have hJ579 := w38_0 hJ577 hm578 (by omega) hrm578
              refine X.aload_n 40 i55_39 rfl rfl rfl ?_
              refine X.dup 41 i55_40 rfl rfl rfl ?_
              refine X.getI 44 1 i55_41 rfl rfl (by decide) rfl rfl rfl ?_
              have h580 := r37_1 hJ579 0
              refine X.iconst 45 i55_44 rfl rfl (by decide) ?_
              refine X.iadd 46 i55_45 rfl rfl (by omega) ?_
              refine X.putI' 49 1 i55_46 rfl rfl (by decide) rfl rfl rfl (fun hrm581 m581 hm581 => ?_)
              have hJ582 := w37_1 (hJ579.up (B' := B + 1) (by omega)) hm581 (by omega)
              refine X.retv i55_49 rfl t55 ?_
              show X (EE s) ((d - 1) - 1) 54 13 [(0, zr 0 8), (1, zi 23), (2, zi 0)] [] m581 _
              refine X.retv i54_13 rfl t54 ?_
              show X (EE s) (d - 1) 53 54 [] [] m581 _
              refine X.retv i53_54 rfl t53 ?_
              show X (EE s) d 136 35 [(0, zr 4 40), (1, zi a1)] [] m581 _
              refine X.aload_n 36 i136_35 rfl rfl rfl ?_
              refine X.getF 39 i136_36 rfl rfl (by decide) rfl rfl ?_
              refine X.getL 42 10 i136_39 rfl rfl (by decide) rfl rfl rfl ?_
              refine X.retl i136_42 rfl t136 ?_
              exact hQ (m581 0 8 10) m581 (by first | trivial | omega) (hJ582.up (by omega)) 
            · refine X.bipush 45 i53_43 rfl rfl (by decide) ?_
              refine X.goto 50 i53_45 rfl rfl ?_
              refine X.cut [] i53_50 rfl ?_
              refine X.iconst 51 i53_50 rfl rfl (by decide) ?_
              refine X.callv 54 [zi 22, zi 0] [] [(0, zr 0 8), (1, zi 22), (2, zi 0)] i53_51 rfl (by decide) rfl rfl (by omega) rfl rfl (by decide) rfl t54 (Nat.le_of_ble_eq_true rfl) (Nat.le_of_ble_eq_true rfl) rfl ?_
              refine X.aload_n 1 i54_0 rfl rfl rfl ?_
              refine X.getR 4 i54_1 rfl rfl (by decide) rfl rfl ?_
              refine X.aload_n 5 i54_4 rfl rfl rfl ?_
              refine X.getI 8 9 i54_5 rfl rfl (by decide) rfl rfl rfl ?_
              have h583 := r8_9 hJ569 0
              refine X.iload_n 9 i54_8 rfl rfl rfl ?_
              refine X.iload_n 10 i54_9 rfl rfl rfl ?_
              refine X.callv 13 [zi (m568 0 8 9), zi 22, zi 0] [] [(0, zr 0 37), (1, zi (m568 0 8 9)), (2, zi 22), (3, zi 0)] i54_10 rfl (by decide) rfl rfl (by omega) rfl rfl (by decide) rfl t55 (Nat.le_of_ble_eq_true rfl) (Nat.le_of_ble_eq_true rfl) rfl ?_
              refine X.aload_n 1 i55_0 rfl rfl rfl ?_
              refine X.getI 4 1 i55_1 rfl rfl (by decide) rfl rfl rfl ?_
              have h584 := r37_1 hJ569 0
              refine X.bipush 6 i55_4 rfl rfl (by decide) ?_
              refine X.irem 7 i55_6 rfl rfl (by omega) ?_
              refine X.iconst 8 i55_7 rfl rfl (by decide) ?_
              refine X.imul 9 i55_8 rfl rfl (by omega) ?_
              refine X.istore 11 [(0, zr 0 37), (1, zi (m568 0 8 9)), (2, zi 22), (3, zi 0), (4, zi (((m568 0 37 1) % 40) * 3))] i55_9 rfl rfl rfl ?_
              refine X.aload_n 12 i55_11 rfl rfl rfl ?_
              refine X.getR 15 i55_12 rfl rfl (by decide) rfl rfl ?_
              refine X.iload 17 i55_15 rfl rfl rfl ?_
              refine X.iload_n 18 i55_17 rfl rfl rfl ?_
              refine X.iast' 19 i55_18 rfl rfl (by decide) rfl (by omega) (fun hrm585 m585 hm585 => ?_)
              have hJ586 := w38_0 hJ569 hm585 (by omega) hrm585
              refine X.aload_n 20 i55_19 rfl rfl rfl ?_
              refine X.getR 23 i55_20 rfl rfl (by decide) rfl rfl ?_
              refine X.iload 25 i55_23 rfl rfl rfl ?_
              refine X.iconst 26 i55_25 rfl rfl (by decide) ?_
              refine X.iadd 27 i55_26 rfl rfl (by omega) ?_
              refine X.iload_n 28 i55_27 rfl rfl rfl ?_
              refine X.iast' 29 i55_28 rfl rfl (by decide) rfl (by omega) (fun hrm587 m587 hm587 => ?_)
              have hJ588 := w38_0 hJ586 hm587 (by omega) hrm587
              refine X.aload_n 30 i55_29 rfl rfl rfl ?_
              refine X.getR 33 i55_30 rfl rfl (by decide) rfl rfl ?_
              refine X.iload 35 i55_33 rfl rfl rfl ?_
              refine X.iconst 36 i55_35 rfl rfl (by decide) ?_
              refine X.iadd 37 i55_36 rfl rfl (by omega) ?_
              refine X.iload_n 38 i55_37 rfl rfl rfl ?_
              refine X.iast' 39 i55_38 rfl rfl (by decide) rfl (by omega) (fun hrm589 m589 hm589 => ?_)
              have hJ590 := w38_0 hJ588 hm589 (by omega) hrm589
              refine X.aload_n 40 i55_39 rfl rfl rfl ?_
              refine X.dup 41 i55_40 rfl rfl rfl ?_
              refine X.getI 44 1 i55_41 rfl rfl (by decide) rfl rfl rfl ?_
              have h591 := r37_1 hJ590 0
              refine X.iconst 45 i55_44 rfl rfl (by decide) ?_
              refine X.iadd 46 i55_45 rfl rfl (by omega) ?_
              refine X.putI' 49 1 i55_46 rfl rfl (by decide) rfl rfl rfl (fun hrm592 m592 hm592 => ?_)
              have hJ593 := w37_1 (hJ590.up (B' := B + 1) (by omega)) hm592 (by omega)
              refine X.retv i55_49 rfl t55 ?_
              show X (EE s) ((d - 1) - 1) 54 13 [(0, zr 0 8), (1, zi 22), (2, zi 0)] [] m592 _
              refine X.retv i54_13 rfl t54 ?_
              show X (EE s) (d - 1) 53 54 [] [] m592 _
              refine X.retv i53_54 rfl t53 ?_
              show X (EE s) d 136 35 [(0, zr 4 40), (1, zi a1)] [] m592 _
              refine X.aload_n 36 i136_35 rfl rfl rfl ?_
              refine X.getF 39 i136_36 rfl rfl (by decide) rfl rfl ?_
              refine X.getL 42 10 i136_39 rfl rfl (by decide) rfl rfl rfl ?_
              refine X.retl i136_42 rfl t136 ?_
              exact hQ (m592 0 8 10) m592 (by first | trivial | omega) (hJ593.up (by omega)) 
    · refine X.cut [] i136_10 rfl ?_
      refine X.ldc2 13 i136_10 rfl rfl (by decide) ?_
      refine X.retl i136_13 rfl t136 ?_
      exact hQ (-10000000000) m (by first | trivial | omega) (hJ.up (by omega)) 
-- WorkMeterModel.pay
theorem c285_1 {s : Nat × (Nat → Int32)} {S : zS} {m0 m : zM} {B : Int} {d : Nat} {Q : Option zV → zM → Prop} (a1 : Int) (hd : 15 ≤ d) (hJ : J S m0 B m) (hB : B + 1 ≤ 1000000000) (ha1 : (-2147483648) ≤ a1 ∧ a1 ≤ 2147483647) (hQ : ∀ (v : Int) m', (True) → J S m0 (B + 1) m' → Q (some (zl v)) m') : X (EE s) d 285 0 [(0, zr 4 44), (1, zi a1)] [] m Q := by
  refine X.iload_n 1 i285_0 rfl rfl rfl ?_
  refine X.i2l 2 i285_1 rfl rfl ?_
  refine X.lconst (y := 0) 3 i285_2 rfl rfl rfl ?_
  refine X.ldc2 6 i285_3 rfl rfl (by decide) ?_
  refine X.calls 9 [zl a1, zl 0, zl 1000000000] [] [(0, zl a1), (2, zl 0), (4, zl 1000000000)] i285_6 (by decide) rfl rfl (by omega) rfl rfl t204 (Nat.le_of_ble_eq_true rfl) (Nat.le_of_ble_eq_true rfl) rfl ?_
  refine X.lload_n 1 i204_0 rfl rfl rfl ?_
  refine X.lload_n 2 i204_1 rfl rfl rfl ?_
  refine X.lcmp 3 i204_2 rfl rfl (fun z501 hz501 => ?_)
  refine X.iflt 17 6 i204_3 rfl rfl rfl (fun h502 => ?_) (fun h502 => ?_)
  · have h502c : a1 < 0 := by omega
    clear h502 hz501
    refine X.cut [] i204_17 rfl ?_
    refine X.iconst 18 i204_17 rfl rfl (by decide) ?_
    refine X.retz i204_18 rfl t204 (by omega) ?_
    show X (EE s) d 285 9 [(0, zr 4 44), (1, zi a1)] [zi 0] m _
    refine X.ifne 16 12 i285_9 rfl rfl rfl (fun h503 => (by exfalso; omega)) (fun h503 => ?_)
    refine X.ldc2 15 i285_12 rfl rfl (by decide) ?_
    refine X.retl i285_15 rfl t285 ?_
    exact hQ (-10000000000) m (by first | trivial | omega) (hJ.up (by omega)) 
  · have h502c : a1 ≥ 0 := by omega
    clear h502 hz501
    refine X.lload_n 7 i204_6 rfl rfl rfl ?_
    refine X.lload 9 i204_7 rfl rfl rfl ?_
    refine X.lcmp 10 i204_9 rfl rfl (fun z504 hz504 => ?_)
    refine X.ifgt 17 13 i204_10 rfl rfl rfl (fun h505 => ?_) (fun h505 => ?_)
    · have h505c : a1 > 1000000000 := by omega
      clear h505 hz504
      refine X.cut [] i204_17 rfl ?_
      refine X.iconst 18 i204_17 rfl rfl (by decide) ?_
      refine X.retz i204_18 rfl t204 (by omega) ?_
      show X (EE s) d 285 9 [(0, zr 4 44), (1, zi a1)] [zi 0] m _
      refine X.ifne 16 12 i285_9 rfl rfl rfl (fun h506 => (by exfalso; omega)) (fun h506 => ?_)
      refine X.ldc2 15 i285_12 rfl rfl (by decide) ?_
      refine X.retl i285_15 rfl t285 ?_
      exact hQ (-10000000000) m (by first | trivial | omega) (hJ.up (by omega)) 
    · have h505c : a1 ≤ 1000000000 := by omega
      clear h505 hz504
      refine X.iconst 14 i204_13 rfl rfl (by decide) ?_
      refine X.goto 18 i204_14 rfl rfl ?_
      refine X.cut [] i204_18 rfl ?_
      refine X.retz i204_18 rfl t204 (by omega) ?_
      show X (EE s) d 285 9 [(0, zr 4 44), (1, zi a1)] [zi 1] m _
      refine X.ifne 16 12 i285_9 rfl rfl rfl (fun h507 => ?_) (fun h507 => (by exfalso; omega))
      refine X.aload_n 17 i285_16 rfl rfl rfl ?_
      refine X.getF 20 i285_17 rfl rfl (by decide) rfl rfl ?_
      refine X.bipush 22 i285_20 rfl rfl (by decide) ?_
      refine X.dup2 23 i285_22 rfl rfl ?_
      refine X.lald 24 i285_23 rfl rfl (by decide) rfl (by omega) ?_
      refine X.iload_n 25 i285_24 rfl rfl rfl ?_
      refine X.i2l 26 i285_25 rfl rfl ?_
      refine X.llF 27 .ladd (fun x y => x + y) i285_26 rfl rfl rfl (fun _ _ => rfl) (fun z508 hz508 => ?_)
      refine X.last' 28 i285_27 rfl rfl (by decide) rfl (by omega) (fun hrm509 m509 hm509 => ?_)
      have hJ510 := w45_10 hJ hm509 hrm509
      refine X.aload_n 29 i285_28 rfl rfl rfl ?_
      refine X.callv 32 [] [] [(0, zr 4 44)] i285_29 rfl (by decide) rfl rfl (by omega) rfl rfl (by decide) rfl t222 (Nat.le_of_ble_eq_true rfl) (Nat.le_of_ble_eq_true rfl) rfl ?_
      refine c222_1 (B := B)   (by omega) (hJ510.up (by omega)) (by omega)  (fun m511 hJ512 => ?_)
      show X (EE s) d 285 32 [(0, zr 4 44), (1, zi a1)] [] m511 _
      refine X.aload_n 33 i285_32 rfl rfl rfl ?_
      refine X.getF 36 i285_33 rfl rfl (by decide) rfl rfl ?_
      refine X.bipush 38 i285_36 rfl rfl (by decide) ?_
      refine X.lald 39 i285_38 rfl rfl (by decide) rfl (by omega) ?_
      refine X.retl i285_39 rfl t285 ?_
      exact hQ (m511 4 45 10) m511 (by first | trivial | omega) (hJ512.up (by omega)) 
theorem l139_14_1 {s : Nat × (Nat → Int32)} {S : zS} {m0 : zM} {d : Nat} {Q : Option zV → zM → Prop} (g0 g2 : Nat) (y1 y3 : Int) (BE : Int) (hE : BE ≤ 1000000000) (hd : 13 ≤ d) (hy1 : 0 ≤ y1 ∧ y1 ≤ 2000000000) (hy3 : 0 ≤ y3 ∧ y3 ≤ 165)
    (K65 : ∀ (m' : zM) (B' : Int), J S m0 B' m' → B' ≤ BE → X (EE s) d 139 65 [(0, zr g0 23), (1, zi y1), (2, zr g2 30), (3, zi y3)] [] m' Q) :
    ∀ (n : Nat) (y4 : Int) (m : zM) (B : Int), J S m0 B m → B + 0 * (n : Int) ≤ BE → (0 ≤ y4 ∧ y4 ≤ 28) → 28 - y4 < (n : Int) → X (EE s) d 139 14 [(0, zr g0 23), (1, zi y1), (2, zr g2 30), (3, zi y3), (4, zi y4)] [] m Q := by
  intro n
  induction n with
  | zero =>
    intro y4 m B hJ hB  hy4 hn
    exfalso
    omega
  | succ n ih =>
    intro y4 m B hJ hB  hy4 hn
    refine X.iload 16 i139_14 rfl rfl rfl ?_
    refine X.bipush 18 i139_16 rfl rfl (by decide) ?_
    refine X.icmpge 65 21 i139_18 rfl rfl rfl (fun h509 => ?_) (fun h509 => ?_)
    · refine X.cut [(0, zr g0 23), (1, zi y1), (2, zr g2 30), (3, zi y3)] i139_65 rfl ?_
      exact K65  m (B) (hJ.up (by omega)) (by omega)  
    · refine X.aload_n 22 i139_21 rfl rfl rfl ?_
      refine X.getR 25 i139_22 rfl rfl (by decide) rfl rfl ?_
      refine X.iload_n 26 i139_25 rfl rfl rfl ?_
      refine X.iload 28 i139_26 rfl rfl rfl ?_
      refine X.iadd 29 i139_28 rfl rfl (by omega) ?_
      refine X.aload_n 30 i139_29 rfl rfl rfl ?_
      refine X.getR 33 i139_30 rfl rfl (by decide) rfl rfl ?_
      refine X.iload 35 i139_33 rfl rfl rfl ?_
      refine X.lald 36 i139_35 rfl rfl (by decide) rfl (by omega) ?_
      refine X.aload_n 37 i139_36 rfl rfl rfl ?_
      refine X.getR 40 i139_37 rfl rfl (by decide) rfl rfl ?_
      refine X.iload 42 i139_40 rfl rfl rfl ?_
      refine X.lald 43 i139_42 rfl rfl (by decide) rfl (by omega) ?_
      refine X.llF 44 .lsub (fun x y => x - y) i139_43 rfl rfl rfl (fun _ _ => rfl) (fun z510 hz510 => ?_)
      refine X.last' 45 i139_44 rfl rfl (by decide) rfl (by omega) (fun hrm511 m511 hm511 => ?_)
      have hJ512 := w26_0 hJ hm511 (by omega) hrm511
      have wt513 : m511 g0 23 3 = (m g0 23 3) := by rw [hm511]; exact z_upd_o _ _ rfl
      refine X.aload_n 46 i139_45 rfl rfl rfl ?_
      refine X.getR 49 i139_46 rfl rfl (by decide) rfl rfl ?_
      refine X.iload 51 i139_49 rfl rfl rfl ?_
      refine X.aload_n 52 i139_51 rfl rfl rfl ?_
      refine X.getR 55 i139_52 rfl rfl (by decide) rfl rfl ?_
      refine X.iload 57 i139_55 rfl rfl rfl ?_
      refine X.lald 58 i139_57 rfl rfl (by decide) rfl (by omega) ?_
      refine X.last' 59 i139_58 rfl rfl (by decide) rfl (by omega) (fun hrm514 m514 hm514 => ?_)
      have hJ515 := w25_0 hJ512 hm514 (by omega) hrm514
      have wt516 : m514 g0 23 3 = (m g0 23 3) := Eq.trans (by rw [hm514]; exact z_upd_o _ _ rfl) wt513
      clear wt513
      refine X.iinc 62 [(0, zr g0 23), (1, zi y1), (2, zr g2 30), (3, zi y3), (4, zi (y4 + 1))] i139_59 rfl rfl rfl (by omega) rfl ?_
      refine X.goto 14 i139_62 rfl rfl ?_
      exact ih (y4 + 1) m514 (B) (hJ515.up (by omega)) (by omega)  (by omega) (by omega)
-- WorkMeter$Registers.keepBill
theorem c139_1 {s : Nat × (Nat → Int32)} {S : zS} {m0 m : zM} {B : Int} {d : Nat} {Q : Option zV → zM → Prop} (g0 g2 : Nat) (a1 : Int) (hd : 13 ≤ d) (hJ : J S m0 B m) (hB : B + 1 ≤ 1000000000) (ha1 : 0 ≤ a1 ∧ a1 ≤ 2000000000) (hs0 : S.1 g0 23 3) (hQ : ∀ m', J S m0 (B + 1) m' → Q none m') : X (EE s) d 139 0 [(0, zr g0 23), (1, zi a1), (2, zr g2 30)] [] m Q := by
  refine X.aload_n 1 i139_0 rfl rfl rfl ?_
  refine X.getI 4 3 i139_1 rfl rfl (by decide) rfl rfl rfl ?_
  have h501 := r23_3 hJ g0
  refine X.bipush 6 i139_4 rfl rfl (by decide) ?_
  refine X.irem 7 i139_6 rfl rfl (by omega) ?_
  refine X.bipush 9 i139_7 rfl rfl (by decide) ?_
  refine X.imul 10 i139_9 rfl rfl (by omega) ?_
  refine X.istore_n 11 [(0, zr g0 23), (1, zi a1), (2, zr g2 30), (3, zi (((m g0 23 3) % 6) * 33))] i139_10 rfl rfl rfl ?_
  refine X.iconst 12 i139_11 rfl rfl (by decide) ?_
  refine X.istore 14 [(0, zr g0 23), (1, zi a1), (2, zr g2 30), (3, zi (((m g0 23 3) % 6) * 33)), (4, zi 0)] i139_12 rfl rfl rfl ?_
  refine l139_14_1 (s := s) (S := (zfr [] S)) (m0 := m) (d := d) g0 g2 a1 (((m g0 23 3) % 6) * 33) (BE := B + 0) (by omega) (by omega) (by omega) (by omega) (fun  m502 B503 hJ504 hBB503 => ?_) ((28 - 0 : Int).toNat + 1) 0 m (B) (hJ.ow.up (by omega)) (by omega)  (by omega) (by omega)
  have hJ505 := hJ.trans hJ504 zi_n
  have wt506 : m502 g0 23 3 = (m g0 23 3) := hJ504.eq rfl rfl
  refine X.aload_n 66 i139_65 rfl rfl rfl ?_
  refine X.getR 69 i139_66 rfl rfl (by decide) rfl rfl ?_
  refine X.iconst 70 i139_69 rfl rfl (by decide) ?_
  refine X.aload_n 71 i139_70 rfl rfl rfl ?_
  refine X.getR 74 i139_71 rfl rfl (by decide) rfl rfl ?_
  refine X.iload_n 75 i139_74 rfl rfl rfl ?_
  refine X.bipush 77 i139_75 rfl rfl (by decide) ?_
  refine X.iadd 78 i139_77 rfl rfl (by omega) ?_
  refine X.iconst 79 i139_78 rfl rfl (by decide) ?_
  refine X.cpL' 82 i139_79 rfl rfl (by omega) (Nat.le_of_ble_eq_true rfl) (by decide) (by decide) rfl rfl (by omega) (fun m507 hm507 => ?_)
  have hJ508 := J.cpyF hJ505 hm507 rfl rfl (fun _ => rfl)
  have wt509 : m507 g0 23 3 = (m g0 23 3) := Eq.trans (by rw [hm507]; exact z_cpy_o rfl) wt506
  clear wt506
  refine X.aload_n 83 i139_82 rfl rfl rfl ?_
  refine X.getR 86 i139_83 rfl rfl (by decide) rfl rfl ?_
  refine X.iload_n 87 i139_86 rfl rfl rfl ?_
  refine X.bipush 89 i139_87 rfl rfl (by decide) ?_
  refine X.iadd 90 i139_89 rfl rfl (by omega) ?_
  refine X.iload_n 91 i139_90 rfl rfl rfl ?_
  refine X.i2l 92 i139_91 rfl rfl ?_
  refine X.last' 93 i139_92 rfl rfl (by decide) rfl (by omega) (fun hrm510 m510 hm510 => ?_)
  have hJ511 := w26_0 hJ508 hm510 (by omega) hrm510
  have wt512 : m510 g0 23 3 = (m g0 23 3) := Eq.trans (by rw [hm510]; exact z_upd_o _ _ rfl) wt509
  clear wt509
  refine X.aload_n 94 i139_93 rfl rfl rfl ?_
  refine X.dup 95 i139_94 rfl rfl rfl ?_
  refine X.getI 98 3 i139_95 rfl rfl (by decide) rfl rfl rfl ?_
  have h513 := r23_3 hJ511 g0
  refine X.iconst 99 i139_98 rfl rfl (by decide) ?_
  refine X.iadd 100 i139_99 rfl rfl (by omega) ?_
  refine X.putI' 103 3 i139_100 rfl rfl (by decide) rfl rfl rfl (fun hrm514 m514 hm514 => ?_)
  have hJ515 := w23_3 (hJ511.up (B' := B503 + 1) (by omega)) hm514 (by omega) hs0
  have wt516 : m514 g0 23 3 = ((m510 g0 23 3) + 1) := by rw [hm514]; exact z_upd_same _ _ _ _ _
  refine X.retv i139_103 rfl t139 ?_
  exact hQ  m514  (hJ515.up (by omega)) 
theorem l11_6_2 {s : Nat × (Nat → Int32)} {S : zS} {m0 : zM} {d : Nat} {Q : Option zV → zM → Prop} (g0 : Nat) (y1 y4 : Int) (BE : Int) (hE : BE ≤ 1000000000) (hd : 13 ≤ d) (hy1 : (-1) ≤ y1 ∧ y1 ≤ (-1)) (hy4 : 4 ≤ y4 ∧ y4 ≤ 4)
    (K22 : ∀ (m' : zM) (B' : Int), J S m0 B' m' → B' ≤ BE → X (EE s) d 11 22 [] [] m' Q) :
    ∀ (n : Nat) (y3 : Int) (m : zM) (B : Int), J S m0 B m → B + 0 * (n : Int) ≤ BE → (0 ≤ y3 ∧ y3 ≤ 4) → 4 - y3 < (n : Int) → X (EE s) d 11 6 [(0, zr g0 31), (1, zl y1), (3, zi y3), (4, zi y4)] [] m Q := by
  intro n
  induction n with
  | zero =>
    intro y3 m B hJ hB  hy3 hn
    exfalso
    omega
  | succ n ih =>
    intro y3 m B hJ hB  hy3 hn
    refine X.iload_n 7 i11_6 rfl rfl rfl ?_
    refine X.iload 9 i11_7 rfl rfl rfl ?_
    refine X.icmpge 22 12 i11_9 rfl rfl rfl (fun h504 => ?_) (fun h504 => ?_)
    · refine X.cut [] i11_22 rfl ?_
      exact K22  m (B) (hJ.up (by omega)) (by omega)  
    · refine X.aload_n 13 i11_12 rfl rfl rfl ?_
      refine X.iload_n 14 i11_13 rfl rfl rfl ?_
      refine X.lload_n 15 i11_14 rfl rfl rfl ?_
      refine X.last' 16 i11_15 rfl rfl (by decide) rfl (by omega) (fun hrm505 m505 hm505 => ?_)
      have hJ506 := w31_0 hJ hm505 (by omega) hrm505
      refine X.iinc 19 [(0, zr g0 31), (1, zl y1), (3, zi (y3 + 1)), (4, zi y4)] i11_16 rfl rfl rfl (by omega) rfl ?_
      refine X.goto 6 i11_19 rfl rfl ?_
      exact ih (y3 + 1) m505 (B) (hJ506.up (by omega)) (by omega)  (by omega) (by omega)
-- java/util/Arrays.fill
theorem c11_2 {s : Nat × (Nat → Int32)} {S : zS} {m0 m : zM} {B : Int} {d : Nat} {Q : Option zV → zM → Prop} (g0 : Nat) (a1 : Int) (hd : 13 ≤ d) (hJ : J S m0 B m) (hB : B + 0 ≤ 1000000000) (ha1 : (-1) ≤ a1 ∧ a1 ≤ (-1)) (hQ : ∀ m', J S m0 (B) m' → Q none m') : X (EE s) d 11 0 [(0, zr g0 31), (1, zl a1)] [] m Q := by
  refine X.iconst 1 i11_0 rfl rfl (by decide) ?_
  refine X.istore_n 2 [(0, zr g0 31), (1, zl a1), (3, zi 0)] i11_1 rfl rfl rfl ?_
  refine X.aload_n 3 i11_2 rfl rfl rfl ?_
  refine X.alen 4 i11_3 rfl rfl (by decide) rfl ?_
  show X (EE s) d 11 4 [(0, zr g0 31), (1, zl a1), (3, zi 0)] [zi 4] m _
  refine X.istore 6 [(0, zr g0 31), (1, zl a1), (3, zi 0), (4, zi 4)] i11_4 rfl rfl rfl ?_
  refine l11_6_2 (s := s) (S := S) (m0 := m0) (d := d) g0 a1 4 (BE := B + 0) (by omega) (by omega) (by omega) (by omega) (fun  m501 B502 hJ503 hBB502 => ?_) ((4 - 0 : Int).toNat + 1) 0 m (B) (hJ.up (by omega)) (by omega)  (by omega) (by omega)
  refine X.retv i11_22 rfl t11 ?_
  exact hQ  m501  (hJ503.up (by omega)) 
theorem l5_5_4 {s : Nat × (Nat → Int32)} {S : zS} {m0 : zM} {d : Nat} {Q : Option zV → zM → Prop} (g0 : Nat) (y1 y3 : Int) (BE : Int) (hE : BE ≤ 1000000000) (hd : 13 ≤ d) (hy1 : (-1) ≤ y1 ∧ y1 ≤ (-1)) (hy3 : 4 ≤ y3 ∧ y3 ≤ 4)
    (K20 : ∀ (m' : zM) (B' : Int), J S m0 B' m' → B' ≤ BE → X (EE s) d 5 20 [] [] m' Q) :
    ∀ (n : Nat) (y2 : Int) (m : zM) (B : Int), J S m0 B m → B + 0 * (n : Int) ≤ BE → (0 ≤ y2 ∧ y2 ≤ 4) → 4 - y2 < (n : Int) → X (EE s) d 5 5 [(0, zr g0 32), (1, zi y1), (2, zi y2), (3, zi y3)] [] m Q := by
  intro n
  induction n with
  | zero =>
    intro y2 m B hJ hB  hy2 hn
    exfalso
    omega
  | succ n ih =>
    intro y2 m B hJ hB  hy2 hn
    refine X.iload_n 6 i5_5 rfl rfl rfl ?_
    refine X.iload_n 7 i5_6 rfl rfl rfl ?_
    refine X.icmpge 20 10 i5_7 rfl rfl rfl (fun h504 => ?_) (fun h504 => ?_)
    · refine X.cut [] i5_20 rfl ?_
      exact K20  m (B) (hJ.up (by omega)) (by omega)  
    · refine X.aload_n 11 i5_10 rfl rfl rfl ?_
      refine X.iload_n 12 i5_11 rfl rfl rfl ?_
      refine X.iload_n 13 i5_12 rfl rfl rfl ?_
      refine X.iast' 14 i5_13 rfl rfl (by decide) rfl (by omega) (fun hrm505 m505 hm505 => ?_)
      have hJ506 := w32_0 hJ hm505 (by omega) hrm505
      refine X.iinc 17 [(0, zr g0 32), (1, zi y1), (2, zi (y2 + 1)), (3, zi y3)] i5_14 rfl rfl rfl (by omega) rfl ?_
      refine X.goto 5 i5_17 rfl rfl ?_
      exact ih (y2 + 1) m505 (B) (hJ506.up (by omega)) (by omega)  (by omega) (by omega)
-- java/util/Arrays.fill
theorem c5_4 {s : Nat × (Nat → Int32)} {S : zS} {m0 m : zM} {B : Int} {d : Nat} {Q : Option zV → zM → Prop} (g0 : Nat) (a1 : Int) (hd : 13 ≤ d) (hJ : J S m0 B m) (hB : B + 0 ≤ 1000000000) (ha1 : (-1) ≤ a1 ∧ a1 ≤ (-1)) (hQ : ∀ m', J S m0 (B) m' → Q none m') : X (EE s) d 5 0 [(0, zr g0 32), (1, zi a1)] [] m Q := by
  refine X.iconst 1 i5_0 rfl rfl (by decide) ?_
  refine X.istore_n 2 [(0, zr g0 32), (1, zi a1), (2, zi 0)] i5_1 rfl rfl rfl ?_
  refine X.aload_n 3 i5_2 rfl rfl rfl ?_
  refine X.alen 4 i5_3 rfl rfl (by decide) rfl ?_
  show X (EE s) d 5 4 [(0, zr g0 32), (1, zi a1), (2, zi 0)] [zi 4] m _
  refine X.istore_n 5 [(0, zr g0 32), (1, zi a1), (2, zi 0), (3, zi 4)] i5_4 rfl rfl rfl ?_
  refine l5_5_4 (s := s) (S := S) (m0 := m0) (d := d) g0 a1 4 (BE := B + 0) (by omega) (by omega) (by omega) (by omega) (fun  m501 B502 hJ503 hBB502 => ?_) ((4 - 0 : Int).toNat + 1) 0 m (B) (hJ.up (by omega)) (by omega)  (by omega) (by omega)
  refine X.retv i5_20 rfl t5 ?_
  exact hQ  m501  (hJ503.up (by omega)) 
-- WorkMeter$Meter.makeBill
theorem c138_1 {s : Nat × (Nat → Int32)} {S : zS} {m0 m : zM} {B : Int} {d : Nat} {Q : Option zV → zM → Prop} (g0 : Nat) (hd : 15 ≤ d) (hJ : J S m0 B m) (hB : B + 2 ≤ 1000000000) (hs0 : S.1 g0 23 3) (hQ : ∀ m', J S m0 (B + 2) m' → Q none m') : X (EE s) d 138 0 [(0, zr g0 8)] [] m Q := by
  refine X.aload_n 1 i138_0 rfl rfl rfl ?_
  refine X.getR 4 i138_1 rfl rfl (by decide) rfl rfl ?_
  refine X.aload_n 5 i138_4 rfl rfl rfl ?_
  refine X.getI 8 9 i138_5 rfl rfl (by decide) rfl rfl rfl ?_
  have h501 := r8_9 hJ g0
  refine X.aload_n 9 i138_8 rfl rfl rfl ?_
  refine X.getR 12 i138_9 rfl rfl (by decide) rfl rfl ?_
  refine X.callv 15 [zi (m g0 8 9), zr g0 30] [] [(0, zr g0 23), (1, zi (m g0 8 9)), (2, zr g0 30)] i138_12 rfl (by decide) rfl rfl (by omega) rfl rfl (by decide) rfl t139 (Nat.le_of_ble_eq_true rfl) (Nat.le_of_ble_eq_true rfl) rfl ?_
  refine c139_1 (S := zfr [(g0, 23, 3)] S) (m0 := m) (B := B) g0 g0 (m g0 8 9) (by omega) (hJ.ow.up (by omega)) (by omega) (by omega) zm_z (fun m502 hJ503 => ?_)
  have hJ505 := hJ.trans hJ503 (zi_c hs0 zi_n)
  show X (EE s) d 138 15 [(0, zr g0 8)] [] m502 _
  refine X.aload_n 16 i138_15 rfl rfl rfl ?_
  refine X.getR 19 i138_16 rfl rfl (by decide) rfl rfl ?_
  refine X.callv 22 [] [] [(0, zr g0 30)] i138_19 rfl (by decide) rfl rfl (by omega) rfl rfl (by decide) rfl t10 (Nat.le_of_ble_eq_true rfl) (Nat.le_of_ble_eq_true rfl) rfl ?_
  refine X.aload_n 1 i10_0 rfl rfl rfl ?_
  refine X.getR 4 i10_1 rfl rfl (by decide) rfl rfl ?_
  refine X.ldc2 7 i10_4 rfl rfl (by decide) ?_
  refine X.calls 10 [zr g0 31, zl (-1)] [] [(0, zr g0 31), (1, zl (-1))] i10_7 (by decide) rfl rfl (by omega) rfl rfl t11 (Nat.le_of_ble_eq_true rfl) (Nat.le_of_ble_eq_true rfl) rfl ?_
  refine c11_2 (S := zfr [] S) (m0 := m502) (B := B + 1) g0 (-1) (by omega) (hJ505.ow.up (by omega)) (by omega) (by omega) (fun m506 hJ507 => ?_)
  have hJ509 := hJ505.trans hJ507 zi_n
  have wt510 : m506 g0 23 3 = (m502 g0 23 3) := hJ507.eq rfl rfl
  show X (EE s) (d - 1) 10 10 [(0, zr g0 30)] [] m506 _
  refine X.aload_n 11 i10_10 rfl rfl rfl ?_
  refine X.getR 14 i10_11 rfl rfl (by decide) rfl rfl ?_
  refine X.iconst 15 i10_14 rfl rfl (by decide) ?_
  refine X.calls 18 [zr g0 32, zi (-1)] [] [(0, zr g0 32), (1, zi (-1))] i10_15 (by decide) rfl rfl (by omega) rfl rfl t5 (Nat.le_of_ble_eq_true rfl) (Nat.le_of_ble_eq_true rfl) rfl ?_
  refine c5_4 (S := zfr [] S) (m0 := m506) (B := B + 1) g0 (-1) (by omega) (hJ509.ow.up (by omega)) (by omega) (by omega) (fun m511 hJ512 => ?_)
  have hJ514 := hJ509.trans hJ512 zi_n
  have wt515 : m511 g0 23 3 = (m502 g0 23 3) := Eq.trans (hJ512.eq rfl rfl) wt510
  clear wt510
  show X (EE s) (d - 1) 10 18 [(0, zr g0 30)] [] m511 _
  refine X.retv i10_18 rfl t10 ?_
  show X (EE s) d 138 22 [(0, zr g0 8)] [] m511 _
  refine X.aload_n 23 i138_22 rfl rfl rfl ?_
  refine X.bipush 25 i138_23 rfl rfl (by decide) ?_
  refine X.iconst 26 i138_25 rfl rfl (by decide) ?_
  refine X.callv 29 [zi 24, zi 0] [] [(0, zr g0 8), (1, zi 24), (2, zi 0)] i138_26 rfl (by decide) rfl rfl (by omega) rfl rfl (by decide) rfl t54 (Nat.le_of_ble_eq_true rfl) (Nat.le_of_ble_eq_true rfl) rfl ?_
  refine X.aload_n 1 i54_0 rfl rfl rfl ?_
  refine X.getR 4 i54_1 rfl rfl (by decide) rfl rfl ?_
  refine X.aload_n 5 i54_4 rfl rfl rfl ?_
  refine X.getI 8 9 i54_5 rfl rfl (by decide) rfl rfl rfl ?_
  have h516 := r8_9 hJ514 g0
  refine X.iload_n 9 i54_8 rfl rfl rfl ?_
  refine X.iload_n 10 i54_9 rfl rfl rfl ?_
  refine X.callv 13 [zi (m511 g0 8 9), zi 24, zi 0] [] [(0, zr g0 37), (1, zi (m511 g0 8 9)), (2, zi 24), (3, zi 0)] i54_10 rfl (by decide) rfl rfl (by omega) rfl rfl (by decide) rfl t55 (Nat.le_of_ble_eq_true rfl) (Nat.le_of_ble_eq_true rfl) rfl ?_
  refine X.aload_n 1 i55_0 rfl rfl rfl ?_
  refine X.getI 4 1 i55_1 rfl rfl (by decide) rfl rfl rfl ?_
  have h517 := r37_1 hJ514 g0
  refine X.bipush 6 i55_4 rfl rfl (by decide) ?_
  refine X.irem 7 i55_6 rfl rfl (by omega) ?_
  refine X.iconst 8 i55_7 rfl rfl (by decide) ?_
  refine X.imul 9 i55_8 rfl rfl (by omega) ?_
  refine X.istore 11 [(0, zr g0 37), (1, zi (m511 g0 8 9)), (2, zi 24), (3, zi 0), (4, zi (((m511 g0 37 1) % 40) * 3))] i55_9 rfl rfl rfl ?_
  refine X.aload_n 12 i55_11 rfl rfl rfl ?_
  refine X.getR 15 i55_12 rfl rfl (by decide) rfl rfl ?_
  refine X.iload 17 i55_15 rfl rfl rfl ?_
  refine X.iload_n 18 i55_17 rfl rfl rfl ?_
  refine X.iast' 19 i55_18 rfl rfl (by decide) rfl (by omega) (fun hrm518 m518 hm518 => ?_)
  have hJ519 := w38_0 hJ514 hm518 (by omega) hrm518
  have wt520 : m518 g0 23 3 = (m502 g0 23 3) := Eq.trans (by rw [hm518]; exact z_upd_o _ _ rfl) wt515
  clear wt515
  refine X.aload_n 20 i55_19 rfl rfl rfl ?_
  refine X.getR 23 i55_20 rfl rfl (by decide) rfl rfl ?_
  refine X.iload 25 i55_23 rfl rfl rfl ?_
  refine X.iconst 26 i55_25 rfl rfl (by decide) ?_
  refine X.iadd 27 i55_26 rfl rfl (by omega) ?_
  refine X.iload_n 28 i55_27 rfl rfl rfl ?_
  refine X.iast' 29 i55_28 rfl rfl (by decide) rfl (by omega) (fun hrm521 m521 hm521 => ?_)
  have hJ522 := w38_0 hJ519 hm521 (by omega) hrm521
  have wt523 : m521 g0 23 3 = (m502 g0 23 3) := Eq.trans (by rw [hm521]; exact z_upd_o _ _ rfl) wt520
  clear wt520
  refine X.aload_n 30 i55_29 rfl rfl rfl ?_
  refine X.getR 33 i55_30 rfl rfl (by decide) rfl rfl ?_
  refine X.iload 35 i55_33 rfl rfl rfl ?_
  refine X.iconst 36 i55_35 rfl rfl (by decide) ?_
  refine X.iadd 37 i55_36 rfl rfl (by omega) ?_
  refine X.iload_n 38 i55_37 rfl rfl rfl ?_
  refine X.iast' 39 i55_38 rfl rfl (by decide) rfl (by omega) (fun hrm524 m524 hm524 => ?_)
  have hJ525 := w38_0 hJ522 hm524 (by omega) hrm524
  have wt526 : m524 g0 23 3 = (m502 g0 23 3) := Eq.trans (by rw [hm524]; exact z_upd_o _ _ rfl) wt523
  clear wt523
  refine X.aload_n 40 i55_39 rfl rfl rfl ?_
  refine X.dup 41 i55_40 rfl rfl rfl ?_
  refine X.getI 44 1 i55_41 rfl rfl (by decide) rfl rfl rfl ?_
  have h527 := r37_1 hJ525 g0
  refine X.iconst 45 i55_44 rfl rfl (by decide) ?_
  refine X.iadd 46 i55_45 rfl rfl (by omega) ?_
  refine X.putI' 49 1 i55_46 rfl rfl (by decide) rfl rfl rfl (fun hrm528 m528 hm528 => ?_)
  have hJ529 := w37_1 (hJ525.up (B' := B + 2) (by omega)) hm528 (by omega)
  have wt530 : m528 g0 23 3 = (m502 g0 23 3) := Eq.trans (by rw [hm528]; exact z_upd_o _ _ rfl) wt526
  clear wt526
  refine X.retv i55_49 rfl t55 ?_
  show X (EE s) (d - 1) 54 13 [(0, zr g0 8), (1, zi 24), (2, zi 0)] [] m528 _
  refine X.retv i54_13 rfl t54 ?_
  show X (EE s) d 138 29 [(0, zr g0 8)] [] m528 _
  refine X.retv i138_29 rfl t138 ?_
  exact hQ  m528  (hJ529.up (by omega)) 
-- WorkMeter.bill
theorem c137_1 {s : Nat × (Nat → Int32)} {S : zS} {m0 m : zM} {B : Int} {d : Nat} {Q : Option zV → zM → Prop} (hd : 16 ≤ d) (hJ : J S m0 B m) (hB : B + 2 ≤ 1000000000) (hs0 : S.1 0 23 3) (hQ : ∀ (v : Int) m', (0 ≤ v ∧ v ≤ 1000000000) → J S m0 (B + 2) m' → Q (some (zi v)) m') : X (EE s) d 137 0 [(0, zr 4 40)] [] m Q := by
  refine X.aload_n 1 i137_0 rfl rfl rfl ?_
  refine X.getF 4 i137_1 rfl rfl (by decide) rfl rfl ?_
  refine X.callv 7 [] [] [(0, zr 0 8)] i137_4 rfl (by decide) rfl rfl (by omega) rfl rfl (by decide) rfl t138 (Nat.le_of_ble_eq_true rfl) (Nat.le_of_ble_eq_true rfl) rfl ?_
  refine c138_1 (S := zfr [(0, 23, 3)] S) (m0 := m) (B := B) 0  (by omega) (hJ.ow.up (by omega)) (by omega) zm_z (fun m501 hJ502 => ?_)
  have hJ504 := hJ.trans hJ502 (zi_c hs0 zi_n)
  show X (EE s) d 137 7 [(0, zr 4 40)] [] m501 _
  refine X.aload_n 8 i137_7 rfl rfl rfl ?_
  refine X.getF 11 i137_8 rfl rfl (by decide) rfl rfl ?_
  refine X.getR 14 i137_11 rfl rfl (by decide) rfl rfl ?_
  refine X.getI 17 3 i137_14 rfl rfl (by decide) rfl rfl rfl ?_
  have h505 := r23_3 hJ504 0
  refine X.reti i137_17 rfl t137 ?_
  exact hQ (m501 0 23 3) m501 (by first | trivial | omega) (hJ504.up (by omega)) 
theorem l286_104_1 {s : Nat × (Nat → Int32)} {S : zS} {m0 : zM} {d : Nat} {Q : Option zV → zM → Prop} (y1 : Int) (BE : Int) (hE : BE ≤ 1000000000) (hd : 13 ≤ d) (hy1 : 1172 ≤ y1 ∧ y1 ≤ 1442)
    (K135 : ∀ (m' : zM) (B' : Int), J S m0 B' m' → B' ≤ BE → X (EE s) d 286 135 [(0, zr 4 44), (1, zi y1)] [] m' Q) :
    ∀ (n : Nat) (y2 : Int) (m : zM) (B : Int), J S m0 B m → B + 0 * (n : Int) ≤ BE → (0 ≤ y2 ∧ y2 ≤ 35) → 35 - y2 < (n : Int) → X (EE s) d 286 104 [(0, zr 4 44), (1, zi y1), (2, zi y2)] [] m Q := by
  intro n
  induction n with
  | zero =>
    intro y2 m B hJ hB  hy2 hn
    exfalso
    omega
  | succ n ih =>
    intro y2 m B hJ hB  hy2 hn
    refine X.iload_n 105 i286_104 rfl rfl rfl ?_
    refine X.bipush 107 i286_105 rfl rfl (by decide) ?_
    refine X.icmpge 135 110 i286_107 rfl rfl rfl (fun h505 => ?_) (fun h505 => ?_)
    · refine X.cut [(0, zr 4 44), (1, zi y1)] i286_135 rfl ?_
      exact K135  m (B) (hJ.up (by omega)) (by omega)  
    · refine X.aload_n 111 i286_110 rfl rfl rfl ?_
      refine X.getF 114 i286_111 rfl rfl (by decide) rfl rfl ?_
      refine X.iload_n 115 i286_114 rfl rfl rfl ?_
      refine X.iconst 116 i286_115 rfl rfl (by decide) ?_
      refine X.iadd 117 i286_116 rfl rfl (by omega) ?_
      refine X.iload_n 118 i286_117 rfl rfl rfl ?_
      refine X.iadd 119 i286_118 rfl rfl (by omega) ?_
      refine X.aload_n 120 i286_119 rfl rfl rfl ?_
      refine X.getF 123 i286_120 rfl rfl (by decide) rfl rfl ?_
      refine X.bipush 125 i286_123 rfl rfl (by decide) ?_
      refine X.iload_n 126 i286_125 rfl rfl rfl ?_
      refine X.iadd 127 i286_126 rfl rfl (by omega) ?_
      refine X.lald 128 i286_127 rfl rfl (by decide) rfl (by omega) ?_
      refine X.last' 129 i286_128 rfl rfl (by decide) rfl (by omega) (fun hrm506 m506 hm506 => ?_)
      have hJ507 := w45_788 hJ hm506 (by omega) hrm506
      have wt508 : m506 4 45 18 = (m 4 45 18) := by rw [hm506]; exact z_upd_i _ _ _ _ (by omega)
      refine X.iinc 132 [(0, zr 4 44), (1, zi y1), (2, zi (y2 + 1))] i286_129 rfl rfl rfl (by omega) rfl ?_
      refine X.goto 104 i286_132 rfl rfl ?_
      exact ih (y2 + 1) m506 (B) (hJ507.up (by omega)) (by omega)  (by omega) (by omega)
theorem l286_137_1 {s : Nat × (Nat → Int32)} {S : zS} {m0 : zM} {d : Nat} {Q : Option zV → zM → Prop} (y1 : Int) (BE : Int) (hE : BE ≤ 1000000000) (hd : 13 ≤ d) (hy1 : 1172 ≤ y1 ∧ y1 ≤ 1442)
    (K192 : ∀ (m' : zM) (B' : Int), J S m0 B' m' → B' ≤ BE → X (EE s) d 286 192 [(0, zr 4 44)] [] m' Q) :
    ∀ (n : Nat) (y2 : Int) (m : zM) (B : Int), J S m0 B m → B + 0 * (n : Int) ≤ BE → (0 ≤ y2 ∧ y2 ≤ 4) → 4 - y2 < (n : Int) → X (EE s) d 286 137 [(0, zr 4 44), (1, zi y1), (2, zi y2)] [] m Q := by
  intro n
  induction n with
  | zero =>
    intro y2 m B hJ hB  hy2 hn
    exfalso
    omega
  | succ n ih =>
    intro y2 m B hJ hB  hy2 hn
    refine X.iload_n 138 i286_137 rfl rfl rfl ?_
    refine X.iconst 139 i286_138 rfl rfl (by decide) ?_
    refine X.icmpge 192 142 i286_139 rfl rfl rfl (fun h511 => ?_) (fun h511 => ?_)
    · refine X.cut [(0, zr 4 44)] i286_192 rfl ?_
      exact K192  m (B) (hJ.up (by omega)) (by omega)  
    · refine X.aload_n 143 i286_142 rfl rfl rfl ?_
      refine X.getF 146 i286_143 rfl rfl (by decide) rfl rfl ?_
      refine X.iload_n 147 i286_146 rfl rfl rfl ?_
      refine X.bipush 149 i286_147 rfl rfl (by decide) ?_
      refine X.iadd 150 i286_149 rfl rfl (by omega) ?_
      refine X.iload_n 151 i286_150 rfl rfl rfl ?_
      refine X.iadd 152 i286_151 rfl rfl (by omega) ?_
      refine X.aload_n 153 i286_152 rfl rfl rfl ?_
      refine X.getF 156 i286_153 rfl rfl (by decide) rfl rfl ?_
      refine X.bipush 158 i286_156 rfl rfl (by decide) ?_
      refine X.iload_n 159 i286_158 rfl rfl rfl ?_
      refine X.iadd 160 i286_159 rfl rfl (by omega) ?_
      refine X.lald 161 i286_160 rfl rfl (by decide) rfl (by omega) ?_
      refine X.last' 162 i286_161 rfl rfl (by decide) rfl (by omega) (fun hrm512 m512 hm512 => ?_)
      have hJ513 := w45_788 hJ hm512 (by omega) hrm512
      have wt514 : m512 4 45 18 = (m 4 45 18) := by rw [hm512]; exact z_upd_i _ _ _ _ (by omega)
      refine X.aload_n 163 i286_162 rfl rfl rfl ?_
      refine X.getF 166 i286_163 rfl rfl (by decide) rfl rfl ?_
      refine X.bipush 168 i286_166 rfl rfl (by decide) ?_
      refine X.iload_n 169 i286_168 rfl rfl rfl ?_
      refine X.iadd 170 i286_169 rfl rfl (by omega) ?_
      refine X.ldc2 173 i286_170 rfl rfl (by decide) ?_
      refine X.last' 174 i286_173 rfl rfl (by decide) rfl (by omega) (fun hrm515 m515 hm515 => ?_)
      have hJ516 := w45_19 hJ513 hm515 (by omega) hrm515
      have wt517 : m515 4 45 18 = (m 4 45 18) := Eq.trans (by rw [hm515]; exact z_upd_i _ _ _ _ (by omega)) wt514
      clear wt514
      refine X.aload_n 175 i286_174 rfl rfl rfl ?_
      refine X.getF 178 i286_175 rfl rfl (by decide) rfl rfl ?_
      refine X.bipush 180 i286_178 rfl rfl (by decide) ?_
      refine X.iload_n 181 i286_180 rfl rfl rfl ?_
      refine X.iadd 182 i286_181 rfl rfl (by omega) ?_
      refine X.ldc2 185 i286_182 rfl rfl (by decide) ?_
      refine X.last' 186 i286_185 rfl rfl (by decide) rfl (by omega) (fun hrm518 m518 hm518 => ?_)
      have hJ519 := w45_19 hJ516 hm518 (by omega) hrm518
      have wt520 : m518 4 45 18 = (m 4 45 18) := Eq.trans (by rw [hm518]; exact z_upd_i _ _ _ _ (by omega)) wt517
      clear wt517
      refine X.iinc 189 [(0, zr 4 44), (1, zi y1), (2, zi (y2 + 1))] i286_186 rfl rfl rfl (by omega) rfl ?_
      refine X.goto 137 i286_189 rfl rfl ?_
      exact ih (y2 + 1) m518 (B) (hJ519.up (by omega)) (by omega)  (by omega) (by omega)
theorem l286_17_1 {s : Nat × (Nat → Int32)} {S : zS} {m0 : zM} {d : Nat} {Q : Option zV → zM → Prop} (BE : Int) (hE : BE ≤ 1000000000) (hd : 13 ≤ d)
    (K53 : ∀ (m' : zM) (B' : Int), J S m0 B' m' → B' ≤ BE → X (EE s) d 286 53 [(0, zr 4 44)] [] m' Q) :
    ∀ (n : Nat) (y1 : Int) (m : zM) (B : Int), J S m0 B m → B + 0 * (n : Int) ≤ BE → (45 ≤ y1 ∧ y1 ≤ 315) → 315 - y1 < (n : Int) → X (EE s) d 286 17 [(0, zr 4 44), (1, zi y1)] [] m Q := by
  intro n
  induction n with
  | zero =>
    intro y1 m B hJ hB  hy1 hn
    exfalso
    omega
  | succ n ih =>
    intro y1 m B hJ hB  hy1 hn
    refine X.iload_n 18 i286_17 rfl rfl rfl ?_
    refine X.sipush 21 i286_18 rfl rfl (by decide) ?_
    refine X.icmpge 53 24 i286_21 rfl rfl rfl (fun h505 => ?_) (fun h505 => ?_)
    · refine X.cut [(0, zr 4 44)] i286_53 rfl ?_
      exact K53  m (B) (hJ.up (by omega)) (by omega)  
    · refine X.aload_n 25 i286_24 rfl rfl rfl ?_
      refine X.getF 28 i286_25 rfl rfl (by decide) rfl rfl ?_
      refine X.sipush 31 i286_28 rfl rfl (by decide) ?_
      refine X.iload_n 32 i286_31 rfl rfl rfl ?_
      refine X.iadd 33 i286_32 rfl rfl (by omega) ?_
      refine X.bipush 35 i286_33 rfl rfl (by decide) ?_
      refine X.isub 36 i286_35 rfl rfl (by omega) ?_
      refine X.aload_n 37 i286_36 rfl rfl rfl ?_
      refine X.getF 40 i286_37 rfl rfl (by decide) rfl rfl ?_
      refine X.sipush 43 i286_40 rfl rfl (by decide) ?_
      refine X.iload_n 44 i286_43 rfl rfl rfl ?_
      refine X.iadd 45 i286_44 rfl rfl (by omega) ?_
      refine X.lald 46 i286_45 rfl rfl (by decide) rfl (by omega) ?_
      refine X.last' 47 i286_46 rfl rfl (by decide) rfl (by omega) (fun hrm506 m506 hm506 => ?_)
      have hJ507 := w45_788 hJ hm506 (by omega) hrm506
      have wt508 : m506 4 45 18 = (m 4 45 18) := by rw [hm506]; exact z_upd_i _ _ _ _ (by omega)
      refine X.iinc 50 [(0, zr 4 44), (1, zi (y1 + 1))] i286_47 rfl rfl rfl (by omega) rfl ?_
      refine X.goto 17 i286_50 rfl rfl ?_
      exact ih (y1 + 1) m506 (B) (hJ507.up (by omega)) (by omega)  (by omega) (by omega)
-- WorkMeterModel.bill
theorem c286_1 {s : Nat × (Nat → Int32)} {S : zS} {m0 m : zM} {B : Int} {d : Nat} {Q : Option zV → zM → Prop} (hd : 14 ≤ d) (hJ : J S m0 B m) (hB : B + 2 ≤ 1000000000) (hs0 : S.1 4 45 18) (hQ : ∀ (v : Int) m', (0 ≤ v ∧ v ≤ 1000000000) → J S m0 (B + 2) m' → Q (some (zi v)) m') : X (EE s) d 286 0 [(0, zr 4 44)] [] m Q := by
  refine X.aload_n 1 i286_0 rfl rfl rfl ?_
  refine X.getF 4 i286_1 rfl rfl (by decide) rfl rfl ?_
  refine X.bipush 6 i286_4 rfl rfl (by decide) ?_
  refine X.lald 7 i286_6 rfl rfl (by decide) rfl (by omega) ?_
  have h501 := r45_18 hJ 4
  refine X.ldc2 10 i286_7 rfl rfl (by decide) ?_
  refine X.lcmp 11 i286_10 rfl rfl (fun z502 hz502 => ?_)
  refine X.iflt 53 14 i286_11 rfl rfl rfl (fun h503 => ?_) (fun h503 => ?_)
  · have h503c : (m 4 45 18) < 7 := by omega
    clear h503 hz502
    refine X.sipush 56 i286_53 rfl rfl (by decide) ?_
    refine X.bipush 58 i286_56 rfl rfl (by decide) ?_
    refine X.aload_n 59 i286_58 rfl rfl rfl ?_
    refine X.callv 62 [] [zi 45, zi 1172] [(0, zr 4 44)] i286_59 rfl (by decide) rfl rfl (by omega) rfl rfl (by decide) rfl t287 (Nat.le_of_ble_eq_true rfl) (Nat.le_of_ble_eq_true rfl) rfl ?_
    refine X.aload_n 1 i287_0 rfl rfl rfl ?_
    refine X.getF 4 i287_1 rfl rfl (by decide) rfl rfl ?_
    refine X.bipush 6 i287_4 rfl rfl (by decide) ?_
    refine X.lald 7 i287_6 rfl rfl (by decide) rfl (by omega) ?_
    refine X.ldc2 10 i287_7 rfl rfl (by decide) ?_
    refine X.lcmp 11 i287_10 rfl rfl (fun z504 hz504 => ?_)
    refine X.ifge 24 14 i287_11 rfl rfl rfl (fun h505 => (by exfalso; omega)) (fun h505 => ?_)
    have h505c : (m 4 45 18) < 7 := by omega
    clear h505 hz504
    refine X.aload_n 15 i287_14 rfl rfl rfl ?_
    refine X.getF 18 i287_15 rfl rfl (by decide) rfl rfl ?_
    refine X.bipush 20 i287_18 rfl rfl (by decide) ?_
    refine X.lald 21 i287_20 rfl rfl (by decide) rfl (by omega) ?_
    refine X.goto 27 i287_21 rfl rfl ?_
    refine X.cut [] i287_27 rfl ?_
    refine X.l2i 28 i287_27 rfl rfl (by omega) ?_
    refine X.reti i287_28 rfl t287 ?_
    show X (EE s) d 286 62 [(0, zr 4 44)] [zi (m 4 45 18), zi 45, zi 1172] m _
    refine X.bipush 64 i286_62 rfl rfl (by decide) ?_
    refine X.icmpge 74 67 i286_64 rfl rfl rfl (fun h506 => (by exfalso; omega)) (fun h506 => ?_)
    refine X.aload_n 68 i286_67 rfl rfl rfl ?_
    refine X.callv 71 [] [zi 45, zi 1172] [(0, zr 4 44)] i286_68 rfl (by decide) rfl rfl (by omega) rfl rfl (by decide) rfl t287 (Nat.le_of_ble_eq_true rfl) (Nat.le_of_ble_eq_true rfl) rfl ?_
    refine X.aload_n 1 i287_0 rfl rfl rfl ?_
    refine X.getF 4 i287_1 rfl rfl (by decide) rfl rfl ?_
    refine X.bipush 6 i287_4 rfl rfl (by decide) ?_
    refine X.lald 7 i287_6 rfl rfl (by decide) rfl (by omega) ?_
    refine X.ldc2 10 i287_7 rfl rfl (by decide) ?_
    refine X.lcmp 11 i287_10 rfl rfl (fun z507 hz507 => ?_)
    refine X.ifge 24 14 i287_11 rfl rfl rfl (fun h508 => (by exfalso; omega)) (fun h508 => ?_)
    have h508c : (m 4 45 18) < 7 := by omega
    clear h508 hz507
    refine X.aload_n 15 i287_14 rfl rfl rfl ?_
    refine X.getF 18 i287_15 rfl rfl (by decide) rfl rfl ?_
    refine X.bipush 20 i287_18 rfl rfl (by decide) ?_
    refine X.lald 21 i287_20 rfl rfl (by decide) rfl (by omega) ?_
    refine X.goto 27 i287_21 rfl rfl ?_
    refine X.cut [] i287_27 rfl ?_
    refine X.l2i 28 i287_27 rfl rfl (by omega) ?_
    refine X.reti i287_28 rfl t287 ?_
    show X (EE s) d 286 71 [(0, zr 4 44)] [zi (m 4 45 18), zi 45, zi 1172] m _
    refine X.goto 76 i286_71 rfl rfl ?_
    refine X.imul 77 i286_76 rfl rfl (by omega) ?_
    refine X.iadd 78 i286_77 rfl rfl (by omega) ?_
    refine X.istore_n 79 [(0, zr 4 44), (1, zi (1172 + (45 * (m 4 45 18))))] i286_78 rfl rfl rfl ?_
    refine X.aload_n 80 i286_79 rfl rfl rfl ?_
    refine X.getF 83 i286_80 rfl rfl (by decide) rfl rfl ?_
    refine X.bipush 85 i286_83 rfl rfl (by decide) ?_
    refine X.dup2 86 i286_85 rfl rfl ?_
    refine X.lald 87 i286_86 rfl rfl (by decide) rfl (by omega) ?_
    refine X.lconst (y := 1) 88 i286_87 rfl rfl rfl ?_
    refine X.ladd 89 i286_88 rfl rfl (by omega) ?_
    refine X.last' 90 i286_89 rfl rfl (by decide) rfl (by omega) (fun hrm509 m509 hm509 => ?_)
    have hJ510 := w45_18 (hJ.up (B' := B + 1) (by omega)) hm509 (by omega) hs0
    have wt511 : m509 4 45 18 = ((m 4 45 18) + 1) := by rw [hm509]; exact z_upd_same _ _ _ _ _
    refine X.aload_n 91 i286_90 rfl rfl rfl ?_
    refine X.getF 94 i286_91 rfl rfl (by decide) rfl rfl ?_
    refine X.iload_n 95 i286_94 rfl rfl rfl ?_
    refine X.aload_n 96 i286_95 rfl rfl rfl ?_
    refine X.getF 99 i286_96 rfl rfl (by decide) rfl rfl ?_
    refine X.iconst 100 i286_99 rfl rfl (by decide) ?_
    refine X.lald 101 i286_100 rfl rfl (by decide) rfl (by omega) ?_
    have h512 := r45_0 hJ510 4
    refine X.last' 102 i286_101 rfl rfl (by decide) rfl (by omega) (fun hrm513 m513 hm513 => ?_)
    have hJ514 := w45_788 hJ510 hm513 (by omega) hrm513
    have wt515 : m513 4 45 18 = ((m 4 45 18) + 1) := Eq.trans (by rw [hm513]; exact z_upd_i _ _ _ _ (by omega)) wt511
    clear wt511
    refine X.iconst 103 i286_102 rfl rfl (by decide) ?_
    refine X.istore_n 104 [(0, zr 4 44), (1, zi (1172 + (45 * (m 4 45 18)))), (2, zi 0)] i286_103 rfl rfl rfl ?_
    refine l286_104_1 (s := s) (S := (zfr [] S)) (m0 := m513) (d := d)  (1172 + (45 * (m 4 45 18))) (BE := B + 1) (by omega) (by omega) (by omega) (fun  m516 B517 hJ518 hBB517 => ?_) ((35 - 0 : Int).toNat + 1) 0 m513 (B + 1) (hJ514.ow.up (by omega)) (by omega)  (by omega) (by omega)
    have hJ519 := hJ514.trans hJ518 zi_n
    have wt520 : m516 4 45 18 = ((m 4 45 18) + 1) := Eq.trans (hJ518.eq rfl rfl) wt515
    refine X.iconst 136 i286_135 rfl rfl (by decide) ?_
    refine X.istore_n 137 [(0, zr 4 44), (1, zi (1172 + (45 * (m 4 45 18)))), (2, zi 0)] i286_136 rfl rfl rfl ?_
    refine l286_137_1 (s := s) (S := (zfr [] S)) (m0 := m516) (d := d)  (1172 + (45 * (m 4 45 18))) (BE := B517 + 0) (by omega) (by omega) (by omega) (fun  m521 B522 hJ523 hBB522 => ?_) ((4 - 0 : Int).toNat + 1) 0 m516 (B517) (hJ519.ow.up (by omega)) (by omega)  (by omega) (by omega)
    have hJ524 := hJ519.trans hJ523 zi_n
    have wt525 : m521 4 45 18 = ((m 4 45 18) + 1) := Eq.trans (hJ523.eq rfl rfl) wt520
    refine X.aload_n 193 i286_192 rfl rfl rfl ?_
    refine X.bipush 195 i286_193 rfl rfl (by decide) ?_
    refine X.lconst (y := 0) 196 i286_195 rfl rfl rfl ?_
    refine X.callv 199 [zi 24, zl 0] [] [(0, zr 4 44), (1, zi 24), (2, zl 0)] i286_196 rfl (by decide) rfl rfl (by omega) rfl rfl (by decide) rfl t223 (Nat.le_of_ble_eq_true rfl) (Nat.le_of_ble_eq_true rfl) rfl ?_
    refine c223_1 (S := zfr [] S) (m0 := m521) (B := B522)  24 0 (by omega) (hJ524.ow.up (by omega)) (by omega) (by omega) (by omega) (fun m526 hJ527 => ?_)
    have hJ529 := hJ524.trans hJ527 zi_n
    have wt530 : m526 4 45 18 = ((m 4 45 18) + 1) := Eq.trans (hJ527.eq rfl rfl) wt525
    clear wt525
    show X (EE s) d 286 199 [(0, zr 4 44)] [] m526 _
    refine X.aload_n 200 i286_199 rfl rfl rfl ?_
    refine X.getF 203 i286_200 rfl rfl (by decide) rfl rfl ?_
    refine X.bipush 205 i286_203 rfl rfl (by decide) ?_
    refine X.lald 206 i286_205 rfl rfl (by decide) rfl (by omega) ?_
    have h531 := r45_18 hJ529 4
    refine X.l2i 207 i286_206 rfl rfl (by omega) ?_
    refine X.reti i286_207 rfl t286 ?_
    exact hQ (m526 4 45 18) m526 (by first | trivial | omega) (hJ529.up (by omega)) 
  · have h503c : (m 4 45 18) ≥ 7 := by omega
    clear h503 hz502
    refine X.bipush 16 i286_14 rfl rfl (by decide) ?_
    refine X.istore_n 17 [(0, zr 4 44), (1, zi 45)] i286_16 rfl rfl rfl ?_
    refine l286_17_1 (s := s) (S := (zfr [] S)) (m0 := m) (d := d)   (BE := B + 0) (by omega) (by omega) (fun  m532 B533 hJ534 hBB533 => ?_) ((315 - 45 : Int).toNat + 1) 45 m (B) (hJ.ow.up (by omega)) (by omega)  (by omega) (by omega)
    have hJ535 := hJ.trans hJ534 zi_n
    have wt536 : m532 4 45 18 = (m 4 45 18) := hJ534.eq rfl rfl
    refine X.sipush 56 i286_53 rfl rfl (by decide) ?_
    refine X.bipush 58 i286_56 rfl rfl (by decide) ?_
    refine X.aload_n 59 i286_58 rfl rfl rfl ?_
    refine X.callv 62 [] [zi 45, zi 1172] [(0, zr 4 44)] i286_59 rfl (by decide) rfl rfl (by omega) rfl rfl (by decide) rfl t287 (Nat.le_of_ble_eq_true rfl) (Nat.le_of_ble_eq_true rfl) rfl ?_
    refine X.aload_n 1 i287_0 rfl rfl rfl ?_
    refine X.getF 4 i287_1 rfl rfl (by decide) rfl rfl ?_
    refine X.bipush 6 i287_4 rfl rfl (by decide) ?_
    refine X.lald 7 i287_6 rfl rfl (by decide) rfl (by omega) ?_
    have h537 := r45_18 hJ535 4
    refine X.ldc2 10 i287_7 rfl rfl (by decide) ?_
    refine X.lcmp 11 i287_10 rfl rfl (fun z538 hz538 => ?_)
    refine X.ifge 24 14 i287_11 rfl rfl rfl (fun h539 => ?_) (fun h539 => ?_)
    · have h539c : (m532 4 45 18) ≥ 7 := by omega
      clear h539 hz538
      refine X.cut [] i287_24 rfl ?_
      refine X.ldc2 27 i287_24 rfl rfl (by decide) ?_
      refine X.l2i 28 i287_27 rfl rfl (by omega) ?_
      refine X.reti i287_28 rfl t287 ?_
      show X (EE s) d 286 62 [(0, zr 4 44)] [zi 7, zi 45, zi 1172] m532 _
      refine X.bipush 64 i286_62 rfl rfl (by decide) ?_
      refine X.icmpge 74 67 i286_64 rfl rfl rfl (fun h540 => ?_) (fun h540 => (by exfalso; omega))
      refine X.bipush 76 i286_74 rfl rfl (by decide) ?_
      refine X.imul 77 i286_76 rfl rfl (by omega) ?_
      refine X.iadd 78 i286_77 rfl rfl (by omega) ?_
      refine X.istore_n 79 [(0, zr 4 44), (1, zi (1172 + (45 * 6)))] i286_78 rfl rfl rfl ?_
      refine X.aload_n 80 i286_79 rfl rfl rfl ?_
      refine X.getF 83 i286_80 rfl rfl (by decide) rfl rfl ?_
      refine X.bipush 85 i286_83 rfl rfl (by decide) ?_
      refine X.dup2 86 i286_85 rfl rfl ?_
      refine X.lald 87 i286_86 rfl rfl (by decide) rfl (by omega) ?_
      refine X.lconst (y := 1) 88 i286_87 rfl rfl rfl ?_
      refine X.ladd 89 i286_88 rfl rfl (by omega) ?_
      refine X.last' 90 i286_89 rfl rfl (by decide) rfl (by omega) (fun hrm541 m541 hm541 => ?_)
      have hJ542 := w45_18 (hJ535.up (B' := B533 + 1) (by omega)) hm541 (by omega) hs0
      have wt543 : m541 4 45 18 = ((m532 4 45 18) + 1) := by rw [hm541]; exact z_upd_same _ _ _ _ _
      refine X.aload_n 91 i286_90 rfl rfl rfl ?_
      refine X.getF 94 i286_91 rfl rfl (by decide) rfl rfl ?_
      refine X.iload_n 95 i286_94 rfl rfl rfl ?_
      refine X.aload_n 96 i286_95 rfl rfl rfl ?_
      refine X.getF 99 i286_96 rfl rfl (by decide) rfl rfl ?_
      refine X.iconst 100 i286_99 rfl rfl (by decide) ?_
      refine X.lald 101 i286_100 rfl rfl (by decide) rfl (by omega) ?_
      have h544 := r45_0 hJ542 4
      refine X.last' 102 i286_101 rfl rfl (by decide) rfl (by omega) (fun hrm545 m545 hm545 => ?_)
      have hJ546 := w45_788 hJ542 hm545 (by omega) hrm545
      have wt547 : m545 4 45 18 = ((m532 4 45 18) + 1) := Eq.trans (by rw [hm545]; exact z_upd_i _ _ _ _ (by omega)) wt543
      clear wt543
      refine X.iconst 103 i286_102 rfl rfl (by decide) ?_
      refine X.istore_n 104 [(0, zr 4 44), (1, zi (1172 + (45 * 6))), (2, zi 0)] i286_103 rfl rfl rfl ?_
      refine l286_104_1 (s := s) (S := (zfr [] S)) (m0 := m545) (d := d)  (1172 + (45 * 6)) (BE := B533 + 1) (by omega) (by omega) (by omega) (fun  m548 B549 hJ550 hBB549 => ?_) ((35 - 0 : Int).toNat + 1) 0 m545 (B533 + 1) (hJ546.ow.up (by omega)) (by omega)  (by omega) (by omega)
      have hJ551 := hJ546.trans hJ550 zi_n
      have wt552 : m548 4 45 18 = ((m532 4 45 18) + 1) := Eq.trans (hJ550.eq rfl rfl) wt547
      refine X.iconst 136 i286_135 rfl rfl (by decide) ?_
      refine X.istore_n 137 [(0, zr 4 44), (1, zi (1172 + (45 * 6))), (2, zi 0)] i286_136 rfl rfl rfl ?_
      refine l286_137_1 (s := s) (S := (zfr [] S)) (m0 := m548) (d := d)  (1172 + (45 * 6)) (BE := B549 + 0) (by omega) (by omega) (by omega) (fun  m553 B554 hJ555 hBB554 => ?_) ((4 - 0 : Int).toNat + 1) 0 m548 (B549) (hJ551.ow.up (by omega)) (by omega)  (by omega) (by omega)
      have hJ556 := hJ551.trans hJ555 zi_n
      have wt557 : m553 4 45 18 = ((m532 4 45 18) + 1) := Eq.trans (hJ555.eq rfl rfl) wt552
      refine X.aload_n 193 i286_192 rfl rfl rfl ?_
      refine X.bipush 195 i286_193 rfl rfl (by decide) ?_
      refine X.lconst (y := 0) 196 i286_195 rfl rfl rfl ?_
      refine X.callv 199 [zi 24, zl 0] [] [(0, zr 4 44), (1, zi 24), (2, zl 0)] i286_196 rfl (by decide) rfl rfl (by omega) rfl rfl (by decide) rfl t223 (Nat.le_of_ble_eq_true rfl) (Nat.le_of_ble_eq_true rfl) rfl ?_
      refine c223_1 (S := zfr [] S) (m0 := m553) (B := B554)  24 0 (by omega) (hJ556.ow.up (by omega)) (by omega) (by omega) (by omega) (fun m558 hJ559 => ?_)
      have hJ561 := hJ556.trans hJ559 zi_n
      have wt562 : m558 4 45 18 = ((m532 4 45 18) + 1) := Eq.trans (hJ559.eq rfl rfl) wt557
      clear wt557
      show X (EE s) d 286 199 [(0, zr 4 44)] [] m558 _
      refine X.aload_n 200 i286_199 rfl rfl rfl ?_
      refine X.getF 203 i286_200 rfl rfl (by decide) rfl rfl ?_
      refine X.bipush 205 i286_203 rfl rfl (by decide) ?_
      refine X.lald 206 i286_205 rfl rfl (by decide) rfl (by omega) ?_
      have h563 := r45_18 hJ561 4
      refine X.l2i 207 i286_206 rfl rfl (by omega) ?_
      refine X.reti i286_207 rfl t286 ?_
      exact hQ (m558 4 45 18) m558 (by first | trivial | omega) (hJ561.up (by omega)) 
    · have h539c : (m532 4 45 18) < 7 := by omega
      clear h539 hz538
      refine X.aload_n 15 i287_14 rfl rfl rfl ?_
      refine X.getF 18 i287_15 rfl rfl (by decide) rfl rfl ?_
      refine X.bipush 20 i287_18 rfl rfl (by decide) ?_
      refine X.lald 21 i287_20 rfl rfl (by decide) rfl (by omega) ?_
      refine X.goto 27 i287_21 rfl rfl ?_
      refine X.cut [] i287_27 rfl ?_
      refine X.l2i 28 i287_27 rfl rfl (by omega) ?_
      refine X.reti i287_28 rfl t287 ?_
      show X (EE s) d 286 62 [(0, zr 4 44)] [zi (m532 4 45 18), zi 45, zi 1172] m532 _
      refine X.bipush 64 i286_62 rfl rfl (by decide) ?_
      refine X.icmpge 74 67 i286_64 rfl rfl rfl (fun h564 => (by exfalso; omega)) (fun h564 => ?_)
      refine X.aload_n 68 i286_67 rfl rfl rfl ?_
      refine X.callv 71 [] [zi 45, zi 1172] [(0, zr 4 44)] i286_68 rfl (by decide) rfl rfl (by omega) rfl rfl (by decide) rfl t287 (Nat.le_of_ble_eq_true rfl) (Nat.le_of_ble_eq_true rfl) rfl ?_
      refine X.aload_n 1 i287_0 rfl rfl rfl ?_
      refine X.getF 4 i287_1 rfl rfl (by decide) rfl rfl ?_
      refine X.bipush 6 i287_4 rfl rfl (by decide) ?_
      refine X.lald 7 i287_6 rfl rfl (by decide) rfl (by omega) ?_
      refine X.ldc2 10 i287_7 rfl rfl (by decide) ?_
      refine X.lcmp 11 i287_10 rfl rfl (fun z565 hz565 => ?_)
      refine X.ifge 24 14 i287_11 rfl rfl rfl (fun h566 => (by exfalso; omega)) (fun h566 => ?_)
      have h566c : (m532 4 45 18) < 7 := by omega
      clear h566 hz565
      refine X.aload_n 15 i287_14 rfl rfl rfl ?_
      refine X.getF 18 i287_15 rfl rfl (by decide) rfl rfl ?_
      refine X.bipush 20 i287_18 rfl rfl (by decide) ?_
      refine X.lald 21 i287_20 rfl rfl (by decide) rfl (by omega) ?_
      refine X.goto 27 i287_21 rfl rfl ?_
      refine X.cut [] i287_27 rfl ?_
      refine X.l2i 28 i287_27 rfl rfl (by omega) ?_
      refine X.reti i287_28 rfl t287 ?_
      show X (EE s) d 286 71 [(0, zr 4 44)] [zi (m532 4 45 18), zi 45, zi 1172] m532 _
      refine X.goto 76 i286_71 rfl rfl ?_
      refine X.imul 77 i286_76 rfl rfl (by omega) ?_
      refine X.iadd 78 i286_77 rfl rfl (by omega) ?_
      refine X.istore_n 79 [(0, zr 4 44), (1, zi (1172 + (45 * (m532 4 45 18))))] i286_78 rfl rfl rfl ?_
      refine X.aload_n 80 i286_79 rfl rfl rfl ?_
      refine X.getF 83 i286_80 rfl rfl (by decide) rfl rfl ?_
      refine X.bipush 85 i286_83 rfl rfl (by decide) ?_
      refine X.dup2 86 i286_85 rfl rfl ?_
      refine X.lald 87 i286_86 rfl rfl (by decide) rfl (by omega) ?_
      refine X.lconst (y := 1) 88 i286_87 rfl rfl rfl ?_
      refine X.ladd 89 i286_88 rfl rfl (by omega) ?_
      refine X.last' 90 i286_89 rfl rfl (by decide) rfl (by omega) (fun hrm567 m567 hm567 => ?_)
      have hJ568 := w45_18 (hJ535.up (B' := B533 + 1) (by omega)) hm567 (by omega) hs0
      have wt569 : m567 4 45 18 = ((m532 4 45 18) + 1) := by rw [hm567]; exact z_upd_same _ _ _ _ _
      refine X.aload_n 91 i286_90 rfl rfl rfl ?_
      refine X.getF 94 i286_91 rfl rfl (by decide) rfl rfl ?_
      refine X.iload_n 95 i286_94 rfl rfl rfl ?_
      refine X.aload_n 96 i286_95 rfl rfl rfl ?_
      refine X.getF 99 i286_96 rfl rfl (by decide) rfl rfl ?_
      refine X.iconst 100 i286_99 rfl rfl (by decide) ?_
      refine X.lald 101 i286_100 rfl rfl (by decide) rfl (by omega) ?_
      have h570 := r45_0 hJ568 4
      refine X.last' 102 i286_101 rfl rfl (by decide) rfl (by omega) (fun hrm571 m571 hm571 => ?_)
      have hJ572 := w45_788 hJ568 hm571 (by omega) hrm571
      have wt573 : m571 4 45 18 = ((m532 4 45 18) + 1) := Eq.trans (by rw [hm571]; exact z_upd_i _ _ _ _ (by omega)) wt569
      clear wt569
      refine X.iconst 103 i286_102 rfl rfl (by decide) ?_
      refine X.istore_n 104 [(0, zr 4 44), (1, zi (1172 + (45 * (m532 4 45 18)))), (2, zi 0)] i286_103 rfl rfl rfl ?_
      refine l286_104_1 (s := s) (S := (zfr [] S)) (m0 := m571) (d := d)  (1172 + (45 * (m532 4 45 18))) (BE := B533 + 1) (by omega) (by omega) (by omega) (fun  m574 B575 hJ576 hBB575 => ?_) ((35 - 0 : Int).toNat + 1) 0 m571 (B533 + 1) (hJ572.ow.up (by omega)) (by omega)  (by omega) (by omega)
      have hJ577 := hJ572.trans hJ576 zi_n
      have wt578 : m574 4 45 18 = ((m532 4 45 18) + 1) := Eq.trans (hJ576.eq rfl rfl) wt573
      refine X.iconst 136 i286_135 rfl rfl (by decide) ?_
      refine X.istore_n 137 [(0, zr 4 44), (1, zi (1172 + (45 * (m532 4 45 18)))), (2, zi 0)] i286_136 rfl rfl rfl ?_
      refine l286_137_1 (s := s) (S := (zfr [] S)) (m0 := m574) (d := d)  (1172 + (45 * (m532 4 45 18))) (BE := B575 + 0) (by omega) (by omega) (by omega) (fun  m579 B580 hJ581 hBB580 => ?_) ((4 - 0 : Int).toNat + 1) 0 m574 (B575) (hJ577.ow.up (by omega)) (by omega)  (by omega) (by omega)
      have hJ582 := hJ577.trans hJ581 zi_n
      have wt583 : m579 4 45 18 = ((m532 4 45 18) + 1) := Eq.trans (hJ581.eq rfl rfl) wt578
      refine X.aload_n 193 i286_192 rfl rfl rfl ?_
      refine X.bipush 195 i286_193 rfl rfl (by decide) ?_
      refine X.lconst (y := 0) 196 i286_195 rfl rfl rfl ?_
      refine X.callv 199 [zi 24, zl 0] [] [(0, zr 4 44), (1, zi 24), (2, zl 0)] i286_196 rfl (by decide) rfl rfl (by omega) rfl rfl (by decide) rfl t223 (Nat.le_of_ble_eq_true rfl) (Nat.le_of_ble_eq_true rfl) rfl ?_
      refine c223_1 (S := zfr [] S) (m0 := m579) (B := B580)  24 0 (by omega) (hJ582.ow.up (by omega)) (by omega) (by omega) (by omega) (fun m584 hJ585 => ?_)
      have hJ587 := hJ582.trans hJ585 zi_n
      have wt588 : m584 4 45 18 = ((m532 4 45 18) + 1) := Eq.trans (hJ585.eq rfl rfl) wt583
      clear wt583
      show X (EE s) d 286 199 [(0, zr 4 44)] [] m584 _
      refine X.aload_n 200 i286_199 rfl rfl rfl ?_
      refine X.getF 203 i286_200 rfl rfl (by decide) rfl rfl ?_
      refine X.bipush 205 i286_203 rfl rfl (by decide) ?_
      refine X.lald 206 i286_205 rfl rfl (by decide) rfl (by omega) ?_
      have h589 := r45_18 hJ587 4
      refine X.l2i 207 i286_206 rfl rfl (by omega) ?_
      refine X.reti i286_207 rfl t286 ?_
      exact hQ (m584 4 45 18) m584 (by first | trivial | omega) (hJ587.up (by omega)) 
-- WorkMeter$Wave.apparentOf
theorem c23_2 {s : Nat × (Nat → Int32)} {S : zS} {m0 m : zM} {B : Int} {d : Nat} {Q : Option zV → zM → Prop} (g0 : Nat) (a1 : Int) (hd : 14 ≤ d) (hJ : J S m0 B m) (hB : B + 0 ≤ 1000000000) (ha1 : 0 ≤ a1 ∧ a1 ≤ 2) (hQ : ∀ (v : Int), (True) → Q (some (zl v)) m) : X (EE s) d 23 0 [(0, zr g0 19), (1, zi a1)] [] m Q := by
  refine X.aload_n 1 i23_0 rfl rfl rfl ?_
  refine X.getR 4 i23_1 rfl rfl (by decide) rfl rfl ?_
  refine X.iconst 5 i23_4 rfl rfl (by decide) ?_
  refine X.iload_n 6 i23_5 rfl rfl rfl ?_
  refine X.iadd 7 i23_6 rfl rfl (by omega) ?_
  refine X.lald 8 i23_7 rfl rfl (by decide) rfl (by omega) ?_
  refine X.lstore_n 9 [(0, zr g0 19), (1, zi a1), (2, zl (m g0 22 (0 + a1)))] i23_8 rfl rfl rfl ?_
  refine X.aload_n 10 i23_9 rfl rfl rfl ?_
  refine X.getR 13 i23_10 rfl rfl (by decide) rfl rfl ?_
  refine X.iconst 14 i23_13 rfl rfl (by decide) ?_
  refine X.iload_n 15 i23_14 rfl rfl rfl ?_
  refine X.iadd 16 i23_15 rfl rfl (by omega) ?_
  refine X.lald 17 i23_16 rfl rfl (by decide) rfl (by omega) ?_
  refine X.lstore 19 [(0, zr g0 19), (1, zi a1), (2, zl (m g0 22 (0 + a1))), (4, zl (m g0 22 (4 + a1)))] i23_17 rfl rfl rfl ?_
  refine X.lload_n 20 i23_19 rfl rfl rfl ?_
  refine X.lload_n 21 i23_20 rfl rfl rfl ?_
  refine X.llF 22 .lmul (fun x y => x * y) i23_21 rfl rfl rfl (fun _ _ => rfl) (fun z501 hz501 => ?_)
  refine X.lload 24 i23_22 rfl rfl rfl ?_
  refine X.lload 26 i23_24 rfl rfl rfl ?_
  refine X.llF 27 .lmul (fun x y => x * y) i23_26 rfl rfl rfl (fun _ _ => rfl) (fun z502 hz502 => ?_)
  refine X.llF 28 .ladd (fun x y => x + y) i23_27 rfl rfl rfl (fun _ _ => rfl) (fun z503 hz503 => ?_)
  refine X.calls 31 [zl z503] [] [(0, zl z503)] i23_28 (by decide) rfl rfl (by omega) rfl rfl t24 (Nat.le_of_ble_eq_true rfl) (Nat.le_of_ble_eq_true rfl) rfl ?_
  refine c24_1 (B := B)  z503 (by omega) (hJ.up (by omega)) (by omega)  (fun v506 hv506 => ?_)
  show X (EE s) d 23 31 [(0, zr g0 19), (1, zi a1), (2, zl (m g0 22 (0 + a1))), (4, zl (m g0 22 (4 + a1)))] [zl v506] m _
  refine X.retl i23_31 rfl t23 ?_
  exact hQ v506 (by first | trivial | omega) 
theorem l142_5_1 {s : Nat × (Nat → Int32)} {S : zS} {m0 m : zM} {B : Int} {d : Nat} {Q : Option zV → zM → Prop} (g0 : Nat) (y1 y2 : Int) (hd : 13 ≤ d) (hJ : J S m0 B m) (hB9 : B ≤ 1000000000) (hy1 : 2 ≤ y1 ∧ y1 ≤ 2) (hy2 : 0 ≤ y2 ∧ y2 ≤ 2)
    (K47 : ∀ (x3 : Int) , (0 ≤ x3) → X (EE s) d 142 47 [(0, zr g0 19), (3, zl x3)] [] m Q) :
    ∀ (n : Nat) (y3 y5 : Int) , (0 ≤ y3) → (0 ≤ y5 ∧ y5 ≤ 3) → 3 - y5 < (n : Int) → X (EE s) d 142 5 [(0, zr g0 19), (1, zi y1), (2, zi y2), (3, zl y3), (5, zi y5)] [] m Q := by
  intro n
  induction n with
  | zero =>
    intro y3 y5 hy3 hy5 hn
    exfalso
    omega
  | succ n ih =>
    intro y3 y5 hy3 hy5 hn
    refine X.iload 7 i142_5 rfl rfl rfl ?_
    refine X.aload_n 8 i142_7 rfl rfl rfl ?_
    refine X.getI 11 3 i142_8 rfl rfl (by decide) rfl rfl rfl ?_
    have h510 := r19_3 hJ g0
    refine X.icmpge 47 14 i142_11 rfl rfl rfl (fun h511 => ?_) (fun h511 => ?_)
    · refine X.cut [(0, zr g0 19), (3, zl y3)] i142_47 rfl ?_
      exact K47 y3 (by first | trivial | omega)
    · refine X.iload_n 15 i142_14 rfl rfl rfl ?_
      refine X.iconst 16 i142_15 rfl rfl (by decide) ?_
      refine X.icmpeq 25 19 i142_16 rfl rfl rfl (fun h512 => (by exfalso; omega)) (fun h512 => ?_)
      refine X.iload_n 20 i142_19 rfl rfl rfl ?_
      refine X.iload 22 i142_20 rfl rfl rfl ?_
      refine X.icmpne 41 25 i142_22 rfl rfl rfl (fun h513 => ?_) (fun h513 => ?_)
      · refine X.iinc 44 [(0, zr g0 19), (1, zi y1), (2, zi y2), (3, zl y3), (5, zi (y5 + 1))] i142_41 rfl rfl rfl (by omega) rfl ?_
        refine X.goto 5 i142_44 rfl rfl ?_
        exact ih y3 (y5 + 1) (by omega) (by omega) (by omega)
      · refine X.lload_n 26 i142_25 rfl rfl rfl ?_
        refine X.aload_n 27 i142_26 rfl rfl rfl ?_
        refine X.getR 30 i142_27 rfl rfl (by decide) rfl rfl ?_
        refine X.iload_n 31 i142_30 rfl rfl rfl ?_
        refine X.iconst 32 i142_31 rfl rfl (by decide) ?_
        refine X.imul 33 i142_32 rfl rfl (by omega) ?_
        refine X.iload 35 i142_33 rfl rfl rfl ?_
        refine X.iadd 36 i142_35 rfl rfl (by omega) ?_
        refine X.lald 37 i142_36 rfl rfl (by decide) rfl (by omega) ?_
        refine X.maxL 40 i142_37 rfl rfl (by omega) (Nat.le_of_ble_eq_true rfl) ?_
        refine X.lstore_n 41 [(0, zr g0 19), (1, zi y1), (2, zi y2), (3, zl (max y3 (m g0 22 ((y1 * 4) + y5)))), (5, zi y5)] i142_40 rfl rfl rfl ?_
        refine X.iinc 44 [(0, zr g0 19), (1, zi y1), (2, zi y2), (3, zl (max y3 (m g0 22 ((y1 * 4) + y5)))), (5, zi (y5 + 1))] i142_41 rfl rfl rfl (by omega) rfl ?_
        refine X.goto 5 i142_44 rfl rfl ?_
        exact ih (max y3 (m g0 22 ((y1 * 4) + y5))) (y5 + 1) (by omega) (by omega) (by omega)
-- WorkMeter$Wave.rootMean
theorem c142_1 {s : Nat × (Nat → Int32)} {S : zS} {m0 m : zM} {B : Int} {d : Nat} {Q : Option zV → zM → Prop} (g0 : Nat) (a1 a2 : Int) (hd : 14 ≤ d) (hJ : J S m0 B m) (hB : B + 0 ≤ 1000000000) (ha1 : 2 ≤ a1 ∧ a1 ≤ 2) (ha2 : 0 ≤ a2 ∧ a2 ≤ 2) (hQ : ∀ (v : Int), (True) → Q (some (zl v)) m) : X (EE s) d 142 0 [(0, zr g0 19), (1, zi a1), (2, zi a2)] [] m Q := by
  refine X.lconst (y := 0) 1 i142_0 rfl rfl rfl ?_
  refine X.lstore_n 2 [(0, zr g0 19), (1, zi a1), (2, zi a2), (3, zl 0)] i142_1 rfl rfl rfl ?_
  refine X.iconst 3 i142_2 rfl rfl (by decide) ?_
  refine X.istore 5 [(0, zr g0 19), (1, zi a1), (2, zi a2), (3, zl 0), (5, zi 0)] i142_3 rfl rfl rfl ?_
  refine l142_5_1 (s := s) (S := S) (m0 := m0) (m := m) (B := B) (d := d) g0 a1 a2 (by omega) (hJ.up (by omega)) (by omega) (by omega) (by omega) (fun y501 hby501 => ?_) ((3 - 0 : Int).toNat + 1) 0 0 (by omega) (by omega) (by omega)
  refine X.lload_n 48 i142_47 rfl rfl rfl ?_
  refine X.iconst 49 i142_48 rfl rfl (by decide) ?_
  refine X.aload_n 50 i142_49 rfl rfl rfl ?_
  refine X.getI 53 4 i142_50 rfl rfl (by decide) rfl rfl rfl ?_
  have h505 := r19_4 hJ g0
  refine X.maxI 56 i142_53 rfl rfl (by omega) (Nat.le_of_ble_eq_true rfl) ?_
  refine X.i2l 57 i142_56 rfl rfl ?_
  refine X.ldivF 58 i142_57 rfl rfl (by omega) (fun z506 => ?_)
  refine X.calls 61 [zl z506] [] [(0, zl z506)] i142_58 (by decide) rfl rfl (by omega) rfl rfl t24 (Nat.le_of_ble_eq_true rfl) (Nat.le_of_ble_eq_true rfl) rfl ?_
  refine c24_1 (B := B)  z506 (by omega) (hJ.up (by omega)) (by omega)  (fun v509 hv509 => ?_)
  show X (EE s) d 142 61 [(0, zr g0 19), (3, zl y501)] [zl v509] m _
  refine X.retl i142_61 rfl t142 ?_
  exact hQ v509 (by first | trivial | omega) 
theorem l142_5_2 {s : Nat × (Nat → Int32)} {S : zS} {m0 m : zM} {B : Int} {d : Nat} {Q : Option zV → zM → Prop} (g0 : Nat) (y1 y2 : Int) (hd : 13 ≤ d) (hJ : J S m0 B m) (hB9 : B ≤ 1000000000) (hy1 : 3 ≤ y1 ∧ y1 ≤ 3) (hy2 : 0 ≤ y2 ∧ y2 ≤ 2)
    (K47 : ∀ (x3 : Int) , (0 ≤ x3) → X (EE s) d 142 47 [(0, zr g0 19), (3, zl x3)] [] m Q) :
    ∀ (n : Nat) (y3 y5 : Int) , (0 ≤ y3) → (0 ≤ y5 ∧ y5 ≤ 3) → 3 - y5 < (n : Int) → X (EE s) d 142 5 [(0, zr g0 19), (1, zi y1), (2, zi y2), (3, zl y3), (5, zi y5)] [] m Q := by
  intro n
  induction n with
  | zero =>
    intro y3 y5 hy3 hy5 hn
    exfalso
    omega
  | succ n ih =>
    intro y3 y5 hy3 hy5 hn
    refine X.iload 7 i142_5 rfl rfl rfl ?_
    refine X.aload_n 8 i142_7 rfl rfl rfl ?_
    refine X.getI 11 3 i142_8 rfl rfl (by decide) rfl rfl rfl ?_
    have h510 := r19_3 hJ g0
    refine X.icmpge 47 14 i142_11 rfl rfl rfl (fun h511 => ?_) (fun h511 => ?_)
    · refine X.cut [(0, zr g0 19), (3, zl y3)] i142_47 rfl ?_
      exact K47 y3 (by first | trivial | omega)
    · refine X.iload_n 15 i142_14 rfl rfl rfl ?_
      refine X.iconst 16 i142_15 rfl rfl (by decide) ?_
      refine X.icmpeq 25 19 i142_16 rfl rfl rfl (fun h512 => (by exfalso; omega)) (fun h512 => ?_)
      refine X.iload_n 20 i142_19 rfl rfl rfl ?_
      refine X.iload 22 i142_20 rfl rfl rfl ?_
      refine X.icmpne 41 25 i142_22 rfl rfl rfl (fun h513 => ?_) (fun h513 => ?_)
      · refine X.iinc 44 [(0, zr g0 19), (1, zi y1), (2, zi y2), (3, zl y3), (5, zi (y5 + 1))] i142_41 rfl rfl rfl (by omega) rfl ?_
        refine X.goto 5 i142_44 rfl rfl ?_
        exact ih y3 (y5 + 1) (by omega) (by omega) (by omega)
      · refine X.lload_n 26 i142_25 rfl rfl rfl ?_
        refine X.aload_n 27 i142_26 rfl rfl rfl ?_
        refine X.getR 30 i142_27 rfl rfl (by decide) rfl rfl ?_
        refine X.iload_n 31 i142_30 rfl rfl rfl ?_
        refine X.iconst 32 i142_31 rfl rfl (by decide) ?_
        refine X.imul 33 i142_32 rfl rfl (by omega) ?_
        refine X.iload 35 i142_33 rfl rfl rfl ?_
        refine X.iadd 36 i142_35 rfl rfl (by omega) ?_
        refine X.lald 37 i142_36 rfl rfl (by decide) rfl (by omega) ?_
        refine X.maxL 40 i142_37 rfl rfl (by omega) (Nat.le_of_ble_eq_true rfl) ?_
        refine X.lstore_n 41 [(0, zr g0 19), (1, zi y1), (2, zi y2), (3, zl (max y3 (m g0 22 ((y1 * 4) + y5)))), (5, zi y5)] i142_40 rfl rfl rfl ?_
        refine X.iinc 44 [(0, zr g0 19), (1, zi y1), (2, zi y2), (3, zl (max y3 (m g0 22 ((y1 * 4) + y5)))), (5, zi (y5 + 1))] i142_41 rfl rfl rfl (by omega) rfl ?_
        refine X.goto 5 i142_44 rfl rfl ?_
        exact ih (max y3 (m g0 22 ((y1 * 4) + y5))) (y5 + 1) (by omega) (by omega) (by omega)
-- WorkMeter$Wave.rootMean
theorem c142_2 {s : Nat × (Nat → Int32)} {S : zS} {m0 m : zM} {B : Int} {d : Nat} {Q : Option zV → zM → Prop} (g0 : Nat) (a1 a2 : Int) (hd : 14 ≤ d) (hJ : J S m0 B m) (hB : B + 0 ≤ 1000000000) (ha1 : 3 ≤ a1 ∧ a1 ≤ 3) (ha2 : 0 ≤ a2 ∧ a2 ≤ 2) (hQ : ∀ (v : Int), (True) → Q (some (zl v)) m) : X (EE s) d 142 0 [(0, zr g0 19), (1, zi a1), (2, zi a2)] [] m Q := by
  refine X.lconst (y := 0) 1 i142_0 rfl rfl rfl ?_
  refine X.lstore_n 2 [(0, zr g0 19), (1, zi a1), (2, zi a2), (3, zl 0)] i142_1 rfl rfl rfl ?_
  refine X.iconst 3 i142_2 rfl rfl (by decide) ?_
  refine X.istore 5 [(0, zr g0 19), (1, zi a1), (2, zi a2), (3, zl 0), (5, zi 0)] i142_3 rfl rfl rfl ?_
  refine l142_5_2 (s := s) (S := S) (m0 := m0) (m := m) (B := B) (d := d) g0 a1 a2 (by omega) (hJ.up (by omega)) (by omega) (by omega) (by omega) (fun y501 hby501 => ?_) ((3 - 0 : Int).toNat + 1) 0 0 (by omega) (by omega) (by omega)
  refine X.lload_n 48 i142_47 rfl rfl rfl ?_
  refine X.iconst 49 i142_48 rfl rfl (by decide) ?_
  refine X.aload_n 50 i142_49 rfl rfl rfl ?_
  refine X.getI 53 4 i142_50 rfl rfl (by decide) rfl rfl rfl ?_
  have h505 := r19_4 hJ g0
  refine X.maxI 56 i142_53 rfl rfl (by omega) (Nat.le_of_ble_eq_true rfl) ?_
  refine X.i2l 57 i142_56 rfl rfl ?_
  refine X.ldivF 58 i142_57 rfl rfl (by omega) (fun z506 => ?_)
  refine X.calls 61 [zl z506] [] [(0, zl z506)] i142_58 (by decide) rfl rfl (by omega) rfl rfl t24 (Nat.le_of_ble_eq_true rfl) (Nat.le_of_ble_eq_true rfl) rfl ?_
  refine c24_1 (B := B)  z506 (by omega) (hJ.up (by omega)) (by omega)  (fun v509 hv509 => ?_)
  show X (EE s) d 142 61 [(0, zr g0 19), (3, zl y501)] [zl v509] m _
  refine X.retl i142_61 rfl t142 ?_
  exact hQ v509 (by first | trivial | omega) 
theorem l142_5_3 {s : Nat × (Nat → Int32)} {S : zS} {m0 m : zM} {B : Int} {d : Nat} {Q : Option zV → zM → Prop} (g0 : Nat) (y1 y2 : Int) (hd : 13 ≤ d) (hJ : J S m0 B m) (hB9 : B ≤ 1000000000) (hy1 : 2 ≤ y1 ∧ y1 ≤ 2) (hy2 : (-1) ≤ y2 ∧ y2 ≤ (-1))
    (K47 : ∀ (x3 : Int) , (0 ≤ x3) → X (EE s) d 142 47 [(0, zr g0 19), (3, zl x3)] [] m Q) :
    ∀ (n : Nat) (y3 y5 : Int) , (0 ≤ y3) → (0 ≤ y5 ∧ y5 ≤ 3) → 3 - y5 < (n : Int) → X (EE s) d 142 5 [(0, zr g0 19), (1, zi y1), (2, zi y2), (3, zl y3), (5, zi y5)] [] m Q := by
  intro n
  induction n with
  | zero =>
    intro y3 y5 hy3 hy5 hn
    exfalso
    omega
  | succ n ih =>
    intro y3 y5 hy3 hy5 hn
    refine X.iload 7 i142_5 rfl rfl rfl ?_
    refine X.aload_n 8 i142_7 rfl rfl rfl ?_
    refine X.getI 11 3 i142_8 rfl rfl (by decide) rfl rfl rfl ?_
    have h508 := r19_3 hJ g0
    refine X.icmpge 47 14 i142_11 rfl rfl rfl (fun h509 => ?_) (fun h509 => ?_)
    · refine X.cut [(0, zr g0 19), (3, zl y3)] i142_47 rfl ?_
      exact K47 y3 (by first | trivial | omega)
    · refine X.iload_n 15 i142_14 rfl rfl rfl ?_
      refine X.iconst 16 i142_15 rfl rfl (by decide) ?_
      refine X.icmpeq 25 19 i142_16 rfl rfl rfl (fun h510 => ?_) (fun h510 => (by exfalso; omega))
      refine X.lload_n 26 i142_25 rfl rfl rfl ?_
      refine X.aload_n 27 i142_26 rfl rfl rfl ?_
      refine X.getR 30 i142_27 rfl rfl (by decide) rfl rfl ?_
      refine X.iload_n 31 i142_30 rfl rfl rfl ?_
      refine X.iconst 32 i142_31 rfl rfl (by decide) ?_
      refine X.imul 33 i142_32 rfl rfl (by omega) ?_
      refine X.iload 35 i142_33 rfl rfl rfl ?_
      refine X.iadd 36 i142_35 rfl rfl (by omega) ?_
      refine X.lald 37 i142_36 rfl rfl (by decide) rfl (by omega) ?_
      refine X.maxL 40 i142_37 rfl rfl (by omega) (Nat.le_of_ble_eq_true rfl) ?_
      refine X.lstore_n 41 [(0, zr g0 19), (1, zi y1), (2, zi y2), (3, zl (max y3 (m g0 22 ((y1 * 4) + y5)))), (5, zi y5)] i142_40 rfl rfl rfl ?_
      refine X.iinc 44 [(0, zr g0 19), (1, zi y1), (2, zi y2), (3, zl (max y3 (m g0 22 ((y1 * 4) + y5)))), (5, zi (y5 + 1))] i142_41 rfl rfl rfl (by omega) rfl ?_
      refine X.goto 5 i142_44 rfl rfl ?_
      exact ih (max y3 (m g0 22 ((y1 * 4) + y5))) (y5 + 1) (by omega) (by omega) (by omega)
-- WorkMeter$Wave.rootMean
theorem c142_3 {s : Nat × (Nat → Int32)} {S : zS} {m0 m : zM} {B : Int} {d : Nat} {Q : Option zV → zM → Prop} (g0 : Nat) (a1 a2 : Int) (hd : 14 ≤ d) (hJ : J S m0 B m) (hB : B + 0 ≤ 1000000000) (ha1 : 2 ≤ a1 ∧ a1 ≤ 2) (ha2 : (-1) ≤ a2 ∧ a2 ≤ (-1)) (hQ : ∀ (v : Int), (True) → Q (some (zl v)) m) : X (EE s) d 142 0 [(0, zr g0 19), (1, zi a1), (2, zi a2)] [] m Q := by
  refine X.lconst (y := 0) 1 i142_0 rfl rfl rfl ?_
  refine X.lstore_n 2 [(0, zr g0 19), (1, zi a1), (2, zi a2), (3, zl 0)] i142_1 rfl rfl rfl ?_
  refine X.iconst 3 i142_2 rfl rfl (by decide) ?_
  refine X.istore 5 [(0, zr g0 19), (1, zi a1), (2, zi a2), (3, zl 0), (5, zi 0)] i142_3 rfl rfl rfl ?_
  refine l142_5_3 (s := s) (S := S) (m0 := m0) (m := m) (B := B) (d := d) g0 a1 a2 (by omega) (hJ.up (by omega)) (by omega) (by omega) (by omega) (fun y501 hby501 => ?_) ((3 - 0 : Int).toNat + 1) 0 0 (by omega) (by omega) (by omega)
  refine X.lload_n 48 i142_47 rfl rfl rfl ?_
  refine X.iconst 49 i142_48 rfl rfl (by decide) ?_
  refine X.aload_n 50 i142_49 rfl rfl rfl ?_
  refine X.getI 53 4 i142_50 rfl rfl (by decide) rfl rfl rfl ?_
  have h505 := r19_4 hJ g0
  refine X.maxI 56 i142_53 rfl rfl (by omega) (Nat.le_of_ble_eq_true rfl) ?_
  refine X.i2l 57 i142_56 rfl rfl ?_
  refine X.ldivF 58 i142_57 rfl rfl (by omega) (fun z506 => ?_)
  refine X.calls 61 [zl z506] [] [(0, zl z506)] i142_58 (by decide) rfl rfl (by omega) rfl rfl t24 (Nat.le_of_ble_eq_true rfl) (Nat.le_of_ble_eq_true rfl) rfl ?_
  refine c24_1 (B := B)  z506 (by omega) (hJ.up (by omega)) (by omega)  (fun v509 hv509 => ?_)
  show X (EE s) d 142 61 [(0, zr g0 19), (3, zl y501)] [zl v509] m _
  refine X.retl i142_61 rfl t142 ?_
  exact hQ v509 (by first | trivial | omega) 
theorem l142_5_4 {s : Nat × (Nat → Int32)} {S : zS} {m0 m : zM} {B : Int} {d : Nat} {Q : Option zV → zM → Prop} (g0 : Nat) (y1 y2 : Int) (hd : 13 ≤ d) (hJ : J S m0 B m) (hB9 : B ≤ 1000000000) (hy1 : 3 ≤ y1 ∧ y1 ≤ 3) (hy2 : (-1) ≤ y2 ∧ y2 ≤ (-1))
    (K47 : ∀ (x3 : Int) , (0 ≤ x3) → X (EE s) d 142 47 [(0, zr g0 19), (3, zl x3)] [] m Q) :
    ∀ (n : Nat) (y3 y5 : Int) , (0 ≤ y3) → (0 ≤ y5 ∧ y5 ≤ 3) → 3 - y5 < (n : Int) → X (EE s) d 142 5 [(0, zr g0 19), (1, zi y1), (2, zi y2), (3, zl y3), (5, zi y5)] [] m Q := by
  intro n
  induction n with
  | zero =>
    intro y3 y5 hy3 hy5 hn
    exfalso
    omega
  | succ n ih =>
    intro y3 y5 hy3 hy5 hn
    refine X.iload 7 i142_5 rfl rfl rfl ?_
    refine X.aload_n 8 i142_7 rfl rfl rfl ?_
    refine X.getI 11 3 i142_8 rfl rfl (by decide) rfl rfl rfl ?_
    have h508 := r19_3 hJ g0
    refine X.icmpge 47 14 i142_11 rfl rfl rfl (fun h509 => ?_) (fun h509 => ?_)
    · refine X.cut [(0, zr g0 19), (3, zl y3)] i142_47 rfl ?_
      exact K47 y3 (by first | trivial | omega)
    · refine X.iload_n 15 i142_14 rfl rfl rfl ?_
      refine X.iconst 16 i142_15 rfl rfl (by decide) ?_
      refine X.icmpeq 25 19 i142_16 rfl rfl rfl (fun h510 => ?_) (fun h510 => (by exfalso; omega))
      refine X.lload_n 26 i142_25 rfl rfl rfl ?_
      refine X.aload_n 27 i142_26 rfl rfl rfl ?_
      refine X.getR 30 i142_27 rfl rfl (by decide) rfl rfl ?_
      refine X.iload_n 31 i142_30 rfl rfl rfl ?_
      refine X.iconst 32 i142_31 rfl rfl (by decide) ?_
      refine X.imul 33 i142_32 rfl rfl (by omega) ?_
      refine X.iload 35 i142_33 rfl rfl rfl ?_
      refine X.iadd 36 i142_35 rfl rfl (by omega) ?_
      refine X.lald 37 i142_36 rfl rfl (by decide) rfl (by omega) ?_
      refine X.maxL 40 i142_37 rfl rfl (by omega) (Nat.le_of_ble_eq_true rfl) ?_
      refine X.lstore_n 41 [(0, zr g0 19), (1, zi y1), (2, zi y2), (3, zl (max y3 (m g0 22 ((y1 * 4) + y5)))), (5, zi y5)] i142_40 rfl rfl rfl ?_
      refine X.iinc 44 [(0, zr g0 19), (1, zi y1), (2, zi y2), (3, zl (max y3 (m g0 22 ((y1 * 4) + y5)))), (5, zi (y5 + 1))] i142_41 rfl rfl rfl (by omega) rfl ?_
      refine X.goto 5 i142_44 rfl rfl ?_
      exact ih (max y3 (m g0 22 ((y1 * 4) + y5))) (y5 + 1) (by omega) (by omega) (by omega)
-- WorkMeter$Wave.rootMean
theorem c142_4 {s : Nat × (Nat → Int32)} {S : zS} {m0 m : zM} {B : Int} {d : Nat} {Q : Option zV → zM → Prop} (g0 : Nat) (a1 a2 : Int) (hd : 14 ≤ d) (hJ : J S m0 B m) (hB : B + 0 ≤ 1000000000) (ha1 : 3 ≤ a1 ∧ a1 ≤ 3) (ha2 : (-1) ≤ a2 ∧ a2 ≤ (-1)) (hQ : ∀ (v : Int), (True) → Q (some (zl v)) m) : X (EE s) d 142 0 [(0, zr g0 19), (1, zi a1), (2, zi a2)] [] m Q := by
  refine X.lconst (y := 0) 1 i142_0 rfl rfl rfl ?_
  refine X.lstore_n 2 [(0, zr g0 19), (1, zi a1), (2, zi a2), (3, zl 0)] i142_1 rfl rfl rfl ?_
  refine X.iconst 3 i142_2 rfl rfl (by decide) ?_
  refine X.istore 5 [(0, zr g0 19), (1, zi a1), (2, zi a2), (3, zl 0), (5, zi 0)] i142_3 rfl rfl rfl ?_
  refine l142_5_4 (s := s) (S := S) (m0 := m0) (m := m) (B := B) (d := d) g0 a1 a2 (by omega) (hJ.up (by omega)) (by omega) (by omega) (by omega) (fun y501 hby501 => ?_) ((3 - 0 : Int).toNat + 1) 0 0 (by omega) (by omega) (by omega)
  refine X.lload_n 48 i142_47 rfl rfl rfl ?_
  refine X.iconst 49 i142_48 rfl rfl (by decide) ?_
  refine X.aload_n 50 i142_49 rfl rfl rfl ?_
  refine X.getI 53 4 i142_50 rfl rfl (by decide) rfl rfl rfl ?_
  have h505 := r19_4 hJ g0
  refine X.maxI 56 i142_53 rfl rfl (by omega) (Nat.le_of_ble_eq_true rfl) ?_
  refine X.i2l 57 i142_56 rfl rfl ?_
  refine X.ldivF 58 i142_57 rfl rfl (by omega) (fun z506 => ?_)
  refine X.calls 61 [zl z506] [] [(0, zl z506)] i142_58 (by decide) rfl rfl (by omega) rfl rfl t24 (Nat.le_of_ble_eq_true rfl) (Nat.le_of_ble_eq_true rfl) rfl ?_
  refine c24_1 (B := B)  z506 (by omega) (hJ.up (by omega)) (by omega)  (fun v509 hv509 => ?_)
  show X (EE s) d 142 61 [(0, zr g0 19), (3, zl y501)] [zl v509] m _
  refine X.retl i142_61 rfl t142 ?_
  exact hQ v509 (by first | trivial | omega) 
-- WorkMeter$Wave.tell
theorem c141_1 {s : Nat × (Nat → Int32)} {S : zS} {m0 m : zM} {B : Int} {d : Nat} {Q : Option zV → zM → Prop} (g0 : Nat) (a1 a2 : Int) (hd : 15 ≤ d) (hJ : J S m0 B m) (hB : B + 0 ≤ 1000000000) (ha1 : (-1) ≤ a1 ∧ a1 ≤ 2) (ha2 : 0 ≤ a2 ∧ a2 ≤ 8) (hQ : ∀ (v : Int), (True) → Q (some (zl v)) m) : X (EE s) d 141 0 [(0, zr g0 19), (1, zi a1), (2, zi a2)] [] m Q := by
  refine X.iload_n 1 i141_0 rfl rfl rfl ?_
  refine X.iconst 2 i141_1 rfl rfl (by decide) ?_
  refine X.icmpne 9 5 i141_2 rfl rfl rfl (fun h501 => ?_) (fun h501 => ?_)
  · refine X.iload_n 10 i141_9 rfl rfl rfl ?_
    refine X.istore_n 11 [(0, zr g0 19), (1, zi a1), (2, zi a2), (3, zi a1)] i141_10 rfl rfl rfl ?_
    refine X.aload_n 12 i141_11 rfl rfl rfl ?_
    refine X.getR 15 i141_12 rfl rfl (by decide) rfl rfl ?_
    refine X.iconst 16 i141_15 rfl rfl (by decide) ?_
    refine X.iload_n 17 i141_16 rfl rfl rfl ?_
    refine X.iadd 18 i141_17 rfl rfl (by omega) ?_
    refine X.lald 19 i141_18 rfl rfl (by decide) rfl (by omega) ?_
    refine X.lstore 21 [(0, zr g0 19), (1, zi a1), (2, zi a2), (3, zi a1), (4, zl (m g0 22 (0 + a1)))] i141_19 rfl rfl rfl ?_
    refine X.iload_n 22 i141_21 rfl rfl rfl ?_
    by_cases h502 : a2 = 4
    · refine X.tsIn 56 0 i141_22 rfl (by omega) rfl rfl ?_
      refine X.cut [(0, zr g0 19), (3, zi a1)] i141_56 rfl ?_
      refine X.aload_n 57 i141_56 rfl rfl rfl ?_
      refine X.iload_n 58 i141_57 rfl rfl rfl ?_
      refine X.callv 61 [zi a1] [] [(0, zr g0 19), (1, zi a1)] i141_58 rfl (by decide) rfl rfl (by omega) rfl rfl (by decide) rfl t23 (Nat.le_of_ble_eq_true rfl) (Nat.le_of_ble_eq_true rfl) rfl ?_
      refine c23_2 (B := B) g0 a1 (by omega) (hJ.up (by omega)) (by omega) (by omega) (fun v505 hv505 => ?_)
      show X (EE s) d 141 61 [(0, zr g0 19), (3, zi a1)] [zl v505] m _
      refine X.retl i141_61 rfl t141 ?_
      exact hQ v505 (by first | trivial | omega) 
    by_cases h506 : a2 = 5
    · refine X.tsIn 62 1 i141_22 rfl (by omega) rfl rfl ?_
      refine X.cut [(0, zr g0 19), (3, zi a1), (4, zl (m g0 22 (0 + a1)))] i141_62 rfl ?_
      refine X.lload 64 i141_62 rfl rfl rfl ?_
      refine X.aload_n 65 i141_64 rfl rfl rfl ?_
      refine X.getR 68 i141_65 rfl rfl (by decide) rfl rfl ?_
      refine X.iconst 69 i141_68 rfl rfl (by decide) ?_
      refine X.iload_n 70 i141_69 rfl rfl rfl ?_
      refine X.iadd 71 i141_70 rfl rfl (by omega) ?_
      refine X.lald 72 i141_71 rfl rfl (by decide) rfl (by omega) ?_
      refine X.calls 75 [zl (m g0 22 (0 + a1)), zl (m g0 22 (4 + a1))] [] [(0, zl (m g0 22 (0 + a1))), (2, zl (m g0 22 (4 + a1)))] i141_72 (by decide) rfl rfl (by omega) rfl rfl t51 (Nat.le_of_ble_eq_true rfl) (Nat.le_of_ble_eq_true rfl) rfl ?_
      refine X.lload_n 1 i51_0 rfl rfl rfl ?_
      refine X.lconst (y := 0) 2 i51_1 rfl rfl rfl ?_
      refine X.lcmp 3 i51_2 rfl rfl (fun z507 hz507 => ?_)
      refine X.iflt 18 6 i51_3 rfl rfl rfl (fun h508 => ?_) (fun h508 => ?_)
      · have h508c : (m g0 22 (0 + a1)) < 0 := by omega
        clear h508 hz507
        refine X.cut [(2, zl (m g0 22 (4 + a1)))] i51_18 rfl ?_
        refine X.lload_n 19 i51_18 rfl rfl rfl ?_
        refine X.lconst (y := 0) 20 i51_19 rfl rfl rfl ?_
        refine X.lcmp 21 i51_20 rfl rfl (fun z509 hz509 => ?_)
        refine X.iflt 28 24 i51_21 rfl rfl rfl (fun h510 => ?_) (fun h510 => ?_)
        · have h510c : (m g0 22 (4 + a1)) < 0 := by omega
          clear h510 hz509
          refine X.cut [] i51_28 rfl ?_
          refine X.iconst 29 i51_28 rfl rfl (by decide) ?_
          refine X.reti i51_29 rfl t51 ?_
          show X (EE s) d 141 75 [(0, zr g0 19), (3, zi a1), (4, zl (m g0 22 (0 + a1)))] [zi 3] m _
          refine X.i2l 76 i141_75 rfl rfl ?_
          refine X.retl i141_76 rfl t141 ?_
          exact hQ 3 (by first | trivial | omega) 
        · have h510c : (m g0 22 (4 + a1)) ≥ 0 := by omega
          clear h510 hz509
          refine X.iconst 25 i51_24 rfl rfl (by decide) ?_
          refine X.goto 29 i51_25 rfl rfl ?_
          refine X.cut [] i51_29 rfl ?_
          refine X.reti i51_29 rfl t51 ?_
          show X (EE s) d 141 75 [(0, zr g0 19), (3, zi a1), (4, zl (m g0 22 (0 + a1)))] [zi 2] m _
          refine X.i2l 76 i141_75 rfl rfl ?_
          refine X.retl i141_76 rfl t141 ?_
          exact hQ 2 (by first | trivial | omega) 
      · have h508c : (m g0 22 (0 + a1)) ≥ 0 := by omega
        clear h508 hz507
        refine X.lload_n 7 i51_6 rfl rfl rfl ?_
        refine X.lconst (y := 0) 8 i51_7 rfl rfl rfl ?_
        refine X.lcmp 9 i51_8 rfl rfl (fun z511 hz511 => ?_)
        refine X.iflt 16 12 i51_9 rfl rfl rfl (fun h512 => ?_) (fun h512 => ?_)
        · have h512c : (m g0 22 (4 + a1)) < 0 := by omega
          clear h512 hz511
          refine X.cut [] i51_16 rfl ?_
          refine X.iconst 17 i51_16 rfl rfl (by decide) ?_
          refine X.reti i51_17 rfl t51 ?_
          show X (EE s) d 141 75 [(0, zr g0 19), (3, zi a1), (4, zl (m g0 22 (0 + a1)))] [zi 4] m _
          refine X.i2l 76 i141_75 rfl rfl ?_
          refine X.retl i141_76 rfl t141 ?_
          exact hQ 4 (by first | trivial | omega) 
        · have h512c : (m g0 22 (4 + a1)) ≥ 0 := by omega
          clear h512 hz511
          refine X.iconst 13 i51_12 rfl rfl (by decide) ?_
          refine X.goto 17 i51_13 rfl rfl ?_
          refine X.cut [] i51_17 rfl ?_
          refine X.reti i51_17 rfl t51 ?_
          show X (EE s) d 141 75 [(0, zr g0 19), (3, zi a1), (4, zl (m g0 22 (0 + a1)))] [zi 1] m _
          refine X.i2l 76 i141_75 rfl rfl ?_
          refine X.retl i141_76 rfl t141 ?_
          exact hQ 1 (by first | trivial | omega) 
    by_cases h513 : a2 = 6
    · refine X.tsIn 77 2 i141_22 rfl (by omega) rfl rfl ?_
      refine X.cut [(0, zr g0 19), (1, zi a1)] i141_77 rfl ?_
      refine X.aload_n 78 i141_77 rfl rfl rfl ?_
      refine X.iconst 79 i141_78 rfl rfl (by decide) ?_
      refine X.iload_n 80 i141_79 rfl rfl rfl ?_
      refine X.callv 83 [zi 2, zi a1] [] [(0, zr g0 19), (1, zi 2), (2, zi a1)] i141_80 rfl (by decide) rfl rfl (by omega) rfl rfl (by decide) rfl t142 (Nat.le_of_ble_eq_true rfl) (Nat.le_of_ble_eq_true rfl) rfl ?_
      refine c142_1 (B := B) g0 2 a1 (by omega) (hJ.up (by omega)) (by omega) (by omega) (by omega) (fun v516 hv516 => ?_)
      show X (EE s) d 141 83 [(0, zr g0 19), (1, zi a1)] [zl v516] m _
      refine X.retl i141_83 rfl t141 ?_
      exact hQ v516 (by first | trivial | omega) 
    by_cases h517 : a2 = 7
    · refine X.tsIn 84 3 i141_22 rfl (by omega) rfl rfl ?_
      refine X.cut [(0, zr g0 19), (1, zi a1)] i141_84 rfl ?_
      refine X.aload_n 85 i141_84 rfl rfl rfl ?_
      refine X.iconst 86 i141_85 rfl rfl (by decide) ?_
      refine X.iload_n 87 i141_86 rfl rfl rfl ?_
      refine X.callv 90 [zi 3, zi a1] [] [(0, zr g0 19), (1, zi 3), (2, zi a1)] i141_87 rfl (by decide) rfl rfl (by omega) rfl rfl (by decide) rfl t142 (Nat.le_of_ble_eq_true rfl) (Nat.le_of_ble_eq_true rfl) rfl ?_
      refine c142_2 (B := B) g0 3 a1 (by omega) (hJ.up (by omega)) (by omega) (by omega) (by omega) (fun v520 hv520 => ?_)
      show X (EE s) d 141 90 [(0, zr g0 19), (1, zi a1)] [zl v520] m _
      refine X.retl i141_90 rfl t141 ?_
      exact hQ v520 (by first | trivial | omega) 
    by_cases h521 : a2 = 8
    · refine X.tsIn 91 4 i141_22 rfl (by omega) rfl rfl ?_
      refine X.cut [(0, zr g0 19), (3, zi a1), (4, zl (m g0 22 (0 + a1)))] i141_91 rfl ?_
      refine X.lload 93 i141_91 rfl rfl rfl ?_
      refine X.aload_n 94 i141_93 rfl rfl rfl ?_
      refine X.iload_n 95 i141_94 rfl rfl rfl ?_
      refine X.callv 98 [zi a1] [zl (m g0 22 (0 + a1))] [(0, zr g0 19), (1, zi a1)] i141_95 rfl (by decide) rfl rfl (by omega) rfl rfl (by decide) rfl t23 (Nat.le_of_ble_eq_true rfl) (Nat.le_of_ble_eq_true rfl) rfl ?_
      refine c23_2 (B := B) g0 a1 (by omega) (hJ.up (by omega)) (by omega) (by omega) (fun v524 hv524 => ?_)
      show X (EE s) d 141 98 [(0, zr g0 19), (3, zi a1), (4, zl (m g0 22 (0 + a1)))] [zl v524, zl (m g0 22 (0 + a1))] m _
      refine X.calls 101 [zl (m g0 22 (0 + a1)), zl v524] [] [(0, zl (m g0 22 (0 + a1))), (2, zl v524)] i141_98 (by decide) rfl rfl (by omega) rfl rfl t143 (Nat.le_of_ble_eq_true rfl) (Nat.le_of_ble_eq_true rfl) rfl ?_
      refine X.lload_n 1 i143_0 rfl rfl rfl ?_
      refine X.lconst (y := 0) 2 i143_1 rfl rfl rfl ?_
      refine X.lcmp 3 i143_2 rfl rfl (fun z525 hz525 => ?_)
      refine X.ifne 10 6 i143_3 rfl rfl rfl (fun h526 => ?_) (fun h526 => ?_)
      · have h526c : v524 ≠ 0 := by omega
        clear h526 hz525
        refine X.ldc2 13 i143_10 rfl rfl (by decide) ?_
        refine X.lload_n 14 i143_13 rfl rfl rfl ?_
        refine X.llF 15 .lmul (fun x y => x * y) i143_14 rfl rfl rfl (fun _ _ => rfl) (fun z527 hz527 => ?_)
        refine X.lload_n 16 i143_15 rfl rfl rfl ?_
        refine X.ldivZ 17 i143_16 rfl rfl (by omega) (fun z528 hz528 => ?_)
        refine X.cut [] i143_17 rfl ?_
        refine X.retl i143_17 rfl t143 ?_
        show X (EE s) d 141 101 [(0, zr g0 19), (3, zi a1), (4, zl (m g0 22 (0 + a1)))] [zl z528] m _
        refine X.retl i141_101 rfl t141 ?_
        exact hQ z528 (by first | trivial | omega) 
      · have h526c : v524 = 0 := by omega
        clear h526 hz525
        refine X.lconst (y := 0) 7 i143_6 rfl rfl rfl ?_
        refine X.goto 17 i143_7 rfl rfl ?_
        refine X.cut [] i143_17 rfl ?_
        refine X.retl i143_17 rfl t143 ?_
        show X (EE s) d 141 101 [(0, zr g0 19), (3, zi a1), (4, zl (m g0 22 (0 + a1)))] [zl 0] m _
        refine X.retl i141_101 rfl t141 ?_
        exact hQ 0 (by first | trivial | omega) 
    refine X.tsOut 102 i141_22 rfl (by omega) rfl ?_
    refine X.cut [(0, zr g0 19), (2, zi a2), (3, zi a1)] i141_102 rfl ?_
    refine X.iload_n 103 i141_102 rfl rfl rfl ?_
    refine X.iflt 124 106 i141_103 rfl rfl rfl (fun h529 => (by exfalso; omega)) (fun h529 => ?_)
    refine X.iload_n 107 i141_106 rfl rfl rfl ?_
    refine X.iconst 108 i141_107 rfl rfl (by decide) ?_
    refine X.icmpgt 124 111 i141_108 rfl rfl rfl (fun h530 => ?_) (fun h530 => ?_)
    · refine X.cut [] i141_124 rfl ?_
      refine X.ldc2 127 i141_124 rfl rfl (by decide) ?_
      refine X.retl i141_127 rfl t141 ?_
      exact hQ (-1) (by first | trivial | omega) 
    · refine X.aload_n 112 i141_111 rfl rfl rfl ?_
      refine X.getR 115 i141_112 rfl rfl (by decide) rfl rfl ?_
      refine X.iload_n 116 i141_115 rfl rfl rfl ?_
      refine X.iconst 117 i141_116 rfl rfl (by decide) ?_
      refine X.imul 118 i141_117 rfl rfl (by omega) ?_
      refine X.iload_n 119 i141_118 rfl rfl rfl ?_
      refine X.iadd 120 i141_119 rfl rfl (by omega) ?_
      refine X.lald 121 i141_120 rfl rfl (by decide) rfl (by omega) ?_
      refine X.goto 127 i141_121 rfl rfl ?_
      refine X.cut [] i141_127 rfl ?_
      refine X.retl i141_127 rfl t141 ?_
      exact hQ (m g0 22 ((a2 * 4) + a1)) (by first | trivial | omega) 
  · refine X.iconst 6 i141_5 rfl rfl (by decide) ?_
    refine X.goto 10 i141_6 rfl rfl ?_
    refine X.istore_n 11 [(0, zr g0 19), (1, zi a1), (2, zi a2), (3, zi 3)] i141_10 rfl rfl rfl ?_
    refine X.aload_n 12 i141_11 rfl rfl rfl ?_
    refine X.getR 15 i141_12 rfl rfl (by decide) rfl rfl ?_
    refine X.iconst 16 i141_15 rfl rfl (by decide) ?_
    refine X.iload_n 17 i141_16 rfl rfl rfl ?_
    refine X.iadd 18 i141_17 rfl rfl (by omega) ?_
    refine X.lald 19 i141_18 rfl rfl (by decide) rfl (by omega) ?_
    refine X.lstore 21 [(0, zr g0 19), (1, zi a1), (2, zi a2), (3, zi 3), (4, zl (m g0 22 (0 + 3)))] i141_19 rfl rfl rfl ?_
    refine X.iload_n 22 i141_21 rfl rfl rfl ?_
    by_cases h531 : a2 = 4
    · refine X.tsIn 56 0 i141_22 rfl (by omega) rfl rfl ?_
      refine X.cut [(0, zr g0 19), (3, zi 3)] i141_56 rfl ?_
      refine X.aload_n 57 i141_56 rfl rfl rfl ?_
      refine X.iload_n 58 i141_57 rfl rfl rfl ?_
      refine X.callv 61 [zi 3] [] [(0, zr g0 19), (1, zi 3)] i141_58 rfl (by decide) rfl rfl (by omega) rfl rfl (by decide) rfl t23 (Nat.le_of_ble_eq_true rfl) (Nat.le_of_ble_eq_true rfl) rfl ?_
      refine c23_1 (B := B) g0 3 (by omega) (hJ.up (by omega)) (by omega) (by omega) (fun v534 hv534 => ?_)
      show X (EE s) d 141 61 [(0, zr g0 19), (3, zi 3)] [zl v534] m _
      refine X.retl i141_61 rfl t141 ?_
      exact hQ v534 (by first | trivial | omega) 
    by_cases h535 : a2 = 5
    · refine X.tsIn 62 1 i141_22 rfl (by omega) rfl rfl ?_
      refine X.cut [(0, zr g0 19), (3, zi 3), (4, zl (m g0 22 (0 + 3)))] i141_62 rfl ?_
      refine X.lload 64 i141_62 rfl rfl rfl ?_
      refine X.aload_n 65 i141_64 rfl rfl rfl ?_
      refine X.getR 68 i141_65 rfl rfl (by decide) rfl rfl ?_
      refine X.iconst 69 i141_68 rfl rfl (by decide) ?_
      refine X.iload_n 70 i141_69 rfl rfl rfl ?_
      refine X.iadd 71 i141_70 rfl rfl (by omega) ?_
      refine X.lald 72 i141_71 rfl rfl (by decide) rfl (by omega) ?_
      refine X.calls 75 [zl (m g0 22 (0 + 3)), zl (m g0 22 (4 + 3))] [] [(0, zl (m g0 22 (0 + 3))), (2, zl (m g0 22 (4 + 3)))] i141_72 (by decide) rfl rfl (by omega) rfl rfl t51 (Nat.le_of_ble_eq_true rfl) (Nat.le_of_ble_eq_true rfl) rfl ?_
      refine X.lload_n 1 i51_0 rfl rfl rfl ?_
      refine X.lconst (y := 0) 2 i51_1 rfl rfl rfl ?_
      refine X.lcmp 3 i51_2 rfl rfl (fun z536 hz536 => ?_)
      refine X.iflt 18 6 i51_3 rfl rfl rfl (fun h537 => ?_) (fun h537 => ?_)
      · have h537c : (m g0 22 (0 + 3)) < 0 := by omega
        clear h537 hz536
        refine X.cut [(2, zl (m g0 22 (4 + 3)))] i51_18 rfl ?_
        refine X.lload_n 19 i51_18 rfl rfl rfl ?_
        refine X.lconst (y := 0) 20 i51_19 rfl rfl rfl ?_
        refine X.lcmp 21 i51_20 rfl rfl (fun z538 hz538 => ?_)
        refine X.iflt 28 24 i51_21 rfl rfl rfl (fun h539 => ?_) (fun h539 => ?_)
        · have h539c : (m g0 22 (4 + 3)) < 0 := by omega
          clear h539 hz538
          refine X.cut [] i51_28 rfl ?_
          refine X.iconst 29 i51_28 rfl rfl (by decide) ?_
          refine X.reti i51_29 rfl t51 ?_
          show X (EE s) d 141 75 [(0, zr g0 19), (3, zi 3), (4, zl (m g0 22 (0 + 3)))] [zi 3] m _
          refine X.i2l 76 i141_75 rfl rfl ?_
          refine X.retl i141_76 rfl t141 ?_
          exact hQ 3 (by first | trivial | omega) 
        · have h539c : (m g0 22 (4 + 3)) ≥ 0 := by omega
          clear h539 hz538
          refine X.iconst 25 i51_24 rfl rfl (by decide) ?_
          refine X.goto 29 i51_25 rfl rfl ?_
          refine X.cut [] i51_29 rfl ?_
          refine X.reti i51_29 rfl t51 ?_
          show X (EE s) d 141 75 [(0, zr g0 19), (3, zi 3), (4, zl (m g0 22 (0 + 3)))] [zi 2] m _
          refine X.i2l 76 i141_75 rfl rfl ?_
          refine X.retl i141_76 rfl t141 ?_
          exact hQ 2 (by first | trivial | omega) 
      · have h537c : (m g0 22 (0 + 3)) ≥ 0 := by omega
        clear h537 hz536
        refine X.lload_n 7 i51_6 rfl rfl rfl ?_
        refine X.lconst (y := 0) 8 i51_7 rfl rfl rfl ?_
        refine X.lcmp 9 i51_8 rfl rfl (fun z540 hz540 => ?_)
        refine X.iflt 16 12 i51_9 rfl rfl rfl (fun h541 => ?_) (fun h541 => ?_)
        · have h541c : (m g0 22 (4 + 3)) < 0 := by omega
          clear h541 hz540
          refine X.cut [] i51_16 rfl ?_
          refine X.iconst 17 i51_16 rfl rfl (by decide) ?_
          refine X.reti i51_17 rfl t51 ?_
          show X (EE s) d 141 75 [(0, zr g0 19), (3, zi 3), (4, zl (m g0 22 (0 + 3)))] [zi 4] m _
          refine X.i2l 76 i141_75 rfl rfl ?_
          refine X.retl i141_76 rfl t141 ?_
          exact hQ 4 (by first | trivial | omega) 
        · have h541c : (m g0 22 (4 + 3)) ≥ 0 := by omega
          clear h541 hz540
          refine X.iconst 13 i51_12 rfl rfl (by decide) ?_
          refine X.goto 17 i51_13 rfl rfl ?_
          refine X.cut [] i51_17 rfl ?_
          refine X.reti i51_17 rfl t51 ?_
          show X (EE s) d 141 75 [(0, zr g0 19), (3, zi 3), (4, zl (m g0 22 (0 + 3)))] [zi 1] m _
          refine X.i2l 76 i141_75 rfl rfl ?_
          refine X.retl i141_76 rfl t141 ?_
          exact hQ 1 (by first | trivial | omega) 
    by_cases h542 : a2 = 6
    · refine X.tsIn 77 2 i141_22 rfl (by omega) rfl rfl ?_
      refine X.cut [(0, zr g0 19), (1, zi a1)] i141_77 rfl ?_
      refine X.aload_n 78 i141_77 rfl rfl rfl ?_
      refine X.iconst 79 i141_78 rfl rfl (by decide) ?_
      refine X.iload_n 80 i141_79 rfl rfl rfl ?_
      refine X.callv 83 [zi 2, zi a1] [] [(0, zr g0 19), (1, zi 2), (2, zi a1)] i141_80 rfl (by decide) rfl rfl (by omega) rfl rfl (by decide) rfl t142 (Nat.le_of_ble_eq_true rfl) (Nat.le_of_ble_eq_true rfl) rfl ?_
      refine c142_3 (B := B) g0 2 a1 (by omega) (hJ.up (by omega)) (by omega) (by omega) (by omega) (fun v545 hv545 => ?_)
      show X (EE s) d 141 83 [(0, zr g0 19), (1, zi a1)] [zl v545] m _
      refine X.retl i141_83 rfl t141 ?_
      exact hQ v545 (by first | trivial | omega) 
    by_cases h546 : a2 = 7
    · refine X.tsIn 84 3 i141_22 rfl (by omega) rfl rfl ?_
      refine X.cut [(0, zr g0 19), (1, zi a1)] i141_84 rfl ?_
      refine X.aload_n 85 i141_84 rfl rfl rfl ?_
      refine X.iconst 86 i141_85 rfl rfl (by decide) ?_
      refine X.iload_n 87 i141_86 rfl rfl rfl ?_
      refine X.callv 90 [zi 3, zi a1] [] [(0, zr g0 19), (1, zi 3), (2, zi a1)] i141_87 rfl (by decide) rfl rfl (by omega) rfl rfl (by decide) rfl t142 (Nat.le_of_ble_eq_true rfl) (Nat.le_of_ble_eq_true rfl) rfl ?_
      refine c142_4 (B := B) g0 3 a1 (by omega) (hJ.up (by omega)) (by omega) (by omega) (by omega) (fun v549 hv549 => ?_)
      show X (EE s) d 141 90 [(0, zr g0 19), (1, zi a1)] [zl v549] m _
      refine X.retl i141_90 rfl t141 ?_
      exact hQ v549 (by first | trivial | omega) 
    by_cases h550 : a2 = 8
    · refine X.tsIn 91 4 i141_22 rfl (by omega) rfl rfl ?_
      refine X.cut [(0, zr g0 19), (3, zi 3), (4, zl (m g0 22 (0 + 3)))] i141_91 rfl ?_
      refine X.lload 93 i141_91 rfl rfl rfl ?_
      refine X.aload_n 94 i141_93 rfl rfl rfl ?_
      refine X.iload_n 95 i141_94 rfl rfl rfl ?_
      refine X.callv 98 [zi 3] [zl (m g0 22 (0 + 3))] [(0, zr g0 19), (1, zi 3)] i141_95 rfl (by decide) rfl rfl (by omega) rfl rfl (by decide) rfl t23 (Nat.le_of_ble_eq_true rfl) (Nat.le_of_ble_eq_true rfl) rfl ?_
      refine c23_1 (B := B) g0 3 (by omega) (hJ.up (by omega)) (by omega) (by omega) (fun v553 hv553 => ?_)
      show X (EE s) d 141 98 [(0, zr g0 19), (3, zi 3), (4, zl (m g0 22 (0 + 3)))] [zl v553, zl (m g0 22 (0 + 3))] m _
      refine X.calls 101 [zl (m g0 22 (0 + 3)), zl v553] [] [(0, zl (m g0 22 (0 + 3))), (2, zl v553)] i141_98 (by decide) rfl rfl (by omega) rfl rfl t143 (Nat.le_of_ble_eq_true rfl) (Nat.le_of_ble_eq_true rfl) rfl ?_
      refine X.lload_n 1 i143_0 rfl rfl rfl ?_
      refine X.lconst (y := 0) 2 i143_1 rfl rfl rfl ?_
      refine X.lcmp 3 i143_2 rfl rfl (fun z554 hz554 => ?_)
      refine X.ifne 10 6 i143_3 rfl rfl rfl (fun h555 => ?_) (fun h555 => ?_)
      · have h555c : v553 ≠ 0 := by omega
        clear h555 hz554
        refine X.ldc2 13 i143_10 rfl rfl (by decide) ?_
        refine X.lload_n 14 i143_13 rfl rfl rfl ?_
        refine X.llF 15 .lmul (fun x y => x * y) i143_14 rfl rfl rfl (fun _ _ => rfl) (fun z556 hz556 => ?_)
        refine X.lload_n 16 i143_15 rfl rfl rfl ?_
        refine X.ldivZ 17 i143_16 rfl rfl (by omega) (fun z557 hz557 => ?_)
        refine X.cut [] i143_17 rfl ?_
        refine X.retl i143_17 rfl t143 ?_
        show X (EE s) d 141 101 [(0, zr g0 19), (3, zi 3), (4, zl (m g0 22 (0 + 3)))] [zl z557] m _
        refine X.retl i141_101 rfl t141 ?_
        exact hQ z557 (by first | trivial | omega) 
      · have h555c : v553 = 0 := by omega
        clear h555 hz554
        refine X.lconst (y := 0) 7 i143_6 rfl rfl rfl ?_
        refine X.goto 17 i143_7 rfl rfl ?_
        refine X.cut [] i143_17 rfl ?_
        refine X.retl i143_17 rfl t143 ?_
        show X (EE s) d 141 101 [(0, zr g0 19), (3, zi 3), (4, zl (m g0 22 (0 + 3)))] [zl 0] m _
        refine X.retl i141_101 rfl t141 ?_
        exact hQ 0 (by first | trivial | omega) 
    refine X.tsOut 102 i141_22 rfl (by omega) rfl ?_
    refine X.cut [(0, zr g0 19), (2, zi a2), (3, zi 3)] i141_102 rfl ?_
    refine X.iload_n 103 i141_102 rfl rfl rfl ?_
    refine X.iflt 124 106 i141_103 rfl rfl rfl (fun h558 => (by exfalso; omega)) (fun h558 => ?_)
    refine X.iload_n 107 i141_106 rfl rfl rfl ?_
    refine X.iconst 108 i141_107 rfl rfl (by decide) ?_
    refine X.icmpgt 124 111 i141_108 rfl rfl rfl (fun h559 => ?_) (fun h559 => ?_)
    · refine X.cut [] i141_124 rfl ?_
      refine X.ldc2 127 i141_124 rfl rfl (by decide) ?_
      refine X.retl i141_127 rfl t141 ?_
      exact hQ (-1) (by first | trivial | omega) 
    · refine X.aload_n 112 i141_111 rfl rfl rfl ?_
      refine X.getR 115 i141_112 rfl rfl (by decide) rfl rfl ?_
      refine X.iload_n 116 i141_115 rfl rfl rfl ?_
      refine X.iconst 117 i141_116 rfl rfl (by decide) ?_
      refine X.imul 118 i141_117 rfl rfl (by omega) ?_
      refine X.iload_n 119 i141_118 rfl rfl rfl ?_
      refine X.iadd 120 i141_119 rfl rfl (by omega) ?_
      refine X.lald 121 i141_120 rfl rfl (by decide) rfl (by omega) ?_
      refine X.goto 127 i141_121 rfl rfl ?_
      refine X.cut [] i141_127 rfl ?_
      refine X.retl i141_127 rfl t141 ?_
      exact hQ (m g0 22 ((a2 * 4) + 3)) (by first | trivial | omega) 
-- WorkMeter.period
theorem c140_1 {s : Nat × (Nat → Int32)} {S : zS} {m0 m : zM} {B : Int} {d : Nat} {Q : Option zV → zM → Prop} (a1 a2 : Int) (hd : 16 ≤ d) (hJ : J S m0 B m) (hB : B + 0 ≤ 1000000000) (ha1 : (-2147483648) ≤ a1 ∧ a1 ≤ 2147483647) (ha2 : (-2147483648) ≤ a2 ∧ a2 ≤ 2147483647) (hQ : ∀ (v : Int), (True) → Q (some (zl v)) m) : X (EE s) d 140 0 [(0, zr 4 40), (1, zi a1), (2, zi a2)] [] m Q := by
  refine X.iload_n 1 i140_0 rfl rfl rfl ?_
  refine X.iconst 2 i140_1 rfl rfl (by decide) ?_
  refine X.icmplt 29 5 i140_2 rfl rfl rfl (fun h501 => ?_) (fun h501 => ?_)
  · refine X.cut [] i140_29 rfl ?_
    refine X.ldc2 32 i140_29 rfl rfl (by decide) ?_
    refine X.retl i140_32 rfl t140 ?_
    exact hQ (-10000000000) (by first | trivial | omega) 
  · refine X.iload_n 6 i140_5 rfl rfl rfl ?_
    refine X.aload_n 7 i140_6 rfl rfl rfl ?_
    refine X.getF 10 i140_7 rfl rfl (by decide) rfl rfl ?_
    refine X.getR 13 i140_10 rfl rfl (by decide) rfl rfl ?_
    refine X.getI 16 3 i140_13 rfl rfl (by decide) rfl rfl rfl ?_
    have h502 := r19_3 hJ 0
    refine X.icmpge 29 19 i140_16 rfl rfl rfl (fun h503 => ?_) (fun h503 => ?_)
    · refine X.cut [] i140_29 rfl ?_
      refine X.ldc2 32 i140_29 rfl rfl (by decide) ?_
      refine X.retl i140_32 rfl t140 ?_
      exact hQ (-10000000000) (by first | trivial | omega) 
    · refine X.iload_n 20 i140_19 rfl rfl rfl ?_
      refine X.iflt 29 23 i140_20 rfl rfl rfl (fun h504 => ?_) (fun h504 => ?_)
      · refine X.cut [] i140_29 rfl ?_
        refine X.ldc2 32 i140_29 rfl rfl (by decide) ?_
        refine X.retl i140_32 rfl t140 ?_
        exact hQ (-10000000000) (by first | trivial | omega) 
      · refine X.iload_n 24 i140_23 rfl rfl rfl ?_
        refine X.bipush 26 i140_24 rfl rfl (by decide) ?_
        refine X.icmple 33 29 i140_26 rfl rfl rfl (fun h505 => ?_) (fun h505 => ?_)
        · refine X.aload_n 34 i140_33 rfl rfl rfl ?_
          refine X.getF 37 i140_34 rfl rfl (by decide) rfl rfl ?_
          refine X.getR 40 i140_37 rfl rfl (by decide) rfl rfl ?_
          refine X.iload_n 41 i140_40 rfl rfl rfl ?_
          refine X.iload_n 42 i140_41 rfl rfl rfl ?_
          refine X.callv 45 [zi a1, zi a2] [] [(0, zr 0 19), (1, zi a1), (2, zi a2)] i140_42 rfl (by decide) rfl rfl (by omega) rfl rfl (by decide) rfl t141 (Nat.le_of_ble_eq_true rfl) (Nat.le_of_ble_eq_true rfl) rfl ?_
          refine c141_1 (B := B) 0 a1 a2 (by omega) (hJ.up (by omega)) (by omega) (by omega) (by omega) (fun v508 hv508 => ?_)
          show X (EE s) d 140 45 [(0, zr 4 40), (1, zi a1), (2, zi a2)] [zl v508] m _
          refine X.retl i140_45 rfl t140 ?_
          exact hQ v508 (by first | trivial | omega) 
        · refine X.cut [] i140_29 rfl ?_
          refine X.ldc2 32 i140_29 rfl rfl (by decide) ?_
          refine X.retl i140_32 rfl t140 ?_
          exact hQ (-10000000000) (by first | trivial | omega) 
theorem l238_5_1 {s : Nat × (Nat → Int32)} {S : zS} {m0 m : zM} {B : Int} {d : Nat} {Q : Option zV → zM → Prop} (y1 : Int) (hd : 14 ≤ d) (hJ : J S m0 B m) (hB9 : B ≤ 1000000000) (hy1 : 95 ≤ y1 ∧ y1 ≤ 95)
    (K52 : ∀ (x2 : Int) , (0 ≤ x2 ∧ x2 ≤ 3000000000) → X (EE s) d 238 52 [(2, zl x2)] [] m Q) :
    ∀ (n : Nat) (y2 y4 : Int) , (0 ≤ y2 ∧ y2 ≤ 3000000000) → (0 ≤ y4 ∧ y4 ≤ 3) → 3 - y4 < (n : Int) → X (EE s) d 238 5 [(0, zr 4 44), (1, zi y1), (2, zl y2), (4, zi y4)] [] m Q := by
  intro n
  induction n with
  | zero =>
    intro y2 y4 hy2 hy4 hn
    exfalso
    omega
  | succ n ih =>
    intro y2 y4 hy2 hy4 hn
    refine X.iload 7 i238_5 rfl rfl rfl ?_
    refine X.aload_n 8 i238_7 rfl rfl rfl ?_
    refine X.callv 11 [] [zi y4] [(0, zr 4 44)] i238_8 rfl (by decide) rfl rfl (by omega) rfl rfl (by decide) rfl t206 (Nat.le_of_ble_eq_true rfl) (Nat.le_of_ble_eq_true rfl) rfl ?_
    refine X.aload_n 1 i206_0 rfl rfl rfl ?_
    refine X.getF 4 i206_1 rfl rfl (by decide) rfl rfl ?_
    refine X.iconst 5 i206_4 rfl rfl (by decide) ?_
    refine X.lald 6 i206_5 rfl rfl (by decide) rfl (by omega) ?_
    have h526 := r45_1 hJ 4
    refine X.l2i 7 i206_6 rfl rfl (by omega) ?_
    refine X.reti i206_7 rfl t206 ?_
    show X (EE s) d 238 11 [(0, zr 4 44), (1, zi y1), (2, zl y2), (4, zi y4)] [zi (m 4 45 1), zi y4] m _
    refine X.icmpge 52 14 i238_11 rfl rfl rfl (fun h527 => ?_) (fun h527 => ?_)
    · refine X.cut [(2, zl y2)] i238_52 rfl ?_
      exact K52 y2 (by first | trivial | omega)
    · refine X.aload_n 15 i238_14 rfl rfl rfl ?_
      refine X.iload_n 16 i238_15 rfl rfl rfl ?_
      refine X.iload 18 i238_16 rfl rfl rfl ?_
      refine X.callv 21 [zi y1, zi y4] [] [(0, zr 4 44), (1, zi y1), (2, zi y4)] i238_18 rfl (by decide) rfl rfl (by omega) rfl rfl (by decide) rfl t213 (Nat.le_of_ble_eq_true rfl) (Nat.le_of_ble_eq_true rfl) rfl ?_
      refine c213_1 (B := B)  y1 y4 (by omega) (hJ.up (by omega)) (by omega) (by omega) (by omega) (fun v530 hv530 => ?_)
      show X (EE s) d 238 21 [(0, zr 4 44), (1, zi y1), (2, zl y2), (4, zi y4)] [zl v530] m _
      refine X.aload_n 22 i238_21 rfl rfl rfl ?_
      refine X.callv 25 [] [zl v530] [(0, zr 4 44)] i238_22 rfl (by decide) rfl rfl (by omega) rfl rfl (by decide) rfl t211 (Nat.le_of_ble_eq_true rfl) (Nat.le_of_ble_eq_true rfl) rfl ?_
      refine X.aload_n 1 i211_0 rfl rfl rfl ?_
      refine X.getF 4 i211_1 rfl rfl (by decide) rfl rfl ?_
      refine X.iconst 5 i211_4 rfl rfl (by decide) ?_
      refine X.lald 6 i211_5 rfl rfl (by decide) rfl (by omega) ?_
      have h531 := r45_2 hJ 4
      refine X.l2i 7 i211_6 rfl rfl (by omega) ?_
      refine X.reti i211_7 rfl t211 ?_
      show X (EE s) d 238 25 [(0, zr 4 44), (1, zi y1), (2, zl y2), (4, zi y4)] [zi (m 4 45 2), zl v530] m _
      refine X.i2l 26 i238_25 rfl rfl ?_
      refine X.ldivF 27 i238_26 rfl rfl (by omega) (fun z532 => ?_)
      refine X.calls 30 [zl z532] [] [(0, zl z532)] i238_27 (by decide) rfl rfl (by omega) rfl rfl t214 (Nat.le_of_ble_eq_true rfl) (Nat.le_of_ble_eq_true rfl) rfl ?_
      refine c214_1 (B := B)  z532 (by omega) (hJ.up (by omega)) (by omega)  (fun v535 hv535 => ?_)
      show X (EE s) d 238 30 [(0, zr 4 44), (1, zi y1), (2, zl y2), (4, zi y4)] [zl v535] m _
      refine X.lstore 32 [(0, zr 4 44), (1, zi y1), (2, zl y2), (4, zi y4), (5, zl v535)] i238_30 rfl rfl rfl ?_
      refine X.lload 34 i238_32 rfl rfl rfl ?_
      refine X.lload_n 35 i238_34 rfl rfl rfl ?_
      refine X.lcmp 36 i238_35 rfl rfl (fun z536 hz536 => ?_)
      refine X.ifle 44 39 i238_36 rfl rfl rfl (fun h537 => ?_) (fun h537 => ?_)
      · have h537c : v535 ≤ y2 := by omega
        clear h537 hz536
        refine X.cut [(0, zr 4 44), (1, zi y1), (2, zl y2), (4, zi y4)] i238_44 rfl ?_
        refine X.lload_n 45 i238_44 rfl rfl rfl ?_
        refine X.cut [(0, zr 4 44), (1, zi y1), (4, zi y4)] i238_45 rfl ?_
        refine X.lstore_n 46 [(0, zr 4 44), (1, zi y1), (2, zl y2), (4, zi y4)] i238_45 rfl rfl rfl ?_
        refine X.iinc 49 [(0, zr 4 44), (1, zi y1), (2, zl y2), (4, zi (y4 + 1))] i238_46 rfl rfl rfl (by omega) rfl ?_
        refine X.goto 5 i238_49 rfl rfl ?_
        exact ih y2 (y4 + 1) (by omega) (by omega) (by omega)
      · have h537c : v535 > y2 := by omega
        clear h537 hz536
        refine X.lload 41 i238_39 rfl rfl rfl ?_
        refine X.goto 45 i238_41 rfl rfl ?_
        refine X.cut [(0, zr 4 44), (1, zi y1), (4, zi y4)] i238_45 rfl ?_
        refine X.lstore_n 46 [(0, zr 4 44), (1, zi y1), (2, zl v535), (4, zi y4)] i238_45 rfl rfl rfl ?_
        refine X.iinc 49 [(0, zr 4 44), (1, zi y1), (2, zl v535), (4, zi (y4 + 1))] i238_46 rfl rfl rfl (by omega) rfl ?_
        refine X.goto 5 i238_49 rfl rfl ?_
        exact ih v535 (y4 + 1) (by omega) (by omega) (by omega)
-- WorkMeterModel.greatestRoot
theorem c238_1 {s : Nat × (Nat → Int32)} {S : zS} {m0 m : zM} {B : Int} {d : Nat} {Q : Option zV → zM → Prop} (a1 : Int) (hd : 14 ≤ d) (hJ : J S m0 B m) (hB : B + 0 ≤ 1000000000) (ha1 : 95 ≤ a1 ∧ a1 ≤ 95) (hQ : ∀ (v : Int), (0 ≤ v ∧ v ≤ 3000000000) → Q (some (zl v)) m) : X (EE s) d 238 0 [(0, zr 4 44), (1, zi a1)] [] m Q := by
  refine X.lconst (y := 0) 1 i238_0 rfl rfl rfl ?_
  refine X.lstore_n 2 [(0, zr 4 44), (1, zi a1), (2, zl 0)] i238_1 rfl rfl rfl ?_
  refine X.iconst 3 i238_2 rfl rfl (by decide) ?_
  refine X.istore 5 [(0, zr 4 44), (1, zi a1), (2, zl 0), (4, zi 0)] i238_3 rfl rfl rfl ?_
  refine l238_5_1 (s := s) (S := S) (m0 := m0) (m := m) (B := B) (d := d)  a1 (by omega) (hJ.up (by omega)) (by omega) (by omega) (fun y501 hby501 => ?_) ((3 - 0 : Int).toNat + 1) 0 0 (by omega) (by omega) (by omega)
  refine X.lload_n 53 i238_52 rfl rfl rfl ?_
  refine X.retl i238_53 rfl t238 ?_
  exact hQ y501 (by first | trivial | omega) 
theorem l238_5_2 {s : Nat × (Nat → Int32)} {S : zS} {m0 m : zM} {B : Int} {d : Nat} {Q : Option zV → zM → Prop} (y1 : Int) (hd : 14 ≤ d) (hJ : J S m0 B m) (hB9 : B ≤ 1000000000) (hy1 : 143 ≤ y1 ∧ y1 ≤ 143)
    (K52 : ∀ (x2 : Int) , (0 ≤ x2 ∧ x2 ≤ 3000000000) → X (EE s) d 238 52 [(2, zl x2)] [] m Q) :
    ∀ (n : Nat) (y2 y4 : Int) , (0 ≤ y2 ∧ y2 ≤ 3000000000) → (0 ≤ y4 ∧ y4 ≤ 3) → 3 - y4 < (n : Int) → X (EE s) d 238 5 [(0, zr 4 44), (1, zi y1), (2, zl y2), (4, zi y4)] [] m Q := by
  intro n
  induction n with
  | zero =>
    intro y2 y4 hy2 hy4 hn
    exfalso
    omega
  | succ n ih =>
    intro y2 y4 hy2 hy4 hn
    refine X.iload 7 i238_5 rfl rfl rfl ?_
    refine X.aload_n 8 i238_7 rfl rfl rfl ?_
    refine X.callv 11 [] [zi y4] [(0, zr 4 44)] i238_8 rfl (by decide) rfl rfl (by omega) rfl rfl (by decide) rfl t206 (Nat.le_of_ble_eq_true rfl) (Nat.le_of_ble_eq_true rfl) rfl ?_
    refine X.aload_n 1 i206_0 rfl rfl rfl ?_
    refine X.getF 4 i206_1 rfl rfl (by decide) rfl rfl ?_
    refine X.iconst 5 i206_4 rfl rfl (by decide) ?_
    refine X.lald 6 i206_5 rfl rfl (by decide) rfl (by omega) ?_
    have h526 := r45_1 hJ 4
    refine X.l2i 7 i206_6 rfl rfl (by omega) ?_
    refine X.reti i206_7 rfl t206 ?_
    show X (EE s) d 238 11 [(0, zr 4 44), (1, zi y1), (2, zl y2), (4, zi y4)] [zi (m 4 45 1), zi y4] m _
    refine X.icmpge 52 14 i238_11 rfl rfl rfl (fun h527 => ?_) (fun h527 => ?_)
    · refine X.cut [(2, zl y2)] i238_52 rfl ?_
      exact K52 y2 (by first | trivial | omega)
    · refine X.aload_n 15 i238_14 rfl rfl rfl ?_
      refine X.iload_n 16 i238_15 rfl rfl rfl ?_
      refine X.iload 18 i238_16 rfl rfl rfl ?_
      refine X.callv 21 [zi y1, zi y4] [] [(0, zr 4 44), (1, zi y1), (2, zi y4)] i238_18 rfl (by decide) rfl rfl (by omega) rfl rfl (by decide) rfl t213 (Nat.le_of_ble_eq_true rfl) (Nat.le_of_ble_eq_true rfl) rfl ?_
      refine c213_1 (B := B)  y1 y4 (by omega) (hJ.up (by omega)) (by omega) (by omega) (by omega) (fun v530 hv530 => ?_)
      show X (EE s) d 238 21 [(0, zr 4 44), (1, zi y1), (2, zl y2), (4, zi y4)] [zl v530] m _
      refine X.aload_n 22 i238_21 rfl rfl rfl ?_
      refine X.callv 25 [] [zl v530] [(0, zr 4 44)] i238_22 rfl (by decide) rfl rfl (by omega) rfl rfl (by decide) rfl t211 (Nat.le_of_ble_eq_true rfl) (Nat.le_of_ble_eq_true rfl) rfl ?_
      refine X.aload_n 1 i211_0 rfl rfl rfl ?_
      refine X.getF 4 i211_1 rfl rfl (by decide) rfl rfl ?_
      refine X.iconst 5 i211_4 rfl rfl (by decide) ?_
      refine X.lald 6 i211_5 rfl rfl (by decide) rfl (by omega) ?_
      have h531 := r45_2 hJ 4
      refine X.l2i 7 i211_6 rfl rfl (by omega) ?_
      refine X.reti i211_7 rfl t211 ?_
      show X (EE s) d 238 25 [(0, zr 4 44), (1, zi y1), (2, zl y2), (4, zi y4)] [zi (m 4 45 2), zl v530] m _
      refine X.i2l 26 i238_25 rfl rfl ?_
      refine X.ldivF 27 i238_26 rfl rfl (by omega) (fun z532 => ?_)
      refine X.calls 30 [zl z532] [] [(0, zl z532)] i238_27 (by decide) rfl rfl (by omega) rfl rfl t214 (Nat.le_of_ble_eq_true rfl) (Nat.le_of_ble_eq_true rfl) rfl ?_
      refine c214_1 (B := B)  z532 (by omega) (hJ.up (by omega)) (by omega)  (fun v535 hv535 => ?_)
      show X (EE s) d 238 30 [(0, zr 4 44), (1, zi y1), (2, zl y2), (4, zi y4)] [zl v535] m _
      refine X.lstore 32 [(0, zr 4 44), (1, zi y1), (2, zl y2), (4, zi y4), (5, zl v535)] i238_30 rfl rfl rfl ?_
      refine X.lload 34 i238_32 rfl rfl rfl ?_
      refine X.lload_n 35 i238_34 rfl rfl rfl ?_
      refine X.lcmp 36 i238_35 rfl rfl (fun z536 hz536 => ?_)
      refine X.ifle 44 39 i238_36 rfl rfl rfl (fun h537 => ?_) (fun h537 => ?_)
      · have h537c : v535 ≤ y2 := by omega
        clear h537 hz536
        refine X.cut [(0, zr 4 44), (1, zi y1), (2, zl y2), (4, zi y4)] i238_44 rfl ?_
        refine X.lload_n 45 i238_44 rfl rfl rfl ?_
        refine X.cut [(0, zr 4 44), (1, zi y1), (4, zi y4)] i238_45 rfl ?_
        refine X.lstore_n 46 [(0, zr 4 44), (1, zi y1), (2, zl y2), (4, zi y4)] i238_45 rfl rfl rfl ?_
        refine X.iinc 49 [(0, zr 4 44), (1, zi y1), (2, zl y2), (4, zi (y4 + 1))] i238_46 rfl rfl rfl (by omega) rfl ?_
        refine X.goto 5 i238_49 rfl rfl ?_
        exact ih y2 (y4 + 1) (by omega) (by omega) (by omega)
      · have h537c : v535 > y2 := by omega
        clear h537 hz536
        refine X.lload 41 i238_39 rfl rfl rfl ?_
        refine X.goto 45 i238_41 rfl rfl ?_
        refine X.cut [(0, zr 4 44), (1, zi y1), (4, zi y4)] i238_45 rfl ?_
        refine X.lstore_n 46 [(0, zr 4 44), (1, zi y1), (2, zl v535), (4, zi y4)] i238_45 rfl rfl rfl ?_
        refine X.iinc 49 [(0, zr 4 44), (1, zi y1), (2, zl v535), (4, zi (y4 + 1))] i238_46 rfl rfl rfl (by omega) rfl ?_
        refine X.goto 5 i238_49 rfl rfl ?_
        exact ih v535 (y4 + 1) (by omega) (by omega) (by omega)
-- WorkMeterModel.greatestRoot
theorem c238_2 {s : Nat × (Nat → Int32)} {S : zS} {m0 m : zM} {B : Int} {d : Nat} {Q : Option zV → zM → Prop} (a1 : Int) (hd : 14 ≤ d) (hJ : J S m0 B m) (hB : B + 0 ≤ 1000000000) (ha1 : 143 ≤ a1 ∧ a1 ≤ 143) (hQ : ∀ (v : Int), (0 ≤ v ∧ v ≤ 3000000000) → Q (some (zl v)) m) : X (EE s) d 238 0 [(0, zr 4 44), (1, zi a1)] [] m Q := by
  refine X.lconst (y := 0) 1 i238_0 rfl rfl rfl ?_
  refine X.lstore_n 2 [(0, zr 4 44), (1, zi a1), (2, zl 0)] i238_1 rfl rfl rfl ?_
  refine X.iconst 3 i238_2 rfl rfl (by decide) ?_
  refine X.istore 5 [(0, zr 4 44), (1, zi a1), (2, zl 0), (4, zi 0)] i238_3 rfl rfl rfl ?_
  refine l238_5_2 (s := s) (S := S) (m0 := m0) (m := m) (B := B) (d := d)  a1 (by omega) (hJ.up (by omega)) (by omega) (by omega) (fun y501 hby501 => ?_) ((3 - 0 : Int).toNat + 1) 0 0 (by omega) (by omega) (by omega)
  refine X.lload_n 53 i238_52 rfl rfl rfl ?_
  refine X.retl i238_53 rfl t238 ?_
  exact hQ y501 (by first | trivial | omega) 
