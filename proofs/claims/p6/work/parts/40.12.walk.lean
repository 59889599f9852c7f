theorem l269_40_1 {s : Nat × (Nat → Int32)} {S : zS} {m0 : zM} {d : Nat} {Q : Option zV → zM → Prop} {R0 : zM} {k175 : zM → zM} (y1 : Int) (c8 c9 : Int) (BE : Int) (hE : BE ≤ 1000000000) (hd : 15 ≤ d) (hy1 : 0 ≤ y1 ∧ y1 ≤ 7) (hf1 : ¬ S.1 1) (hf16 : ¬ S.1 16) (hf19 : ¬ S.1 19) (hg4 : ¬ S.2.1 4)
    (K175 : ∀ (m' : zM) (B' : Int), J S m0 B' m' → B' ≤ BE → (c8 ≤ m' 4 44 8) → (c9 ≤ m' 4 44 9) → R0 = k175 m' → X (EE s) d 269 175 [] [] m' Q) :
    ∀ (n : Nat) (m : zM) (B : Int), J S m0 B m → B + 0 * (n : Int) ≤ BE → (c8 ≤ m 4 44 8) → (c9 ≤ m 4 44 9) → 604 - m 4 44 8 - 302 * m 4 44 9 < (n : Int) → R0 = fl269_40_1 k175 y1 n m → X (EE s) d 269 40 [(0, zr 4 44), (1, zi y1)] [] m Q := by
  intro n
  induction n with
  | zero =>
    intro  m B hJ hB hr0 hr1 hn hR
    have zf0 := r44_8 hJ 4
    have zf1 := r44_9 hJ 4
    exfalso
    omega
  | succ n ih =>
    intro  m B hJ hB hr0 hr1 hn hR
    replace hR : R0 = fl269_40_1_b (fl269_40_1 k175 y1 n) k175 y1 m := hR
    refine X.aload_n 41 i269_40 rfl rfl rfl ?_
    refine X.getZ 44 9 i269_41 rfl rfl (by decide) rfl rfl rfl (fun h558 => ?_)
    refine X.ifne 175 47 i269_44 rfl rfl rfl (fun h559 => ?_) (fun h559 => ?_)
    · refine X.cut [] i269_175 rfl ?_
      exact K175  m (B) (hJ.up (by omega)) (by omega) (by omega) (by omega) (Eq.trans hR (Eq.trans (if_neg h559) rfl))
    · refine X.aload_n 48 i269_47 rfl rfl rfl ?_
      refine X.callv 51 [] [] [(0, zr 4 44)] i269_48 rfl (by decide) rfl rfl (by omega) rfl rfl (by decide) rfl t271 (Nat.le_of_ble_eq_true rfl) (Nat.le_of_ble_eq_true rfl) rfl ?_
      refine c271_1 (B := B)   (by omega) (hJ.up (by omega)) (by omega)  hf19 hg4 (fun v562 m560 hv562 hFv562 hJ561 hqv562_0 hqv562_1 => ?_)
      show X (EE s) d 269 51 [(0, zr 4 44), (1, zi y1)] [zi v562] m560 _
      refine X.ifeq 175 54 i269_51 rfl rfl rfl (fun h563 => ?_) (fun h563 => ?_)
      · refine X.cut [] i269_175 rfl ?_
        exact K175  m560 (B) (hJ561.up (by omega)) (by omega) (by omega) (by omega) (Eq.trans hR (Eq.trans (if_pos h559) (Eq.trans (zb_eq hFv562) (Eq.trans (if_pos h563) rfl))))
      · refine X.aload_n 55 i269_54 rfl rfl rfl ?_
        refine X.iconst 56 i269_55 rfl rfl (by decide) ?_
        refine X.bipush 58 i269_56 rfl rfl (by decide) ?_
        refine X.callv 61 [zi 0, zi 23] [] [(0, zr 4 44), (1, zi 0), (2, zi 23)] i269_58 rfl (by decide) rfl rfl (by omega) rfl rfl (by decide) rfl t270 (Nat.le_of_ble_eq_true rfl) (Nat.le_of_ble_eq_true rfl) rfl ?_
        refine c270_1 (B := B)  0 23 (by omega) (hJ561.up (by omega)) (by omega) (by omega) (by omega) hf16 hf19 hg4 (fun v566 m564 hv566 hFv566 hJ565 hqv566_0 hqv566_1 hqv566_2 hqv566_3 => ?_)
        show X (EE s) d 269 61 [(0, zr 4 44), (1, zi y1)] [zi v566] m564 _
        refine X.istore_n 62 [(0, zr 4 44), (1, zi y1), (2, zi v566)] i269_61 rfl rfl rfl ?_
        refine X.aload_n 63 i269_62 rfl rfl rfl ?_
        refine X.getZ 66 9 i269_63 rfl rfl (by decide) rfl rfl rfl (fun h567 => ?_)
        have hK579 : ∀ (m' : zM), (if (m564 4 44 9) = 0 then
            (if (m564 4 45 (287 + y1)) = 6 then
            (zs (f268_1 4 (m564 4 44 10) m564) fun m573 =>
            m573)
            else
            (m564))
            else
            (m564)) = m' → J S m0 (B) m' → X (EE s) d 269 95 [(0, zr 4 44), (1, zi y1), (2, zi v566)] [] m' Q := by
          intro m577 hT580 hJ578
          refine X.aload_n 96 i269_95 rfl rfl rfl ?_
          refine X.bipush 98 i269_96 rfl rfl (by decide) ?_
          refine X.callv 101 [zi 58] [] [(0, zr 4 44), (1, zi 58)] i269_98 rfl (by decide) rfl rfl (by omega) rfl rfl (by decide) rfl t272 (Nat.le_of_ble_eq_true rfl) (Nat.le_of_ble_eq_true rfl) rfl ?_
          refine c272_1 (B := B)  58 (by omega) (hJ578.up (by omega)) (by omega) (by omega) hf16 hf19 hg4 (fun m581 hFv583 hJ582 hqv583_0 hqv583_1 hqv583_2 => ?_)
          show X (EE s) d 269 101 [(0, zr 4 44), (1, zi y1), (2, zi v566)] [] m581 _
          refine X.aload_n 102 i269_101 rfl rfl rfl ?_
          refine X.iconst 103 i269_102 rfl rfl (by decide) ?_
          refine X.bipush 105 i269_103 rfl rfl (by decide) ?_
          refine X.callv 108 [zi 0, zi 59] [] [(0, zr 4 44), (1, zi 0), (2, zi 59)] i269_105 rfl (by decide) rfl rfl (by omega) rfl rfl (by decide) rfl t270 (Nat.le_of_ble_eq_true rfl) (Nat.le_of_ble_eq_true rfl) rfl ?_
          refine c270_1 (B := B)  0 59 (by omega) (hJ582.up (by omega)) (by omega) (by omega) (by omega) hf16 hf19 hg4 (fun v586 m584 hv586 hFv586 hJ585 hqv586_0 hqv586_1 hqv586_2 hqv586_3 => ?_)
          show X (EE s) d 269 108 [(0, zr 4 44), (1, zi y1), (2, zi v566)] [zi v586] m584 _
          refine X.istore_n 109 [(0, zr 4 44), (1, zi y1), (2, zi v566), (3, zi v586)] i269_108 rfl rfl rfl ?_
          refine X.sipush 112 i269_109 rfl rfl (by decide) ?_
          refine X.iload_n 113 i269_112 rfl rfl rfl ?_
          refine X.imul 114 i269_113 rfl rfl (by omega) ?_
          refine X.bipush 116 i269_114 rfl rfl (by decide) ?_
          refine X.iload_n 117 i269_116 rfl rfl rfl ?_
          refine X.imul 118 i269_117 rfl rfl (by omega) ?_
          refine X.iadd 119 i269_118 rfl rfl (by omega) ?_
          refine X.istore 121 [(0, zr 4 44), (1, zi y1), (2, zi v566), (3, zi v586), (4, zi ((3600 * v566) + (60 * v586)))] i269_119 rfl rfl rfl ?_
          refine X.aload_n 122 i269_121 rfl rfl rfl ?_
          refine X.getZ 125 9 i269_122 rfl rfl (by decide) rfl rfl rfl (fun h587 => ?_)
          have hK600 : ∀ (m' : zM), (if (m584 4 44 9) = 0 then
              (zn (f273_1 y1 ((3600 * v566) + (60 * v586)) m584) fun v591 =>
              if v591 = 0 then
              (m584)
              else
              (zs (f268_1 3 (m584 4 44 10) m584) fun m594 =>
              m594))
              else
              (m584)) = m' → J S m0 (B) m' → X (EE s) d 269 147 [(0, zr 4 44), (1, zi y1), (4, zi ((3600 * v566) + (60 * v586)))] [] m' Q := by
            intro m598 hT601 hJ599
            refine X.aload_n 148 i269_147 rfl rfl rfl ?_
            refine X.iconst 149 i269_148 rfl rfl (by decide) ?_
            refine X.iconst 150 i269_149 rfl rfl (by decide) ?_
            refine X.callv 153 [zi 0, zi 3] [] [(0, zr 4 44), (1, zi 0), (2, zi 3)] i269_150 rfl (by decide) rfl rfl (by omega) rfl rfl (by decide) rfl t270 (Nat.le_of_ble_eq_true rfl) (Nat.le_of_ble_eq_true rfl) rfl ?_
            refine c270_1 (B := B)  0 3 (by omega) (hJ599.up (by omega)) (by omega) (by omega) (by omega) hf16 hf19 hg4 (fun v604 m602 hv604 hFv604 hJ603 hqv604_0 hqv604_1 hqv604_2 hqv604_3 => ?_)
            show X (EE s) d 269 153 [(0, zr 4 44), (1, zi y1), (4, zi ((3600 * v566) + (60 * v586)))] [zi v604] m602 _
            refine X.istore 155 [(0, zr 4 44), (1, zi y1), (4, zi ((3600 * v566) + (60 * v586))), (5, zi v604)] i269_153 rfl rfl rfl ?_
            refine X.aload_n 156 i269_155 rfl rfl rfl ?_
            refine X.getZ 159 9 i269_156 rfl rfl (by decide) rfl rfl rfl (fun h605 => ?_)
            have hK613 : ∀ (m' : zM), (if (m602 4 44 9) = 0 then
                (zb (f243_1 y1 ((3600 * v566) + (60 * v586)) v604 m602) fun v609 m607 =>
                m607)
                else
                (m602)) = m' → J S m0 (B) m' → X (EE s) d 269 172 [(0, zr 4 44), (1, zi y1)] [] m' Q := by
              intro m611 hT614 hJ612
              refine X.goto 40 i269_172 rfl rfl ?_
              exact ih  m611 (B) (hJ612.up (by omega)) (by omega) (by omega) (by omega) (by omega) (Eq.trans hR (Eq.trans (if_pos h559) (Eq.trans (zb_eq hFv562) (Eq.trans (if_neg h563) (Eq.trans (zb_eq hFv566) (Eq.trans (zs_eq hT580.symm) (Eq.trans (zs_eq hFv583.symm) (Eq.trans (zb_eq hFv586) (Eq.trans (zs_eq hT601.symm) (Eq.trans (zb_eq hFv604) (Eq.trans (zs_eq hT614.symm) rfl)))))))))))
            refine X.ifne 172 162 i269_159 rfl rfl rfl (fun h606 => ?_) (fun h606 => ?_)
            · refine X.cut [(0, zr 4 44), (1, zi y1)] i269_172 rfl ?_
              exact hK613 m602 (Eq.trans (if_neg h606) rfl) (hJ603.up (by omega))
            · refine X.aload_n 163 i269_162 rfl rfl rfl ?_
              refine X.iload_n 164 i269_163 rfl rfl rfl ?_
              refine X.iload 166 i269_164 rfl rfl rfl ?_
              refine X.iload 168 i269_166 rfl rfl rfl ?_
              refine X.callv 171 [zi y1, zi ((3600 * v566) + (60 * v586)), zi v604] [] [(0, zr 4 44), (1, zi y1), (2, zi ((3600 * v566) + (60 * v586))), (3, zi v604)] i269_168 rfl (by decide) rfl rfl (by omega) rfl rfl (by decide) rfl t243 (Nat.le_of_ble_eq_true rfl) (Nat.le_of_ble_eq_true rfl) rfl ?_
              refine c243_1 (B := B)  y1 ((3600 * v566) + (60 * v586)) v604 (by omega) (hJ603.up (by omega)) (by omega) (by omega) (by omega) (by omega) hf1 hg4 (fun v609 m607 hv609 hFv609 hJ608 hqv609_0 hqv609_1 => ?_)
              show X (EE s) d 269 171 [(0, zr 4 44), (1, zi y1), (4, zi ((3600 * v566) + (60 * v586))), (5, zi v604)] [zi v609] m607 _
              refine X.pop 172 i269_171 rfl rfl rfl ?_
              refine X.cut [(0, zr 4 44), (1, zi y1)] i269_172 rfl ?_
              exact hK613 m607 (Eq.trans (if_pos h606) (Eq.trans (zb_eq hFv609) rfl)) (hJ608.up (by omega))
          refine X.ifne 147 128 i269_125 rfl rfl rfl (fun h588 => ?_) (fun h588 => ?_)
          · refine X.cut [(0, zr 4 44), (1, zi y1), (4, zi ((3600 * v566) + (60 * v586)))] i269_147 rfl ?_
            exact hK600 m584 (Eq.trans (if_neg h588) rfl) (hJ585.up (by omega))
          · refine X.aload_n 129 i269_128 rfl rfl rfl ?_
            refine X.iload_n 130 i269_129 rfl rfl rfl ?_
            refine X.iload 132 i269_130 rfl rfl rfl ?_
            refine X.callv 135 [zi y1, zi ((3600 * v566) + (60 * v586))] [] [(0, zr 4 44), (1, zi y1), (2, zi ((3600 * v566) + (60 * v586)))] i269_132 rfl (by decide) rfl rfl (by omega) rfl rfl (by decide) rfl t273 (Nat.le_of_ble_eq_true rfl) (Nat.le_of_ble_eq_true rfl) rfl ?_
            refine c273_1 (B := B)  y1 ((3600 * v566) + (60 * v586)) (by omega) (hJ585.up (by omega)) (by omega) (by omega) (by omega) (fun v591 hv591 hFv591 => ?_)
            show X (EE s) d 269 135 [(0, zr 4 44), (1, zi y1), (2, zi v566), (3, zi v586), (4, zi ((3600 * v566) + (60 * v586)))] [zi v591] m584 _
            refine X.ifeq 147 138 i269_135 rfl rfl rfl (fun h592 => ?_) (fun h592 => ?_)
            · refine X.cut [(0, zr 4 44), (1, zi y1), (4, zi ((3600 * v566) + (60 * v586)))] i269_147 rfl ?_
              exact hK600 m584 (Eq.trans (if_pos h588) (Eq.trans (zn_eq hFv591.symm) (Eq.trans (if_pos h592) rfl))) (hJ585.up (by omega))
            · refine X.aload_n 139 i269_138 rfl rfl rfl ?_
              refine X.iconst 140 i269_139 rfl rfl (by decide) ?_
              refine X.aload_n 141 i269_140 rfl rfl rfl ?_
              refine X.getIr 144 10 i269_141 rfl rfl (by decide) rfl rfl rfl (fun h593 => ?_)
              refine X.callv 147 [zi 3, zi (m584 4 44 10)] [] [(0, zr 4 44), (1, zi 3), (2, zi (m584 4 44 10))] i269_144 rfl (by decide) rfl rfl (by omega) rfl rfl (by decide) rfl t268 (Nat.le_of_ble_eq_true rfl) (Nat.le_of_ble_eq_true rfl) rfl ?_
              refine c268_5 (B := B)  3 (m584 4 44 10) (by omega) (hJ585.up (by omega)) (by omega) (by omega) (by omega) hf16 hf19 hg4 (fun m594 hFv596 hJ595 hqv596_0 hqv596_1 hqv596_2 => ?_)
              show X (EE s) d 269 147 [(0, zr 4 44), (1, zi y1), (2, zi v566), (3, zi v586), (4, zi ((3600 * v566) + (60 * v586)))] [] m594 _
              refine X.cut [(0, zr 4 44), (1, zi y1), (4, zi ((3600 * v566) + (60 * v586)))] i269_147 rfl ?_
              exact hK600 m594 (Eq.trans (if_pos h588) (Eq.trans (zn_eq hFv591.symm) (Eq.trans (if_neg h592) (Eq.trans (zs_eq hFv596.symm) rfl)))) (hJ595.up (by omega))
        refine X.ifne 95 69 i269_66 rfl rfl rfl (fun h568 => ?_) (fun h568 => ?_)
        · exact hK579 m564 (Eq.trans (if_neg h568) rfl) (hJ565.up (by omega))
        · refine X.aload_n 70 i269_69 rfl rfl rfl ?_
          refine X.getF 73 i269_70 rfl rfl (by decide) rfl rfl ?_
          refine X.sipush 76 i269_73 rfl rfl (by decide) ?_
          refine X.iload_n 77 i269_76 rfl rfl rfl ?_
          refine X.iadd 78 i269_77 rfl rfl (by omega) ?_
          refine X.lald 79 i269_78 rfl rfl (by decide) rfl (by omega) ?_
          have h569 := r45_287 hJ565 4 (i := (287 + y1)) (by omega)
          refine X.ldc2 82 i269_79 rfl rfl (by decide) ?_
          refine X.lcmp 83 i269_82 rfl rfl (fun z570 hz570 => ?_)
          refine X.ifne 95 86 i269_83 rfl rfl rfl (fun h571 => ?_) (fun h571 => ?_)
          · have h571c : ¬ (m564 4 45 (287 + y1)) = 6 := by omega
            clear h571 hz570
            exact hK579 m564 (Eq.trans (if_pos h568) (Eq.trans (if_neg h571c) rfl)) (hJ565.up (by omega))
          · have h571c : (m564 4 45 (287 + y1)) = 6 := by omega
            clear h571 hz570
            refine X.aload_n 87 i269_86 rfl rfl rfl ?_
            refine X.iconst 88 i269_87 rfl rfl (by decide) ?_
            refine X.aload_n 89 i269_88 rfl rfl rfl ?_
            refine X.getIr 92 10 i269_89 rfl rfl (by decide) rfl rfl rfl (fun h572 => ?_)
            refine X.callv 95 [zi 4, zi (m564 4 44 10)] [] [(0, zr 4 44), (1, zi 4), (2, zi (m564 4 44 10))] i269_92 rfl (by decide) rfl rfl (by omega) rfl rfl (by decide) rfl t268 (Nat.le_of_ble_eq_true rfl) (Nat.le_of_ble_eq_true rfl) rfl ?_
            refine c268_6 (B := B)  4 (m564 4 44 10) (by omega) (hJ565.up (by omega)) (by omega) (by omega) (by omega) hf16 hf19 hg4 (fun m573 hFv575 hJ574 hqv575_0 hqv575_1 hqv575_2 => ?_)
            show X (EE s) d 269 95 [(0, zr 4 44), (1, zi y1), (2, zi v566)] [] m573 _
            exact hK579 m573 (Eq.trans (if_pos h568) (Eq.trans (if_pos h571c) (Eq.trans (zs_eq hFv575.symm) rfl))) (hJ574.up (by omega))
-- WorkMeterModel.tableLine
noncomputable def f269_1 (m : zM) : zM :=
  zb (f270_1 0 7 m) fun v503 m501 =>
  zs (if (m501 4 44 9) = 0 then
  (if (m501 4 49 v503) = 0 then
  (m501)
  else
  (zs (f268_1 3 (m501 4 44 10) m501) fun m509 =>
  m509))
  else
  (m501)) fun m513 =>
  zs (z_upd m513 4 49 v503 1) fun m517 =>
  fl269_40_1 (fun m519 =>
  m519) v503 (zfu 605) m517
-- WorkMeterModel.tableLine
theorem c269_1 {s : Nat × (Nat → Int32)} {S : zS} {m0 m : zM} {B : Int} {d : Nat} {Q : Option zV → zM → Prop} (hd : 15 ≤ d) (hJ : J S m0 B m) (hB : B + 0 ≤ 1000000000) (hf1 : ¬ S.1 1) (hf16 : ¬ S.1 16) (hf19 : ¬ S.1 19) (hg4 : ¬ S.2.1 4) (hQ : ∀ m', f269_1 m = m' → J S m0 (B) m' → (m 4 44 8 ≤ m' 4 44 8) → (m 4 44 9 ≤ m' 4 44 9) → Q none m') : X (EE s) d 269 0 [(0, zr 4 44)] [] m Q := by
  refine X.aload_n 1 i269_0 rfl rfl rfl ?_
  refine X.iconst 2 i269_1 rfl rfl (by decide) ?_
  refine X.bipush 4 i269_2 rfl rfl (by decide) ?_
  refine X.callv 7 [zi 0, zi 7] [] [(0, zr 4 44), (1, zi 0), (2, zi 7)] i269_4 rfl (by decide) rfl rfl (by omega) rfl rfl (by decide) rfl t270 (Nat.le_of_ble_eq_true rfl) (Nat.le_of_ble_eq_true rfl) rfl ?_
  refine c270_1 (B := B)  0 7 (by omega) (hJ.up (by omega)) (by omega) (by omega) (by omega) hf16 hf19 hg4 (fun v503 m501 hv503 hFv503 hJ502 hqv503_0 hqv503_1 hqv503_2 hqv503_3 => ?_)
  show X (EE s) d 269 7 [(0, zr 4 44)] [zi v503] m501 _
  refine X.istore_n 8 [(0, zr 4 44), (1, zi v503)] i269_7 rfl rfl rfl ?_
  refine X.aload_n 9 i269_8 rfl rfl rfl ?_
  refine X.getZ 12 9 i269_9 rfl rfl (by decide) rfl rfl rfl (fun h504 => ?_)
  have hK515 : ∀ (m' : zM), (if (m501 4 44 9) = 0 then
      (if (m501 4 49 v503) = 0 then
      (m501)
      else
      (zs (f268_1 3 (m501 4 44 10) m501) fun m509 =>
      m509))
      else
      (m501)) = m' → J S m0 (B) m' → X (EE s) d 269 33 [(0, zr 4 44), (1, zi v503)] [] m' Q := by
    intro m513 hT516 hJ514
    refine X.aload_n 34 i269_33 rfl rfl rfl ?_
    refine X.getF 37 i269_34 rfl rfl (by decide) rfl rfl ?_
    refine X.iload_n 38 i269_37 rfl rfl rfl ?_
    refine X.iconst 39 i269_38 rfl rfl (by decide) ?_
    refine X.zast' 40 i269_39 rfl rfl (by decide) rfl (by omega) (by omega) (fun hrm517 m517 hm517 => ?_)
    have hJ518 := w49_0 hJ514 hm517 (by omega) hrm517 hf19 hg4
    have wmm517_8 : m517 4 44 8 = m513 4 44 8 := by rw [hm517]; exact z_upd_o _ _ rfl
    have wmm517_9 : m517 4 44 9 = m513 4 44 9 := by rw [hm517]; exact z_upd_o _ _ rfl
    have wmm517_10 : m517 4 44 10 = m513 4 44 10 := by rw [hm517]; exact z_upd_o _ _ rfl
    have hz605 := zfu_eq 605
    have zf523 := r44_8 hJ518 4
    have zf524 := r44_9 hJ518 4
    refine l269_40_1 (s := s) (d := d) (R0 := (f269_1 m))  v503 (m517 4 44 8) (m517 4 44 9) (BE := B + 0) (by omega) (by omega) (by omega) hf1 hf16 hf19 hg4 (fun  m519 B520 hJ521 hBB520 hrlm519_0 hrlm519_1 hR522 => ?_) (zfu 605)  m517 (B) (hJ518.up (by omega)) (by omega) (by omega) (by omega) (by omega) (Eq.trans (zb_eq hFv503) (Eq.trans (zs_eq hT516.symm) (Eq.trans (zs_eq hm517) rfl)))
    refine X.retv i269_175 rfl t269 ?_
    exact hQ  m519  (Eq.trans hR522 rfl) (hJ521.up (by omega)) (by omega) (by omega)
  refine X.ifne 33 15 i269_12 rfl rfl rfl (fun h505 => ?_) (fun h505 => ?_)
  · exact hK515 m501 (Eq.trans (if_neg h505) rfl) (hJ502.up (by omega))
  · refine X.aload_n 16 i269_15 rfl rfl rfl ?_
    refine X.getF 19 i269_16 rfl rfl (by decide) rfl rfl ?_
    refine X.iload_n 20 i269_19 rfl rfl rfl ?_
    refine X.zald 21 i269_20 rfl rfl (by decide) rfl (by omega) (fun h506 => ?_)
    refine X.ifeq 33 24 i269_21 rfl rfl rfl (fun h507 => ?_) (fun h507 => ?_)
    · exact hK515 m501 (Eq.trans (if_pos h505) (Eq.trans (if_pos h507) rfl)) (hJ502.up (by omega))
    · refine X.aload_n 25 i269_24 rfl rfl rfl ?_
      refine X.iconst 26 i269_25 rfl rfl (by decide) ?_
      refine X.aload_n 27 i269_26 rfl rfl rfl ?_
      refine X.getIr 30 10 i269_27 rfl rfl (by decide) rfl rfl rfl (fun h508 => ?_)
      refine X.callv 33 [zi 3, zi (m501 4 44 10)] [] [(0, zr 4 44), (1, zi 3), (2, zi (m501 4 44 10))] i269_30 rfl (by decide) rfl rfl (by omega) rfl rfl (by decide) rfl t268 (Nat.le_of_ble_eq_true rfl) (Nat.le_of_ble_eq_true rfl) rfl ?_
      refine c268_5 (B := B)  3 (m501 4 44 10) (by omega) (hJ502.up (by omega)) (by omega) (by omega) (by omega) hf16 hf19 hg4 (fun m509 hFv511 hJ510 hqv511_0 hqv511_1 hqv511_2 => ?_)
      show X (EE s) d 269 33 [(0, zr 4 44), (1, zi v503)] [] m509 _
      exact hK515 m509 (Eq.trans (if_pos h505) (Eq.trans (if_neg h507) (Eq.trans (zs_eq hFv511.symm) rfl))) (hJ510.up (by omega))
noncomputable def fl274_60_1_b (self : Int → zM → zM) (k95 : zM → zM) (y1 : Int) (y2 : Int) (m : zM) : zM :=
  if 7 ≤ y2 then
  (k95 m)
  else
  (zb (f270_1 0 7 m) fun v510 m508 =>
  zs (z_upd m508 4 45 ((395 + (7 * y1)) + y2) v510) fun m511 =>
  self (y2 + 1) m511)
noncomputable def fl274_60_1 (k95 : zM → zM) (y1 : Int) : Nat → Int → zM → zM
  | 0 => fun y2 m => m
  | n + 1 => fl274_60_1_b (fl274_60_1 k95 y1 n) k95 y1
theorem l274_60_1 {s : Nat × (Nat → Int32)} {S : zS} {m0 : zM} {d : Nat} {Q : Option zV → zM → Prop} {R0 : zM} {k95 : zM → zM} (y1 : Int) (c8 c9 : Int) (BE : Int) (hE : BE ≤ 1000000000) (hd : 15 ≤ d) (hy1 : 0 ≤ y1 ∧ y1 ≤ 3) (hf1 : ¬ S.1 1) (hf16 : ¬ S.1 16) (hf19 : ¬ S.1 19) (hg4 : ¬ S.2.1 4)
    (K95 : ∀ (m' : zM) (B' : Int), J S m0 B' m' → B' ≤ BE → (c8 ≤ m' 4 44 8) → (c9 ≤ m' 4 44 9) → R0 = k95 m' → X (EE s) d 274 95 [] [] m' Q) :
    ∀ (n : Nat) (y2 : Int) (m : zM) (B : Int), J S m0 B m → B + 0 * (n : Int) ≤ BE → (0 ≤ y2 ∧ y2 ≤ 7) → (c8 ≤ m 4 44 8) → (c9 ≤ m 4 44 9) → 7 - y2 < (n : Int) → R0 = fl274_60_1 k95 y1 n y2 m → X (EE s) d 274 60 [(0, zr 4 44), (1, zi y1), (2, zi y2)] [] m Q := by
  intro n
  induction n with
  | zero =>
    intro y2 m B hJ hB hy2 hr0 hr1 hn hR
    exfalso
    omega
  | succ n ih =>
    intro y2 m B hJ hB hy2 hr0 hr1 hn hR
    replace hR : R0 = fl274_60_1_b (fl274_60_1 k95 y1 n) k95 y1 y2 m := hR
    refine X.iload_n 61 i274_60 rfl rfl rfl ?_
    refine X.bipush 63 i274_61 rfl rfl (by decide) ?_
    refine X.icmpge 95 66 i274_63 rfl rfl rfl (fun h507 => ?_) (fun h507 => ?_)
    · refine X.cut [] i274_95 rfl ?_
      exact K95  m (B) (hJ.up (by omega)) (by omega) (by omega) (by omega) (Eq.trans hR (Eq.trans (if_pos h507) rfl))
    · refine X.aload_n 67 i274_66 rfl rfl rfl ?_
      refine X.getF 70 i274_67 rfl rfl (by decide) rfl rfl ?_
      refine X.sipush 73 i274_70 rfl rfl (by decide) ?_
      refine X.bipush 75 i274_73 rfl rfl (by decide) ?_
      refine X.iload_n 76 i274_75 rfl rfl rfl ?_
      refine X.imul 77 i274_76 rfl rfl (by omega) ?_
      refine X.iadd 78 i274_77 rfl rfl (by omega) ?_
      refine X.iload_n 79 i274_78 rfl rfl rfl ?_
      refine X.iadd 80 i274_79 rfl rfl (by omega) ?_
      refine X.aload_n 81 i274_80 rfl rfl rfl ?_
      refine X.iconst 82 i274_81 rfl rfl (by decide) ?_
      refine X.bipush 84 i274_82 rfl rfl (by decide) ?_
      refine X.callv 87 [zi 0, zi 7] [zi ((395 + (7 * y1)) + y2), zr 4 45] [(0, zr 4 44), (1, zi 0), (2, zi 7)] i274_84 rfl (by decide) rfl rfl (by omega) rfl rfl (by decide) rfl t270 (Nat.le_of_ble_eq_true rfl) (Nat.le_of_ble_eq_true rfl) rfl ?_
      refine c270_1 (B := B)  0 7 (by omega) (hJ.up (by omega)) (by omega) (by omega) (by omega) hf16 hf19 hg4 (fun v510 m508 hv510 hFv510 hJ509 hqv510_0 hqv510_1 hqv510_2 hqv510_3 => ?_)
      show X (EE s) d 274 87 [(0, zr 4 44), (1, zi y1), (2, zi y2)] [zi v510, zi ((395 + (7 * y1)) + y2), zr 4 45] m508 _
      refine X.i2l 88 i274_87 rfl rfl ?_
      refine X.last' 89 i274_88 rfl rfl (by decide) rfl (by omega) (fun hrm511 m511 hm511 => ?_)
      have hJ512 := w45_395 hJ509 hm511 (by omega) (by omega) hf1 hg4
      have wmm511_8 : m511 4 44 8 = m508 4 44 8 := by rw [hm511]; exact z_upd_o _ _ rfl
      have wmm511_9 : m511 4 44 9 = m508 4 44 9 := by rw [hm511]; exact z_upd_o _ _ rfl
      have wmm511_10 : m511 4 44 10 = m508 4 44 10 := by rw [hm511]; exact z_upd_o _ _ rfl
      refine X.iinc 92 [(0, zr 4 44), (1, zi y1), (2, zi (y2 + 1))] i274_89 rfl rfl rfl (by omega) rfl ?_
      refine X.goto 60 i274_92 rfl rfl ?_
      exact ih (y2 + 1) m511 (B) (hJ512.up (by omega)) (by omega) (by omega) (by omega) (by omega) (by omega) (Eq.trans hR (Eq.trans (if_neg h507) (Eq.trans (zb_eq hFv510) (Eq.trans (zs_eq hm511) rfl))))
-- WorkMeterModel.seasonLine
noncomputable def f274_1 (m : zM) : zM :=
  zb (f270_1 0 3 m) fun v503 m501 =>
  zs (if (m501 4 44 9) = 0 then
  (if (m501 4 50 v503) = 0 then
  (m501)
  else
  (zs (f268_1 3 (m501 4 44 10) m501) fun m509 =>
  m509))
  else
  (m501)) fun m513 =>
  zs (z_upd m513 4 50 v503 1) fun m517 =>
  zb (f270_1 0 364 m517) fun v521 m519 =>
  zs (z_upd m519 4 45 (391 + v503) v521) fun m522 =>
  fl274_60_1 (fun m524 =>
  m524) v503 (zfu 8) 0 m522
-- WorkMeterModel.seasonLine
theorem c274_1 {s : Nat × (Nat → Int32)} {S : zS} {m0 m : zM} {B : Int} {d : Nat} {Q : Option zV → zM → Prop} (hd : 15 ≤ d) (hJ : J S m0 B m) (hB : B + 0 ≤ 1000000000) (hf1 : ¬ S.1 1) (hf16 : ¬ S.1 16) (hf19 : ¬ S.1 19) (hg4 : ¬ S.2.1 4) (hQ : ∀ m', f274_1 m = m' → J S m0 (B) m' → (m 4 44 8 ≤ m' 4 44 8) → (m 4 44 9 ≤ m' 4 44 9) → Q none m') : X (EE s) d 274 0 [(0, zr 4 44)] [] m Q := by
  refine X.aload_n 1 i274_0 rfl rfl rfl ?_
  refine X.iconst 2 i274_1 rfl rfl (by decide) ?_
  refine X.iconst 3 i274_2 rfl rfl (by decide) ?_
  refine X.callv 6 [zi 0, zi 3] [] [(0, zr 4 44), (1, zi 0), (2, zi 3)] i274_3 rfl (by decide) rfl rfl (by omega) rfl rfl (by decide) rfl t270 (Nat.le_of_ble_eq_true rfl) (Nat.le_of_ble_eq_true rfl) rfl ?_
  refine c270_1 (B := B)  0 3 (by omega) (hJ.up (by omega)) (by omega) (by omega) (by omega) hf16 hf19 hg4 (fun v503 m501 hv503 hFv503 hJ502 hqv503_0 hqv503_1 hqv503_2 hqv503_3 => ?_)
  show X (EE s) d 274 6 [(0, zr 4 44)] [zi v503] m501 _
  refine X.istore_n 7 [(0, zr 4 44), (1, zi v503)] i274_6 rfl rfl rfl ?_
  refine X.aload_n 8 i274_7 rfl rfl rfl ?_
  refine X.getZ 11 9 i274_8 rfl rfl (by decide) rfl rfl rfl (fun h504 => ?_)
  have hK515 : ∀ (m' : zM), (if (m501 4 44 9) = 0 then
      (if (m501 4 50 v503) = 0 then
      (m501)
      else
      (zs (f268_1 3 (m501 4 44 10) m501) fun m509 =>
      m509))
      else
      (m501)) = m' → J S m0 (B) m' → X (EE s) d 274 32 [(0, zr 4 44), (1, zi v503)] [] m' Q := by
    intro m513 hT516 hJ514
    refine X.aload_n 33 i274_32 rfl rfl rfl ?_
    refine X.getF 36 i274_33 rfl rfl (by decide) rfl rfl ?_
    refine X.iload_n 37 i274_36 rfl rfl rfl ?_
    refine X.iconst 38 i274_37 rfl rfl (by decide) ?_
    refine X.zast' 39 i274_38 rfl rfl (by decide) rfl (by omega) (by omega) (fun hrm517 m517 hm517 => ?_)
    have hJ518 := w50_0 hJ514 hm517 (by omega) hrm517 hf19 hg4
    have wmm517_8 : m517 4 44 8 = m513 4 44 8 := by rw [hm517]; exact z_upd_o _ _ rfl
    have wmm517_9 : m517 4 44 9 = m513 4 44 9 := by rw [hm517]; exact z_upd_o _ _ rfl
    have wmm517_10 : m517 4 44 10 = m513 4 44 10 := by rw [hm517]; exact z_upd_o _ _ rfl
    refine X.aload_n 40 i274_39 rfl rfl rfl ?_
    refine X.getF 43 i274_40 rfl rfl (by decide) rfl rfl ?_
    refine X.sipush 46 i274_43 rfl rfl (by decide) ?_
    refine X.iload_n 47 i274_46 rfl rfl rfl ?_
    refine X.iadd 48 i274_47 rfl rfl (by omega) ?_
    refine X.aload_n 49 i274_48 rfl rfl rfl ?_
    refine X.iconst 50 i274_49 rfl rfl (by decide) ?_
    refine X.sipush 53 i274_50 rfl rfl (by decide) ?_
    refine X.callv 56 [zi 0, zi 364] [zi (391 + v503), zr 4 45] [(0, zr 4 44), (1, zi 0), (2, zi 364)] i274_53 rfl (by decide) rfl rfl (by omega) rfl rfl (by decide) rfl t270 (Nat.le_of_ble_eq_true rfl) (Nat.le_of_ble_eq_true rfl) rfl ?_
    refine c270_1 (B := B)  0 364 (by omega) (hJ518.up (by omega)) (by omega) (by omega) (by omega) hf16 hf19 hg4 (fun v521 m519 hv521 hFv521 hJ520 hqv521_0 hqv521_1 hqv521_2 hqv521_3 => ?_)
    show X (EE s) d 274 56 [(0, zr 4 44), (1, zi v503)] [zi v521, zi (391 + v503), zr 4 45] m519 _
    refine X.i2l 57 i274_56 rfl rfl ?_
    refine X.last' 58 i274_57 rfl rfl (by decide) rfl (by omega) (fun hrm522 m522 hm522 => ?_)
    have hJ523 := w45_391 hJ520 hm522 (by omega) (by omega) hf1 hg4
    have wmm522_8 : m522 4 44 8 = m519 4 44 8 := by rw [hm522]; exact z_upd_o _ _ rfl
    have wmm522_9 : m522 4 44 9 = m519 4 44 9 := by rw [hm522]; exact z_upd_o _ _ rfl
    have wmm522_10 : m522 4 44 10 = m519 4 44 10 := by rw [hm522]; exact z_upd_o _ _ rfl
    refine X.iconst 59 i274_58 rfl rfl (by decide) ?_
    refine X.istore_n 60 [(0, zr 4 44), (1, zi v503), (2, zi 0)] i274_59 rfl rfl rfl ?_
    have hz8 := zfu_eq 8
    refine l274_60_1 (s := s) (d := d) (R0 := (f274_1 m))  v503 (m522 4 44 8) (m522 4 44 9) (BE := B + 0) (by omega) (by omega) (by omega) hf1 hf16 hf19 hg4 (fun  m524 B525 hJ526 hBB525 hrlm524_0 hrlm524_1 hR527 => ?_) (zfu 8) 0 m522 (B) (hJ523.up (by omega)) (by omega) (by omega) (by omega) (by omega) (by omega) (Eq.trans (zb_eq hFv503) (Eq.trans (zs_eq hT516.symm) (Eq.trans (zs_eq hm517) (Eq.trans (zb_eq hFv521) (Eq.trans (zs_eq hm522) rfl)))))
    refine X.retv i274_95 rfl t274 ?_
    exact hQ  m524  (Eq.trans hR527 rfl) (hJ526.up (by omega)) (by omega) (by omega)
  refine X.ifne 32 14 i274_11 rfl rfl rfl (fun h505 => ?_) (fun h505 => ?_)
  · exact hK515 m501 (Eq.trans (if_neg h505) rfl) (hJ502.up (by omega))
  · refine X.aload_n 15 i274_14 rfl rfl rfl ?_
    refine X.getF 18 i274_15 rfl rfl (by decide) rfl rfl ?_
    refine X.iload_n 19 i274_18 rfl rfl rfl ?_
    refine X.zald 20 i274_19 rfl rfl (by decide) rfl (by omega) (fun h506 => ?_)
    refine X.ifeq 32 23 i274_20 rfl rfl rfl (fun h507 => ?_) (fun h507 => ?_)
    · exact hK515 m501 (Eq.trans (if_pos h505) (Eq.trans (if_pos h507) rfl)) (hJ502.up (by omega))
    · refine X.aload_n 24 i274_23 rfl rfl rfl ?_
      refine X.iconst 25 i274_24 rfl rfl (by decide) ?_
      refine X.aload_n 26 i274_25 rfl rfl rfl ?_
      refine X.getIr 29 10 i274_26 rfl rfl (by decide) rfl rfl rfl (fun h508 => ?_)
      refine X.callv 32 [zi 3, zi (m501 4 44 10)] [] [(0, zr 4 44), (1, zi 3), (2, zi (m501 4 44 10))] i274_29 rfl (by decide) rfl rfl (by omega) rfl rfl (by decide) rfl t268 (Nat.le_of_ble_eq_true rfl) (Nat.le_of_ble_eq_true rfl) rfl ?_
      refine c268_5 (B := B)  3 (m501 4 44 10) (by omega) (hJ502.up (by omega)) (by omega) (by omega) (by omega) hf16 hf19 hg4 (fun m509 hFv511 hJ510 hqv511_0 hqv511_1 hqv511_2 => ?_)
      show X (EE s) d 274 32 [(0, zr 4 44), (1, zi v503)] [] m509 _
      exact hK515 m509 (Eq.trans (if_pos h505) (Eq.trans (if_neg h507) (Eq.trans (zs_eq hFv511.symm) rfl))) (hJ510.up (by omega))
-- WorkMeterModel.specialLine
noncomputable def f275_1 (m : zM) : zM :=
  zb (f270_1 0 364 m) fun v503 m501 =>
  zs (if (m501 4 44 9) = 0 then
  (if (m501 4 45 (423 + v503)) = (-1) then
  (m501)
  else
  (zs (f268_1 3 (m501 4 44 10) m501) fun m510 =>
  m510))
  else
  (m501)) fun m514 =>
  zb (f270_1 0 7 m514) fun v520 m518 =>
  zs (z_upd m518 4 45 (423 + v503) v520) fun m521 =>
  m521
-- WorkMeterModel.specialLine
theorem c275_1 {s : Nat × (Nat → Int32)} {S : zS} {m0 m : zM} {B : Int} {d : Nat} {Q : Option zV → zM → Prop} (hd : 15 ≤ d) (hJ : J S m0 B m) (hB : B + 0 ≤ 1000000000) (hf1 : ¬ S.1 1) (hf16 : ¬ S.1 16) (hf19 : ¬ S.1 19) (hg4 : ¬ S.2.1 4) (hQ : ∀ m', f275_1 m = m' → J S m0 (B) m' → (m 4 44 8 ≤ m' 4 44 8) → (m 4 44 9 ≤ m' 4 44 9) → Q none m') : X (EE s) d 275 0 [(0, zr 4 44)] [] m Q := by
  refine X.aload_n 1 i275_0 rfl rfl rfl ?_
  refine X.iconst 2 i275_1 rfl rfl (by decide) ?_
  refine X.sipush 5 i275_2 rfl rfl (by decide) ?_
  refine X.callv 8 [zi 0, zi 364] [] [(0, zr 4 44), (1, zi 0), (2, zi 364)] i275_5 rfl (by decide) rfl rfl (by omega) rfl rfl (by decide) rfl t270 (Nat.le_of_ble_eq_true rfl) (Nat.le_of_ble_eq_true rfl) rfl ?_
  refine c270_1 (B := B)  0 364 (by omega) (hJ.up (by omega)) (by omega) (by omega) (by omega) hf16 hf19 hg4 (fun v503 m501 hv503 hFv503 hJ502 hqv503_0 hqv503_1 hqv503_2 hqv503_3 => ?_)
  show X (EE s) d 275 8 [(0, zr 4 44)] [zi v503] m501 _
  refine X.istore_n 9 [(0, zr 4 44), (1, zi v503)] i275_8 rfl rfl rfl ?_
  refine X.aload_n 10 i275_9 rfl rfl rfl ?_
  refine X.getZ 13 9 i275_10 rfl rfl (by decide) rfl rfl rfl (fun h504 => ?_)
  have hK516 : ∀ (m' : zM), (if (m501 4 44 9) = 0 then
      (if (m501 4 45 (423 + v503)) = (-1) then
      (m501)
      else
      (zs (f268_1 3 (m501 4 44 10) m501) fun m510 =>
      m510))
      else
      (m501)) = m' → J S m0 (B) m' → X (EE s) d 275 42 [(0, zr 4 44), (1, zi v503)] [] m' Q := by
    intro m514 hT517 hJ515
    refine X.aload_n 43 i275_42 rfl rfl rfl ?_
    refine X.getF 46 i275_43 rfl rfl (by decide) rfl rfl ?_
    refine X.sipush 49 i275_46 rfl rfl (by decide) ?_
    refine X.iload_n 50 i275_49 rfl rfl rfl ?_
    refine X.iadd 51 i275_50 rfl rfl (by omega) ?_
    refine X.aload_n 52 i275_51 rfl rfl rfl ?_
    refine X.iconst 53 i275_52 rfl rfl (by decide) ?_
    refine X.bipush 55 i275_53 rfl rfl (by decide) ?_
    refine X.callv 58 [zi 0, zi 7] [zi (423 + v503), zr 4 45] [(0, zr 4 44), (1, zi 0), (2, zi 7)] i275_55 rfl (by decide) rfl rfl (by omega) rfl rfl (by decide) rfl t270 (Nat.le_of_ble_eq_true rfl) (Nat.le_of_ble_eq_true rfl) rfl ?_
    refine c270_1 (B := B)  0 7 (by omega) (hJ515.up (by omega)) (by omega) (by omega) (by omega) hf16 hf19 hg4 (fun v520 m518 hv520 hFv520 hJ519 hqv520_0 hqv520_1 hqv520_2 hqv520_3 => ?_)
    show X (EE s) d 275 58 [(0, zr 4 44), (1, zi v503)] [zi v520, zi (423 + v503), zr 4 45] m518 _
    refine X.i2l 59 i275_58 rfl rfl ?_
    refine X.last' 60 i275_59 rfl rfl (by decide) rfl (by omega) (fun hrm521 m521 hm521 => ?_)
    have hJ522 := w45_423 hJ519 hm521 (by omega) (by omega) hf1 hg4
    have wmm521_8 : m521 4 44 8 = m518 4 44 8 := by rw [hm521]; exact z_upd_o _ _ rfl
    have wmm521_9 : m521 4 44 9 = m518 4 44 9 := by rw [hm521]; exact z_upd_o _ _ rfl
    have wmm521_10 : m521 4 44 10 = m518 4 44 10 := by rw [hm521]; exact z_upd_o _ _ rfl
    refine X.retv i275_60 rfl t275 ?_
    exact hQ  m521  (Eq.trans (zb_eq hFv503) (Eq.trans (zs_eq hT517.symm) (Eq.trans (zb_eq hFv520) (Eq.trans (zs_eq hm521) rfl)))) (hJ522.up (by omega)) (by omega) (by omega)
  refine X.ifne 42 16 i275_13 rfl rfl rfl (fun h505 => ?_) (fun h505 => ?_)
  · exact hK516 m501 (Eq.trans (if_neg h505) rfl) (hJ502.up (by omega))
  · refine X.aload_n 17 i275_16 rfl rfl rfl ?_
    refine X.getF 20 i275_17 rfl rfl (by decide) rfl rfl ?_
    refine X.sipush 23 i275_20 rfl rfl (by decide) ?_
    refine X.iload_n 24 i275_23 rfl rfl rfl ?_
    refine X.iadd 25 i275_24 rfl rfl (by omega) ?_
    refine X.lald 26 i275_25 rfl rfl (by decide) rfl (by omega) ?_
    have h506 := r45_423 hJ502 4 (i := (423 + v503)) (by omega)
    refine X.ldc2 29 i275_26 rfl rfl (by decide) ?_
    refine X.lcmp 30 i275_29 rfl rfl (fun z507 hz507 => ?_)
    refine X.ifeq 42 33 i275_30 rfl rfl rfl (fun h508 => ?_) (fun h508 => ?_)
    · have h508c : (m501 4 45 (423 + v503)) = (-1) := by omega
      clear h508 hz507
      exact hK516 m501 (Eq.trans (if_pos h505) (Eq.trans (if_pos h508c) rfl)) (hJ502.up (by omega))
    · have h508c : ¬ (m501 4 45 (423 + v503)) = (-1) := by omega
      clear h508 hz507
      refine X.aload_n 34 i275_33 rfl rfl rfl ?_
      refine X.iconst 35 i275_34 rfl rfl (by decide) ?_
      refine X.aload_n 36 i275_35 rfl rfl rfl ?_
      refine X.getIr 39 10 i275_36 rfl rfl (by decide) rfl rfl rfl (fun h509 => ?_)
      refine X.callv 42 [zi 3, zi (m501 4 44 10)] [] [(0, zr 4 44), (1, zi 3), (2, zi (m501 4 44 10))] i275_39 rfl (by decide) rfl rfl (by omega) rfl rfl (by decide) rfl t268 (Nat.le_of_ble_eq_true rfl) (Nat.le_of_ble_eq_true rfl) rfl ?_
      refine c268_5 (B := B)  3 (m501 4 44 10) (by omega) (hJ502.up (by omega)) (by omega) (by omega) (by omega) hf16 hf19 hg4 (fun m510 hFv512 hJ511 hqv512_0 hqv512_1 hqv512_2 => ?_)
      show X (EE s) d 275 42 [(0, zr 4 44), (1, zi v503)] [] m510 _
      exact hK516 m510 (Eq.trans (if_pos h505) (Eq.trans (if_neg h508c) (Eq.trans (zs_eq hFv512.symm) rfl))) (hJ511.up (by omega))
-- WorkMeterModel.must
theorem c272_2 {s : Nat × (Nat → Int32)} {S : zS} {m0 m : zM} {B : Int} {d : Nat} {Q : Option zV → zM → Prop} (a1 : Int) (hd : 14 ≤ d) (hJ : J S m0 B m) (hB : B + 0 ≤ 1000000000) (ha1 : 59 ≤ a1 ∧ a1 ≤ 59) (hf16 : ¬ S.1 16) (hf19 : ¬ S.1 19) (hg4 : ¬ S.2.1 4) (hQ : ∀ m', f272_1 a1 m = m' → J S m0 (B) m' → (m' 4 44 9 = 1 ∨ m 4 44 8 < m' 4 44 8) → (m 4 44 8 ≤ m' 4 44 8) → (m 4 44 9 ≤ m' 4 44 9) → Q none m') : X (EE s) d 272 0 [(0, zr 4 44), (1, zi a1)] [] m Q := by
  refine X.aload_n 1 i272_0 rfl rfl rfl ?_
  refine X.callv 4 [] [] [(0, zr 4 44)] i272_1 rfl (by decide) rfl rfl (by omega) rfl rfl (by decide) rfl t263 (Nat.le_of_ble_eq_true rfl) (Nat.le_of_ble_eq_true rfl) rfl ?_
  refine c263_1 (B := B)   (by omega) (hJ.up (by omega)) (by omega)  hf19 hg4 (fun m501 hFv503 hJ502 hqv503_0 hqv503_1 => ?_)
  show X (EE s) d 272 4 [(0, zr 4 44), (1, zi a1)] [] m501 _
  refine X.aload_n 5 i272_4 rfl rfl rfl ?_
  refine X.getI 8 8 i272_5 rfl rfl (by decide) rfl rfl rfl ?_
  have h504 := r44_8 hJ502 4
  refine X.aload_n 9 i272_8 rfl rfl rfl ?_
  refine X.getI 12 5 i272_9 rfl rfl (by decide) rfl rfl rfl ?_
  have h505 := r44_5 hJ502 4
  have hK520 : ∀ (m' : zM), (if (m501 4 44 5) ≤ (m501 4 44 8) then
      (zs (f268_1 1 (m501 4 44 8) m501) fun m507 =>
      m507)
      else
      (if (m501 4 48 (m501 4 44 8)) = a1 then
      (zs (z_upd m501 4 44 8 ((m501 4 44 8) + 1)) fun m515 =>
      m515)
      else
      (zs (f268_1 1 (m501 4 44 8) m501) fun m512 =>
      m512))) = m' → J S m0 (B) m' → X (EE s) d 272 50 [] [] m' Q := by
    intro m518 hT521 hJ519
    refine X.retv i272_50 rfl t272 ?_
    exact hQ  m518  (Eq.trans (zs_eq hFv503.symm) (Eq.trans (zs_eq hT521.symm) rfl)) (hJ519.up (by omega)) (by omega) (by omega) (by omega)
  refine X.icmpge 41 15 i272_12 rfl rfl rfl (fun h506 => ?_) (fun h506 => ?_)
  · refine X.cut [(0, zr 4 44)] i272_41 rfl ?_
    refine X.aload_n 42 i272_41 rfl rfl rfl ?_
    refine X.iconst 43 i272_42 rfl rfl (by decide) ?_
    refine X.aload_n 44 i272_43 rfl rfl rfl ?_
    refine X.getI 47 8 i272_44 rfl rfl (by decide) rfl rfl rfl ?_
    refine X.callv 50 [zi 1, zi (m501 4 44 8)] [] [(0, zr 4 44), (1, zi 1), (2, zi (m501 4 44 8))] i272_47 rfl (by decide) rfl rfl (by omega) rfl rfl (by decide) rfl t268 (Nat.le_of_ble_eq_true rfl) (Nat.le_of_ble_eq_true rfl) rfl ?_
    refine c268_1 (B := B)  1 (m501 4 44 8) (by omega) (hJ502.up (by omega)) (by omega) (by omega) (by omega) hf16 hf19 hg4 (fun m507 hFv509 hJ508 hqv509_0 hqv509_1 hqv509_2 => ?_)
    show X (EE s) d 272 50 [(0, zr 4 44)] [] m507 _
    refine X.cut [] i272_50 rfl ?_
    exact hK520 m507 (Eq.trans (if_pos h506) (Eq.trans (zs_eq hFv509.symm) rfl)) (hJ508.up (by omega))
  · refine X.aload_n 16 i272_15 rfl rfl rfl ?_
    refine X.getF 19 i272_16 rfl rfl (by decide) rfl rfl ?_
    refine X.aload_n 20 i272_19 rfl rfl rfl ?_
    refine X.getI 23 8 i272_20 rfl rfl (by decide) rfl rfl rfl ?_
    refine X.bald 24 i272_23 rfl rfl (by decide) rfl (by omega) (fun h510 => ?_)
    refine X.iload_n 25 i272_24 rfl rfl rfl ?_
    refine X.icmpne 41 28 i272_25 rfl rfl rfl (fun h511 => ?_) (fun h511 => ?_)
    · refine X.cut [(0, zr 4 44)] i272_41 rfl ?_
      refine X.aload_n 42 i272_41 rfl rfl rfl ?_
      refine X.iconst 43 i272_42 rfl rfl (by decide) ?_
      refine X.aload_n 44 i272_43 rfl rfl rfl ?_
      refine X.getI 47 8 i272_44 rfl rfl (by decide) rfl rfl rfl ?_
      refine X.callv 50 [zi 1, zi (m501 4 44 8)] [] [(0, zr 4 44), (1, zi 1), (2, zi (m501 4 44 8))] i272_47 rfl (by decide) rfl rfl (by omega) rfl rfl (by decide) rfl t268 (Nat.le_of_ble_eq_true rfl) (Nat.le_of_ble_eq_true rfl) rfl ?_
      refine c268_1 (B := B)  1 (m501 4 44 8) (by omega) (hJ502.up (by omega)) (by omega) (by omega) (by omega) hf16 hf19 hg4 (fun m512 hFv514 hJ513 hqv514_0 hqv514_1 hqv514_2 => ?_)
      show X (EE s) d 272 50 [(0, zr 4 44)] [] m512 _
      refine X.cut [] i272_50 rfl ?_
      exact hK520 m512 (Eq.trans (if_neg h506) (Eq.trans (if_neg h511) (Eq.trans (zs_eq hFv514.symm) rfl))) (hJ513.up (by omega))
    · refine X.aload_n 29 i272_28 rfl rfl rfl ?_
      refine X.dup 30 i272_29 rfl rfl rfl ?_
      refine X.getI 33 8 i272_30 rfl rfl (by decide) rfl rfl rfl ?_
      refine X.iconst 34 i272_33 rfl rfl (by decide) ?_
      refine X.iadd 35 i272_34 rfl rfl (by omega) ?_
      refine X.putI' 38 8 i272_35 rfl rfl (by decide) rfl rfl rfl (fun hrm515 m515 hm515 => ?_)
      have hJ516 := w44_8 hJ502 hm515 (by omega) hf19 hg4
      have em515 : m515 4 44 8 = ((m501 4 44 8) + 1) := by rw [hm515]; exact z_upd_same _ _ _ _ _
      have wmm515_9 : m515 4 44 9 = m501 4 44 9 := by rw [hm515]; exact z_upd_o _ _ rfl
      have wmm515_10 : m515 4 44 10 = m501 4 44 10 := by rw [hm515]; exact z_upd_o _ _ rfl
      refine X.goto 50 i272_38 rfl rfl ?_
      refine X.cut [] i272_50 rfl ?_
      exact hK520 m515 (Eq.trans (if_neg h506) (Eq.trans (if_pos h511) (Eq.trans (zs_eq hm515) rfl))) (hJ516.up (by omega))
noncomputable def fl264_123_1_b (self : Int → zM → zM) (k151 : zM → zM) (y3 : Int) (m : zM) : zM :=
  if 4 ≤ y3 then
  (k151 m)
  else
  (zb (f270_1 0 100 m) fun v510 m508 =>
  zs (z_upd m508 4 45 (28 + y3) v510) fun m511 =>
  self (y3 + 1) m511)
noncomputable def fl264_123_1 (k151 : zM → zM) : Nat → Int → zM → zM
  | 0 => fun y3 m => m
  | n + 1 => fl264_123_1_b (fl264_123_1 k151 n) k151
theorem l264_123_1 {s : Nat × (Nat → Int32)} {S : zS} {m0 : zM} {d : Nat} {Q : Option zV → zM → Prop} {R0 : zM} {k151 : zM → zM} (c8 c9 : Int) (BE : Int) (hE : BE ≤ 1000000000) (hd : 15 ≤ d) (hf3 : ¬ S.1 3) (hf16 : ¬ S.1 16) (hf19 : ¬ S.1 19) (hg4 : ¬ S.2.1 4)
    (K151 : ∀ (m' : zM) (B' : Int), J S m0 B' m' → B' ≤ BE → (c8 ≤ m' 4 44 8) → (c9 ≤ m' 4 44 9) → R0 = k151 m' → X (EE s) d 264 151 [(0, zr 4 44)] [] m' Q) :
    ∀ (n : Nat) (y3 : Int) (m : zM) (B : Int), J S m0 B m → B + 0 * (n : Int) ≤ BE → (0 ≤ y3 ∧ y3 ≤ 4) → (c8 ≤ m 4 44 8) → (c9 ≤ m 4 44 9) → 4 - y3 < (n : Int) → R0 = fl264_123_1 k151 n y3 m → X (EE s) d 264 123 [(0, zr 4 44), (3, zi y3)] [] m Q := by
  intro n
  induction n with
  | zero =>
    intro y3 m B hJ hB hy3 hr0 hr1 hn hR
    exfalso
    omega
  | succ n ih =>
    intro y3 m B hJ hB hy3 hr0 hr1 hn hR
    replace hR : R0 = fl264_123_1_b (fl264_123_1 k151 n) k151 y3 m := hR
    refine X.iload_n 124 i264_123 rfl rfl rfl ?_
    refine X.iconst 125 i264_124 rfl rfl (by decide) ?_
    refine X.icmpge 151 128 i264_125 rfl rfl rfl (fun h507 => ?_) (fun h507 => ?_)
    · refine X.cut [(0, zr 4 44)] i264_151 rfl ?_
      exact K151  m (B) (hJ.up (by omega)) (by omega) (by omega) (by omega) (Eq.trans hR (Eq.trans (if_pos h507) rfl))
    · refine X.aload_n 129 i264_128 rfl rfl rfl ?_
      refine X.getF 132 i264_129 rfl rfl (by decide) rfl rfl ?_
      refine X.bipush 134 i264_132 rfl rfl (by decide) ?_
      refine X.iload_n 135 i264_134 rfl rfl rfl ?_
      refine X.iadd 136 i264_135 rfl rfl (by omega) ?_
      refine X.aload_n 137 i264_136 rfl rfl rfl ?_
      refine X.iconst 138 i264_137 rfl rfl (by decide) ?_
      refine X.bipush 140 i264_138 rfl rfl (by decide) ?_
      refine X.callv 143 [zi 0, zi 100] [zi (28 + y3), zr 4 45] [(0, zr 4 44), (1, zi 0), (2, zi 100)] i264_140 rfl (by decide) rfl rfl (by omega) rfl rfl (by decide) rfl t270 (Nat.le_of_ble_eq_true rfl) (Nat.le_of_ble_eq_true rfl) rfl ?_
      refine c270_1 (B := B)  0 100 (by omega) (hJ.up (by omega)) (by omega) (by omega) (by omega) hf16 hf19 hg4 (fun v510 m508 hv510 hFv510 hJ509 hqv510_0 hqv510_1 hqv510_2 hqv510_3 => ?_)
      show X (EE s) d 264 143 [(0, zr 4 44), (3, zi y3)] [zi v510, zi (28 + y3), zr 4 45] m508 _
      refine X.i2l 144 i264_143 rfl rfl ?_
      refine X.last' 145 i264_144 rfl rfl (by decide) rfl (by omega) (fun hrm511 m511 hm511 => ?_)
      have hJ512 := w45_28 hJ509 hm511 (by omega) (by omega) hf3 hg4
      have wmm511_8 : m511 4 44 8 = m508 4 44 8 := by rw [hm511]; exact z_upd_o _ _ rfl
      have wmm511_9 : m511 4 44 9 = m508 4 44 9 := by rw [hm511]; exact z_upd_o _ _ rfl
      have wmm511_10 : m511 4 44 10 = m508 4 44 10 := by rw [hm511]; exact z_upd_o _ _ rfl
      refine X.iinc 148 [(0, zr 4 44), (3, zi (y3 + 1))] i264_145 rfl rfl rfl (by omega) rfl ?_
      refine X.goto 123 i264_148 rfl rfl ?_
      exact ih (y3 + 1) m511 (B) (hJ512.up (by omega)) (by omega) (by omega) (by omega) (by omega) (by omega) (Eq.trans hR (Eq.trans (if_neg h507) (Eq.trans (zb_eq hFv510) (Eq.trans (zs_eq hm511) rfl))))
-- WorkMeterModel.line
noncomputable def f264_1 (m : zM) : zM :=
  zn (f265_1 m) fun v504 =>
  zs (if v504 = 0 then
  (zs (f268_1 1 (m 4 44 8) m) fun m506 =>
  m506)
  else
  (m)) fun m510 =>
  zs (if v504 = 3 then
  (if (m510 4 44 13) = 16 then
  (zs (f268_1 4 (m 4 44 8) m510) fun m517 =>
  m517)
  else
  (m510))
  else
  (m510)) fun m521 =>
  zs (if v504 = 4 then
  (if (m521 4 44 14) = 0 then
  (m521)
  else
  (zs (f268_1 3 (m 4 44 8) m521) fun m528 =>
  m528))
  else
  (m521)) fun m532 =>
  zn (f267_1 m532) fun v538 =>
  zs (z_upd m532 4 44 8 v538) fun m539 =>
  if (m539 4 44 9) = 0 then
  (zs (if v504 = 1 then
  (zs (f269_1 m539) fun m544 =>
  m544)
  else
  (m539)) fun m548 =>
  zs (if v504 = 2 then
  (zs (f274_1 m548) fun m553 =>
  m553)
  else
  (m548)) fun m557 =>
  zs (if v504 = 3 then
  (zn (w32 ((m557 4 44 13) + 1)) fun z563 =>
  zs (z_upd m557 4 44 13 z563) fun m564 =>
  zs (f275_1 m564) fun m566 =>
  m566)
  else
  (m557)) fun m570 =>
  if v504 = 4 then
  (zs (z_upd m570 4 44 14 1) fun m578 =>
  fl264_123_1 (fun m580 =>
  zs (f272_1 59 m580) fun m584 =>
  m584) (zfu 5) 0 m578)
  else
  (zs (f272_1 59 m570) fun m575 =>
  m575))
  else
  (m539)
-- WorkMeterModel.line
theorem c264_1 {s : Nat × (Nat → Int32)} {S : zS} {m0 m : zM} {B : Int} {d : Nat} {Q : Option zV → zM → Prop} (hd : 16 ≤ d) (hJ : J S m0 B m) (hB : B + 0 ≤ 1000000000) (hf1 : ¬ S.1 1) (hf3 : ¬ S.1 3) (hf16 : ¬ S.1 16) (hf19 : ¬ S.1 19) (hg4 : ¬ S.2.1 4) (hQ : ∀ m', f264_1 m = m' → J S m0 (B) m' → (m' 4 44 9 = 1 ∨ m 4 44 8 < m' 4 44 8) → (m 4 44 8 ≤ m' 4 44 8) → (m 4 44 9 ≤ m' 4 44 9) → Q none m') : X (EE s) d 264 0 [(0, zr 4 44)] [] m Q := by
  refine X.aload_n 1 i264_0 rfl rfl rfl ?_
  refine X.getI 4 8 i264_1 rfl rfl (by decide) rfl rfl rfl ?_
  have h501 := r44_8 hJ 4
  refine X.istore_n 5 [(0, zr 4 44), (1, zi (m 4 44 8))] i264_4 rfl rfl rfl ?_
  refine X.aload_n 6 i264_5 rfl rfl rfl ?_
  refine X.callv 9 [] [] [(0, zr 4 44)] i264_6 rfl (by decide) rfl rfl (by omega) rfl rfl (by decide) rfl t265 (Nat.le_of_ble_eq_true rfl) (Nat.le_of_ble_eq_true rfl) rfl ?_
  refine c265_1 (B := B)   (by omega) (hJ.up (by omega)) (by omega)  (fun v504 hv504 hFv504 => ?_)
  show X (EE s) d 264 9 [(0, zr 4 44), (1, zi (m 4 44 8))] [zi v504] m _
  refine X.istore_n 10 [(0, zr 4 44), (1, zi (m 4 44 8)), (2, zi v504)] i264_9 rfl rfl rfl ?_
  refine X.iload_n 11 i264_10 rfl rfl rfl ?_
  have hK512 : ∀ (m' : zM), (if v504 = 0 then
      (zs (f268_1 1 (m 4 44 8) m) fun m506 =>
      m506)
      else
      (m)) = m' → J S m0 (B) m' → X (EE s) d 264 20 [(0, zr 4 44), (1, zi (m 4 44 8)), (2, zi v504)] [] m' Q := by
    intro m510 hT513 hJ511
    refine X.iload_n 21 i264_20 rfl rfl rfl ?_
    refine X.iconst 22 i264_21 rfl rfl (by decide) ?_
    have hK523 : ∀ (m' : zM), (if v504 = 3 then
        (if (m510 4 44 13) = 16 then
        (zs (f268_1 4 (m 4 44 8) m510) fun m517 =>
        m517)
        else
        (m510))
        else
        (m510)) = m' → J S m0 (B) m' → X (EE s) d 264 40 [(0, zr 4 44), (1, zi (m 4 44 8)), (2, zi v504)] [] m' Q := by
      intro m521 hT524 hJ522
      refine X.iload_n 41 i264_40 rfl rfl rfl ?_
      refine X.iconst 42 i264_41 rfl rfl (by decide) ?_
      have hK534 : ∀ (m' : zM), (if v504 = 4 then
          (if (m521 4 44 14) = 0 then
          (m521)
          else
          (zs (f268_1 3 (m 4 44 8) m521) fun m528 =>
          m528))
          else
          (m521)) = m' → J S m0 (B) m' → X (EE s) d 264 58 [(0, zr 4 44), (2, zi v504)] [] m' Q := by
        intro m532 hT535 hJ533
        refine X.aload_n 59 i264_58 rfl rfl rfl ?_
        refine X.aload_n 60 i264_59 rfl rfl rfl ?_
        refine X.callv 63 [] [zr 4 44] [(0, zr 4 44)] i264_60 rfl (by decide) rfl rfl (by omega) rfl rfl (by decide) rfl t267 (Nat.le_of_ble_eq_true rfl) (Nat.le_of_ble_eq_true rfl) rfl ?_
        refine c267_1 (B := B)   (by omega) (hJ533.up (by omega)) (by omega)  (fun v538 hv538 hFv538 hqv538_0 => ?_)
        show X (EE s) d 264 63 [(0, zr 4 44), (2, zi v504)] [zi v538, zr 4 44] m532 _
        refine X.putI' 66 8 i264_63 rfl rfl (by decide) rfl rfl rfl (fun hrm539 m539 hm539 => ?_)
        have hJ540 := w44_8 hJ533 hm539 (by omega) hf19 hg4
        have em539 : m539 4 44 8 = v538 := by rw [hm539]; exact z_upd_same _ _ _ _ _
        have wmm539_9 : m539 4 44 9 = m532 4 44 9 := by rw [hm539]; exact z_upd_o _ _ rfl
        have wmm539_10 : m539 4 44 10 = m532 4 44 10 := by rw [hm539]; exact z_upd_o _ _ rfl
        refine X.aload_n 67 i264_66 rfl rfl rfl ?_
        refine X.getZ 70 9 i264_67 rfl rfl (by decide) rfl rfl rfl (fun h541 => ?_)
        refine X.ifeq 74 73 i264_70 rfl rfl rfl (fun h542 => ?_) (fun h542 => ?_)
        · refine X.iload_n 75 i264_74 rfl rfl rfl ?_
          refine X.iconst 76 i264_75 rfl rfl (by decide) ?_
          have hK550 : ∀ (m' : zM), (if v504 = 1 then
              (zs (f269_1 m539) fun m544 =>
              m544)
              else
              (m539)) = m' → J S m0 (B) m' → X (EE s) d 264 83 [(0, zr 4 44), (2, zi v504)] [] m' Q := by
            intro m548 hT551 hJ549
            refine X.iload_n 84 i264_83 rfl rfl rfl ?_
            refine X.iconst 85 i264_84 rfl rfl (by decide) ?_
            have hK559 : ∀ (m' : zM), (if v504 = 2 then
                (zs (f274_1 m548) fun m553 =>
                m553)
                else
                (m548)) = m' → J S m0 (B) m' → X (EE s) d 264 92 [(0, zr 4 44), (2, zi v504)] [] m' Q := by
              intro m557 hT560 hJ558
              refine X.iload_n 93 i264_92 rfl rfl rfl ?_
              refine X.iconst 94 i264_93 rfl rfl (by decide) ?_
              have hK572 : ∀ (m' : zM), (if v504 = 3 then
                  (zn (w32 ((m557 4 44 13) + 1)) fun z563 =>
                  zs (z_upd m557 4 44 13 z563) fun m564 =>
                  zs (f275_1 m564) fun m566 =>
                  m566)
                  else
                  (m557)) = m' → J S m0 (B) m' → X (EE s) d 264 111 [(0, zr 4 44), (2, zi v504)] [] m' Q := by
                intro m570 hT573 hJ571
                refine X.iload_n 112 i264_111 rfl rfl rfl ?_
                refine X.iconst 113 i264_112 rfl rfl (by decide) ?_
                refine X.icmpne 151 116 i264_113 rfl rfl rfl (fun h574 => ?_) (fun h574 => ?_)
                · refine X.cut [(0, zr 4 44)] i264_151 rfl ?_
                  refine X.aload_n 152 i264_151 rfl rfl rfl ?_
                  refine X.bipush 154 i264_152 rfl rfl (by decide) ?_
                  refine X.callv 157 [zi 59] [] [(0, zr 4 44), (1, zi 59)] i264_154 rfl (by decide) rfl rfl (by omega) rfl rfl (by decide) rfl t272 (Nat.le_of_ble_eq_true rfl) (Nat.le_of_ble_eq_true rfl) rfl ?_
                  refine c272_2 (B := B)  59 (by omega) (hJ571.up (by omega)) (by omega) (by omega) hf16 hf19 hg4 (fun m575 hFv577 hJ576 hqv577_0 hqv577_1 hqv577_2 => ?_)
                  show X (EE s) d 264 157 [(0, zr 4 44)] [] m575 _
                  refine X.retv i264_157 rfl t264 ?_
                  exact hQ  m575  (Eq.trans (zn_eq hFv504.symm) (Eq.trans (zs_eq hT513.symm) (Eq.trans (zs_eq hT524.symm) (Eq.trans (zs_eq hT535.symm) (Eq.trans (zn_eq hFv538.symm) (Eq.trans (zs_eq hm539) (Eq.trans (if_pos h542) (Eq.trans (zs_eq hT551.symm) (Eq.trans (zs_eq hT560.symm) (Eq.trans (zs_eq hT573.symm) (Eq.trans (if_neg h574) (Eq.trans (zs_eq hFv577.symm) rfl)))))))))))) (hJ576.up (by omega)) (by omega) (by omega) (by omega)
                · refine X.aload_n 117 i264_116 rfl rfl rfl ?_
                  refine X.iconst 118 i264_117 rfl rfl (by decide) ?_
                  refine X.putZ' 121 14 i264_118 rfl rfl (by decide) rfl rfl rfl (by omega) (fun hrm578 m578 hm578 => ?_)
                  have hJ579 := w44_14 hJ571 hm578 (by omega) hf19 hg4
                  have wmm578_8 : m578 4 44 8 = m570 4 44 8 := by rw [hm578]; exact z_upd_o _ _ rfl
                  have wmm578_9 : m578 4 44 9 = m570 4 44 9 := by rw [hm578]; exact z_upd_o _ _ rfl
                  have wmm578_10 : m578 4 44 10 = m570 4 44 10 := by rw [hm578]; exact z_upd_o _ _ rfl
                  refine X.iconst 122 i264_121 rfl rfl (by decide) ?_
                  refine X.istore_n 123 [(0, zr 4 44), (2, zi v504), (3, zi 0)] i264_122 rfl rfl rfl ?_
                  refine X.cut [(0, zr 4 44), (3, zi 0)] i264_123 rfl ?_
                  have hz5 := zfu_eq 5
                  refine l264_123_1 (s := s) (d := d) (R0 := (f264_1 m))   (m578 4 44 8) (m578 4 44 9) (BE := B + 0) (by omega) (by omega) hf3 hf16 hf19 hg4 (fun  m580 B581 hJ582 hBB581 hrlm580_0 hrlm580_1 hR583 => ?_) (zfu 5) 0 m578 (B) (hJ579.up (by omega)) (by omega) (by omega) (by omega) (by omega) (by omega) (Eq.trans (zn_eq hFv504.symm) (Eq.trans (zs_eq hT513.symm) (Eq.trans (zs_eq hT524.symm) (Eq.trans (zs_eq hT535.symm) (Eq.trans (zn_eq hFv538.symm) (Eq.trans (zs_eq hm539) (Eq.trans (if_pos h542) (Eq.trans (zs_eq hT551.symm) (Eq.trans (zs_eq hT560.symm) (Eq.trans (zs_eq hT573.symm) (Eq.trans (if_pos h574) (Eq.trans (zs_eq hm578) rfl))))))))))))
                  refine X.aload_n 152 i264_151 rfl rfl rfl ?_
                  refine X.bipush 154 i264_152 rfl rfl (by decide) ?_
                  refine X.callv 157 [zi 59] [] [(0, zr 4 44), (1, zi 59)] i264_154 rfl (by decide) rfl rfl (by omega) rfl rfl (by decide) rfl t272 (Nat.le_of_ble_eq_true rfl) (Nat.le_of_ble_eq_true rfl) rfl ?_
                  refine c272_2 (B := B581)  59 (by omega) (hJ582.up (by omega)) (by omega) (by omega) hf16 hf19 hg4 (fun m584 hFv586 hJ585 hqv586_0 hqv586_1 hqv586_2 => ?_)
                  show X (EE s) d 264 157 [(0, zr 4 44)] [] m584 _
                  refine X.retv i264_157 rfl t264 ?_
                  exact hQ  m584  (Eq.trans hR583 (Eq.trans (zs_eq hFv586.symm) rfl)) (hJ585.up (by omega)) (by omega) (by omega) (by omega)
              refine X.icmpne 111 97 i264_94 rfl rfl rfl (fun h561 => ?_) (fun h561 => ?_)
              · exact hK572 m557 (Eq.trans (if_neg h561) rfl) (hJ558.up (by omega))
              · refine X.aload_n 98 i264_97 rfl rfl rfl ?_
                refine X.dup 99 i264_98 rfl rfl rfl ?_
                refine X.getIr 102 13 i264_99 rfl rfl (by decide) rfl rfl rfl (fun h562 => ?_)
                refine X.iconst 103 i264_102 rfl rfl (by decide) ?_
                refine X.iaddW 104 i264_103 rfl rfl (fun z563 ez563 hz563 => ?_)
                refine X.putI' 107 13 i264_104 rfl rfl (by decide) rfl rfl rfl (fun hrm564 m564 hm564 => ?_)
                have hJ565 := w44_10 hJ558 hm564 (by omega) hrm564 hf19 hg4
                have wmm564_8 : m564 4 44 8 = m557 4 44 8 := by rw [hm564]; exact z_upd_o _ _ rfl
                have wmm564_9 : m564 4 44 9 = m557 4 44 9 := by rw [hm564]; exact z_upd_o _ _ rfl
                have wmm564_10 : m564 4 44 10 = m557 4 44 10 := by rw [hm564]; exact z_upd_o _ _ rfl
                refine X.aload_n 108 i264_107 rfl rfl rfl ?_
                refine X.callv 111 [] [] [(0, zr 4 44)] i264_108 rfl (by decide) rfl rfl (by omega) rfl rfl (by decide) rfl t275 (Nat.le_of_ble_eq_true rfl) (Nat.le_of_ble_eq_true rfl) rfl ?_
                refine c275_1 (B := B)   (by omega) (hJ565.up (by omega)) (by omega)  hf1 hf16 hf19 hg4 (fun m566 hFv568 hJ567 hqv568_0 hqv568_1 => ?_)
                show X (EE s) d 264 111 [(0, zr 4 44), (2, zi v504)] [] m566 _
                exact hK572 m566 (Eq.trans (if_pos h561) (Eq.trans (zn_eq ez563) (Eq.trans (zs_eq hm564) (Eq.trans (zs_eq hFv568.symm) rfl)))) (hJ567.up (by omega))
            refine X.icmpne 92 88 i264_85 rfl rfl rfl (fun h552 => ?_) (fun h552 => ?_)
            · exact hK559 m548 (Eq.trans (if_neg h552) rfl) (hJ549.up (by omega))
            · refine X.aload_n 89 i264_88 rfl rfl rfl ?_
              refine X.callv 92 [] [] [(0, zr 4 44)] i264_89 rfl (by decide) rfl rfl (by omega) rfl rfl (by decide) rfl t274 (Nat.le_of_ble_eq_true rfl) (Nat.le_of_ble_eq_true rfl) rfl ?_
              refine c274_1 (B := B)   (by omega) (hJ549.up (by omega)) (by omega)  hf1 hf16 hf19 hg4 (fun m553 hFv555 hJ554 hqv555_0 hqv555_1 => ?_)
              show X (EE s) d 264 92 [(0, zr 4 44), (2, zi v504)] [] m553 _
              exact hK559 m553 (Eq.trans (if_pos h552) (Eq.trans (zs_eq hFv555.symm) rfl)) (hJ554.up (by omega))
          refine X.icmpne 83 79 i264_76 rfl rfl rfl (fun h543 => ?_) (fun h543 => ?_)
          · exact hK550 m539 (Eq.trans (if_neg h543) rfl) (hJ540.up (by omega))
          · refine X.aload_n 80 i264_79 rfl rfl rfl ?_
            refine X.callv 83 [] [] [(0, zr 4 44)] i264_80 rfl (by decide) rfl rfl (by omega) rfl rfl (by decide) rfl t269 (Nat.le_of_ble_eq_true rfl) (Nat.le_of_ble_eq_true rfl) rfl ?_
            refine c269_1 (B := B)   (by omega) (hJ540.up (by omega)) (by omega)  hf1 hf16 hf19 hg4 (fun m544 hFv546 hJ545 hqv546_0 hqv546_1 => ?_)
            show X (EE s) d 264 83 [(0, zr 4 44), (2, zi v504)] [] m544 _
            exact hK550 m544 (Eq.trans (if_pos h543) (Eq.trans (zs_eq hFv546.symm) rfl)) (hJ545.up (by omega))
        · refine X.retv i264_73 rfl t264 ?_
          exact hQ  m539  (Eq.trans (zn_eq hFv504.symm) (Eq.trans (zs_eq hT513.symm) (Eq.trans (zs_eq hT524.symm) (Eq.trans (zs_eq hT535.symm) (Eq.trans (zn_eq hFv538.symm) (Eq.trans (zs_eq hm539) (Eq.trans (if_neg h542) rfl))))))) (hJ540.up (by omega)) (by omega) (by omega) (by omega)
      refine X.icmpne 58 45 i264_42 rfl rfl rfl (fun h525 => ?_) (fun h525 => ?_)
      · refine X.cut [(0, zr 4 44), (2, zi v504)] i264_58 rfl ?_
        exact hK534 m521 (Eq.trans (if_neg h525) rfl) (hJ522.up (by omega))
      · refine X.aload_n 46 i264_45 rfl rfl rfl ?_
        refine X.getZ 49 14 i264_46 rfl rfl (by decide) rfl rfl rfl (fun h526 => ?_)
        refine X.ifeq 58 52 i264_49 rfl rfl rfl (fun h527 => ?_) (fun h527 => ?_)
        · refine X.cut [(0, zr 4 44), (2, zi v504)] i264_58 rfl ?_
          exact hK534 m521 (Eq.trans (if_pos h525) (Eq.trans (if_pos h527) rfl)) (hJ522.up (by omega))
        · refine X.aload_n 53 i264_52 rfl rfl rfl ?_
          refine X.iconst 54 i264_53 rfl rfl (by decide) ?_
          refine X.iload_n 55 i264_54 rfl rfl rfl ?_
          refine X.callv 58 [zi 3, zi (m 4 44 8)] [] [(0, zr 4 44), (1, zi 3), (2, zi (m 4 44 8))] i264_55 rfl (by decide) rfl rfl (by omega) rfl rfl (by decide) rfl t268 (Nat.le_of_ble_eq_true rfl) (Nat.le_of_ble_eq_true rfl) rfl ?_
          refine c268_3 (B := B)  3 (m 4 44 8) (by omega) (hJ522.up (by omega)) (by omega) (by omega) (by omega) hf16 hf19 hg4 (fun m528 hFv530 hJ529 hqv530_0 hqv530_1 hqv530_2 => ?_)
          show X (EE s) d 264 58 [(0, zr 4 44), (1, zi (m 4 44 8)), (2, zi v504)] [] m528 _
          refine X.cut [(0, zr 4 44), (2, zi v504)] i264_58 rfl ?_
          exact hK534 m528 (Eq.trans (if_pos h525) (Eq.trans (if_neg h527) (Eq.trans (zs_eq hFv530.symm) rfl))) (hJ529.up (by omega))
    refine X.icmpne 40 25 i264_22 rfl rfl rfl (fun h514 => ?_) (fun h514 => ?_)
    · exact hK523 m510 (Eq.trans (if_neg h514) rfl) (hJ511.up (by omega))
    · refine X.aload_n 26 i264_25 rfl rfl rfl ?_
      refine X.getIr 29 13 i264_26 rfl rfl (by decide) rfl rfl rfl (fun h515 => ?_)
      refine X.bipush 31 i264_29 rfl rfl (by decide) ?_
      refine X.icmpne 40 34 i264_31 rfl rfl rfl (fun h516 => ?_) (fun h516 => ?_)
      · exact hK523 m510 (Eq.trans (if_pos h514) (Eq.trans (if_neg h516) rfl)) (hJ511.up (by omega))
      · refine X.aload_n 35 i264_34 rfl rfl rfl ?_
        refine X.iconst 36 i264_35 rfl rfl (by decide) ?_
        refine X.iload_n 37 i264_36 rfl rfl rfl ?_
        refine X.callv 40 [zi 4, zi (m 4 44 8)] [] [(0, zr 4 44), (1, zi 4), (2, zi (m 4 44 8))] i264_37 rfl (by decide) rfl rfl (by omega) rfl rfl (by decide) rfl t268 (Nat.le_of_ble_eq_true rfl) (Nat.le_of_ble_eq_true rfl) rfl ?_
        refine c268_2 (B := B)  4 (m 4 44 8) (by omega) (hJ511.up (by omega)) (by omega) (by omega) (by omega) hf16 hf19 hg4 (fun m517 hFv519 hJ518 hqv519_0 hqv519_1 hqv519_2 => ?_)
        show X (EE s) d 264 40 [(0, zr 4 44), (1, zi (m 4 44 8)), (2, zi v504)] [] m517 _
        exact hK523 m517 (Eq.trans (if_pos h514) (Eq.trans (if_pos h516) (Eq.trans (zs_eq hFv519.symm) rfl))) (hJ518.up (by omega))
  refine X.ifne 20 14 i264_11 rfl rfl rfl (fun h505 => ?_) (fun h505 => ?_)
  · exact hK512 m (Eq.trans (if_neg h505) rfl) (hJ.up (by omega))
  · refine X.aload_n 15 i264_14 rfl rfl rfl ?_
    refine X.iconst 16 i264_15 rfl rfl (by decide) ?_
    refine X.iload_n 17 i264_16 rfl rfl rfl ?_
    refine X.callv 20 [zi 1, zi (m 4 44 8)] [] [(0, zr 4 44), (1, zi 1), (2, zi (m 4 44 8))] i264_17 rfl (by decide) rfl rfl (by omega) rfl rfl (by decide) rfl t268 (Nat.le_of_ble_eq_true rfl) (Nat.le_of_ble_eq_true rfl) rfl ?_
    refine c268_1 (B := B)  1 (m 4 44 8) (by omega) (hJ.up (by omega)) (by omega) (by omega) (by omega) hf16 hf19 hg4 (fun m506 hFv508 hJ507 hqv508_0 hqv508_1 hqv508_2 => ?_)
    show X (EE s) d 264 20 [(0, zr 4 44), (1, zi (m 4 44 8)), (2, zi v504)] [] m506 _
    exact hK512 m506 (Eq.trans (if_pos h505) (Eq.trans (zs_eq hFv508.symm) rfl)) (hJ507.up (by omega))
noncomputable def fl260_55_1_b (self : Int → zM → Int × zM) (k87 : Int → zM → Int × zM) (y1 : Int) (m : zM) : Int × zM :=
  if (m 4 44 5) ≤ (m 4 44 8) then
  (k87 y1 m)
  else
  (if (m 4 44 9) = 0 then
  (zs (f264_1 m) fun m517 =>
  zs (f263_1 m517) fun m520 =>
  self (y1 + 1) m520)
  else
  (k87 y1 m))
noncomputable def fl260_55_1 (k87 : Int → zM → Int × zM) : Nat → Int → zM → Int × zM
  | 0 => fun y1 m => (0, m)
  | n + 1 => fl260_55_1_b (fl260_55_1 k87 n) k87
theorem l260_55_1 {s : Nat × (Nat → Int32)} {S : zS} {m0 : zM} {d : Nat} {Q : Option zV → zM → Prop} {R0 : Int × zM} {k87 : Int → zM → Int × zM} (BE : Int) (hE : BE ≤ 1000000000) (hd : 17 ≤ d) (hf1 : ¬ S.1 1) (hf3 : ¬ S.1 3) (hf16 : ¬ S.1 16) (hf19 : ¬ S.1 19) (hg4 : ¬ S.2.1 4)
    (K87 : ∀ (x1 : Int) (m' : zM) (B' : Int), J S m0 B' m' → B' ≤ BE → (0 ≤ x1 ∧ x1 ≤ 605) → (x1 ≤ m' 4 44 8 + 302 * m' 4 44 9) → R0 = k87 x1 m' → X (EE s) d 260 87 [(0, zr 4 44), (1, zi x1)] [] m' Q) :
    ∀ (n : Nat) (y1 : Int) (m : zM) (B : Int), J S m0 B m → B + 0 * (n : Int) ≤ BE → (0 ≤ y1 ∧ y1 ≤ 605) → (y1 ≤ m 4 44 8 + 302 * m 4 44 9) → 604 - m 4 44 8 - 302 * m 4 44 9 < (n : Int) → R0 = fl260_55_1 k87 n y1 m → X (EE s) d 260 55 [(0, zr 4 44), (1, zi y1)] [] m Q := by
  intro n
  induction n with
  | zero =>
    intro y1 m B hJ hB hy1 hr0 hn hR
    have zf0 := r44_8 hJ 4
    have zf1 := r44_9 hJ 4
    exfalso
    omega
  | succ n ih =>
    intro y1 m B hJ hB hy1 hr0 hn hR
    replace hR : R0 = fl260_55_1_b (fl260_55_1 k87 n) k87 y1 m := hR
    refine X.aload_n 56 i260_55 rfl rfl rfl ?_
    refine X.getI 59 8 i260_56 rfl rfl (by decide) rfl rfl rfl ?_
    have h512 := r44_8 hJ 4
    refine X.aload_n 60 i260_59 rfl rfl rfl ?_
    refine X.getI 63 5 i260_60 rfl rfl (by decide) rfl rfl rfl ?_
    have h513 := r44_5 hJ 4
    refine X.icmpge 87 66 i260_63 rfl rfl rfl (fun h514 => ?_) (fun h514 => ?_)
    · exact K87 y1 m (B) (hJ.up (by omega)) (by omega) (by first | trivial | omega) (by omega) (Eq.trans hR (Eq.trans (if_pos h514) rfl))
    · refine X.aload_n 67 i260_66 rfl rfl rfl ?_
      refine X.getZ 70 9 i260_67 rfl rfl (by decide) rfl rfl rfl (fun h515 => ?_)
      refine X.ifne 87 73 i260_70 rfl rfl rfl (fun h516 => ?_) (fun h516 => ?_)
      · exact K87 y1 m (B) (hJ.up (by omega)) (by omega) (by first | trivial | omega) (by omega) (Eq.trans hR (Eq.trans (if_neg h514) (Eq.trans (if_neg h516) rfl)))
      · refine X.aload_n 74 i260_73 rfl rfl rfl ?_
        refine X.callv 77 [] [] [(0, zr 4 44)] i260_74 rfl (by decide) rfl rfl (by omega) rfl rfl (by decide) rfl t264 (Nat.le_of_ble_eq_true rfl) (Nat.le_of_ble_eq_true rfl) rfl ?_
        refine c264_1 (S := (S.1, S.2.1, True, S.2.2.2)) (B := B)   (by omega) (hJ.up (by omega)) (by omega)  hf1 hf3 hf16 hf19 hg4 (fun m517 hFv519 hJ518 hqv519_0 hqv519_1 hqv519_2 => ?_)
        show X (EE s) d 260 77 [(0, zr 4 44), (1, zi y1)] [] m517 _
        refine X.iinc 80 [(0, zr 4 44), (1, zi (y1 + 1))] i260_77 rfl rfl rfl (by omega) rfl ?_
        refine X.aload_n 81 i260_80 rfl rfl rfl ?_
        refine X.callv 84 [] [] [(0, zr 4 44)] i260_81 rfl (by decide) rfl rfl (by omega) rfl rfl (by decide) rfl t263 (Nat.le_of_ble_eq_true rfl) (Nat.le_of_ble_eq_true rfl) rfl ?_
        refine c263_1 (S := (S.1, S.2.1, True, S.2.2.2)) (B := B)   (by omega) (hJ518.up (by omega)) (by omega)  hf19 hg4 (fun m520 hFv522 hJ521 hqv522_0 hqv522_1 => ?_)
        show X (EE s) d 260 84 [(0, zr 4 44), (1, zi (y1 + 1))] [] m520 _
        refine X.goto 55 i260_84 rfl rfl ?_
        exact ih (y1 + 1) m520 (B) (hJ521.up (by omega)) (by omega) (by omega) (by omega) (by omega) (Eq.trans hR (Eq.trans (if_neg h514) (Eq.trans (if_pos h516) (Eq.trans (zs_eq hFv519.symm) (Eq.trans (zs_eq hFv522.symm) rfl)))))
-- WorkMeterModel.calendar
noncomputable def f260_1 (m : zM) : Int × zM :=
  zs (z_upd m 4 44 6 0) fun m501 =>
  zs (z_upd m501 4 44 7 (-1)) fun m503 =>
  zb (f203_1 m503) fun v507 m505 =>
  if v507 = 0 then
  (zs (z_cpy m505 4 46 4 45 0 0 1619) fun m509 =>
  zs (z_upd m509 4 44 9 0) fun m512 =>
  zs (z_upd m512 4 44 8 0) fun m514 =>
  zs (f262_1 m514) fun m516 =>
  zs (f263_1 m516) fun m519 =>
  fl260_55_1 (fun y522 m523 =>
  zs (z_upd m523 4 44 5 0) fun m529 =>
  if (m529 4 44 9) = 0 then
  ((y522, m529))
  else
  (zs (z_cpy m529 4 45 4 46 0 0 1619) fun m533 =>
  ((-1), m533))) (zfu 605) 0 m519)
  else
  (zs (z_upd m505 4 44 5 0) fun m536 =>
  ((-1), m536))
-- WorkMeterModel.calendar
theorem c260_1 {s : Nat × (Nat → Int32)} {S : zS} {m0 m : zM} {B : Int} {d : Nat} {Q : Option zV → zM → Prop} (hd : 17 ≤ d) (hJ : J S m0 B m) (hB : B + 0 ≤ 1000000000) (hf1 : ¬ S.1 1) (hf2 : ¬ S.1 2) (hf3 : ¬ S.1 3) (hf4 : ¬ S.1 4) (hf5 : ¬ S.1 5) (hf6 : ¬ S.1 6) (hf7 : ¬ S.1 7) (hf8 : ¬ S.1 8) (hf9 : ¬ S.1 9) (hf10 : ¬ S.1 10) (hf11 : ¬ S.1 11) (hf12 : ¬ S.1 12) (hf13 : ¬ S.1 13) (hf15 : ¬ S.1 15) (hf16 : ¬ S.1 16) (hf18 : ¬ S.1 18) (hf19 : ¬ S.1 19) (hg4 : ¬ S.2.1 4) (hQ : ∀ (v : Int) m', ((-1) ≤ v ∧ v ≤ 605) → f260_1 m = (v, m') → J S m0 (B) m' → Q (some (zi v)) m') : X (EE s) d 260 0 [(0, zr 4 44)] [] m Q := by
  refine X.aload_n 1 i260_0 rfl rfl rfl ?_
  refine X.iconst 2 i260_1 rfl rfl (by decide) ?_
  refine X.putI' 5 6 i260_2 rfl rfl (by decide) rfl rfl rfl (fun hrm501 m501 hm501 => ?_)
  have hJ502 := w44_6 hJ hm501 (by omega) hrm501 hf16 hg4
  refine X.aload_n 6 i260_5 rfl rfl rfl ?_
  refine X.iconst 7 i260_6 rfl rfl (by decide) ?_
  refine X.putI' 10 7 i260_7 rfl rfl (by decide) rfl rfl rfl (fun hrm503 m503 hm503 => ?_)
  have hJ504 := w44_6 hJ502 hm503 (by omega) hrm503 hf16 hg4
  refine X.aload_n 11 i260_10 rfl rfl rfl ?_
  refine X.callv 14 [] [] [(0, zr 4 44)] i260_11 rfl (by decide) rfl rfl (by omega) rfl rfl (by decide) rfl t203 (Nat.le_of_ble_eq_true rfl) (Nat.le_of_ble_eq_true rfl) rfl ?_
  refine c203_1 (B := B)   (by omega) (hJ504.up (by omega)) (by omega)  hf4 hg4 (fun v507 m505 hv507 hFv507 hJ506 => ?_)
  show X (EE s) d 260 14 [(0, zr 4 44)] [zi v507] m505 _
  refine X.ifeq 24 17 i260_14 rfl rfl rfl (fun h508 => ?_) (fun h508 => ?_)
  · refine X.aload_n 25 i260_24 rfl rfl rfl ?_
    refine X.getF 28 i260_25 rfl rfl (by decide) rfl rfl ?_
    refine X.aload_n 29 i260_28 rfl rfl rfl ?_
    refine X.getF 32 i260_29 rfl rfl (by decide) rfl rfl ?_
    refine X.calls 35 [zr 4 45, zr 4 46] [] [(0, zr 4 45), (1, zr 4 46)] i260_32 (by decide) rfl rfl (by omega) rfl rfl t261 (Nat.le_of_ble_eq_true rfl) (Nat.le_of_ble_eq_true rfl) rfl ?_
    refine c_cq_45_46 (S := S) (B := B) (by omega) (hJ506)  hf18 hg4 (fun m509 hFv511 hJ510 => ?_)
    show X (EE s) d 260 35 [(0, zr 4 44)] [] m509 _
    refine X.aload_n 36 i260_35 rfl rfl rfl ?_
    refine X.iconst 37 i260_36 rfl rfl (by decide) ?_
    refine X.putZ' 40 9 i260_37 rfl rfl (by decide) rfl rfl rfl (by omega) (fun hrm512 m512 hm512 => ?_)
    have hJ513 := w44_9 hJ510 hm512 (by omega) hf19 hg4
    have em512 : m512 4 44 9 = 0 := by rw [hm512]; exact z_upd_same _ _ _ _ _
    refine X.aload_n 41 i260_40 rfl rfl rfl ?_
    refine X.iconst 42 i260_41 rfl rfl (by decide) ?_
    refine X.putI' 45 8 i260_42 rfl rfl (by decide) rfl rfl rfl (fun hrm514 m514 hm514 => ?_)
    have hJ515 := w44_8 hJ513 hm514 (by omega) hf19 hg4
    have em514 : m514 4 44 8 = 0 := by rw [hm514]; exact z_upd_same _ _ _ _ _
    refine X.aload_n 46 i260_45 rfl rfl rfl ?_
    refine X.callv 49 [] [] [(0, zr 4 44)] i260_46 rfl (by decide) rfl rfl (by omega) rfl rfl (by decide) rfl t262 (Nat.le_of_ble_eq_true rfl) (Nat.le_of_ble_eq_true rfl) rfl ?_
    refine c262_1 (S := (S.1, S.2.1, True, S.2.2.2)) (B := B)   (by omega) (hJ515.up (by omega)) (by omega)  hf1 hf19 hg4 (fun m516 hFv518 hJ517 => ?_)
    show X (EE s) d 260 49 [(0, zr 4 44)] [] m516 _
    refine X.iconst 50 i260_49 rfl rfl (by decide) ?_
    refine X.istore_n 51 [(0, zr 4 44), (1, zi 0)] i260_50 rfl rfl rfl ?_
    refine X.aload_n 52 i260_51 rfl rfl rfl ?_
    refine X.callv 55 [] [] [(0, zr 4 44)] i260_52 rfl (by decide) rfl rfl (by omega) rfl rfl (by decide) rfl t263 (Nat.le_of_ble_eq_true rfl) (Nat.le_of_ble_eq_true rfl) rfl ?_
    refine c263_1 (S := (S.1, S.2.1, True, S.2.2.2)) (B := B)   (by omega) (hJ517.up (by omega)) (by omega)  hf19 hg4 (fun m519 hFv521 hJ520 hqv521_0 hqv521_1 => ?_)
    show X (EE s) d 260 55 [(0, zr 4 44), (1, zi 0)] [] m519 _
    have hz605 := zfu_eq 605
    have zf527 := r44_8 hJ520 4
    have zf528 := r44_9 hJ520 4
    refine l260_55_1 (s := s) (d := d) (R0 := (f260_1 m)) (S := (S.1, S.2.1, True, S.2.2.2))    (BE := B + 0) (by omega) (by omega) hf1 hf3 hf16 hf19 hg4 (fun y522 m523 B524 hJ525 hBB524 hby522 hrlm523_0 hR526 => ?_) (zfu 605) 0 m519 (B) (hJ520.up (by omega)) (by omega) (by omega) (by omega) (by omega) (Eq.trans (zs_eq hm501) (Eq.trans (zs_eq hm503) (Eq.trans (zb_eq hFv507) (Eq.trans (if_pos h508) (Eq.trans (zs_eq hFv511) (Eq.trans (zs_eq hm512) (Eq.trans (zs_eq hm514) (Eq.trans (zs_eq hFv518.symm) (Eq.trans (zs_eq hFv521.symm) rfl)))))))))
    refine X.aload_n 88 i260_87 rfl rfl rfl ?_
    refine X.iconst 89 i260_88 rfl rfl (by decide) ?_
    refine X.putI' 92 5 i260_89 rfl rfl (by decide) rfl rfl rfl (fun hrm529 m529 hm529 => ?_)
    have hJ530 := w44_5 hJ525 hm529 (by omega) hf15 hg4
    have em529 : m529 4 44 5 = 0 := by rw [hm529]; exact z_upd_same _ _ _ _ _
    refine X.aload_n 93 i260_92 rfl rfl rfl ?_
    refine X.getZ 96 9 i260_93 rfl rfl (by decide) rfl rfl rfl (fun h531 => ?_)
    refine X.ifne 101 99 i260_96 rfl rfl rfl (fun h532 => ?_) (fun h532 => ?_)
    · refine X.cut [(0, zr 4 44)] i260_101 rfl ?_
      refine X.aload_n 102 i260_101 rfl rfl rfl ?_
      refine X.getF 105 i260_102 rfl rfl (by decide) rfl rfl ?_
      refine X.aload_n 106 i260_105 rfl rfl rfl ?_
      refine X.getF 109 i260_106 rfl rfl (by decide) rfl rfl ?_
      refine X.calls 112 [zr 4 46, zr 4 45] [] [(0, zr 4 46), (1, zr 4 45)] i260_109 (by decide) rfl rfl (by omega) rfl rfl t261 (Nat.le_of_ble_eq_true rfl) (Nat.le_of_ble_eq_true rfl) rfl ?_
      refine c_cq_46_45 (S := (S.1, S.2.1, True, S.2.2.2)) (B := B524) (by omega) (hJ530) trivial hf1 hf2 hf3 hf4 hf5 hf6 hf7 hf8 hf9 hf10 hf11 hf12 hf13 hg4 (fun m533 hFv535 hJ534 => ?_)
      show X (EE s) d 260 112 [(0, zr 4 44)] [] m533 _
      refine X.iconst 113 i260_112 rfl rfl (by decide) ?_
      refine X.reti i260_113 rfl t260 ?_
      exact hQ (-1) m533 (by first | trivial | omega) (Eq.trans hR526 (Eq.trans (zs_eq hm529) (Eq.trans (if_neg h532) (Eq.trans (zs_eq hFv535) rfl)))) ((J.wk (p' := S.2.2.1) (q' := S.2.2.2) hJ534 (fun h => by first | trivial | exact h) (fun h => by first | trivial | exact h)).up (by omega)) 
    · refine X.iload_n 100 i260_99 rfl rfl rfl ?_
      refine X.reti i260_100 rfl t260 ?_
      exact hQ y522 m529 (by first | trivial | omega) (Eq.trans hR526 (Eq.trans (zs_eq hm529) (Eq.trans (if_pos h532) rfl))) ((J.wk (p' := S.2.2.1) (q' := S.2.2.2) hJ530 (fun h => by first | trivial | exact h) (fun h => by first | trivial | exact h)).up (by omega)) 
  · refine X.aload_n 18 i260_17 rfl rfl rfl ?_
    refine X.iconst 19 i260_18 rfl rfl (by decide) ?_
    refine X.putI' 22 5 i260_19 rfl rfl (by decide) rfl rfl rfl (fun hrm536 m536 hm536 => ?_)
    have hJ537 := w44_5 hJ506 hm536 (by omega) hf15 hg4
    have em536 : m536 4 44 5 = 0 := by rw [hm536]; exact z_upd_same _ _ _ _ _
    refine X.iconst 23 i260_22 rfl rfl (by decide) ?_
    refine X.reti i260_23 rfl t260 ?_
    exact hQ (-1) m536 (by first | trivial | omega) (Eq.trans (zs_eq hm501) (Eq.trans (zs_eq hm503) (Eq.trans (zb_eq hFv507) (Eq.trans (if_neg h508) (Eq.trans (zs_eq hm536) rfl))))) (hJ537.up (by omega)) 
-- WorkMeter.fault
noncomputable def f113_1 (a1 : Int) (m : zM) : Int :=
  if a1 = 0 then
  ((m 4 41 4))
  else
  (zn (if a1 = 1 then
  ((m 4 41 5))
  else
  ((-1))) fun v504 =>
  v504)
-- WorkMeter.fault
theorem c113_1 {s : Nat × (Nat → Int32)} {S : zS} {m0 m : zM} {B : Int} {d : Nat} {Q : Option zV → zM → Prop} (a1 : Int) (hd : 13 ≤ d) (hJ : J S m0 B m) (hB : B + 0 ≤ 1000000000) (ha1 : (-2147483648) ≤ a1 ∧ a1 ≤ 2147483647) (hQ : ∀ (v : Int), ((-2147483648) ≤ v ∧ v ≤ 2147483647) → f113_1 a1 m = v → Q (some (zi v)) m) : X (EE s) d 113 0 [(0, zr 4 40), (1, zi a1)] [] m Q := by
  refine X.iload_n 1 i113_0 rfl rfl rfl ?_
  refine X.ifne 12 4 i113_1 rfl rfl rfl (fun h501 => ?_) (fun h501 => ?_)
  · refine X.iload_n 13 i113_12 rfl rfl rfl ?_
    refine X.iconst 14 i113_13 rfl rfl (by decide) ?_
    have hK507 : ∀ (v : Int) , ((-2147483648) ≤ v ∧ v ≤ 2147483647) → (if a1 = 1 then
        ((m 4 41 5))
        else
        ((-1))) = v → X (EE s) d 113 28 [] [zi v] m Q := by
      intro v504 hv504 hT508
      refine X.reti i113_28 rfl t113 ?_
      exact hQ v504 (by first | trivial | omega) (Eq.trans (if_neg h501) (Eq.trans (zn_eq hT508.symm) rfl)) 
    refine X.icmpne 27 17 i113_14 rfl rfl rfl (fun h502 => ?_) (fun h502 => ?_)
    · refine X.cut [] i113_27 rfl ?_
      refine X.iconst 28 i113_27 rfl rfl (by decide) ?_
      exact hK507 (-1) (by first | trivial | omega) (Eq.trans (if_neg h502) rfl)
    · refine X.aload_n 18 i113_17 rfl rfl rfl ?_
      refine X.getF 21 i113_18 rfl rfl (by decide) rfl rfl ?_
      refine X.getIr 24 5 i113_21 rfl rfl (by decide) rfl rfl rfl (fun h503 => ?_)
      refine X.goto 28 i113_24 rfl rfl ?_
      refine X.cut [] i113_28 rfl ?_
      exact hK507 (m 4 41 5) (by first | trivial | omega) (Eq.trans (if_pos h502) rfl)
  · refine X.aload_n 5 i113_4 rfl rfl rfl ?_
    refine X.getF 8 i113_5 rfl rfl (by decide) rfl rfl ?_
    refine X.getIr 11 4 i113_8 rfl rfl (by decide) rfl rfl rfl (fun h509 => ?_)
    refine X.reti i113_11 rfl t113 ?_
    exact hQ (m 4 41 4) (by first | trivial | omega) (Eq.trans (if_pos h501) rfl) 
-- WorkMeterModel.fault
noncomputable def f259_1 (a1 : Int) (m : zM) : Int :=
  zn (if a1 = 0 then
  ((m 4 44 6))
  else
  (if a1 = 1 then
  ((m 4 44 7))
  else
  ((-1)))) fun v505 =>
  v505
-- WorkMeterModel.fault
theorem c259_1 {s : Nat × (Nat → Int32)} {S : zS} {m0 m : zM} {B : Int} {d : Nat} {Q : Option zV → zM → Prop} (a1 : Int) (hd : 13 ≤ d) (hJ : J S m0 B m) (hB : B + 0 ≤ 1000000000) (ha1 : (-2147483648) ≤ a1 ∧ a1 ≤ 2147483647) (hQ : ∀ (v : Int), ((-2147483648) ≤ v ∧ v ≤ 2147483647) → f259_1 a1 m = v → Q (some (zi v)) m) : X (EE s) d 259 0 [(0, zr 4 44), (1, zi a1)] [] m Q := by
  refine X.iload_n 1 i259_0 rfl rfl rfl ?_
  have hK508 : ∀ (v : Int) , ((-2147483648) ≤ v ∧ v ≤ 2147483647) → (if a1 = 0 then
      ((m 4 44 6))
      else
      (if a1 = 1 then
      ((m 4 44 7))
      else
      ((-1)))) = v → X (EE s) d 259 24 [] [zi v] m Q := by
    intro v505 hv505 hT509
    refine X.reti i259_24 rfl t259 ?_
    exact hQ v505 (by first | trivial | omega) (Eq.trans (zn_eq hT509.symm) rfl) 
  refine X.ifne 11 4 i259_1 rfl rfl rfl (fun h501 => ?_) (fun h501 => ?_)
  · refine X.iload_n 12 i259_11 rfl rfl rfl ?_
    refine X.iconst 13 i259_12 rfl rfl (by decide) ?_
    refine X.icmpne 23 16 i259_13 rfl rfl rfl (fun h502 => ?_) (fun h502 => ?_)
    · refine X.cut [] i259_23 rfl ?_
      refine X.iconst 24 i259_23 rfl rfl (by decide) ?_
      exact hK508 (-1) (by first | trivial | omega) (Eq.trans (if_neg h501) (Eq.trans (if_neg h502) rfl))
    · refine X.aload_n 17 i259_16 rfl rfl rfl ?_
      refine X.getIr 20 7 i259_17 rfl rfl (by decide) rfl rfl rfl (fun h503 => ?_)
      refine X.goto 24 i259_20 rfl rfl ?_
      refine X.cut [] i259_24 rfl ?_
      exact hK508 (m 4 44 7) (by first | trivial | omega) (Eq.trans (if_neg h501) (Eq.trans (if_pos h502) rfl))
  · refine X.aload_n 5 i259_4 rfl rfl rfl ?_
    refine X.getIr 8 6 i259_5 rfl rfl (by decide) rfl rfl rfl (fun h504 => ?_)
    refine X.goto 24 i259_8 rfl rfl ?_
    refine X.cut [] i259_24 rfl ?_
    exact hK508 (m 4 44 6) (by first | trivial | omega) (Eq.trans (if_pos h501) rfl)
-- WorkMeter$Seal.close
noncomputable def f115_1 (g0 : Nat) (a1 : Int) (m : zM) : Int × zM :=
  if (m g0 39 0) = 0 then
  (if a1 < 0 then
  ((0, m))
  else
  (if a1 ≤ 9999 then
  (zs (z_upd m g0 39 0 1) fun m505 =>
  zs (z_upd m505 g0 39 1 a1) fun m507 =>
  (1, m507))
  else
  ((0, m))))
  else
  ((0, m))
-- WorkMeter$Seal.close
theorem c115_1 {s : Nat × (Nat → Int32)} {S : zS} {m0 m : zM} {B : Int} {d : Nat} {Q : Option zV → zM → Prop} (g0 : Nat) (a1 : Int) (hd : 13 ≤ d) (hJ : J S m0 B m) (hB : B + 0 ≤ 1000000000) (ha1 : (-2147483648) ≤ a1 ∧ a1 ≤ 2147483647) (hf4 : ¬ S.1 4) (hgg0 : ¬ S.2.1 g0) (hQ : ∀ (v : Int) m', (0 ≤ v ∧ v ≤ 1) → f115_1 g0 a1 m = (v, m') → J S m0 (B) m' → Q (some (zi v)) m') : X (EE s) d 115 0 [(0, zr g0 39), (1, zi a1)] [] m Q := by
  refine X.aload_n 1 i115_0 rfl rfl rfl ?_
  refine X.getZ 4 0 i115_1 rfl rfl (by decide) rfl rfl rfl (fun h501 => ?_)
  refine X.ifne 18 7 i115_4 rfl rfl rfl (fun h502 => ?_) (fun h502 => ?_)
  · refine X.cut [] i115_18 rfl ?_
    refine X.iconst 19 i115_18 rfl rfl (by decide) ?_
    refine X.retz i115_19 rfl t115 (by omega) ?_
    exact hQ 0 m (by first | trivial | omega) (Eq.trans (if_neg h502) rfl) (hJ.up (by omega)) 
  · refine X.iload_n 8 i115_7 rfl rfl rfl ?_
    refine X.iflt 18 11 i115_8 rfl rfl rfl (fun h503 => ?_) (fun h503 => ?_)
    · refine X.cut [] i115_18 rfl ?_
      refine X.iconst 19 i115_18 rfl rfl (by decide) ?_
      refine X.retz i115_19 rfl t115 (by omega) ?_
      exact hQ 0 m (by first | trivial | omega) (Eq.trans (if_pos h502) (Eq.trans (if_pos h503) rfl)) (hJ.up (by omega)) 
    · refine X.iload_n 12 i115_11 rfl rfl rfl ?_
      refine X.sipush 15 i115_12 rfl rfl (by decide) ?_
      refine X.icmple 20 18 i115_15 rfl rfl rfl (fun h504 => ?_) (fun h504 => ?_)
      · refine X.aload_n 21 i115_20 rfl rfl rfl ?_
        refine X.iconst 22 i115_21 rfl rfl (by decide) ?_
        refine X.putZ' 25 0 i115_22 rfl rfl (by decide) rfl rfl rfl (by omega) (fun hrm505 m505 hm505 => ?_)
        have hJ506 := w39_0 hJ hm505 (by omega) hf4 hgg0
        refine X.aload_n 26 i115_25 rfl rfl rfl ?_
        refine X.iload_n 27 i115_26 rfl rfl rfl ?_
        refine X.putI' 30 1 i115_27 rfl rfl (by decide) rfl rfl rfl (fun hrm507 m507 hm507 => ?_)
        have hJ508 := w39_1 hJ506 hm507 hrm507 hf4 hgg0
        refine X.iconst 31 i115_30 rfl rfl (by decide) ?_
        refine X.retz i115_31 rfl t115 (by omega) ?_
        exact hQ 1 m507 (by first | trivial | omega) (Eq.trans (if_pos h502) (Eq.trans (if_neg h503) (Eq.trans (if_pos h504) (Eq.trans (zs_eq hm505) (Eq.trans (zs_eq hm507) rfl))))) (hJ508.up (by omega)) 
      · refine X.cut [] i115_18 rfl ?_
        refine X.iconst 19 i115_18 rfl rfl (by decide) ?_
        refine X.retz i115_19 rfl t115 (by omega) ?_
        exact hQ 0 m (by first | trivial | omega) (Eq.trans (if_pos h502) (Eq.trans (if_neg h503) (Eq.trans (if_neg h504) rfl))) (hJ.up (by omega)) 
-- WorkMeter$Meter.note
theorem c54_2 {s : Nat × (Nat → Int32)} {S : zS} {m0 m : zM} {B : Int} {d : Nat} {Q : Option zV → zM → Prop} (g0 : Nat) (a1 a2 : Int) (hd : 14 ≤ d) (hJ : J S m0 B m) (hB : B + 1 ≤ 1000000000) (ha1 : 30 ≤ a1 ∧ a1 ≤ 30) (ha2 : 0 ≤ a2 ∧ a2 ≤ 0) (hf6 : ¬ S.1 6) (hgg0 : ¬ S.2.1 g0) (hQ : ∀ m', f54_1 g0 a1 a2 m = m' → J S m0 (B + 1) m' → Q none m') : X (EE s) d 54 0 [(0, zr g0 8), (1, zi a1), (2, zi a2)] [] m Q := by
  refine X.aload_n 1 i54_0 rfl rfl rfl ?_
  refine X.getR 4 i54_1 rfl rfl (by decide) rfl rfl ?_
  refine X.aload_n 5 i54_4 rfl rfl rfl ?_
  refine X.getI 8 9 i54_5 rfl rfl (by decide) rfl rfl rfl ?_
  have h501 := r8_9 hJ g0
  refine X.iload_n 9 i54_8 rfl rfl rfl ?_
  refine X.iload_n 10 i54_9 rfl rfl rfl ?_
  refine X.callv 13 [zi (m g0 8 9), zi a1, zi a2] [] [(0, zr g0 37), (1, zi (m g0 8 9)), (2, zi a1), (3, zi a2)] i54_10 rfl (by decide) rfl rfl (by omega) rfl rfl (by decide) rfl t55 (Nat.le_of_ble_eq_true rfl) (Nat.le_of_ble_eq_true rfl) rfl ?_
  refine c55_1 (B := B) g0 (m g0 8 9) a1 a2 (by omega) (hJ.up (by omega)) (by omega) (by omega) (by omega) (by omega) hf6 hgg0 (fun m502 hFv504 hJ503 => ?_)
  show X (EE s) d 54 13 [(0, zr g0 8), (1, zi a1), (2, zi a2)] [] m502 _
  refine X.retv i54_13 rfl t54 ?_
  exact hQ  m502  (Eq.trans (zs_eq hFv504.symm) rfl) (hJ503.up (by omega)) 
-- WorkMeter.seal
noncomputable def f114_1 (a1 : Int) (m : zM) : Int × zM :=
  zb (f115_1 0 a1 m) fun v503 m501 =>
  if v503 = 0 then
  ((0, m501))
  else
  (zs (f54_1 0 30 0 m501) fun m505 =>
  (1, m505))
-- WorkMeter.seal
theorem c114_1 {s : Nat × (Nat → Int32)} {S : zS} {m0 m : zM} {B : Int} {d : Nat} {Q : Option zV → zM → Prop} (a1 : Int) (hd : 15 ≤ d) (hJ : J S m0 B m) (hB : B + 1 ≤ 1000000000) (ha1 : (-2147483648) ≤ a1 ∧ a1 ≤ 2147483647) (hf4 : ¬ S.1 4) (hf6 : ¬ S.1 6) (hg0 : ¬ S.2.1 0) (hQ : ∀ (v : Int) m', (0 ≤ v ∧ v ≤ 1) → f114_1 a1 m = (v, m') → J S m0 (B + 1) m' → Q (some (zi v)) m') : X (EE s) d 114 0 [(0, zr 4 40), (1, zi a1)] [] m Q := by
  refine X.aload_n 1 i114_0 rfl rfl rfl ?_
  refine X.getF 4 i114_1 rfl rfl (by decide) rfl rfl ?_
  refine X.getR 7 i114_4 rfl rfl (by decide) rfl rfl ?_
  refine X.iload_n 8 i114_7 rfl rfl rfl ?_
  refine X.callv 11 [zi a1] [] [(0, zr 0 39), (1, zi a1)] i114_8 rfl (by decide) rfl rfl (by omega) rfl rfl (by decide) rfl t115 (Nat.le_of_ble_eq_true rfl) (Nat.le_of_ble_eq_true rfl) rfl ?_
  refine c115_1 (B := B) 0 a1 (by omega) (hJ.up (by omega)) (by omega) (by omega) hf4 hg0 (fun v503 m501 hv503 hFv503 hJ502 => ?_)
  show X (EE s) d 114 11 [(0, zr 4 40), (1, zi a1)] [zi v503] m501 _
  refine X.ifne 16 14 i114_11 rfl rfl rfl (fun h504 => ?_) (fun h504 => ?_)
  · refine X.cut [(0, zr 4 40)] i114_16 rfl ?_
    refine X.aload_n 17 i114_16 rfl rfl rfl ?_
    refine X.getF 20 i114_17 rfl rfl (by decide) rfl rfl ?_
    refine X.bipush 22 i114_20 rfl rfl (by decide) ?_
    refine X.iconst 23 i114_22 rfl rfl (by decide) ?_
    refine X.callv 26 [zi 30, zi 0] [] [(0, zr 0 8), (1, zi 30), (2, zi 0)] i114_23 rfl (by decide) rfl rfl (by omega) rfl rfl (by decide) rfl t54 (Nat.le_of_ble_eq_true rfl) (Nat.le_of_ble_eq_true rfl) rfl ?_
    refine c54_2 (B := B) 0 30 0 (by omega) (hJ502.up (by omega)) (by omega) (by omega) (by omega) hf6 hg0 (fun m505 hFv507 hJ506 => ?_)
    show X (EE s) d 114 26 [(0, zr 4 40)] [] m505 _
    refine X.iconst 27 i114_26 rfl rfl (by decide) ?_
    refine X.retz i114_27 rfl t114 (by omega) ?_
    exact hQ 1 m505 (by first | trivial | omega) (Eq.trans (zb_eq hFv503) (Eq.trans (if_neg h504) (Eq.trans (zs_eq hFv507.symm) rfl))) (hJ506.up (by omega)) 
  · refine X.iconst 15 i114_14 rfl rfl (by decide) ?_
    refine X.retz i114_15 rfl t114 (by omega) ?_
    exact hQ 0 m501 (by first | trivial | omega) (Eq.trans (zb_eq hFv503) (Eq.trans (if_pos h504) rfl)) (hJ502.up (by omega)) 
-- WorkMeterModel.seal
noncomputable def f276_1 (a1 : Int) (m : zM) : Int × zM :=
  if (m 4 45 1614) = 1 then
  ((0, m))
  else
  (if a1 < 0 then
  ((0, m))
  else
  (if a1 ≤ 9999 then
  (zs (z_upd m 4 45 1614 1) fun m511 =>
  zs (z_upd m511 4 45 1615 a1) fun m513 =>
  zs (f223_1 30 0 m513) fun m515 =>
  (1, m515))
  else
  ((0, m))))
-- WorkMeterModel.seal
theorem c276_1 {s : Nat × (Nat → Int32)} {S : zS} {m0 m : zM} {B : Int} {d : Nat} {Q : Option zV → zM → Prop} (a1 : Int) (hd : 14 ≤ d) (hJ : J S m0 B m) (hB : B + 1 ≤ 1000000000) (ha1 : (-2147483648) ≤ a1 ∧ a1 ≤ 2147483647) (hf4 : ¬ S.1 4) (hf6 : ¬ S.1 6) (hg4 : ¬ S.2.1 4) (hQ : ∀ (v : Int) m', (0 ≤ v ∧ v ≤ 1) → f276_1 a1 m = (v, m') → J S m0 (B + 1) m' → Q (some (zi v)) m') : X (EE s) d 276 0 [(0, zr 4 44), (1, zi a1)] [] m Q := by
  refine X.aload_n 1 i276_0 rfl rfl rfl ?_
  refine X.getF 4 i276_1 rfl rfl (by decide) rfl rfl ?_
  refine X.sipush 7 i276_4 rfl rfl (by decide) ?_
  refine X.lald 8 i276_7 rfl rfl (by decide) rfl (by omega) ?_
  have h501 := r45_1614 hJ 4
  refine X.lconst (y := 1) 9 i276_8 rfl rfl rfl ?_
  refine X.lcmp 10 i276_9 rfl rfl (fun z502 hz502 => ?_)
  refine X.ifeq 25 13 i276_10 rfl rfl rfl (fun h503 => ?_) (fun h503 => ?_)
  · have h503c : (m 4 45 1614) = 1 := by omega
    clear h503 hz502
    refine X.cut [] i276_25 rfl ?_
    refine X.iconst 26 i276_25 rfl rfl (by decide) ?_
    refine X.retz i276_26 rfl t276 (by omega) ?_
    exact hQ 0 m (by first | trivial | omega) (Eq.trans (if_pos h503c) rfl) (hJ.up (by omega)) 
  · have h503c : ¬ (m 4 45 1614) = 1 := by omega
    clear h503 hz502
    refine X.iload_n 14 i276_13 rfl rfl rfl ?_
    refine X.i2l 15 i276_14 rfl rfl ?_
    refine X.lconst (y := 0) 16 i276_15 rfl rfl rfl ?_
    refine X.ldc2 19 i276_16 rfl rfl (by decide) ?_
    refine X.calls 22 [zl a1, zl 0, zl 9999] [] [(0, zl a1), (2, zl 0), (4, zl 9999)] i276_19 (by decide) rfl rfl (by omega) rfl rfl t204 (Nat.le_of_ble_eq_true rfl) (Nat.le_of_ble_eq_true rfl) rfl ?_
    refine X.lload_n 1 i204_0 rfl rfl rfl ?_
    refine X.lload_n 2 i204_1 rfl rfl rfl ?_
    refine X.lcmp 3 i204_2 rfl rfl (fun z504 hz504 => ?_)
    refine X.iflt 17 6 i204_3 rfl rfl rfl (fun h505 => ?_) (fun h505 => ?_)
    · have h505c : a1 < 0 := by omega
      clear h505 hz504
      refine X.cut [] i204_17 rfl ?_
      refine X.iconst 18 i204_17 rfl rfl (by decide) ?_
      refine X.retz i204_18 rfl t204 (by omega) ?_
      show X (EE s) d 276 22 [(0, zr 4 44), (1, zi a1)] [zi 0] m _
      refine X.ifne 27 25 i276_22 rfl rfl rfl (fun h506 => (by exfalso; omega)) (fun h506 => ?_)
      refine X.cut [] i276_25 rfl ?_
      refine X.iconst 26 i276_25 rfl rfl (by decide) ?_
      refine X.retz i276_26 rfl t276 (by omega) ?_
      exact hQ 0 m (by first | trivial | omega) (Eq.trans (if_neg h503c) (Eq.trans (if_pos h505c) rfl)) (hJ.up (by omega)) 
    · have h505c : ¬ a1 < 0 := by omega
      clear h505 hz504
      refine X.lload_n 7 i204_6 rfl rfl rfl ?_
      refine X.lload 9 i204_7 rfl rfl rfl ?_
      refine X.lcmp 10 i204_9 rfl rfl (fun z507 hz507 => ?_)
      refine X.ifgt 17 13 i204_10 rfl rfl rfl (fun h508 => ?_) (fun h508 => ?_)
      · have h508c : ¬ a1 ≤ 9999 := by omega
        clear h508 hz507
        refine X.cut [] i204_17 rfl ?_
        refine X.iconst 18 i204_17 rfl rfl (by decide) ?_
        refine X.retz i204_18 rfl t204 (by omega) ?_
        show X (EE s) d 276 22 [(0, zr 4 44), (1, zi a1)] [zi 0] m _
        refine X.ifne 27 25 i276_22 rfl rfl rfl (fun h509 => (by exfalso; omega)) (fun h509 => ?_)
        refine X.cut [] i276_25 rfl ?_
        refine X.iconst 26 i276_25 rfl rfl (by decide) ?_
        refine X.retz i276_26 rfl t276 (by omega) ?_
        exact hQ 0 m (by first | trivial | omega) (Eq.trans (if_neg h503c) (Eq.trans (if_neg h505c) (Eq.trans (if_neg h508c) rfl))) (hJ.up (by omega)) 
      · have h508c : a1 ≤ 9999 := by omega
        clear h508 hz507
        refine X.iconst 14 i204_13 rfl rfl (by decide) ?_
        refine X.goto 18 i204_14 rfl rfl ?_
        refine X.cut [] i204_18 rfl ?_
        refine X.retz i204_18 rfl t204 (by omega) ?_
        show X (EE s) d 276 22 [(0, zr 4 44), (1, zi a1)] [zi 1] m _
        refine X.ifne 27 25 i276_22 rfl rfl rfl (fun h510 => ?_) (fun h510 => (by exfalso; omega))
        refine X.aload_n 28 i276_27 rfl rfl rfl ?_
        refine X.getF 31 i276_28 rfl rfl (by decide) rfl rfl ?_
        refine X.sipush 34 i276_31 rfl rfl (by decide) ?_
        refine X.lconst (y := 1) 35 i276_34 rfl rfl rfl ?_
        refine X.last' 36 i276_35 rfl rfl (by decide) rfl (by omega) (fun hrm511 m511 hm511 => ?_)
        have hJ512 := w45_1614 hJ hm511 (by omega) hf4 hg4
        refine X.aload_n 37 i276_36 rfl rfl rfl ?_
        refine X.getF 40 i276_37 rfl rfl (by decide) rfl rfl ?_
        refine X.sipush 43 i276_40 rfl rfl (by decide) ?_
        refine X.iload_n 44 i276_43 rfl rfl rfl ?_
        refine X.i2l 45 i276_44 rfl rfl ?_
        refine X.last' 46 i276_45 rfl rfl (by decide) rfl (by omega) (fun hrm513 m513 hm513 => ?_)
        have hJ514 := w45_1615 hJ512 hm513 hrm513 hf4 hg4
        refine X.aload_n 47 i276_46 rfl rfl rfl ?_
        refine X.bipush 49 i276_47 rfl rfl (by decide) ?_
        refine X.lconst (y := 0) 50 i276_49 rfl rfl rfl ?_
        refine X.callv 53 [zi 30, zl 0] [] [(0, zr 4 44), (1, zi 30), (2, zl 0)] i276_50 rfl (by decide) rfl rfl (by omega) rfl rfl (by decide) rfl t223 (Nat.le_of_ble_eq_true rfl) (Nat.le_of_ble_eq_true rfl) rfl ?_
        refine c223_1 (B := B)  30 0 (by omega) (hJ514.up (by omega)) (by omega) (by omega) hf6 hg4 (fun m515 hFv517 hJ516 => ?_)
        show X (EE s) d 276 53 [(0, zr 4 44), (1, zi a1)] [] m515 _
        refine X.iconst 54 i276_53 rfl rfl (by decide) ?_
        refine X.retz i276_54 rfl t276 (by omega) ?_
        exact hQ 1 m515 (by first | trivial | omega) (Eq.trans (if_neg h503c) (Eq.trans (if_neg h505c) (Eq.trans (if_pos h508c) (Eq.trans (zs_eq hm511) (Eq.trans (zs_eq hm513) (Eq.trans (zs_eq hFv517.symm) rfl)))))) (hJ516.up (by omega)) 
-- WorkMeter$Seal.lockedFor
noncomputable def f118_1 (g0 : Nat) (a1 : Int) (m : zM) : Int :=
  (max 0 ((m g0 39 4) - a1))
-- WorkMeter$Seal.lockedFor
theorem c118_1 {s : Nat × (Nat → Int32)} {S : zS} {m0 m : zM} {B : Int} {d : Nat} {Q : Option zV → zM → Prop} (g0 : Nat) (a1 : Int) (hd : 13 ≤ d) (hJ : J S m0 B m) (hB : B + 0 ≤ 1000000000) (ha1 : 0 ≤ a1 ∧ a1 ≤ 2000000000) (hQ : ∀ (v : Int), (0 ≤ v ∧ v ≤ 2000000300) → f118_1 g0 a1 m = v → Q (some (zi v)) m) : X (EE s) d 118 0 [(0, zr g0 39), (1, zi a1)] [] m Q := by
  refine X.iconst 1 i118_0 rfl rfl (by decide) ?_
  refine X.aload_n 2 i118_1 rfl rfl rfl ?_
  refine X.getI 5 4 i118_2 rfl rfl (by decide) rfl rfl rfl ?_
  have h501 := r39_4 hJ g0
  refine X.iload_n 6 i118_5 rfl rfl rfl ?_
  refine X.isub 7 i118_6 rfl rfl (by omega) ?_
  refine X.maxI 10 i118_7 rfl rfl (by omega) (Nat.le_of_ble_eq_true rfl) ?_
  refine X.reti i118_10 rfl t118 ?_
  exact hQ (max 0 ((m g0 39 4) - a1)) (by first | trivial | omega) rfl 
-- WorkMeter$Meter.note
theorem c54_3 {s : Nat × (Nat → Int32)} {S : zS} {m0 m : zM} {B : Int} {d : Nat} {Q : Option zV → zM → Prop} (g0 : Nat) (a1 a2 : Int) (hd : 14 ≤ d) (hJ : J S m0 B m) (hB : B + 1 ≤ 1000000000) (ha1 : 32 ≤ a1 ∧ a1 ≤ 32) (ha2 : 0 ≤ a2 ∧ a2 ≤ 1000000000) (hf6 : ¬ S.1 6) (hgg0 : ¬ S.2.1 g0) (hQ : ∀ m', f54_1 g0 a1 a2 m = m' → J S m0 (B + 1) m' → Q none m') : X (EE s) d 54 0 [(0, zr g0 8), (1, zi a1), (2, zi a2)] [] m Q := by
  refine X.aload_n 1 i54_0 rfl rfl rfl ?_
  refine X.getR 4 i54_1 rfl rfl (by decide) rfl rfl ?_
  refine X.aload_n 5 i54_4 rfl rfl rfl ?_
  refine X.getI 8 9 i54_5 rfl rfl (by decide) rfl rfl rfl ?_
  have h501 := r8_9 hJ g0
  refine X.iload_n 9 i54_8 rfl rfl rfl ?_
  refine X.iload_n 10 i54_9 rfl rfl rfl ?_
  refine X.callv 13 [zi (m g0 8 9), zi a1, zi a2] [] [(0, zr g0 37), (1, zi (m g0 8 9)), (2, zi a1), (3, zi a2)] i54_10 rfl (by decide) rfl rfl (by omega) rfl rfl (by decide) rfl t55 (Nat.le_of_ble_eq_true rfl) (Nat.le_of_ble_eq_true rfl) rfl ?_
  refine c55_1 (B := B) g0 (m g0 8 9) a1 a2 (by omega) (hJ.up (by omega)) (by omega) (by omega) (by omega) (by omega) hf6 hgg0 (fun m502 hFv504 hJ503 => ?_)
  show X (EE s) d 54 13 [(0, zr g0 8), (1, zi a1), (2, zi a2)] [] m502 _
  refine X.retv i54_13 rfl t54 ?_
  exact hQ  m502  (Eq.trans (zs_eq hFv504.symm) rfl) (hJ503.up (by omega)) 
-- WorkMeter$Seal.lock
noncomputable def f121_1 (g0 : Nat) (a1 : Int) (m : zM) : zM :=
  zs (z_upd m g0 39 2 0) fun m501 =>
  zs (z_upd m501 g0 39 4 (a1 + 300)) fun m503 =>
  m503
-- WorkMeter$Seal.lock
theorem c121_1 {s : Nat × (Nat → Int32)} {S : zS} {m0 m : zM} {B : Int} {d : Nat} {Q : Option zV → zM → Prop} (g0 : Nat) (a1 : Int) (hd : 13 ≤ d) (hJ : J S m0 B m) (hB : B + 1 ≤ 1000000000) (ha1 : 0 ≤ a1 ∧ a1 ≤ 2000000000) (hf4 : ¬ S.1 4) (hgg0 : ¬ S.2.1 g0) (hQ : ∀ m', f121_1 g0 a1 m = m' → J S m0 (B + 1) m' → Q none m') : X (EE s) d 121 0 [(0, zr g0 39), (1, zi a1)] [] m Q := by
  refine X.aload_n 1 i121_0 rfl rfl rfl ?_
  refine X.iconst 2 i121_1 rfl rfl (by decide) ?_
  refine X.putI' 5 2 i121_2 rfl rfl (by decide) rfl rfl rfl (fun hrm501 m501 hm501 => ?_)
  have rbm501 := r39_2 hJ g0
  have hJ502 := w39_2 (hJ.up (B' := B + 1) (by omega)) hm501 (by omega) hf4 hgg0
  refine X.aload_n 6 i121_5 rfl rfl rfl ?_
  refine X.iload_n 7 i121_6 rfl rfl rfl ?_
  refine X.sipush 10 i121_7 rfl rfl (by decide) ?_
  refine X.iadd 11 i121_10 rfl rfl (by omega) ?_
  refine X.putI' 14 4 i121_11 rfl rfl (by decide) rfl rfl rfl (fun hrm503 m503 hm503 => ?_)
  have hJ504 := w39_4 hJ502 hm503 (by omega) hf4 hgg0
  refine X.retv i121_14 rfl t121 ?_
  exact hQ  m503  (Eq.trans (zs_eq hm501) (Eq.trans (zs_eq hm503) rfl)) (hJ504.up (by omega)) 
-- WorkMeter$Meter.note
theorem c54_4 {s : Nat × (Nat → Int32)} {S : zS} {m0 m : zM} {B : Int} {d : Nat} {Q : Option zV → zM → Prop} (g0 : Nat) (a1 a2 : Int) (hd : 14 ≤ d) (hJ : J S m0 B m) (hB : B + 1 ≤ 1000000000) (ha1 : 33 ≤ a1 ∧ a1 ≤ 33) (ha2 : 0 ≤ a2 ∧ a2 ≤ 0) (hf6 : ¬ S.1 6) (hgg0 : ¬ S.2.1 g0) (hQ : ∀ m', f54_1 g0 a1 a2 m = m' → J S m0 (B + 1) m' → Q none m') : X (EE s) d 54 0 [(0, zr g0 8), (1, zi a1), (2, zi a2)] [] m Q := by
  refine X.aload_n 1 i54_0 rfl rfl rfl ?_
  refine X.getR 4 i54_1 rfl rfl (by decide) rfl rfl ?_
  refine X.aload_n 5 i54_4 rfl rfl rfl ?_
  refine X.getI 8 9 i54_5 rfl rfl (by decide) rfl rfl rfl ?_
  have h501 := r8_9 hJ g0
  refine X.iload_n 9 i54_8 rfl rfl rfl ?_
  refine X.iload_n 10 i54_9 rfl rfl rfl ?_
  refine X.callv 13 [zi (m g0 8 9), zi a1, zi a2] [] [(0, zr g0 37), (1, zi (m g0 8 9)), (2, zi a1), (3, zi a2)] i54_10 rfl (by decide) rfl rfl (by omega) rfl rfl (by decide) rfl t55 (Nat.le_of_ble_eq_true rfl) (Nat.le_of_ble_eq_true rfl) rfl ?_
  refine c55_1 (B := B) g0 (m g0 8 9) a1 a2 (by omega) (hJ.up (by omega)) (by omega) (by omega) (by omega) (by omega) hf6 hgg0 (fun m502 hFv504 hJ503 => ?_)
  show X (EE s) d 54 13 [(0, zr g0 8), (1, zi a1), (2, zi a2)] [] m502 _
  refine X.retv i54_13 rfl t54 ?_
  exact hQ  m502  (Eq.trans (zs_eq hFv504.symm) rfl) (hJ503.up (by omega)) 
-- WorkMeter$Seal.breakOpen
noncomputable def f119_1 (g0 : Nat) (m : zM) : zM :=
  zs (z_upd m g0 39 0 0) fun m501 =>
  zs (z_upd m501 g0 39 2 0) fun m503 =>
  zs (z_upd m503 g0 39 4 0) fun m505 =>
  m505
-- WorkMeter$Seal.breakOpen
theorem c119_1 {s : Nat × (Nat → Int32)} {S : zS} {m0 m : zM} {B : Int} {d : Nat} {Q : Option zV → zM → Prop} (g0 : Nat) (hd : 13 ≤ d) (hJ : J S m0 B m) (hB : B + 1 ≤ 1000000000) (hf4 : ¬ S.1 4) (hgg0 : ¬ S.2.1 g0) (hQ : ∀ m', f119_1 g0 m = m' → J S m0 (B + 1) m' → Q none m') : X (EE s) d 119 0 [(0, zr g0 39)] [] m Q := by
  refine X.aload_n 1 i119_0 rfl rfl rfl ?_
  refine X.iconst 2 i119_1 rfl rfl (by decide) ?_
  refine X.putZ' 5 0 i119_2 rfl rfl (by decide) rfl rfl rfl (by omega) (fun hrm501 m501 hm501 => ?_)
  have hJ502 := w39_0 hJ hm501 (by omega) hf4 hgg0
  refine X.aload_n 6 i119_5 rfl rfl rfl ?_
  refine X.iconst 7 i119_6 rfl rfl (by decide) ?_
  refine X.putI' 10 2 i119_7 rfl rfl (by decide) rfl rfl rfl (fun hrm503 m503 hm503 => ?_)
  have rbm503 := r39_2 hJ502 g0
  have hJ504 := w39_2 (hJ502.up (B' := B + 1) (by omega)) hm503 (by omega) hf4 hgg0
  refine X.aload_n 11 i119_10 rfl rfl rfl ?_
  refine X.iconst 12 i119_11 rfl rfl (by decide) ?_
  refine X.putI' 15 4 i119_12 rfl rfl (by decide) rfl rfl rfl (fun hrm505 m505 hm505 => ?_)
  have hJ506 := w39_4 hJ504 hm505 (by omega) hf4 hgg0
  refine X.retv i119_15 rfl t119 ?_
  exact hQ  m505  (Eq.trans (zs_eq hm501) (Eq.trans (zs_eq hm503) (Eq.trans (zs_eq hm505) rfl))) (hJ506.up (by omega)) 
-- WorkMeter$Meter.note
theorem c54_5 {s : Nat × (Nat → Int32)} {S : zS} {m0 m : zM} {B : Int} {d : Nat} {Q : Option zV → zM → Prop} (g0 : Nat) (a1 a2 : Int) (hd : 14 ≤ d) (hJ : J S m0 B m) (hB : B + 1 ≤ 1000000000) (ha1 : 31 ≤ a1 ∧ a1 ≤ 31) (ha2 : 0 ≤ a2 ∧ a2 ≤ 0) (hf6 : ¬ S.1 6) (hgg0 : ¬ S.2.1 g0) (hQ : ∀ m', f54_1 g0 a1 a2 m = m' → J S m0 (B + 1) m' → Q none m') : X (EE s) d 54 0 [(0, zr g0 8), (1, zi a1), (2, zi a2)] [] m Q := by
  refine X.aload_n 1 i54_0 rfl rfl rfl ?_
  refine X.getR 4 i54_1 rfl rfl (by decide) rfl rfl ?_
  refine X.aload_n 5 i54_4 rfl rfl rfl ?_
  refine X.getI 8 9 i54_5 rfl rfl (by decide) rfl rfl rfl ?_
  have h501 := r8_9 hJ g0
  refine X.iload_n 9 i54_8 rfl rfl rfl ?_
  refine X.iload_n 10 i54_9 rfl rfl rfl ?_
  refine X.callv 13 [zi (m g0 8 9), zi a1, zi a2] [] [(0, zr g0 37), (1, zi (m g0 8 9)), (2, zi a1), (3, zi a2)] i54_10 rfl (by decide) rfl rfl (by omega) rfl rfl (by decide) rfl t55 (Nat.le_of_ble_eq_true rfl) (Nat.le_of_ble_eq_true rfl) rfl ?_
  refine c55_1 (B := B) g0 (m g0 8 9) a1 a2 (by omega) (hJ.up (by omega)) (by omega) (by omega) (by omega) (by omega) hf6 hgg0 (fun m502 hFv504 hJ503 => ?_)
  show X (EE s) d 54 13 [(0, zr g0 8), (1, zi a1), (2, zi a2)] [] m502 _
  refine X.retv i54_13 rfl t54 ?_
  exact hQ  m502  (Eq.trans (zs_eq hFv504.symm) rfl) (hJ503.up (by omega)) 
-- WorkMeter$Meter.tryCode
noncomputable def f117_1 (g0 : Nat) (a1 : Int) (m : zM) : Int × zM :=
  if (m g0 39 0) = 0 then
  ((0, m))
  else
  (zn (f118_1 g0 (m g0 8 9) m) fun v506 =>
  if v506 ≤ 0 then
  (if a1 = (m g0 39 1) then
  (zs (f119_1 g0 m) fun m528 =>
  zs (f54_1 g0 31 0 m528) fun m531 =>
  (1, m531))
  else
  (zs (z_upd m g0 39 2 ((m g0 39 2) + 1)) fun m511 =>
  zs (f54_1 g0 32 (m511 g0 39 2) m511) fun m514 =>
  if (m514 g0 39 2) < 3 then
  ((0, m514))
  else
  (zs (f121_1 g0 (m514 g0 8 9) m514) fun m522 =>
  zs (f54_1 g0 33 0 m522) fun m525 =>
  (0, m525))))
  else
  ((0, m)))
-- WorkMeter$Meter.tryCode
theorem c117_1 {s : Nat × (Nat → Int32)} {S : zS} {m0 m : zM} {B : Int} {d : Nat} {Q : Option zV → zM → Prop} (g0 : Nat) (a1 : Int) (hd : 15 ≤ d) (hJ : J S m0 B m) (hB : B + 4 ≤ 1000000000) (ha1 : (-2147483648) ≤ a1 ∧ a1 ≤ 2147483647) (hf4 : ¬ S.1 4) (hf6 : ¬ S.1 6) (hgg0 : ¬ S.2.1 g0) (hQ : ∀ (v : Int) m', (0 ≤ v ∧ v ≤ 1) → f117_1 g0 a1 m = (v, m') → J S m0 (B + 4) m' → Q (some (zi v)) m') : X (EE s) d 117 0 [(0, zr g0 8), (1, zi a1)] [] m Q := by
  refine X.aload_n 1 i117_0 rfl rfl rfl ?_
  refine X.getR 4 i117_1 rfl rfl (by decide) rfl rfl ?_
  refine X.getZ 7 0 i117_4 rfl rfl (by decide) rfl rfl rfl (fun h501 => ?_)
  refine X.ifeq 24 10 i117_7 rfl rfl rfl (fun h502 => ?_) (fun h502 => ?_)
  · refine X.cut [] i117_24 rfl ?_
    refine X.iconst 25 i117_24 rfl rfl (by decide) ?_
    refine X.retz i117_25 rfl t117 (by omega) ?_
    exact hQ 0 m (by first | trivial | omega) (Eq.trans (if_pos h502) rfl) (hJ.up (by omega)) 
  · refine X.aload_n 11 i117_10 rfl rfl rfl ?_
    refine X.getR 14 i117_11 rfl rfl (by decide) rfl rfl ?_
    refine X.aload_n 15 i117_14 rfl rfl rfl ?_
    refine X.getI 18 9 i117_15 rfl rfl (by decide) rfl rfl rfl ?_
    have h503 := r8_9 hJ g0
    refine X.callv 21 [zi (m g0 8 9)] [] [(0, zr g0 39), (1, zi (m g0 8 9))] i117_18 rfl (by decide) rfl rfl (by omega) rfl rfl (by decide) rfl t118 (Nat.le_of_ble_eq_true rfl) (Nat.le_of_ble_eq_true rfl) rfl ?_
    refine c118_1 (B := B) g0 (m g0 8 9) (by omega) (hJ.up (by omega)) (by omega) (by omega) (fun v506 hv506 hFv506 => ?_)
    show X (EE s) d 117 21 [(0, zr g0 8), (1, zi a1)] [zi v506] m _
    refine X.ifle 26 24 i117_21 rfl rfl rfl (fun h507 => ?_) (fun h507 => ?_)
    · refine X.iload_n 27 i117_26 rfl rfl rfl ?_
      refine X.aload_n 28 i117_27 rfl rfl rfl ?_
      refine X.getR 31 i117_28 rfl rfl (by decide) rfl rfl ?_
      refine X.getIr 34 1 i117_31 rfl rfl (by decide) rfl rfl rfl (fun h508 => ?_)
      refine X.icmpne 53 37 i117_34 rfl rfl rfl (fun h509 => ?_) (fun h509 => ?_)
      · refine X.cut [(0, zr g0 8)] i117_53 rfl ?_
        refine X.aload_n 54 i117_53 rfl rfl rfl ?_
        refine X.getR 57 i117_54 rfl rfl (by decide) rfl rfl ?_
        refine X.dup 58 i117_57 rfl rfl rfl ?_
        refine X.getI 61 2 i117_58 rfl rfl (by decide) rfl rfl rfl ?_
        have h510 := r39_2 hJ g0
        refine X.iconst 62 i117_61 rfl rfl (by decide) ?_
        refine X.iadd 63 i117_62 rfl rfl (by omega) ?_
        refine X.putI' 66 2 i117_63 rfl rfl (by decide) rfl rfl rfl (fun hrm511 m511 hm511 => ?_)
        have hJ512 := w39_2 (hJ.up (B' := B + 1) (by omega)) hm511 (by omega) hf4 hgg0
        refine X.aload_n 67 i117_66 rfl rfl rfl ?_
        refine X.bipush 69 i117_67 rfl rfl (by decide) ?_
        refine X.aload_n 70 i117_69 rfl rfl rfl ?_
        refine X.getR 73 i117_70 rfl rfl (by decide) rfl rfl ?_
        refine X.getI 76 2 i117_73 rfl rfl (by decide) rfl rfl rfl ?_
        have h513 := r39_2 hJ512 g0
        refine X.callv 79 [zi 32, zi (m511 g0 39 2)] [] [(0, zr g0 8), (1, zi 32), (2, zi (m511 g0 39 2))] i117_76 rfl (by decide) rfl rfl (by omega) rfl rfl (by decide) rfl t54 (Nat.le_of_ble_eq_true rfl) (Nat.le_of_ble_eq_true rfl) rfl ?_
        refine c54_3 (B := B + 1) g0 32 (m511 g0 39 2) (by omega) (hJ512.up (by omega)) (by omega) (by omega) (by omega) hf6 hgg0 (fun m514 hFv516 hJ515 => ?_)
        show X (EE s) d 117 79 [(0, zr g0 8)] [] m514 _
        refine X.aload_n 80 i117_79 rfl rfl rfl ?_
        refine X.getR 83 i117_80 rfl rfl (by decide) rfl rfl ?_
        refine X.callv 86 [] [] [(0, zr g0 39)] i117_83 rfl (by decide) rfl rfl (by omega) rfl rfl (by decide) rfl t120 (Nat.le_of_ble_eq_true rfl) (Nat.le_of_ble_eq_true rfl) rfl ?_
        refine X.aload_n 1 i120_0 rfl rfl rfl ?_
        refine X.getI 4 2 i120_1 rfl rfl (by decide) rfl rfl rfl ?_
        have h517 := r39_2 hJ515 g0
        refine X.iconst 5 i120_4 rfl rfl (by decide) ?_
        refine X.icmplt 12 8 i120_5 rfl rfl rfl (fun h518 => ?_) (fun h518 => ?_)
        · refine X.cut [] i120_12 rfl ?_
          refine X.iconst 13 i120_12 rfl rfl (by decide) ?_
          refine X.retz i120_13 rfl t120 (by omega) ?_
          show X (EE s) d 117 86 [(0, zr g0 8)] [zi 0] m514 _
          refine X.ifeq 107 89 i117_86 rfl rfl rfl (fun h519 => ?_) (fun h519 => (by exfalso; omega))
          refine X.cut [] i117_107 rfl ?_
          refine X.iconst 108 i117_107 rfl rfl (by decide) ?_
          refine X.retz i117_108 rfl t117 (by omega) ?_
          exact hQ 0 m514 (by first | trivial | omega) (Eq.trans (if_neg h502) (Eq.trans (zn_eq hFv506.symm) (Eq.trans (if_pos h507) (Eq.trans (if_neg h509) (Eq.trans (zs_eq hm511) (Eq.trans (zs_eq hFv516.symm) (Eq.trans (if_pos h518) rfl))))))) (hJ515.up (by omega)) 
        · refine X.iconst 9 i120_8 rfl rfl (by decide) ?_
          refine X.goto 13 i120_9 rfl rfl ?_
          refine X.cut [] i120_13 rfl ?_
          refine X.retz i120_13 rfl t120 (by omega) ?_
          show X (EE s) d 117 86 [(0, zr g0 8)] [zi 1] m514 _
          refine X.ifeq 107 89 i117_86 rfl rfl rfl (fun h520 => (by exfalso; omega)) (fun h520 => ?_)
          refine X.aload_n 90 i117_89 rfl rfl rfl ?_
          refine X.getR 93 i117_90 rfl rfl (by decide) rfl rfl ?_
          refine X.aload_n 94 i117_93 rfl rfl rfl ?_
          refine X.getI 97 9 i117_94 rfl rfl (by decide) rfl rfl rfl ?_
          have h521 := r8_9 hJ515 g0
          refine X.callv 100 [zi (m514 g0 8 9)] [] [(0, zr g0 39), (1, zi (m514 g0 8 9))] i117_97 rfl (by decide) rfl rfl (by omega) rfl rfl (by decide) rfl t121 (Nat.le_of_ble_eq_true rfl) (Nat.le_of_ble_eq_true rfl) rfl ?_
          refine c121_1 (B := B + 2) g0 (m514 g0 8 9) (by omega) (hJ515.up (by omega)) (by omega) (by omega) hf4 hgg0 (fun m522 hFv524 hJ523 => ?_)
          show X (EE s) d 117 100 [(0, zr g0 8)] [] m522 _
          refine X.aload_n 101 i117_100 rfl rfl rfl ?_
          refine X.bipush 103 i117_101 rfl rfl (by decide) ?_
          refine X.iconst 104 i117_103 rfl rfl (by decide) ?_
          refine X.callv 107 [zi 33, zi 0] [] [(0, zr g0 8), (1, zi 33), (2, zi 0)] i117_104 rfl (by decide) rfl rfl (by omega) rfl rfl (by decide) rfl t54 (Nat.le_of_ble_eq_true rfl) (Nat.le_of_ble_eq_true rfl) rfl ?_
          refine c54_4 (B := B + 3) g0 33 0 (by omega) (hJ523.up (by omega)) (by omega) (by omega) (by omega) hf6 hgg0 (fun m525 hFv527 hJ526 => ?_)
          show X (EE s) d 117 107 [(0, zr g0 8)] [] m525 _
          refine X.cut [] i117_107 rfl ?_
          refine X.iconst 108 i117_107 rfl rfl (by decide) ?_
          refine X.retz i117_108 rfl t117 (by omega) ?_
          exact hQ 0 m525 (by first | trivial | omega) (Eq.trans (if_neg h502) (Eq.trans (zn_eq hFv506.symm) (Eq.trans (if_pos h507) (Eq.trans (if_neg h509) (Eq.trans (zs_eq hm511) (Eq.trans (zs_eq hFv516.symm) (Eq.trans (if_neg h518) (Eq.trans (zs_eq hFv524.symm) (Eq.trans (zs_eq hFv527.symm) rfl))))))))) (hJ526.up (by omega)) 
      · refine X.aload_n 38 i117_37 rfl rfl rfl ?_
        refine X.getR 41 i117_38 rfl rfl (by decide) rfl rfl ?_
        refine X.callv 44 [] [] [(0, zr g0 39)] i117_41 rfl (by decide) rfl rfl (by omega) rfl rfl (by decide) rfl t119 (Nat.le_of_ble_eq_true rfl) (Nat.le_of_ble_eq_true rfl) rfl ?_
        refine c119_1 (B := B) g0  (by omega) (hJ.up (by omega)) (by omega)  hf4 hgg0 (fun m528 hFv530 hJ529 => ?_)
        show X (EE s) d 117 44 [(0, zr g0 8), (1, zi a1)] [] m528 _
        refine X.aload_n 45 i117_44 rfl rfl rfl ?_
        refine X.bipush 47 i117_45 rfl rfl (by decide) ?_
        refine X.iconst 48 i117_47 rfl rfl (by decide) ?_
        refine X.callv 51 [zi 31, zi 0] [] [(0, zr g0 8), (1, zi 31), (2, zi 0)] i117_48 rfl (by decide) rfl rfl (by omega) rfl rfl (by decide) rfl t54 (Nat.le_of_ble_eq_true rfl) (Nat.le_of_ble_eq_true rfl) rfl ?_
        refine c54_5 (B := B + 1) g0 31 0 (by omega) (hJ529.up (by omega)) (by omega) (by omega) (by omega) hf6 hgg0 (fun m531 hFv533 hJ532 => ?_)
        show X (EE s) d 117 51 [(0, zr g0 8), (1, zi a1)] [] m531 _
        refine X.iconst 52 i117_51 rfl rfl (by decide) ?_
        refine X.retz i117_52 rfl t117 (by omega) ?_
        exact hQ 1 m531 (by first | trivial | omega) (Eq.trans (if_neg h502) (Eq.trans (zn_eq hFv506.symm) (Eq.trans (if_pos h507) (Eq.trans (if_pos h509) (Eq.trans (zs_eq hFv530.symm) (Eq.trans (zs_eq hFv533.symm) rfl)))))) (hJ532.up (by omega)) 
    · refine X.cut [] i117_24 rfl ?_
      refine X.iconst 25 i117_24 rfl rfl (by decide) ?_
      refine X.retz i117_25 rfl t117 (by omega) ?_
      exact hQ 0 m (by first | trivial | omega) (Eq.trans (if_neg h502) (Eq.trans (zn_eq hFv506.symm) (Eq.trans (if_neg h507) rfl))) (hJ.up (by omega)) 
-- WorkMeter.open
noncomputable def f116_1 (a1 : Int) (m : zM) : Int × zM :=
  zb (f117_1 0 a1 m) fun v503 m501 =>
  (v503, m501)
-- WorkMeter.open
theorem c116_1 {s : Nat × (Nat → Int32)} {S : zS} {m0 m : zM} {B : Int} {d : Nat} {Q : Option zV → zM → Prop} (a1 : Int) (hd : 16 ≤ d) (hJ : J S m0 B m) (hB : B + 4 ≤ 1000000000) (ha1 : (-2147483648) ≤ a1 ∧ a1 ≤ 2147483647) (hf4 : ¬ S.1 4) (hf6 : ¬ S.1 6) (hg0 : ¬ S.2.1 0) (hQ : ∀ (v : Int) m', (0 ≤ v ∧ v ≤ 1) → f116_1 a1 m = (v, m') → J S m0 (B + 4) m' → Q (some (zi v)) m') : X (EE s) d 116 0 [(0, zr 4 40), (1, zi a1)] [] m Q := by
  refine X.aload_n 1 i116_0 rfl rfl rfl ?_
  refine X.getF 4 i116_1 rfl rfl (by decide) rfl rfl ?_
  refine X.iload_n 5 i116_4 rfl rfl rfl ?_
  refine X.callv 8 [zi a1] [] [(0, zr 0 8), (1, zi a1)] i116_5 rfl (by decide) rfl rfl (by omega) rfl rfl (by decide) rfl t117 (Nat.le_of_ble_eq_true rfl) (Nat.le_of_ble_eq_true rfl) rfl ?_
  refine c117_1 (B := B) 0 a1 (by omega) (hJ.up (by omega)) (by omega) (by omega) hf4 hf6 hg0 (fun v503 m501 hv503 hFv503 hJ502 => ?_)
  show X (EE s) d 116 8 [(0, zr 4 40), (1, zi a1)] [zi v503] m501 _
  refine X.retz i116_8 rfl t116 (by omega) ?_
  exact hQ v503 m501 (by first | trivial | omega) (Eq.trans (zb_eq hFv503) rfl) (hJ502.up (by omega)) 
-- WorkMeterModel.lockedFor
noncomputable def f278_1 (m : zM) : Int :=
  zn (if (m 4 45 1617) ≤ (m 4 45 0) then
  (0)
  else
  (((m 4 45 1617) - (m 4 45 0)))) fun v505 =>
  v505
-- WorkMeterModel.lockedFor
theorem c278_1 {s : Nat × (Nat → Int32)} {S : zS} {m0 m : zM} {B : Int} {d : Nat} {Q : Option zV → zM → Prop} (hd : 13 ≤ d) (hJ : J S m0 B m) (hB : B + 0 ≤ 1000000000) (hQ : ∀ (v : Int), ((-1999999999) ≤ v ∧ v ≤ 2000000300) → f278_1 m = v → Q (some (zl v)) m) : X (EE s) d 278 0 [(0, zr 4 44)] [] m Q := by
  refine X.aload_n 1 i278_0 rfl rfl rfl ?_
  refine X.getF 4 i278_1 rfl rfl (by decide) rfl rfl ?_
  refine X.sipush 7 i278_4 rfl rfl (by decide) ?_
  refine X.lald 8 i278_7 rfl rfl (by decide) rfl (by omega) ?_
  have h501 := r45_1617 hJ 4
  refine X.aload_n 9 i278_8 rfl rfl rfl ?_
  refine X.getF 12 i278_9 rfl rfl (by decide) rfl rfl ?_
  refine X.iconst 13 i278_12 rfl rfl (by decide) ?_
  refine X.lald 14 i278_13 rfl rfl (by decide) rfl (by omega) ?_
  have h502 := r45_0 hJ 4
  refine X.lcmp 15 i278_14 rfl rfl (fun z503 hz503 => ?_)
  have hK508 : ∀ (v : Int) , ((-1999999999) ≤ v ∧ v ≤ 2000000300) → (if (m 4 45 1617) ≤ (m 4 45 0) then
      (0)
      else
      (((m 4 45 1617) - (m 4 45 0)))) = v → X (EE s) d 278 37 [] [zl v] m Q := by
    intro v505 hv505 hT509
    refine X.retl i278_37 rfl t278 ?_
    exact hQ v505 (by first | trivial | omega) (Eq.trans (zn_eq hT509.symm) rfl) 
  refine X.ifle 36 18 i278_15 rfl rfl rfl (fun h504 => ?_) (fun h504 => ?_)
  · have h504c : (m 4 45 1617) ≤ (m 4 45 0) := by omega
    clear h504 hz503
    refine X.cut [] i278_36 rfl ?_
    refine X.lconst (y := 0) 37 i278_36 rfl rfl rfl ?_
    exact hK508 0 (by first | trivial | omega) (Eq.trans (if_pos h504c) rfl)
  · have h504c : ¬ (m 4 45 1617) ≤ (m 4 45 0) := by omega
    clear h504 hz503
    refine X.aload_n 19 i278_18 rfl rfl rfl ?_
    refine X.getF 22 i278_19 rfl rfl (by decide) rfl rfl ?_
    refine X.sipush 25 i278_22 rfl rfl (by decide) ?_
    refine X.lald 26 i278_25 rfl rfl (by decide) rfl (by omega) ?_
    refine X.aload_n 27 i278_26 rfl rfl rfl ?_
    refine X.getF 30 i278_27 rfl rfl (by decide) rfl rfl ?_
    refine X.iconst 31 i278_30 rfl rfl (by decide) ?_
    refine X.lald 32 i278_31 rfl rfl (by decide) rfl (by omega) ?_
    refine X.lsub 33 i278_32 rfl rfl (by omega) ?_
    refine X.goto 37 i278_33 rfl rfl ?_
    refine X.cut [] i278_37 rfl ?_
    exact hK508 ((m 4 45 1617) - (m 4 45 0)) (by first | trivial | omega) (Eq.trans (if_neg h504c) rfl)
