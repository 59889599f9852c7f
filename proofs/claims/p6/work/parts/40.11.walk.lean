-- WorkMeter$Calendar.copyFrom
theorem c111_1 {s : Nat × (Nat → Int32)} {S : zS} {m0 m : zM} {B : Int} {d : Nat} {Q : Option zV → zM → Prop} (g0 g1 : Nat) (hd : 13 ≤ d) (hJ : J S m0 B m) (hB : B + 0 ≤ 1000000000) (hf1 : ¬ S.1 1) (hgg0 : ¬ S.2.1 g0) (hQ : ∀ m', f111_1 g0 g1 m = m' → J S m0 (B) m' → Q none m') : X (EE s) d 111 0 [(0, zr g0 11), (1, zr g1 11)] [] m Q := by
  refine X.aload_n 1 i111_0 rfl rfl rfl ?_
  refine X.getR 4 i111_1 rfl rfl (by decide) rfl rfl ?_
  refine X.iconst 5 i111_4 rfl rfl (by decide) ?_
  refine X.aload_n 6 i111_5 rfl rfl rfl ?_
  refine X.getR 9 i111_6 rfl rfl (by decide) rfl rfl ?_
  refine X.iconst 10 i111_9 rfl rfl (by decide) ?_
  refine X.aload_n 11 i111_10 rfl rfl rfl ?_
  refine X.getR 14 i111_11 rfl rfl (by decide) rfl rfl ?_
  refine X.alen 15 i111_14 rfl rfl (by decide) rfl ?_
  show X (EE s) d 111 15 [(0, zr g0 11), (1, zr g1 11)] [zi 8, zi 0, zr g0 12, zi 0, zr g1 12] m _
  refine X.cpI' 18 i111_15 rfl rfl (by omega) (Nat.le_of_ble_eq_true rfl) (by decide) (by decide) rfl rfl (by omega) (fun m501 hm501 => ?_)
  have hJ502 := J.cpyS hJ hm501 rfl hf1 hgg0
  refine X.aload_n 19 i111_18 rfl rfl rfl ?_
  refine X.getR 22 i111_19 rfl rfl (by decide) rfl rfl ?_
  refine X.iconst 23 i111_22 rfl rfl (by decide) ?_
  refine X.aload_n 24 i111_23 rfl rfl rfl ?_
  refine X.getR 27 i111_24 rfl rfl (by decide) rfl rfl ?_
  refine X.iconst 28 i111_27 rfl rfl (by decide) ?_
  refine X.aload_n 29 i111_28 rfl rfl rfl ?_
  refine X.getR 32 i111_29 rfl rfl (by decide) rfl rfl ?_
  refine X.alen 33 i111_32 rfl rfl (by decide) rfl ?_
  show X (EE s) d 111 33 [(0, zr g0 11), (1, zr g1 11)] [zi 48, zi 0, zr g0 13, zi 0, zr g1 13] m501 _
  refine X.cpI' 36 i111_33 rfl rfl (by omega) (Nat.le_of_ble_eq_true rfl) (by decide) (by decide) rfl rfl (by omega) (fun m503 hm503 => ?_)
  have hJ504 := J.cpyS hJ502 hm503 rfl hf1 hgg0
  refine X.aload_n 37 i111_36 rfl rfl rfl ?_
  refine X.getR 40 i111_37 rfl rfl (by decide) rfl rfl ?_
  refine X.iconst 41 i111_40 rfl rfl (by decide) ?_
  refine X.aload_n 42 i111_41 rfl rfl rfl ?_
  refine X.getR 45 i111_42 rfl rfl (by decide) rfl rfl ?_
  refine X.iconst 46 i111_45 rfl rfl (by decide) ?_
  refine X.aload_n 47 i111_46 rfl rfl rfl ?_
  refine X.getR 50 i111_47 rfl rfl (by decide) rfl rfl ?_
  refine X.alen 51 i111_50 rfl rfl (by decide) rfl ?_
  show X (EE s) d 111 51 [(0, zr g0 11), (1, zr g1 11)] [zi 48, zi 0, zr g0 14, zi 0, zr g1 14] m503 _
  refine X.cpI' 54 i111_51 rfl rfl (by omega) (Nat.le_of_ble_eq_true rfl) (by decide) (by decide) rfl rfl (by omega) (fun m505 hm505 => ?_)
  have hJ506 := J.cpyS hJ504 hm505 rfl hf1 hgg0
  refine X.aload_n 55 i111_54 rfl rfl rfl ?_
  refine X.getR 58 i111_55 rfl rfl (by decide) rfl rfl ?_
  refine X.iconst 59 i111_58 rfl rfl (by decide) ?_
  refine X.aload_n 60 i111_59 rfl rfl rfl ?_
  refine X.getR 63 i111_60 rfl rfl (by decide) rfl rfl ?_
  refine X.iconst 64 i111_63 rfl rfl (by decide) ?_
  refine X.aload_n 65 i111_64 rfl rfl rfl ?_
  refine X.getR 68 i111_65 rfl rfl (by decide) rfl rfl ?_
  refine X.alen 69 i111_68 rfl rfl (by decide) rfl ?_
  show X (EE s) d 111 69 [(0, zr g0 11), (1, zr g1 11)] [zi 4, zi 0, zr g0 15, zi 0, zr g1 15] m505 _
  refine X.cpI' 72 i111_69 rfl rfl (by omega) (Nat.le_of_ble_eq_true rfl) (by decide) (by decide) rfl rfl (by omega) (fun m507 hm507 => ?_)
  have hJ508 := J.cpyS hJ506 hm507 rfl hf1 hgg0
  refine X.aload_n 73 i111_72 rfl rfl rfl ?_
  refine X.getR 76 i111_73 rfl rfl (by decide) rfl rfl ?_
  refine X.iconst 77 i111_76 rfl rfl (by decide) ?_
  refine X.aload_n 78 i111_77 rfl rfl rfl ?_
  refine X.getR 81 i111_78 rfl rfl (by decide) rfl rfl ?_
  refine X.iconst 82 i111_81 rfl rfl (by decide) ?_
  refine X.aload_n 83 i111_82 rfl rfl rfl ?_
  refine X.getR 86 i111_83 rfl rfl (by decide) rfl rfl ?_
  refine X.alen 87 i111_86 rfl rfl (by decide) rfl ?_
  show X (EE s) d 111 87 [(0, zr g0 11), (1, zr g1 11)] [zi 28, zi 0, zr g0 16, zi 0, zr g1 16] m507 _
  refine X.cpI' 90 i111_87 rfl rfl (by omega) (Nat.le_of_ble_eq_true rfl) (by decide) (by decide) rfl rfl (by omega) (fun m509 hm509 => ?_)
  have hJ510 := J.cpyS hJ508 hm509 rfl hf1 hgg0
  refine X.aload_n 91 i111_90 rfl rfl rfl ?_
  refine X.getR 94 i111_91 rfl rfl (by decide) rfl rfl ?_
  refine X.iconst 95 i111_94 rfl rfl (by decide) ?_
  refine X.aload_n 96 i111_95 rfl rfl rfl ?_
  refine X.getR 99 i111_96 rfl rfl (by decide) rfl rfl ?_
  refine X.iconst 100 i111_99 rfl rfl (by decide) ?_
  refine X.bipush 102 i111_100 rfl rfl (by decide) ?_
  refine X.cpI' 105 i111_102 rfl rfl (by omega) (Nat.le_of_ble_eq_true rfl) (by decide) (by decide) rfl rfl (by omega) (fun m511 hm511 => ?_)
  have hJ512 := J.cpyS hJ510 hm511 rfl hf1 hgg0
  refine X.aload_n 106 i111_105 rfl rfl rfl ?_
  refine X.getR 109 i111_106 rfl rfl (by decide) rfl rfl ?_
  refine X.iconst 110 i111_109 rfl rfl (by decide) ?_
  refine X.aload_n 111 i111_110 rfl rfl rfl ?_
  refine X.getR 114 i111_111 rfl rfl (by decide) rfl rfl ?_
  refine X.iconst 115 i111_114 rfl rfl (by decide) ?_
  refine X.bipush 117 i111_115 rfl rfl (by decide) ?_
  refine X.cpI' 120 i111_117 rfl rfl (by omega) (Nat.le_of_ble_eq_true rfl) (by decide) (by decide) rfl rfl (by omega) (fun m513 hm513 => ?_)
  have hJ514 := J.cpyS hJ512 hm513 rfl hf1 hgg0
  refine X.aload_n 121 i111_120 rfl rfl rfl ?_
  refine X.aload_n 122 i111_121 rfl rfl rfl ?_
  refine X.getI 125 7 i111_122 rfl rfl (by decide) rfl rfl rfl ?_
  have h515 := r11_7 hJ514 g1
  refine X.putI' 128 7 i111_125 rfl rfl (by decide) rfl rfl rfl (fun hrm516 m516 hm516 => ?_)
  have hJ517 := w11_7 hJ514 hm516 (by omega) hf1 hgg0
  have em516 : m516 g0 11 7 = (m513 g1 11 7) := by rw [hm516]; exact z_upd_same _ _ _ _ _
  refine X.retv i111_128 rfl t111 ?_
  exact hQ  m516  (Eq.trans (zs_eq hm501) (Eq.trans (zs_eq hm503) (Eq.trans (zs_eq hm505) (Eq.trans (zs_eq hm507) (Eq.trans (zs_eq hm509) (Eq.trans (zs_eq hm511) (Eq.trans (zs_eq hm513) (Eq.trans (zs_eq hm516) rfl)))))))) (hJ517.up (by omega)) 
-- WorkMeter$CalendarText.forget
noncomputable def f91_1 (m : zM) : zM :=
  zs (z_upd m 4 41 3 0) fun m501 =>
  zs (z_upd m501 4 41 4 0) fun m503 =>
  zs (z_upd m503 4 41 5 (-1)) fun m505 =>
  m505
-- WorkMeter$CalendarText.forget
theorem c91_1 {s : Nat × (Nat → Int32)} {S : zS} {m0 m : zM} {B : Int} {d : Nat} {Q : Option zV → zM → Prop} (hd : 13 ≤ d) (hJ : J S m0 B m) (hB : B + 0 ≤ 1000000000) (hf15 : ¬ S.1 15) (hf16 : ¬ S.1 16) (hg4 : ¬ S.2.1 4) (hQ : ∀ m', f91_1 m = m' → J S m0 (B) m' → Q none m') : X (EE s) d 91 0 [(0, zr 4 41)] [] m Q := by
  refine X.aload_n 1 i91_0 rfl rfl rfl ?_
  refine X.iconst 2 i91_1 rfl rfl (by decide) ?_
  refine X.putI' 5 3 i91_2 rfl rfl (by decide) rfl rfl rfl (fun hrm501 m501 hm501 => ?_)
  have hJ502 := w41_3 hJ hm501 (by omega) hf15 hg4
  have em501 : m501 4 41 3 = 0 := by rw [hm501]; exact z_upd_same _ _ _ _ _
  refine X.aload_n 6 i91_5 rfl rfl rfl ?_
  refine X.iconst 7 i91_6 rfl rfl (by decide) ?_
  refine X.putI' 10 4 i91_7 rfl rfl (by decide) rfl rfl rfl (fun hrm503 m503 hm503 => ?_)
  have hJ504 := w41_4 hJ502 hm503 (by omega) hrm503 hf16 hg4
  refine X.aload_n 11 i91_10 rfl rfl rfl ?_
  refine X.iconst 12 i91_11 rfl rfl (by decide) ?_
  refine X.putI' 15 5 i91_12 rfl rfl (by decide) rfl rfl rfl (fun hrm505 m505 hm505 => ?_)
  have hJ506 := w41_4 hJ504 hm505 (by omega) hrm505 hf16 hg4
  refine X.retv i91_15 rfl t91 ?_
  exact hQ  m505  (Eq.trans (zs_eq hm501) (Eq.trans (zs_eq hm503) (Eq.trans (zs_eq hm505) rfl))) (hJ506.up (by omega)) 
-- WorkMeter.calendar
noncomputable def f90_1 (m : zM) : Int × zM :=
  zb (f17_1 0 m) fun v503 m501 =>
  if v503 = 0 then
  (zb (f92_1 m501) fun v507 m505 =>
  zs (if v507 = (-1) then
  (m505)
  else
  (zs (f111_1 0 3 m505) fun m509 =>
  if (m509 4 41 6) = 0 then
  (m509)
  else
  (zs (z_cpy m509 0 10 4 43 0 6 4) fun m514 =>
  m514))) fun m517 =>
  (v507, m517))
  else
  (zs (f91_1 m501) fun m521 =>
  ((-1), m521))
-- WorkMeter.calendar
theorem c90_1 {s : Nat × (Nat → Int32)} {S : zS} {m0 m : zM} {B : Int} {d : Nat} {Q : Option zV → zM → Prop} (hd : 20 ≤ d) (hJ : J S m0 B m) (hB : B + 0 ≤ 1000000000) (hf1 : ¬ S.1 1) (hf3 : ¬ S.1 3) (hf4 : ¬ S.1 4) (hf15 : ¬ S.1 15) (hf16 : ¬ S.1 16) (hf19 : ¬ S.1 19) (hg0 : ¬ S.2.1 0) (hg3 : ¬ S.2.1 3) (hg4 : ¬ S.2.1 4) (hQ : ∀ (v : Int) m', ((-1) ≤ v ∧ v ≤ 301) → f90_1 m = (v, m') → J S m0 (B) m' → Q (some (zi v)) m') : X (EE s) d 90 0 [(0, zr 4 40)] [] m Q := by
  refine X.aload_n 1 i90_0 rfl rfl rfl ?_
  refine X.getF 4 i90_1 rfl rfl (by decide) rfl rfl ?_
  refine X.getR 7 i90_4 rfl rfl (by decide) rfl rfl ?_
  refine X.callv 10 [] [] [(0, zr 0 39)] i90_7 rfl (by decide) rfl rfl (by omega) rfl rfl (by decide) rfl t17 (Nat.le_of_ble_eq_true rfl) (Nat.le_of_ble_eq_true rfl) rfl ?_
  refine c17_1 (B := B) 0  (by omega) (hJ.up (by omega)) (by omega)  hf4 hg0 (fun v503 m501 hv503 hFv503 hJ502 => ?_)
  show X (EE s) d 90 10 [(0, zr 4 40)] [zi v503] m501 _
  refine X.ifeq 22 13 i90_10 rfl rfl rfl (fun h504 => ?_) (fun h504 => ?_)
  · refine X.aload_n 23 i90_22 rfl rfl rfl ?_
    refine X.getF 26 i90_23 rfl rfl (by decide) rfl rfl ?_
    refine X.callv 29 [] [] [(0, zr 4 41)] i90_26 rfl (by decide) rfl rfl (by omega) rfl rfl (by decide) rfl t92 (Nat.le_of_ble_eq_true rfl) (Nat.le_of_ble_eq_true rfl) rfl ?_
    refine c92_1 (B := B)   (by omega) (hJ502.up (by omega)) (by omega)  hf1 hf15 hf16 hf19 hg3 hg4 (fun v507 m505 hv507 hFv507 hJ506 => ?_)
    show X (EE s) d 90 29 [(0, zr 4 40)] [zi v507] m505 _
    refine X.istore_n 30 [(0, zr 4 40), (1, zi v507)] i90_29 rfl rfl rfl ?_
    refine X.iload_n 31 i90_30 rfl rfl rfl ?_
    refine X.iconst 32 i90_31 rfl rfl (by decide) ?_
    have hK519 : ∀ (m' : zM), (if v507 = (-1) then
        (m505)
        else
        (zs (f111_1 0 3 m505) fun m509 =>
        if (m509 4 41 6) = 0 then
        (m509)
        else
        (zs (z_cpy m509 0 10 4 43 0 6 4) fun m514 =>
        m514))) = m' → J S m0 (B) m' → X (EE s) d 90 79 [(1, zi v507)] [] m' Q := by
      intro m517 hT520 hJ518
      refine X.iload_n 80 i90_79 rfl rfl rfl ?_
      refine X.reti i90_80 rfl t90 ?_
      exact hQ v507 m517 (by first | trivial | omega) (Eq.trans (zb_eq hFv503) (Eq.trans (if_pos h504) (Eq.trans (zb_eq hFv507) (Eq.trans (zs_eq hT520.symm) rfl)))) (hJ518.up (by omega)) 
    refine X.icmpeq 79 35 i90_32 rfl rfl rfl (fun h508 => ?_) (fun h508 => ?_)
    · refine X.cut [(1, zi v507)] i90_79 rfl ?_
      exact hK519 m505 (Eq.trans (if_pos h508) rfl) (hJ506.up (by omega))
    · refine X.aload_n 36 i90_35 rfl rfl rfl ?_
      refine X.getF 39 i90_36 rfl rfl (by decide) rfl rfl ?_
      refine X.getR 42 i90_39 rfl rfl (by decide) rfl rfl ?_
      refine X.aload_n 43 i90_42 rfl rfl rfl ?_
      refine X.getF 46 i90_43 rfl rfl (by decide) rfl rfl ?_
      refine X.getF 49 i90_46 rfl rfl (by decide) rfl rfl ?_
      refine X.callv 52 [zr 3 11] [] [(0, zr 0 11), (1, zr 3 11)] i90_49 rfl (by decide) rfl rfl (by omega) rfl rfl (by decide) rfl t111 (Nat.le_of_ble_eq_true rfl) (Nat.le_of_ble_eq_true rfl) rfl ?_
      refine c111_1 (B := B) 0 3  (by omega) (hJ506.up (by omega)) (by omega)  hf1 hg0 (fun m509 hFv511 hJ510 => ?_)
      show X (EE s) d 90 52 [(0, zr 4 40), (1, zi v507)] [] m509 _
      refine X.aload_n 53 i90_52 rfl rfl rfl ?_
      refine X.getF 56 i90_53 rfl rfl (by decide) rfl rfl ?_
      refine X.getZ 59 6 i90_56 rfl rfl (by decide) rfl rfl rfl (fun h512 => ?_)
      refine X.ifeq 79 62 i90_59 rfl rfl rfl (fun h513 => ?_) (fun h513 => ?_)
      · refine X.cut [(1, zi v507)] i90_79 rfl ?_
        exact hK519 m509 (Eq.trans (if_neg h508) (Eq.trans (zs_eq hFv511.symm) (Eq.trans (if_pos h513) rfl))) (hJ510.up (by omega))
      · refine X.aload_n 63 i90_62 rfl rfl rfl ?_
        refine X.getF 66 i90_63 rfl rfl (by decide) rfl rfl ?_
        refine X.getR 69 i90_66 rfl rfl (by decide) rfl rfl ?_
        refine X.aload_n 70 i90_69 rfl rfl rfl ?_
        refine X.getF 73 i90_70 rfl rfl (by decide) rfl rfl ?_
        refine X.getF 76 i90_73 rfl rfl (by decide) rfl rfl ?_
        refine X.callv 79 [zr 4 43] [] [(0, zr 0 9), (1, zr 4 43)] i90_76 rfl (by decide) rfl rfl (by omega) rfl rfl (by decide) rfl t112 (Nat.le_of_ble_eq_true rfl) (Nat.le_of_ble_eq_true rfl) rfl ?_
        refine X.aload_n 1 i112_0 rfl rfl rfl ?_
        refine X.iconst 2 i112_1 rfl rfl (by decide) ?_
        refine X.aload_n 3 i112_2 rfl rfl rfl ?_
        refine X.getR 6 i112_3 rfl rfl (by decide) rfl rfl ?_
        refine X.bipush 8 i112_6 rfl rfl (by decide) ?_
        refine X.iconst 9 i112_8 rfl rfl (by decide) ?_
        refine X.cpI' 12 i112_9 rfl rfl (by omega) (Nat.le_of_ble_eq_true rfl) (by decide) (by decide) rfl rfl (by omega) (fun m514 hm514 => ?_)
        have hJ515 := J.cpyP hJ510 hm514 (by omega) hf3 hg0
        refine X.retv i112_12 rfl t112 ?_
        show X (EE s) d 90 79 [(0, zr 4 40), (1, zi v507)] [] m514 _
        refine X.cut [(1, zi v507)] i90_79 rfl ?_
        exact hK519 m514 (Eq.trans (if_neg h508) (Eq.trans (zs_eq hFv511.symm) (Eq.trans (if_neg h513) (Eq.trans (zs_eq hm514) rfl)))) (hJ515.up (by omega))
  · refine X.aload_n 14 i90_13 rfl rfl rfl ?_
    refine X.getF 17 i90_14 rfl rfl (by decide) rfl rfl ?_
    refine X.callv 20 [] [] [(0, zr 4 41)] i90_17 rfl (by decide) rfl rfl (by omega) rfl rfl (by decide) rfl t91 (Nat.le_of_ble_eq_true rfl) (Nat.le_of_ble_eq_true rfl) rfl ?_
    refine c91_1 (B := B)   (by omega) (hJ502.up (by omega)) (by omega)  hf15 hf16 hg4 (fun m521 hFv523 hJ522 => ?_)
    show X (EE s) d 90 20 [(0, zr 4 40)] [] m521 _
    refine X.iconst 21 i90_20 rfl rfl (by decide) ?_
    refine X.reti i90_21 rfl t90 ?_
    exact hQ (-1) m521 (by first | trivial | omega) (Eq.trans (zb_eq hFv503) (Eq.trans (if_neg h504) (Eq.trans (zs_eq hFv523.symm) rfl))) (hJ522.up (by omega)) 
noncomputable def fl262_2_1_b (self : Int → zM → zM) (k32 : zM → zM) (y1 : Int) (m : zM) : zM :=
  if 8 ≤ y1 then
  (k32 m)
  else
  (zs (z_upd m 4 45 (287 + y1) 0) fun m507 =>
  zs (z_upd m507 4 49 y1 0) fun m509 =>
  self (y1 + 1) m509)
noncomputable def fl262_2_1 (k32 : zM → zM) : Nat → Int → zM → zM
  | 0 => fun y1 m => m
  | n + 1 => fl262_2_1_b (fl262_2_1 k32 n) k32
theorem l262_2_1 {s : Nat × (Nat → Int32)} {S : zS} {m0 : zM} {d : Nat} {Q : Option zV → zM → Prop} {R0 : zM} {k32 : zM → zM} (BE : Int) (hE : BE ≤ 1000000000) (hd : 13 ≤ d) (hf1 : ¬ S.1 1) (hf19 : ¬ S.1 19) (hg4 : ¬ S.2.1 4)
    (K32 : ∀ (m' : zM) (B' : Int), J S m0 B' m' → B' ≤ BE → R0 = k32 m' → X (EE s) d 262 32 [(0, zr 4 44)] [] m' Q) :
    ∀ (n : Nat) (y1 : Int) (m : zM) (B : Int), J S m0 B m → B + 0 * (n : Int) ≤ BE → (0 ≤ y1 ∧ y1 ≤ 8) → 8 - y1 < (n : Int) → R0 = fl262_2_1 k32 n y1 m → X (EE s) d 262 2 [(0, zr 4 44), (1, zi y1)] [] m Q := by
  intro n
  induction n with
  | zero =>
    intro y1 m B hJ hB hy1 hn hR
    exfalso
    omega
  | succ n ih =>
    intro y1 m B hJ hB hy1 hn hR
    replace hR : R0 = fl262_2_1_b (fl262_2_1 k32 n) k32 y1 m := hR
    refine X.iload_n 3 i262_2 rfl rfl rfl ?_
    refine X.bipush 5 i262_3 rfl rfl (by decide) ?_
    refine X.icmpge 32 8 i262_5 rfl rfl rfl (fun h506 => ?_) (fun h506 => ?_)
    · refine X.cut [(0, zr 4 44)] i262_32 rfl ?_
      exact K32  m (B) (hJ.up (by omega)) (by omega)  (Eq.trans hR (Eq.trans (if_pos h506) rfl))
    · refine X.aload_n 9 i262_8 rfl rfl rfl ?_
      refine X.getF 12 i262_9 rfl rfl (by decide) rfl rfl ?_
      refine X.sipush 15 i262_12 rfl rfl (by decide) ?_
      refine X.iload_n 16 i262_15 rfl rfl rfl ?_
      refine X.iadd 17 i262_16 rfl rfl (by omega) ?_
      refine X.lconst (y := 0) 18 i262_17 rfl rfl rfl ?_
      refine X.last' 19 i262_18 rfl rfl (by decide) rfl (by omega) (fun hrm507 m507 hm507 => ?_)
      have hJ508 := w45_287 hJ hm507 (by omega) (by omega) hf1 hg4
      refine X.aload_n 20 i262_19 rfl rfl rfl ?_
      refine X.getF 23 i262_20 rfl rfl (by decide) rfl rfl ?_
      refine X.iload_n 24 i262_23 rfl rfl rfl ?_
      refine X.iconst 25 i262_24 rfl rfl (by decide) ?_
      refine X.zast' 26 i262_25 rfl rfl (by decide) rfl (by omega) (by omega) (fun hrm509 m509 hm509 => ?_)
      have hJ510 := w49_0 hJ508 hm509 (by omega) hrm509 hf19 hg4
      refine X.iinc 29 [(0, zr 4 44), (1, zi (y1 + 1))] i262_26 rfl rfl rfl (by omega) rfl ?_
      refine X.goto 2 i262_29 rfl rfl ?_
      exact ih (y1 + 1) m509 (B) (hJ510.up (by omega)) (by omega) (by omega) (by omega) (Eq.trans hR (Eq.trans (if_neg h506) (Eq.trans (zs_eq hm507) (Eq.trans (zs_eq hm509) rfl))))
noncomputable def fl262_34_1_b (self : Int → zM → zM) (k73 : zM → zM) (y1 : Int) (m : zM) : zM :=
  if 4 ≤ y1 then
  (k73 m)
  else
  (zn (if y1 = 0 then
  (0)
  else
  ((-1))) fun v514 =>
  zs (z_upd m 4 45 (391 + y1) v514) fun m519 =>
  zs (z_upd m519 4 50 y1 0) fun m521 =>
  self (y1 + 1) m521)
noncomputable def fl262_34_1 (k73 : zM → zM) : Nat → Int → zM → zM
  | 0 => fun y1 m => m
  | n + 1 => fl262_34_1_b (fl262_34_1 k73 n) k73
theorem l262_34_1 {s : Nat × (Nat → Int32)} {S : zS} {m0 : zM} {d : Nat} {Q : Option zV → zM → Prop} {R0 : zM} {k73 : zM → zM} (BE : Int) (hE : BE ≤ 1000000000) (hd : 13 ≤ d) (hf1 : ¬ S.1 1) (hf19 : ¬ S.1 19) (hg4 : ¬ S.2.1 4)
    (K73 : ∀ (m' : zM) (B' : Int), J S m0 B' m' → B' ≤ BE → R0 = k73 m' → X (EE s) d 262 73 [(0, zr 4 44)] [] m' Q) :
    ∀ (n : Nat) (y1 : Int) (m : zM) (B : Int), J S m0 B m → B + 0 * (n : Int) ≤ BE → (0 ≤ y1 ∧ y1 ≤ 4) → 4 - y1 < (n : Int) → R0 = fl262_34_1 k73 n y1 m → X (EE s) d 262 34 [(0, zr 4 44), (1, zi y1)] [] m Q := by
  intro n
  induction n with
  | zero =>
    intro y1 m B hJ hB hy1 hn hR
    exfalso
    omega
  | succ n ih =>
    intro y1 m B hJ hB hy1 hn hR
    replace hR : R0 = fl262_34_1_b (fl262_34_1 k73 n) k73 y1 m := hR
    refine X.iload_n 35 i262_34 rfl rfl rfl ?_
    refine X.iconst 36 i262_35 rfl rfl (by decide) ?_
    refine X.icmpge 73 39 i262_36 rfl rfl rfl (fun h512 => ?_) (fun h512 => ?_)
    · refine X.cut [(0, zr 4 44)] i262_73 rfl ?_
      exact K73  m (B) (hJ.up (by omega)) (by omega)  (Eq.trans hR (Eq.trans (if_pos h512) rfl))
    · refine X.aload_n 40 i262_39 rfl rfl rfl ?_
      refine X.getF 43 i262_40 rfl rfl (by decide) rfl rfl ?_
      refine X.sipush 46 i262_43 rfl rfl (by decide) ?_
      refine X.iload_n 47 i262_46 rfl rfl rfl ?_
      refine X.iadd 48 i262_47 rfl rfl (by omega) ?_
      refine X.iload_n 49 i262_48 rfl rfl rfl ?_
      have hK517 : ∀ (v : Int) , ((-1) ≤ v ∧ v ≤ 0) → (if y1 = 0 then
          (0)
          else
          ((-1))) = v → X (EE s) d 262 59 [(0, zr 4 44), (1, zi y1)] [zl v, zi (391 + y1), zr 4 45] m Q := by
        intro v514 hv514 hT518
        refine X.last' 60 i262_59 rfl rfl (by decide) rfl (by omega) (fun hrm519 m519 hm519 => ?_)
        have hJ520 := w45_391 hJ hm519 (by omega) (by omega) hf1 hg4
        refine X.aload_n 61 i262_60 rfl rfl rfl ?_
        refine X.getF 64 i262_61 rfl rfl (by decide) rfl rfl ?_
        refine X.iload_n 65 i262_64 rfl rfl rfl ?_
        refine X.iconst 66 i262_65 rfl rfl (by decide) ?_
        refine X.zast' 67 i262_66 rfl rfl (by decide) rfl (by omega) (by omega) (fun hrm521 m521 hm521 => ?_)
        have hJ522 := w50_0 hJ520 hm521 (by omega) hrm521 hf19 hg4
        refine X.iinc 70 [(0, zr 4 44), (1, zi (y1 + 1))] i262_67 rfl rfl rfl (by omega) rfl ?_
        refine X.goto 34 i262_70 rfl rfl ?_
        exact ih (y1 + 1) m521 (B) (hJ522.up (by omega)) (by omega) (by omega) (by omega) (Eq.trans hR (Eq.trans (if_neg h512) (Eq.trans (zn_eq hT518.symm) (Eq.trans (zs_eq hm519) (Eq.trans (zs_eq hm521) rfl)))))
      refine X.ifne 56 52 i262_49 rfl rfl rfl (fun h513 => ?_) (fun h513 => ?_)
      · refine X.ldc2 59 i262_56 rfl rfl (by decide) ?_
        exact hK517 (-1) (by first | trivial | omega) (Eq.trans (if_neg h513) rfl)
      · refine X.lconst (y := 0) 53 i262_52 rfl rfl rfl ?_
        refine X.goto 59 i262_53 rfl rfl ?_
        exact hK517 0 (by first | trivial | omega) (Eq.trans (if_pos h513) rfl)
noncomputable def fl262_75_1_b (self : Int → zM → zM) (k98 : zM → zM) (y1 : Int) (m : zM) : zM :=
  if 28 ≤ y1 then
  (k98 m)
  else
  (zs (z_upd m 4 45 (395 + y1) 0) fun m505 =>
  self (y1 + 1) m505)
noncomputable def fl262_75_1 (k98 : zM → zM) : Nat → Int → zM → zM
  | 0 => fun y1 m => m
  | n + 1 => fl262_75_1_b (fl262_75_1 k98 n) k98
theorem l262_75_1 {s : Nat × (Nat → Int32)} {S : zS} {m0 : zM} {d : Nat} {Q : Option zV → zM → Prop} {R0 : zM} {k98 : zM → zM} (BE : Int) (hE : BE ≤ 1000000000) (hd : 13 ≤ d) (hf1 : ¬ S.1 1) (hg4 : ¬ S.2.1 4)
    (K98 : ∀ (m' : zM) (B' : Int), J S m0 B' m' → B' ≤ BE → R0 = k98 m' → X (EE s) d 262 98 [(0, zr 4 44)] [] m' Q) :
    ∀ (n : Nat) (y1 : Int) (m : zM) (B : Int), J S m0 B m → B + 0 * (n : Int) ≤ BE → (0 ≤ y1 ∧ y1 ≤ 28) → 28 - y1 < (n : Int) → R0 = fl262_75_1 k98 n y1 m → X (EE s) d 262 75 [(0, zr 4 44), (1, zi y1)] [] m Q := by
  intro n
  induction n with
  | zero =>
    intro y1 m B hJ hB hy1 hn hR
    exfalso
    omega
  | succ n ih =>
    intro y1 m B hJ hB hy1 hn hR
    replace hR : R0 = fl262_75_1_b (fl262_75_1 k98 n) k98 y1 m := hR
    refine X.iload_n 76 i262_75 rfl rfl rfl ?_
    refine X.bipush 78 i262_76 rfl rfl (by decide) ?_
    refine X.icmpge 98 81 i262_78 rfl rfl rfl (fun h504 => ?_) (fun h504 => ?_)
    · refine X.cut [(0, zr 4 44)] i262_98 rfl ?_
      exact K98  m (B) (hJ.up (by omega)) (by omega)  (Eq.trans hR (Eq.trans (if_pos h504) rfl))
    · refine X.aload_n 82 i262_81 rfl rfl rfl ?_
      refine X.getF 85 i262_82 rfl rfl (by decide) rfl rfl ?_
      refine X.sipush 88 i262_85 rfl rfl (by decide) ?_
      refine X.iload_n 89 i262_88 rfl rfl rfl ?_
      refine X.iadd 90 i262_89 rfl rfl (by omega) ?_
      refine X.lconst (y := 0) 91 i262_90 rfl rfl rfl ?_
      refine X.last' 92 i262_91 rfl rfl (by decide) rfl (by omega) (fun hrm505 m505 hm505 => ?_)
      have hJ506 := w45_395 hJ hm505 (by omega) (by omega) hf1 hg4
      refine X.iinc 95 [(0, zr 4 44), (1, zi (y1 + 1))] i262_92 rfl rfl rfl (by omega) rfl ?_
      refine X.goto 75 i262_95 rfl rfl ?_
      exact ih (y1 + 1) m505 (B) (hJ506.up (by omega)) (by omega) (by omega) (by omega) (Eq.trans hR (Eq.trans (if_neg h504) (Eq.trans (zs_eq hm505) rfl)))
noncomputable def fl262_100_1_b (self : Int → zM → zM) (k126 : zM → zM) (y1 : Int) (m : zM) : zM :=
  if 365 ≤ y1 then
  (k126 m)
  else
  (zs (z_upd m 4 45 (423 + y1) (-1)) fun m505 =>
  self (y1 + 1) m505)
noncomputable def fl262_100_1 (k126 : zM → zM) : Nat → Int → zM → zM
  | 0 => fun y1 m => m
  | n + 1 => fl262_100_1_b (fl262_100_1 k126 n) k126
theorem l262_100_1 {s : Nat × (Nat → Int32)} {S : zS} {m0 : zM} {d : Nat} {Q : Option zV → zM → Prop} {R0 : zM} {k126 : zM → zM} (BE : Int) (hE : BE ≤ 1000000000) (hd : 13 ≤ d) (hf1 : ¬ S.1 1) (hg4 : ¬ S.2.1 4)
    (K126 : ∀ (m' : zM) (B' : Int), J S m0 B' m' → B' ≤ BE → R0 = k126 m' → X (EE s) d 262 126 [(0, zr 4 44)] [] m' Q) :
    ∀ (n : Nat) (y1 : Int) (m : zM) (B : Int), J S m0 B m → B + 0 * (n : Int) ≤ BE → (0 ≤ y1 ∧ y1 ≤ 365) → 365 - y1 < (n : Int) → R0 = fl262_100_1 k126 n y1 m → X (EE s) d 262 100 [(0, zr 4 44), (1, zi y1)] [] m Q := by
  intro n
  induction n with
  | zero =>
    intro y1 m B hJ hB hy1 hn hR
    exfalso
    omega
  | succ n ih =>
    intro y1 m B hJ hB hy1 hn hR
    replace hR : R0 = fl262_100_1_b (fl262_100_1 k126 n) k126 y1 m := hR
    refine X.iload_n 101 i262_100 rfl rfl rfl ?_
    refine X.sipush 104 i262_101 rfl rfl (by decide) ?_
    refine X.icmpge 126 107 i262_104 rfl rfl rfl (fun h504 => ?_) (fun h504 => ?_)
    · refine X.cut [(0, zr 4 44)] i262_126 rfl ?_
      exact K126  m (B) (hJ.up (by omega)) (by omega)  (Eq.trans hR (Eq.trans (if_pos h504) rfl))
    · refine X.aload_n 108 i262_107 rfl rfl rfl ?_
      refine X.getF 111 i262_108 rfl rfl (by decide) rfl rfl ?_
      refine X.sipush 114 i262_111 rfl rfl (by decide) ?_
      refine X.iload_n 115 i262_114 rfl rfl rfl ?_
      refine X.iadd 116 i262_115 rfl rfl (by omega) ?_
      refine X.ldc2 119 i262_116 rfl rfl (by decide) ?_
      refine X.last' 120 i262_119 rfl rfl (by decide) rfl (by omega) (fun hrm505 m505 hm505 => ?_)
      have hJ506 := w45_423 hJ hm505 (by omega) (by omega) hf1 hg4
      refine X.iinc 123 [(0, zr 4 44), (1, zi (y1 + 1))] i262_120 rfl rfl rfl (by omega) rfl ?_
      refine X.goto 100 i262_123 rfl rfl ?_
      exact ih (y1 + 1) m505 (B) (hJ506.up (by omega)) (by omega) (by omega) (by omega) (Eq.trans hR (Eq.trans (if_neg h504) (Eq.trans (zs_eq hm505) rfl)))
-- WorkMeterModel.clears
noncomputable def f262_1 (m : zM) : zM :=
  fl262_2_1 (fun m501 =>
  fl262_34_1 (fun m505 =>
  fl262_75_1 (fun m509 =>
  fl262_100_1 (fun m513 =>
  zs (z_upd m513 4 44 13 0) fun m517 =>
  zs (z_upd m517 4 44 14 0) fun m519 =>
  m519) (zfu 366) 0 m509) (zfu 29) 0 m505) (zfu 5) 0 m501) (zfu 9) 0 m
-- WorkMeterModel.clears
theorem c262_1 {s : Nat × (Nat → Int32)} {S : zS} {m0 m : zM} {B : Int} {d : Nat} {Q : Option zV → zM → Prop} (hd : 13 ≤ d) (hJ : J S m0 B m) (hB : B + 0 ≤ 1000000000) (hf1 : ¬ S.1 1) (hf19 : ¬ S.1 19) (hg4 : ¬ S.2.1 4) (hQ : ∀ m', f262_1 m = m' → J S m0 (B) m' → Q none m') : X (EE s) d 262 0 [(0, zr 4 44)] [] m Q := by
  refine X.iconst 1 i262_0 rfl rfl (by decide) ?_
  refine X.istore_n 2 [(0, zr 4 44), (1, zi 0)] i262_1 rfl rfl rfl ?_
  have hz9 := zfu_eq 9
  refine l262_2_1 (s := s) (d := d) (R0 := (f262_1 m))    (BE := B + 0) (by omega) (by omega) hf1 hf19 hg4 (fun  m501 B502 hJ503 hBB502 hR504 => ?_) (zfu 9) 0 m (B) (hJ.up (by omega)) (by omega) (by omega) (by omega) rfl
  refine X.iconst 33 i262_32 rfl rfl (by decide) ?_
  refine X.istore_n 34 [(0, zr 4 44), (1, zi 0)] i262_33 rfl rfl rfl ?_
  have hz5 := zfu_eq 5
  refine l262_34_1 (s := s) (d := d)    (BE := B502 + 0) (by omega) (by omega) hf1 hf19 hg4 (fun  m505 B506 hJ507 hBB506 hR508 => ?_) (zfu 5) 0 m501 (B502) (hJ503.up (by omega)) (by omega) (by omega) (by omega) (Eq.trans hR504 rfl)
  refine X.iconst 74 i262_73 rfl rfl (by decide) ?_
  refine X.istore_n 75 [(0, zr 4 44), (1, zi 0)] i262_74 rfl rfl rfl ?_
  have hz29 := zfu_eq 29
  refine l262_75_1 (s := s) (d := d)    (BE := B506 + 0) (by omega) (by omega) hf1 hg4 (fun  m509 B510 hJ511 hBB510 hR512 => ?_) (zfu 29) 0 m505 (B506) (hJ507.up (by omega)) (by omega) (by omega) (by omega) (Eq.trans hR508 rfl)
  refine X.iconst 99 i262_98 rfl rfl (by decide) ?_
  refine X.istore_n 100 [(0, zr 4 44), (1, zi 0)] i262_99 rfl rfl rfl ?_
  have hz366 := zfu_eq 366
  refine l262_100_1 (s := s) (d := d)    (BE := B510 + 0) (by omega) (by omega) hf1 hg4 (fun  m513 B514 hJ515 hBB514 hR516 => ?_) (zfu 366) 0 m509 (B510) (hJ511.up (by omega)) (by omega) (by omega) (by omega) (Eq.trans hR512 rfl)
  refine X.aload_n 127 i262_126 rfl rfl rfl ?_
  refine X.iconst 128 i262_127 rfl rfl (by decide) ?_
  refine X.putI' 131 13 i262_128 rfl rfl (by decide) rfl rfl rfl (fun hrm517 m517 hm517 => ?_)
  have hJ518 := w44_10 hJ515 hm517 (by omega) hrm517 hf19 hg4
  refine X.aload_n 132 i262_131 rfl rfl rfl ?_
  refine X.iconst 133 i262_132 rfl rfl (by decide) ?_
  refine X.putZ' 136 14 i262_133 rfl rfl (by decide) rfl rfl rfl (by omega) (fun hrm519 m519 hm519 => ?_)
  have hJ520 := w44_14 hJ518 hm519 (by omega) hf19 hg4
  refine X.retv i262_136 rfl t262 ?_
  exact hQ  m519  (Eq.trans hR516 (Eq.trans (zs_eq hm517) (Eq.trans (zs_eq hm519) rfl))) (hJ520.up (by omega)) 
noncomputable def fl263_0_1_b (self : zM → zM) (k38 : zM → zM) (m : zM) : zM :=
  if (m 4 44 5) ≤ (m 4 44 8) then
  (k38 m)
  else
  (if (m 4 48 (m 4 44 8)) = 32 then
  (zs (z_upd m 4 44 8 ((m 4 44 8) + 1)) fun m513 =>
  self m513)
  else
  (k38 m))
noncomputable def fl263_0_1 (k38 : zM → zM) : Nat → zM → zM
  | 0 => fun m => m
  | n + 1 => fl263_0_1_b (fl263_0_1 k38 n) k38
theorem l263_0_1 {s : Nat × (Nat → Int32)} {S : zS} {m0 : zM} {d : Nat} {Q : Option zV → zM → Prop} {R0 : zM} {k38 : zM → zM} (c8 c9 : Int) (BE : Int) (hE : BE ≤ 1000000000) (hd : 13 ≤ d) (hf19 : ¬ S.1 19) (hg4 : ¬ S.2.1 4)
    (K38 : ∀ (m' : zM) (B' : Int), J S m0 B' m' → B' ≤ BE → (c8 ≤ m' 4 44 8) → (c9 ≤ m' 4 44 9) → R0 = k38 m' → X (EE s) d 263 38 [] [] m' Q) :
    ∀ (n : Nat) (m : zM) (B : Int), J S m0 B m → B + 0 * (n : Int) ≤ BE → (c8 ≤ m 4 44 8) → (c9 ≤ m 4 44 9) → 300 - m 4 44 8 < (n : Int) → R0 = fl263_0_1 k38 n m → X (EE s) d 263 0 [(0, zr 4 44)] [] m Q := by
  intro n
  induction n with
  | zero =>
    intro  m B hJ hB hr0 hr1 hn hR
    have zf0 := r44_8 hJ 4
    exfalso
    omega
  | succ n ih =>
    intro  m B hJ hB hr0 hr1 hn hR
    replace hR : R0 = fl263_0_1_b (fl263_0_1 k38 n) k38 m := hR
    refine X.aload_n 1 i263_0 rfl rfl rfl ?_
    refine X.getI 4 8 i263_1 rfl rfl (by decide) rfl rfl rfl ?_
    have h508 := r44_8 hJ 4
    refine X.aload_n 5 i263_4 rfl rfl rfl ?_
    refine X.getI 8 5 i263_5 rfl rfl (by decide) rfl rfl rfl ?_
    have h509 := r44_5 hJ 4
    refine X.icmpge 38 11 i263_8 rfl rfl rfl (fun h510 => ?_) (fun h510 => ?_)
    · refine X.cut [] i263_38 rfl ?_
      exact K38  m (B) (hJ.up (by omega)) (by omega) (by omega) (by omega) (Eq.trans hR (Eq.trans (if_pos h510) rfl))
    · refine X.aload_n 12 i263_11 rfl rfl rfl ?_
      refine X.getF 15 i263_12 rfl rfl (by decide) rfl rfl ?_
      refine X.aload_n 16 i263_15 rfl rfl rfl ?_
      refine X.getI 19 8 i263_16 rfl rfl (by decide) rfl rfl rfl ?_
      refine X.bald 20 i263_19 rfl rfl (by decide) rfl (by omega) (fun h511 => ?_)
      refine X.bipush 22 i263_20 rfl rfl (by decide) ?_
      refine X.icmpne 38 25 i263_22 rfl rfl rfl (fun h512 => ?_) (fun h512 => ?_)
      · refine X.cut [] i263_38 rfl ?_
        exact K38  m (B) (hJ.up (by omega)) (by omega) (by omega) (by omega) (Eq.trans hR (Eq.trans (if_neg h510) (Eq.trans (if_neg h512) rfl)))
      · refine X.aload_n 26 i263_25 rfl rfl rfl ?_
        refine X.dup 27 i263_26 rfl rfl rfl ?_
        refine X.getI 30 8 i263_27 rfl rfl (by decide) rfl rfl rfl ?_
        refine X.iconst 31 i263_30 rfl rfl (by decide) ?_
        refine X.iadd 32 i263_31 rfl rfl (by omega) ?_
        refine X.putI' 35 8 i263_32 rfl rfl (by decide) rfl rfl rfl (fun hrm513 m513 hm513 => ?_)
        have hJ514 := w44_8 hJ hm513 (by omega) hf19 hg4
        have em513 : m513 4 44 8 = ((m 4 44 8) + 1) := by rw [hm513]; exact z_upd_same _ _ _ _ _
        have wmm513_9 : m513 4 44 9 = m 4 44 9 := by rw [hm513]; exact z_upd_o _ _ rfl
        have wmm513_10 : m513 4 44 10 = m 4 44 10 := by rw [hm513]; exact z_upd_o _ _ rfl
        refine X.goto 0 i263_35 rfl rfl ?_
        exact ih  m513 (B) (hJ514.up (by omega)) (by omega) (by omega) (by omega) (by omega) (Eq.trans hR (Eq.trans (if_neg h510) (Eq.trans (if_pos h512) (Eq.trans (zs_eq hm513) rfl))))
-- WorkMeterModel.blanks
noncomputable def f263_1 (m : zM) : zM :=
  fl263_0_1 (fun m501 =>
  m501) (zfu 301) m
-- WorkMeterModel.blanks
theorem c263_1 {s : Nat × (Nat → Int32)} {S : zS} {m0 m : zM} {B : Int} {d : Nat} {Q : Option zV → zM → Prop} (hd : 13 ≤ d) (hJ : J S m0 B m) (hB : B + 0 ≤ 1000000000) (hf19 : ¬ S.1 19) (hg4 : ¬ S.2.1 4) (hQ : ∀ m', f263_1 m = m' → J S m0 (B) m' → (m 4 44 8 ≤ m' 4 44 8) → (m 4 44 9 ≤ m' 4 44 9) → Q none m') : X (EE s) d 263 0 [(0, zr 4 44)] [] m Q := by
  have hz301 := zfu_eq 301
  refine l263_0_1 (s := s) (d := d) (R0 := (f263_1 m))   (m 4 44 8) (m 4 44 9) (BE := B + 0) (by omega) (by omega) hf19 hg4 (fun  m501 B502 hJ503 hBB502 hrlm501_0 hrlm501_1 hR504 => ?_) (zfu 301)  m (B) (hJ.up (by omega)) (by omega) (by omega) (by omega) (by omega) rfl
  refine X.retv i263_38 rfl t263 ?_
  exact hQ  m501  (Eq.trans hR504 rfl) (hJ503.up (by omega)) (by omega) (by omega)
noncomputable def fl267_5_1_b (self : Int → Int) (k38 : Int → Int) (m : zM) (y1 : Int) : Int :=
  if (m 4 44 5) ≤ y1 then
  (k38 y1)
  else
  (if (m 4 48 y1) < 97 then
  (k38 y1)
  else
  (if (m 4 48 y1) ≤ 122 then
  (self (y1 + 1))
  else
  (k38 y1)))
noncomputable def fl267_5_1 (k38 : Int → Int) (m : zM) : Nat → Int → Int
  | 0 => fun y1 => 0
  | n + 1 => fl267_5_1_b (fl267_5_1 k38 m n) k38 m
theorem l267_5_1 {s : Nat × (Nat → Int32)} {S : zS} {m0 : zM} {m : zM} {B : Int} {d : Nat} {Q : Option zV → zM → Prop} {R0 : Int} {k38 : Int → Int} (hd : 13 ≤ d) (hJ : J S m0 B m) (hB9 : B ≤ 1000000000)
    (K38 : ∀ (x1 : Int) , (0 ≤ x1 ∧ x1 ≤ 300) → (m 4 44 8 ≤ x1) → R0 = k38 x1 → X (EE s) d 267 38 [(1, zi x1)] [] m Q) :
    ∀ (n : Nat) (y1 : Int) , (0 ≤ y1 ∧ y1 ≤ 300) → (m 4 44 8 ≤ y1) → 300 - y1 < (n : Int) → R0 = fl267_5_1 k38 m n y1 → X (EE s) d 267 5 [(0, zr 4 44), (1, zi y1)] [] m Q := by
  intro n
  induction n with
  | zero =>
    intro y1 hy1 hr0 hn hR
    exfalso
    omega
  | succ n ih =>
    intro y1 hy1 hr0 hn hR
    replace hR : R0 = fl267_5_1_b (fl267_5_1 k38 m n) k38 m y1 := hR
    refine X.iload_n 6 i267_5 rfl rfl rfl ?_
    refine X.aload_n 7 i267_6 rfl rfl rfl ?_
    refine X.getI 10 5 i267_7 rfl rfl (by decide) rfl rfl rfl ?_
    have h512 := r44_5 hJ 4
    refine X.icmpge 38 13 i267_10 rfl rfl rfl (fun h513 => ?_) (fun h513 => ?_)
    · refine X.cut [(1, zi y1)] i267_38 rfl ?_
      exact K38 y1 (by first | trivial | omega) (by omega) (Eq.trans hR (Eq.trans (if_pos h513) rfl))
    · refine X.aload_n 14 i267_13 rfl rfl rfl ?_
      refine X.getF 17 i267_14 rfl rfl (by decide) rfl rfl ?_
      refine X.iload_n 18 i267_17 rfl rfl rfl ?_
      refine X.bald 19 i267_18 rfl rfl (by decide) rfl (by omega) (fun h514 => ?_)
      refine X.i2l 20 i267_19 rfl rfl ?_
      refine X.ldc2 23 i267_20 rfl rfl (by decide) ?_
      refine X.ldc2 26 i267_23 rfl rfl (by decide) ?_
      refine X.calls 29 [zl (m 4 48 y1), zl 97, zl 122] [] [(0, zl (m 4 48 y1)), (2, zl 97), (4, zl 122)] i267_26 (by decide) rfl rfl (by omega) rfl rfl t204 (Nat.le_of_ble_eq_true rfl) (Nat.le_of_ble_eq_true rfl) rfl ?_
      refine X.lload_n 1 i204_0 rfl rfl rfl ?_
      refine X.lload_n 2 i204_1 rfl rfl rfl ?_
      refine X.lcmp 3 i204_2 rfl rfl (fun z515 hz515 => ?_)
      refine X.iflt 17 6 i204_3 rfl rfl rfl (fun h516 => ?_) (fun h516 => ?_)
      · have h516c : (m 4 48 y1) < 97 := by omega
        clear h516 hz515
        refine X.cut [] i204_17 rfl ?_
        refine X.iconst 18 i204_17 rfl rfl (by decide) ?_
        refine X.retz i204_18 rfl t204 (by omega) ?_
        show X (EE s) d 267 29 [(0, zr 4 44), (1, zi y1)] [zi 0] m _
        refine X.ifeq 38 32 i267_29 rfl rfl rfl (fun h517 => ?_) (fun h517 => (by exfalso; omega))
        refine X.cut [(1, zi y1)] i267_38 rfl ?_
        exact K38 y1 (by first | trivial | omega) (by omega) (Eq.trans hR (Eq.trans (if_neg h513) (Eq.trans (if_pos h516c) rfl)))
      · have h516c : ¬ (m 4 48 y1) < 97 := by omega
        clear h516 hz515
        refine X.lload_n 7 i204_6 rfl rfl rfl ?_
        refine X.lload 9 i204_7 rfl rfl rfl ?_
        refine X.lcmp 10 i204_9 rfl rfl (fun z518 hz518 => ?_)
        refine X.ifgt 17 13 i204_10 rfl rfl rfl (fun h519 => ?_) (fun h519 => ?_)
        · have h519c : ¬ (m 4 48 y1) ≤ 122 := by omega
          clear h519 hz518
          refine X.cut [] i204_17 rfl ?_
          refine X.iconst 18 i204_17 rfl rfl (by decide) ?_
          refine X.retz i204_18 rfl t204 (by omega) ?_
          show X (EE s) d 267 29 [(0, zr 4 44), (1, zi y1)] [zi 0] m _
          refine X.ifeq 38 32 i267_29 rfl rfl rfl (fun h520 => ?_) (fun h520 => (by exfalso; omega))
          refine X.cut [(1, zi y1)] i267_38 rfl ?_
          exact K38 y1 (by first | trivial | omega) (by omega) (Eq.trans hR (Eq.trans (if_neg h513) (Eq.trans (if_neg h516c) (Eq.trans (if_neg h519c) rfl))))
        · have h519c : (m 4 48 y1) ≤ 122 := by omega
          clear h519 hz518
          refine X.iconst 14 i204_13 rfl rfl (by decide) ?_
          refine X.goto 18 i204_14 rfl rfl ?_
          refine X.cut [] i204_18 rfl ?_
          refine X.retz i204_18 rfl t204 (by omega) ?_
          show X (EE s) d 267 29 [(0, zr 4 44), (1, zi y1)] [zi 1] m _
          refine X.ifeq 38 32 i267_29 rfl rfl rfl (fun h521 => (by exfalso; omega)) (fun h521 => ?_)
          refine X.iinc 35 [(0, zr 4 44), (1, zi (y1 + 1))] i267_32 rfl rfl rfl (by omega) rfl ?_
          refine X.goto 5 i267_35 rfl rfl ?_
          exact ih (y1 + 1) (by omega) (by omega) (by omega) (Eq.trans hR (Eq.trans (if_neg h513) (Eq.trans (if_neg h516c) (Eq.trans (if_pos h519c) rfl))))
-- WorkMeterModel.wordEnd
noncomputable def f267_1 (m : zM) : Int :=
  fl267_5_1 (fun y502 =>
  y502) m (zfu 301) (m 4 44 8)
-- WorkMeterModel.wordEnd
theorem c267_1 {s : Nat × (Nat → Int32)} {S : zS} {m0 m : zM} {B : Int} {d : Nat} {Q : Option zV → zM → Prop} (hd : 13 ≤ d) (hJ : J S m0 B m) (hB : B + 0 ≤ 1000000000) (hQ : ∀ (v : Int), (0 ≤ v ∧ v ≤ 300) → f267_1 m = v → (m 4 44 8 ≤ v) → Q (some (zi v)) m) : X (EE s) d 267 0 [(0, zr 4 44)] [] m Q := by
  refine X.aload_n 1 i267_0 rfl rfl rfl ?_
  refine X.getI 4 8 i267_1 rfl rfl (by decide) rfl rfl rfl ?_
  have h501 := r44_8 hJ 4
  refine X.istore_n 5 [(0, zr 4 44), (1, zi (m 4 44 8))] i267_4 rfl rfl rfl ?_
  have hz301 := zfu_eq 301
  refine l267_5_1 (s := s) (m := m) (B := B) (d := d) (R0 := (f267_1 m))    (by omega) (hJ.up (by omega)) (by omega) (fun y502 hby502 hrlm503_0 hR506 => ?_) (zfu 301) (m 4 44 8) (by omega) (by omega) (by omega) rfl
  refine X.iload_n 39 i267_38 rfl rfl rfl ?_
  refine X.reti i267_39 rfl t267 ?_
  exact hQ y502 (by first | trivial | omega) (Eq.trans hR506 rfl) (by omega)
-- WorkMeterModel.spells
noncomputable def f266_1 (a1 a2 a3 a4 a5 a6 a7 a8 : Int) (m : zM) : Int :=
  zn (f267_1 m) fun v503 =>
  if v503 = ((m 4 44 8) + a1) then
  (if (m 4 48 (m 4 44 8)) = a2 then
  (if (m 4 48 ((m 4 44 8) + 1)) = a3 then
  (if (m 4 48 ((m 4 44 8) + 2)) = a4 then
  (if (m 4 48 ((m 4 44 8) + 3)) = a5 then
  (if (m 4 48 ((m 4 44 8) + 4)) = a6 then
  (zn (if a1 < 6 then
  (1)
  else
  (if (m 4 48 ((m 4 44 8) + 5)) = a7 then
  (if a1 < 7 then
  (1)
  else
  (if (m 4 48 ((m 4 44 8) + 6)) = a8 then
  (1)
  else
  (0)))
  else
  (0))) fun v523 =>
  v523)
  else
  (0))
  else
  (0))
  else
  (0))
  else
  (0))
  else
  (0))
  else
  (0)
-- WorkMeterModel.spells
theorem c266_1 {s : Nat × (Nat → Int32)} {S : zS} {m0 m : zM} {B : Int} {d : Nat} {Q : Option zV → zM → Prop} (a1 a2 a3 a4 a5 a6 a7 a8 : Int) (hd : 14 ≤ d) (hJ : J S m0 B m) (hB : B + 0 ≤ 1000000000) (ha1 : 5 ≤ a1 ∧ a1 ≤ 7) (ha2 : 116 ≤ a2 ∧ a2 ≤ 116) (ha3 : 97 ≤ a3 ∧ a3 ≤ 97) (ha4 : 98 ≤ a4 ∧ a4 ≤ 98) (ha5 : 108 ≤ a5 ∧ a5 ≤ 108) (ha6 : 101 ≤ a6 ∧ a6 ≤ 101) (ha7 : 0 ≤ a7 ∧ a7 ≤ 0) (ha8 : 0 ≤ a8 ∧ a8 ≤ 0) (hQ : ∀ (v : Int), (0 ≤ v ∧ v ≤ 1) → f266_1 a1 a2 a3 a4 a5 a6 a7 a8 m = v → Q (some (zi v)) m) : X (EE s) d 266 0 [(0, zr 4 44), (1, zi a1), (2, zi a2), (3, zi a3), (4, zi a4), (5, zi a5), (6, zi a6), (7, zi a7), (8, zi a8)] [] m Q := by
  refine X.aload_n 1 i266_0 rfl rfl rfl ?_
  refine X.callv 4 [] [] [(0, zr 4 44)] i266_1 rfl (by decide) rfl rfl (by omega) rfl rfl (by decide) rfl t267 (Nat.le_of_ble_eq_true rfl) (Nat.le_of_ble_eq_true rfl) rfl ?_
  refine c267_1 (B := B)   (by omega) (hJ.up (by omega)) (by omega)  (fun v503 hv503 hFv503 hqv503_0 => ?_)
  show X (EE s) d 266 4 [(0, zr 4 44), (1, zi a1), (2, zi a2), (3, zi a3), (4, zi a4), (5, zi a5), (6, zi a6), (7, zi a7), (8, zi a8)] [zi v503] m _
  refine X.aload_n 5 i266_4 rfl rfl rfl ?_
  refine X.getI 8 8 i266_5 rfl rfl (by decide) rfl rfl rfl ?_
  have h504 := r44_8 hJ 4
  refine X.iload_n 9 i266_8 rfl rfl rfl ?_
  refine X.iadd 10 i266_9 rfl rfl (by omega) ?_
  refine X.icmpne 89 13 i266_10 rfl rfl rfl (fun h505 => ?_) (fun h505 => ?_)
  · refine X.cut [] i266_89 rfl ?_
    refine X.iconst 90 i266_89 rfl rfl (by decide) ?_
    refine X.retz i266_90 rfl t266 (by omega) ?_
    exact hQ 0 (by first | trivial | omega) (Eq.trans (zn_eq hFv503.symm) (Eq.trans (if_neg h505) rfl)) 
  · refine X.aload_n 14 i266_13 rfl rfl rfl ?_
    refine X.getF 17 i266_14 rfl rfl (by decide) rfl rfl ?_
    refine X.aload_n 18 i266_17 rfl rfl rfl ?_
    refine X.getI 21 8 i266_18 rfl rfl (by decide) rfl rfl rfl ?_
    refine X.bald 22 i266_21 rfl rfl (by decide) rfl (by omega) (fun h506 => ?_)
    refine X.iload_n 23 i266_22 rfl rfl rfl ?_
    refine X.icmpne 89 26 i266_23 rfl rfl rfl (fun h507 => ?_) (fun h507 => ?_)
    · refine X.cut [] i266_89 rfl ?_
      refine X.iconst 90 i266_89 rfl rfl (by decide) ?_
      refine X.retz i266_90 rfl t266 (by omega) ?_
      exact hQ 0 (by first | trivial | omega) (Eq.trans (zn_eq hFv503.symm) (Eq.trans (if_pos h505) (Eq.trans (if_neg h507) rfl))) 
    · refine X.aload_n 27 i266_26 rfl rfl rfl ?_
      refine X.getF 30 i266_27 rfl rfl (by decide) rfl rfl ?_
      refine X.aload_n 31 i266_30 rfl rfl rfl ?_
      refine X.getI 34 8 i266_31 rfl rfl (by decide) rfl rfl rfl ?_
      refine X.iconst 35 i266_34 rfl rfl (by decide) ?_
      refine X.iadd 36 i266_35 rfl rfl (by omega) ?_
      refine X.bald 37 i266_36 rfl rfl (by decide) rfl (by omega) (fun h508 => ?_)
      refine X.iload_n 38 i266_37 rfl rfl rfl ?_
      refine X.icmpne 89 41 i266_38 rfl rfl rfl (fun h509 => ?_) (fun h509 => ?_)
      · refine X.cut [] i266_89 rfl ?_
        refine X.iconst 90 i266_89 rfl rfl (by decide) ?_
        refine X.retz i266_90 rfl t266 (by omega) ?_
        exact hQ 0 (by first | trivial | omega) (Eq.trans (zn_eq hFv503.symm) (Eq.trans (if_pos h505) (Eq.trans (if_pos h507) (Eq.trans (if_neg h509) rfl)))) 
      · refine X.aload_n 42 i266_41 rfl rfl rfl ?_
        refine X.getF 45 i266_42 rfl rfl (by decide) rfl rfl ?_
        refine X.aload_n 46 i266_45 rfl rfl rfl ?_
        refine X.getI 49 8 i266_46 rfl rfl (by decide) rfl rfl rfl ?_
        refine X.iconst 50 i266_49 rfl rfl (by decide) ?_
        refine X.iadd 51 i266_50 rfl rfl (by omega) ?_
        refine X.bald 52 i266_51 rfl rfl (by decide) rfl (by omega) (fun h510 => ?_)
        refine X.iload 54 i266_52 rfl rfl rfl ?_
        refine X.icmpne 89 57 i266_54 rfl rfl rfl (fun h511 => ?_) (fun h511 => ?_)
        · refine X.cut [] i266_89 rfl ?_
          refine X.iconst 90 i266_89 rfl rfl (by decide) ?_
          refine X.retz i266_90 rfl t266 (by omega) ?_
          exact hQ 0 (by first | trivial | omega) (Eq.trans (zn_eq hFv503.symm) (Eq.trans (if_pos h505) (Eq.trans (if_pos h507) (Eq.trans (if_pos h509) (Eq.trans (if_neg h511) rfl))))) 
        · refine X.aload_n 58 i266_57 rfl rfl rfl ?_
          refine X.getF 61 i266_58 rfl rfl (by decide) rfl rfl ?_
          refine X.aload_n 62 i266_61 rfl rfl rfl ?_
          refine X.getI 65 8 i266_62 rfl rfl (by decide) rfl rfl rfl ?_
          refine X.iconst 66 i266_65 rfl rfl (by decide) ?_
          refine X.iadd 67 i266_66 rfl rfl (by omega) ?_
          refine X.bald 68 i266_67 rfl rfl (by decide) rfl (by omega) (fun h512 => ?_)
          refine X.iload 70 i266_68 rfl rfl rfl ?_
          refine X.icmpne 89 73 i266_70 rfl rfl rfl (fun h513 => ?_) (fun h513 => ?_)
          · refine X.cut [] i266_89 rfl ?_
            refine X.iconst 90 i266_89 rfl rfl (by decide) ?_
            refine X.retz i266_90 rfl t266 (by omega) ?_
            exact hQ 0 (by first | trivial | omega) (Eq.trans (zn_eq hFv503.symm) (Eq.trans (if_pos h505) (Eq.trans (if_pos h507) (Eq.trans (if_pos h509) (Eq.trans (if_pos h511) (Eq.trans (if_neg h513) rfl)))))) 
          · refine X.aload_n 74 i266_73 rfl rfl rfl ?_
            refine X.getF 77 i266_74 rfl rfl (by decide) rfl rfl ?_
            refine X.aload_n 78 i266_77 rfl rfl rfl ?_
            refine X.getI 81 8 i266_78 rfl rfl (by decide) rfl rfl rfl ?_
            refine X.iconst 82 i266_81 rfl rfl (by decide) ?_
            refine X.iadd 83 i266_82 rfl rfl (by omega) ?_
            refine X.bald 84 i266_83 rfl rfl (by decide) rfl (by omega) (fun h514 => ?_)
            refine X.iload 86 i266_84 rfl rfl rfl ?_
            refine X.icmpeq 91 89 i266_86 rfl rfl rfl (fun h515 => ?_) (fun h515 => ?_)
            · refine X.cut [(0, zr 4 44), (1, zi a1), (7, zi a7), (8, zi a8)] i266_91 rfl ?_
              refine X.iload_n 92 i266_91 rfl rfl rfl ?_
              refine X.bipush 94 i266_92 rfl rfl (by decide) ?_
              have hK526 : ∀ (v : Int) , (0 ≤ v ∧ v ≤ 1) → (if a1 < 6 then
                  (1)
                  else
                  (if (m 4 48 ((m 4 44 8) + 5)) = a7 then
                  (if a1 < 7 then
                  (1)
                  else
                  (if (m 4 48 ((m 4 44 8) + 6)) = a8 then
                  (1)
                  else
                  (0)))
                  else
                  (0))) = v → X (EE s) d 266 141 [] [zi v] m Q := by
                intro v523 hv523 hT527
                refine X.retz i266_141 rfl t266 (by omega) ?_
                exact hQ v523 (by first | trivial | omega) (Eq.trans (zn_eq hFv503.symm) (Eq.trans (if_pos h505) (Eq.trans (if_pos h507) (Eq.trans (if_pos h509) (Eq.trans (if_pos h511) (Eq.trans (if_pos h513) (Eq.trans (if_pos h515) (Eq.trans (zn_eq hT527.symm) rfl)))))))) 
              refine X.icmplt 113 97 i266_94 rfl rfl rfl (fun h516 => ?_) (fun h516 => ?_)
              · refine X.cut [(0, zr 4 44), (1, zi a1), (8, zi a8)] i266_113 rfl ?_
                refine X.iload_n 114 i266_113 rfl rfl rfl ?_
                refine X.bipush 116 i266_114 rfl rfl (by decide) ?_
                refine X.icmplt 136 119 i266_116 rfl rfl rfl (fun h517 => ?_) (fun h517 => (by exfalso; omega))
                refine X.cut [] i266_136 rfl ?_
                refine X.iconst 137 i266_136 rfl rfl (by decide) ?_
                refine X.goto 141 i266_137 rfl rfl ?_
                exact hK526 1 (by first | trivial | omega) (Eq.trans (if_pos h516) rfl)
              · refine X.aload_n 98 i266_97 rfl rfl rfl ?_
                refine X.getF 101 i266_98 rfl rfl (by decide) rfl rfl ?_
                refine X.aload_n 102 i266_101 rfl rfl rfl ?_
                refine X.getI 105 8 i266_102 rfl rfl (by decide) rfl rfl rfl ?_
                refine X.iconst 106 i266_105 rfl rfl (by decide) ?_
                refine X.iadd 107 i266_106 rfl rfl (by omega) ?_
                refine X.bald 108 i266_107 rfl rfl (by decide) rfl (by omega) (fun h518 => ?_)
                refine X.iload 110 i266_108 rfl rfl rfl ?_
                refine X.icmpne 140 113 i266_110 rfl rfl rfl (fun h519 => ?_) (fun h519 => ?_)
                · refine X.cut [] i266_140 rfl ?_
                  refine X.iconst 141 i266_140 rfl rfl (by decide) ?_
                  exact hK526 0 (by first | trivial | omega) (Eq.trans (if_neg h516) (Eq.trans (if_neg h519) rfl))
                · refine X.cut [(0, zr 4 44), (1, zi a1), (8, zi a8)] i266_113 rfl ?_
                  refine X.iload_n 114 i266_113 rfl rfl rfl ?_
                  refine X.bipush 116 i266_114 rfl rfl (by decide) ?_
                  refine X.icmplt 136 119 i266_116 rfl rfl rfl (fun h520 => ?_) (fun h520 => ?_)
                  · refine X.cut [] i266_136 rfl ?_
                    refine X.iconst 137 i266_136 rfl rfl (by decide) ?_
                    refine X.goto 141 i266_137 rfl rfl ?_
                    exact hK526 1 (by first | trivial | omega) (Eq.trans (if_neg h516) (Eq.trans (if_pos h519) (Eq.trans (if_pos h520) rfl)))
                  · refine X.aload_n 120 i266_119 rfl rfl rfl ?_
                    refine X.getF 123 i266_120 rfl rfl (by decide) rfl rfl ?_
                    refine X.aload_n 124 i266_123 rfl rfl rfl ?_
                    refine X.getI 127 8 i266_124 rfl rfl (by decide) rfl rfl rfl ?_
                    refine X.bipush 129 i266_127 rfl rfl (by decide) ?_
                    refine X.iadd 130 i266_129 rfl rfl (by omega) ?_
                    refine X.bald 131 i266_130 rfl rfl (by decide) rfl (by omega) (fun h521 => ?_)
                    refine X.iload 133 i266_131 rfl rfl rfl ?_
                    refine X.icmpne 140 136 i266_133 rfl rfl rfl (fun h522 => ?_) (fun h522 => ?_)
                    · refine X.cut [] i266_140 rfl ?_
                      refine X.iconst 141 i266_140 rfl rfl (by decide) ?_
                      exact hK526 0 (by first | trivial | omega) (Eq.trans (if_neg h516) (Eq.trans (if_pos h519) (Eq.trans (if_neg h520) (Eq.trans (if_neg h522) rfl))))
                    · refine X.cut [] i266_136 rfl ?_
                      refine X.iconst 137 i266_136 rfl rfl (by decide) ?_
                      refine X.goto 141 i266_137 rfl rfl ?_
                      exact hK526 1 (by first | trivial | omega) (Eq.trans (if_neg h516) (Eq.trans (if_pos h519) (Eq.trans (if_neg h520) (Eq.trans (if_pos h522) rfl))))
            · refine X.cut [] i266_89 rfl ?_
              refine X.iconst 90 i266_89 rfl rfl (by decide) ?_
              refine X.retz i266_90 rfl t266 (by omega) ?_
              exact hQ 0 (by first | trivial | omega) (Eq.trans (zn_eq hFv503.symm) (Eq.trans (if_pos h505) (Eq.trans (if_pos h507) (Eq.trans (if_pos h509) (Eq.trans (if_pos h511) (Eq.trans (if_pos h513) (Eq.trans (if_neg h515) rfl))))))) 
-- WorkMeterModel.spells
theorem c266_2 {s : Nat × (Nat → Int32)} {S : zS} {m0 m : zM} {B : Int} {d : Nat} {Q : Option zV → zM → Prop} (a1 a2 a3 a4 a5 a6 a7 a8 : Int) (hd : 14 ≤ d) (hJ : J S m0 B m) (hB : B + 0 ≤ 1000000000) (ha1 : 5 ≤ a1 ∧ a1 ≤ 7) (ha2 : 115 ≤ a2 ∧ a2 ≤ 115) (ha3 : 101 ≤ a3 ∧ a3 ≤ 101) (ha4 : 97 ≤ a4 ∧ a4 ≤ 97) (ha5 : 115 ≤ a5 ∧ a5 ≤ 115) (ha6 : 111 ≤ a6 ∧ a6 ≤ 111) (ha7 : 110 ≤ a7 ∧ a7 ≤ 110) (ha8 : 0 ≤ a8 ∧ a8 ≤ 0) (hQ : ∀ (v : Int), (0 ≤ v ∧ v ≤ 1) → f266_1 a1 a2 a3 a4 a5 a6 a7 a8 m = v → Q (some (zi v)) m) : X (EE s) d 266 0 [(0, zr 4 44), (1, zi a1), (2, zi a2), (3, zi a3), (4, zi a4), (5, zi a5), (6, zi a6), (7, zi a7), (8, zi a8)] [] m Q := by
  refine X.aload_n 1 i266_0 rfl rfl rfl ?_
  refine X.callv 4 [] [] [(0, zr 4 44)] i266_1 rfl (by decide) rfl rfl (by omega) rfl rfl (by decide) rfl t267 (Nat.le_of_ble_eq_true rfl) (Nat.le_of_ble_eq_true rfl) rfl ?_
  refine c267_1 (B := B)   (by omega) (hJ.up (by omega)) (by omega)  (fun v503 hv503 hFv503 hqv503_0 => ?_)
  show X (EE s) d 266 4 [(0, zr 4 44), (1, zi a1), (2, zi a2), (3, zi a3), (4, zi a4), (5, zi a5), (6, zi a6), (7, zi a7), (8, zi a8)] [zi v503] m _
  refine X.aload_n 5 i266_4 rfl rfl rfl ?_
  refine X.getI 8 8 i266_5 rfl rfl (by decide) rfl rfl rfl ?_
  have h504 := r44_8 hJ 4
  refine X.iload_n 9 i266_8 rfl rfl rfl ?_
  refine X.iadd 10 i266_9 rfl rfl (by omega) ?_
  refine X.icmpne 89 13 i266_10 rfl rfl rfl (fun h505 => ?_) (fun h505 => ?_)
  · refine X.cut [] i266_89 rfl ?_
    refine X.iconst 90 i266_89 rfl rfl (by decide) ?_
    refine X.retz i266_90 rfl t266 (by omega) ?_
    exact hQ 0 (by first | trivial | omega) (Eq.trans (zn_eq hFv503.symm) (Eq.trans (if_neg h505) rfl)) 
  · refine X.aload_n 14 i266_13 rfl rfl rfl ?_
    refine X.getF 17 i266_14 rfl rfl (by decide) rfl rfl ?_
    refine X.aload_n 18 i266_17 rfl rfl rfl ?_
    refine X.getI 21 8 i266_18 rfl rfl (by decide) rfl rfl rfl ?_
    refine X.bald 22 i266_21 rfl rfl (by decide) rfl (by omega) (fun h506 => ?_)
    refine X.iload_n 23 i266_22 rfl rfl rfl ?_
    refine X.icmpne 89 26 i266_23 rfl rfl rfl (fun h507 => ?_) (fun h507 => ?_)
    · refine X.cut [] i266_89 rfl ?_
      refine X.iconst 90 i266_89 rfl rfl (by decide) ?_
      refine X.retz i266_90 rfl t266 (by omega) ?_
      exact hQ 0 (by first | trivial | omega) (Eq.trans (zn_eq hFv503.symm) (Eq.trans (if_pos h505) (Eq.trans (if_neg h507) rfl))) 
    · refine X.aload_n 27 i266_26 rfl rfl rfl ?_
      refine X.getF 30 i266_27 rfl rfl (by decide) rfl rfl ?_
      refine X.aload_n 31 i266_30 rfl rfl rfl ?_
      refine X.getI 34 8 i266_31 rfl rfl (by decide) rfl rfl rfl ?_
      refine X.iconst 35 i266_34 rfl rfl (by decide) ?_
      refine X.iadd 36 i266_35 rfl rfl (by omega) ?_
      refine X.bald 37 i266_36 rfl rfl (by decide) rfl (by omega) (fun h508 => ?_)
      refine X.iload_n 38 i266_37 rfl rfl rfl ?_
      refine X.icmpne 89 41 i266_38 rfl rfl rfl (fun h509 => ?_) (fun h509 => ?_)
      · refine X.cut [] i266_89 rfl ?_
        refine X.iconst 90 i266_89 rfl rfl (by decide) ?_
        refine X.retz i266_90 rfl t266 (by omega) ?_
        exact hQ 0 (by first | trivial | omega) (Eq.trans (zn_eq hFv503.symm) (Eq.trans (if_pos h505) (Eq.trans (if_pos h507) (Eq.trans (if_neg h509) rfl)))) 
      · refine X.aload_n 42 i266_41 rfl rfl rfl ?_
        refine X.getF 45 i266_42 rfl rfl (by decide) rfl rfl ?_
        refine X.aload_n 46 i266_45 rfl rfl rfl ?_
        refine X.getI 49 8 i266_46 rfl rfl (by decide) rfl rfl rfl ?_
        refine X.iconst 50 i266_49 rfl rfl (by decide) ?_
        refine X.iadd 51 i266_50 rfl rfl (by omega) ?_
        refine X.bald 52 i266_51 rfl rfl (by decide) rfl (by omega) (fun h510 => ?_)
        refine X.iload 54 i266_52 rfl rfl rfl ?_
        refine X.icmpne 89 57 i266_54 rfl rfl rfl (fun h511 => ?_) (fun h511 => ?_)
        · refine X.cut [] i266_89 rfl ?_
          refine X.iconst 90 i266_89 rfl rfl (by decide) ?_
          refine X.retz i266_90 rfl t266 (by omega) ?_
          exact hQ 0 (by first | trivial | omega) (Eq.trans (zn_eq hFv503.symm) (Eq.trans (if_pos h505) (Eq.trans (if_pos h507) (Eq.trans (if_pos h509) (Eq.trans (if_neg h511) rfl))))) 
        · refine X.aload_n 58 i266_57 rfl rfl rfl ?_
          refine X.getF 61 i266_58 rfl rfl (by decide) rfl rfl ?_
          refine X.aload_n 62 i266_61 rfl rfl rfl ?_
          refine X.getI 65 8 i266_62 rfl rfl (by decide) rfl rfl rfl ?_
          refine X.iconst 66 i266_65 rfl rfl (by decide) ?_
          refine X.iadd 67 i266_66 rfl rfl (by omega) ?_
          refine X.bald 68 i266_67 rfl rfl (by decide) rfl (by omega) (fun h512 => ?_)
          refine X.iload 70 i266_68 rfl rfl rfl ?_
          refine X.icmpne 89 73 i266_70 rfl rfl rfl (fun h513 => ?_) (fun h513 => ?_)
          · refine X.cut [] i266_89 rfl ?_
            refine X.iconst 90 i266_89 rfl rfl (by decide) ?_
            refine X.retz i266_90 rfl t266 (by omega) ?_
            exact hQ 0 (by first | trivial | omega) (Eq.trans (zn_eq hFv503.symm) (Eq.trans (if_pos h505) (Eq.trans (if_pos h507) (Eq.trans (if_pos h509) (Eq.trans (if_pos h511) (Eq.trans (if_neg h513) rfl)))))) 
          · refine X.aload_n 74 i266_73 rfl rfl rfl ?_
            refine X.getF 77 i266_74 rfl rfl (by decide) rfl rfl ?_
            refine X.aload_n 78 i266_77 rfl rfl rfl ?_
            refine X.getI 81 8 i266_78 rfl rfl (by decide) rfl rfl rfl ?_
            refine X.iconst 82 i266_81 rfl rfl (by decide) ?_
            refine X.iadd 83 i266_82 rfl rfl (by omega) ?_
            refine X.bald 84 i266_83 rfl rfl (by decide) rfl (by omega) (fun h514 => ?_)
            refine X.iload 86 i266_84 rfl rfl rfl ?_
            refine X.icmpeq 91 89 i266_86 rfl rfl rfl (fun h515 => ?_) (fun h515 => ?_)
            · refine X.cut [(0, zr 4 44), (1, zi a1), (7, zi a7), (8, zi a8)] i266_91 rfl ?_
              refine X.iload_n 92 i266_91 rfl rfl rfl ?_
              refine X.bipush 94 i266_92 rfl rfl (by decide) ?_
              have hK526 : ∀ (v : Int) , (0 ≤ v ∧ v ≤ 1) → (if a1 < 6 then
                  (1)
                  else
                  (if (m 4 48 ((m 4 44 8) + 5)) = a7 then
                  (if a1 < 7 then
                  (1)
                  else
                  (if (m 4 48 ((m 4 44 8) + 6)) = a8 then
                  (1)
                  else
                  (0)))
                  else
                  (0))) = v → X (EE s) d 266 141 [] [zi v] m Q := by
                intro v523 hv523 hT527
                refine X.retz i266_141 rfl t266 (by omega) ?_
                exact hQ v523 (by first | trivial | omega) (Eq.trans (zn_eq hFv503.symm) (Eq.trans (if_pos h505) (Eq.trans (if_pos h507) (Eq.trans (if_pos h509) (Eq.trans (if_pos h511) (Eq.trans (if_pos h513) (Eq.trans (if_pos h515) (Eq.trans (zn_eq hT527.symm) rfl)))))))) 
              refine X.icmplt 113 97 i266_94 rfl rfl rfl (fun h516 => ?_) (fun h516 => ?_)
              · refine X.cut [(0, zr 4 44), (1, zi a1), (8, zi a8)] i266_113 rfl ?_
                refine X.iload_n 114 i266_113 rfl rfl rfl ?_
                refine X.bipush 116 i266_114 rfl rfl (by decide) ?_
                refine X.icmplt 136 119 i266_116 rfl rfl rfl (fun h517 => ?_) (fun h517 => (by exfalso; omega))
                refine X.cut [] i266_136 rfl ?_
                refine X.iconst 137 i266_136 rfl rfl (by decide) ?_
                refine X.goto 141 i266_137 rfl rfl ?_
                exact hK526 1 (by first | trivial | omega) (Eq.trans (if_pos h516) rfl)
              · refine X.aload_n 98 i266_97 rfl rfl rfl ?_
                refine X.getF 101 i266_98 rfl rfl (by decide) rfl rfl ?_
                refine X.aload_n 102 i266_101 rfl rfl rfl ?_
                refine X.getI 105 8 i266_102 rfl rfl (by decide) rfl rfl rfl ?_
                refine X.iconst 106 i266_105 rfl rfl (by decide) ?_
                refine X.iadd 107 i266_106 rfl rfl (by omega) ?_
                refine X.bald 108 i266_107 rfl rfl (by decide) rfl (by omega) (fun h518 => ?_)
                refine X.iload 110 i266_108 rfl rfl rfl ?_
                refine X.icmpne 140 113 i266_110 rfl rfl rfl (fun h519 => ?_) (fun h519 => ?_)
                · refine X.cut [] i266_140 rfl ?_
                  refine X.iconst 141 i266_140 rfl rfl (by decide) ?_
                  exact hK526 0 (by first | trivial | omega) (Eq.trans (if_neg h516) (Eq.trans (if_neg h519) rfl))
                · refine X.cut [(0, zr 4 44), (1, zi a1), (8, zi a8)] i266_113 rfl ?_
                  refine X.iload_n 114 i266_113 rfl rfl rfl ?_
                  refine X.bipush 116 i266_114 rfl rfl (by decide) ?_
                  refine X.icmplt 136 119 i266_116 rfl rfl rfl (fun h520 => ?_) (fun h520 => ?_)
                  · refine X.cut [] i266_136 rfl ?_
                    refine X.iconst 137 i266_136 rfl rfl (by decide) ?_
                    refine X.goto 141 i266_137 rfl rfl ?_
                    exact hK526 1 (by first | trivial | omega) (Eq.trans (if_neg h516) (Eq.trans (if_pos h519) (Eq.trans (if_pos h520) rfl)))
                  · refine X.aload_n 120 i266_119 rfl rfl rfl ?_
                    refine X.getF 123 i266_120 rfl rfl (by decide) rfl rfl ?_
                    refine X.aload_n 124 i266_123 rfl rfl rfl ?_
                    refine X.getI 127 8 i266_124 rfl rfl (by decide) rfl rfl rfl ?_
                    refine X.bipush 129 i266_127 rfl rfl (by decide) ?_
                    refine X.iadd 130 i266_129 rfl rfl (by omega) ?_
                    refine X.bald 131 i266_130 rfl rfl (by decide) rfl (by omega) (fun h521 => ?_)
                    refine X.iload 133 i266_131 rfl rfl rfl ?_
                    refine X.icmpne 140 136 i266_133 rfl rfl rfl (fun h522 => ?_) (fun h522 => ?_)
                    · refine X.cut [] i266_140 rfl ?_
                      refine X.iconst 141 i266_140 rfl rfl (by decide) ?_
                      exact hK526 0 (by first | trivial | omega) (Eq.trans (if_neg h516) (Eq.trans (if_pos h519) (Eq.trans (if_neg h520) (Eq.trans (if_neg h522) rfl))))
                    · refine X.cut [] i266_136 rfl ?_
                      refine X.iconst 137 i266_136 rfl rfl (by decide) ?_
                      refine X.goto 141 i266_137 rfl rfl ?_
                      exact hK526 1 (by first | trivial | omega) (Eq.trans (if_neg h516) (Eq.trans (if_pos h519) (Eq.trans (if_neg h520) (Eq.trans (if_pos h522) rfl))))
            · refine X.cut [] i266_89 rfl ?_
              refine X.iconst 90 i266_89 rfl rfl (by decide) ?_
              refine X.retz i266_90 rfl t266 (by omega) ?_
              exact hQ 0 (by first | trivial | omega) (Eq.trans (zn_eq hFv503.symm) (Eq.trans (if_pos h505) (Eq.trans (if_pos h507) (Eq.trans (if_pos h509) (Eq.trans (if_pos h511) (Eq.trans (if_pos h513) (Eq.trans (if_neg h515) rfl))))))) 
-- WorkMeterModel.spells
theorem c266_3 {s : Nat × (Nat → Int32)} {S : zS} {m0 m : zM} {B : Int} {d : Nat} {Q : Option zV → zM → Prop} (a1 a2 a3 a4 a5 a6 a7 a8 : Int) (hd : 14 ≤ d) (hJ : J S m0 B m) (hB : B + 0 ≤ 1000000000) (ha1 : 5 ≤ a1 ∧ a1 ≤ 7) (ha2 : 115 ≤ a2 ∧ a2 ≤ 115) (ha3 : 112 ≤ a3 ∧ a3 ≤ 112) (ha4 : 101 ≤ a4 ∧ a4 ≤ 101) (ha5 : 99 ≤ a5 ∧ a5 ≤ 99) (ha6 : 105 ≤ a6 ∧ a6 ≤ 105) (ha7 : 97 ≤ a7 ∧ a7 ≤ 97) (ha8 : 108 ≤ a8 ∧ a8 ≤ 108) (hQ : ∀ (v : Int), (0 ≤ v ∧ v ≤ 1) → f266_1 a1 a2 a3 a4 a5 a6 a7 a8 m = v → Q (some (zi v)) m) : X (EE s) d 266 0 [(0, zr 4 44), (1, zi a1), (2, zi a2), (3, zi a3), (4, zi a4), (5, zi a5), (6, zi a6), (7, zi a7), (8, zi a8)] [] m Q := by
  refine X.aload_n 1 i266_0 rfl rfl rfl ?_
  refine X.callv 4 [] [] [(0, zr 4 44)] i266_1 rfl (by decide) rfl rfl (by omega) rfl rfl (by decide) rfl t267 (Nat.le_of_ble_eq_true rfl) (Nat.le_of_ble_eq_true rfl) rfl ?_
  refine c267_1 (B := B)   (by omega) (hJ.up (by omega)) (by omega)  (fun v503 hv503 hFv503 hqv503_0 => ?_)
  show X (EE s) d 266 4 [(0, zr 4 44), (1, zi a1), (2, zi a2), (3, zi a3), (4, zi a4), (5, zi a5), (6, zi a6), (7, zi a7), (8, zi a8)] [zi v503] m _
  refine X.aload_n 5 i266_4 rfl rfl rfl ?_
  refine X.getI 8 8 i266_5 rfl rfl (by decide) rfl rfl rfl ?_
  have h504 := r44_8 hJ 4
  refine X.iload_n 9 i266_8 rfl rfl rfl ?_
  refine X.iadd 10 i266_9 rfl rfl (by omega) ?_
  refine X.icmpne 89 13 i266_10 rfl rfl rfl (fun h505 => ?_) (fun h505 => ?_)
  · refine X.cut [] i266_89 rfl ?_
    refine X.iconst 90 i266_89 rfl rfl (by decide) ?_
    refine X.retz i266_90 rfl t266 (by omega) ?_
    exact hQ 0 (by first | trivial | omega) (Eq.trans (zn_eq hFv503.symm) (Eq.trans (if_neg h505) rfl)) 
  · refine X.aload_n 14 i266_13 rfl rfl rfl ?_
    refine X.getF 17 i266_14 rfl rfl (by decide) rfl rfl ?_
    refine X.aload_n 18 i266_17 rfl rfl rfl ?_
    refine X.getI 21 8 i266_18 rfl rfl (by decide) rfl rfl rfl ?_
    refine X.bald 22 i266_21 rfl rfl (by decide) rfl (by omega) (fun h506 => ?_)
    refine X.iload_n 23 i266_22 rfl rfl rfl ?_
    refine X.icmpne 89 26 i266_23 rfl rfl rfl (fun h507 => ?_) (fun h507 => ?_)
    · refine X.cut [] i266_89 rfl ?_
      refine X.iconst 90 i266_89 rfl rfl (by decide) ?_
      refine X.retz i266_90 rfl t266 (by omega) ?_
      exact hQ 0 (by first | trivial | omega) (Eq.trans (zn_eq hFv503.symm) (Eq.trans (if_pos h505) (Eq.trans (if_neg h507) rfl))) 
    · refine X.aload_n 27 i266_26 rfl rfl rfl ?_
      refine X.getF 30 i266_27 rfl rfl (by decide) rfl rfl ?_
      refine X.aload_n 31 i266_30 rfl rfl rfl ?_
      refine X.getI 34 8 i266_31 rfl rfl (by decide) rfl rfl rfl ?_
      refine X.iconst 35 i266_34 rfl rfl (by decide) ?_
      refine X.iadd 36 i266_35 rfl rfl (by omega) ?_
      refine X.bald 37 i266_36 rfl rfl (by decide) rfl (by omega) (fun h508 => ?_)
      refine X.iload_n 38 i266_37 rfl rfl rfl ?_
      refine X.icmpne 89 41 i266_38 rfl rfl rfl (fun h509 => ?_) (fun h509 => ?_)
      · refine X.cut [] i266_89 rfl ?_
        refine X.iconst 90 i266_89 rfl rfl (by decide) ?_
        refine X.retz i266_90 rfl t266 (by omega) ?_
        exact hQ 0 (by first | trivial | omega) (Eq.trans (zn_eq hFv503.symm) (Eq.trans (if_pos h505) (Eq.trans (if_pos h507) (Eq.trans (if_neg h509) rfl)))) 
      · refine X.aload_n 42 i266_41 rfl rfl rfl ?_
        refine X.getF 45 i266_42 rfl rfl (by decide) rfl rfl ?_
        refine X.aload_n 46 i266_45 rfl rfl rfl ?_
        refine X.getI 49 8 i266_46 rfl rfl (by decide) rfl rfl rfl ?_
        refine X.iconst 50 i266_49 rfl rfl (by decide) ?_
        refine X.iadd 51 i266_50 rfl rfl (by omega) ?_
        refine X.bald 52 i266_51 rfl rfl (by decide) rfl (by omega) (fun h510 => ?_)
        refine X.iload 54 i266_52 rfl rfl rfl ?_
        refine X.icmpne 89 57 i266_54 rfl rfl rfl (fun h511 => ?_) (fun h511 => ?_)
        · refine X.cut [] i266_89 rfl ?_
          refine X.iconst 90 i266_89 rfl rfl (by decide) ?_
          refine X.retz i266_90 rfl t266 (by omega) ?_
          exact hQ 0 (by first | trivial | omega) (Eq.trans (zn_eq hFv503.symm) (Eq.trans (if_pos h505) (Eq.trans (if_pos h507) (Eq.trans (if_pos h509) (Eq.trans (if_neg h511) rfl))))) 
        · refine X.aload_n 58 i266_57 rfl rfl rfl ?_
          refine X.getF 61 i266_58 rfl rfl (by decide) rfl rfl ?_
          refine X.aload_n 62 i266_61 rfl rfl rfl ?_
          refine X.getI 65 8 i266_62 rfl rfl (by decide) rfl rfl rfl ?_
          refine X.iconst 66 i266_65 rfl rfl (by decide) ?_
          refine X.iadd 67 i266_66 rfl rfl (by omega) ?_
          refine X.bald 68 i266_67 rfl rfl (by decide) rfl (by omega) (fun h512 => ?_)
          refine X.iload 70 i266_68 rfl rfl rfl ?_
          refine X.icmpne 89 73 i266_70 rfl rfl rfl (fun h513 => ?_) (fun h513 => ?_)
          · refine X.cut [] i266_89 rfl ?_
            refine X.iconst 90 i266_89 rfl rfl (by decide) ?_
            refine X.retz i266_90 rfl t266 (by omega) ?_
            exact hQ 0 (by first | trivial | omega) (Eq.trans (zn_eq hFv503.symm) (Eq.trans (if_pos h505) (Eq.trans (if_pos h507) (Eq.trans (if_pos h509) (Eq.trans (if_pos h511) (Eq.trans (if_neg h513) rfl)))))) 
          · refine X.aload_n 74 i266_73 rfl rfl rfl ?_
            refine X.getF 77 i266_74 rfl rfl (by decide) rfl rfl ?_
            refine X.aload_n 78 i266_77 rfl rfl rfl ?_
            refine X.getI 81 8 i266_78 rfl rfl (by decide) rfl rfl rfl ?_
            refine X.iconst 82 i266_81 rfl rfl (by decide) ?_
            refine X.iadd 83 i266_82 rfl rfl (by omega) ?_
            refine X.bald 84 i266_83 rfl rfl (by decide) rfl (by omega) (fun h514 => ?_)
            refine X.iload 86 i266_84 rfl rfl rfl ?_
            refine X.icmpeq 91 89 i266_86 rfl rfl rfl (fun h515 => ?_) (fun h515 => ?_)
            · refine X.cut [(0, zr 4 44), (1, zi a1), (7, zi a7), (8, zi a8)] i266_91 rfl ?_
              refine X.iload_n 92 i266_91 rfl rfl rfl ?_
              refine X.bipush 94 i266_92 rfl rfl (by decide) ?_
              have hK526 : ∀ (v : Int) , (0 ≤ v ∧ v ≤ 1) → (if a1 < 6 then
                  (1)
                  else
                  (if (m 4 48 ((m 4 44 8) + 5)) = a7 then
                  (if a1 < 7 then
                  (1)
                  else
                  (if (m 4 48 ((m 4 44 8) + 6)) = a8 then
                  (1)
                  else
                  (0)))
                  else
                  (0))) = v → X (EE s) d 266 141 [] [zi v] m Q := by
                intro v523 hv523 hT527
                refine X.retz i266_141 rfl t266 (by omega) ?_
                exact hQ v523 (by first | trivial | omega) (Eq.trans (zn_eq hFv503.symm) (Eq.trans (if_pos h505) (Eq.trans (if_pos h507) (Eq.trans (if_pos h509) (Eq.trans (if_pos h511) (Eq.trans (if_pos h513) (Eq.trans (if_pos h515) (Eq.trans (zn_eq hT527.symm) rfl)))))))) 
              refine X.icmplt 113 97 i266_94 rfl rfl rfl (fun h516 => ?_) (fun h516 => ?_)
              · refine X.cut [(0, zr 4 44), (1, zi a1), (8, zi a8)] i266_113 rfl ?_
                refine X.iload_n 114 i266_113 rfl rfl rfl ?_
                refine X.bipush 116 i266_114 rfl rfl (by decide) ?_
                refine X.icmplt 136 119 i266_116 rfl rfl rfl (fun h517 => ?_) (fun h517 => (by exfalso; omega))
                refine X.cut [] i266_136 rfl ?_
                refine X.iconst 137 i266_136 rfl rfl (by decide) ?_
                refine X.goto 141 i266_137 rfl rfl ?_
                exact hK526 1 (by first | trivial | omega) (Eq.trans (if_pos h516) rfl)
              · refine X.aload_n 98 i266_97 rfl rfl rfl ?_
                refine X.getF 101 i266_98 rfl rfl (by decide) rfl rfl ?_
                refine X.aload_n 102 i266_101 rfl rfl rfl ?_
                refine X.getI 105 8 i266_102 rfl rfl (by decide) rfl rfl rfl ?_
                refine X.iconst 106 i266_105 rfl rfl (by decide) ?_
                refine X.iadd 107 i266_106 rfl rfl (by omega) ?_
                refine X.bald 108 i266_107 rfl rfl (by decide) rfl (by omega) (fun h518 => ?_)
                refine X.iload 110 i266_108 rfl rfl rfl ?_
                refine X.icmpne 140 113 i266_110 rfl rfl rfl (fun h519 => ?_) (fun h519 => ?_)
                · refine X.cut [] i266_140 rfl ?_
                  refine X.iconst 141 i266_140 rfl rfl (by decide) ?_
                  exact hK526 0 (by first | trivial | omega) (Eq.trans (if_neg h516) (Eq.trans (if_neg h519) rfl))
                · refine X.cut [(0, zr 4 44), (1, zi a1), (8, zi a8)] i266_113 rfl ?_
                  refine X.iload_n 114 i266_113 rfl rfl rfl ?_
                  refine X.bipush 116 i266_114 rfl rfl (by decide) ?_
                  refine X.icmplt 136 119 i266_116 rfl rfl rfl (fun h520 => ?_) (fun h520 => ?_)
                  · refine X.cut [] i266_136 rfl ?_
                    refine X.iconst 137 i266_136 rfl rfl (by decide) ?_
                    refine X.goto 141 i266_137 rfl rfl ?_
                    exact hK526 1 (by first | trivial | omega) (Eq.trans (if_neg h516) (Eq.trans (if_pos h519) (Eq.trans (if_pos h520) rfl)))
                  · refine X.aload_n 120 i266_119 rfl rfl rfl ?_
                    refine X.getF 123 i266_120 rfl rfl (by decide) rfl rfl ?_
                    refine X.aload_n 124 i266_123 rfl rfl rfl ?_
                    refine X.getI 127 8 i266_124 rfl rfl (by decide) rfl rfl rfl ?_
                    refine X.bipush 129 i266_127 rfl rfl (by decide) ?_
                    refine X.iadd 130 i266_129 rfl rfl (by omega) ?_
                    refine X.bald 131 i266_130 rfl rfl (by decide) rfl (by omega) (fun h521 => ?_)
                    refine X.iload 133 i266_131 rfl rfl rfl ?_
                    refine X.icmpne 140 136 i266_133 rfl rfl rfl (fun h522 => ?_) (fun h522 => ?_)
                    · refine X.cut [] i266_140 rfl ?_
                      refine X.iconst 141 i266_140 rfl rfl (by decide) ?_
                      exact hK526 0 (by first | trivial | omega) (Eq.trans (if_neg h516) (Eq.trans (if_pos h519) (Eq.trans (if_neg h520) (Eq.trans (if_neg h522) rfl))))
                    · refine X.cut [] i266_136 rfl ?_
                      refine X.iconst 137 i266_136 rfl rfl (by decide) ?_
                      refine X.goto 141 i266_137 rfl rfl ?_
                      exact hK526 1 (by first | trivial | omega) (Eq.trans (if_neg h516) (Eq.trans (if_pos h519) (Eq.trans (if_neg h520) (Eq.trans (if_pos h522) rfl))))
            · refine X.cut [] i266_89 rfl ?_
              refine X.iconst 90 i266_89 rfl rfl (by decide) ?_
              refine X.retz i266_90 rfl t266 (by omega) ?_
              exact hQ 0 (by first | trivial | omega) (Eq.trans (zn_eq hFv503.symm) (Eq.trans (if_pos h505) (Eq.trans (if_pos h507) (Eq.trans (if_pos h509) (Eq.trans (if_pos h511) (Eq.trans (if_pos h513) (Eq.trans (if_neg h515) rfl))))))) 
-- WorkMeterModel.spells
theorem c266_4 {s : Nat × (Nat → Int32)} {S : zS} {m0 m : zM} {B : Int} {d : Nat} {Q : Option zV → zM → Prop} (a1 a2 a3 a4 a5 a6 a7 a8 : Int) (hd : 14 ≤ d) (hJ : J S m0 B m) (hB : B + 0 ≤ 1000000000) (ha1 : 5 ≤ a1 ∧ a1 ≤ 7) (ha2 : 112 ≤ a2 ∧ a2 ≤ 112) (ha3 : 114 ≤ a3 ∧ a3 ≤ 114) (ha4 : 105 ≤ a4 ∧ a4 ≤ 105) (ha5 : 99 ≤ a5 ∧ a5 ≤ 99) (ha6 : 101 ≤ a6 ∧ a6 ≤ 101) (ha7 : 0 ≤ a7 ∧ a7 ≤ 0) (ha8 : 0 ≤ a8 ∧ a8 ≤ 0) (hQ : ∀ (v : Int), (0 ≤ v ∧ v ≤ 1) → f266_1 a1 a2 a3 a4 a5 a6 a7 a8 m = v → Q (some (zi v)) m) : X (EE s) d 266 0 [(0, zr 4 44), (1, zi a1), (2, zi a2), (3, zi a3), (4, zi a4), (5, zi a5), (6, zi a6), (7, zi a7), (8, zi a8)] [] m Q := by
  refine X.aload_n 1 i266_0 rfl rfl rfl ?_
  refine X.callv 4 [] [] [(0, zr 4 44)] i266_1 rfl (by decide) rfl rfl (by omega) rfl rfl (by decide) rfl t267 (Nat.le_of_ble_eq_true rfl) (Nat.le_of_ble_eq_true rfl) rfl ?_
  refine c267_1 (B := B)   (by omega) (hJ.up (by omega)) (by omega)  (fun v503 hv503 hFv503 hqv503_0 => ?_)
  show X (EE s) d 266 4 [(0, zr 4 44), (1, zi a1), (2, zi a2), (3, zi a3), (4, zi a4), (5, zi a5), (6, zi a6), (7, zi a7), (8, zi a8)] [zi v503] m _
  refine X.aload_n 5 i266_4 rfl rfl rfl ?_
  refine X.getI 8 8 i266_5 rfl rfl (by decide) rfl rfl rfl ?_
  have h504 := r44_8 hJ 4
  refine X.iload_n 9 i266_8 rfl rfl rfl ?_
  refine X.iadd 10 i266_9 rfl rfl (by omega) ?_
  refine X.icmpne 89 13 i266_10 rfl rfl rfl (fun h505 => ?_) (fun h505 => ?_)
  · refine X.cut [] i266_89 rfl ?_
    refine X.iconst 90 i266_89 rfl rfl (by decide) ?_
    refine X.retz i266_90 rfl t266 (by omega) ?_
    exact hQ 0 (by first | trivial | omega) (Eq.trans (zn_eq hFv503.symm) (Eq.trans (if_neg h505) rfl)) 
  · refine X.aload_n 14 i266_13 rfl rfl rfl ?_
    refine X.getF 17 i266_14 rfl rfl (by decide) rfl rfl ?_
    refine X.aload_n 18 i266_17 rfl rfl rfl ?_
    refine X.getI 21 8 i266_18 rfl rfl (by decide) rfl rfl rfl ?_
    refine X.bald 22 i266_21 rfl rfl (by decide) rfl (by omega) (fun h506 => ?_)
    refine X.iload_n 23 i266_22 rfl rfl rfl ?_
    refine X.icmpne 89 26 i266_23 rfl rfl rfl (fun h507 => ?_) (fun h507 => ?_)
    · refine X.cut [] i266_89 rfl ?_
      refine X.iconst 90 i266_89 rfl rfl (by decide) ?_
      refine X.retz i266_90 rfl t266 (by omega) ?_
      exact hQ 0 (by first | trivial | omega) (Eq.trans (zn_eq hFv503.symm) (Eq.trans (if_pos h505) (Eq.trans (if_neg h507) rfl))) 
    · refine X.aload_n 27 i266_26 rfl rfl rfl ?_
      refine X.getF 30 i266_27 rfl rfl (by decide) rfl rfl ?_
      refine X.aload_n 31 i266_30 rfl rfl rfl ?_
      refine X.getI 34 8 i266_31 rfl rfl (by decide) rfl rfl rfl ?_
      refine X.iconst 35 i266_34 rfl rfl (by decide) ?_
      refine X.iadd 36 i266_35 rfl rfl (by omega) ?_
      refine X.bald 37 i266_36 rfl rfl (by decide) rfl (by omega) (fun h508 => ?_)
      refine X.iload_n 38 i266_37 rfl rfl rfl ?_
      refine X.icmpne 89 41 i266_38 rfl rfl rfl (fun h509 => ?_) (fun h509 => ?_)
      · refine X.cut [] i266_89 rfl ?_
        refine X.iconst 90 i266_89 rfl rfl (by decide) ?_
        refine X.retz i266_90 rfl t266 (by omega) ?_
        exact hQ 0 (by first | trivial | omega) (Eq.trans (zn_eq hFv503.symm) (Eq.trans (if_pos h505) (Eq.trans (if_pos h507) (Eq.trans (if_neg h509) rfl)))) 
      · refine X.aload_n 42 i266_41 rfl rfl rfl ?_
        refine X.getF 45 i266_42 rfl rfl (by decide) rfl rfl ?_
        refine X.aload_n 46 i266_45 rfl rfl rfl ?_
        refine X.getI 49 8 i266_46 rfl rfl (by decide) rfl rfl rfl ?_
        refine X.iconst 50 i266_49 rfl rfl (by decide) ?_
        refine X.iadd 51 i266_50 rfl rfl (by omega) ?_
        refine X.bald 52 i266_51 rfl rfl (by decide) rfl (by omega) (fun h510 => ?_)
        refine X.iload 54 i266_52 rfl rfl rfl ?_
        refine X.icmpne 89 57 i266_54 rfl rfl rfl (fun h511 => ?_) (fun h511 => ?_)
        · refine X.cut [] i266_89 rfl ?_
          refine X.iconst 90 i266_89 rfl rfl (by decide) ?_
          refine X.retz i266_90 rfl t266 (by omega) ?_
          exact hQ 0 (by first | trivial | omega) (Eq.trans (zn_eq hFv503.symm) (Eq.trans (if_pos h505) (Eq.trans (if_pos h507) (Eq.trans (if_pos h509) (Eq.trans (if_neg h511) rfl))))) 
        · refine X.aload_n 58 i266_57 rfl rfl rfl ?_
          refine X.getF 61 i266_58 rfl rfl (by decide) rfl rfl ?_
          refine X.aload_n 62 i266_61 rfl rfl rfl ?_
          refine X.getI 65 8 i266_62 rfl rfl (by decide) rfl rfl rfl ?_
          refine X.iconst 66 i266_65 rfl rfl (by decide) ?_
          refine X.iadd 67 i266_66 rfl rfl (by omega) ?_
          refine X.bald 68 i266_67 rfl rfl (by decide) rfl (by omega) (fun h512 => ?_)
          refine X.iload 70 i266_68 rfl rfl rfl ?_
          refine X.icmpne 89 73 i266_70 rfl rfl rfl (fun h513 => ?_) (fun h513 => ?_)
          · refine X.cut [] i266_89 rfl ?_
            refine X.iconst 90 i266_89 rfl rfl (by decide) ?_
            refine X.retz i266_90 rfl t266 (by omega) ?_
            exact hQ 0 (by first | trivial | omega) (Eq.trans (zn_eq hFv503.symm) (Eq.trans (if_pos h505) (Eq.trans (if_pos h507) (Eq.trans (if_pos h509) (Eq.trans (if_pos h511) (Eq.trans (if_neg h513) rfl)))))) 
          · refine X.aload_n 74 i266_73 rfl rfl rfl ?_
            refine X.getF 77 i266_74 rfl rfl (by decide) rfl rfl ?_
            refine X.aload_n 78 i266_77 rfl rfl rfl ?_
            refine X.getI 81 8 i266_78 rfl rfl (by decide) rfl rfl rfl ?_
            refine X.iconst 82 i266_81 rfl rfl (by decide) ?_
            refine X.iadd 83 i266_82 rfl rfl (by omega) ?_
            refine X.bald 84 i266_83 rfl rfl (by decide) rfl (by omega) (fun h514 => ?_)
            refine X.iload 86 i266_84 rfl rfl rfl ?_
            refine X.icmpeq 91 89 i266_86 rfl rfl rfl (fun h515 => ?_) (fun h515 => ?_)
            · refine X.cut [(0, zr 4 44), (1, zi a1), (7, zi a7), (8, zi a8)] i266_91 rfl ?_
              refine X.iload_n 92 i266_91 rfl rfl rfl ?_
              refine X.bipush 94 i266_92 rfl rfl (by decide) ?_
              have hK526 : ∀ (v : Int) , (0 ≤ v ∧ v ≤ 1) → (if a1 < 6 then
                  (1)
                  else
                  (if (m 4 48 ((m 4 44 8) + 5)) = a7 then
                  (if a1 < 7 then
                  (1)
                  else
                  (if (m 4 48 ((m 4 44 8) + 6)) = a8 then
                  (1)
                  else
                  (0)))
                  else
                  (0))) = v → X (EE s) d 266 141 [] [zi v] m Q := by
                intro v523 hv523 hT527
                refine X.retz i266_141 rfl t266 (by omega) ?_
                exact hQ v523 (by first | trivial | omega) (Eq.trans (zn_eq hFv503.symm) (Eq.trans (if_pos h505) (Eq.trans (if_pos h507) (Eq.trans (if_pos h509) (Eq.trans (if_pos h511) (Eq.trans (if_pos h513) (Eq.trans (if_pos h515) (Eq.trans (zn_eq hT527.symm) rfl)))))))) 
              refine X.icmplt 113 97 i266_94 rfl rfl rfl (fun h516 => ?_) (fun h516 => ?_)
              · refine X.cut [(0, zr 4 44), (1, zi a1), (8, zi a8)] i266_113 rfl ?_
                refine X.iload_n 114 i266_113 rfl rfl rfl ?_
                refine X.bipush 116 i266_114 rfl rfl (by decide) ?_
                refine X.icmplt 136 119 i266_116 rfl rfl rfl (fun h517 => ?_) (fun h517 => (by exfalso; omega))
                refine X.cut [] i266_136 rfl ?_
                refine X.iconst 137 i266_136 rfl rfl (by decide) ?_
                refine X.goto 141 i266_137 rfl rfl ?_
                exact hK526 1 (by first | trivial | omega) (Eq.trans (if_pos h516) rfl)
              · refine X.aload_n 98 i266_97 rfl rfl rfl ?_
                refine X.getF 101 i266_98 rfl rfl (by decide) rfl rfl ?_
                refine X.aload_n 102 i266_101 rfl rfl rfl ?_
                refine X.getI 105 8 i266_102 rfl rfl (by decide) rfl rfl rfl ?_
                refine X.iconst 106 i266_105 rfl rfl (by decide) ?_
                refine X.iadd 107 i266_106 rfl rfl (by omega) ?_
                refine X.bald 108 i266_107 rfl rfl (by decide) rfl (by omega) (fun h518 => ?_)
                refine X.iload 110 i266_108 rfl rfl rfl ?_
                refine X.icmpne 140 113 i266_110 rfl rfl rfl (fun h519 => ?_) (fun h519 => ?_)
                · refine X.cut [] i266_140 rfl ?_
                  refine X.iconst 141 i266_140 rfl rfl (by decide) ?_
                  exact hK526 0 (by first | trivial | omega) (Eq.trans (if_neg h516) (Eq.trans (if_neg h519) rfl))
                · refine X.cut [(0, zr 4 44), (1, zi a1), (8, zi a8)] i266_113 rfl ?_
                  refine X.iload_n 114 i266_113 rfl rfl rfl ?_
                  refine X.bipush 116 i266_114 rfl rfl (by decide) ?_
                  refine X.icmplt 136 119 i266_116 rfl rfl rfl (fun h520 => ?_) (fun h520 => ?_)
                  · refine X.cut [] i266_136 rfl ?_
                    refine X.iconst 137 i266_136 rfl rfl (by decide) ?_
                    refine X.goto 141 i266_137 rfl rfl ?_
                    exact hK526 1 (by first | trivial | omega) (Eq.trans (if_neg h516) (Eq.trans (if_pos h519) (Eq.trans (if_pos h520) rfl)))
                  · refine X.aload_n 120 i266_119 rfl rfl rfl ?_
                    refine X.getF 123 i266_120 rfl rfl (by decide) rfl rfl ?_
                    refine X.aload_n 124 i266_123 rfl rfl rfl ?_
                    refine X.getI 127 8 i266_124 rfl rfl (by decide) rfl rfl rfl ?_
                    refine X.bipush 129 i266_127 rfl rfl (by decide) ?_
                    refine X.iadd 130 i266_129 rfl rfl (by omega) ?_
                    refine X.bald 131 i266_130 rfl rfl (by decide) rfl (by omega) (fun h521 => ?_)
                    refine X.iload 133 i266_131 rfl rfl rfl ?_
                    refine X.icmpne 140 136 i266_133 rfl rfl rfl (fun h522 => ?_) (fun h522 => ?_)
                    · refine X.cut [] i266_140 rfl ?_
                      refine X.iconst 141 i266_140 rfl rfl (by decide) ?_
                      exact hK526 0 (by first | trivial | omega) (Eq.trans (if_neg h516) (Eq.trans (if_pos h519) (Eq.trans (if_neg h520) (Eq.trans (if_neg h522) rfl))))
                    · refine X.cut [] i266_136 rfl ?_
                      refine X.iconst 137 i266_136 rfl rfl (by decide) ?_
                      refine X.goto 141 i266_137 rfl rfl ?_
                      exact hK526 1 (by first | trivial | omega) (Eq.trans (if_neg h516) (Eq.trans (if_pos h519) (Eq.trans (if_neg h520) (Eq.trans (if_pos h522) rfl))))
            · refine X.cut [] i266_89 rfl ?_
              refine X.iconst 90 i266_89 rfl rfl (by decide) ?_
              refine X.retz i266_90 rfl t266 (by omega) ?_
              exact hQ 0 (by first | trivial | omega) (Eq.trans (zn_eq hFv503.symm) (Eq.trans (if_pos h505) (Eq.trans (if_pos h507) (Eq.trans (if_pos h509) (Eq.trans (if_pos h511) (Eq.trans (if_pos h513) (Eq.trans (if_neg h515) rfl))))))) 
-- WorkMeterModel.word
noncomputable def f265_1 (m : zM) : Int :=
  zn (f266_1 5 116 97 98 108 101 0 0 m) fun v503 =>
  if v503 = 0 then
  (zn (f266_1 6 115 101 97 115 111 110 0 m) fun v507 =>
  if v507 = 0 then
  (zn (f266_1 7 115 112 101 99 105 97 108 m) fun v511 =>
  if v511 = 0 then
  (zn (f266_1 5 112 114 105 99 101 0 0 m) fun v515 =>
  zn (if v515 = 0 then
  (0)
  else
  (4)) fun v517 =>
  v517)
  else
  (3))
  else
  (2))
  else
  (1)
-- WorkMeterModel.word
theorem c265_1 {s : Nat × (Nat → Int32)} {S : zS} {m0 m : zM} {B : Int} {d : Nat} {Q : Option zV → zM → Prop} (hd : 15 ≤ d) (hJ : J S m0 B m) (hB : B + 0 ≤ 1000000000) (hQ : ∀ (v : Int), (0 ≤ v ∧ v ≤ 4) → f265_1 m = v → Q (some (zi v)) m) : X (EE s) d 265 0 [(0, zr 4 44)] [] m Q := by
  refine X.aload_n 1 i265_0 rfl rfl rfl ?_
  refine X.iconst 2 i265_1 rfl rfl (by decide) ?_
  refine X.bipush 4 i265_2 rfl rfl (by decide) ?_
  refine X.bipush 6 i265_4 rfl rfl (by decide) ?_
  refine X.bipush 8 i265_6 rfl rfl (by decide) ?_
  refine X.bipush 10 i265_8 rfl rfl (by decide) ?_
  refine X.bipush 12 i265_10 rfl rfl (by decide) ?_
  refine X.iconst 13 i265_12 rfl rfl (by decide) ?_
  refine X.iconst 14 i265_13 rfl rfl (by decide) ?_
  refine X.callv 17 [zi 5, zi 116, zi 97, zi 98, zi 108, zi 101, zi 0, zi 0] [] [(0, zr 4 44), (1, zi 5), (2, zi 116), (3, zi 97), (4, zi 98), (5, zi 108), (6, zi 101), (7, zi 0), (8, zi 0)] i265_14 rfl (by decide) rfl rfl (by omega) rfl rfl (by decide) rfl t266 (Nat.le_of_ble_eq_true rfl) (Nat.le_of_ble_eq_true rfl) rfl ?_
  refine c266_1 (B := B)  5 116 97 98 108 101 0 0 (by omega) (hJ.up (by omega)) (by omega) (by omega) (by omega) (by omega) (by omega) (by omega) (by omega) (by omega) (by omega) (fun v503 hv503 hFv503 => ?_)
  show X (EE s) d 265 17 [(0, zr 4 44)] [zi v503] m _
  refine X.ifeq 22 20 i265_17 rfl rfl rfl (fun h504 => ?_) (fun h504 => ?_)
  · refine X.aload_n 23 i265_22 rfl rfl rfl ?_
    refine X.bipush 25 i265_23 rfl rfl (by decide) ?_
    refine X.bipush 27 i265_25 rfl rfl (by decide) ?_
    refine X.bipush 29 i265_27 rfl rfl (by decide) ?_
    refine X.bipush 31 i265_29 rfl rfl (by decide) ?_
    refine X.bipush 33 i265_31 rfl rfl (by decide) ?_
    refine X.bipush 35 i265_33 rfl rfl (by decide) ?_
    refine X.bipush 37 i265_35 rfl rfl (by decide) ?_
    refine X.iconst 38 i265_37 rfl rfl (by decide) ?_
    refine X.callv 41 [zi 6, zi 115, zi 101, zi 97, zi 115, zi 111, zi 110, zi 0] [] [(0, zr 4 44), (1, zi 6), (2, zi 115), (3, zi 101), (4, zi 97), (5, zi 115), (6, zi 111), (7, zi 110), (8, zi 0)] i265_38 rfl (by decide) rfl rfl (by omega) rfl rfl (by decide) rfl t266 (Nat.le_of_ble_eq_true rfl) (Nat.le_of_ble_eq_true rfl) rfl ?_
    refine c266_2 (B := B)  6 115 101 97 115 111 110 0 (by omega) (hJ.up (by omega)) (by omega) (by omega) (by omega) (by omega) (by omega) (by omega) (by omega) (by omega) (by omega) (fun v507 hv507 hFv507 => ?_)
    show X (EE s) d 265 41 [(0, zr 4 44)] [zi v507] m _
    refine X.ifeq 46 44 i265_41 rfl rfl rfl (fun h508 => ?_) (fun h508 => ?_)
    · refine X.aload_n 47 i265_46 rfl rfl rfl ?_
      refine X.bipush 49 i265_47 rfl rfl (by decide) ?_
      refine X.bipush 51 i265_49 rfl rfl (by decide) ?_
      refine X.bipush 53 i265_51 rfl rfl (by decide) ?_
      refine X.bipush 55 i265_53 rfl rfl (by decide) ?_
      refine X.bipush 57 i265_55 rfl rfl (by decide) ?_
      refine X.bipush 59 i265_57 rfl rfl (by decide) ?_
      refine X.bipush 61 i265_59 rfl rfl (by decide) ?_
      refine X.bipush 63 i265_61 rfl rfl (by decide) ?_
      refine X.callv 66 [zi 7, zi 115, zi 112, zi 101, zi 99, zi 105, zi 97, zi 108] [] [(0, zr 4 44), (1, zi 7), (2, zi 115), (3, zi 112), (4, zi 101), (5, zi 99), (6, zi 105), (7, zi 97), (8, zi 108)] i265_63 rfl (by decide) rfl rfl (by omega) rfl rfl (by decide) rfl t266 (Nat.le_of_ble_eq_true rfl) (Nat.le_of_ble_eq_true rfl) rfl ?_
      refine c266_3 (B := B)  7 115 112 101 99 105 97 108 (by omega) (hJ.up (by omega)) (by omega) (by omega) (by omega) (by omega) (by omega) (by omega) (by omega) (by omega) (by omega) (fun v511 hv511 hFv511 => ?_)
      show X (EE s) d 265 66 [(0, zr 4 44)] [zi v511] m _
      refine X.ifeq 71 69 i265_66 rfl rfl rfl (fun h512 => ?_) (fun h512 => ?_)
      · refine X.aload_n 72 i265_71 rfl rfl rfl ?_
        refine X.iconst 73 i265_72 rfl rfl (by decide) ?_
        refine X.bipush 75 i265_73 rfl rfl (by decide) ?_
        refine X.bipush 77 i265_75 rfl rfl (by decide) ?_
        refine X.bipush 79 i265_77 rfl rfl (by decide) ?_
        refine X.bipush 81 i265_79 rfl rfl (by decide) ?_
        refine X.bipush 83 i265_81 rfl rfl (by decide) ?_
        refine X.iconst 84 i265_83 rfl rfl (by decide) ?_
        refine X.iconst 85 i265_84 rfl rfl (by decide) ?_
        refine X.callv 88 [zi 5, zi 112, zi 114, zi 105, zi 99, zi 101, zi 0, zi 0] [] [(0, zr 4 44), (1, zi 5), (2, zi 112), (3, zi 114), (4, zi 105), (5, zi 99), (6, zi 101), (7, zi 0), (8, zi 0)] i265_85 rfl (by decide) rfl rfl (by omega) rfl rfl (by decide) rfl t266 (Nat.le_of_ble_eq_true rfl) (Nat.le_of_ble_eq_true rfl) rfl ?_
        refine c266_4 (B := B)  5 112 114 105 99 101 0 0 (by omega) (hJ.up (by omega)) (by omega) (by omega) (by omega) (by omega) (by omega) (by omega) (by omega) (by omega) (by omega) (fun v515 hv515 hFv515 => ?_)
        show X (EE s) d 265 88 [(0, zr 4 44)] [zi v515] m _
        have hK520 : ∀ (v : Int) , (0 ≤ v ∧ v ≤ 4) → (if v515 = 0 then
            (0)
            else
            (4)) = v → X (EE s) d 265 96 [] [zi v] m Q := by
          intro v517 hv517 hT521
          refine X.reti i265_96 rfl t265 ?_
          exact hQ v517 (by first | trivial | omega) (Eq.trans (zn_eq hFv503.symm) (Eq.trans (if_pos h504) (Eq.trans (zn_eq hFv507.symm) (Eq.trans (if_pos h508) (Eq.trans (zn_eq hFv511.symm) (Eq.trans (if_pos h512) (Eq.trans (zn_eq hFv515.symm) (Eq.trans (zn_eq hT521.symm) rfl)))))))) 
        refine X.ifeq 95 91 i265_88 rfl rfl rfl (fun h516 => ?_) (fun h516 => ?_)
        · refine X.cut [] i265_95 rfl ?_
          refine X.iconst 96 i265_95 rfl rfl (by decide) ?_
          exact hK520 0 (by first | trivial | omega) (Eq.trans (if_pos h516) rfl)
        · refine X.iconst 92 i265_91 rfl rfl (by decide) ?_
          refine X.goto 96 i265_92 rfl rfl ?_
          refine X.cut [] i265_96 rfl ?_
          exact hK520 4 (by first | trivial | omega) (Eq.trans (if_neg h516) rfl)
      · refine X.iconst 70 i265_69 rfl rfl (by decide) ?_
        refine X.reti i265_70 rfl t265 ?_
        exact hQ 3 (by first | trivial | omega) (Eq.trans (zn_eq hFv503.symm) (Eq.trans (if_pos h504) (Eq.trans (zn_eq hFv507.symm) (Eq.trans (if_pos h508) (Eq.trans (zn_eq hFv511.symm) (Eq.trans (if_neg h512) rfl)))))) 
    · refine X.iconst 45 i265_44 rfl rfl (by decide) ?_
      refine X.reti i265_45 rfl t265 ?_
      exact hQ 2 (by first | trivial | omega) (Eq.trans (zn_eq hFv503.symm) (Eq.trans (if_pos h504) (Eq.trans (zn_eq hFv507.symm) (Eq.trans (if_neg h508) rfl)))) 
  · refine X.iconst 21 i265_20 rfl rfl (by decide) ?_
    refine X.reti i265_21 rfl t265 ?_
    exact hQ 1 (by first | trivial | omega) (Eq.trans (zn_eq hFv503.symm) (Eq.trans (if_neg h504) rfl)) 
-- WorkMeterModel.wrong
noncomputable def f268_1 (a1 a2 : Int) (m : zM) : zM :=
  if (m 4 44 9) = 0 then
  (zs (z_upd m 4 44 9 1) fun m503 =>
  zs (z_upd m503 4 44 6 a1) fun m505 =>
  zs (z_upd m505 4 44 7 a2) fun m507 =>
  m507)
  else
  (m)
-- WorkMeterModel.wrong
theorem c268_1 {s : Nat × (Nat → Int32)} {S : zS} {m0 m : zM} {B : Int} {d : Nat} {Q : Option zV → zM → Prop} (a1 a2 : Int) (hd : 13 ≤ d) (hJ : J S m0 B m) (hB : B + 0 ≤ 1000000000) (ha1 : 1 ≤ a1 ∧ a1 ≤ 1) (ha2 : 0 ≤ a2 ∧ a2 ≤ 300) (hf16 : ¬ S.1 16) (hf19 : ¬ S.1 19) (hg4 : ¬ S.2.1 4) (hQ : ∀ m', f268_1 a1 a2 m = m' → J S m0 (B) m' → (m' 4 44 9 = 1) → (m 4 44 8 ≤ m' 4 44 8) → (m 4 44 9 ≤ m' 4 44 9) → Q none m') : X (EE s) d 268 0 [(0, zr 4 44), (1, zi a1), (2, zi a2)] [] m Q := by
  refine X.aload_n 1 i268_0 rfl rfl rfl ?_
  refine X.getZ 4 9 i268_1 rfl rfl (by decide) rfl rfl rfl (fun h501 => ?_)
  refine X.ifeq 8 7 i268_4 rfl rfl rfl (fun h502 => ?_) (fun h502 => ?_)
  · refine X.aload_n 9 i268_8 rfl rfl rfl ?_
    refine X.iconst 10 i268_9 rfl rfl (by decide) ?_
    refine X.putZ' 13 9 i268_10 rfl rfl (by decide) rfl rfl rfl (by omega) (fun hrm503 m503 hm503 => ?_)
    have hJ504 := w44_9 hJ hm503 (by omega) hf19 hg4
    have em503 : m503 4 44 9 = 1 := by rw [hm503]; exact z_upd_same _ _ _ _ _
    have wmm503_8 : m503 4 44 8 = m 4 44 8 := by rw [hm503]; exact z_upd_o _ _ rfl
    have wmm503_10 : m503 4 44 10 = m 4 44 10 := by rw [hm503]; exact z_upd_o _ _ rfl
    refine X.aload_n 14 i268_13 rfl rfl rfl ?_
    refine X.iload_n 15 i268_14 rfl rfl rfl ?_
    refine X.putI' 18 6 i268_15 rfl rfl (by decide) rfl rfl rfl (fun hrm505 m505 hm505 => ?_)
    have hJ506 := w44_6 hJ504 hm505 (by omega) hrm505 hf16 hg4
    have wmm505_8 : m505 4 44 8 = m503 4 44 8 := by rw [hm505]; exact z_upd_o _ _ rfl
    have wmm505_9 : m505 4 44 9 = m503 4 44 9 := by rw [hm505]; exact z_upd_o _ _ rfl
    have wmm505_10 : m505 4 44 10 = m503 4 44 10 := by rw [hm505]; exact z_upd_o _ _ rfl
    refine X.aload_n 19 i268_18 rfl rfl rfl ?_
    refine X.iload_n 20 i268_19 rfl rfl rfl ?_
    refine X.putI' 23 7 i268_20 rfl rfl (by decide) rfl rfl rfl (fun hrm507 m507 hm507 => ?_)
    have hJ508 := w44_6 hJ506 hm507 (by omega) hrm507 hf16 hg4
    have wmm507_8 : m507 4 44 8 = m505 4 44 8 := by rw [hm507]; exact z_upd_o _ _ rfl
    have wmm507_9 : m507 4 44 9 = m505 4 44 9 := by rw [hm507]; exact z_upd_o _ _ rfl
    have wmm507_10 : m507 4 44 10 = m505 4 44 10 := by rw [hm507]; exact z_upd_o _ _ rfl
    refine X.retv i268_23 rfl t268 ?_
    exact hQ  m507  (Eq.trans (if_pos h502) (Eq.trans (zs_eq hm503) (Eq.trans (zs_eq hm505) (Eq.trans (zs_eq hm507) rfl)))) (hJ508.up (by omega)) (by omega) (by omega) (by omega)
  · refine X.retv i268_7 rfl t268 ?_
    exact hQ  m  (Eq.trans (if_neg h502) rfl) (hJ.up (by omega)) (by omega) (by omega) (by omega)
-- WorkMeterModel.wrong
theorem c268_2 {s : Nat × (Nat → Int32)} {S : zS} {m0 m : zM} {B : Int} {d : Nat} {Q : Option zV → zM → Prop} (a1 a2 : Int) (hd : 13 ≤ d) (hJ : J S m0 B m) (hB : B + 0 ≤ 1000000000) (ha1 : 4 ≤ a1 ∧ a1 ≤ 4) (ha2 : 0 ≤ a2 ∧ a2 ≤ 300) (hf16 : ¬ S.1 16) (hf19 : ¬ S.1 19) (hg4 : ¬ S.2.1 4) (hQ : ∀ m', f268_1 a1 a2 m = m' → J S m0 (B) m' → (m' 4 44 9 = 1) → (m 4 44 8 ≤ m' 4 44 8) → (m 4 44 9 ≤ m' 4 44 9) → Q none m') : X (EE s) d 268 0 [(0, zr 4 44), (1, zi a1), (2, zi a2)] [] m Q := by
  refine X.aload_n 1 i268_0 rfl rfl rfl ?_
  refine X.getZ 4 9 i268_1 rfl rfl (by decide) rfl rfl rfl (fun h501 => ?_)
  refine X.ifeq 8 7 i268_4 rfl rfl rfl (fun h502 => ?_) (fun h502 => ?_)
  · refine X.aload_n 9 i268_8 rfl rfl rfl ?_
    refine X.iconst 10 i268_9 rfl rfl (by decide) ?_
    refine X.putZ' 13 9 i268_10 rfl rfl (by decide) rfl rfl rfl (by omega) (fun hrm503 m503 hm503 => ?_)
    have hJ504 := w44_9 hJ hm503 (by omega) hf19 hg4
    have em503 : m503 4 44 9 = 1 := by rw [hm503]; exact z_upd_same _ _ _ _ _
    have wmm503_8 : m503 4 44 8 = m 4 44 8 := by rw [hm503]; exact z_upd_o _ _ rfl
    have wmm503_10 : m503 4 44 10 = m 4 44 10 := by rw [hm503]; exact z_upd_o _ _ rfl
    refine X.aload_n 14 i268_13 rfl rfl rfl ?_
    refine X.iload_n 15 i268_14 rfl rfl rfl ?_
    refine X.putI' 18 6 i268_15 rfl rfl (by decide) rfl rfl rfl (fun hrm505 m505 hm505 => ?_)
    have hJ506 := w44_6 hJ504 hm505 (by omega) hrm505 hf16 hg4
    have wmm505_8 : m505 4 44 8 = m503 4 44 8 := by rw [hm505]; exact z_upd_o _ _ rfl
    have wmm505_9 : m505 4 44 9 = m503 4 44 9 := by rw [hm505]; exact z_upd_o _ _ rfl
    have wmm505_10 : m505 4 44 10 = m503 4 44 10 := by rw [hm505]; exact z_upd_o _ _ rfl
    refine X.aload_n 19 i268_18 rfl rfl rfl ?_
    refine X.iload_n 20 i268_19 rfl rfl rfl ?_
    refine X.putI' 23 7 i268_20 rfl rfl (by decide) rfl rfl rfl (fun hrm507 m507 hm507 => ?_)
    have hJ508 := w44_6 hJ506 hm507 (by omega) hrm507 hf16 hg4
    have wmm507_8 : m507 4 44 8 = m505 4 44 8 := by rw [hm507]; exact z_upd_o _ _ rfl
    have wmm507_9 : m507 4 44 9 = m505 4 44 9 := by rw [hm507]; exact z_upd_o _ _ rfl
    have wmm507_10 : m507 4 44 10 = m505 4 44 10 := by rw [hm507]; exact z_upd_o _ _ rfl
    refine X.retv i268_23 rfl t268 ?_
    exact hQ  m507  (Eq.trans (if_pos h502) (Eq.trans (zs_eq hm503) (Eq.trans (zs_eq hm505) (Eq.trans (zs_eq hm507) rfl)))) (hJ508.up (by omega)) (by omega) (by omega) (by omega)
  · refine X.retv i268_7 rfl t268 ?_
    exact hQ  m  (Eq.trans (if_neg h502) rfl) (hJ.up (by omega)) (by omega) (by omega) (by omega)
-- WorkMeterModel.wrong
theorem c268_3 {s : Nat × (Nat → Int32)} {S : zS} {m0 m : zM} {B : Int} {d : Nat} {Q : Option zV → zM → Prop} (a1 a2 : Int) (hd : 13 ≤ d) (hJ : J S m0 B m) (hB : B + 0 ≤ 1000000000) (ha1 : 3 ≤ a1 ∧ a1 ≤ 3) (ha2 : 0 ≤ a2 ∧ a2 ≤ 300) (hf16 : ¬ S.1 16) (hf19 : ¬ S.1 19) (hg4 : ¬ S.2.1 4) (hQ : ∀ m', f268_1 a1 a2 m = m' → J S m0 (B) m' → (m' 4 44 9 = 1) → (m 4 44 8 ≤ m' 4 44 8) → (m 4 44 9 ≤ m' 4 44 9) → Q none m') : X (EE s) d 268 0 [(0, zr 4 44), (1, zi a1), (2, zi a2)] [] m Q := by
  refine X.aload_n 1 i268_0 rfl rfl rfl ?_
  refine X.getZ 4 9 i268_1 rfl rfl (by decide) rfl rfl rfl (fun h501 => ?_)
  refine X.ifeq 8 7 i268_4 rfl rfl rfl (fun h502 => ?_) (fun h502 => ?_)
  · refine X.aload_n 9 i268_8 rfl rfl rfl ?_
    refine X.iconst 10 i268_9 rfl rfl (by decide) ?_
    refine X.putZ' 13 9 i268_10 rfl rfl (by decide) rfl rfl rfl (by omega) (fun hrm503 m503 hm503 => ?_)
    have hJ504 := w44_9 hJ hm503 (by omega) hf19 hg4
    have em503 : m503 4 44 9 = 1 := by rw [hm503]; exact z_upd_same _ _ _ _ _
    have wmm503_8 : m503 4 44 8 = m 4 44 8 := by rw [hm503]; exact z_upd_o _ _ rfl
    have wmm503_10 : m503 4 44 10 = m 4 44 10 := by rw [hm503]; exact z_upd_o _ _ rfl
    refine X.aload_n 14 i268_13 rfl rfl rfl ?_
    refine X.iload_n 15 i268_14 rfl rfl rfl ?_
    refine X.putI' 18 6 i268_15 rfl rfl (by decide) rfl rfl rfl (fun hrm505 m505 hm505 => ?_)
    have hJ506 := w44_6 hJ504 hm505 (by omega) hrm505 hf16 hg4
    have wmm505_8 : m505 4 44 8 = m503 4 44 8 := by rw [hm505]; exact z_upd_o _ _ rfl
    have wmm505_9 : m505 4 44 9 = m503 4 44 9 := by rw [hm505]; exact z_upd_o _ _ rfl
    have wmm505_10 : m505 4 44 10 = m503 4 44 10 := by rw [hm505]; exact z_upd_o _ _ rfl
    refine X.aload_n 19 i268_18 rfl rfl rfl ?_
    refine X.iload_n 20 i268_19 rfl rfl rfl ?_
    refine X.putI' 23 7 i268_20 rfl rfl (by decide) rfl rfl rfl (fun hrm507 m507 hm507 => ?_)
    have hJ508 := w44_6 hJ506 hm507 (by omega) hrm507 hf16 hg4
    have wmm507_8 : m507 4 44 8 = m505 4 44 8 := by rw [hm507]; exact z_upd_o _ _ rfl
    have wmm507_9 : m507 4 44 9 = m505 4 44 9 := by rw [hm507]; exact z_upd_o _ _ rfl
    have wmm507_10 : m507 4 44 10 = m505 4 44 10 := by rw [hm507]; exact z_upd_o _ _ rfl
    refine X.retv i268_23 rfl t268 ?_
    exact hQ  m507  (Eq.trans (if_pos h502) (Eq.trans (zs_eq hm503) (Eq.trans (zs_eq hm505) (Eq.trans (zs_eq hm507) rfl)))) (hJ508.up (by omega)) (by omega) (by omega) (by omega)
  · refine X.retv i268_7 rfl t268 ?_
    exact hQ  m  (Eq.trans (if_neg h502) rfl) (hJ.up (by omega)) (by omega) (by omega) (by omega)
noncomputable def fl270_23_1_b (self : Int → zM → Int × zM) (k97 : Int → zM → Int × zM) (y1 y2 : Int) (y3 : Int) (m : zM) : Int × zM :=
  if (m 4 44 5) ≤ (m 4 44 8) then
  (k97 y3 m)
  else
  (if (m 4 48 (m 4 44 8)) < 48 then
  (k97 y3 m)
  else
  (if (m 4 48 (m 4 44 8)) ≤ 57 then
  (zn (if y3 ≤ 100000 then
  ((((10 * y3) + (m 4 48 (m 4 44 8))) - 48))
  else
  (y3)) fun v534 =>
  zs (z_upd m 4 44 8 ((m 4 44 8) + 1)) fun m539 =>
  self v534 m539)
  else
  (k97 y3 m)))
noncomputable def fl270_23_1 (k97 : Int → zM → Int × zM) (y1 y2 : Int) : Nat → Int → zM → Int × zM
  | 0 => fun y3 m => (0, m)
  | n + 1 => fl270_23_1_b (fl270_23_1 k97 y1 y2 n) k97 y1 y2
