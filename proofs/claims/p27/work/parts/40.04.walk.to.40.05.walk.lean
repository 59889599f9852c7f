section
-- WorkMeterModel.logs
theorem c223_1 {s : Nat × (Nat → Int32)} {S : zS} {m0 m : zM} {B : Int} {d : Nat} {Q : Option zV → zM → Prop} (a1 a2 : Int) (hd : 13 ≤ d) (hJ : J S m0 B m) (hB : B + 1 ≤ 1000000000) (ha1 : 0 ≤ a1 ∧ a1 ≤ 40) (hf26 : ¬ S.1 26) (hg4 : ¬ S.2.1 4) (hQ : ∀ m', f223_1 a1 a2 m = m' → J S m0 (B + 1) m' → Q none m') : X (EE s) d 223 0 [(0, zr 4 44), (1, zi a1), (2, zl a2)] [] m Q := by
  refine X.aload_n 1 i223_0 rfl rfl rfl ?_
  refine X.getF 4 i223_1 rfl rfl (by decide) rfl rfl ?_
  refine X.bipush 6 i223_4 rfl rfl (by decide) ?_
  refine X.lald 7 i223_6 rfl rfl (by decide) rfl (by omega) ?_
  have h501 := r45_16 hJ 4
  refine X.ldc2 10 i223_7 rfl rfl (by decide) ?_
  refine X.lcmp 11 i223_10 rfl rfl (fun z502 hz502 => ?_)
  refine X.iflt 54 14 i223_11 rfl rfl rfl (fun h503 => ?_) (fun h503 => ?_)
  · have h503c : (m 4 45 16) < 40 := by omega
    clear h503 hz502
    refine X.sipush 57 i223_54 rfl rfl (by decide) ?_
    refine X.iconst 58 i223_57 rfl rfl (by decide) ?_
    refine X.aload_n 59 i223_58 rfl rfl rfl ?_
    refine X.getF 62 i223_59 rfl rfl (by decide) rfl rfl ?_
    refine X.bipush 64 i223_62 rfl rfl (by decide) ?_
    refine X.lald 65 i223_64 rfl rfl (by decide) rfl (by omega) ?_
    refine X.ldc2 68 i223_65 rfl rfl (by decide) ?_
    refine X.lcmp 69 i223_68 rfl rfl (fun z504 hz504 => ?_)
    refine X.ifge 82 72 i223_69 rfl rfl rfl (fun h505 => (by exfalso; omega)) (fun h505 => ?_)
    have h505c : (m 4 45 16) < 40 := by omega
    clear h505 hz504
    refine X.aload_n 73 i223_72 rfl rfl rfl ?_
    refine X.getF 76 i223_73 rfl rfl (by decide) rfl rfl ?_
    refine X.bipush 78 i223_76 rfl rfl (by decide) ?_
    refine X.lald 79 i223_78 rfl rfl (by decide) rfl (by omega) ?_
    refine X.goto 85 i223_79 rfl rfl ?_
    refine X.l2i 86 i223_85 rfl rfl (by omega) ?_
    refine X.imul 87 i223_86 rfl rfl (by omega) ?_
    refine X.iadd 88 i223_87 rfl rfl (by omega) ?_
    refine X.istore 90 [(0, zr 4 44), (1, zi a1), (2, zl a2), (4, zi (1487 + (3 * (m 4 45 16))))] i223_88 rfl rfl rfl ?_
    refine X.aload_n 91 i223_90 rfl rfl rfl ?_
    refine X.getF 94 i223_91 rfl rfl (by decide) rfl rfl ?_
    refine X.iload 96 i223_94 rfl rfl rfl ?_
    refine X.aload_n 97 i223_96 rfl rfl rfl ?_
    refine X.getF 100 i223_97 rfl rfl (by decide) rfl rfl ?_
    refine X.iconst 101 i223_100 rfl rfl (by decide) ?_
    refine X.lald 102 i223_101 rfl rfl (by decide) rfl (by omega) ?_
    have h506 := r45_0 hJ 4
    refine X.last' 103 i223_102 rfl rfl (by decide) rfl (by omega) (fun hrm507 m507 hm507 => ?_)
    have hJ508 := w45_1487 hJ hm507 (by omega) hrm507 hf26 hg4
    refine X.aload_n 104 i223_103 rfl rfl rfl ?_
    refine X.getF 107 i223_104 rfl rfl (by decide) rfl rfl ?_
    refine X.iload 109 i223_107 rfl rfl rfl ?_
    refine X.iconst 110 i223_109 rfl rfl (by decide) ?_
    refine X.iadd 111 i223_110 rfl rfl (by omega) ?_
    refine X.iload_n 112 i223_111 rfl rfl rfl ?_
    refine X.i2l 113 i223_112 rfl rfl ?_
    refine X.last' 114 i223_113 rfl rfl (by decide) rfl (by omega) (fun hrm509 m509 hm509 => ?_)
    have hJ510 := w45_1487 hJ508 hm509 (by omega) hrm509 hf26 hg4
    refine X.aload_n 115 i223_114 rfl rfl rfl ?_
    refine X.getF 118 i223_115 rfl rfl (by decide) rfl rfl ?_
    refine X.iload 120 i223_118 rfl rfl rfl ?_
    refine X.iconst 121 i223_120 rfl rfl (by decide) ?_
    refine X.iadd 122 i223_121 rfl rfl (by omega) ?_
    refine X.lload_n 123 i223_122 rfl rfl rfl ?_
    refine X.last' 124 i223_123 rfl rfl (by decide) rfl (by omega) (fun hrm511 m511 hm511 => ?_)
    have hJ512 := w45_1487 hJ510 hm511 (by omega) hrm511 hf26 hg4
    refine X.aload_n 125 i223_124 rfl rfl rfl ?_
    refine X.getF 128 i223_125 rfl rfl (by decide) rfl rfl ?_
    refine X.bipush 130 i223_128 rfl rfl (by decide) ?_
    refine X.dup2 131 i223_130 rfl rfl ?_
    refine X.lald 132 i223_131 rfl rfl (by decide) rfl (by omega) ?_
    have h513 := r45_16 hJ512 4
    refine X.lconst (y := 1) 133 i223_132 rfl rfl rfl ?_
    refine X.ladd 134 i223_133 rfl rfl (by omega) ?_
    refine X.last' 135 i223_134 rfl rfl (by decide) rfl (by omega) (fun hrm514 m514 hm514 => ?_)
    have hJ515 := w45_16 (hJ512.up (B' := B + 1) (by omega)) hm514 (by omega) hf26 hg4
    refine X.retv i223_135 rfl t223 ?_
    exact hQ  m514  (Eq.trans (if_pos h503c) (Eq.trans (zs_eq hm507) (Eq.trans (zs_eq hm509) (Eq.trans (zs_eq hm511) (Eq.trans (zs_eq hm514) rfl))))) (hJ515.up (by omega)) 
  · have h503c : ¬ (m 4 45 16) < 40 := by omega
    clear h503 hz502
    refine X.iconst 15 i223_14 rfl rfl (by decide) ?_
    refine X.istore 17 [(0, zr 4 44), (1, zi a1), (2, zl a2), (4, zi 3)] i223_15 rfl rfl rfl ?_
    have hz118 := zfu_eq 118
    refine l223_17_1 (s := s) (d := d) (R0 := (f223_1 a1 a2 m))  a1 a2  (BE := B + 0) (by omega) (by omega) (by omega) hf26 hg4 (fun  m516 B517 hJ518 hBB517 hR519 => ?_) (zfu 118) 3 m (B) (hJ.up (by omega)) (by omega) (by omega) (by omega) (Eq.trans (if_neg h503c) rfl)
    refine X.sipush 57 i223_54 rfl rfl (by decide) ?_
    refine X.iconst 58 i223_57 rfl rfl (by decide) ?_
    refine X.aload_n 59 i223_58 rfl rfl rfl ?_
    refine X.getF 62 i223_59 rfl rfl (by decide) rfl rfl ?_
    refine X.bipush 64 i223_62 rfl rfl (by decide) ?_
    refine X.lald 65 i223_64 rfl rfl (by decide) rfl (by omega) ?_
    have h520 := r45_16 hJ518 4
    refine X.ldc2 68 i223_65 rfl rfl (by decide) ?_
    refine X.lcmp 69 i223_68 rfl rfl (fun z521 hz521 => ?_)
    have hK526 : ∀ (v : Int) , (0 ≤ v ∧ v ≤ 39) → (if (m516 4 45 16) < 40 then
        ((m516 4 45 16))
        else
        (39)) = v → X (EE s) d 223 85 [(0, zr 4 44), (1, zi a1), (2, zl a2)] [zl v, zi 3, zi 1487] m516 Q := by
      intro v523 hv523 hT527
      refine X.l2i 86 i223_85 rfl rfl (by omega) ?_
      refine X.imul 87 i223_86 rfl rfl (by omega) ?_
      refine X.iadd 88 i223_87 rfl rfl (by omega) ?_
      refine X.istore 90 [(0, zr 4 44), (1, zi a1), (2, zl a2), (4, zi (1487 + (3 * v523)))] i223_88 rfl rfl rfl ?_
      refine X.aload_n 91 i223_90 rfl rfl rfl ?_
      refine X.getF 94 i223_91 rfl rfl (by decide) rfl rfl ?_
      refine X.iload 96 i223_94 rfl rfl rfl ?_
      refine X.aload_n 97 i223_96 rfl rfl rfl ?_
      refine X.getF 100 i223_97 rfl rfl (by decide) rfl rfl ?_
      refine X.iconst 101 i223_100 rfl rfl (by decide) ?_
      refine X.lald 102 i223_101 rfl rfl (by decide) rfl (by omega) ?_
      have h528 := r45_0 hJ518 4
      refine X.last' 103 i223_102 rfl rfl (by decide) rfl (by omega) (fun hrm529 m529 hm529 => ?_)
      have hJ530 := w45_1487 hJ518 hm529 (by omega) hrm529 hf26 hg4
      refine X.aload_n 104 i223_103 rfl rfl rfl ?_
      refine X.getF 107 i223_104 rfl rfl (by decide) rfl rfl ?_
      refine X.iload 109 i223_107 rfl rfl rfl ?_
      refine X.iconst 110 i223_109 rfl rfl (by decide) ?_
      refine X.iadd 111 i223_110 rfl rfl (by omega) ?_
      refine X.iload_n 112 i223_111 rfl rfl rfl ?_
      refine X.i2l 113 i223_112 rfl rfl ?_
      refine X.last' 114 i223_113 rfl rfl (by decide) rfl (by omega) (fun hrm531 m531 hm531 => ?_)
      have hJ532 := w45_1487 hJ530 hm531 (by omega) hrm531 hf26 hg4
      refine X.aload_n 115 i223_114 rfl rfl rfl ?_
      refine X.getF 118 i223_115 rfl rfl (by decide) rfl rfl ?_
      refine X.iload 120 i223_118 rfl rfl rfl ?_
      refine X.iconst 121 i223_120 rfl rfl (by decide) ?_
      refine X.iadd 122 i223_121 rfl rfl (by omega) ?_
      refine X.lload_n 123 i223_122 rfl rfl rfl ?_
      refine X.last' 124 i223_123 rfl rfl (by decide) rfl (by omega) (fun hrm533 m533 hm533 => ?_)
      have hJ534 := w45_1487 hJ532 hm533 (by omega) hrm533 hf26 hg4
      refine X.aload_n 125 i223_124 rfl rfl rfl ?_
      refine X.getF 128 i223_125 rfl rfl (by decide) rfl rfl ?_
      refine X.bipush 130 i223_128 rfl rfl (by decide) ?_
      refine X.dup2 131 i223_130 rfl rfl ?_
      refine X.lald 132 i223_131 rfl rfl (by decide) rfl (by omega) ?_
      have h535 := r45_16 hJ534 4
      refine X.lconst (y := 1) 133 i223_132 rfl rfl rfl ?_
      refine X.ladd 134 i223_133 rfl rfl (by omega) ?_
      refine X.last' 135 i223_134 rfl rfl (by decide) rfl (by omega) (fun hrm536 m536 hm536 => ?_)
      have hJ537 := w45_16 (hJ534.up (B' := B517 + 1) (by omega)) hm536 (by omega) hf26 hg4
      refine X.retv i223_135 rfl t223 ?_
      exact hQ  m536  (Eq.trans hR519 (Eq.trans (zn_eq hT527.symm) (Eq.trans (zs_eq hm529) (Eq.trans (zs_eq hm531) (Eq.trans (zs_eq hm533) (Eq.trans (zs_eq hm536) rfl)))))) (hJ537.up (by omega)) 
    refine X.ifge 82 72 i223_69 rfl rfl rfl (fun h522 => ?_) (fun h522 => ?_)
    · have h522c : ¬ (m516 4 45 16) < 40 := by omega
      clear h522 hz521
      refine X.ldc2 85 i223_82 rfl rfl (by decide) ?_
      exact hK526 39 (by first | trivial | omega) (Eq.trans (if_neg h522c) rfl)
    · have h522c : (m516 4 45 16) < 40 := by omega
      clear h522 hz521
      refine X.aload_n 73 i223_72 rfl rfl rfl ?_
      refine X.getF 76 i223_73 rfl rfl (by decide) rfl rfl ?_
      refine X.bipush 78 i223_76 rfl rfl (by decide) ?_
      refine X.lald 79 i223_78 rfl rfl (by decide) rfl (by omega) ?_
      refine X.goto 85 i223_79 rfl rfl ?_
      exact hK526 (m516 4 45 16) (by first | trivial | omega) (Eq.trans (if_pos h522c) rfl)
-- WorkMeterModel.switches
noncomputable def f222_1 (m : zM) : zM :=
  zn (if (m 4 45 11) = 1 then
  (if (m 4 45 10) ≤ 0 then
  (1)
  else
  (0))
  else
  (0)) fun v506 =>
  if (m 4 45 12) = v506 then
  (m)
  else
  (zs (z_upd m 4 45 12 v506) fun m514 =>
  zn (if v506 = 1 then
  (22)
  else
  (23)) fun v517 =>
  zs (f223_1 v517 0 m514) fun m522 =>
  m522)
-- WorkMeterModel.switches
theorem c222_1 {s : Nat × (Nat → Int32)} {S : zS} {m0 m : zM} {B : Int} {d : Nat} {Q : Option zV → zM → Prop} (hd : 14 ≤ d) (hJ : J S m0 B m) (hB : B + 1 ≤ 1000000000) (hf26 : ¬ S.1 26) (hf32 : ¬ S.1 32) (hg4 : ¬ S.2.1 4) (hQ : ∀ m', f222_1 m = m' → J S m0 (B + 1) m' → Q none m') : X (EE s) d 222 0 [(0, zr 4 44)] [] m Q := by
  refine X.aload_n 1 i222_0 rfl rfl rfl ?_
  refine X.getF 4 i222_1 rfl rfl (by decide) rfl rfl ?_
  refine X.bipush 6 i222_4 rfl rfl (by decide) ?_
  refine X.lald 7 i222_6 rfl rfl (by decide) rfl (by omega) ?_
  have h501 := r45_11 hJ 4
  refine X.lconst (y := 1) 8 i222_7 rfl rfl rfl ?_
  refine X.lcmp 9 i222_8 rfl rfl (fun z502 hz502 => ?_)
  have hK509 : ∀ (v : Int) , (0 ≤ v ∧ v ≤ 1) → (if (m 4 45 11) = 1 then
      (if (m 4 45 10) ≤ 0 then
      (1)
      else
      (0))
      else
      (0)) = v → X (EE s) d 222 29 [(0, zr 4 44)] [zi v] m Q := by
    intro v506 hv506 hT510
    refine X.istore_n 30 [(0, zr 4 44), (1, zi v506)] i222_29 rfl rfl rfl ?_
    refine X.aload_n 31 i222_30 rfl rfl rfl ?_
    refine X.getF 34 i222_31 rfl rfl (by decide) rfl rfl ?_
    refine X.bipush 36 i222_34 rfl rfl (by decide) ?_
    refine X.lald 37 i222_36 rfl rfl (by decide) rfl (by omega) ?_
    have h511 := r45_12 hJ 4
    refine X.iload_n 38 i222_37 rfl rfl rfl ?_
    refine X.i2l 39 i222_38 rfl rfl ?_
    refine X.lcmp 40 i222_39 rfl rfl (fun z512 hz512 => ?_)
    refine X.ifne 44 43 i222_40 rfl rfl rfl (fun h513 => ?_) (fun h513 => ?_)
    · have h513c : ¬ (m 4 45 12) = v506 := by omega
      clear h513 hz512
      refine X.aload_n 45 i222_44 rfl rfl rfl ?_
      refine X.getF 48 i222_45 rfl rfl (by decide) rfl rfl ?_
      refine X.bipush 50 i222_48 rfl rfl (by decide) ?_
      refine X.iload_n 51 i222_50 rfl rfl rfl ?_
      refine X.i2l 52 i222_51 rfl rfl ?_
      refine X.last' 53 i222_52 rfl rfl (by decide) rfl (by omega) (fun hrm514 m514 hm514 => ?_)
      have hJ515 := w45_12 hJ hm514 (by omega) hf32 hg4
      refine X.aload_n 54 i222_53 rfl rfl rfl ?_
      refine X.iload_n 55 i222_54 rfl rfl rfl ?_
      refine X.iconst 56 i222_55 rfl rfl (by decide) ?_
      have hK520 : ∀ (v : Int) , (22 ≤ v ∧ v ≤ 23) → (if v506 = 1 then
          (22)
          else
          (23)) = v → X (EE s) d 222 66 [] [zi v, zr 4 44] m514 Q := by
        intro v517 hv517 hT521
        refine X.lconst (y := 0) 67 i222_66 rfl rfl rfl ?_
        refine X.callv 70 [zi v517, zl 0] [] [(0, zr 4 44), (1, zi v517), (2, zl 0)] i222_67 rfl (by decide) rfl rfl (by omega) rfl rfl (by decide) rfl t223 (Nat.le_of_ble_eq_true rfl) (Nat.le_of_ble_eq_true rfl) rfl ?_
        refine c223_1 (B := B)  v517 0 (by omega) (hJ515.up (by omega)) (by omega) (by omega) hf26 hg4 (fun m522 hFv524 hJ523 => ?_)
        show X (EE s) d 222 70 [] [] m522 _
        refine X.retv i222_70 rfl t222 ?_
        exact hQ  m522  (Eq.trans (zn_eq hT510.symm) (Eq.trans (if_neg h513c) (Eq.trans (zs_eq hm514) (Eq.trans (zn_eq hT521.symm) (Eq.trans (zs_eq hFv524.symm) rfl))))) (hJ523.up (by omega)) 
      refine X.icmpne 64 59 i222_56 rfl rfl rfl (fun h516 => ?_) (fun h516 => ?_)
      · refine X.cut [] i222_64 rfl ?_
        refine X.bipush 66 i222_64 rfl rfl (by decide) ?_
        exact hK520 23 (by first | trivial | omega) (Eq.trans (if_neg h516) rfl)
      · refine X.bipush 61 i222_59 rfl rfl (by decide) ?_
        refine X.goto 66 i222_61 rfl rfl ?_
        refine X.cut [] i222_66 rfl ?_
        exact hK520 22 (by first | trivial | omega) (Eq.trans (if_pos h516) rfl)
    · have h513c : (m 4 45 12) = v506 := by omega
      clear h513 hz512
      refine X.retv i222_43 rfl t222 ?_
      exact hQ  m  (Eq.trans (zn_eq hT510.symm) (Eq.trans (if_pos h513c) rfl)) (hJ.up (by omega)) 
  refine X.ifne 28 12 i222_9 rfl rfl rfl (fun h503 => ?_) (fun h503 => ?_)
  · have h503c : ¬ (m 4 45 11) = 1 := by omega
    clear h503 hz502
    refine X.iconst 29 i222_28 rfl rfl (by decide) ?_
    exact hK509 0 (by first | trivial | omega) (Eq.trans (if_neg h503c) rfl)
  · have h503c : (m 4 45 11) = 1 := by omega
    clear h503 hz502
    refine X.aload_n 13 i222_12 rfl rfl rfl ?_
    refine X.getF 16 i222_13 rfl rfl (by decide) rfl rfl ?_
    refine X.bipush 18 i222_16 rfl rfl (by decide) ?_
    refine X.lald 19 i222_18 rfl rfl (by decide) rfl (by omega) ?_
    refine X.lconst (y := 0) 20 i222_19 rfl rfl rfl ?_
    refine X.lcmp 21 i222_20 rfl rfl (fun z504 hz504 => ?_)
    refine X.ifgt 28 24 i222_21 rfl rfl rfl (fun h505 => ?_) (fun h505 => ?_)
    · have h505c : ¬ (m 4 45 10) ≤ 0 := by omega
      clear h505 hz504
      refine X.iconst 29 i222_28 rfl rfl (by decide) ?_
      exact hK509 0 (by first | trivial | omega) (Eq.trans (if_pos h503c) (Eq.trans (if_neg h505c) rfl))
    · have h505c : (m 4 45 10) ≤ 0 := by omega
      clear h505 hz504
      refine X.iconst 25 i222_24 rfl rfl (by decide) ?_
      refine X.goto 29 i222_25 rfl rfl ?_
      exact hK509 1 (by first | trivial | omega) (Eq.trans (if_pos h503c) (Eq.trans (if_pos h505c) rfl))
noncomputable def fl227_2_1_b (self : Int → Int) (k35 : Int → Int) (k43 : Int) (m : zM) (y1 : Int) : Int :=
  if (m 4 45 1) ≤ y1 then
  (k43)
  else
  (zn (f213_1 143 y1 m) fun v518 =>
  if v518 ≤ 0 then
  (self (y1 + 1))
  else
  (zn (f213_1 95 y1 m) fun v523 =>
  if v523 = 0 then
  (k35 y1)
  else
  (self (y1 + 1))))
noncomputable def fl227_2_1 (k35 : Int → Int) (k43 : Int) (m : zM) : Nat → Int → Int
  | 0 => fun y1 => 0
  | n + 1 => fl227_2_1_b (fl227_2_1 k35 k43 m n) k35 k43 m
theorem l227_2_1 {s : Nat × (Nat → Int32)} {S : zS} {m0 : zM} {m : zM} {B : Int} {d : Nat} {Q : Option zV → zM → Prop} {R0 : Int} {k35 : Int → Int} {k43 : Int} (hd : 14 ≤ d) (hJ : J S m0 B m) (hB9 : B ≤ 1000000000)
    (K35 : ∀ (x1 : Int) , (0 ≤ x1 ∧ x1 ≤ 2) → R0 = k35 x1 → X (EE s) d 227 35 [(0, zr 4 44), (1, zi x1)] [] m Q)
    (K43 : R0 = k43 → X (EE s) d 227 43 [] [] m Q) :
    ∀ (n : Nat) (y1 : Int) , (0 ≤ y1 ∧ y1 ≤ 3) → 3 - y1 < (n : Int) → R0 = fl227_2_1 k35 k43 m n y1 → X (EE s) d 227 2 [(0, zr 4 44), (1, zi y1)] [] m Q := by
  intro n
  induction n with
  | zero =>
    intro y1 hy1 hn hR
    exfalso
    omega
  | succ n ih =>
    intro y1 hy1 hn hR
    replace hR : R0 = fl227_2_1_b (fl227_2_1 k35 k43 m n) k35 k43 m y1 := hR
    refine X.iload_n 3 i227_2 rfl rfl rfl ?_
    refine X.aload_n 4 i227_3 rfl rfl rfl ?_
    refine X.callv 7 [] [zi y1] [(0, zr 4 44)] i227_4 rfl (by decide) rfl rfl (by omega) rfl rfl (by decide) rfl t206 (Nat.le_of_ble_eq_true rfl) (Nat.le_of_ble_eq_true rfl) rfl ?_
    refine X.aload_n 1 i206_0 rfl rfl rfl ?_
    refine X.getF 4 i206_1 rfl rfl (by decide) rfl rfl ?_
    refine X.iconst 5 i206_4 rfl rfl (by decide) ?_
    refine X.lald 6 i206_5 rfl rfl (by decide) rfl (by omega) ?_
    have h514 := r45_1 hJ 4
    refine X.l2i 7 i206_6 rfl rfl (by omega) ?_
    refine X.reti i206_7 rfl t206 ?_
    show X (EE s) d 227 7 [(0, zr 4 44), (1, zi y1)] [zi (m 4 45 1), zi y1] m _
    refine X.icmpge 43 10 i227_7 rfl rfl rfl (fun h515 => ?_) (fun h515 => ?_)
    · refine X.cut [] i227_43 rfl ?_
      exact K43   (Eq.trans hR (Eq.trans (if_pos h515) rfl))
    · refine X.aload_n 11 i227_10 rfl rfl rfl ?_
      refine X.sipush 14 i227_11 rfl rfl (by decide) ?_
      refine X.iload_n 15 i227_14 rfl rfl rfl ?_
      refine X.callv 18 [zi 143, zi y1] [] [(0, zr 4 44), (1, zi 143), (2, zi y1)] i227_15 rfl (by decide) rfl rfl (by omega) rfl rfl (by decide) rfl t213 (Nat.le_of_ble_eq_true rfl) (Nat.le_of_ble_eq_true rfl) rfl ?_
      refine c213_1 (B := B)  143 y1 (by omega) (hJ.up (by omega)) (by omega) (by omega) (by omega) (fun v518 hv518 hFv518 => ?_)
      show X (EE s) d 227 18 [(0, zr 4 44), (1, zi y1)] [zl v518] m _
      refine X.lconst (y := 0) 19 i227_18 rfl rfl rfl ?_
      refine X.lcmp 20 i227_19 rfl rfl (fun z519 hz519 => ?_)
      refine X.ifle 37 23 i227_20 rfl rfl rfl (fun h520 => ?_) (fun h520 => ?_)
      · have h520c : v518 ≤ 0 := by omega
        clear h520 hz519
        refine X.iinc 40 [(0, zr 4 44), (1, zi (y1 + 1))] i227_37 rfl rfl rfl (by omega) rfl ?_
        refine X.goto 2 i227_40 rfl rfl ?_
        exact ih (y1 + 1) (by omega) (by omega) (Eq.trans hR (Eq.trans (if_neg h515) (Eq.trans (zn_eq hFv518.symm) (Eq.trans (if_pos h520c) rfl))))
      · have h520c : ¬ v518 ≤ 0 := by omega
        clear h520 hz519
        refine X.aload_n 24 i227_23 rfl rfl rfl ?_
        refine X.bipush 26 i227_24 rfl rfl (by decide) ?_
        refine X.iload_n 27 i227_26 rfl rfl rfl ?_
        refine X.callv 30 [zi 95, zi y1] [] [(0, zr 4 44), (1, zi 95), (2, zi y1)] i227_27 rfl (by decide) rfl rfl (by omega) rfl rfl (by decide) rfl t213 (Nat.le_of_ble_eq_true rfl) (Nat.le_of_ble_eq_true rfl) rfl ?_
        refine c213_1 (B := B)  95 y1 (by omega) (hJ.up (by omega)) (by omega) (by omega) (by omega) (fun v523 hv523 hFv523 => ?_)
        show X (EE s) d 227 30 [(0, zr 4 44), (1, zi y1)] [zl v523] m _
        refine X.lconst (y := 0) 31 i227_30 rfl rfl rfl ?_
        refine X.lcmp 32 i227_31 rfl rfl (fun z524 hz524 => ?_)
        refine X.ifne 37 35 i227_32 rfl rfl rfl (fun h525 => ?_) (fun h525 => ?_)
        · have h525c : ¬ v523 = 0 := by omega
          clear h525 hz524
          refine X.iinc 40 [(0, zr 4 44), (1, zi (y1 + 1))] i227_37 rfl rfl rfl (by omega) rfl ?_
          refine X.goto 2 i227_40 rfl rfl ?_
          exact ih (y1 + 1) (by omega) (by omega) (Eq.trans hR (Eq.trans (if_neg h515) (Eq.trans (zn_eq hFv518.symm) (Eq.trans (if_neg h520c) (Eq.trans (zn_eq hFv523.symm) (Eq.trans (if_neg h525c) rfl))))))
        · have h525c : v523 = 0 := by omega
          clear h525 hz524
          exact K35 y1 (by first | trivial | omega) (Eq.trans hR (Eq.trans (if_neg h515) (Eq.trans (zn_eq hFv518.symm) (Eq.trans (if_neg h520c) (Eq.trans (zn_eq hFv523.symm) (Eq.trans (if_pos h525c) rfl))))))
-- WorkMeterModel.isStrange
noncomputable def f227_1 (m : zM) : Int :=
  fl227_2_1 (fun y501 =>
  1) (0) m (zfu 4) 0
-- WorkMeterModel.isStrange
theorem c227_1 {s : Nat × (Nat → Int32)} {S : zS} {m0 m : zM} {B : Int} {d : Nat} {Q : Option zV → zM → Prop} (hd : 14 ≤ d) (hJ : J S m0 B m) (hB : B + 0 ≤ 1000000000) (hQ : ∀ (v : Int), (0 ≤ v ∧ v ≤ 1) → f227_1 m = v → Q (some (zi v)) m) : X (EE s) d 227 0 [(0, zr 4 44)] [] m Q := by
  refine X.iconst 1 i227_0 rfl rfl (by decide) ?_
  refine X.istore_n 2 [(0, zr 4 44), (1, zi 0)] i227_1 rfl rfl rfl ?_
  have hz4 := zfu_eq 4
  refine l227_2_1 (s := s) (m := m) (B := B) (d := d) (R0 := (f227_1 m))    (by omega) (hJ.up (by omega)) (by omega) (fun y501 hby501 hR505 => ?_) (fun  hR509 => ?_) (zfu 4) 0 (by omega) (by omega) rfl
  · refine X.iconst 36 i227_35 rfl rfl (by decide) ?_
    refine X.retz i227_36 rfl t227 (by omega) ?_
    exact hQ 1 (by first | trivial | omega) (Eq.trans hR505 rfl) 
  · refine X.iconst 44 i227_43 rfl rfl (by decide) ?_
    refine X.retz i227_44 rfl t227 (by omega) ?_
    exact hQ 0 (by first | trivial | omega) (Eq.trans hR509 rfl) 
noncomputable def fl226_6_1_b (self : Int → Int → Int → Int) (k60 : Int → Int → Int) (m : zM) (y1 y2 y3 : Int) : Int :=
  if (m 4 45 1) ≤ y3 then
  (k60 y1 y2)
  else
  (zn (if y1 = 0 then
  (zn (f210_1 y3 m) fun v555 =>
  if v555 < 0 then
  (1)
  else
  (0))
  else
  (1)) fun v558 =>
  zn (if y2 = 0 then
  (zn (f210_1 y3 m) fun v566 =>
  if v566 ≤ 0 then
  (0)
  else
  (1))
  else
  (1)) fun v569 =>
  self v558 v569 (y3 + 1))
noncomputable def fl226_6_1 (k60 : Int → Int → Int) (m : zM) : Nat → Int → Int → Int → Int
  | 0 => fun y1 y2 y3 => 0
  | n + 1 => fl226_6_1_b (fl226_6_1 k60 m n) k60 m
theorem l226_6_1 {s : Nat × (Nat → Int32)} {S : zS} {m0 : zM} {m : zM} {B : Int} {d : Nat} {Q : Option zV → zM → Prop} {R0 : Int} {k60 : Int → Int → Int} (hd : 14 ≤ d) (hJ : J S m0 B m) (hB9 : B ≤ 1000000000)
    (K60 : ∀ (x1 x2 : Int) , (0 ≤ x1 ∧ x1 ≤ 1) → (0 ≤ x2 ∧ x2 ≤ 1) → R0 = k60 x1 x2 → X (EE s) d 226 60 [(1, zi x1), (2, zi x2)] [] m Q) :
    ∀ (n : Nat) (y1 y2 y3 : Int) , (0 ≤ y1 ∧ y1 ≤ 1) → (0 ≤ y2 ∧ y2 ≤ 1) → (0 ≤ y3 ∧ y3 ≤ 3) → 3 - y3 < (n : Int) → R0 = fl226_6_1 k60 m n y1 y2 y3 → X (EE s) d 226 6 [(0, zr 4 44), (1, zi y1), (2, zi y2), (3, zi y3)] [] m Q := by
  intro n
  induction n with
  | zero =>
    intro y1 y2 y3 hy1 hy2 hy3 hn hR
    exfalso
    omega
  | succ n ih =>
    intro y1 y2 y3 hy1 hy2 hy3 hn hR
    replace hR : R0 = fl226_6_1_b (fl226_6_1 k60 m n) k60 m y1 y2 y3 := hR
    refine X.iload_n 7 i226_6 rfl rfl rfl ?_
    refine X.aload_n 8 i226_7 rfl rfl rfl ?_
    refine X.callv 11 [] [zi y3] [(0, zr 4 44)] i226_8 rfl (by decide) rfl rfl (by omega) rfl rfl (by decide) rfl t206 (Nat.le_of_ble_eq_true rfl) (Nat.le_of_ble_eq_true rfl) rfl ?_
    refine X.aload_n 1 i206_0 rfl rfl rfl ?_
    refine X.getF 4 i206_1 rfl rfl (by decide) rfl rfl ?_
    refine X.iconst 5 i206_4 rfl rfl (by decide) ?_
    refine X.lald 6 i206_5 rfl rfl (by decide) rfl (by omega) ?_
    have h550 := r45_1 hJ 4
    refine X.l2i 7 i206_6 rfl rfl (by omega) ?_
    refine X.reti i206_7 rfl t206 ?_
    show X (EE s) d 226 11 [(0, zr 4 44), (1, zi y1), (2, zi y2), (3, zi y3)] [zi (m 4 45 1), zi y3] m _
    refine X.icmpge 60 14 i226_11 rfl rfl rfl (fun h551 => ?_) (fun h551 => ?_)
    · refine X.cut [(1, zi y1), (2, zi y2)] i226_60 rfl ?_
      exact K60 y1 y2 (by first | trivial | omega) (by first | trivial | omega) (Eq.trans hR (Eq.trans (if_pos h551) rfl))
    · refine X.iload_n 15 i226_14 rfl rfl rfl ?_
      have hK561 : ∀ (v : Int) , (0 ≤ v ∧ v ≤ 1) → (if y1 = 0 then
          (zn (f210_1 y3 m) fun v555 =>
          if v555 < 0 then
          (1)
          else
          (0))
          else
          (1)) = v → X (EE s) d 226 33 [(0, zr 4 44), (2, zi y2), (3, zi y3)] [zi v] m Q := by
        intro v558 hv558 hT562
        refine X.istore_n 34 [(0, zr 4 44), (1, zi v558), (2, zi y2), (3, zi y3)] i226_33 rfl rfl rfl ?_
        refine X.iload_n 35 i226_34 rfl rfl rfl ?_
        have hK572 : ∀ (v : Int) , (0 ≤ v ∧ v ≤ 1) → (if y2 = 0 then
            (zn (f210_1 y3 m) fun v566 =>
            if v566 ≤ 0 then
            (0)
            else
            (1))
            else
            (1)) = v → X (EE s) d 226 53 [(0, zr 4 44), (1, zi v558), (3, zi y3)] [zi v] m Q := by
          intro v569 hv569 hT573
          refine X.istore_n 54 [(0, zr 4 44), (1, zi v558), (2, zi v569), (3, zi y3)] i226_53 rfl rfl rfl ?_
          refine X.iinc 57 [(0, zr 4 44), (1, zi v558), (2, zi v569), (3, zi (y3 + 1))] i226_54 rfl rfl rfl (by omega) rfl ?_
          refine X.goto 6 i226_57 rfl rfl ?_
          exact ih v558 v569 (y3 + 1) (by omega) (by omega) (by omega) (by omega) (Eq.trans hR (Eq.trans (if_neg h551) (Eq.trans (zn_eq hT562.symm) (Eq.trans (zn_eq hT573.symm) rfl))))
        refine X.ifne 48 38 i226_35 rfl rfl rfl (fun h563 => ?_) (fun h563 => ?_)
        · refine X.cut [(0, zr 4 44), (1, zi v558), (3, zi y3)] i226_48 rfl ?_
          refine X.iconst 49 i226_48 rfl rfl (by decide) ?_
          refine X.goto 53 i226_49 rfl rfl ?_
          exact hK572 1 (by first | trivial | omega) (Eq.trans (if_neg h563) rfl)
        · refine X.aload_n 39 i226_38 rfl rfl rfl ?_
          refine X.iload_n 40 i226_39 rfl rfl rfl ?_
          refine X.callv 43 [zi y3] [] [(0, zr 4 44), (1, zi y3)] i226_40 rfl (by decide) rfl rfl (by omega) rfl rfl (by decide) rfl t210 (Nat.le_of_ble_eq_true rfl) (Nat.le_of_ble_eq_true rfl) rfl ?_
          refine c210_1 (B := B)  y3 (by omega) (hJ.up (by omega)) (by omega) (by omega) (fun v566 hv566 hFv566 => ?_)
          show X (EE s) d 226 43 [(0, zr 4 44), (1, zi v558), (2, zi y2), (3, zi y3)] [zl v566] m _
          refine X.lconst (y := 0) 44 i226_43 rfl rfl rfl ?_
          refine X.lcmp 45 i226_44 rfl rfl (fun z567 hz567 => ?_)
          refine X.ifle 52 48 i226_45 rfl rfl rfl (fun h568 => ?_) (fun h568 => ?_)
          · have h568c : v566 ≤ 0 := by omega
            clear h568 hz567
            refine X.cut [(0, zr 4 44), (1, zi v558), (3, zi y3)] i226_52 rfl ?_
            refine X.iconst 53 i226_52 rfl rfl (by decide) ?_
            exact hK572 0 (by first | trivial | omega) (Eq.trans (if_pos h563) (Eq.trans (zn_eq hFv566.symm) (Eq.trans (if_pos h568c) rfl)))
          · have h568c : ¬ v566 ≤ 0 := by omega
            clear h568 hz567
            refine X.cut [(0, zr 4 44), (1, zi v558), (3, zi y3)] i226_48 rfl ?_
            refine X.iconst 49 i226_48 rfl rfl (by decide) ?_
            refine X.goto 53 i226_49 rfl rfl ?_
            exact hK572 1 (by first | trivial | omega) (Eq.trans (if_pos h563) (Eq.trans (zn_eq hFv566.symm) (Eq.trans (if_neg h568c) rfl)))
      refine X.ifne 28 18 i226_15 rfl rfl rfl (fun h552 => ?_) (fun h552 => ?_)
      · refine X.cut [(0, zr 4 44), (2, zi y2), (3, zi y3)] i226_28 rfl ?_
        refine X.iconst 29 i226_28 rfl rfl (by decide) ?_
        refine X.goto 33 i226_29 rfl rfl ?_
        exact hK561 1 (by first | trivial | omega) (Eq.trans (if_neg h552) rfl)
      · refine X.aload_n 19 i226_18 rfl rfl rfl ?_
        refine X.iload_n 20 i226_19 rfl rfl rfl ?_
        refine X.callv 23 [zi y3] [] [(0, zr 4 44), (1, zi y3)] i226_20 rfl (by decide) rfl rfl (by omega) rfl rfl (by decide) rfl t210 (Nat.le_of_ble_eq_true rfl) (Nat.le_of_ble_eq_true rfl) rfl ?_
        refine c210_1 (B := B)  y3 (by omega) (hJ.up (by omega)) (by omega) (by omega) (fun v555 hv555 hFv555 => ?_)
        show X (EE s) d 226 23 [(0, zr 4 44), (1, zi y1), (2, zi y2), (3, zi y3)] [zl v555] m _
        refine X.lconst (y := 0) 24 i226_23 rfl rfl rfl ?_
        refine X.lcmp 25 i226_24 rfl rfl (fun z556 hz556 => ?_)
        refine X.ifge 32 28 i226_25 rfl rfl rfl (fun h557 => ?_) (fun h557 => ?_)
        · have h557c : ¬ v555 < 0 := by omega
          clear h557 hz556
          refine X.cut [(0, zr 4 44), (2, zi y2), (3, zi y3)] i226_32 rfl ?_
          refine X.iconst 33 i226_32 rfl rfl (by decide) ?_
          exact hK561 0 (by first | trivial | omega) (Eq.trans (if_pos h552) (Eq.trans (zn_eq hFv555.symm) (Eq.trans (if_neg h557c) rfl)))
        · have h557c : v555 < 0 := by omega
          clear h557 hz556
          refine X.cut [(0, zr 4 44), (2, zi y2), (3, zi y3)] i226_28 rfl ?_
          refine X.iconst 29 i226_28 rfl rfl (by decide) ?_
          refine X.goto 33 i226_29 rfl rfl ?_
          exact hK561 1 (by first | trivial | omega) (Eq.trans (if_pos h552) (Eq.trans (zn_eq hFv555.symm) (Eq.trans (if_pos h557c) rfl)))
-- WorkMeterModel.isReversed
noncomputable def f226_1 (m : zM) : Int :=
  fl226_6_1 (fun y501 y502 =>
  zn (if y501 = 0 then
  (0)
  else
  (if y502 = 0 then
  (0)
  else
  (1))) fun v509 =>
  v509) m (zfu 4) 0 0 0
-- WorkMeterModel.isReversed
theorem c226_1 {s : Nat × (Nat → Int32)} {S : zS} {m0 m : zM} {B : Int} {d : Nat} {Q : Option zV → zM → Prop} (hd : 14 ≤ d) (hJ : J S m0 B m) (hB : B + 0 ≤ 1000000000) (hQ : ∀ (v : Int), (0 ≤ v ∧ v ≤ 1) → f226_1 m = v → Q (some (zi v)) m) : X (EE s) d 226 0 [(0, zr 4 44)] [] m Q := by
  refine X.iconst 1 i226_0 rfl rfl (by decide) ?_
  refine X.istore_n 2 [(0, zr 4 44), (1, zi 0)] i226_1 rfl rfl rfl ?_
  refine X.iconst 3 i226_2 rfl rfl (by decide) ?_
  refine X.istore_n 4 [(0, zr 4 44), (1, zi 0), (2, zi 0)] i226_3 rfl rfl rfl ?_
  refine X.iconst 5 i226_4 rfl rfl (by decide) ?_
  refine X.istore_n 6 [(0, zr 4 44), (1, zi 0), (2, zi 0), (3, zi 0)] i226_5 rfl rfl rfl ?_
  have hz4 := zfu_eq 4
  refine l226_6_1 (s := s) (m := m) (B := B) (d := d) (R0 := (f226_1 m))    (by omega) (hJ.up (by omega)) (by omega) (fun y501 y502 hby501 hby502 hR506 => ?_) (zfu 4) 0 0 0 (by omega) (by omega) (by omega) (by omega) rfl
  refine X.iload_n 61 i226_60 rfl rfl rfl ?_
  have hK512 : ∀ (v : Int) , (0 ≤ v ∧ v ≤ 1) → (if y501 = 0 then
      (0)
      else
      (if y502 = 0 then
      (0)
      else
      (1))) = v → X (EE s) d 226 73 [] [zi v] m Q := by
    intro v509 hv509 hT513
    refine X.retz i226_73 rfl t226 (by omega) ?_
    exact hQ v509 (by first | trivial | omega) (Eq.trans hR506 (Eq.trans (zn_eq hT513.symm) rfl)) 
  refine X.ifeq 72 64 i226_61 rfl rfl rfl (fun h507 => ?_) (fun h507 => ?_)
  · refine X.cut [] i226_72 rfl ?_
    refine X.iconst 73 i226_72 rfl rfl (by decide) ?_
    exact hK512 0 (by first | trivial | omega) (Eq.trans (if_pos h507) rfl)
  · refine X.iload_n 65 i226_64 rfl rfl rfl ?_
    refine X.ifeq 72 68 i226_65 rfl rfl rfl (fun h508 => ?_) (fun h508 => ?_)
    · refine X.cut [] i226_72 rfl ?_
      refine X.iconst 73 i226_72 rfl rfl (by decide) ?_
      exact hK512 0 (by first | trivial | omega) (Eq.trans (if_neg h507) (Eq.trans (if_pos h508) rfl))
    · refine X.iconst 69 i226_68 rfl rfl (by decide) ?_
      refine X.goto 73 i226_69 rfl rfl ?_
      refine X.cut [] i226_73 rfl ?_
      exact hK512 1 (by first | trivial | omega) (Eq.trans (if_neg h507) (Eq.trans (if_neg h508) rfl))
noncomputable def fl225_6_1_b (self : Int → Int → Int → Int) (k82 : Int → Int → Int) (m : zM) (y1 y2 y3 : Int) : Int :=
  if (m 4 45 1) ≤ y3 then
  (k82 y1 y2)
  else
  (zn (f213_1 95 y3 m) fun v564 =>
  zn (((m 4 45 2) * (m 4 45 6))) fun z567 =>
  zn (if v564 < z567 then
  (1)
  else
  (0)) fun v570 =>
  zn (if y1 = 0 then
  (if v570 = 0 then
  (0)
  else
  (1))
  else
  (1)) fun v577 =>
  zn (if y2 = 0 then
  (if v570 = 0 then
  (1)
  else
  (0))
  else
  (1)) fun v584 =>
  self v577 v584 (y3 + 1))
noncomputable def fl225_6_1 (k82 : Int → Int → Int) (m : zM) : Nat → Int → Int → Int → Int
  | 0 => fun y1 y2 y3 => 0
  | n + 1 => fl225_6_1_b (fl225_6_1 k82 m n) k82 m
theorem l225_6_1 {s : Nat × (Nat → Int32)} {S : zS} {m0 : zM} {m : zM} {B : Int} {d : Nat} {Q : Option zV → zM → Prop} {R0 : Int} {k82 : Int → Int → Int} (hd : 14 ≤ d) (hJ : J S m0 B m) (hB9 : B ≤ 1000000000)
    (K82 : ∀ (x1 x2 : Int) , (0 ≤ x1 ∧ x1 ≤ 1) → (0 ≤ x2 ∧ x2 ≤ 1) → R0 = k82 x1 x2 → X (EE s) d 225 82 [(1, zi x1), (2, zi x2)] [] m Q) :
    ∀ (n : Nat) (y1 y2 y3 : Int) , (0 ≤ y1 ∧ y1 ≤ 1) → (0 ≤ y2 ∧ y2 ≤ 1) → (0 ≤ y3 ∧ y3 ≤ 3) → 3 - y3 < (n : Int) → R0 = fl225_6_1 k82 m n y1 y2 y3 → X (EE s) d 225 6 [(0, zr 4 44), (1, zi y1), (2, zi y2), (3, zi y3)] [] m Q := by
  intro n
  induction n with
  | zero =>
    intro y1 y2 y3 hy1 hy2 hy3 hn hR
    exfalso
    omega
  | succ n ih =>
    intro y1 y2 y3 hy1 hy2 hy3 hn hR
    replace hR : R0 = fl225_6_1_b (fl225_6_1 k82 m n) k82 m y1 y2 y3 := hR
    refine X.iload_n 7 i225_6 rfl rfl rfl ?_
    refine X.aload_n 8 i225_7 rfl rfl rfl ?_
    refine X.callv 11 [] [zi y3] [(0, zr 4 44)] i225_8 rfl (by decide) rfl rfl (by omega) rfl rfl (by decide) rfl t206 (Nat.le_of_ble_eq_true rfl) (Nat.le_of_ble_eq_true rfl) rfl ?_
    refine X.aload_n 1 i206_0 rfl rfl rfl ?_
    refine X.getF 4 i206_1 rfl rfl (by decide) rfl rfl ?_
    refine X.iconst 5 i206_4 rfl rfl (by decide) ?_
    refine X.lald 6 i206_5 rfl rfl (by decide) rfl (by omega) ?_
    have h560 := r45_1 hJ 4
    refine X.l2i 7 i206_6 rfl rfl (by omega) ?_
    refine X.reti i206_7 rfl t206 ?_
    show X (EE s) d 225 11 [(0, zr 4 44), (1, zi y1), (2, zi y2), (3, zi y3)] [zi (m 4 45 1), zi y3] m _
    refine X.icmpge 82 14 i225_11 rfl rfl rfl (fun h561 => ?_) (fun h561 => ?_)
    · refine X.cut [(1, zi y1), (2, zi y2)] i225_82 rfl ?_
      exact K82 y1 y2 (by first | trivial | omega) (by first | trivial | omega) (Eq.trans hR (Eq.trans (if_pos h561) rfl))
    · refine X.aload_n 15 i225_14 rfl rfl rfl ?_
      refine X.bipush 17 i225_15 rfl rfl (by decide) ?_
      refine X.iload_n 18 i225_17 rfl rfl rfl ?_
      refine X.callv 21 [zi 95, zi y3] [] [(0, zr 4 44), (1, zi 95), (2, zi y3)] i225_18 rfl (by decide) rfl rfl (by omega) rfl rfl (by decide) rfl t213 (Nat.le_of_ble_eq_true rfl) (Nat.le_of_ble_eq_true rfl) rfl ?_
      refine c213_1 (B := B)  95 y3 (by omega) (hJ.up (by omega)) (by omega) (by omega) (by omega) (fun v564 hv564 hFv564 => ?_)
      show X (EE s) d 225 21 [(0, zr 4 44), (1, zi y1), (2, zi y2), (3, zi y3)] [zl v564] m _
      refine X.aload_n 22 i225_21 rfl rfl rfl ?_
      refine X.getF 25 i225_22 rfl rfl (by decide) rfl rfl ?_
      refine X.iconst 26 i225_25 rfl rfl (by decide) ?_
      refine X.lald 27 i225_26 rfl rfl (by decide) rfl (by omega) ?_
      have h565 := r45_2 hJ 4
      refine X.aload_n 28 i225_27 rfl rfl rfl ?_
      refine X.getF 31 i225_28 rfl rfl (by decide) rfl rfl ?_
      refine X.bipush 33 i225_31 rfl rfl (by decide) ?_
      refine X.lald 34 i225_33 rfl rfl (by decide) rfl (by omega) ?_
      have h566 := r45_6 hJ 4
      have hz567 := z_mulr (a := 4) (b := 16) (c := 0) (e := 250000) (x := (m 4 45 2)) (y := (m 4 45 6)) (by omega) (by omega)
      refine X.lmul 35 i225_34 rfl rfl (z_in3 hz567 (by decide) (by decide)) ?_
      obtain ⟨z567, ez567⟩ : ∃ z, z = ((m 4 45 2) * (m 4 45 6)) := ⟨_, rfl⟩
      rw [← ez567] at hz567 ⊢
      have gz567 : 0 ≤ z567 ∧ z567 ≤ 4000000 := z_in3 hz567 (by decide) (by decide)
      clear hz567
      refine X.lcmp 36 i225_35 rfl rfl (fun z568 hz568 => ?_)
      have hK573 : ∀ (v : Int) , (0 ≤ v ∧ v ≤ 1) → (if v564 < z567 then
          (1)
          else
          (0)) = v → X (EE s) d 225 44 [(0, zr 4 44), (1, zi y1), (2, zi y2), (3, zi y3)] [zi v] m Q := by
        intro v570 hv570 hT574
        refine X.istore 46 [(0, zr 4 44), (1, zi y1), (2, zi y2), (3, zi y3), (4, zi v570)] i225_44 rfl rfl rfl ?_
        refine X.iload_n 47 i225_46 rfl rfl rfl ?_
        have hK580 : ∀ (v : Int) , (0 ≤ v ∧ v ≤ 1) → (if y1 = 0 then
            (if v570 = 0 then
            (0)
            else
            (1))
            else
            (1)) = v → X (EE s) d 225 60 [(0, zr 4 44), (2, zi y2), (3, zi y3), (4, zi v570)] [zi v] m Q := by
          intro v577 hv577 hT581
          refine X.istore_n 61 [(0, zr 4 44), (1, zi v577), (2, zi y2), (3, zi y3), (4, zi v570)] i225_60 rfl rfl rfl ?_
          refine X.iload_n 62 i225_61 rfl rfl rfl ?_
          have hK587 : ∀ (v : Int) , (0 ≤ v ∧ v ≤ 1) → (if y2 = 0 then
              (if v570 = 0 then
              (1)
              else
              (0))
              else
              (1)) = v → X (EE s) d 225 75 [(0, zr 4 44), (1, zi v577), (3, zi y3)] [zi v] m Q := by
            intro v584 hv584 hT588
            refine X.istore_n 76 [(0, zr 4 44), (1, zi v577), (2, zi v584), (3, zi y3)] i225_75 rfl rfl rfl ?_
            refine X.iinc 79 [(0, zr 4 44), (1, zi v577), (2, zi v584), (3, zi (y3 + 1))] i225_76 rfl rfl rfl (by omega) rfl ?_
            refine X.goto 6 i225_79 rfl rfl ?_
            exact ih v577 v584 (y3 + 1) (by omega) (by omega) (by omega) (by omega) (Eq.trans hR (Eq.trans (if_neg h561) (Eq.trans (zn_eq hFv564.symm) (Eq.trans (zn_eq ez567) (Eq.trans (zn_eq hT574.symm) (Eq.trans (zn_eq hT581.symm) (Eq.trans (zn_eq hT588.symm) rfl)))))))
          refine X.ifne 70 65 i225_62 rfl rfl rfl (fun h582 => ?_) (fun h582 => ?_)
          · refine X.cut [(0, zr 4 44), (1, zi v577), (3, zi y3)] i225_70 rfl ?_
            refine X.iconst 71 i225_70 rfl rfl (by decide) ?_
            refine X.goto 75 i225_71 rfl rfl ?_
            exact hK587 1 (by first | trivial | omega) (Eq.trans (if_neg h582) rfl)
          · refine X.iload 67 i225_65 rfl rfl rfl ?_
            refine X.ifne 74 70 i225_67 rfl rfl rfl (fun h583 => ?_) (fun h583 => ?_)
            · refine X.cut [(0, zr 4 44), (1, zi v577), (3, zi y3)] i225_74 rfl ?_
              refine X.iconst 75 i225_74 rfl rfl (by decide) ?_
              exact hK587 0 (by first | trivial | omega) (Eq.trans (if_pos h582) (Eq.trans (if_neg h583) rfl))
            · refine X.cut [(0, zr 4 44), (1, zi v577), (3, zi y3)] i225_70 rfl ?_
              refine X.iconst 71 i225_70 rfl rfl (by decide) ?_
              refine X.goto 75 i225_71 rfl rfl ?_
              exact hK587 1 (by first | trivial | omega) (Eq.trans (if_pos h582) (Eq.trans (if_pos h583) rfl))
        refine X.ifne 55 50 i225_47 rfl rfl rfl (fun h575 => ?_) (fun h575 => ?_)
        · refine X.cut [(0, zr 4 44), (2, zi y2), (3, zi y3), (4, zi v570)] i225_55 rfl ?_
          refine X.iconst 56 i225_55 rfl rfl (by decide) ?_
          refine X.goto 60 i225_56 rfl rfl ?_
          exact hK580 1 (by first | trivial | omega) (Eq.trans (if_neg h575) rfl)
        · refine X.iload 52 i225_50 rfl rfl rfl ?_
          refine X.ifeq 59 55 i225_52 rfl rfl rfl (fun h576 => ?_) (fun h576 => ?_)
          · refine X.cut [(0, zr 4 44), (2, zi y2), (3, zi y3), (4, zi v570)] i225_59 rfl ?_
            refine X.iconst 60 i225_59 rfl rfl (by decide) ?_
            exact hK580 0 (by first | trivial | omega) (Eq.trans (if_pos h575) (Eq.trans (if_pos h576) rfl))
          · refine X.cut [(0, zr 4 44), (2, zi y2), (3, zi y3), (4, zi v570)] i225_55 rfl ?_
            refine X.iconst 56 i225_55 rfl rfl (by decide) ?_
            refine X.goto 60 i225_56 rfl rfl ?_
            exact hK580 1 (by first | trivial | omega) (Eq.trans (if_pos h575) (Eq.trans (if_neg h576) rfl))
      refine X.ifge 43 39 i225_36 rfl rfl rfl (fun h569 => ?_) (fun h569 => ?_)
      · have h569c : ¬ v564 < z567 := by omega
        clear h569 hz568
        refine X.iconst 44 i225_43 rfl rfl (by decide) ?_
        exact hK573 0 (by first | trivial | omega) (Eq.trans (if_neg h569c) rfl)
      · have h569c : v564 < z567 := by omega
        clear h569 hz568
        refine X.iconst 40 i225_39 rfl rfl (by decide) ?_
        refine X.goto 44 i225_40 rfl rfl ?_
        exact hK573 1 (by first | trivial | omega) (Eq.trans (if_pos h569c) rfl)
-- WorkMeterModel.isMissing
noncomputable def f225_1 (m : zM) : Int :=
  fl225_6_1 (fun y501 y502 =>
  zn (if y501 = 0 then
  (0)
  else
  (if y502 = 0 then
  (0)
  else
  (1))) fun v509 =>
  v509) m (zfu 4) 0 0 0
-- WorkMeterModel.isMissing
theorem c225_1 {s : Nat × (Nat → Int32)} {S : zS} {m0 m : zM} {B : Int} {d : Nat} {Q : Option zV → zM → Prop} (hd : 14 ≤ d) (hJ : J S m0 B m) (hB : B + 0 ≤ 1000000000) (hQ : ∀ (v : Int), (0 ≤ v ∧ v ≤ 1) → f225_1 m = v → Q (some (zi v)) m) : X (EE s) d 225 0 [(0, zr 4 44)] [] m Q := by
  refine X.iconst 1 i225_0 rfl rfl (by decide) ?_
  refine X.istore_n 2 [(0, zr 4 44), (1, zi 0)] i225_1 rfl rfl rfl ?_
  refine X.iconst 3 i225_2 rfl rfl (by decide) ?_
  refine X.istore_n 4 [(0, zr 4 44), (1, zi 0), (2, zi 0)] i225_3 rfl rfl rfl ?_
  refine X.iconst 5 i225_4 rfl rfl (by decide) ?_
  refine X.istore_n 6 [(0, zr 4 44), (1, zi 0), (2, zi 0), (3, zi 0)] i225_5 rfl rfl rfl ?_
  have hz4 := zfu_eq 4
  refine l225_6_1 (s := s) (m := m) (B := B) (d := d) (R0 := (f225_1 m))    (by omega) (hJ.up (by omega)) (by omega) (fun y501 y502 hby501 hby502 hR506 => ?_) (zfu 4) 0 0 0 (by omega) (by omega) (by omega) (by omega) rfl
  refine X.iload_n 83 i225_82 rfl rfl rfl ?_
  have hK512 : ∀ (v : Int) , (0 ≤ v ∧ v ≤ 1) → (if y501 = 0 then
      (0)
      else
      (if y502 = 0 then
      (0)
      else
      (1))) = v → X (EE s) d 225 95 [] [zi v] m Q := by
    intro v509 hv509 hT513
    refine X.retz i225_95 rfl t225 (by omega) ?_
    exact hQ v509 (by first | trivial | omega) (Eq.trans hR506 (Eq.trans (zn_eq hT513.symm) rfl)) 
  refine X.ifeq 94 86 i225_83 rfl rfl rfl (fun h507 => ?_) (fun h507 => ?_)
  · refine X.cut [] i225_94 rfl ?_
    refine X.iconst 95 i225_94 rfl rfl (by decide) ?_
    exact hK512 0 (by first | trivial | omega) (Eq.trans (if_pos h507) rfl)
  · refine X.iload_n 87 i225_86 rfl rfl rfl ?_
    refine X.ifeq 94 90 i225_87 rfl rfl rfl (fun h508 => ?_) (fun h508 => ?_)
    · refine X.cut [] i225_94 rfl ?_
      refine X.iconst 95 i225_94 rfl rfl (by decide) ?_
      exact hK512 0 (by first | trivial | omega) (Eq.trans (if_neg h507) (Eq.trans (if_pos h508) rfl))
    · refine X.iconst 91 i225_90 rfl rfl (by decide) ?_
      refine X.goto 95 i225_91 rfl rfl ?_
      refine X.cut [] i225_95 rfl ?_
      exact hK512 1 (by first | trivial | omega) (Eq.trans (if_neg h507) (Eq.trans (if_neg h508) rfl))
-- WorkMeterModel.turnsOn
noncomputable def f228_1 (a1 : Int) (m : zM) : zM :=
  zs (z_upd m 4 45 (40 + a1) 1) fun m501 =>
  zn (w64 ((m501 4 45 (45 + a1)) + 1)) fun z503 =>
  zs (z_upd m501 4 45 (45 + a1) z503) fun m504 =>
  zs (f223_1 a1 0 m504) fun m506 =>
  m506
-- WorkMeterModel.turnsOn
theorem c228_1 {s : Nat × (Nat → Int32)} {S : zS} {m0 m : zM} {B : Int} {d : Nat} {Q : Option zV → zM → Prop} (a1 : Int) (hd : 14 ≤ d) (hJ : J S m0 B m) (hB : B + 1 ≤ 1000000000) (ha1 : 2 ≤ a1 ∧ a1 ≤ 4) (hf26 : ¬ S.1 26) (hf29 : ¬ S.1 29) (hg4 : ¬ S.2.1 4) (hQ : ∀ m', f228_1 a1 m = m' → J S m0 (B + 1) m' → Q none m') : X (EE s) d 228 0 [(0, zr 4 44), (1, zi a1)] [] m Q := by
  refine X.aload_n 1 i228_0 rfl rfl rfl ?_
  refine X.getF 4 i228_1 rfl rfl (by decide) rfl rfl ?_
  refine X.bipush 6 i228_4 rfl rfl (by decide) ?_
  refine X.iload_n 7 i228_6 rfl rfl rfl ?_
  refine X.iadd 8 i228_7 rfl rfl (by omega) ?_
  refine X.lconst (y := 1) 9 i228_8 rfl rfl rfl ?_
  refine X.last' 10 i228_9 rfl rfl (by decide) rfl (by omega) (fun hrm501 m501 hm501 => ?_)
  have hJ502 := w45_40 hJ hm501 (by omega) hrm501 hf29 hg4
  refine X.aload_n 11 i228_10 rfl rfl rfl ?_
  refine X.getF 14 i228_11 rfl rfl (by decide) rfl rfl ?_
  refine X.bipush 16 i228_14 rfl rfl (by decide) ?_
  refine X.iload_n 17 i228_16 rfl rfl rfl ?_
  refine X.iadd 18 i228_17 rfl rfl (by omega) ?_
  refine X.dup2 19 i228_18 rfl rfl ?_
  refine X.lald 20 i228_19 rfl rfl (by decide) rfl (by omega) ?_
  refine X.lconst (y := 1) 21 i228_20 rfl rfl rfl ?_
  refine X.laddW 22 i228_21 rfl rfl (fun z503 ez503 hz503 => ?_)
  refine X.last' 23 i228_22 rfl rfl (by decide) rfl (by omega) (fun hrm504 m504 hm504 => ?_)
  have hJ505 := w45_40 hJ502 hm504 (by omega) hrm504 hf29 hg4
  refine X.aload_n 24 i228_23 rfl rfl rfl ?_
  refine X.iload_n 25 i228_24 rfl rfl rfl ?_
  refine X.lconst (y := 0) 26 i228_25 rfl rfl rfl ?_
  refine X.callv 29 [zi a1, zl 0] [] [(0, zr 4 44), (1, zi a1), (2, zl 0)] i228_26 rfl (by decide) rfl rfl (by omega) rfl rfl (by decide) rfl t223 (Nat.le_of_ble_eq_true rfl) (Nat.le_of_ble_eq_true rfl) rfl ?_
  refine c223_1 (B := B)  a1 0 (by omega) (hJ505.up (by omega)) (by omega) (by omega) hf26 hg4 (fun m506 hFv508 hJ507 => ?_)
  show X (EE s) d 228 29 [(0, zr 4 44), (1, zi a1)] [] m506 _
  refine X.retv i228_29 rfl t228 ?_
  exact hQ  m506  (Eq.trans (zs_eq hm501) (Eq.trans (zn_eq ez503) (Eq.trans (zs_eq hm504) (Eq.trans (zs_eq hFv508.symm) rfl)))) (hJ507.up (by omega)) 
-- WorkMeterModel.turnsOff
noncomputable def f229_1 (a1 : Int) (m : zM) : zM :=
  zs (z_upd m 4 45 (40 + a1) 0) fun m501 =>
  zs (f223_1 (10 + a1) 0 m501) fun m503 =>
  m503
-- WorkMeterModel.turnsOff
theorem c229_1 {s : Nat × (Nat → Int32)} {S : zS} {m0 m : zM} {B : Int} {d : Nat} {Q : Option zV → zM → Prop} (a1 : Int) (hd : 14 ≤ d) (hJ : J S m0 B m) (hB : B + 1 ≤ 1000000000) (ha1 : 2 ≤ a1 ∧ a1 ≤ 4) (hf26 : ¬ S.1 26) (hf29 : ¬ S.1 29) (hg4 : ¬ S.2.1 4) (hQ : ∀ m', f229_1 a1 m = m' → J S m0 (B + 1) m' → Q none m') : X (EE s) d 229 0 [(0, zr 4 44), (1, zi a1)] [] m Q := by
  refine X.aload_n 1 i229_0 rfl rfl rfl ?_
  refine X.getF 4 i229_1 rfl rfl (by decide) rfl rfl ?_
  refine X.bipush 6 i229_4 rfl rfl (by decide) ?_
  refine X.iload_n 7 i229_6 rfl rfl rfl ?_
  refine X.iadd 8 i229_7 rfl rfl (by omega) ?_
  refine X.lconst (y := 0) 9 i229_8 rfl rfl rfl ?_
  refine X.last' 10 i229_9 rfl rfl (by decide) rfl (by omega) (fun hrm501 m501 hm501 => ?_)
  have hJ502 := w45_40 hJ hm501 (by omega) hrm501 hf29 hg4
  refine X.aload_n 11 i229_10 rfl rfl rfl ?_
  refine X.bipush 13 i229_11 rfl rfl (by decide) ?_
  refine X.iload_n 14 i229_13 rfl rfl rfl ?_
  refine X.iadd 15 i229_14 rfl rfl (by omega) ?_
  refine X.lconst (y := 0) 16 i229_15 rfl rfl rfl ?_
  refine X.callv 19 [zi (10 + a1), zl 0] [] [(0, zr 4 44), (1, zi (10 + a1)), (2, zl 0)] i229_16 rfl (by decide) rfl rfl (by omega) rfl rfl (by decide) rfl t223 (Nat.le_of_ble_eq_true rfl) (Nat.le_of_ble_eq_true rfl) rfl ?_
  refine c223_1 (B := B)  (10 + a1) 0 (by omega) (hJ502.up (by omega)) (by omega) (by omega) hf26 hg4 (fun m503 hFv505 hJ504 => ?_)
  show X (EE s) d 229 19 [(0, zr 4 44), (1, zi a1)] [] m503 _
  refine X.retv i229_19 rfl t229 ?_
  exact hQ  m503  (Eq.trans (zs_eq hm501) (Eq.trans (zs_eq hFv505.symm) rfl)) (hJ504.up (by omega)) 
noncomputable def fl224_2_1_b (self : Int → zM → zM) (k142 : zM → zM) (y1 : Int) (m : zM) : zM :=
  if 5 ≤ y1 then
  (k142 m)
  else
  (zn (if y1 = 2 then
  (zn (f225_1 m) fun v568 =>
  v568)
  else
  (if y1 = 3 then
  (zn (f226_1 m) fun v565 =>
  v565)
  else
  (zn (f227_1 m) fun v562 =>
  v562))) fun v569 =>
  zn (if v569 = 0 then
  (0)
  else
  (zn (w64 ((m 4 45 (55 + y1)) + 1)) fun z575 =>
  z575)) fun v576 =>
  zs (z_upd m 4 45 (55 + y1) v576) fun m581 =>
  zn (if (m581 4 45 (55 + y1)) ≤ (m581 4 45 7) then
  (0)
  else
  (1)) fun v586 =>
  zs (if v586 = 0 then
  (m581)
  else
  (if (m581 4 45 (40 + y1)) = 0 then
  (zs (f228_1 y1 m581) fun m594 =>
  m594)
  else
  (m581))) fun m598 =>
  zs (if v569 = 0 then
  (if (m598 4 45 (40 + y1)) = 1 then
  (zs (f229_1 y1 m598) fun m605 =>
  m605)
  else
  (m598))
  else
  (m598)) fun m609 =>
  self (y1 + 1) m609)
noncomputable def fl224_2_1 (k142 : zM → zM) : Nat → Int → zM → zM
  | 0 => fun y1 m => m
  | n + 1 => fl224_2_1_b (fl224_2_1 k142 n) k142
theorem l224_2_1 {s : Nat × (Nat → Int32)} {S : zS} {m0 : zM} {d : Nat} {Q : Option zV → zM → Prop} {R0 : zM} {k142 : zM → zM} (BE : Int) (hE : BE ≤ 1000000000) (hd : 15 ≤ d) (hf26 : ¬ S.1 26) (hf29 : ¬ S.1 29) (hg4 : ¬ S.2.1 4)
    (K142 : ∀ (m' : zM) (B' : Int), J S m0 B' m' → B' ≤ BE → R0 = k142 m' → X (EE s) d 224 142 [(0, zr 4 44)] [] m' Q) :
    ∀ (n : Nat) (y1 : Int) (m : zM) (B : Int), J S m0 B m → B + 2 * (n : Int) ≤ BE → (2 ≤ y1 ∧ y1 ≤ 5) → 5 - y1 < (n : Int) → R0 = fl224_2_1 k142 n y1 m → X (EE s) d 224 2 [(0, zr 4 44), (1, zi y1)] [] m Q := by
  intro n
  induction n with
  | zero =>
    intro y1 m B hJ hB hy1 hn hR
    exfalso
    omega
  | succ n ih =>
    intro y1 m B hJ hB hy1 hn hR
    replace hR : R0 = fl224_2_1_b (fl224_2_1 k142 n) k142 y1 m := hR
    refine X.iload_n 3 i224_2 rfl rfl rfl ?_
    refine X.iconst 4 i224_3 rfl rfl (by decide) ?_
    refine X.icmpge 142 7 i224_4 rfl rfl rfl (fun h557 => ?_) (fun h557 => ?_)
    · refine X.cut [(0, zr 4 44)] i224_142 rfl ?_
      exact K142  m (B) (hJ.up (by omega)) (by omega)  (Eq.trans hR (Eq.trans (if_pos h557) rfl))
    · refine X.iload_n 8 i224_7 rfl rfl rfl ?_
      refine X.iconst 9 i224_8 rfl rfl (by decide) ?_
      have hK572 : ∀ (v : Int) , (0 ≤ v ∧ v ≤ 1) → (if y1 = 2 then
          (zn (f225_1 m) fun v568 =>
          v568)
          else
          (if y1 = 3 then
          (zn (f226_1 m) fun v565 =>
          v565)
          else
          (zn (f227_1 m) fun v562 =>
          v562))) = v → X (EE s) d 224 35 [(0, zr 4 44), (1, zi y1)] [zi v] m Q := by
        intro v569 hv569 hT573
        refine X.istore_n 36 [(0, zr 4 44), (1, zi y1), (2, zi v569)] i224_35 rfl rfl rfl ?_
        refine X.aload_n 37 i224_36 rfl rfl rfl ?_
        refine X.getF 40 i224_37 rfl rfl (by decide) rfl rfl ?_
        refine X.bipush 42 i224_40 rfl rfl (by decide) ?_
        refine X.iload_n 43 i224_42 rfl rfl rfl ?_
        refine X.iadd 44 i224_43 rfl rfl (by omega) ?_
        refine X.iload_n 45 i224_44 rfl rfl rfl ?_
        have hK579 : ∀ (v : Int) , (True) → (if v569 = 0 then
            (0)
            else
            (zn (w64 ((m 4 45 (55 + y1)) + 1)) fun z575 =>
            z575)) = v → X (EE s) d 224 63 [(0, zr 4 44), (1, zi y1), (2, zi v569)] [zl v, zi (55 + y1), zr 4 45] m Q := by
          intro v576 hv576 hT580
          refine X.last' 64 i224_63 rfl rfl (by decide) rfl (by omega) (fun hrm581 m581 hm581 => ?_)
          have hJ582 := w45_40 hJ hm581 (by omega) hrm581 hf29 hg4
          refine X.aload_n 65 i224_64 rfl rfl rfl ?_
          refine X.getF 68 i224_65 rfl rfl (by decide) rfl rfl ?_
          refine X.bipush 70 i224_68 rfl rfl (by decide) ?_
          refine X.iload_n 71 i224_70 rfl rfl rfl ?_
          refine X.iadd 72 i224_71 rfl rfl (by omega) ?_
          refine X.lald 73 i224_72 rfl rfl (by decide) rfl (by omega) ?_
          refine X.aload_n 74 i224_73 rfl rfl rfl ?_
          refine X.getF 77 i224_74 rfl rfl (by decide) rfl rfl ?_
          refine X.bipush 79 i224_77 rfl rfl (by decide) ?_
          refine X.lald 80 i224_79 rfl rfl (by decide) rfl (by omega) ?_
          have h583 := r45_7 hJ582 4
          refine X.lcmp 81 i224_80 rfl rfl (fun z584 hz584 => ?_)
          have hK589 : ∀ (v : Int) , (0 ≤ v ∧ v ≤ 1) → (if (m581 4 45 (55 + y1)) ≤ (m581 4 45 7) then
              (0)
              else
              (1)) = v → X (EE s) d 224 89 [(0, zr 4 44), (1, zi y1), (2, zi v569)] [zi v] m581 Q := by
            intro v586 hv586 hT590
            refine X.istore_n 90 [(0, zr 4 44), (1, zi y1), (2, zi v569), (3, zi v586)] i224_89 rfl rfl rfl ?_
            refine X.iload_n 91 i224_90 rfl rfl rfl ?_
            have hK600 : ∀ (m' : zM), (if v586 = 0 then
                (m581)
                else
                (if (m581 4 45 (40 + y1)) = 0 then
                (zs (f228_1 y1 m581) fun m594 =>
                m594)
                else
                (m581))) = m' → J S m0 (B + 1) m' → X (EE s) d 224 113 [(0, zr 4 44), (1, zi y1), (2, zi v569)] [] m' Q := by
              intro m598 hT601 hJ599
              refine X.iload_n 114 i224_113 rfl rfl rfl ?_
              have hK611 : ∀ (m' : zM), (if v569 = 0 then
                  (if (m598 4 45 (40 + y1)) = 1 then
                  (zs (f229_1 y1 m598) fun m605 =>
                  m605)
                  else
                  (m598))
                  else
                  (m598)) = m' → J S m0 (B + 2) m' → X (EE s) d 224 136 [(0, zr 4 44), (1, zi y1)] [] m' Q := by
                intro m609 hT612 hJ610
                refine X.iinc 139 [(0, zr 4 44), (1, zi (y1 + 1))] i224_136 rfl rfl rfl (by omega) rfl ?_
                refine X.goto 2 i224_139 rfl rfl ?_
                exact ih (y1 + 1) m609 (B + 2) (hJ610.up (by omega)) (by omega) (by omega) (by omega) (Eq.trans hR (Eq.trans (if_neg h557) (Eq.trans (zn_eq hT573.symm) (Eq.trans (zn_eq hT580.symm) (Eq.trans (zs_eq hm581) (Eq.trans (zn_eq hT590.symm) (Eq.trans (zs_eq hT601.symm) (Eq.trans (zs_eq hT612.symm) rfl))))))))
              refine X.ifne 136 117 i224_114 rfl rfl rfl (fun h602 => ?_) (fun h602 => ?_)
              · refine X.cut [(0, zr 4 44), (1, zi y1)] i224_136 rfl ?_
                exact hK611 m598 (Eq.trans (if_neg h602) rfl) (hJ599.up (by omega))
              · refine X.aload_n 118 i224_117 rfl rfl rfl ?_
                refine X.getF 121 i224_118 rfl rfl (by decide) rfl rfl ?_
                refine X.bipush 123 i224_121 rfl rfl (by decide) ?_
                refine X.iload_n 124 i224_123 rfl rfl rfl ?_
                refine X.iadd 125 i224_124 rfl rfl (by omega) ?_
                refine X.lald 126 i224_125 rfl rfl (by decide) rfl (by omega) ?_
                refine X.lconst (y := 1) 127 i224_126 rfl rfl rfl ?_
                refine X.lcmp 128 i224_127 rfl rfl (fun z603 hz603 => ?_)
                refine X.ifne 136 131 i224_128 rfl rfl rfl (fun h604 => ?_) (fun h604 => ?_)
                · have h604c : ¬ (m598 4 45 (40 + y1)) = 1 := by omega
                  clear h604 hz603
                  refine X.cut [(0, zr 4 44), (1, zi y1)] i224_136 rfl ?_
                  exact hK611 m598 (Eq.trans (if_pos h602) (Eq.trans (if_neg h604c) rfl)) (hJ599.up (by omega))
                · have h604c : (m598 4 45 (40 + y1)) = 1 := by omega
                  clear h604 hz603
                  refine X.aload_n 132 i224_131 rfl rfl rfl ?_
                  refine X.iload_n 133 i224_132 rfl rfl rfl ?_
                  refine X.callv 136 [zi y1] [] [(0, zr 4 44), (1, zi y1)] i224_133 rfl (by decide) rfl rfl (by omega) rfl rfl (by decide) rfl t229 (Nat.le_of_ble_eq_true rfl) (Nat.le_of_ble_eq_true rfl) rfl ?_
                  refine c229_1 (B := B + 1)  y1 (by omega) (hJ599.up (by omega)) (by omega) (by omega) hf26 hf29 hg4 (fun m605 hFv607 hJ606 => ?_)
                  show X (EE s) d 224 136 [(0, zr 4 44), (1, zi y1), (2, zi v569)] [] m605 _
                  refine X.cut [(0, zr 4 44), (1, zi y1)] i224_136 rfl ?_
                  exact hK611 m605 (Eq.trans (if_pos h602) (Eq.trans (if_pos h604c) (Eq.trans (zs_eq hFv607.symm) rfl))) (hJ606.up (by omega))
            refine X.ifeq 113 94 i224_91 rfl rfl rfl (fun h591 => ?_) (fun h591 => ?_)
            · refine X.cut [(0, zr 4 44), (1, zi y1), (2, zi v569)] i224_113 rfl ?_
              exact hK600 m581 (Eq.trans (if_pos h591) rfl) (hJ582.up (by omega))
            · refine X.aload_n 95 i224_94 rfl rfl rfl ?_
              refine X.getF 98 i224_95 rfl rfl (by decide) rfl rfl ?_
              refine X.bipush 100 i224_98 rfl rfl (by decide) ?_
              refine X.iload_n 101 i224_100 rfl rfl rfl ?_
              refine X.iadd 102 i224_101 rfl rfl (by omega) ?_
              refine X.lald 103 i224_102 rfl rfl (by decide) rfl (by omega) ?_
              refine X.lconst (y := 0) 104 i224_103 rfl rfl rfl ?_
              refine X.lcmp 105 i224_104 rfl rfl (fun z592 hz592 => ?_)
              refine X.ifne 113 108 i224_105 rfl rfl rfl (fun h593 => ?_) (fun h593 => ?_)
              · have h593c : ¬ (m581 4 45 (40 + y1)) = 0 := by omega
                clear h593 hz592
                refine X.cut [(0, zr 4 44), (1, zi y1), (2, zi v569)] i224_113 rfl ?_
                exact hK600 m581 (Eq.trans (if_neg h591) (Eq.trans (if_neg h593c) rfl)) (hJ582.up (by omega))
              · have h593c : (m581 4 45 (40 + y1)) = 0 := by omega
                clear h593 hz592
                refine X.aload_n 109 i224_108 rfl rfl rfl ?_
                refine X.iload_n 110 i224_109 rfl rfl rfl ?_
                refine X.callv 113 [zi y1] [] [(0, zr 4 44), (1, zi y1)] i224_110 rfl (by decide) rfl rfl (by omega) rfl rfl (by decide) rfl t228 (Nat.le_of_ble_eq_true rfl) (Nat.le_of_ble_eq_true rfl) rfl ?_
                refine c228_1 (B := B)  y1 (by omega) (hJ582.up (by omega)) (by omega) (by omega) hf26 hf29 hg4 (fun m594 hFv596 hJ595 => ?_)
                show X (EE s) d 224 113 [(0, zr 4 44), (1, zi y1), (2, zi v569), (3, zi v586)] [] m594 _
                refine X.cut [(0, zr 4 44), (1, zi y1), (2, zi v569)] i224_113 rfl ?_
                exact hK600 m594 (Eq.trans (if_neg h591) (Eq.trans (if_pos h593c) (Eq.trans (zs_eq hFv596.symm) rfl))) (hJ595.up (by omega))
          refine X.ifle 88 84 i224_81 rfl rfl rfl (fun h585 => ?_) (fun h585 => ?_)
          · have h585c : (m581 4 45 (55 + y1)) ≤ (m581 4 45 7) := by omega
            clear h585 hz584
            refine X.iconst 89 i224_88 rfl rfl (by decide) ?_
            exact hK589 0 (by first | trivial | omega) (Eq.trans (if_pos h585c) rfl)
          · have h585c : ¬ (m581 4 45 (55 + y1)) ≤ (m581 4 45 7) := by omega
            clear h585 hz584
            refine X.iconst 85 i224_84 rfl rfl (by decide) ?_
            refine X.goto 89 i224_85 rfl rfl ?_
            exact hK589 1 (by first | trivial | omega) (Eq.trans (if_neg h585c) rfl)
        refine X.ifeq 62 48 i224_45 rfl rfl rfl (fun h574 => ?_) (fun h574 => ?_)
        · refine X.lconst (y := 0) 63 i224_62 rfl rfl rfl ?_
          exact hK579 0 (by first | trivial | omega) (Eq.trans (if_pos h574) rfl)
        · refine X.aload_n 49 i224_48 rfl rfl rfl ?_
          refine X.getF 52 i224_49 rfl rfl (by decide) rfl rfl ?_
          refine X.bipush 54 i224_52 rfl rfl (by decide) ?_
          refine X.iload_n 55 i224_54 rfl rfl rfl ?_
          refine X.iadd 56 i224_55 rfl rfl (by omega) ?_
          refine X.lald 57 i224_56 rfl rfl (by decide) rfl (by omega) ?_
          refine X.lconst (y := 1) 58 i224_57 rfl rfl rfl ?_
          refine X.laddW 59 i224_58 rfl rfl (fun z575 ez575 hz575 => ?_)
          refine X.goto 63 i224_59 rfl rfl ?_
          exact hK579 z575 (by first | trivial | omega) (Eq.trans (if_neg h574) (Eq.trans (zn_eq ez575) rfl))
      refine X.icmpne 19 12 i224_9 rfl rfl rfl (fun h558 => ?_) (fun h558 => ?_)
      · refine X.iload_n 20 i224_19 rfl rfl rfl ?_
        refine X.iconst 21 i224_20 rfl rfl (by decide) ?_
        refine X.icmpne 31 24 i224_21 rfl rfl rfl (fun h559 => ?_) (fun h559 => ?_)
        · refine X.aload_n 32 i224_31 rfl rfl rfl ?_
          refine X.callv 35 [] [] [(0, zr 4 44)] i224_32 rfl (by decide) rfl rfl (by omega) rfl rfl (by decide) rfl t227 (Nat.le_of_ble_eq_true rfl) (Nat.le_of_ble_eq_true rfl) rfl ?_
          refine c227_1 (B := B)   (by omega) (hJ.up (by omega)) (by omega)  (fun v562 hv562 hFv562 => ?_)
          show X (EE s) d 224 35 [(0, zr 4 44), (1, zi y1)] [zi v562] m _
          exact hK572 v562 (by first | trivial | omega) (Eq.trans (if_neg h558) (Eq.trans (if_neg h559) (Eq.trans (zn_eq hFv562.symm) rfl)))
        · refine X.aload_n 25 i224_24 rfl rfl rfl ?_
          refine X.callv 28 [] [] [(0, zr 4 44)] i224_25 rfl (by decide) rfl rfl (by omega) rfl rfl (by decide) rfl t226 (Nat.le_of_ble_eq_true rfl) (Nat.le_of_ble_eq_true rfl) rfl ?_
          refine c226_1 (B := B)   (by omega) (hJ.up (by omega)) (by omega)  (fun v565 hv565 hFv565 => ?_)
          show X (EE s) d 224 28 [(0, zr 4 44), (1, zi y1)] [zi v565] m _
          refine X.goto 35 i224_28 rfl rfl ?_
          exact hK572 v565 (by first | trivial | omega) (Eq.trans (if_neg h558) (Eq.trans (if_pos h559) (Eq.trans (zn_eq hFv565.symm) rfl)))
      · refine X.aload_n 13 i224_12 rfl rfl rfl ?_
        refine X.callv 16 [] [] [(0, zr 4 44)] i224_13 rfl (by decide) rfl rfl (by omega) rfl rfl (by decide) rfl t225 (Nat.le_of_ble_eq_true rfl) (Nat.le_of_ble_eq_true rfl) rfl ?_
        refine c225_1 (B := B)   (by omega) (hJ.up (by omega)) (by omega)  (fun v568 hv568 hFv568 => ?_)
        show X (EE s) d 224 16 [(0, zr 4 44), (1, zi y1)] [zi v568] m _
        refine X.goto 35 i224_16 rfl rfl ?_
        exact hK572 v568 (by first | trivial | omega) (Eq.trans (if_pos h558) (Eq.trans (zn_eq hFv568.symm) rfl))
noncomputable def fl224_144_1_b (self : Int → zM → zM) (k176 : zM → zM) (y1 : Int) (m : zM) : zM :=
  if 5 ≤ y1 then
  (k176 m)
  else
  (zn (w64 ((m 4 45 (50 + y1)) + (m 4 45 (40 + y1)))) fun z506 =>
  zs (z_upd m 4 45 (50 + y1) z506) fun m507 =>
  self (y1 + 1) m507)
noncomputable def fl224_144_1 (k176 : zM → zM) : Nat → Int → zM → zM
  | 0 => fun y1 m => m
  | n + 1 => fl224_144_1_b (fl224_144_1 k176 n) k176
theorem l224_144_1 {s : Nat × (Nat → Int32)} {S : zS} {m0 : zM} {d : Nat} {Q : Option zV → zM → Prop} {R0 : zM} {k176 : zM → zM} (BE : Int) (hE : BE ≤ 1000000000) (hd : 13 ≤ d) (hf29 : ¬ S.1 29) (hg4 : ¬ S.2.1 4)
    (K176 : ∀ (m' : zM) (B' : Int), J S m0 B' m' → B' ≤ BE → R0 = k176 m' → X (EE s) d 224 176 [] [] m' Q) :
    ∀ (n : Nat) (y1 : Int) (m : zM) (B : Int), J S m0 B m → B + 0 * (n : Int) ≤ BE → (0 ≤ y1 ∧ y1 ≤ 5) → 5 - y1 < (n : Int) → R0 = fl224_144_1 k176 n y1 m → X (EE s) d 224 144 [(0, zr 4 44), (1, zi y1)] [] m Q := by
  intro n
  induction n with
  | zero =>
    intro y1 m B hJ hB hy1 hn hR
    exfalso
    omega
  | succ n ih =>
    intro y1 m B hJ hB hy1 hn hR
    replace hR : R0 = fl224_144_1_b (fl224_144_1 k176 n) k176 y1 m := hR
    refine X.iload_n 145 i224_144 rfl rfl rfl ?_
    refine X.iconst 146 i224_145 rfl rfl (by decide) ?_
    refine X.icmpge 176 149 i224_146 rfl rfl rfl (fun h505 => ?_) (fun h505 => ?_)
    · refine X.cut [] i224_176 rfl ?_
      exact K176  m (B) (hJ.up (by omega)) (by omega)  (Eq.trans hR (Eq.trans (if_pos h505) rfl))
    · refine X.aload_n 150 i224_149 rfl rfl rfl ?_
      refine X.getF 153 i224_150 rfl rfl (by decide) rfl rfl ?_
      refine X.bipush 155 i224_153 rfl rfl (by decide) ?_
      refine X.iload_n 156 i224_155 rfl rfl rfl ?_
      refine X.iadd 157 i224_156 rfl rfl (by omega) ?_
      refine X.dup2 158 i224_157 rfl rfl ?_
      refine X.lald 159 i224_158 rfl rfl (by decide) rfl (by omega) ?_
      refine X.aload_n 160 i224_159 rfl rfl rfl ?_
      refine X.getF 163 i224_160 rfl rfl (by decide) rfl rfl ?_
      refine X.bipush 165 i224_163 rfl rfl (by decide) ?_
      refine X.iload_n 166 i224_165 rfl rfl rfl ?_
      refine X.iadd 167 i224_166 rfl rfl (by omega) ?_
      refine X.lald 168 i224_167 rfl rfl (by decide) rfl (by omega) ?_
      refine X.laddW 169 i224_168 rfl rfl (fun z506 ez506 hz506 => ?_)
      refine X.last' 170 i224_169 rfl rfl (by decide) rfl (by omega) (fun hrm507 m507 hm507 => ?_)
      have hJ508 := w45_40 hJ hm507 (by omega) hrm507 hf29 hg4
      refine X.iinc 173 [(0, zr 4 44), (1, zi (y1 + 1))] i224_170 rfl rfl rfl (by omega) rfl ?_
      refine X.goto 144 i224_173 rfl rfl ?_
      exact ih (y1 + 1) m507 (B) (hJ508.up (by omega)) (by omega) (by omega) (by omega) (Eq.trans hR (Eq.trans (if_neg h505) (Eq.trans (zn_eq ez506) (Eq.trans (zs_eq hm507) rfl))))
-- WorkMeterModel.marks
noncomputable def f224_1 (m : zM) : zM :=
  fl224_2_1 (fun m501 =>
  fl224_144_1 (fun m505 =>
  m505) (zfu 6) 0 m501) (zfu 4) 2 m
-- WorkMeterModel.marks
theorem c224_1 {s : Nat × (Nat → Int32)} {S : zS} {m0 m : zM} {B : Int} {d : Nat} {Q : Option zV → zM → Prop} (hd : 15 ≤ d) (hJ : J S m0 B m) (hB : B + 8 ≤ 1000000000) (hf26 : ¬ S.1 26) (hf29 : ¬ S.1 29) (hg4 : ¬ S.2.1 4) (hQ : ∀ m', f224_1 m = m' → J S m0 (B + 8) m' → Q none m') : X (EE s) d 224 0 [(0, zr 4 44)] [] m Q := by
  refine X.iconst 1 i224_0 rfl rfl (by decide) ?_
  refine X.istore_n 2 [(0, zr 4 44), (1, zi 2)] i224_1 rfl rfl rfl ?_
  have hz4 := zfu_eq 4
  refine l224_2_1 (s := s) (d := d) (R0 := (f224_1 m))    (BE := B + 8) (by omega) (by omega) hf26 hf29 hg4 (fun  m501 B502 hJ503 hBB502 hR504 => ?_) (zfu 4) 2 m (B) (hJ.up (by omega)) (by omega) (by omega) (by omega) rfl
  refine X.iconst 143 i224_142 rfl rfl (by decide) ?_
  refine X.istore_n 144 [(0, zr 4 44), (1, zi 0)] i224_143 rfl rfl rfl ?_
  have hz6 := zfu_eq 6
  refine l224_144_1 (s := s) (d := d)    (BE := B502 + 0) (by omega) (by omega) hf29 hg4 (fun  m505 B506 hJ507 hBB506 hR508 => ?_) (zfu 6) 0 m501 (B502) (hJ503.up (by omega)) (by omega) (by omega) (by omega) (Eq.trans hR504 rfl)
  refine X.retv i224_176 rfl t224 ?_
  exact hQ  m505  (Eq.trans hR508 rfl) (hJ507.up (by omega)) 
noncomputable def fl231_4_1_b (self : Int → Int → Int) (k29 : Int → Int) (m : zM) (y1 y3 : Int) : Int :=
  if 5 ≤ y3 then
  (k29 y1)
  else
  (zn (zshlL (m 4 45 (40 + y3)) y3) fun z508 =>
  zn (zorL y1 z508) fun z509 =>
  self z509 (y3 + 1))
noncomputable def fl231_4_1 (k29 : Int → Int) (m : zM) : Nat → Int → Int → Int
  | 0 => fun y1 y3 => 0
  | n + 1 => fl231_4_1_b (fl231_4_1 k29 m n) k29 m
theorem l231_4_1 {s : Nat × (Nat → Int32)} {S : zS} {m0 : zM} {m : zM} {B : Int} {d : Nat} {Q : Option zV → zM → Prop} {R0 : Int} {k29 : Int → Int} (hd : 13 ≤ d) (hJ : J S m0 B m) (hB9 : B ≤ 1000000000)
    (K29 : ∀ (x1 : Int) , (True) → R0 = k29 x1 → X (EE s) d 231 29 [(1, zl x1)] [] m Q) :
    ∀ (n : Nat) (y1 y3 : Int) , (0 ≤ y3 ∧ y3 ≤ 5) → 5 - y3 < (n : Int) → R0 = fl231_4_1 k29 m n y1 y3 → X (EE s) d 231 4 [(0, zr 4 44), (1, zl y1), (3, zi y3)] [] m Q := by
  intro n
  induction n with
  | zero =>
    intro y1 y3 hy3 hn hR
    exfalso
    omega
  | succ n ih =>
    intro y1 y3 hy3 hn hR
    replace hR : R0 = fl231_4_1_b (fl231_4_1 k29 m n) k29 m y1 y3 := hR
    refine X.iload_n 5 i231_4 rfl rfl rfl ?_
    refine X.iconst 6 i231_5 rfl rfl (by decide) ?_
    refine X.icmpge 29 9 i231_6 rfl rfl rfl (fun h507 => ?_) (fun h507 => ?_)
    · refine X.cut [(1, zl y1)] i231_29 rfl ?_
      exact K29 y1 (by first | trivial | omega) (Eq.trans hR (Eq.trans (if_pos h507) rfl))
    · refine X.lload_n 10 i231_9 rfl rfl rfl ?_
      refine X.aload_n 11 i231_10 rfl rfl rfl ?_
      refine X.getF 14 i231_11 rfl rfl (by decide) rfl rfl ?_
      refine X.bipush 16 i231_14 rfl rfl (by decide) ?_
      refine X.iload_n 17 i231_16 rfl rfl rfl ?_
      refine X.iadd 18 i231_17 rfl rfl (by omega) ?_
      refine X.lald 19 i231_18 rfl rfl (by decide) rfl (by omega) ?_
      refine X.iload_n 20 i231_19 rfl rfl rfl ?_
      refine X.lshlE 21 i231_20 rfl rfl (fun z508 ez508 hz508 => ?_)
      refine X.llE 22 .lor (fun x y => x ||| y) i231_21 rfl rfl rfl (fun _ _ => rfl) (fun z509 ez509 hz509 => ?_)
      refine X.lstore_n 23 [(0, zr 4 44), (1, zl z509), (3, zi y3)] i231_22 rfl rfl rfl ?_
      refine X.iinc 26 [(0, zr 4 44), (1, zl z509), (3, zi (y3 + 1))] i231_23 rfl rfl rfl (by omega) rfl ?_
      refine X.goto 4 i231_26 rfl rfl ?_
      exact ih z509 (y3 + 1) (by omega) (by omega) (Eq.trans hR (Eq.trans (if_neg h507) (Eq.trans (zn_eq ez508) (Eq.trans (zn_eq ez509) rfl))))
-- WorkMeterModel.marksOn
noncomputable def f231_1 (m : zM) : Int :=
  fl231_4_1 (fun y501 =>
  y501) m (zfu 6) 0 0
-- WorkMeterModel.marksOn
theorem c231_1 {s : Nat × (Nat → Int32)} {S : zS} {m0 m : zM} {B : Int} {d : Nat} {Q : Option zV → zM → Prop} (hd : 13 ≤ d) (hJ : J S m0 B m) (hB : B + 0 ≤ 1000000000) (hQ : ∀ (v : Int), (True) → f231_1 m = v → Q (some (zl v)) m) : X (EE s) d 231 0 [(0, zr 4 44)] [] m Q := by
  refine X.lconst (y := 0) 1 i231_0 rfl rfl rfl ?_
  refine X.lstore_n 2 [(0, zr 4 44), (1, zl 0)] i231_1 rfl rfl rfl ?_
  refine X.iconst 3 i231_2 rfl rfl (by decide) ?_
  refine X.istore_n 4 [(0, zr 4 44), (1, zl 0), (3, zi 0)] i231_3 rfl rfl rfl ?_
  have hz6 := zfu_eq 6
  refine l231_4_1 (s := s) (m := m) (B := B) (d := d) (R0 := (f231_1 m))    (by omega) (hJ.up (by omega)) (by omega) (fun y501 hby501 hR505 => ?_) (zfu 6) 0 0 (by omega) (by omega) rfl
  refine X.lload_n 30 i231_29 rfl rfl rfl ?_
  refine X.retl i231_30 rfl t231 ?_
  exact hQ y501 (by first | trivial | omega) (Eq.trans hR505 rfl) 
-- WorkMeterModel.lines
noncomputable def f235_1 (m : zM) : Int :=
  zn (if (m 4 45 17) < 64 then
  ((m 4 45 17))
  else
  (64)) fun v504 =>
  v504
-- WorkMeterModel.lines
theorem c235_1 {s : Nat × (Nat → Int32)} {S : zS} {m0 m : zM} {B : Int} {d : Nat} {Q : Option zV → zM → Prop} (hd : 13 ≤ d) (hJ : J S m0 B m) (hB : B + 0 ≤ 1000000000) (hQ : ∀ (v : Int), (0 ≤ v ∧ v ≤ 64) → f235_1 m = v → Q (some (zi v)) m) : X (EE s) d 235 0 [(0, zr 4 44)] [] m Q := by
  refine X.aload_n 1 i235_0 rfl rfl rfl ?_
  refine X.getF 4 i235_1 rfl rfl (by decide) rfl rfl ?_
  refine X.bipush 6 i235_4 rfl rfl (by decide) ?_
  refine X.lald 7 i235_6 rfl rfl (by decide) rfl (by omega) ?_
  have h501 := r45_17 hJ 4
  refine X.ldc2 10 i235_7 rfl rfl (by decide) ?_
  refine X.lcmp 11 i235_10 rfl rfl (fun z502 hz502 => ?_)
  have hK507 : ∀ (v : Int) , (0 ≤ v ∧ v ≤ 64) → (if (m 4 45 17) < 64 then
      ((m 4 45 17))
      else
      (64)) = v → X (EE s) d 235 27 [] [zl v] m Q := by
    intro v504 hv504 hT508
    refine X.l2i 28 i235_27 rfl rfl (by omega) ?_
    refine X.reti i235_28 rfl t235 ?_
    exact hQ v504 (by first | trivial | omega) (Eq.trans (zn_eq hT508.symm) rfl) 
  refine X.ifge 24 14 i235_11 rfl rfl rfl (fun h503 => ?_) (fun h503 => ?_)
  · have h503c : ¬ (m 4 45 17) < 64 := by omega
    clear h503 hz502
    refine X.cut [] i235_24 rfl ?_
    refine X.ldc2 27 i235_24 rfl rfl (by decide) ?_
    exact hK507 64 (by first | trivial | omega) (Eq.trans (if_neg h503c) rfl)
  · have h503c : (m 4 45 17) < 64 := by omega
    clear h503 hz502
    refine X.aload_n 15 i235_14 rfl rfl rfl ?_
    refine X.getF 18 i235_15 rfl rfl (by decide) rfl rfl ?_
    refine X.bipush 20 i235_18 rfl rfl (by decide) ?_
    refine X.lald 21 i235_20 rfl rfl (by decide) rfl (by omega) ?_
    refine X.goto 27 i235_21 rfl rfl ?_
    refine X.cut [] i235_27 rfl ?_
    exact hK507 (m 4 45 17) (by first | trivial | omega) (Eq.trans (if_pos h503c) rfl)
noncomputable def fl233_3_1_b (self : Int → zM → zM) (k22 : zM → zM) (y1 : Int) (m : zM) : zM :=
  if 27 < y1 then
  (k22 m)
  else
  (zs (z_upd m 4 45 y1 0) fun m505 =>
  self (y1 + 1) m505)
noncomputable def fl233_3_1 (k22 : zM → zM) : Nat → Int → zM → zM
  | 0 => fun y1 m => m
  | n + 1 => fl233_3_1_b (fl233_3_1 k22 n) k22
theorem l233_3_1 {s : Nat × (Nat → Int32)} {S : zS} {m0 : zM} {d : Nat} {Q : Option zV → zM → Prop} {R0 : zM} {k22 : zM → zM} (BE : Int) (hE : BE ≤ 1000000000) (hd : 13 ≤ d) (hf27 : ¬ S.1 27) (hg4 : ¬ S.2.1 4)
    (K22 : ∀ (m' : zM) (B' : Int), J S m0 B' m' → B' ≤ BE → R0 = k22 m' → X (EE s) d 233 22 [(0, zr 4 44)] [] m' Q) :
    ∀ (n : Nat) (y1 : Int) (m : zM) (B : Int), J S m0 B m → B + 0 * (n : Int) ≤ BE → (22 ≤ y1 ∧ y1 ≤ 28) → 28 - y1 < (n : Int) → R0 = fl233_3_1 k22 n y1 m → X (EE s) d 233 3 [(0, zr 4 44), (1, zi y1)] [] m Q := by
  intro n
  induction n with
  | zero =>
    intro y1 m B hJ hB hy1 hn hR
    exfalso
    omega
  | succ n ih =>
    intro y1 m B hJ hB hy1 hn hR
    replace hR : R0 = fl233_3_1_b (fl233_3_1 k22 n) k22 y1 m := hR
    refine X.iload_n 4 i233_3 rfl rfl rfl ?_
    refine X.bipush 6 i233_4 rfl rfl (by decide) ?_
    refine X.icmpgt 22 9 i233_6 rfl rfl rfl (fun h504 => ?_) (fun h504 => ?_)
    · refine X.cut [(0, zr 4 44)] i233_22 rfl ?_
      exact K22  m (B) (hJ.up (by omega)) (by omega)  (Eq.trans hR (Eq.trans (if_pos h504) rfl))
    · refine X.aload_n 10 i233_9 rfl rfl rfl ?_
      refine X.getF 13 i233_10 rfl rfl (by decide) rfl rfl ?_
      refine X.iload_n 14 i233_13 rfl rfl rfl ?_
      refine X.lconst (y := 0) 15 i233_14 rfl rfl rfl ?_
      refine X.last' 16 i233_15 rfl rfl (by decide) rfl (by omega) (fun hrm505 m505 hm505 => ?_)
      have hJ506 := w45_21 hJ hm505 (by omega) hrm505 hf27 hg4
      refine X.iinc 19 [(0, zr 4 44), (1, zi (y1 + 1))] i233_16 rfl rfl rfl (by omega) rfl ?_
      refine X.goto 3 i233_19 rfl rfl ?_
      exact ih (y1 + 1) m505 (B) (hJ506.up (by omega)) (by omega) (by omega) (by omega) (Eq.trans hR (Eq.trans (if_neg h504) (Eq.trans (zs_eq hm505) rfl)))
-- WorkMeterModel.beginsBlock
noncomputable def f233_1 (m : zM) : zM :=
  fl233_3_1 (fun m501 =>
  zn (((m501 4 45 0) % (m501 4 45 8))) fun z507 =>
  zn (if z507 = 0 then
  (0)
  else
  (1)) fun v510 =>
  zs (z_upd m501 4 45 21 v510) fun m515 =>
  m515) (zfu 7) 22 m
-- WorkMeterModel.beginsBlock
theorem c233_1 {s : Nat × (Nat → Int32)} {S : zS} {m0 m : zM} {B : Int} {d : Nat} {Q : Option zV → zM → Prop} (hd : 13 ≤ d) (hJ : J S m0 B m) (hB : B + 0 ≤ 1000000000) (hf27 : ¬ S.1 27) (hg4 : ¬ S.2.1 4) (hQ : ∀ m', f233_1 m = m' → J S m0 (B) m' → Q none m') : X (EE s) d 233 0 [(0, zr 4 44)] [] m Q := by
  refine X.bipush 2 i233_0 rfl rfl (by decide) ?_
  refine X.istore_n 3 [(0, zr 4 44), (1, zi 22)] i233_2 rfl rfl rfl ?_
  have hz7 := zfu_eq 7
  refine l233_3_1 (s := s) (d := d) (R0 := (f233_1 m))    (BE := B + 0) (by omega) (by omega) hf27 hg4 (fun  m501 B502 hJ503 hBB502 hR504 => ?_) (zfu 7) 22 m (B) (hJ.up (by omega)) (by omega) (by omega) (by omega) rfl
  refine X.aload_n 23 i233_22 rfl rfl rfl ?_
  refine X.getF 26 i233_23 rfl rfl (by decide) rfl rfl ?_
  refine X.bipush 28 i233_26 rfl rfl (by decide) ?_
  refine X.aload_n 29 i233_28 rfl rfl rfl ?_
  refine X.getF 32 i233_29 rfl rfl (by decide) rfl rfl ?_
  refine X.iconst 33 i233_32 rfl rfl (by decide) ?_
  refine X.lald 34 i233_33 rfl rfl (by decide) rfl (by omega) ?_
  have h505 := r45_0 hJ503 4
  refine X.aload_n 35 i233_34 rfl rfl rfl ?_
  refine X.getF 38 i233_35 rfl rfl (by decide) rfl rfl ?_
  refine X.bipush 40 i233_38 rfl rfl (by decide) ?_
  refine X.lald 41 i233_40 rfl rfl (by decide) rfl (by omega) ?_
  have h506 := r45_8 hJ503 4
  refine X.lremp 42 i233_41 rfl rfl (by omega) ?_
  have hz507 := z_modb (x := (m501 4 45 0)) (y := (m501 4 45 8)) (by omega) (by omega)
  obtain ⟨z507, ez507⟩ : ∃ z, z = ((m501 4 45 0) % (m501 4 45 8)) := ⟨_, rfl⟩
  rw [← ez507] at hz507 ⊢
  refine X.lconst (y := 0) 43 i233_42 rfl rfl rfl ?_
  refine X.lcmp 44 i233_43 rfl rfl (fun z508 hz508 => ?_)
  have hK513 : ∀ (v : Int) , (0 ≤ v ∧ v ≤ 1) → (if z507 = 0 then
      (0)
      else
      (1)) = v → X (EE s) d 233 52 [] [zl v, zi 21, zr 4 45] m501 Q := by
    intro v510 hv510 hT514
    refine X.last' 53 i233_52 rfl rfl (by decide) rfl (by omega) (fun hrm515 m515 hm515 => ?_)
    have hJ516 := w45_21 hJ503 hm515 (by omega) hrm515 hf27 hg4
    refine X.retv i233_53 rfl t233 ?_
    exact hQ  m515  (Eq.trans hR504 (Eq.trans (zn_eq ez507) (Eq.trans (zn_eq hT514.symm) (Eq.trans (zs_eq hm515) rfl)))) (hJ516.up (by omega)) 
  refine X.ifne 51 47 i233_44 rfl rfl rfl (fun h509 => ?_) (fun h509 => ?_)
  · have h509c : ¬ z507 = 0 := by omega
    clear h509 hz508
    refine X.cut [] i233_51 rfl ?_
    refine X.lconst (y := 1) 52 i233_51 rfl rfl rfl ?_
    exact hK513 1 (by first | trivial | omega) (Eq.trans (if_neg h509c) rfl)
  · have h509c : z507 = 0 := by omega
    clear h509 hz508
    refine X.lconst (y := 0) 48 i233_47 rfl rfl rfl ?_
    refine X.goto 52 i233_48 rfl rfl ?_
    refine X.cut [] i233_52 rfl ?_
    exact hK513 0 (by first | trivial | omega) (Eq.trans (if_pos h509c) rfl)
-- WorkMeterModel.line
noncomputable def f234_1 (a1 a2 : Int) (m : zM) : Int :=
  (m 4 45 ((788 + (6 * a1)) + a2))
-- WorkMeterModel.line
theorem c234_1 {s : Nat × (Nat → Int32)} {S : zS} {m0 m : zM} {B : Int} {d : Nat} {Q : Option zV → zM → Prop} (a1 a2 : Int) (hd : 13 ≤ d) (hJ : J S m0 B m) (hB : B + 0 ≤ 1000000000) (ha1 : (-5) ≤ a1 ∧ a1 ≤ 63) (ha2 : 5 ≤ a2 ∧ a2 ≤ 5) (hQ : ∀ (v : Int), (True) → f234_1 a1 a2 m = v → Q (some (zl v)) m) : X (EE s) d 234 0 [(0, zr 4 44), (1, zi a1), (2, zi a2)] [] m Q := by
  refine X.aload_n 1 i234_0 rfl rfl rfl ?_
  refine X.getF 4 i234_1 rfl rfl (by decide) rfl rfl ?_
  refine X.sipush 7 i234_4 rfl rfl (by decide) ?_
  refine X.bipush 9 i234_7 rfl rfl (by decide) ?_
  refine X.iload_n 10 i234_9 rfl rfl rfl ?_
  refine X.imul 11 i234_10 rfl rfl (by omega) ?_
  refine X.iadd 12 i234_11 rfl rfl (by omega) ?_
  refine X.iload_n 13 i234_12 rfl rfl rfl ?_
  refine X.iadd 14 i234_13 rfl rfl (by omega) ?_
  refine X.lald 15 i234_14 rfl rfl (by decide) rfl (by omega) ?_
  refine X.retl i234_15 rfl t234 ?_
  exact hQ (m 4 45 ((788 + (6 * a1)) + a2)) (by first | trivial | omega) rfl 
-- WorkMeterModel.line
theorem c234_2 {s : Nat × (Nat → Int32)} {S : zS} {m0 m : zM} {B : Int} {d : Nat} {Q : Option zV → zM → Prop} (a1 a2 : Int) (hd : 13 ≤ d) (hJ : J S m0 B m) (hB : B + 0 ≤ 1000000000) (ha1 : 0 ≤ a1 ∧ a1 ≤ 63) (ha2 : 1 ≤ a2 ∧ a2 ≤ 1) (hQ : ∀ (v : Int), (True) → f234_1 a1 a2 m = v → Q (some (zl v)) m) : X (EE s) d 234 0 [(0, zr 4 44), (1, zi a1), (2, zi a2)] [] m Q := by
  refine X.aload_n 1 i234_0 rfl rfl rfl ?_
  refine X.getF 4 i234_1 rfl rfl (by decide) rfl rfl ?_
  refine X.sipush 7 i234_4 rfl rfl (by decide) ?_
  refine X.bipush 9 i234_7 rfl rfl (by decide) ?_
  refine X.iload_n 10 i234_9 rfl rfl rfl ?_
  refine X.imul 11 i234_10 rfl rfl (by omega) ?_
  refine X.iadd 12 i234_11 rfl rfl (by omega) ?_
  refine X.iload_n 13 i234_12 rfl rfl rfl ?_
  refine X.iadd 14 i234_13 rfl rfl (by omega) ?_
  refine X.lald 15 i234_14 rfl rfl (by decide) rfl (by omega) ?_
  refine X.retl i234_15 rfl t234 ?_
  exact hQ (m 4 45 ((788 + (6 * a1)) + a2)) (by first | trivial | omega) rfl 
-- WorkMeterModel.line
theorem c234_3 {s : Nat × (Nat → Int32)} {S : zS} {m0 m : zM} {B : Int} {d : Nat} {Q : Option zV → zM → Prop} (a1 a2 : Int) (hd : 13 ≤ d) (hJ : J S m0 B m) (hB : B + 0 ≤ 1000000000) (ha1 : (-4) ≤ a1 ∧ a1 ≤ 63) (ha2 : 0 ≤ a2 ∧ a2 ≤ 0) (hQ : ∀ (v : Int), (True) → f234_1 a1 a2 m = v → Q (some (zl v)) m) : X (EE s) d 234 0 [(0, zr 4 44), (1, zi a1), (2, zi a2)] [] m Q := by
  refine X.aload_n 1 i234_0 rfl rfl rfl ?_
  refine X.getF 4 i234_1 rfl rfl (by decide) rfl rfl ?_
  refine X.sipush 7 i234_4 rfl rfl (by decide) ?_
  refine X.bipush 9 i234_7 rfl rfl (by decide) ?_
  refine X.iload_n 10 i234_9 rfl rfl rfl ?_
  refine X.imul 11 i234_10 rfl rfl (by omega) ?_
  refine X.iadd 12 i234_11 rfl rfl (by omega) ?_
  refine X.iload_n 13 i234_12 rfl rfl rfl ?_
  refine X.iadd 14 i234_13 rfl rfl (by omega) ?_
  refine X.lald 15 i234_14 rfl rfl (by decide) rfl (by omega) ?_
  refine X.retl i234_15 rfl t234 ?_
  exact hQ (m 4 45 ((788 + (6 * a1)) + a2)) (by first | trivial | omega) rfl 
-- WorkMeterModel.line
theorem c234_4 {s : Nat × (Nat → Int32)} {S : zS} {m0 m : zM} {B : Int} {d : Nat} {Q : Option zV → zM → Prop} (a1 a2 : Int) (hd : 13 ≤ d) (hJ : J S m0 B m) (hB : B + 0 ≤ 1000000000) (ha1 : (-5) ≤ a1 ∧ a1 ≤ 62) (ha2 : 0 ≤ a2 ∧ a2 ≤ 0) (hQ : ∀ (v : Int), (True) → f234_1 a1 a2 m = v → Q (some (zl v)) m) : X (EE s) d 234 0 [(0, zr 4 44), (1, zi a1), (2, zi a2)] [] m Q := by
  refine X.aload_n 1 i234_0 rfl rfl rfl ?_
  refine X.getF 4 i234_1 rfl rfl (by decide) rfl rfl ?_
  refine X.sipush 7 i234_4 rfl rfl (by decide) ?_
  refine X.bipush 9 i234_7 rfl rfl (by decide) ?_
  refine X.iload_n 10 i234_9 rfl rfl rfl ?_
  refine X.imul 11 i234_10 rfl rfl (by omega) ?_
  refine X.iadd 12 i234_11 rfl rfl (by omega) ?_
  refine X.iload_n 13 i234_12 rfl rfl rfl ?_
  refine X.iadd 14 i234_13 rfl rfl (by omega) ?_
  refine X.lald 15 i234_14 rfl rfl (by decide) rfl (by omega) ?_
  refine X.retl i234_15 rfl t234 ?_
  exact hQ (m 4 45 ((788 + (6 * a1)) + a2)) (by first | trivial | omega) rfl 
-- WorkMeterModel.line
theorem c234_5 {s : Nat × (Nat → Int32)} {S : zS} {m0 m : zM} {B : Int} {d : Nat} {Q : Option zV → zM → Prop} (a1 a2 : Int) (hd : 13 ≤ d) (hJ : J S m0 B m) (hB : B + 0 ≤ 1000000000) (ha1 : (-5) ≤ a1 ∧ a1 ≤ 62) (ha2 : 1 ≤ a2 ∧ a2 ≤ 1) (hQ : ∀ (v : Int), (True) → f234_1 a1 a2 m = v → Q (some (zl v)) m) : X (EE s) d 234 0 [(0, zr 4 44), (1, zi a1), (2, zi a2)] [] m Q := by
  refine X.aload_n 1 i234_0 rfl rfl rfl ?_
  refine X.getF 4 i234_1 rfl rfl (by decide) rfl rfl ?_
  refine X.sipush 7 i234_4 rfl rfl (by decide) ?_
  refine X.bipush 9 i234_7 rfl rfl (by decide) ?_
  refine X.iload_n 10 i234_9 rfl rfl rfl ?_
  refine X.imul 11 i234_10 rfl rfl (by omega) ?_
  refine X.iadd 12 i234_11 rfl rfl (by omega) ?_
  refine X.iload_n 13 i234_12 rfl rfl rfl ?_
  refine X.iadd 14 i234_13 rfl rfl (by omega) ?_
  refine X.lald 15 i234_14 rfl rfl (by decide) rfl (by omega) ?_
  refine X.retl i234_15 rfl t234 ?_
  exact hQ (m 4 45 ((788 + (6 * a1)) + a2)) (by first | trivial | omega) rfl 
noncomputable def fl236_24_1_b (self : Int → Int → zM) (k95 : zM) (k112 : Int → zM) (y1 : Int) (m : zM) (y2 y4 : Int) : zM :=
  if y4 < (m 4 45 9) then
  (zn (f234_1 ((y1 - 1) - y4) 5 m) fun v564 =>
  zn (zandL v564 192) fun z565 =>
  if z565 = 0 then
  (if y4 ≤ 0 then
  (zn (f234_1 ((y1 - 1) - y4) 1 m) fun v571 =>
  zn (w64 (y2 + v571)) fun z572 =>
  self z572 (y4 + 1))
  else
  (zn (f234_1 (((y1 - 1) - y4) + 1) 0 m) fun v575 =>
  zn (w64 (v575 - (m 4 45 8))) fun z577 =>
  zn (f234_1 ((y1 - 1) - y4) 0 m) fun v580 =>
  if z577 = v580 then
  (zn (f234_1 ((y1 - 1) - y4) 1 m) fun v585 =>
  zn (w64 (y2 + v585)) fun z586 =>
  self z586 (y4 + 1))
  else
  (k95)))
  else
  (k95))
  else
  (k112 y2)
noncomputable def fl236_24_1 (k95 : zM) (k112 : Int → zM) (y1 : Int) (m : zM) : Nat → Int → Int → zM
  | 0 => fun y2 y4 => m
  | n + 1 => fl236_24_1_b (fl236_24_1 k95 k112 y1 m n) k95 k112 y1 m
theorem l236_24_1 {s : Nat × (Nat → Int32)} {S : zS} {m0 : zM} {m : zM} {B : Int} {d : Nat} {Q : Option zV → zM → Prop} {R0 : zM} {k95 : zM} {k112 : Int → zM} (y1 : Int) (hd : 14 ≤ d) (hJ : J S m0 B m) (hB9 : B ≤ 1000000000) (hy1 : 1 ≤ y1 ∧ y1 ≤ 64)
    (K95 : R0 = k95 → X (EE s) d 236 95 [] [] m Q)
    (K112 : ∀ (x2 : Int) , (True) → R0 = k112 x2 → X (EE s) d 236 112 [(0, zr 4 44), (2, zl x2)] [] m Q) :
    ∀ (n : Nat) (y2 y4 : Int) , (0 ≤ y4 ∧ y4 ≤ 6) → 6 - y4 < (n : Int) → R0 = fl236_24_1 k95 k112 y1 m n y2 y4 → X (EE s) d 236 24 [(0, zr 4 44), (1, zi y1), (2, zl y2), (4, zi y4)] [] m Q := by
  intro n
  induction n with
  | zero =>
    intro y2 y4 hy4 hn hR
    exfalso
    omega
  | succ n ih =>
    intro y2 y4 hy4 hn hR
    replace hR : R0 = fl236_24_1_b (fl236_24_1 k95 k112 y1 m n) k95 k112 y1 m y2 y4 := hR
    refine X.iload 26 i236_24 rfl rfl rfl ?_
    refine X.i2l 27 i236_26 rfl rfl ?_
    refine X.aload_n 28 i236_27 rfl rfl rfl ?_
    refine X.getF 31 i236_28 rfl rfl (by decide) rfl rfl ?_
    refine X.bipush 33 i236_31 rfl rfl (by decide) ?_
    refine X.lald 34 i236_33 rfl rfl (by decide) rfl (by omega) ?_
    have h559 := r45_9 hJ 4
    refine X.lcmp 35 i236_34 rfl rfl (fun z560 hz560 => ?_)
    refine X.ifge 112 38 i236_35 rfl rfl rfl (fun h561 => ?_) (fun h561 => ?_)
    · have h561c : ¬ y4 < (m 4 45 9) := by omega
      clear h561 hz560
      refine X.cut [(0, zr 4 44), (2, zl y2)] i236_112 rfl ?_
      exact K112 y2 (by first | trivial | omega) (Eq.trans hR (Eq.trans (if_neg h561c) rfl))
    · have h561c : y4 < (m 4 45 9) := by omega
      clear h561 hz560
      refine X.iload_n 39 i236_38 rfl rfl rfl ?_
      refine X.iconst 40 i236_39 rfl rfl (by decide) ?_
      refine X.isub 41 i236_40 rfl rfl (by omega) ?_
      refine X.iload 43 i236_41 rfl rfl rfl ?_
      refine X.isub 44 i236_43 rfl rfl (by omega) ?_
      refine X.istore 46 [(0, zr 4 44), (1, zi y1), (2, zl y2), (4, zi y4), (5, zi ((y1 - 1) - y4))] i236_44 rfl rfl rfl ?_
      refine X.aload_n 47 i236_46 rfl rfl rfl ?_
      refine X.iload 49 i236_47 rfl rfl rfl ?_
      refine X.iconst 50 i236_49 rfl rfl (by decide) ?_
      refine X.callv 53 [zi ((y1 - 1) - y4), zi 5] [] [(0, zr 4 44), (1, zi ((y1 - 1) - y4)), (2, zi 5)] i236_50 rfl (by decide) rfl rfl (by omega) rfl rfl (by decide) rfl t234 (Nat.le_of_ble_eq_true rfl) (Nat.le_of_ble_eq_true rfl) rfl ?_
      refine c234_1 (B := B)  ((y1 - 1) - y4) 5 (by omega) (hJ.up (by omega)) (by omega) (by omega) (by omega) (fun v564 hv564 hFv564 => ?_)
      show X (EE s) d 236 53 [(0, zr 4 44), (1, zi y1), (2, zl y2), (4, zi y4), (5, zi ((y1 - 1) - y4))] [zl v564] m _
      refine X.ldc2 56 i236_53 rfl rfl (by decide) ?_
      refine X.llE 57 .land (fun x y => x &&& y) i236_56 rfl rfl rfl (fun _ _ => rfl) (fun z565 ez565 hz565 => ?_)
      refine X.lconst (y := 0) 58 i236_57 rfl rfl rfl ?_
      refine X.lcmp 59 i236_58 rfl rfl (fun z566 hz566 => ?_)
      refine X.ifne 95 62 i236_59 rfl rfl rfl (fun h567 => ?_) (fun h567 => ?_)
      · have h567c : ¬ z565 = 0 := by omega
        clear h567 hz566
        refine X.cut [] i236_95 rfl ?_
        exact K95   (Eq.trans hR (Eq.trans (if_pos h561c) (Eq.trans (zn_eq hFv564.symm) (Eq.trans (zn_eq ez565) (Eq.trans (if_neg h567c) rfl)))))
      · have h567c : z565 = 0 := by omega
        clear h567 hz566
        refine X.iload 64 i236_62 rfl rfl rfl ?_
        refine X.ifle 96 67 i236_64 rfl rfl rfl (fun h568 => ?_) (fun h568 => ?_)
        · refine X.lload_n 97 i236_96 rfl rfl rfl ?_
          refine X.aload_n 98 i236_97 rfl rfl rfl ?_
          refine X.iload 100 i236_98 rfl rfl rfl ?_
          refine X.iconst 101 i236_100 rfl rfl (by decide) ?_
          refine X.callv 104 [zi ((y1 - 1) - y4), zi 1] [zl y2] [(0, zr 4 44), (1, zi ((y1 - 1) - y4)), (2, zi 1)] i236_101 rfl (by decide) rfl rfl (by omega) rfl rfl (by decide) rfl t234 (Nat.le_of_ble_eq_true rfl) (Nat.le_of_ble_eq_true rfl) rfl ?_
          refine c234_2 (B := B)  ((y1 - 1) - y4) 1 (by omega) (hJ.up (by omega)) (by omega) (by omega) (by omega) (fun v571 hv571 hFv571 => ?_)
          show X (EE s) d 236 104 [(0, zr 4 44), (1, zi y1), (2, zl y2), (4, zi y4), (5, zi ((y1 - 1) - y4))] [zl v571, zl y2] m _
          refine X.laddW 105 i236_104 rfl rfl (fun z572 ez572 hz572 => ?_)
          refine X.lstore_n 106 [(0, zr 4 44), (1, zi y1), (2, zl z572), (4, zi y4), (5, zi ((y1 - 1) - y4))] i236_105 rfl rfl rfl ?_
          refine X.iinc 109 [(0, zr 4 44), (1, zi y1), (2, zl z572), (4, zi (y4 + 1)), (5, zi ((y1 - 1) - y4))] i236_106 rfl rfl rfl (by omega) rfl ?_
          refine X.goto 24 i236_109 rfl rfl ?_
          refine X.cut [(0, zr 4 44), (1, zi y1), (2, zl z572), (4, zi (y4 + 1))] i236_24 rfl ?_
          exact ih z572 (y4 + 1) (by omega) (by omega) (Eq.trans hR (Eq.trans (if_pos h561c) (Eq.trans (zn_eq hFv564.symm) (Eq.trans (zn_eq ez565) (Eq.trans (if_pos h567c) (Eq.trans (if_pos h568) (Eq.trans (zn_eq hFv571.symm) (Eq.trans (zn_eq ez572) rfl))))))))
        · refine X.aload_n 68 i236_67 rfl rfl rfl ?_
          refine X.iload 70 i236_68 rfl rfl rfl ?_
          refine X.iconst 71 i236_70 rfl rfl (by decide) ?_
          refine X.iadd 72 i236_71 rfl rfl (by omega) ?_
          refine X.iconst 73 i236_72 rfl rfl (by decide) ?_
          refine X.callv 76 [zi (((y1 - 1) - y4) + 1), zi 0] [] [(0, zr 4 44), (1, zi (((y1 - 1) - y4) + 1)), (2, zi 0)] i236_73 rfl (by decide) rfl rfl (by omega) rfl rfl (by decide) rfl t234 (Nat.le_of_ble_eq_true rfl) (Nat.le_of_ble_eq_true rfl) rfl ?_
          refine c234_3 (B := B)  (((y1 - 1) - y4) + 1) 0 (by omega) (hJ.up (by omega)) (by omega) (by omega) (by omega) (fun v575 hv575 hFv575 => ?_)
          show X (EE s) d 236 76 [(0, zr 4 44), (1, zi y1), (2, zl y2), (4, zi y4), (5, zi ((y1 - 1) - y4))] [zl v575] m _
          refine X.aload_n 77 i236_76 rfl rfl rfl ?_
          refine X.getF 80 i236_77 rfl rfl (by decide) rfl rfl ?_
          refine X.bipush 82 i236_80 rfl rfl (by decide) ?_
          refine X.lald 83 i236_82 rfl rfl (by decide) rfl (by omega) ?_
          have h576 := r45_8 hJ 4
          refine X.lsubW 84 i236_83 rfl rfl (fun z577 ez577 hz577 => ?_)
          refine X.aload_n 85 i236_84 rfl rfl rfl ?_
          refine X.iload 87 i236_85 rfl rfl rfl ?_
          refine X.iconst 88 i236_87 rfl rfl (by decide) ?_
          refine X.callv 91 [zi ((y1 - 1) - y4), zi 0] [zl z577] [(0, zr 4 44), (1, zi ((y1 - 1) - y4)), (2, zi 0)] i236_88 rfl (by decide) rfl rfl (by omega) rfl rfl (by decide) rfl t234 (Nat.le_of_ble_eq_true rfl) (Nat.le_of_ble_eq_true rfl) rfl ?_
          refine c234_4 (B := B)  ((y1 - 1) - y4) 0 (by omega) (hJ.up (by omega)) (by omega) (by omega) (by omega) (fun v580 hv580 hFv580 => ?_)
          show X (EE s) d 236 91 [(0, zr 4 44), (1, zi y1), (2, zl y2), (4, zi y4), (5, zi ((y1 - 1) - y4))] [zl v580, zl z577] m _
          refine X.lcmp 92 i236_91 rfl rfl (fun z581 hz581 => ?_)
          refine X.ifeq 96 95 i236_92 rfl rfl rfl (fun h582 => ?_) (fun h582 => ?_)
          · have h582c : z577 = v580 := by omega
            clear h582 hz581
            refine X.lload_n 97 i236_96 rfl rfl rfl ?_
            refine X.aload_n 98 i236_97 rfl rfl rfl ?_
            refine X.iload 100 i236_98 rfl rfl rfl ?_
            refine X.iconst 101 i236_100 rfl rfl (by decide) ?_
            refine X.callv 104 [zi ((y1 - 1) - y4), zi 1] [zl y2] [(0, zr 4 44), (1, zi ((y1 - 1) - y4)), (2, zi 1)] i236_101 rfl (by decide) rfl rfl (by omega) rfl rfl (by decide) rfl t234 (Nat.le_of_ble_eq_true rfl) (Nat.le_of_ble_eq_true rfl) rfl ?_
            refine c234_5 (B := B)  ((y1 - 1) - y4) 1 (by omega) (hJ.up (by omega)) (by omega) (by omega) (by omega) (fun v585 hv585 hFv585 => ?_)
            show X (EE s) d 236 104 [(0, zr 4 44), (1, zi y1), (2, zl y2), (4, zi y4), (5, zi ((y1 - 1) - y4))] [zl v585, zl y2] m _
            refine X.laddW 105 i236_104 rfl rfl (fun z586 ez586 hz586 => ?_)
            refine X.lstore_n 106 [(0, zr 4 44), (1, zi y1), (2, zl z586), (4, zi y4), (5, zi ((y1 - 1) - y4))] i236_105 rfl rfl rfl ?_
            refine X.iinc 109 [(0, zr 4 44), (1, zi y1), (2, zl z586), (4, zi (y4 + 1)), (5, zi ((y1 - 1) - y4))] i236_106 rfl rfl rfl (by omega) rfl ?_
            refine X.goto 24 i236_109 rfl rfl ?_
            refine X.cut [(0, zr 4 44), (1, zi y1), (2, zl z586), (4, zi (y4 + 1))] i236_24 rfl ?_
            exact ih z586 (y4 + 1) (by omega) (by omega) (Eq.trans hR (Eq.trans (if_pos h561c) (Eq.trans (zn_eq hFv564.symm) (Eq.trans (zn_eq ez565) (Eq.trans (if_pos h567c) (Eq.trans (if_neg h568) (Eq.trans (zn_eq hFv575.symm) (Eq.trans (zn_eq ez577) (Eq.trans (zn_eq hFv580.symm) (Eq.trans (if_pos h582c) (Eq.trans (zn_eq hFv585.symm) (Eq.trans (zn_eq ez586) rfl))))))))))))
          · have h582c : ¬ z577 = v580 := by omega
            clear h582 hz581
            refine X.cut [] i236_95 rfl ?_
            exact K95   (Eq.trans hR (Eq.trans (if_pos h561c) (Eq.trans (zn_eq hFv564.symm) (Eq.trans (zn_eq ez565) (Eq.trans (if_pos h567c) (Eq.trans (if_neg h568) (Eq.trans (zn_eq hFv575.symm) (Eq.trans (zn_eq ez577) (Eq.trans (zn_eq hFv580.symm) (Eq.trans (if_neg h582c) rfl))))))))))
-- WorkMeterModel.demands
noncomputable def f236_1 (m : zM) : zM :=
  zn (f235_1 m) fun v503 =>
  if v503 < (m 4 45 9) then
  (m)
  else
  (fl236_24_1 (m) (fun y511 =>
  zs (z_upd m 4 45 19 y511) fun m516 =>
  zs (z_upd m516 4 45 20 (m516 4 45 0)) fun m519 =>
  zn (f217_1 ((m519 4 45 0) - 1) m519) fun v524 =>
  if y511 ≤ (m519 4 45 (32 + v524)) then
  (m519)
  else
  (zs (z_upd m519 4 45 (32 + v524) y511) fun m527 =>
  zs (z_upd m527 4 45 (36 + v524) (m527 4 45 0)) fun m530 =>
  m530)) v503 m (zfu 7) 0 0)
end
section
-- WorkMeterModel.demands
theorem c236_1 {s : Nat × (Nat → Int32)} {S : zS} {m0 m : zM} {B : Int} {d : Nat} {Q : Option zV → zM → Prop} (hd : 16 ≤ d) (hJ : J S m0 B m) (hB : B + 0 ≤ 1000000000) (hf28 : ¬ S.1 28) (hg4 : ¬ S.2.1 4) (hQ : ∀ m', f236_1 m = m' → J S m0 (B) m' → Q none m') : X (EE s) d 236 0 [(0, zr 4 44)] [] m Q := by
  refine X.aload_n 1 i236_0 rfl rfl rfl ?_
  refine X.callv 4 [] [] [(0, zr 4 44)] i236_1 rfl (by decide) rfl rfl (by omega) rfl rfl (by decide) rfl t235 (Nat.le_of_ble_eq_true rfl) (Nat.le_of_ble_eq_true rfl) rfl ?_
  refine c235_1 (B := B)   (by omega) (hJ.up (by omega)) (by omega)  (fun v503 hv503 hFv503 => ?_)
  show X (EE s) d 236 4 [(0, zr 4 44)] [zi v503] m _
  refine X.istore_n 5 [(0, zr 4 44), (1, zi v503)] i236_4 rfl rfl rfl ?_
  refine X.iload_n 6 i236_5 rfl rfl rfl ?_
  refine X.i2l 7 i236_6 rfl rfl ?_
  refine X.aload_n 8 i236_7 rfl rfl rfl ?_
  refine X.getF 11 i236_8 rfl rfl (by decide) rfl rfl ?_
  refine X.bipush 13 i236_11 rfl rfl (by decide) ?_
  refine X.lald 14 i236_13 rfl rfl (by decide) rfl (by omega) ?_
  have h504 := r45_9 hJ 4
  refine X.lcmp 15 i236_14 rfl rfl (fun z505 hz505 => ?_)
  refine X.ifge 19 18 i236_15 rfl rfl rfl (fun h506 => ?_) (fun h506 => ?_)
  · have h506c : ¬ v503 < (m 4 45 9) := by omega
    clear h506 hz505
    refine X.lconst (y := 0) 20 i236_19 rfl rfl rfl ?_
    refine X.lstore_n 21 [(0, zr 4 44), (1, zi v503), (2, zl 0)] i236_20 rfl rfl rfl ?_
    refine X.iconst 22 i236_21 rfl rfl (by decide) ?_
    refine X.istore 24 [(0, zr 4 44), (1, zi v503), (2, zl 0), (4, zi 0)] i236_22 rfl rfl rfl ?_
    have hz7 := zfu_eq 7
    refine l236_24_1 (s := s) (m := m) (B := B) (d := d) (R0 := (f236_1 m))  v503  (by omega) (hJ.up (by omega)) (by omega) (by omega) (fun  hR510 => ?_) (fun y511 hby511 hR515 => ?_) (zfu 7) 0 0 (by omega) (by omega) (Eq.trans (zn_eq hFv503.symm) (Eq.trans (if_neg h506c) rfl))
    · refine X.retv i236_95 rfl t236 ?_
      exact hQ  m  (Eq.trans hR510 rfl) (hJ.up (by omega)) 
    · refine X.aload_n 113 i236_112 rfl rfl rfl ?_
      refine X.getF 116 i236_113 rfl rfl (by decide) rfl rfl ?_
      refine X.bipush 118 i236_116 rfl rfl (by decide) ?_
      refine X.lload_n 119 i236_118 rfl rfl rfl ?_
      refine X.last' 120 i236_119 rfl rfl (by decide) rfl (by omega) (fun hrm516 m516 hm516 => ?_)
      have hJ517 := w45_19 hJ hm516 (by omega) hrm516 hf28 hg4
      refine X.aload_n 121 i236_120 rfl rfl rfl ?_
      refine X.getF 124 i236_121 rfl rfl (by decide) rfl rfl ?_
      refine X.bipush 126 i236_124 rfl rfl (by decide) ?_
      refine X.aload_n 127 i236_126 rfl rfl rfl ?_
      refine X.getF 130 i236_127 rfl rfl (by decide) rfl rfl ?_
      refine X.iconst 131 i236_130 rfl rfl (by decide) ?_
      refine X.lald 132 i236_131 rfl rfl (by decide) rfl (by omega) ?_
      have h518 := r45_0 hJ517 4
      refine X.last' 133 i236_132 rfl rfl (by decide) rfl (by omega) (fun hrm519 m519 hm519 => ?_)
      have hJ520 := w45_19 hJ517 hm519 (by omega) hrm519 hf28 hg4
      refine X.aload_n 134 i236_133 rfl rfl rfl ?_
      refine X.aload_n 135 i236_134 rfl rfl rfl ?_
      refine X.getF 138 i236_135 rfl rfl (by decide) rfl rfl ?_
      refine X.iconst 139 i236_138 rfl rfl (by decide) ?_
      refine X.lald 140 i236_139 rfl rfl (by decide) rfl (by omega) ?_
      have h521 := r45_0 hJ520 4
      refine X.l2i 141 i236_140 rfl rfl (by omega) ?_
      refine X.iconst 142 i236_141 rfl rfl (by decide) ?_
      refine X.isub 143 i236_142 rfl rfl (by omega) ?_
      refine X.callv 146 [zi ((m519 4 45 0) - 1)] [] [(0, zr 4 44), (1, zi ((m519 4 45 0) - 1))] i236_143 rfl (by decide) rfl rfl (by omega) rfl rfl (by decide) rfl t217 (Nat.le_of_ble_eq_true rfl) (Nat.le_of_ble_eq_true rfl) rfl ?_
      refine c217_1 (B := B)  ((m519 4 45 0) - 1) (by omega) (hJ520.up (by omega)) (by omega) (by omega) (fun v524 hv524 hFv524 => ?_)
      show X (EE s) d 236 146 [(0, zr 4 44), (2, zl y511)] [zi v524] m519 _
      refine X.istore 148 [(0, zr 4 44), (2, zl y511), (4, zi v524)] i236_146 rfl rfl rfl ?_
      refine X.lload_n 149 i236_148 rfl rfl rfl ?_
      refine X.aload_n 150 i236_149 rfl rfl rfl ?_
      refine X.getF 153 i236_150 rfl rfl (by decide) rfl rfl ?_
      refine X.bipush 155 i236_153 rfl rfl (by decide) ?_
      refine X.iload 157 i236_155 rfl rfl rfl ?_
      refine X.iadd 158 i236_157 rfl rfl (by omega) ?_
      refine X.lald 159 i236_158 rfl rfl (by decide) rfl (by omega) ?_
      refine X.lcmp 160 i236_159 rfl rfl (fun z525 hz525 => ?_)
      refine X.ifgt 164 163 i236_160 rfl rfl rfl (fun h526 => ?_) (fun h526 => ?_)
      · have h526c : ¬ y511 ≤ (m519 4 45 (32 + v524)) := by omega
        clear h526 hz525
        refine X.aload_n 165 i236_164 rfl rfl rfl ?_
        refine X.getF 168 i236_165 rfl rfl (by decide) rfl rfl ?_
        refine X.bipush 170 i236_168 rfl rfl (by decide) ?_
        refine X.iload 172 i236_170 rfl rfl rfl ?_
        refine X.iadd 173 i236_172 rfl rfl (by omega) ?_
        refine X.lload_n 174 i236_173 rfl rfl rfl ?_
        refine X.last' 175 i236_174 rfl rfl (by decide) rfl (by omega) (fun hrm527 m527 hm527 => ?_)
        have hJ528 := w45_32 hJ520 hm527 (by omega) hrm527 hf28 hg4
        refine X.aload_n 176 i236_175 rfl rfl rfl ?_
        refine X.getF 179 i236_176 rfl rfl (by decide) rfl rfl ?_
        refine X.bipush 181 i236_179 rfl rfl (by decide) ?_
        refine X.iload 183 i236_181 rfl rfl rfl ?_
        refine X.iadd 184 i236_183 rfl rfl (by omega) ?_
        refine X.aload_n 185 i236_184 rfl rfl rfl ?_
        refine X.getF 188 i236_185 rfl rfl (by decide) rfl rfl ?_
        refine X.iconst 189 i236_188 rfl rfl (by decide) ?_
        refine X.lald 190 i236_189 rfl rfl (by decide) rfl (by omega) ?_
        have h529 := r45_0 hJ528 4
        refine X.last' 191 i236_190 rfl rfl (by decide) rfl (by omega) (fun hrm530 m530 hm530 => ?_)
        have hJ531 := w45_32 hJ528 hm530 (by omega) hrm530 hf28 hg4
        refine X.retv i236_191 rfl t236 ?_
        exact hQ  m530  (Eq.trans hR515 (Eq.trans (zs_eq hm516) (Eq.trans (zs_eq hm519) (Eq.trans (zn_eq hFv524.symm) (Eq.trans (if_neg h526c) (Eq.trans (zs_eq hm527) (Eq.trans (zs_eq hm530) rfl))))))) (hJ531.up (by omega)) 
      · have h526c : y511 ≤ (m519 4 45 (32 + v524)) := by omega
        clear h526 hz525
        refine X.retv i236_163 rfl t236 ?_
        exact hQ  m519  (Eq.trans hR515 (Eq.trans (zs_eq hm516) (Eq.trans (zs_eq hm519) (Eq.trans (zn_eq hFv524.symm) (Eq.trans (if_pos h526c) rfl))))) (hJ520.up (by omega)) 
  · have h506c : v503 < (m 4 45 9) := by omega
    clear h506 hz505
    refine X.retv i236_18 rfl t236 ?_
    exact hQ  m  (Eq.trans (zn_eq hFv503.symm) (Eq.trans (if_pos h506c) rfl)) (hJ.up (by omega)) 
-- WorkMeterModel.line
theorem c234_6 {s : Nat × (Nat → Int32)} {S : zS} {m0 m : zM} {B : Int} {d : Nat} {Q : Option zV → zM → Prop} (a1 a2 : Int) (hd : 13 ≤ d) (hJ : J S m0 B m) (hB : B + 0 ≤ 1000000000) (ha1 : 0 ≤ a1 ∧ a1 ≤ 0) (ha2 : 1 ≤ a2 ∧ a2 ≤ 4) (hQ : ∀ (v : Int), (True) → f234_1 a1 a2 m = v → Q (some (zl v)) m) : X (EE s) d 234 0 [(0, zr 4 44), (1, zi a1), (2, zi a2)] [] m Q := by
  refine X.aload_n 1 i234_0 rfl rfl rfl ?_
  refine X.getF 4 i234_1 rfl rfl (by decide) rfl rfl ?_
  refine X.sipush 7 i234_4 rfl rfl (by decide) ?_
  refine X.bipush 9 i234_7 rfl rfl (by decide) ?_
  refine X.iload_n 10 i234_9 rfl rfl rfl ?_
  refine X.imul 11 i234_10 rfl rfl (by omega) ?_
  refine X.iadd 12 i234_11 rfl rfl (by omega) ?_
  refine X.iload_n 13 i234_12 rfl rfl rfl ?_
  refine X.iadd 14 i234_13 rfl rfl (by omega) ?_
  refine X.lald 15 i234_14 rfl rfl (by decide) rfl (by omega) ?_
  refine X.retl i234_15 rfl t234 ?_
  exact hQ (m 4 45 ((788 + (6 * a1)) + a2)) (by first | trivial | omega) rfl 
noncomputable def fl232_112_1_b (self : Int → zM → zM) (k147 : zM → zM) (y1 y3 : Int) (y5 : Int) (m : zM) : zM :=
  if 4 ≤ y5 then
  (k147 m)
  else
  (zn (f234_1 0 (1 + y5) m) fun v511 =>
  zn (w64 ((m 4 45 (1607 + y5)) + v511)) fun z512 =>
  zs (z_upd m 4 45 (1607 + y5) z512) fun m513 =>
  self (y5 + 1) m513)
noncomputable def fl232_112_1 (k147 : zM → zM) (y1 y3 : Int) : Nat → Int → zM → zM
  | 0 => fun y5 m => m
  | n + 1 => fl232_112_1_b (fl232_112_1 k147 y1 y3 n) k147 y1 y3
theorem l232_112_1 {s : Nat × (Nat → Int32)} {S : zS} {m0 : zM} {d : Nat} {Q : Option zV → zM → Prop} {R0 : zM} {k147 : zM → zM} (y1 y3 : Int) (BE : Int) (hE : BE ≤ 1000000000) (hd : 14 ≤ d) (hy1 : 0 ≤ y1 ∧ y1 ≤ 64) (hf27 : ¬ S.1 27) (hg4 : ¬ S.2.1 4)
    (K147 : ∀ (m' : zM) (B' : Int), J S m0 B' m' → B' ≤ BE → R0 = k147 m' → X (EE s) d 232 147 [(0, zr 4 44), (1, zl y1), (3, zl y3)] [] m' Q) :
    ∀ (n : Nat) (y5 : Int) (m : zM) (B : Int), J S m0 B m → B + 0 * (n : Int) ≤ BE → (0 ≤ y5 ∧ y5 ≤ 4) → 4 - y5 < (n : Int) → R0 = fl232_112_1 k147 y1 y3 n y5 m → X (EE s) d 232 112 [(0, zr 4 44), (1, zl y1), (3, zl y3), (5, zi y5)] [] m Q := by
  intro n
  induction n with
  | zero =>
    intro y5 m B hJ hB hy5 hn hR
    exfalso
    omega
  | succ n ih =>
    intro y5 m B hJ hB hy5 hn hR
    replace hR : R0 = fl232_112_1_b (fl232_112_1 k147 y1 y3 n) k147 y1 y3 y5 m := hR
    refine X.iload 114 i232_112 rfl rfl rfl ?_
    refine X.iconst 115 i232_114 rfl rfl (by decide) ?_
    refine X.icmpge 147 118 i232_115 rfl rfl rfl (fun h508 => ?_) (fun h508 => ?_)
    · refine X.cut [(0, zr 4 44), (1, zl y1), (3, zl y3)] i232_147 rfl ?_
      exact K147  m (B) (hJ.up (by omega)) (by omega)  (Eq.trans hR (Eq.trans (if_pos h508) rfl))
    · refine X.aload_n 119 i232_118 rfl rfl rfl ?_
      refine X.getF 122 i232_119 rfl rfl (by decide) rfl rfl ?_
      refine X.sipush 125 i232_122 rfl rfl (by decide) ?_
      refine X.iload 127 i232_125 rfl rfl rfl ?_
      refine X.iadd 128 i232_127 rfl rfl (by omega) ?_
      refine X.dup2 129 i232_128 rfl rfl ?_
      refine X.lald 130 i232_129 rfl rfl (by decide) rfl (by omega) ?_
      refine X.aload_n 131 i232_130 rfl rfl rfl ?_
      refine X.iconst 132 i232_131 rfl rfl (by decide) ?_
      refine X.iconst 133 i232_132 rfl rfl (by decide) ?_
      refine X.iload 135 i232_133 rfl rfl rfl ?_
      refine X.iadd 136 i232_135 rfl rfl (by omega) ?_
      refine X.callv 139 [zi 0, zi (1 + y5)] [zl (m 4 45 (1607 + y5)), zi (1607 + y5), zr 4 45] [(0, zr 4 44), (1, zi 0), (2, zi (1 + y5))] i232_136 rfl (by decide) rfl rfl (by omega) rfl rfl (by decide) rfl t234 (Nat.le_of_ble_eq_true rfl) (Nat.le_of_ble_eq_true rfl) rfl ?_
      refine c234_6 (B := B)  0 (1 + y5) (by omega) (hJ.up (by omega)) (by omega) (by omega) (by omega) (fun v511 hv511 hFv511 => ?_)
      show X (EE s) d 232 139 [(0, zr 4 44), (1, zl y1), (3, zl y3), (5, zi y5)] [zl v511, zl (m 4 45 (1607 + y5)), zi (1607 + y5), zr 4 45] m _
      refine X.laddW 140 i232_139 rfl rfl (fun z512 ez512 hz512 => ?_)
      refine X.last' 141 i232_140 rfl rfl (by decide) rfl (by omega) (fun hrm513 m513 hm513 => ?_)
      have hJ514 := w45_1607 hJ hm513 (by omega) hrm513 hf27 hg4
      refine X.iinc 144 [(0, zr 4 44), (1, zl y1), (3, zl y3), (5, zi (y5 + 1))] i232_141 rfl rfl rfl (by omega) rfl ?_
      refine X.goto 112 i232_144 rfl rfl ?_
      exact ih (y5 + 1) m513 (B) (hJ514.up (by omega)) (by omega) (by omega) (by omega) (Eq.trans hR (Eq.trans (if_neg h508) (Eq.trans (zn_eq hFv511.symm) (Eq.trans (zn_eq ez512) (Eq.trans (zs_eq hm513) rfl)))))
noncomputable def fl232_151_1_b (self : Int → zM → zM) (k190 : zM → zM) (y1 y3 : Int) (y5 : Int) (m : zM) : zM :=
  if 384 ≤ y5 then
  (k190 m)
  else
  (zs (z_upd m 4 45 ((788 + y5) - 6) (m 4 45 (788 + y5))) fun m505 =>
  self (y5 + 1) m505)
noncomputable def fl232_151_1 (k190 : zM → zM) (y1 y3 : Int) : Nat → Int → zM → zM
  | 0 => fun y5 m => m
  | n + 1 => fl232_151_1_b (fl232_151_1 k190 y1 y3 n) k190 y1 y3
theorem l232_151_1 {s : Nat × (Nat → Int32)} {S : zS} {m0 : zM} {d : Nat} {Q : Option zV → zM → Prop} {R0 : zM} {k190 : zM → zM} (y1 y3 : Int) (BE : Int) (hE : BE ≤ 1000000000) (hd : 13 ≤ d) (hy1 : 0 ≤ y1 ∧ y1 ≤ 64) (hf27 : ¬ S.1 27) (hg4 : ¬ S.2.1 4)
    (K190 : ∀ (m' : zM) (B' : Int), J S m0 B' m' → B' ≤ BE → R0 = k190 m' → X (EE s) d 232 190 [(0, zr 4 44), (1, zl y1), (3, zl y3)] [] m' Q) :
    ∀ (n : Nat) (y5 : Int) (m : zM) (B : Int), J S m0 B m → B + 0 * (n : Int) ≤ BE → (6 ≤ y5 ∧ y5 ≤ 384) → 384 - y5 < (n : Int) → R0 = fl232_151_1 k190 y1 y3 n y5 m → X (EE s) d 232 151 [(0, zr 4 44), (1, zl y1), (3, zl y3), (5, zi y5)] [] m Q := by
  intro n
  induction n with
  | zero =>
    intro y5 m B hJ hB hy5 hn hR
    exfalso
    omega
  | succ n ih =>
    intro y5 m B hJ hB hy5 hn hR
    replace hR : R0 = fl232_151_1_b (fl232_151_1 k190 y1 y3 n) k190 y1 y3 y5 m := hR
    refine X.iload 153 i232_151 rfl rfl rfl ?_
    refine X.sipush 156 i232_153 rfl rfl (by decide) ?_
    refine X.icmpge 190 159 i232_156 rfl rfl rfl (fun h504 => ?_) (fun h504 => ?_)
    · refine X.cut [(0, zr 4 44), (1, zl y1), (3, zl y3)] i232_190 rfl ?_
      exact K190  m (B) (hJ.up (by omega)) (by omega)  (Eq.trans hR (Eq.trans (if_pos h504) rfl))
    · refine X.aload_n 160 i232_159 rfl rfl rfl ?_
      refine X.getF 163 i232_160 rfl rfl (by decide) rfl rfl ?_
      refine X.sipush 166 i232_163 rfl rfl (by decide) ?_
      refine X.iload 168 i232_166 rfl rfl rfl ?_
      refine X.iadd 169 i232_168 rfl rfl (by omega) ?_
      refine X.bipush 171 i232_169 rfl rfl (by decide) ?_
      refine X.isub 172 i232_171 rfl rfl (by omega) ?_
      refine X.aload_n 173 i232_172 rfl rfl rfl ?_
      refine X.getF 176 i232_173 rfl rfl (by decide) rfl rfl ?_
      refine X.sipush 179 i232_176 rfl rfl (by decide) ?_
      refine X.iload 181 i232_179 rfl rfl rfl ?_
      refine X.iadd 182 i232_181 rfl rfl (by omega) ?_
      refine X.lald 183 i232_182 rfl rfl (by decide) rfl (by omega) ?_
      refine X.last' 184 i232_183 rfl rfl (by decide) rfl (by omega) (fun hrm505 m505 hm505 => ?_)
      have hJ506 := w45_788 hJ hm505 (by omega) hrm505 hf27 hg4
      refine X.iinc 187 [(0, zr 4 44), (1, zl y1), (3, zl y3), (5, zi (y5 + 1))] i232_184 rfl rfl rfl (by omega) rfl ?_
      refine X.goto 151 i232_187 rfl rfl ?_
      exact ih (y5 + 1) m505 (B) (hJ506.up (by omega)) (by omega) (by omega) (by omega) (Eq.trans hR (Eq.trans (if_neg h504) (Eq.trans (zs_eq hm505) rfl)))
-- WorkMeterModel.ends
noncomputable def f232_1 (a1 : Int) (m : zM) : zM :=
  zn (w64 ((m 4 45 25) + (m 4 45 26))) fun z501 =>
  if z501 = 0 then
  (zs (f233_1 m) fun m618 =>
  m618)
  else
  (zn (if (m 4 45 26) ≤ 0 then
  (0)
  else
  (32)) fun v506 =>
  zn (zorL (m 4 45 27) v506) fun z511 =>
  zn (zorL z511 a1) fun z512 =>
  zn (if (m 4 45 21) = 1 then
  (128)
  else
  (zn (((m 4 45 0) % (m 4 45 8))) fun z517 =>
  if z517 = 0 then
  (0)
  else
  (128))) fun v520 =>
  zn (zorL z512 v520) fun z525 =>
  if (m 4 45 17) < 64 then
  (zn (f235_1 m) fun v531 =>
  zn (if 64 ≤ v531 then
  (63)
  else
  (zn (f235_1 m) fun v535 =>
  v535)) fun v536 =>
  zs (z_upd m 4 45 17 ((m 4 45 17) + 1)) fun m541 =>
  zs (z_upd m541 4 45 (788 + (6 * v536)) (m541 4 45 0)) fun m544 =>
  zs (z_upd m544 4 45 ((788 + (6 * v536)) + 1) (m544 4 45 22)) fun m546 =>
  zs (z_upd m546 4 45 ((788 + (6 * v536)) + 2) (m546 4 45 23)) fun m548 =>
  zs (z_upd m548 4 45 ((788 + (6 * v536)) + 3) (m548 4 45 24)) fun m550 =>
  zs (z_upd m550 4 45 ((788 + (6 * v536)) + 4) (m550 4 45 25)) fun m552 =>
  zs (z_upd m552 4 45 ((788 + (6 * v536)) + 5) z525) fun m554 =>
  zs (f233_1 m554) fun m556 =>
  zs (if a1 = 0 then
  (zs (f236_1 m556) fun m561 =>
  m561)
  else
  (m556)) fun m565 =>
  m565)
  else
  (fl232_112_1 (fun m569 =>
  fl232_151_1 (fun m573 =>
  zn (f235_1 m573) fun v579 =>
  zn (if 64 ≤ v579 then
  (63)
  else
  (zn (f235_1 m573) fun v583 =>
  v583)) fun v584 =>
  zs (z_upd m573 4 45 17 ((m573 4 45 17) + 1)) fun m590 =>
  zs (z_upd m590 4 45 (788 + (6 * v584)) (m590 4 45 0)) fun m593 =>
  zs (z_upd m593 4 45 ((788 + (6 * v584)) + 1) (m593 4 45 22)) fun m595 =>
  zs (z_upd m595 4 45 ((788 + (6 * v584)) + 2) (m595 4 45 23)) fun m597 =>
  zs (z_upd m597 4 45 ((788 + (6 * v584)) + 3) (m597 4 45 24)) fun m599 =>
  zs (z_upd m599 4 45 ((788 + (6 * v584)) + 4) (m599 4 45 25)) fun m601 =>
  zs (z_upd m601 4 45 ((788 + (6 * v584)) + 5) z525) fun m603 =>
  zs (f233_1 m603) fun m605 =>
  zs (if a1 = 0 then
  (zs (f236_1 m605) fun m610 =>
  m610)
  else
  (m605)) fun m614 =>
  m614) a1 z525 (zfu 379) 6 m569) a1 z525 (zfu 5) 0 m))
-- WorkMeterModel.ends
theorem c232_1 {s : Nat × (Nat → Int32)} {S : zS} {m0 m : zM} {B : Int} {d : Nat} {Q : Option zV → zM → Prop} (a1 : Int) (hd : 17 ≤ d) (hJ : J S m0 B m) (hB : B + 1 ≤ 1000000000) (ha1 : 0 ≤ a1 ∧ a1 ≤ 64) (hf27 : ¬ S.1 27) (hf28 : ¬ S.1 28) (hg4 : ¬ S.2.1 4) (hQ : ∀ m', f232_1 a1 m = m' → J S m0 (B + 1) m' → Q none m') : X (EE s) d 232 0 [(0, zr 4 44), (1, zl a1)] [] m Q := by
  refine X.aload_n 1 i232_0 rfl rfl rfl ?_
  refine X.getF 4 i232_1 rfl rfl (by decide) rfl rfl ?_
  refine X.bipush 6 i232_4 rfl rfl (by decide) ?_
  refine X.lald 7 i232_6 rfl rfl (by decide) rfl (by omega) ?_
  refine X.aload_n 8 i232_7 rfl rfl rfl ?_
  refine X.getF 11 i232_8 rfl rfl (by decide) rfl rfl ?_
  refine X.bipush 13 i232_11 rfl rfl (by decide) ?_
  refine X.lald 14 i232_13 rfl rfl (by decide) rfl (by omega) ?_
  refine X.laddW 15 i232_14 rfl rfl (fun z501 ez501 hz501 => ?_)
  refine X.lconst (y := 0) 16 i232_15 rfl rfl rfl ?_
  refine X.lcmp 17 i232_16 rfl rfl (fun z502 hz502 => ?_)
  refine X.ifne 25 20 i232_17 rfl rfl rfl (fun h503 => ?_) (fun h503 => ?_)
  · have h503c : ¬ z501 = 0 := by omega
    clear h503 hz502
    refine X.aload_n 26 i232_25 rfl rfl rfl ?_
    refine X.getF 29 i232_26 rfl rfl (by decide) rfl rfl ?_
    refine X.bipush 31 i232_29 rfl rfl (by decide) ?_
    refine X.lald 32 i232_31 rfl rfl (by decide) rfl (by omega) ?_
    refine X.aload_n 33 i232_32 rfl rfl rfl ?_
    refine X.getF 36 i232_33 rfl rfl (by decide) rfl rfl ?_
    refine X.bipush 38 i232_36 rfl rfl (by decide) ?_
    refine X.lald 39 i232_38 rfl rfl (by decide) rfl (by omega) ?_
    refine X.lconst (y := 0) 40 i232_39 rfl rfl rfl ?_
    refine X.lcmp 41 i232_40 rfl rfl (fun z504 hz504 => ?_)
    have hK509 : ∀ (v : Int) , (0 ≤ v ∧ v ≤ 32) → (if (m 4 45 26) ≤ 0 then
        (0)
        else
        (32)) = v → X (EE s) d 232 50 [(0, zr 4 44), (1, zl a1)] [zi v, zl (m 4 45 27)] m Q := by
      intro v506 hv506 hT510
      refine X.i2l 51 i232_50 rfl rfl ?_
      refine X.llE 52 .lor (fun x y => x ||| y) i232_51 rfl rfl rfl (fun _ _ => rfl) (fun z511 ez511 hz511 => ?_)
      refine X.lload_n 53 i232_52 rfl rfl rfl ?_
      refine X.llE 54 .lor (fun x y => x ||| y) i232_53 rfl rfl rfl (fun _ _ => rfl) (fun z512 ez512 hz512 => ?_)
      refine X.aload_n 55 i232_54 rfl rfl rfl ?_
      refine X.getF 58 i232_55 rfl rfl (by decide) rfl rfl ?_
      refine X.bipush 60 i232_58 rfl rfl (by decide) ?_
      refine X.lald 61 i232_60 rfl rfl (by decide) rfl (by omega) ?_
      refine X.lconst (y := 1) 62 i232_61 rfl rfl rfl ?_
      refine X.lcmp 63 i232_62 rfl rfl (fun z513 hz513 => ?_)
      have hK523 : ∀ (v : Int) , (0 ≤ v ∧ v ≤ 128) → (if (m 4 45 21) = 1 then
          (128)
          else
          (zn (((m 4 45 0) % (m 4 45 8))) fun z517 =>
          if z517 = 0 then
          (0)
          else
          (128))) = v → X (EE s) d 232 92 [(0, zr 4 44), (1, zl a1)] [zi v, zl z512] m Q := by
        intro v520 hv520 hT524
        refine X.i2l 93 i232_92 rfl rfl ?_
        refine X.llE 94 .lor (fun x y => x ||| y) i232_93 rfl rfl rfl (fun _ _ => rfl) (fun z525 ez525 hz525 => ?_)
        refine X.lstore_n 95 [(0, zr 4 44), (1, zl a1), (3, zl z525)] i232_94 rfl rfl rfl ?_
        refine X.aload_n 96 i232_95 rfl rfl rfl ?_
        refine X.getF 99 i232_96 rfl rfl (by decide) rfl rfl ?_
        refine X.bipush 101 i232_99 rfl rfl (by decide) ?_
        refine X.lald 102 i232_101 rfl rfl (by decide) rfl (by omega) ?_
        have h526 := r45_17 hJ 4
        refine X.ldc2 105 i232_102 rfl rfl (by decide) ?_
        refine X.lcmp 106 i232_105 rfl rfl (fun z527 hz527 => ?_)
        refine X.iflt 190 109 i232_106 rfl rfl rfl (fun h528 => ?_) (fun h528 => ?_)
        · have h528c : (m 4 45 17) < 64 := by omega
          clear h528 hz527
          refine X.sipush 193 i232_190 rfl rfl (by decide) ?_
          refine X.bipush 195 i232_193 rfl rfl (by decide) ?_
          refine X.aload_n 196 i232_195 rfl rfl rfl ?_
          refine X.callv 199 [] [zi 6, zi 788] [(0, zr 4 44)] i232_196 rfl (by decide) rfl rfl (by omega) rfl rfl (by decide) rfl t235 (Nat.le_of_ble_eq_true rfl) (Nat.le_of_ble_eq_true rfl) rfl ?_
          refine c235_1 (B := B)   (by omega) (hJ.up (by omega)) (by omega)  (fun v531 hv531 hFv531 => ?_)
          show X (EE s) d 232 199 [(0, zr 4 44), (1, zl a1), (3, zl z525)] [zi v531, zi 6, zi 788] m _
          refine X.bipush 201 i232_199 rfl rfl (by decide) ?_
          have hK539 : ∀ (v : Int) , (0 ≤ v ∧ v ≤ 63) → (if 64 ≤ v531 then
              (63)
              else
              (zn (f235_1 m) fun v535 =>
              v535)) = v → X (EE s) d 232 213 [(0, zr 4 44), (1, zl a1), (3, zl z525)] [zi v, zi 6, zi 788] m Q := by
            intro v536 hv536 hT540
            refine X.imul 214 i232_213 rfl rfl (by omega) ?_
            refine X.iadd 215 i232_214 rfl rfl (by omega) ?_
            refine X.istore 217 [(0, zr 4 44), (1, zl a1), (3, zl z525), (5, zi (788 + (6 * v536)))] i232_215 rfl rfl rfl ?_
            refine X.aload_n 218 i232_217 rfl rfl rfl ?_
            refine X.getF 221 i232_218 rfl rfl (by decide) rfl rfl ?_
            refine X.bipush 223 i232_221 rfl rfl (by decide) ?_
            refine X.dup2 224 i232_223 rfl rfl ?_
            refine X.lald 225 i232_224 rfl rfl (by decide) rfl (by omega) ?_
            refine X.lconst (y := 1) 226 i232_225 rfl rfl rfl ?_
            refine X.ladd 227 i232_226 rfl rfl (by omega) ?_
            refine X.last' 228 i232_227 rfl rfl (by decide) rfl (by omega) (fun hrm541 m541 hm541 => ?_)
            have hJ542 := w45_17 (hJ.up (B' := B + 1) (by omega)) hm541 (by omega) hf27 hg4
            refine X.aload_n 229 i232_228 rfl rfl rfl ?_
            refine X.getF 232 i232_229 rfl rfl (by decide) rfl rfl ?_
            refine X.iload 234 i232_232 rfl rfl rfl ?_
            refine X.aload_n 235 i232_234 rfl rfl rfl ?_
            refine X.getF 238 i232_235 rfl rfl (by decide) rfl rfl ?_
            refine X.iconst 239 i232_238 rfl rfl (by decide) ?_
            refine X.lald 240 i232_239 rfl rfl (by decide) rfl (by omega) ?_
            have h543 := r45_0 hJ542 4
            refine X.last' 241 i232_240 rfl rfl (by decide) rfl (by omega) (fun hrm544 m544 hm544 => ?_)
            have hJ545 := w45_788 hJ542 hm544 (by omega) hrm544 hf27 hg4
            refine X.aload_n 242 i232_241 rfl rfl rfl ?_
            refine X.getF 245 i232_242 rfl rfl (by decide) rfl rfl ?_
            refine X.iload 247 i232_245 rfl rfl rfl ?_
            refine X.iconst 248 i232_247 rfl rfl (by decide) ?_
            refine X.iadd 249 i232_248 rfl rfl (by omega) ?_
            refine X.aload_n 250 i232_249 rfl rfl rfl ?_
            refine X.getF 253 i232_250 rfl rfl (by decide) rfl rfl ?_
            refine X.bipush 255 i232_253 rfl rfl (by decide) ?_
            refine X.lald 256 i232_255 rfl rfl (by decide) rfl (by omega) ?_
            refine X.last' 257 i232_256 rfl rfl (by decide) rfl (by omega) (fun hrm546 m546 hm546 => ?_)
            have hJ547 := w45_788 hJ545 hm546 (by omega) hrm546 hf27 hg4
            refine X.aload_n 258 i232_257 rfl rfl rfl ?_
            refine X.getF 261 i232_258 rfl rfl (by decide) rfl rfl ?_
            refine X.iload 263 i232_261 rfl rfl rfl ?_
            refine X.iconst 264 i232_263 rfl rfl (by decide) ?_
            refine X.iadd 265 i232_264 rfl rfl (by omega) ?_
            refine X.aload_n 266 i232_265 rfl rfl rfl ?_
            refine X.getF 269 i232_266 rfl rfl (by decide) rfl rfl ?_
            refine X.bipush 271 i232_269 rfl rfl (by decide) ?_
            refine X.lald 272 i232_271 rfl rfl (by decide) rfl (by omega) ?_
            refine X.last' 273 i232_272 rfl rfl (by decide) rfl (by omega) (fun hrm548 m548 hm548 => ?_)
            have hJ549 := w45_788 hJ547 hm548 (by omega) hrm548 hf27 hg4
            refine X.aload_n 274 i232_273 rfl rfl rfl ?_
            refine X.getF 277 i232_274 rfl rfl (by decide) rfl rfl ?_
            refine X.iload 279 i232_277 rfl rfl rfl ?_
            refine X.iconst 280 i232_279 rfl rfl (by decide) ?_
            refine X.iadd 281 i232_280 rfl rfl (by omega) ?_
            refine X.aload_n 282 i232_281 rfl rfl rfl ?_
            refine X.getF 285 i232_282 rfl rfl (by decide) rfl rfl ?_
            refine X.bipush 287 i232_285 rfl rfl (by decide) ?_
            refine X.lald 288 i232_287 rfl rfl (by decide) rfl (by omega) ?_
            refine X.last' 289 i232_288 rfl rfl (by decide) rfl (by omega) (fun hrm550 m550 hm550 => ?_)
            have hJ551 := w45_788 hJ549 hm550 (by omega) hrm550 hf27 hg4
            refine X.aload_n 290 i232_289 rfl rfl rfl ?_
            refine X.getF 293 i232_290 rfl rfl (by decide) rfl rfl ?_
            refine X.iload 295 i232_293 rfl rfl rfl ?_
            refine X.iconst 296 i232_295 rfl rfl (by decide) ?_
            refine X.iadd 297 i232_296 rfl rfl (by omega) ?_
            refine X.aload_n 298 i232_297 rfl rfl rfl ?_
            refine X.getF 301 i232_298 rfl rfl (by decide) rfl rfl ?_
            refine X.bipush 303 i232_301 rfl rfl (by decide) ?_
            refine X.lald 304 i232_303 rfl rfl (by decide) rfl (by omega) ?_
            refine X.last' 305 i232_304 rfl rfl (by decide) rfl (by omega) (fun hrm552 m552 hm552 => ?_)
            have hJ553 := w45_788 hJ551 hm552 (by omega) hrm552 hf27 hg4
            refine X.aload_n 306 i232_305 rfl rfl rfl ?_
            refine X.getF 309 i232_306 rfl rfl (by decide) rfl rfl ?_
            refine X.iload 311 i232_309 rfl rfl rfl ?_
            refine X.iconst 312 i232_311 rfl rfl (by decide) ?_
            refine X.iadd 313 i232_312 rfl rfl (by omega) ?_
            refine X.lload_n 314 i232_313 rfl rfl rfl ?_
            refine X.last' 315 i232_314 rfl rfl (by decide) rfl (by omega) (fun hrm554 m554 hm554 => ?_)
            have hJ555 := w45_788 hJ553 hm554 (by omega) hrm554 hf27 hg4
            refine X.aload_n 316 i232_315 rfl rfl rfl ?_
            refine X.callv 319 [] [] [(0, zr 4 44)] i232_316 rfl (by decide) rfl rfl (by omega) rfl rfl (by decide) rfl t233 (Nat.le_of_ble_eq_true rfl) (Nat.le_of_ble_eq_true rfl) rfl ?_
            refine c233_1 (B := B + 1)   (by omega) (hJ555.up (by omega)) (by omega)  hf27 hg4 (fun m556 hFv558 hJ557 => ?_)
            show X (EE s) d 232 319 [(0, zr 4 44), (1, zl a1), (3, zl z525), (5, zi (788 + (6 * v536)))] [] m556 _
            refine X.lload_n 320 i232_319 rfl rfl rfl ?_
            refine X.lconst (y := 0) 321 i232_320 rfl rfl rfl ?_
            refine X.lcmp 322 i232_321 rfl rfl (fun z559 hz559 => ?_)
            have hK567 : ∀ (m' : zM), (if a1 = 0 then
                (zs (f236_1 m556) fun m561 =>
                m561)
                else
                (m556)) = m' → J S m0 (B + 1) m' → X (EE s) d 232 329 [] [] m' Q := by
              intro m565 hT568 hJ566
              refine X.retv i232_329 rfl t232 ?_
              exact hQ  m565  (Eq.trans (zn_eq ez501) (Eq.trans (if_neg h503c) (Eq.trans (zn_eq hT510.symm) (Eq.trans (zn_eq ez511) (Eq.trans (zn_eq ez512) (Eq.trans (zn_eq hT524.symm) (Eq.trans (zn_eq ez525) (Eq.trans (if_pos h528c) (Eq.trans (zn_eq hFv531.symm) (Eq.trans (zn_eq hT540.symm) (Eq.trans (zs_eq hm541) (Eq.trans (zs_eq hm544) (Eq.trans (zs_eq hm546) (Eq.trans (zs_eq hm548) (Eq.trans (zs_eq hm550) (Eq.trans (zs_eq hm552) (Eq.trans (zs_eq hm554) (Eq.trans (zs_eq hFv558.symm) (Eq.trans (zs_eq hT568.symm) rfl))))))))))))))))))) (hJ566.up (by omega)) 
            refine X.ifne 329 325 i232_322 rfl rfl rfl (fun h560 => ?_) (fun h560 => ?_)
            · have h560c : ¬ a1 = 0 := by omega
              clear h560 hz559
              refine X.cut [] i232_329 rfl ?_
              exact hK567 m556 (Eq.trans (if_neg h560c) rfl) (hJ557.up (by omega))
            · have h560c : a1 = 0 := by omega
              clear h560 hz559
              refine X.aload_n 326 i232_325 rfl rfl rfl ?_
              refine X.callv 329 [] [] [(0, zr 4 44)] i232_326 rfl (by decide) rfl rfl (by omega) rfl rfl (by decide) rfl t236 (Nat.le_of_ble_eq_true rfl) (Nat.le_of_ble_eq_true rfl) rfl ?_
              refine c236_1 (B := B + 1)   (by omega) (hJ557.up (by omega)) (by omega)  hf28 hg4 (fun m561 hFv563 hJ562 => ?_)
              show X (EE s) d 232 329 [(0, zr 4 44), (1, zl a1), (3, zl z525), (5, zi (788 + (6 * v536)))] [] m561 _
              refine X.cut [] i232_329 rfl ?_
              exact hK567 m561 (Eq.trans (if_pos h560c) (Eq.trans (zs_eq hFv563.symm) rfl)) (hJ562.up (by omega))
          refine X.icmpge 211 204 i232_201 rfl rfl rfl (fun h532 => ?_) (fun h532 => ?_)
          · refine X.bipush 213 i232_211 rfl rfl (by decide) ?_
            exact hK539 63 (by first | trivial | omega) (Eq.trans (if_pos h532) rfl)
          · refine X.aload_n 205 i232_204 rfl rfl rfl ?_
            refine X.callv 208 [] [zi 6, zi 788] [(0, zr 4 44)] i232_205 rfl (by decide) rfl rfl (by omega) rfl rfl (by decide) rfl t235 (Nat.le_of_ble_eq_true rfl) (Nat.le_of_ble_eq_true rfl) rfl ?_
            refine c235_1 (B := B)   (by omega) (hJ.up (by omega)) (by omega)  (fun v535 hv535 hFv535 => ?_)
            show X (EE s) d 232 208 [(0, zr 4 44), (1, zl a1), (3, zl z525)] [zi v535, zi 6, zi 788] m _
            refine X.goto 213 i232_208 rfl rfl ?_
            exact hK539 v535 (by first | trivial | omega) (Eq.trans (if_neg h532) (Eq.trans (zn_eq hFv535.symm) rfl))
        · have h528c : ¬ (m 4 45 17) < 64 := by omega
          clear h528 hz527
          refine X.iconst 110 i232_109 rfl rfl (by decide) ?_
          refine X.istore 112 [(0, zr 4 44), (1, zl a1), (3, zl z525), (5, zi 0)] i232_110 rfl rfl rfl ?_
          have hz5 := zfu_eq 5
          refine l232_112_1 (s := s) (d := d) (R0 := (f232_1 a1 m))  a1 z525  (BE := B + 0) (by omega) (by omega) (by omega) hf27 hg4 (fun  m569 B570 hJ571 hBB570 hR572 => ?_) (zfu 5) 0 m (B) (hJ.up (by omega)) (by omega) (by omega) (by omega) (Eq.trans (zn_eq ez501) (Eq.trans (if_neg h503c) (Eq.trans (zn_eq hT510.symm) (Eq.trans (zn_eq ez511) (Eq.trans (zn_eq ez512) (Eq.trans (zn_eq hT524.symm) (Eq.trans (zn_eq ez525) (Eq.trans (if_neg h528c) rfl))))))))
          refine X.bipush 149 i232_147 rfl rfl (by decide) ?_
          refine X.istore 151 [(0, zr 4 44), (1, zl a1), (3, zl z525), (5, zi 6)] i232_149 rfl rfl rfl ?_
          have hz379 := zfu_eq 379
          refine l232_151_1 (s := s) (d := d)  a1 z525  (BE := B570 + 0) (by omega) (by omega) (by omega) hf27 hg4 (fun  m573 B574 hJ575 hBB574 hR576 => ?_) (zfu 379) 6 m569 (B570) (hJ571.up (by omega)) (by omega) (by omega) (by omega) (Eq.trans hR572 rfl)
          refine X.sipush 193 i232_190 rfl rfl (by decide) ?_
          refine X.bipush 195 i232_193 rfl rfl (by decide) ?_
          refine X.aload_n 196 i232_195 rfl rfl rfl ?_
          refine X.callv 199 [] [zi 6, zi 788] [(0, zr 4 44)] i232_196 rfl (by decide) rfl rfl (by omega) rfl rfl (by decide) rfl t235 (Nat.le_of_ble_eq_true rfl) (Nat.le_of_ble_eq_true rfl) rfl ?_
          refine c235_1 (B := B574)   (by omega) (hJ575.up (by omega)) (by omega)  (fun v579 hv579 hFv579 => ?_)
          show X (EE s) d 232 199 [(0, zr 4 44), (1, zl a1), (3, zl z525)] [zi v579, zi 6, zi 788] m573 _
          refine X.bipush 201 i232_199 rfl rfl (by decide) ?_
          have hK587 : ∀ (v : Int) , (0 ≤ v ∧ v ≤ 63) → (if 64 ≤ v579 then
              (63)
              else
              (zn (f235_1 m573) fun v583 =>
              v583)) = v → X (EE s) d 232 213 [(0, zr 4 44), (1, zl a1), (3, zl z525)] [zi v, zi 6, zi 788] m573 Q := by
            intro v584 hv584 hT588
            refine X.imul 214 i232_213 rfl rfl (by omega) ?_
            refine X.iadd 215 i232_214 rfl rfl (by omega) ?_
            refine X.istore 217 [(0, zr 4 44), (1, zl a1), (3, zl z525), (5, zi (788 + (6 * v584)))] i232_215 rfl rfl rfl ?_
            refine X.aload_n 218 i232_217 rfl rfl rfl ?_
            refine X.getF 221 i232_218 rfl rfl (by decide) rfl rfl ?_
            refine X.bipush 223 i232_221 rfl rfl (by decide) ?_
            refine X.dup2 224 i232_223 rfl rfl ?_
            refine X.lald 225 i232_224 rfl rfl (by decide) rfl (by omega) ?_
            have h589 := r45_17 hJ575 4
            refine X.lconst (y := 1) 226 i232_225 rfl rfl rfl ?_
            refine X.ladd 227 i232_226 rfl rfl (by omega) ?_
            refine X.last' 228 i232_227 rfl rfl (by decide) rfl (by omega) (fun hrm590 m590 hm590 => ?_)
            have hJ591 := w45_17 (hJ575.up (B' := B574 + 1) (by omega)) hm590 (by omega) hf27 hg4
            refine X.aload_n 229 i232_228 rfl rfl rfl ?_
            refine X.getF 232 i232_229 rfl rfl (by decide) rfl rfl ?_
            refine X.iload 234 i232_232 rfl rfl rfl ?_
            refine X.aload_n 235 i232_234 rfl rfl rfl ?_
            refine X.getF 238 i232_235 rfl rfl (by decide) rfl rfl ?_
            refine X.iconst 239 i232_238 rfl rfl (by decide) ?_
            refine X.lald 240 i232_239 rfl rfl (by decide) rfl (by omega) ?_
            have h592 := r45_0 hJ591 4
            refine X.last' 241 i232_240 rfl rfl (by decide) rfl (by omega) (fun hrm593 m593 hm593 => ?_)
            have hJ594 := w45_788 hJ591 hm593 (by omega) hrm593 hf27 hg4
            refine X.aload_n 242 i232_241 rfl rfl rfl ?_
            refine X.getF 245 i232_242 rfl rfl (by decide) rfl rfl ?_
            refine X.iload 247 i232_245 rfl rfl rfl ?_
            refine X.iconst 248 i232_247 rfl rfl (by decide) ?_
            refine X.iadd 249 i232_248 rfl rfl (by omega) ?_
            refine X.aload_n 250 i232_249 rfl rfl rfl ?_
            refine X.getF 253 i232_250 rfl rfl (by decide) rfl rfl ?_
            refine X.bipush 255 i232_253 rfl rfl (by decide) ?_
            refine X.lald 256 i232_255 rfl rfl (by decide) rfl (by omega) ?_
            refine X.last' 257 i232_256 rfl rfl (by decide) rfl (by omega) (fun hrm595 m595 hm595 => ?_)
            have hJ596 := w45_788 hJ594 hm595 (by omega) hrm595 hf27 hg4
            refine X.aload_n 258 i232_257 rfl rfl rfl ?_
            refine X.getF 261 i232_258 rfl rfl (by decide) rfl rfl ?_
            refine X.iload 263 i232_261 rfl rfl rfl ?_
            refine X.iconst 264 i232_263 rfl rfl (by decide) ?_
            refine X.iadd 265 i232_264 rfl rfl (by omega) ?_
            refine X.aload_n 266 i232_265 rfl rfl rfl ?_
            refine X.getF 269 i232_266 rfl rfl (by decide) rfl rfl ?_
            refine X.bipush 271 i232_269 rfl rfl (by decide) ?_
            refine X.lald 272 i232_271 rfl rfl (by decide) rfl (by omega) ?_
            refine X.last' 273 i232_272 rfl rfl (by decide) rfl (by omega) (fun hrm597 m597 hm597 => ?_)
            have hJ598 := w45_788 hJ596 hm597 (by omega) hrm597 hf27 hg4
            refine X.aload_n 274 i232_273 rfl rfl rfl ?_
            refine X.getF 277 i232_274 rfl rfl (by decide) rfl rfl ?_
            refine X.iload 279 i232_277 rfl rfl rfl ?_
            refine X.iconst 280 i232_279 rfl rfl (by decide) ?_
            refine X.iadd 281 i232_280 rfl rfl (by omega) ?_
            refine X.aload_n 282 i232_281 rfl rfl rfl ?_
            refine X.getF 285 i232_282 rfl rfl (by decide) rfl rfl ?_
            refine X.bipush 287 i232_285 rfl rfl (by decide) ?_
            refine X.lald 288 i232_287 rfl rfl (by decide) rfl (by omega) ?_
            refine X.last' 289 i232_288 rfl rfl (by decide) rfl (by omega) (fun hrm599 m599 hm599 => ?_)
            have hJ600 := w45_788 hJ598 hm599 (by omega) hrm599 hf27 hg4
            refine X.aload_n 290 i232_289 rfl rfl rfl ?_
            refine X.getF 293 i232_290 rfl rfl (by decide) rfl rfl ?_
            refine X.iload 295 i232_293 rfl rfl rfl ?_
            refine X.iconst 296 i232_295 rfl rfl (by decide) ?_
            refine X.iadd 297 i232_296 rfl rfl (by omega) ?_
            refine X.aload_n 298 i232_297 rfl rfl rfl ?_
            refine X.getF 301 i232_298 rfl rfl (by decide) rfl rfl ?_
            refine X.bipush 303 i232_301 rfl rfl (by decide) ?_
            refine X.lald 304 i232_303 rfl rfl (by decide) rfl (by omega) ?_
            refine X.last' 305 i232_304 rfl rfl (by decide) rfl (by omega) (fun hrm601 m601 hm601 => ?_)
            have hJ602 := w45_788 hJ600 hm601 (by omega) hrm601 hf27 hg4
            refine X.aload_n 306 i232_305 rfl rfl rfl ?_
            refine X.getF 309 i232_306 rfl rfl (by decide) rfl rfl ?_
            refine X.iload 311 i232_309 rfl rfl rfl ?_
            refine X.iconst 312 i232_311 rfl rfl (by decide) ?_
            refine X.iadd 313 i232_312 rfl rfl (by omega) ?_
            refine X.lload_n 314 i232_313 rfl rfl rfl ?_
            refine X.last' 315 i232_314 rfl rfl (by decide) rfl (by omega) (fun hrm603 m603 hm603 => ?_)
            have hJ604 := w45_788 hJ602 hm603 (by omega) hrm603 hf27 hg4
            refine X.aload_n 316 i232_315 rfl rfl rfl ?_
            refine X.callv 319 [] [] [(0, zr 4 44)] i232_316 rfl (by decide) rfl rfl (by omega) rfl rfl (by decide) rfl t233 (Nat.le_of_ble_eq_true rfl) (Nat.le_of_ble_eq_true rfl) rfl ?_
            refine c233_1 (B := B574 + 1)   (by omega) (hJ604.up (by omega)) (by omega)  hf27 hg4 (fun m605 hFv607 hJ606 => ?_)
            show X (EE s) d 232 319 [(0, zr 4 44), (1, zl a1), (3, zl z525), (5, zi (788 + (6 * v584)))] [] m605 _
            refine X.lload_n 320 i232_319 rfl rfl rfl ?_
            refine X.lconst (y := 0) 321 i232_320 rfl rfl rfl ?_
            refine X.lcmp 322 i232_321 rfl rfl (fun z608 hz608 => ?_)
            have hK616 : ∀ (m' : zM), (if a1 = 0 then
                (zs (f236_1 m605) fun m610 =>
                m610)
                else
                (m605)) = m' → J S m0 (B574 + 1) m' → X (EE s) d 232 329 [] [] m' Q := by
              intro m614 hT617 hJ615
              refine X.retv i232_329 rfl t232 ?_
              exact hQ  m614  (Eq.trans hR576 (Eq.trans (zn_eq hFv579.symm) (Eq.trans (zn_eq hT588.symm) (Eq.trans (zs_eq hm590) (Eq.trans (zs_eq hm593) (Eq.trans (zs_eq hm595) (Eq.trans (zs_eq hm597) (Eq.trans (zs_eq hm599) (Eq.trans (zs_eq hm601) (Eq.trans (zs_eq hm603) (Eq.trans (zs_eq hFv607.symm) (Eq.trans (zs_eq hT617.symm) rfl)))))))))))) (hJ615.up (by omega)) 
            refine X.ifne 329 325 i232_322 rfl rfl rfl (fun h609 => ?_) (fun h609 => ?_)
            · have h609c : ¬ a1 = 0 := by omega
              clear h609 hz608
              refine X.cut [] i232_329 rfl ?_
              exact hK616 m605 (Eq.trans (if_neg h609c) rfl) (hJ606.up (by omega))
            · have h609c : a1 = 0 := by omega
              clear h609 hz608
              refine X.aload_n 326 i232_325 rfl rfl rfl ?_
              refine X.callv 329 [] [] [(0, zr 4 44)] i232_326 rfl (by decide) rfl rfl (by omega) rfl rfl (by decide) rfl t236 (Nat.le_of_ble_eq_true rfl) (Nat.le_of_ble_eq_true rfl) rfl ?_
              refine c236_1 (B := B574 + 1)   (by omega) (hJ606.up (by omega)) (by omega)  hf28 hg4 (fun m610 hFv612 hJ611 => ?_)
              show X (EE s) d 232 329 [(0, zr 4 44), (1, zl a1), (3, zl z525), (5, zi (788 + (6 * v584)))] [] m610 _
              refine X.cut [] i232_329 rfl ?_
              exact hK616 m610 (Eq.trans (if_pos h609c) (Eq.trans (zs_eq hFv612.symm) rfl)) (hJ611.up (by omega))
          refine X.icmpge 211 204 i232_201 rfl rfl rfl (fun h580 => ?_) (fun h580 => ?_)
          · refine X.bipush 213 i232_211 rfl rfl (by decide) ?_
            exact hK587 63 (by first | trivial | omega) (Eq.trans (if_pos h580) rfl)
          · refine X.aload_n 205 i232_204 rfl rfl rfl ?_
            refine X.callv 208 [] [zi 6, zi 788] [(0, zr 4 44)] i232_205 rfl (by decide) rfl rfl (by omega) rfl rfl (by decide) rfl t235 (Nat.le_of_ble_eq_true rfl) (Nat.le_of_ble_eq_true rfl) rfl ?_
            refine c235_1 (B := B574)   (by omega) (hJ575.up (by omega)) (by omega)  (fun v583 hv583 hFv583 => ?_)
            show X (EE s) d 232 208 [(0, zr 4 44), (1, zl a1), (3, zl z525)] [zi v583, zi 6, zi 788] m573 _
            refine X.goto 213 i232_208 rfl rfl ?_
            exact hK587 v583 (by first | trivial | omega) (Eq.trans (if_neg h580) (Eq.trans (zn_eq hFv583.symm) rfl))
      refine X.ifeq 85 66 i232_63 rfl rfl rfl (fun h514 => ?_) (fun h514 => ?_)
      · have h514c : (m 4 45 21) = 1 := by omega
        clear h514 hz513
        refine X.sipush 88 i232_85 rfl rfl (by decide) ?_
        refine X.goto 92 i232_88 rfl rfl ?_
        exact hK523 128 (by first | trivial | omega) (Eq.trans (if_pos h514c) rfl)
      · have h514c : ¬ (m 4 45 21) = 1 := by omega
        clear h514 hz513
        refine X.aload_n 67 i232_66 rfl rfl rfl ?_
        refine X.getF 70 i232_67 rfl rfl (by decide) rfl rfl ?_
        refine X.iconst 71 i232_70 rfl rfl (by decide) ?_
        refine X.lald 72 i232_71 rfl rfl (by decide) rfl (by omega) ?_
        have h515 := r45_0 hJ 4
        refine X.aload_n 73 i232_72 rfl rfl rfl ?_
        refine X.getF 76 i232_73 rfl rfl (by decide) rfl rfl ?_
        refine X.bipush 78 i232_76 rfl rfl (by decide) ?_
        refine X.lald 79 i232_78 rfl rfl (by decide) rfl (by omega) ?_
        have h516 := r45_8 hJ 4
        refine X.lremp 80 i232_79 rfl rfl (by omega) ?_
        have hz517 := z_modb (x := (m 4 45 0)) (y := (m 4 45 8)) (by omega) (by omega)
        obtain ⟨z517, ez517⟩ : ∃ z, z = ((m 4 45 0) % (m 4 45 8)) := ⟨_, rfl⟩
        rw [← ez517] at hz517 ⊢
        refine X.lconst (y := 0) 81 i232_80 rfl rfl rfl ?_
        refine X.lcmp 82 i232_81 rfl rfl (fun z518 hz518 => ?_)
        refine X.ifeq 91 85 i232_82 rfl rfl rfl (fun h519 => ?_) (fun h519 => ?_)
        · have h519c : z517 = 0 := by omega
          clear h519 hz518
          refine X.iconst 92 i232_91 rfl rfl (by decide) ?_
          exact hK523 0 (by first | trivial | omega) (Eq.trans (if_neg h514c) (Eq.trans (zn_eq ez517) (Eq.trans (if_pos h519c) rfl)))
        · have h519c : ¬ z517 = 0 := by omega
          clear h519 hz518
          refine X.sipush 88 i232_85 rfl rfl (by decide) ?_
          refine X.goto 92 i232_88 rfl rfl ?_
          exact hK523 128 (by first | trivial | omega) (Eq.trans (if_neg h514c) (Eq.trans (zn_eq ez517) (Eq.trans (if_neg h519c) rfl)))
    refine X.ifle 49 44 i232_41 rfl rfl rfl (fun h505 => ?_) (fun h505 => ?_)
    · have h505c : (m 4 45 26) ≤ 0 := by omega
      clear h505 hz504
      refine X.iconst 50 i232_49 rfl rfl (by decide) ?_
      exact hK509 0 (by first | trivial | omega) (Eq.trans (if_pos h505c) rfl)
    · have h505c : ¬ (m 4 45 26) ≤ 0 := by omega
      clear h505 hz504
      refine X.bipush 46 i232_44 rfl rfl (by decide) ?_
      refine X.goto 50 i232_46 rfl rfl ?_
      exact hK509 32 (by first | trivial | omega) (Eq.trans (if_neg h505c) rfl)
  · have h503c : z501 = 0 := by omega
    clear h503 hz502
    refine X.aload_n 21 i232_20 rfl rfl rfl ?_
    refine X.callv 24 [] [] [(0, zr 4 44)] i232_21 rfl (by decide) rfl rfl (by omega) rfl rfl (by decide) rfl t233 (Nat.le_of_ble_eq_true rfl) (Nat.le_of_ble_eq_true rfl) rfl ?_
    refine c233_1 (B := B)   (by omega) (hJ.up (by omega)) (by omega)  hf27 hg4 (fun m618 hFv620 hJ619 => ?_)
    show X (EE s) d 232 24 [(0, zr 4 44), (1, zl a1)] [] m618 _
    refine X.retv i232_24 rfl t232 ?_
    exact hQ  m618  (Eq.trans (zn_eq ez501) (Eq.trans (if_pos h503c) (Eq.trans (zs_eq hFv620.symm) rfl))) (hJ619.up (by omega)) 
-- WorkMeterModel.goes
noncomputable def f230_1 (m : zM) : zM :=
  zn (f231_1 m) fun v503 =>
  zn (zorL (m 4 45 27) v503) fun z504 =>
  zs (z_upd m 4 45 27 z504) fun m505 =>
  if (m505 4 45 0) = 2000000000 then
  (m505)
  else
  (zs (z_upd m505 4 45 0 ((m505 4 45 0) + 1)) fun m510 =>
  zn (((m510 4 45 0) % (m510 4 45 8))) fun z514 =>
  zs (if z514 = 0 then
  (zs (f232_1 0 m510) fun m517 =>
  m517)
  else
  (m510)) fun m521 =>
  m521)
-- WorkMeterModel.goes
theorem c230_1 {s : Nat × (Nat → Int32)} {S : zS} {m0 m : zM} {B : Int} {d : Nat} {Q : Option zV → zM → Prop} (hd : 18 ≤ d) (hJ : J S m0 B m) (hB : B + 1 ≤ 1000000000) (hf27 : ¬ S.1 27) (hf28 : ¬ S.1 28) (hf31 : ¬ S.1 31) (hg4 : ¬ S.2.1 4) (hQ : ∀ m', f230_1 m = m' → J S m0 (B + 1) m' → Q none m') : X (EE s) d 230 0 [(0, zr 4 44)] [] m Q := by
  refine X.aload_n 1 i230_0 rfl rfl rfl ?_
  refine X.getF 4 i230_1 rfl rfl (by decide) rfl rfl ?_
  refine X.bipush 6 i230_4 rfl rfl (by decide) ?_
  refine X.dup2 7 i230_6 rfl rfl ?_
  refine X.lald 8 i230_7 rfl rfl (by decide) rfl (by omega) ?_
  refine X.aload_n 9 i230_8 rfl rfl rfl ?_
  refine X.callv 12 [] [zl (m 4 45 27), zi 27, zr 4 45] [(0, zr 4 44)] i230_9 rfl (by decide) rfl rfl (by omega) rfl rfl (by decide) rfl t231 (Nat.le_of_ble_eq_true rfl) (Nat.le_of_ble_eq_true rfl) rfl ?_
  refine c231_1 (B := B)   (by omega) (hJ.up (by omega)) (by omega)  (fun v503 hv503 hFv503 => ?_)
  show X (EE s) d 230 12 [(0, zr 4 44)] [zl v503, zl (m 4 45 27), zi 27, zr 4 45] m _
  refine X.llE 13 .lor (fun x y => x ||| y) i230_12 rfl rfl rfl (fun _ _ => rfl) (fun z504 ez504 hz504 => ?_)
  refine X.last' 14 i230_13 rfl rfl (by decide) rfl (by omega) (fun hrm505 m505 hm505 => ?_)
  have hJ506 := w45_21 hJ hm505 (by omega) hrm505 hf27 hg4
  refine X.aload_n 15 i230_14 rfl rfl rfl ?_
  refine X.getF 18 i230_15 rfl rfl (by decide) rfl rfl ?_
  refine X.iconst 19 i230_18 rfl rfl (by decide) ?_
  refine X.lald 20 i230_19 rfl rfl (by decide) rfl (by omega) ?_
  have h507 := r45_0 hJ506 4
  refine X.ldc2 23 i230_20 rfl rfl (by decide) ?_
  refine X.lcmp 24 i230_23 rfl rfl (fun z508 hz508 => ?_)
  refine X.ifne 28 27 i230_24 rfl rfl rfl (fun h509 => ?_) (fun h509 => ?_)
  · have h509c : ¬ (m505 4 45 0) = 2000000000 := by omega
    clear h509 hz508
    refine X.aload_n 29 i230_28 rfl rfl rfl ?_
    refine X.getF 32 i230_29 rfl rfl (by decide) rfl rfl ?_
    refine X.iconst 33 i230_32 rfl rfl (by decide) ?_
    refine X.dup2 34 i230_33 rfl rfl ?_
    refine X.lald 35 i230_34 rfl rfl (by decide) rfl (by omega) ?_
    refine X.lconst (y := 1) 36 i230_35 rfl rfl rfl ?_
    refine X.ladd 37 i230_36 rfl rfl (by omega) ?_
    refine X.last' 38 i230_37 rfl rfl (by decide) rfl (by omega) (fun hrm510 m510 hm510 => ?_)
    have hJ511 := w45_0 hJ506 hm510 (by omega) hf31 hg4
    refine X.aload_n 39 i230_38 rfl rfl rfl ?_
    refine X.getF 42 i230_39 rfl rfl (by decide) rfl rfl ?_
    refine X.iconst 43 i230_42 rfl rfl (by decide) ?_
    refine X.lald 44 i230_43 rfl rfl (by decide) rfl (by omega) ?_
    have h512 := r45_0 hJ511 4
    refine X.aload_n 45 i230_44 rfl rfl rfl ?_
    refine X.getF 48 i230_45 rfl rfl (by decide) rfl rfl ?_
    refine X.bipush 50 i230_48 rfl rfl (by decide) ?_
    refine X.lald 51 i230_50 rfl rfl (by decide) rfl (by omega) ?_
    have h513 := r45_8 hJ511 4
    refine X.lremp 52 i230_51 rfl rfl (by omega) ?_
    have hz514 := z_modb (x := (m510 4 45 0)) (y := (m510 4 45 8)) (by omega) (by omega)
    obtain ⟨z514, ez514⟩ : ∃ z, z = ((m510 4 45 0) % (m510 4 45 8)) := ⟨_, rfl⟩
    rw [← ez514] at hz514 ⊢
    refine X.lconst (y := 0) 53 i230_52 rfl rfl rfl ?_
    refine X.lcmp 54 i230_53 rfl rfl (fun z515 hz515 => ?_)
    have hK523 : ∀ (m' : zM), (if z514 = 0 then
        (zs (f232_1 0 m510) fun m517 =>
        m517)
        else
        (m510)) = m' → J S m0 (B + 1) m' → X (EE s) d 230 62 [] [] m' Q := by
      intro m521 hT524 hJ522
      refine X.retv i230_62 rfl t230 ?_
      exact hQ  m521  (Eq.trans (zn_eq hFv503.symm) (Eq.trans (zn_eq ez504) (Eq.trans (zs_eq hm505) (Eq.trans (if_neg h509c) (Eq.trans (zs_eq hm510) (Eq.trans (zn_eq ez514) (Eq.trans (zs_eq hT524.symm) rfl))))))) (hJ522.up (by omega)) 
    refine X.ifne 62 57 i230_54 rfl rfl rfl (fun h516 => ?_) (fun h516 => ?_)
    · have h516c : ¬ z514 = 0 := by omega
      clear h516 hz515
      refine X.cut [] i230_62 rfl ?_
      exact hK523 m510 (Eq.trans (if_neg h516c) rfl) (hJ511.up (by omega))
    · have h516c : z514 = 0 := by omega
      clear h516 hz515
      refine X.aload_n 58 i230_57 rfl rfl rfl ?_
      refine X.lconst (y := 0) 59 i230_58 rfl rfl rfl ?_
      refine X.callv 62 [zl 0] [] [(0, zr 4 44), (1, zl 0)] i230_59 rfl (by decide) rfl rfl (by omega) rfl rfl (by decide) rfl t232 (Nat.le_of_ble_eq_true rfl) (Nat.le_of_ble_eq_true rfl) rfl ?_
      refine c232_1 (B := B)  0 (by omega) (hJ511.up (by omega)) (by omega) (by omega) hf27 hf28 hg4 (fun m517 hFv519 hJ518 => ?_)
      show X (EE s) d 230 62 [(0, zr 4 44)] [] m517 _
      refine X.cut [] i230_62 rfl ?_
      exact hK523 m517 (Eq.trans (if_pos h516c) (Eq.trans (zs_eq hFv519.symm) rfl)) (hJ518.up (by omega))
  · have h509c : (m505 4 45 0) = 2000000000 := by omega
    clear h509 hz508
    refine X.retv i230_27 rfl t230 ?_
    exact hQ  m505  (Eq.trans (zn_eq hFv503.symm) (Eq.trans (zn_eq ez504) (Eq.trans (zs_eq hm505) (Eq.trans (if_pos h509c) rfl)))) (hJ506.up (by omega)) 
-- WorkMeterModel.meters
noncomputable def f208_1 (m : zM) : zM :=
  zn (if (m 4 45 12) = 1 then
  (0)
  else
  (zn (f209_1 0 m) fun v506 =>
  v506)) fun v507 =>
  zn (if (m 4 45 12) = 1 then
  (0)
  else
  (zn (f209_1 1 m) fun v516 =>
  v516)) fun v517 =>
  zn ((v507 * v507)) fun z522 =>
  zn ((v517 * v517)) fun z523 =>
  zn (f214_1 (z522 + z523) m) fun v526 =>
  zs (z_upd m 4 45 13 ((m 4 45 13) + 1)) fun m528 =>
  zn (w64 ((m528 4 45 25) + 1)) fun z530 =>
  zs (z_upd m528 4 45 25 z530) fun m531 =>
  zn (f215_1 v507 m531) fun v535 =>
  zs (if v535 < (m531 4 45 4) then
  (zn (f215_1 v517 m531) fun v544 =>
  if v544 < (m531 4 45 4) then
  (zn (w64 ((m531 4 45 14) + 1)) fun z550 =>
  zs (z_upd m531 4 45 14 z550) fun m551 =>
  m551)
  else
  (zs (f216_1 v507 v517 v526 m531) fun m547 =>
  m547))
  else
  (zs (f216_1 v507 v517 v526 m531) fun m539 =>
  m539)) fun m554 =>
  zs (f222_1 m554) fun m558 =>
  zs (f224_1 m558) fun m561 =>
  zs (f230_1 m561) fun m564 =>
  m564
-- WorkMeterModel.meters
theorem c208_1 {s : Nat × (Nat → Int32)} {S : zS} {m0 m : zM} {B : Int} {d : Nat} {Q : Option zV → zM → Prop} (hd : 19 ≤ d) (hJ : J S m0 B m) (hB : B + 11 ≤ 1000000000) (hf26 : ¬ S.1 26) (hf27 : ¬ S.1 27) (hf28 : ¬ S.1 28) (hf29 : ¬ S.1 29) (hf30 : ¬ S.1 30) (hf31 : ¬ S.1 31) (hf32 : ¬ S.1 32) (hf33 : ¬ S.1 33) (hg4 : ¬ S.2.1 4) (hQ : ∀ m', f208_1 m = m' → J S m0 (B + 11) m' → Q none m') : X (EE s) d 208 0 [(0, zr 4 44)] [] m Q := by
  refine X.aload_n 1 i208_0 rfl rfl rfl ?_
  refine X.getF 4 i208_1 rfl rfl (by decide) rfl rfl ?_
  refine X.bipush 6 i208_4 rfl rfl (by decide) ?_
  refine X.lald 7 i208_6 rfl rfl (by decide) rfl (by omega) ?_
  have h501 := r45_12 hJ 4
  refine X.lconst (y := 1) 8 i208_7 rfl rfl rfl ?_
  refine X.lcmp 9 i208_8 rfl rfl (fun z502 hz502 => ?_)
  have hK510 : ∀ (v : Int) , ((-12000000) ≤ v ∧ v ≤ 12000000) → (if (m 4 45 12) = 1 then
      (0)
      else
      (zn (f209_1 0 m) fun v506 =>
      v506)) = v → X (EE s) d 208 21 [(0, zr 4 44)] [zl v] m Q := by
    intro v507 hv507 hT511
    refine X.lstore_n 22 [(0, zr 4 44), (1, zl v507)] i208_21 rfl rfl rfl ?_
    refine X.aload_n 23 i208_22 rfl rfl rfl ?_
    refine X.getF 26 i208_23 rfl rfl (by decide) rfl rfl ?_
    refine X.bipush 28 i208_26 rfl rfl (by decide) ?_
    refine X.lald 29 i208_28 rfl rfl (by decide) rfl (by omega) ?_
    refine X.lconst (y := 1) 30 i208_29 rfl rfl rfl ?_
    refine X.lcmp 31 i208_30 rfl rfl (fun z512 hz512 => ?_)
    have hK520 : ∀ (v : Int) , ((-12000000) ≤ v ∧ v ≤ 12000000) → (if (m 4 45 12) = 1 then
        (0)
        else
        (zn (f209_1 1 m) fun v516 =>
        v516)) = v → X (EE s) d 208 43 [(0, zr 4 44), (1, zl v507)] [zl v] m Q := by
      intro v517 hv517 hT521
      refine X.lstore_n 44 [(0, zr 4 44), (1, zl v507), (3, zl v517)] i208_43 rfl rfl rfl ?_
      refine X.lload_n 45 i208_44 rfl rfl rfl ?_
      refine X.lload_n 46 i208_45 rfl rfl rfl ?_
      have hz522 := z_sqr (e := 12000000) (x := v507) (by omega)
      refine X.lmul 47 i208_46 rfl rfl (z_in3 hz522 (by decide) (by decide)) ?_
      obtain ⟨z522, ez522⟩ : ∃ z, z = (v507 * v507) := ⟨_, rfl⟩
      rw [← ez522] at hz522 ⊢
      have gz522 : 0 ≤ z522 ∧ z522 ≤ 144000000000000 := z_in3 hz522 (by decide) (by decide)
      clear hz522
      refine X.lload_n 48 i208_47 rfl rfl rfl ?_
      refine X.lload_n 49 i208_48 rfl rfl rfl ?_
      have hz523 := z_sqr (e := 12000000) (x := v517) (by omega)
      refine X.lmul 50 i208_49 rfl rfl (z_in3 hz523 (by decide) (by decide)) ?_
      obtain ⟨z523, ez523⟩ : ∃ z, z = (v517 * v517) := ⟨_, rfl⟩
      rw [← ez523] at hz523 ⊢
      have gz523 : 0 ≤ z523 ∧ z523 ≤ 144000000000000 := z_in3 hz523 (by decide) (by decide)
      clear hz523
      refine X.ladd 51 i208_50 rfl rfl (by omega) ?_
      refine X.calls 54 [zl (z522 + z523)] [] [(0, zl (z522 + z523))] i208_51 (by decide) rfl rfl (by omega) rfl rfl t214 (Nat.le_of_ble_eq_true rfl) (Nat.le_of_ble_eq_true rfl) rfl ?_
      refine c214_1 (B := B)  (z522 + z523) (by omega) (hJ.up (by omega)) (by omega) (by omega) (fun v526 hv526 hFv526 => ?_)
      show X (EE s) d 208 54 [(0, zr 4 44), (1, zl v507), (3, zl v517)] [zl v526] m _
      refine X.lstore 56 [(0, zr 4 44), (1, zl v507), (3, zl v517), (5, zl v526)] i208_54 rfl rfl rfl ?_
      refine X.aload_n 57 i208_56 rfl rfl rfl ?_
      refine X.getF 60 i208_57 rfl rfl (by decide) rfl rfl ?_
      refine X.bipush 62 i208_60 rfl rfl (by decide) ?_
      refine X.dup2 63 i208_62 rfl rfl ?_
      refine X.lald 64 i208_63 rfl rfl (by decide) rfl (by omega) ?_
      have h527 := r45_13 hJ 4
      refine X.lconst (y := 1) 65 i208_64 rfl rfl rfl ?_
      refine X.ladd 66 i208_65 rfl rfl (by omega) ?_
      refine X.last' 67 i208_66 rfl rfl (by decide) rfl (by omega) (fun hrm528 m528 hm528 => ?_)
      have hJ529 := w45_13 (hJ.up (B' := B + 1) (by omega)) hm528 (by omega) hf33 hg4
      refine X.aload_n 68 i208_67 rfl rfl rfl ?_
      refine X.getF 71 i208_68 rfl rfl (by decide) rfl rfl ?_
      refine X.bipush 73 i208_71 rfl rfl (by decide) ?_
      refine X.dup2 74 i208_73 rfl rfl ?_
      refine X.lald 75 i208_74 rfl rfl (by decide) rfl (by omega) ?_
      refine X.lconst (y := 1) 76 i208_75 rfl rfl rfl ?_
      refine X.laddW 77 i208_76 rfl rfl (fun z530 ez530 hz530 => ?_)
      refine X.last' 78 i208_77 rfl rfl (by decide) rfl (by omega) (fun hrm531 m531 hm531 => ?_)
      have hJ532 := w45_21 hJ529 hm531 (by omega) hrm531 hf27 hg4
      refine X.lload_n 79 i208_78 rfl rfl rfl ?_
      refine X.calls 82 [zl v507] [] [(0, zl v507)] i208_79 (by decide) rfl rfl (by omega) rfl rfl t215 (Nat.le_of_ble_eq_true rfl) (Nat.le_of_ble_eq_true rfl) rfl ?_
      refine c215_1 (B := B + 1)  v507 (by omega) (hJ532.up (by omega)) (by omega) (by omega) (fun v535 hv535 hFv535 => ?_)
      show X (EE s) d 208 82 [(0, zr 4 44), (1, zl v507), (3, zl v517), (5, zl v526)] [zl v535] m531 _
      refine X.aload_n 83 i208_82 rfl rfl rfl ?_
      refine X.getF 86 i208_83 rfl rfl (by decide) rfl rfl ?_
      refine X.iconst 87 i208_86 rfl rfl (by decide) ?_
      refine X.lald 88 i208_87 rfl rfl (by decide) rfl (by omega) ?_
      have h536 := r45_4 hJ532 4
      refine X.lcmp 89 i208_88 rfl rfl (fun z537 hz537 => ?_)
      have hK556 : ∀ (m' : zM), (if v535 < (m531 4 45 4) then
          (zn (f215_1 v517 m531) fun v544 =>
          if v544 < (m531 4 45 4) then
          (zn (w64 ((m531 4 45 14) + 1)) fun z550 =>
          zs (z_upd m531 4 45 14 z550) fun m551 =>
          m551)
          else
          (zs (f216_1 v507 v517 v526 m531) fun m547 =>
          m547))
          else
          (zs (f216_1 v507 v517 v526 m531) fun m539 =>
          m539)) = m' → J S m0 (B + 1) m' → X (EE s) d 208 128 [(0, zr 4 44)] [] m' Q := by
        intro m554 hT557 hJ555
        refine X.aload_n 129 i208_128 rfl rfl rfl ?_
        refine X.callv 132 [] [] [(0, zr 4 44)] i208_129 rfl (by decide) rfl rfl (by omega) rfl rfl (by decide) rfl t222 (Nat.le_of_ble_eq_true rfl) (Nat.le_of_ble_eq_true rfl) rfl ?_
        refine c222_1 (B := B + 1)   (by omega) (hJ555.up (by omega)) (by omega)  hf26 hf32 hg4 (fun m558 hFv560 hJ559 => ?_)
        show X (EE s) d 208 132 [(0, zr 4 44)] [] m558 _
        refine X.aload_n 133 i208_132 rfl rfl rfl ?_
        refine X.callv 136 [] [] [(0, zr 4 44)] i208_133 rfl (by decide) rfl rfl (by omega) rfl rfl (by decide) rfl t224 (Nat.le_of_ble_eq_true rfl) (Nat.le_of_ble_eq_true rfl) rfl ?_
        refine c224_1 (B := B + 2)   (by omega) (hJ559.up (by omega)) (by omega)  hf26 hf29 hg4 (fun m561 hFv563 hJ562 => ?_)
        show X (EE s) d 208 136 [(0, zr 4 44)] [] m561 _
        refine X.aload_n 137 i208_136 rfl rfl rfl ?_
        refine X.callv 140 [] [] [(0, zr 4 44)] i208_137 rfl (by decide) rfl rfl (by omega) rfl rfl (by decide) rfl t230 (Nat.le_of_ble_eq_true rfl) (Nat.le_of_ble_eq_true rfl) rfl ?_
        refine c230_1 (B := B + 10)   (by omega) (hJ562.up (by omega)) (by omega)  hf27 hf28 hf31 hg4 (fun m564 hFv566 hJ565 => ?_)
        show X (EE s) d 208 140 [(0, zr 4 44)] [] m564 _
        refine X.retv i208_140 rfl t208 ?_
        exact hQ  m564  (Eq.trans (zn_eq hT511.symm) (Eq.trans (zn_eq hT521.symm) (Eq.trans (zn_eq ez522) (Eq.trans (zn_eq ez523) (Eq.trans (zn_eq hFv526.symm) (Eq.trans (zs_eq hm528) (Eq.trans (zn_eq ez530) (Eq.trans (zs_eq hm531) (Eq.trans (zn_eq hFv535.symm) (Eq.trans (zs_eq hT557.symm) (Eq.trans (zs_eq hFv560.symm) (Eq.trans (zs_eq hFv563.symm) (Eq.trans (zs_eq hFv566.symm) rfl))))))))))))) (hJ565.up (by omega)) 
      refine X.ifge 120 92 i208_89 rfl rfl rfl (fun h538 => ?_) (fun h538 => ?_)
      · have h538c : ¬ v535 < (m531 4 45 4) := by omega
        clear h538 hz537
        refine X.aload_n 121 i208_120 rfl rfl rfl ?_
        refine X.lload_n 122 i208_121 rfl rfl rfl ?_
        refine X.lload_n 123 i208_122 rfl rfl rfl ?_
        refine X.lload 125 i208_123 rfl rfl rfl ?_
        refine X.callv 128 [zl v507, zl v517, zl v526] [] [(0, zr 4 44), (1, zl v507), (3, zl v517), (5, zl v526)] i208_125 rfl (by decide) rfl rfl (by omega) rfl rfl (by decide) rfl t216 (Nat.le_of_ble_eq_true rfl) (Nat.le_of_ble_eq_true rfl) rfl ?_
        refine c216_1 (B := B + 1)  v507 v517 v526 (by omega) (hJ532.up (by omega)) (by omega) (by omega) (by omega) (by omega) hf27 hf30 hf32 hg4 (fun m539 hFv541 hJ540 => ?_)
        show X (EE s) d 208 128 [(0, zr 4 44), (1, zl v507), (3, zl v517), (5, zl v526)] [] m539 _
        refine X.cut [(0, zr 4 44)] i208_128 rfl ?_
        exact hK556 m539 (Eq.trans (if_neg h538c) (Eq.trans (zs_eq hFv541.symm) rfl)) (hJ540.up (by omega))
      · have h538c : v535 < (m531 4 45 4) := by omega
        clear h538 hz537
        refine X.lload_n 93 i208_92 rfl rfl rfl ?_
        refine X.calls 96 [zl v517] [] [(0, zl v517)] i208_93 (by decide) rfl rfl (by omega) rfl rfl t215 (Nat.le_of_ble_eq_true rfl) (Nat.le_of_ble_eq_true rfl) rfl ?_
        refine c215_1 (B := B + 1)  v517 (by omega) (hJ532.up (by omega)) (by omega) (by omega) (fun v544 hv544 hFv544 => ?_)
        show X (EE s) d 208 96 [(0, zr 4 44), (1, zl v507), (3, zl v517), (5, zl v526)] [zl v544] m531 _
        refine X.aload_n 97 i208_96 rfl rfl rfl ?_
        refine X.getF 100 i208_97 rfl rfl (by decide) rfl rfl ?_
        refine X.iconst 101 i208_100 rfl rfl (by decide) ?_
        refine X.lald 102 i208_101 rfl rfl (by decide) rfl (by omega) ?_
        refine X.lcmp 103 i208_102 rfl rfl (fun z545 hz545 => ?_)
        refine X.ifge 120 106 i208_103 rfl rfl rfl (fun h546 => ?_) (fun h546 => ?_)
        · have h546c : ¬ v544 < (m531 4 45 4) := by omega
          clear h546 hz545
          refine X.aload_n 121 i208_120 rfl rfl rfl ?_
          refine X.lload_n 122 i208_121 rfl rfl rfl ?_
          refine X.lload_n 123 i208_122 rfl rfl rfl ?_
          refine X.lload 125 i208_123 rfl rfl rfl ?_
          refine X.callv 128 [zl v507, zl v517, zl v526] [] [(0, zr 4 44), (1, zl v507), (3, zl v517), (5, zl v526)] i208_125 rfl (by decide) rfl rfl (by omega) rfl rfl (by decide) rfl t216 (Nat.le_of_ble_eq_true rfl) (Nat.le_of_ble_eq_true rfl) rfl ?_
          refine c216_1 (B := B + 1)  v507 v517 v526 (by omega) (hJ532.up (by omega)) (by omega) (by omega) (by omega) (by omega) hf27 hf30 hf32 hg4 (fun m547 hFv549 hJ548 => ?_)
          show X (EE s) d 208 128 [(0, zr 4 44), (1, zl v507), (3, zl v517), (5, zl v526)] [] m547 _
          refine X.cut [(0, zr 4 44)] i208_128 rfl ?_
          exact hK556 m547 (Eq.trans (if_pos h538c) (Eq.trans (zn_eq hFv544.symm) (Eq.trans (if_neg h546c) (Eq.trans (zs_eq hFv549.symm) rfl)))) (hJ548.up (by omega))
        · have h546c : v544 < (m531 4 45 4) := by omega
          clear h546 hz545
          refine X.aload_n 107 i208_106 rfl rfl rfl ?_
          refine X.getF 110 i208_107 rfl rfl (by decide) rfl rfl ?_
          refine X.bipush 112 i208_110 rfl rfl (by decide) ?_
          refine X.dup2 113 i208_112 rfl rfl ?_
          refine X.lald 114 i208_113 rfl rfl (by decide) rfl (by omega) ?_
          refine X.lconst (y := 1) 115 i208_114 rfl rfl rfl ?_
          refine X.laddW 116 i208_115 rfl rfl (fun z550 ez550 hz550 => ?_)
          refine X.last' 117 i208_116 rfl rfl (by decide) rfl (by omega) (fun hrm551 m551 hm551 => ?_)
          have hJ552 := w45_14 hJ532 hm551 (by omega) hrm551 hf33 hg4
          refine X.goto 128 i208_117 rfl rfl ?_
          refine X.cut [(0, zr 4 44)] i208_128 rfl ?_
          exact hK556 m551 (Eq.trans (if_pos h538c) (Eq.trans (zn_eq hFv544.symm) (Eq.trans (if_pos h546c) (Eq.trans (zn_eq ez550) (Eq.trans (zs_eq hm551) rfl))))) (hJ552.up (by omega))
    refine X.ifne 38 34 i208_31 rfl rfl rfl (fun h513 => ?_) (fun h513 => ?_)
    · have h513c : ¬ (m 4 45 12) = 1 := by omega
      clear h513 hz512
      refine X.aload_n 39 i208_38 rfl rfl rfl ?_
      refine X.iconst 40 i208_39 rfl rfl (by decide) ?_
      refine X.callv 43 [zi 1] [] [(0, zr 4 44), (1, zi 1)] i208_40 rfl (by decide) rfl rfl (by omega) rfl rfl (by decide) rfl t209 (Nat.le_of_ble_eq_true rfl) (Nat.le_of_ble_eq_true rfl) rfl ?_
      refine c209_1 (B := B)  1 (by omega) (hJ.up (by omega)) (by omega) (by omega) (fun v516 hv516 hFv516 => ?_)
      show X (EE s) d 208 43 [(0, zr 4 44), (1, zl v507)] [zl v516] m _
      exact hK520 v516 (by first | trivial | omega) (Eq.trans (if_neg h513c) (Eq.trans (zn_eq hFv516.symm) rfl))
    · have h513c : (m 4 45 12) = 1 := by omega
      clear h513 hz512
      refine X.lconst (y := 0) 35 i208_34 rfl rfl rfl ?_
      refine X.goto 43 i208_35 rfl rfl ?_
      exact hK520 0 (by first | trivial | omega) (Eq.trans (if_pos h513c) rfl)
  refine X.ifne 16 12 i208_9 rfl rfl rfl (fun h503 => ?_) (fun h503 => ?_)
  · have h503c : ¬ (m 4 45 12) = 1 := by omega
    clear h503 hz502
    refine X.aload_n 17 i208_16 rfl rfl rfl ?_
    refine X.iconst 18 i208_17 rfl rfl (by decide) ?_
    refine X.callv 21 [zi 0] [] [(0, zr 4 44), (1, zi 0)] i208_18 rfl (by decide) rfl rfl (by omega) rfl rfl (by decide) rfl t209 (Nat.le_of_ble_eq_true rfl) (Nat.le_of_ble_eq_true rfl) rfl ?_
    refine c209_1 (B := B)  0 (by omega) (hJ.up (by omega)) (by omega) (by omega) (fun v506 hv506 hFv506 => ?_)
    show X (EE s) d 208 21 [(0, zr 4 44)] [zl v506] m _
    exact hK510 v506 (by first | trivial | omega) (Eq.trans (if_neg h503c) (Eq.trans (zn_eq hFv506.symm) rfl))
  · have h503c : (m 4 45 12) = 1 := by omega
    clear h503 hz502
    refine X.lconst (y := 0) 13 i208_12 rfl rfl rfl ?_
    refine X.goto 21 i208_13 rfl rfl ?_
    exact hK510 0 (by first | trivial | omega) (Eq.trans (if_pos h503c) rfl)
-- WorkMeterModel.sample
noncomputable def f205_1 (a1 a2 : Int) (m : zM) : Int × zM :=
  if a1 < (-500) then
  (((-1), m))
  else
  (if a1 ≤ 500 then
  (if a2 < (-500) then
  (((-1), m))
  else
  (if a2 ≤ 500 then
  (zn (((m 4 45 3) % (m 4 45 1))) fun z517 =>
  zn (((m 4 45 3) / (m 4 45 1))) fun z518 =>
  zs (z_upd m 4 45 ((191 + (16 * z517)) + z518) a1) fun m519 =>
  zn (((m 4 45 3) % (m519 4 45 1))) fun z522 =>
  zn (((m 4 45 3) / (m519 4 45 1))) fun z523 =>
  zs (z_upd m519 4 45 ((239 + (16 * z522)) + z523) a2) fun m524 =>
  zs (z_upd m524 4 45 3 ((m524 4 45 3) + 1)) fun m527 =>
  zn (((m527 4 45 1) * (m527 4 45 2))) fun z529 =>
  if (m527 4 45 3) < z529 then
  (((m527 4 45 3), m527))
  else
  (zs (z_upd m527 4 45 3 0) fun m532 =>
  fl205_139_1 (fun m534 =>
  zs (f208_1 m534) fun m538 =>
  (0, m538)) (zfu 97) 0 m532))
  else
  (((-1), m))))
  else
  (((-1), m)))
-- WorkMeterModel.sample
theorem c205_1 {s : Nat × (Nat → Int32)} {S : zS} {m0 m : zM} {B : Int} {d : Nat} {Q : Option zV → zM → Prop} (a1 a2 : Int) (hd : 20 ≤ d) (hJ : J S m0 B m) (hB : B + 11 ≤ 1000000000) (ha1 : (-2147483648) ≤ a1 ∧ a1 ≤ 2147483647) (ha2 : (-2147483648) ≤ a2 ∧ a2 ≤ 2147483647) (hf22 : ¬ S.1 22) (hf26 : ¬ S.1 26) (hf27 : ¬ S.1 27) (hf28 : ¬ S.1 28) (hf29 : ¬ S.1 29) (hf30 : ¬ S.1 30) (hf31 : ¬ S.1 31) (hf32 : ¬ S.1 32) (hf33 : ¬ S.1 33) (hg4 : ¬ S.2.1 4) (hQ : ∀ (v : Int) m', ((-1) ≤ v ∧ v ≤ 47) → f205_1 a1 a2 m = (v, m') → J S m0 (B + 11) m' → Q (some (zi v)) m') : X (EE s) d 205 0 [(0, zr 4 44), (1, zi a1), (2, zi a2)] [] m Q := by
  refine X.iload_n 1 i205_0 rfl rfl rfl ?_
  refine X.i2l 2 i205_1 rfl rfl ?_
  refine X.ldc2 5 i205_2 rfl rfl (by decide) ?_
  refine X.ldc2 8 i205_5 rfl rfl (by decide) ?_
  refine X.calls 11 [zl a1, zl (-500), zl 500] [] [(0, zl a1), (2, zl (-500)), (4, zl 500)] i205_8 (by decide) rfl rfl (by omega) rfl rfl t204 (Nat.le_of_ble_eq_true rfl) (Nat.le_of_ble_eq_true rfl) rfl ?_
  refine X.lload_n 1 i204_0 rfl rfl rfl ?_
  refine X.lload_n 2 i204_1 rfl rfl rfl ?_
  refine X.lcmp 3 i204_2 rfl rfl (fun z501 hz501 => ?_)
  refine X.iflt 17 6 i204_3 rfl rfl rfl (fun h502 => ?_) (fun h502 => ?_)
  · have h502c : a1 < (-500) := by omega
    clear h502 hz501
    refine X.cut [] i204_17 rfl ?_
    refine X.iconst 18 i204_17 rfl rfl (by decide) ?_
    refine X.retz i204_18 rfl t204 (by omega) ?_
    show X (EE s) d 205 11 [(0, zr 4 44), (1, zi a1), (2, zi a2)] [zi 0] m _
    refine X.ifeq 28 14 i205_11 rfl rfl rfl (fun h503 => ?_) (fun h503 => (by exfalso; omega))
    refine X.cut [] i205_28 rfl ?_
    refine X.iconst 29 i205_28 rfl rfl (by decide) ?_
    refine X.reti i205_29 rfl t205 ?_
    exact hQ (-1) m (by first | trivial | omega) (Eq.trans (if_pos h502c) rfl) (hJ.up (by omega)) 
  · have h502c : ¬ a1 < (-500) := by omega
    clear h502 hz501
    refine X.lload_n 7 i204_6 rfl rfl rfl ?_
    refine X.lload 9 i204_7 rfl rfl rfl ?_
    refine X.lcmp 10 i204_9 rfl rfl (fun z504 hz504 => ?_)
    refine X.ifgt 17 13 i204_10 rfl rfl rfl (fun h505 => ?_) (fun h505 => ?_)
    · have h505c : ¬ a1 ≤ 500 := by omega
      clear h505 hz504
      refine X.cut [] i204_17 rfl ?_
      refine X.iconst 18 i204_17 rfl rfl (by decide) ?_
      refine X.retz i204_18 rfl t204 (by omega) ?_
      show X (EE s) d 205 11 [(0, zr 4 44), (1, zi a1), (2, zi a2)] [zi 0] m _
      refine X.ifeq 28 14 i205_11 rfl rfl rfl (fun h506 => ?_) (fun h506 => (by exfalso; omega))
      refine X.cut [] i205_28 rfl ?_
      refine X.iconst 29 i205_28 rfl rfl (by decide) ?_
      refine X.reti i205_29 rfl t205 ?_
      exact hQ (-1) m (by first | trivial | omega) (Eq.trans (if_neg h502c) (Eq.trans (if_neg h505c) rfl)) (hJ.up (by omega)) 
    · have h505c : a1 ≤ 500 := by omega
      clear h505 hz504
      refine X.iconst 14 i204_13 rfl rfl (by decide) ?_
      refine X.goto 18 i204_14 rfl rfl ?_
      refine X.cut [] i204_18 rfl ?_
      refine X.retz i204_18 rfl t204 (by omega) ?_
      show X (EE s) d 205 11 [(0, zr 4 44), (1, zi a1), (2, zi a2)] [zi 1] m _
      refine X.ifeq 28 14 i205_11 rfl rfl rfl (fun h507 => (by exfalso; omega)) (fun h507 => ?_)
      refine X.iload_n 15 i205_14 rfl rfl rfl ?_
      refine X.i2l 16 i205_15 rfl rfl ?_
      refine X.ldc2 19 i205_16 rfl rfl (by decide) ?_
      refine X.ldc2 22 i205_19 rfl rfl (by decide) ?_
      refine X.calls 25 [zl a2, zl (-500), zl 500] [] [(0, zl a2), (2, zl (-500)), (4, zl 500)] i205_22 (by decide) rfl rfl (by omega) rfl rfl t204 (Nat.le_of_ble_eq_true rfl) (Nat.le_of_ble_eq_true rfl) rfl ?_
      refine X.lload_n 1 i204_0 rfl rfl rfl ?_
      refine X.lload_n 2 i204_1 rfl rfl rfl ?_
      refine X.lcmp 3 i204_2 rfl rfl (fun z508 hz508 => ?_)
      refine X.iflt 17 6 i204_3 rfl rfl rfl (fun h509 => ?_) (fun h509 => ?_)
      · have h509c : a2 < (-500) := by omega
        clear h509 hz508
        refine X.cut [] i204_17 rfl ?_
        refine X.iconst 18 i204_17 rfl rfl (by decide) ?_
        refine X.retz i204_18 rfl t204 (by omega) ?_
        show X (EE s) d 205 25 [(0, zr 4 44), (1, zi a1), (2, zi a2)] [zi 0] m _
        refine X.ifne 30 28 i205_25 rfl rfl rfl (fun h510 => (by exfalso; omega)) (fun h510 => ?_)
        refine X.cut [] i205_28 rfl ?_
        refine X.iconst 29 i205_28 rfl rfl (by decide) ?_
        refine X.reti i205_29 rfl t205 ?_
        exact hQ (-1) m (by first | trivial | omega) (Eq.trans (if_neg h502c) (Eq.trans (if_pos h505c) (Eq.trans (if_pos h509c) rfl))) (hJ.up (by omega)) 
      · have h509c : ¬ a2 < (-500) := by omega
        clear h509 hz508
        refine X.lload_n 7 i204_6 rfl rfl rfl ?_
        refine X.lload 9 i204_7 rfl rfl rfl ?_
        refine X.lcmp 10 i204_9 rfl rfl (fun z511 hz511 => ?_)
        refine X.ifgt 17 13 i204_10 rfl rfl rfl (fun h512 => ?_) (fun h512 => ?_)
        · have h512c : ¬ a2 ≤ 500 := by omega
          clear h512 hz511
          refine X.cut [] i204_17 rfl ?_
          refine X.iconst 18 i204_17 rfl rfl (by decide) ?_
          refine X.retz i204_18 rfl t204 (by omega) ?_
          show X (EE s) d 205 25 [(0, zr 4 44), (1, zi a1), (2, zi a2)] [zi 0] m _
          refine X.ifne 30 28 i205_25 rfl rfl rfl (fun h513 => (by exfalso; omega)) (fun h513 => ?_)
          refine X.cut [] i205_28 rfl ?_
          refine X.iconst 29 i205_28 rfl rfl (by decide) ?_
          refine X.reti i205_29 rfl t205 ?_
          exact hQ (-1) m (by first | trivial | omega) (Eq.trans (if_neg h502c) (Eq.trans (if_pos h505c) (Eq.trans (if_neg h509c) (Eq.trans (if_neg h512c) rfl)))) (hJ.up (by omega)) 
        · have h512c : a2 ≤ 500 := by omega
          clear h512 hz511
          refine X.iconst 14 i204_13 rfl rfl (by decide) ?_
          refine X.goto 18 i204_14 rfl rfl ?_
          refine X.cut [] i204_18 rfl ?_
          refine X.retz i204_18 rfl t204 (by omega) ?_
          show X (EE s) d 205 25 [(0, zr 4 44), (1, zi a1), (2, zi a2)] [zi 1] m _
          refine X.ifne 30 28 i205_25 rfl rfl rfl (fun h514 => ?_) (fun h514 => (by exfalso; omega))
          refine X.aload_n 31 i205_30 rfl rfl rfl ?_
          refine X.getF 34 i205_31 rfl rfl (by decide) rfl rfl ?_
          refine X.iconst 35 i205_34 rfl rfl (by decide) ?_
          refine X.lald 36 i205_35 rfl rfl (by decide) rfl (by omega) ?_
          have h515 := r45_3 hJ 4
          refine X.l2i 37 i205_36 rfl rfl (by omega) ?_
          refine X.istore_n 38 [(0, zr 4 44), (1, zi a1), (2, zi a2), (3, zi (m 4 45 3))] i205_37 rfl rfl rfl ?_
          refine X.aload_n 39 i205_38 rfl rfl rfl ?_
          refine X.getF 42 i205_39 rfl rfl (by decide) rfl rfl ?_
          refine X.sipush 45 i205_42 rfl rfl (by decide) ?_
          refine X.iload_n 46 i205_45 rfl rfl rfl ?_
          refine X.aload_n 47 i205_46 rfl rfl rfl ?_
          refine X.callv 50 [] [zi (m 4 45 3), zi 191, zr 4 45] [(0, zr 4 44)] i205_47 rfl (by decide) rfl rfl (by omega) rfl rfl (by decide) rfl t206 (Nat.le_of_ble_eq_true rfl) (Nat.le_of_ble_eq_true rfl) rfl ?_
          refine X.aload_n 1 i206_0 rfl rfl rfl ?_
          refine X.getF 4 i206_1 rfl rfl (by decide) rfl rfl ?_
          refine X.iconst 5 i206_4 rfl rfl (by decide) ?_
          refine X.lald 6 i206_5 rfl rfl (by decide) rfl (by omega) ?_
          have h516 := r45_1 hJ 4
          refine X.l2i 7 i206_6 rfl rfl (by omega) ?_
          refine X.reti i206_7 rfl t206 ?_
          show X (EE s) d 205 50 [(0, zr 4 44), (1, zi a1), (2, zi a2), (3, zi (m 4 45 3))] [zi (m 4 45 1), zi (m 4 45 3), zi 191, zr 4 45] m _
          refine X.irem 51 i205_50 rfl rfl (by omega) ?_
          have hz517 := z_modb (x := (m 4 45 3)) (y := (m 4 45 1)) (by omega) (by omega)
          obtain ⟨z517, ez517⟩ : ∃ z, z = ((m 4 45 3) % (m 4 45 1)) := ⟨_, rfl⟩
          rw [← ez517] at hz517 ⊢
          refine X.iload_n 52 i205_51 rfl rfl rfl ?_
          refine X.aload_n 53 i205_52 rfl rfl rfl ?_
          refine X.callv 56 [] [zi (m 4 45 3), zi z517, zi 191, zr 4 45] [(0, zr 4 44)] i205_53 rfl (by decide) rfl rfl (by omega) rfl rfl (by decide) rfl t206 (Nat.le_of_ble_eq_true rfl) (Nat.le_of_ble_eq_true rfl) rfl ?_
          refine X.aload_n 1 i206_0 rfl rfl rfl ?_
          refine X.getF 4 i206_1 rfl rfl (by decide) rfl rfl ?_
          refine X.iconst 5 i206_4 rfl rfl (by decide) ?_
          refine X.lald 6 i206_5 rfl rfl (by decide) rfl (by omega) ?_
          refine X.l2i 7 i206_6 rfl rfl (by omega) ?_
          refine X.reti i206_7 rfl t206 ?_
          show X (EE s) d 205 56 [(0, zr 4 44), (1, zi a1), (2, zi a2), (3, zi (m 4 45 3))] [zi (m 4 45 1), zi (m 4 45 3), zi z517, zi 191, zr 4 45] m _
          refine X.idiv 57 i205_56 rfl rfl (by omega) ?_
          have hz518 := z_divb (x := (m 4 45 3)) (y := (m 4 45 1)) (by omega) (by omega)
          have kz518 := z_kp (x := (m 4 45 3)) (y := (m 4 45 1)) (by omega) (by omega)
          obtain ⟨z518, ez518⟩ : ∃ z, z = ((m 4 45 3) / (m 4 45 1)) := ⟨_, rfl⟩
          rw [← ez518] at hz518 ⊢
          rw [← ez518, ← ez517] at kz518
          refine X.calls 60 [zi 191, zi z517, zi z518] [zr 4 45] [(0, zi 191), (1, zi z517), (2, zi z518)] i205_57 (by decide) rfl rfl (by omega) rfl rfl t207 (Nat.le_of_ble_eq_true rfl) (Nat.le_of_ble_eq_true rfl) rfl ?_
          refine X.iload_n 1 i207_0 rfl rfl rfl ?_
          refine X.bipush 3 i207_1 rfl rfl (by decide) ?_
          refine X.iload_n 4 i207_3 rfl rfl rfl ?_
          refine X.imul 5 i207_4 rfl rfl (by omega) ?_
          refine X.iadd 6 i207_5 rfl rfl (by omega) ?_
          refine X.iload_n 7 i207_6 rfl rfl rfl ?_
          refine X.iadd 8 i207_7 rfl rfl (by omega) ?_
          refine X.reti i207_8 rfl t207 ?_
          show X (EE s) d 205 60 [(0, zr 4 44), (1, zi a1), (2, zi a2), (3, zi (m 4 45 3))] [zi ((191 + (16 * z517)) + z518), zr 4 45] m _
          refine X.iload_n 61 i205_60 rfl rfl rfl ?_
          refine X.i2l 62 i205_61 rfl rfl ?_
          refine X.last' 63 i205_62 rfl rfl (by decide) rfl (by omega) (fun hrm519 m519 hm519 => ?_)
          have hJ520 := w45_95 hJ hm519 (by omega) (by omega) hf22 hg4
          refine X.aload_n 64 i205_63 rfl rfl rfl ?_
          refine X.getF 67 i205_64 rfl rfl (by decide) rfl rfl ?_
          refine X.sipush 70 i205_67 rfl rfl (by decide) ?_
          refine X.iload_n 71 i205_70 rfl rfl rfl ?_
          refine X.aload_n 72 i205_71 rfl rfl rfl ?_
          refine X.callv 75 [] [zi (m 4 45 3), zi 239, zr 4 45] [(0, zr 4 44)] i205_72 rfl (by decide) rfl rfl (by omega) rfl rfl (by decide) rfl t206 (Nat.le_of_ble_eq_true rfl) (Nat.le_of_ble_eq_true rfl) rfl ?_
          refine X.aload_n 1 i206_0 rfl rfl rfl ?_
          refine X.getF 4 i206_1 rfl rfl (by decide) rfl rfl ?_
          refine X.iconst 5 i206_4 rfl rfl (by decide) ?_
          refine X.lald 6 i206_5 rfl rfl (by decide) rfl (by omega) ?_
          have h521 := r45_1 hJ520 4
          refine X.l2i 7 i206_6 rfl rfl (by omega) ?_
          refine X.reti i206_7 rfl t206 ?_
          show X (EE s) d 205 75 [(0, zr 4 44), (1, zi a1), (2, zi a2), (3, zi (m 4 45 3))] [zi (m519 4 45 1), zi (m 4 45 3), zi 239, zr 4 45] m519 _
          refine X.irem 76 i205_75 rfl rfl (by omega) ?_
          have hz522 := z_modb (x := (m 4 45 3)) (y := (m519 4 45 1)) (by omega) (by omega)
          obtain ⟨z522, ez522⟩ : ∃ z, z = ((m 4 45 3) % (m519 4 45 1)) := ⟨_, rfl⟩
          rw [← ez522] at hz522 ⊢
          refine X.iload_n 77 i205_76 rfl rfl rfl ?_
          refine X.aload_n 78 i205_77 rfl rfl rfl ?_
          refine X.callv 81 [] [zi (m 4 45 3), zi z522, zi 239, zr 4 45] [(0, zr 4 44)] i205_78 rfl (by decide) rfl rfl (by omega) rfl rfl (by decide) rfl t206 (Nat.le_of_ble_eq_true rfl) (Nat.le_of_ble_eq_true rfl) rfl ?_
          refine X.aload_n 1 i206_0 rfl rfl rfl ?_
          refine X.getF 4 i206_1 rfl rfl (by decide) rfl rfl ?_
          refine X.iconst 5 i206_4 rfl rfl (by decide) ?_
          refine X.lald 6 i206_5 rfl rfl (by decide) rfl (by omega) ?_
          refine X.l2i 7 i206_6 rfl rfl (by omega) ?_
          refine X.reti i206_7 rfl t206 ?_
          show X (EE s) d 205 81 [(0, zr 4 44), (1, zi a1), (2, zi a2), (3, zi (m 4 45 3))] [zi (m519 4 45 1), zi (m 4 45 3), zi z522, zi 239, zr 4 45] m519 _
          refine X.idiv 82 i205_81 rfl rfl (by omega) ?_
          have hz523 := z_divb (x := (m 4 45 3)) (y := (m519 4 45 1)) (by omega) (by omega)
          have kz523 := z_kp (x := (m 4 45 3)) (y := (m519 4 45 1)) (by omega) (by omega)
          obtain ⟨z523, ez523⟩ : ∃ z, z = ((m 4 45 3) / (m519 4 45 1)) := ⟨_, rfl⟩
          rw [← ez523] at hz523 ⊢
          rw [← ez523, ← ez522] at kz523
          refine X.calls 85 [zi 239, zi z522, zi z523] [zr 4 45] [(0, zi 239), (1, zi z522), (2, zi z523)] i205_82 (by decide) rfl rfl (by omega) rfl rfl t207 (Nat.le_of_ble_eq_true rfl) (Nat.le_of_ble_eq_true rfl) rfl ?_
          refine X.iload_n 1 i207_0 rfl rfl rfl ?_
          refine X.bipush 3 i207_1 rfl rfl (by decide) ?_
          refine X.iload_n 4 i207_3 rfl rfl rfl ?_
          refine X.imul 5 i207_4 rfl rfl (by omega) ?_
          refine X.iadd 6 i207_5 rfl rfl (by omega) ?_
          refine X.iload_n 7 i207_6 rfl rfl rfl ?_
          refine X.iadd 8 i207_7 rfl rfl (by omega) ?_
          refine X.reti i207_8 rfl t207 ?_
          show X (EE s) d 205 85 [(0, zr 4 44), (1, zi a1), (2, zi a2), (3, zi (m 4 45 3))] [zi ((239 + (16 * z522)) + z523), zr 4 45] m519 _
          refine X.iload_n 86 i205_85 rfl rfl rfl ?_
          refine X.i2l 87 i205_86 rfl rfl ?_
          refine X.last' 88 i205_87 rfl rfl (by decide) rfl (by omega) (fun hrm524 m524 hm524 => ?_)
          have hJ525 := w45_95 hJ520 hm524 (by omega) (by omega) hf22 hg4
          refine X.aload_n 89 i205_88 rfl rfl rfl ?_
          refine X.getF 92 i205_89 rfl rfl (by decide) rfl rfl ?_
          refine X.iconst 93 i205_92 rfl rfl (by decide) ?_
          refine X.dup2 94 i205_93 rfl rfl ?_
          refine X.lald 95 i205_94 rfl rfl (by decide) rfl (by omega) ?_
          have h526 := r45_3 hJ525 4
          refine X.lconst (y := 1) 96 i205_95 rfl rfl rfl ?_
          refine X.ladd 97 i205_96 rfl rfl (by omega) ?_
          refine X.last' 98 i205_97 rfl rfl (by decide) rfl (by omega) (fun hrm527 m527 hm527 => ?_)
          have em527 : m527 4 45 3 = ((m524 4 45 3) + 1) := by rw [hm527]; exact z_upd_same _ _ _ _ _
          have qm527_1 : m527 4 45 1 = m524 4 45 1 := by rw [hm527]; exact z_upd_o _ _ rfl
          have qqm527_1 := r45_1 hJ525 4
          have qm527_2 : m527 4 45 2 = m524 4 45 2 := by rw [hm527]; exact z_upd_o _ _ rfl
          have qqm527_2 := r45_2 hJ525 4
          refine X.aload_n 99 i205_98 rfl rfl rfl ?_
          refine X.getF 102 i205_99 rfl rfl (by decide) rfl rfl ?_
          refine X.iconst 103 i205_102 rfl rfl (by decide) ?_
          refine X.lald 104 i205_103 rfl rfl (by decide) rfl (by omega) ?_
          refine X.aload_n 105 i205_104 rfl rfl rfl ?_
          refine X.getF 108 i205_105 rfl rfl (by decide) rfl rfl ?_
          refine X.iconst 109 i205_108 rfl rfl (by decide) ?_
          refine X.lald 110 i205_109 rfl rfl (by decide) rfl (by omega) ?_
          refine X.aload_n 111 i205_110 rfl rfl rfl ?_
          refine X.getF 114 i205_111 rfl rfl (by decide) rfl rfl ?_
          refine X.iconst 115 i205_114 rfl rfl (by decide) ?_
          refine X.lald 116 i205_115 rfl rfl (by decide) rfl (by omega) ?_
          have hz529 := z_mulr (a := 1) (b := 3) (c := 4) (e := 16) (x := (m527 4 45 1)) (y := (m527 4 45 2)) (by omega) (by omega)
          refine X.lmul 117 i205_116 rfl rfl (z_in3 hz529 (by decide) (by decide)) ?_
          obtain ⟨z529, ez529⟩ : ∃ z, z = ((m527 4 45 1) * (m527 4 45 2)) := ⟨_, rfl⟩
          rw [← ez529] at hz529 ⊢
          have gz529 : 4 ≤ z529 ∧ z529 ≤ 48 := z_in3 hz529 (by decide) (by decide)
          clear hz529
          refine X.lcmp 118 i205_117 rfl rfl (fun z530 hz530 => ?_)
          refine X.ifge 129 121 i205_118 rfl rfl rfl (fun h531 => ?_) (fun h531 => ?_)
          · have h531c : ¬ (m527 4 45 3) < z529 := by omega
            clear h531 hz530
            refine X.cut [(0, zr 4 44)] i205_129 rfl ?_
            refine X.aload_n 130 i205_129 rfl rfl rfl ?_
            refine X.getF 133 i205_130 rfl rfl (by decide) rfl rfl ?_
            refine X.iconst 134 i205_133 rfl rfl (by decide) ?_
            refine X.lconst (y := 0) 135 i205_134 rfl rfl rfl ?_
            refine X.last' 136 i205_135 rfl rfl (by decide) rfl (by omega) (fun hrm532 m532 hm532 => ?_)
            have hJ533 := w45_3 (x := 0) hJ525 (show m532 = z_upd m524 4 45 3 0 by rw [hm532, hm527]; exact z_upd_upd _ _ _ _ _ _) (by omega) hf22 hg4
            refine X.iconst 137 i205_136 rfl rfl (by decide) ?_
            refine X.istore 139 [(0, zr 4 44), (4, zi 0)] i205_137 rfl rfl rfl ?_
            have hz97 := zfu_eq 97
            refine l205_139_1 (s := s) (d := d) (R0 := (f205_1 a1 a2 m))    (BE := B + 0) (by omega) (by omega) hf22 hg4 (fun  m534 B535 hJ536 hBB535 hR537 => ?_) (zfu 97) 0 m532 (B) (hJ533.up (by omega)) (by omega) (by omega) (by omega) (Eq.trans (if_neg h502c) (Eq.trans (if_pos h505c) (Eq.trans (if_neg h509c) (Eq.trans (if_pos h512c) (Eq.trans (zn_eq ez517) (Eq.trans (zn_eq ez518) (Eq.trans (zs_eq hm519) (Eq.trans (zn_eq ez522) (Eq.trans (zn_eq ez523) (Eq.trans (zs_eq hm524) (Eq.trans (zs_eq hm527) (Eq.trans (zn_eq ez529) (Eq.trans (if_neg h531c) (Eq.trans (zs_eq hm532) rfl))))))))))))))
            refine X.aload_n 174 i205_173 rfl rfl rfl ?_
            refine X.callv 177 [] [] [(0, zr 4 44)] i205_174 rfl (by decide) rfl rfl (by omega) rfl rfl (by decide) rfl t208 (Nat.le_of_ble_eq_true rfl) (Nat.le_of_ble_eq_true rfl) rfl ?_
            refine c208_1 (B := B535)   (by omega) (hJ536.up (by omega)) (by omega)  hf26 hf27 hf28 hf29 hf30 hf31 hf32 hf33 hg4 (fun m538 hFv540 hJ539 => ?_)
            show X (EE s) d 205 177 [(0, zr 4 44)] [] m538 _
            refine X.iconst 178 i205_177 rfl rfl (by decide) ?_
            refine X.reti i205_178 rfl t205 ?_
            exact hQ 0 m538 (by first | trivial | omega) (Eq.trans hR537 (Eq.trans (zs_eq hFv540.symm) rfl)) (hJ539.up (by omega)) 
          · have h531c : (m527 4 45 3) < z529 := by omega
            clear h531 hz530
            refine X.aload_n 122 i205_121 rfl rfl rfl ?_
            refine X.getF 125 i205_122 rfl rfl (by decide) rfl rfl ?_
            refine X.iconst 126 i205_125 rfl rfl (by decide) ?_
            refine X.lald 127 i205_126 rfl rfl (by decide) rfl (by omega) ?_
            refine X.l2i 128 i205_127 rfl rfl (by omega) ?_
            have hJ541 := w45_3 hJ525 hm527 (by omega) hf22 hg4
            refine X.reti i205_128 rfl t205 ?_
            exact hQ (m527 4 45 3) m527 (by first | trivial | omega) (Eq.trans (if_neg h502c) (Eq.trans (if_pos h505c) (Eq.trans (if_neg h509c) (Eq.trans (if_pos h512c) (Eq.trans (zn_eq ez517) (Eq.trans (zn_eq ez518) (Eq.trans (zs_eq hm519) (Eq.trans (zn_eq ez522) (Eq.trans (zn_eq ez523) (Eq.trans (zs_eq hm524) (Eq.trans (zs_eq hm527) (Eq.trans (zn_eq ez529) (Eq.trans (if_pos h531c) rfl))))))))))))) (hJ541.up (by omega)) 
noncomputable def fl72_16_1_b (self : Int → Int → Int) (k37 : Int → Int) (g0 : Nat) (y1 : Int) (m : zM) (y3 y5 : Int) : Int :=
  if 4 ≤ y5 then
  (k37 y3)
  else
  (zn (w64 (y3 + (m g0 24 (y1 + y5)))) fun z506 =>
  self z506 (y5 + 1))
noncomputable def fl72_16_1 (k37 : Int → Int) (g0 : Nat) (y1 : Int) (m : zM) : Nat → Int → Int → Int
  | 0 => fun y3 y5 => 0
  | n + 1 => fl72_16_1_b (fl72_16_1 k37 g0 y1 m n) k37 g0 y1 m
theorem l72_16_1 {s : Nat × (Nat → Int32)} {S : zS} {m0 : zM} {m : zM} {B : Int} {d : Nat} {Q : Option zV → zM → Prop} {R0 : Int} {k37 : Int → Int} (g0 : Nat) (y1 : Int) (hd : 13 ≤ d) (hJ : J S m0 B m) (hB9 : B ≤ 1000000000) (hy1 : 0 ≤ y1 ∧ y1 ≤ 24)
    (K37 : ∀ (x3 : Int) , (True) → R0 = k37 x3 → X (EE s) d 72 37 [(3, zl x3)] [] m Q) :
    ∀ (n : Nat) (y3 y5 : Int) , (0 ≤ y5 ∧ y5 ≤ 4) → 4 - y5 < (n : Int) → R0 = fl72_16_1 k37 g0 y1 m n y3 y5 → X (EE s) d 72 16 [(0, zr g0 24), (1, zi y1), (3, zl y3), (5, zi y5)] [] m Q := by
  intro n
  induction n with
  | zero =>
    intro y3 y5 hy5 hn hR
    exfalso
    omega
  | succ n ih =>
    intro y3 y5 hy5 hn hR
    replace hR : R0 = fl72_16_1_b (fl72_16_1 k37 g0 y1 m n) k37 g0 y1 m y3 y5 := hR
    refine X.iload 18 i72_16 rfl rfl rfl ?_
    refine X.iconst 19 i72_18 rfl rfl (by decide) ?_
    refine X.icmpge 37 22 i72_19 rfl rfl rfl (fun h505 => ?_) (fun h505 => ?_)
    · refine X.cut [(3, zl y3)] i72_37 rfl ?_
      exact K37 y3 (by first | trivial | omega) (Eq.trans hR (Eq.trans (if_pos h505) rfl))
    · refine X.lload_n 23 i72_22 rfl rfl rfl ?_
      refine X.aload_n 24 i72_23 rfl rfl rfl ?_
      refine X.iload_n 25 i72_24 rfl rfl rfl ?_
      refine X.iload 27 i72_25 rfl rfl rfl ?_
      refine X.iadd 28 i72_27 rfl rfl (by omega) ?_
      refine X.lald 29 i72_28 rfl rfl (by decide) rfl (by omega) ?_
      refine X.laddW 30 i72_29 rfl rfl (fun z506 ez506 hz506 => ?_)
      refine X.lstore_n 31 [(0, zr g0 24), (1, zi y1), (3, zl z506), (5, zi y5)] i72_30 rfl rfl rfl ?_
      refine X.iinc 34 [(0, zr g0 24), (1, zi y1), (3, zl z506), (5, zi (y5 + 1))] i72_31 rfl rfl rfl (by omega) rfl ?_
      refine X.goto 16 i72_34 rfl rfl ?_
      exact ih z506 (y5 + 1) (by omega) (by omega) (Eq.trans hR (Eq.trans (if_neg h505) (Eq.trans (zn_eq ez506) rfl)))
-- WorkMeter$Registers.sumIn
noncomputable def f72_1 (g0 : Nat) (a1 a2 : Int) (m : zM) : Int :=
  if a2 = (-1) then
  (fl72_16_1 (fun y502 =>
  y502) g0 a1 m (zfu 5) 0 0)
  else
  ((m g0 24 (a1 + a2)))
-- WorkMeter$Registers.sumIn
theorem c72_1 {s : Nat × (Nat → Int32)} {S : zS} {m0 m : zM} {B : Int} {d : Nat} {Q : Option zV → zM → Prop} (g0 : Nat) (a1 a2 : Int) (hd : 13 ≤ d) (hJ : J S m0 B m) (hB : B + 0 ≤ 1000000000) (ha1 : 0 ≤ a1 ∧ a1 ≤ 24) (ha2 : (-1) ≤ a2 ∧ a2 ≤ 3) (hQ : ∀ (v : Int), (True) → f72_1 g0 a1 a2 m = v → Q (some (zl v)) m) : X (EE s) d 72 0 [(0, zr g0 24), (1, zi a1), (2, zi a2)] [] m Q := by
  refine X.iload_n 1 i72_0 rfl rfl rfl ?_
  refine X.iconst 2 i72_1 rfl rfl (by decide) ?_
  refine X.icmpeq 11 5 i72_2 rfl rfl rfl (fun h501 => ?_) (fun h501 => ?_)
  · refine X.cut [(0, zr g0 24), (1, zi a1)] i72_11 rfl ?_
    refine X.lconst (y := 0) 12 i72_11 rfl rfl rfl ?_
    refine X.lstore_n 13 [(0, zr g0 24), (1, zi a1), (3, zl 0)] i72_12 rfl rfl rfl ?_
    refine X.iconst 14 i72_13 rfl rfl (by decide) ?_
    refine X.istore 16 [(0, zr g0 24), (1, zi a1), (3, zl 0), (5, zi 0)] i72_14 rfl rfl rfl ?_
    have hz5 := zfu_eq 5
    refine l72_16_1 (s := s) (m := m) (B := B) (d := d) (R0 := (f72_1 g0 a1 a2 m)) g0 a1  (by omega) (hJ.up (by omega)) (by omega) (by omega) (fun y502 hby502 hR506 => ?_) (zfu 5) 0 0 (by omega) (by omega) (Eq.trans (if_pos h501) rfl)
    refine X.lload_n 38 i72_37 rfl rfl rfl ?_
    refine X.retl i72_38 rfl t72 ?_
    exact hQ y502 (by first | trivial | omega) (Eq.trans hR506 rfl) 
  · refine X.aload_n 6 i72_5 rfl rfl rfl ?_
    refine X.iload_n 7 i72_6 rfl rfl rfl ?_
    refine X.iload_n 8 i72_7 rfl rfl rfl ?_
    refine X.iadd 9 i72_8 rfl rfl (by omega) ?_
    refine X.lald 10 i72_9 rfl rfl (by decide) rfl (by omega) ?_
    refine X.retl i72_10 rfl t72 ?_
    exact hQ (m g0 24 (a1 + a2)) (by first | trivial | omega) (Eq.trans (if_neg h501) rfl) 
-- WorkMeter$Registers.sum
noncomputable def f71_1 (g0 : Nat) (a1 a2 : Int) (m : zM) : Int :=
  zn (f72_1 g0 (a1 * 4) a2 m) fun v503 =>
  v503
-- WorkMeter$Registers.sum
theorem c71_1 {s : Nat × (Nat → Int32)} {S : zS} {m0 m : zM} {B : Int} {d : Nat} {Q : Option zV → zM → Prop} (g0 : Nat) (a1 a2 : Int) (hd : 14 ≤ d) (hJ : J S m0 B m) (hB : B + 0 ≤ 1000000000) (ha1 : 0 ≤ a1 ∧ a1 ≤ 0) (ha2 : (-1) ≤ a2 ∧ a2 ≤ (-1)) (hQ : ∀ (v : Int), (True) → f71_1 g0 a1 a2 m = v → Q (some (zl v)) m) : X (EE s) d 71 0 [(0, zr g0 23), (1, zi a1), (2, zi a2)] [] m Q := by
  refine X.aload_n 1 i71_0 rfl rfl rfl ?_
  refine X.getR 4 i71_1 rfl rfl (by decide) rfl rfl ?_
  refine X.iload_n 5 i71_4 rfl rfl rfl ?_
  refine X.iconst 6 i71_5 rfl rfl (by decide) ?_
  refine X.imul 7 i71_6 rfl rfl (by omega) ?_
  refine X.iload_n 8 i71_7 rfl rfl rfl ?_
  refine X.calls 11 [zr g0 24, zi (a1 * 4), zi a2] [] [(0, zr g0 24), (1, zi (a1 * 4)), (2, zi a2)] i71_8 (by decide) rfl rfl (by omega) rfl rfl t72 (Nat.le_of_ble_eq_true rfl) (Nat.le_of_ble_eq_true rfl) rfl ?_
  refine c72_1 (B := B) g0 (a1 * 4) a2 (by omega) (hJ.up (by omega)) (by omega) (by omega) (by omega) (fun v503 hv503 hFv503 => ?_)
  show X (EE s) d 71 11 [(0, zr g0 23), (1, zi a1), (2, zi a2)] [zl v503] m _
  refine X.retl i71_11 rfl t71 ?_
  exact hQ v503 (by first | trivial | omega) (Eq.trans (zn_eq hFv503.symm) rfl) 
-- WorkMeter$Meter.totalReading
noncomputable def f70_1 (g0 : Nat) (a1 : Int) (m : zM) : Int :=
  zn (f71_1 g0 a1 (-1) m) fun v503 =>
  zn (w64 ((v503).tdiv (max 1 (m g0 10 1)))) fun z505 =>
  z505
-- WorkMeter$Meter.totalReading
theorem c70_1 {s : Nat × (Nat → Int32)} {S : zS} {m0 m : zM} {B : Int} {d : Nat} {Q : Option zV → zM → Prop} (g0 : Nat) (a1 : Int) (hd : 15 ≤ d) (hJ : J S m0 B m) (hB : B + 0 ≤ 1000000000) (ha1 : 0 ≤ a1 ∧ a1 ≤ 0) (hQ : ∀ (v : Int), (True) → f70_1 g0 a1 m = v → Q (some (zl v)) m) : X (EE s) d 70 0 [(0, zr g0 8), (1, zi a1)] [] m Q := by
  refine X.aload_n 1 i70_0 rfl rfl rfl ?_
  refine X.getR 4 i70_1 rfl rfl (by decide) rfl rfl ?_
  refine X.iload_n 5 i70_4 rfl rfl rfl ?_
  refine X.iconst 6 i70_5 rfl rfl (by decide) ?_
  refine X.callv 9 [zi a1, zi (-1)] [] [(0, zr g0 23), (1, zi a1), (2, zi (-1))] i70_6 rfl (by decide) rfl rfl (by omega) rfl rfl (by decide) rfl t71 (Nat.le_of_ble_eq_true rfl) (Nat.le_of_ble_eq_true rfl) rfl ?_
  refine c71_1 (B := B) g0 a1 (-1) (by omega) (hJ.up (by omega)) (by omega) (by omega) (by omega) (fun v503 hv503 hFv503 => ?_)
  show X (EE s) d 70 9 [(0, zr g0 8), (1, zi a1)] [zl v503] m _
  refine X.aload_n 10 i70_9 rfl rfl rfl ?_
  refine X.getR 13 i70_10 rfl rfl (by decide) rfl rfl ?_
  refine X.callv 16 [] [zl v503] [(0, zr g0 9)] i70_13 rfl (by decide) rfl rfl (by omega) rfl rfl (by decide) rfl t48 (Nat.le_of_ble_eq_true rfl) (Nat.le_of_ble_eq_true rfl) rfl ?_
  refine X.iconst 1 i48_0 rfl rfl (by decide) ?_
  refine X.aload_n 2 i48_1 rfl rfl rfl ?_
  refine X.getR 5 i48_2 rfl rfl (by decide) rfl rfl ?_
  refine X.iconst 6 i48_5 rfl rfl (by decide) ?_
  refine X.iald 7 i48_6 rfl rfl (by decide) rfl (by omega) ?_
  have h504 := r10_0 hJ g0 (i := 1) (by omega)
  refine X.maxI 10 i48_7 rfl rfl (by omega) (Nat.le_of_ble_eq_true rfl) ?_
  refine X.reti i48_10 rfl t48 ?_
  show X (EE s) d 70 16 [(0, zr g0 8), (1, zi a1)] [zi (max 1 (m g0 10 1)), zl v503] m _
  refine X.i2l 17 i70_16 rfl rfl ?_
  refine X.ldivW 18 i70_17 rfl rfl (by omega) (fun z505 ez505 hz505 => ?_)
  refine X.retl i70_18 rfl t70 ?_
  exact hQ z505 (by first | trivial | omega) (Eq.trans (zn_eq hFv503.symm) (Eq.trans (zn_eq ez505) rfl)) 
-- WorkMeter.again
noncomputable def f69_1 (a1 : Int) (m : zM) : Int × zM :=
  if a1 < 1 then
  (((-1), m))
  else
  (if a1 ≤ 900 then
  (zs (f25_1 0 a1 m) fun m503 =>
  zn (f70_1 0 0 m503) fun v508 =>
  (v508, m503))
  else
  (((-1), m)))
-- WorkMeter.again
theorem c69_1 {s : Nat × (Nat → Int32)} {S : zS} {m0 m : zM} {B : Int} {d : Nat} {Q : Option zV → zM → Prop} (a1 : Int) (hd : 19 ≤ d) (hJ : J S m0 B m) (hB : B + 7208 ≤ 1000000000) (ha1 : (-2147483648) ≤ a1 ∧ a1 ≤ 2147483647) (hf6 : ¬ S.1 6) (hf7 : ¬ S.1 7) (hf8 : ¬ S.1 8) (hf9 : ¬ S.1 9) (hf10 : ¬ S.1 10) (hf11 : ¬ S.1 11) (hf12 : ¬ S.1 12) (hf13 : ¬ S.1 13) (hg0 : ¬ S.2.1 0) (hQ : ∀ (v : Int) m', (True) → f69_1 a1 m = (v, m') → J S m0 (B + 7208) m' → Q (some (zl v)) m') : X (EE s) d 69 0 [(0, zr 4 40), (1, zi a1)] [] m Q := by
  refine X.iload_n 1 i69_0 rfl rfl rfl ?_
  refine X.iconst 2 i69_1 rfl rfl (by decide) ?_
  refine X.icmplt 12 5 i69_2 rfl rfl rfl (fun h501 => ?_) (fun h501 => ?_)
  · refine X.cut [] i69_12 rfl ?_
    refine X.ldc2 15 i69_12 rfl rfl (by decide) ?_
    refine X.retl i69_15 rfl t69 ?_
    exact hQ (-1) m (by first | trivial | omega) (Eq.trans (if_pos h501) rfl) (hJ.up (by omega)) 
  · refine X.iload_n 6 i69_5 rfl rfl rfl ?_
    refine X.sipush 9 i69_6 rfl rfl (by decide) ?_
    refine X.icmple 16 12 i69_9 rfl rfl rfl (fun h502 => ?_) (fun h502 => ?_)
    · refine X.aload_n 17 i69_16 rfl rfl rfl ?_
      refine X.getF 20 i69_17 rfl rfl (by decide) rfl rfl ?_
      refine X.iload_n 21 i69_20 rfl rfl rfl ?_
      refine X.callv 24 [zi a1] [] [(0, zr 0 8), (1, zi a1)] i69_21 rfl (by decide) rfl rfl (by omega) rfl rfl (by decide) rfl t25 (Nat.le_of_ble_eq_true rfl) (Nat.le_of_ble_eq_true rfl) rfl ?_
      refine c25_1 (B := B) 0 a1 (by omega) (hJ.up (by omega)) (by omega) (by omega) hf6 hf7 hf8 hf9 hf10 hf11 hf12 hf13 hg0 (fun m503 hFv505 hJ504 => ?_)
      show X (EE s) d 69 24 [(0, zr 4 40), (1, zi a1)] [] m503 _
      refine X.aload_n 25 i69_24 rfl rfl rfl ?_
      refine X.getF 28 i69_25 rfl rfl (by decide) rfl rfl ?_
      refine X.iconst 29 i69_28 rfl rfl (by decide) ?_
      refine X.callv 32 [zi 0] [] [(0, zr 0 8), (1, zi 0)] i69_29 rfl (by decide) rfl rfl (by omega) rfl rfl (by decide) rfl t70 (Nat.le_of_ble_eq_true rfl) (Nat.le_of_ble_eq_true rfl) rfl ?_
      refine c70_1 (B := B + 7208) 0 0 (by omega) (hJ504.up (by omega)) (by omega) (by omega) (fun v508 hv508 hFv508 => ?_)
      show X (EE s) d 69 32 [(0, zr 4 40), (1, zi a1)] [zl v508] m503 _
      refine X.retl i69_32 rfl t69 ?_
      exact hQ v508 m503 (by first | trivial | omega) (Eq.trans (if_neg h501) (Eq.trans (if_pos h502) (Eq.trans (zs_eq hFv505.symm) (Eq.trans (zn_eq hFv508.symm) rfl)))) (hJ504.up (by omega)) 
    · refine X.cut [] i69_12 rfl ?_
      refine X.ldc2 15 i69_12 rfl rfl (by decide) ?_
      refine X.retl i69_15 rfl t69 ?_
      exact hQ (-1) m (by first | trivial | omega) (Eq.trans (if_neg h501) (Eq.trans (if_neg h502) rfl)) (hJ.up (by omega)) 
noncomputable def fl279_18_1_b (self : Int → zM → Int × zM) (k33 : zM → Int × zM) (y1 : Int) (y2 : Int) (m : zM) : Int × zM :=
  if y1 ≤ y2 then
  (k33 m)
  else
  (zs (f208_1 m) fun m506 =>
  self (y2 + 1) m506)
noncomputable def fl279_18_1 (k33 : zM → Int × zM) (y1 : Int) : Nat → Int → zM → Int × zM
  | 0 => fun y2 m => (0, m)
  | n + 1 => fl279_18_1_b (fl279_18_1 k33 y1 n) k33 y1
theorem l279_18_1 {s : Nat × (Nat → Int32)} {S : zS} {m0 : zM} {d : Nat} {Q : Option zV → zM → Prop} {R0 : Int × zM} {k33 : zM → Int × zM} (y1 : Int) (BE : Int) (hE : BE ≤ 1000000000) (hd : 20 ≤ d) (hy1 : 1 ≤ y1 ∧ y1 ≤ 900) (hf26 : ¬ S.1 26) (hf27 : ¬ S.1 27) (hf28 : ¬ S.1 28) (hf29 : ¬ S.1 29) (hf30 : ¬ S.1 30) (hf31 : ¬ S.1 31) (hf32 : ¬ S.1 32) (hf33 : ¬ S.1 33) (hg4 : ¬ S.2.1 4)
    (K33 : ∀ (m' : zM) (B' : Int), J S m0 B' m' → B' ≤ BE → R0 = k33 m' → X (EE s) d 279 33 [(0, zr 4 44)] [] m' Q) :
    ∀ (n : Nat) (y2 : Int) (m : zM) (B : Int), J S m0 B m → B + 11 * (n : Int) ≤ BE → (0 ≤ y2 ∧ y2 ≤ 900) → 900 - y2 < (n : Int) → R0 = fl279_18_1 k33 y1 n y2 m → X (EE s) d 279 18 [(0, zr 4 44), (1, zi y1), (2, zi y2)] [] m Q := by
  intro n
  induction n with
  | zero =>
    intro y2 m B hJ hB hy2 hn hR
    exfalso
    omega
  | succ n ih =>
    intro y2 m B hJ hB hy2 hn hR
    replace hR : R0 = fl279_18_1_b (fl279_18_1 k33 y1 n) k33 y1 y2 m := hR
    refine X.iload_n 19 i279_18 rfl rfl rfl ?_
    refine X.iload_n 20 i279_19 rfl rfl rfl ?_
    refine X.icmpge 33 23 i279_20 rfl rfl rfl (fun h505 => ?_) (fun h505 => ?_)
    · refine X.cut [(0, zr 4 44)] i279_33 rfl ?_
      exact K33  m (B) (hJ.up (by omega)) (by omega)  (Eq.trans hR (Eq.trans (if_pos h505) rfl))
    · refine X.aload_n 24 i279_23 rfl rfl rfl ?_
      refine X.callv 27 [] [] [(0, zr 4 44)] i279_24 rfl (by decide) rfl rfl (by omega) rfl rfl (by decide) rfl t208 (Nat.le_of_ble_eq_true rfl) (Nat.le_of_ble_eq_true rfl) rfl ?_
      refine c208_1 (B := B)   (by omega) (hJ.up (by omega)) (by omega)  hf26 hf27 hf28 hf29 hf30 hf31 hf32 hf33 hg4 (fun m506 hFv508 hJ507 => ?_)
      show X (EE s) d 279 27 [(0, zr 4 44), (1, zi y1), (2, zi y2)] [] m506 _
      refine X.iinc 30 [(0, zr 4 44), (1, zi y1), (2, zi (y2 + 1))] i279_27 rfl rfl rfl (by omega) rfl ?_
      refine X.goto 18 i279_30 rfl rfl ?_
      exact ih (y2 + 1) m506 (B + 11) (hJ507.up (by omega)) (by omega) (by omega) (by omega) (Eq.trans hR (Eq.trans (if_neg h505) (Eq.trans (zs_eq hFv508.symm) rfl)))
-- WorkMeterModel.again
noncomputable def f279_1 (a1 : Int) (m : zM) : Int × zM :=
  if a1 < 1 then
  (((-1), m))
  else
  (if a1 ≤ 900 then
  (fl279_18_1 (fun m508 =>
  zn (w64 (((m508 4 45 64)).tdiv (m508 4 45 5))) fun z513 =>
  (z513, m508)) a1 (zfu 901) 0 m)
  else
  (((-1), m)))
-- WorkMeterModel.again
theorem c279_1 {s : Nat × (Nat → Int32)} {S : zS} {m0 m : zM} {B : Int} {d : Nat} {Q : Option zV → zM → Prop} (a1 : Int) (hd : 20 ≤ d) (hJ : J S m0 B m) (hB : B + 9911 ≤ 1000000000) (ha1 : (-2147483648) ≤ a1 ∧ a1 ≤ 2147483647) (hf26 : ¬ S.1 26) (hf27 : ¬ S.1 27) (hf28 : ¬ S.1 28) (hf29 : ¬ S.1 29) (hf30 : ¬ S.1 30) (hf31 : ¬ S.1 31) (hf32 : ¬ S.1 32) (hf33 : ¬ S.1 33) (hg4 : ¬ S.2.1 4) (hQ : ∀ (v : Int) m', (True) → f279_1 a1 m = (v, m') → J S m0 (B + 9911) m' → Q (some (zl v)) m') : X (EE s) d 279 0 [(0, zr 4 44), (1, zi a1)] [] m Q := by
  refine X.iload_n 1 i279_0 rfl rfl rfl ?_
  refine X.i2l 2 i279_1 rfl rfl ?_
  refine X.lconst (y := 1) 3 i279_2 rfl rfl rfl ?_
  refine X.ldc2 6 i279_3 rfl rfl (by decide) ?_
  refine X.calls 9 [zl a1, zl 1, zl 900] [] [(0, zl a1), (2, zl 1), (4, zl 900)] i279_6 (by decide) rfl rfl (by omega) rfl rfl t204 (Nat.le_of_ble_eq_true rfl) (Nat.le_of_ble_eq_true rfl) rfl ?_
  refine X.lload_n 1 i204_0 rfl rfl rfl ?_
  refine X.lload_n 2 i204_1 rfl rfl rfl ?_
  refine X.lcmp 3 i204_2 rfl rfl (fun z501 hz501 => ?_)
  refine X.iflt 17 6 i204_3 rfl rfl rfl (fun h502 => ?_) (fun h502 => ?_)
  · have h502c : a1 < 1 := by omega
    clear h502 hz501
    refine X.cut [] i204_17 rfl ?_
    refine X.iconst 18 i204_17 rfl rfl (by decide) ?_
    refine X.retz i204_18 rfl t204 (by omega) ?_
    show X (EE s) d 279 9 [(0, zr 4 44), (1, zi a1)] [zi 0] m _
    refine X.ifne 16 12 i279_9 rfl rfl rfl (fun h503 => (by exfalso; omega)) (fun h503 => ?_)
    refine X.ldc2 15 i279_12 rfl rfl (by decide) ?_
    refine X.retl i279_15 rfl t279 ?_
    exact hQ (-1) m (by first | trivial | omega) (Eq.trans (if_pos h502c) rfl) (hJ.up (by omega)) 
  · have h502c : ¬ a1 < 1 := by omega
    clear h502 hz501
    refine X.lload_n 7 i204_6 rfl rfl rfl ?_
    refine X.lload 9 i204_7 rfl rfl rfl ?_
    refine X.lcmp 10 i204_9 rfl rfl (fun z504 hz504 => ?_)
    refine X.ifgt 17 13 i204_10 rfl rfl rfl (fun h505 => ?_) (fun h505 => ?_)
    · have h505c : ¬ a1 ≤ 900 := by omega
      clear h505 hz504
      refine X.cut [] i204_17 rfl ?_
      refine X.iconst 18 i204_17 rfl rfl (by decide) ?_
      refine X.retz i204_18 rfl t204 (by omega) ?_
      show X (EE s) d 279 9 [(0, zr 4 44), (1, zi a1)] [zi 0] m _
      refine X.ifne 16 12 i279_9 rfl rfl rfl (fun h506 => (by exfalso; omega)) (fun h506 => ?_)
      refine X.ldc2 15 i279_12 rfl rfl (by decide) ?_
      refine X.retl i279_15 rfl t279 ?_
      exact hQ (-1) m (by first | trivial | omega) (Eq.trans (if_neg h502c) (Eq.trans (if_neg h505c) rfl)) (hJ.up (by omega)) 
    · have h505c : a1 ≤ 900 := by omega
      clear h505 hz504
      refine X.iconst 14 i204_13 rfl rfl (by decide) ?_
      refine X.goto 18 i204_14 rfl rfl ?_
      refine X.cut [] i204_18 rfl ?_
      refine X.retz i204_18 rfl t204 (by omega) ?_
      show X (EE s) d 279 9 [(0, zr 4 44), (1, zi a1)] [zi 1] m _
      refine X.ifne 16 12 i279_9 rfl rfl rfl (fun h507 => ?_) (fun h507 => (by exfalso; omega))
      refine X.iconst 17 i279_16 rfl rfl (by decide) ?_
      refine X.istore_n 18 [(0, zr 4 44), (1, zi a1), (2, zi 0)] i279_17 rfl rfl rfl ?_
      have hz901 := zfu_eq 901
      refine l279_18_1 (s := s) (d := d) (R0 := (f279_1 a1 m))  a1  (BE := B + 9911) (by omega) (by omega) (by omega) hf26 hf27 hf28 hf29 hf30 hf31 hf32 hf33 hg4 (fun  m508 B509 hJ510 hBB509 hR511 => ?_) (zfu 901) 0 m (B) (hJ.up (by omega)) (by omega) (by omega) (by omega) (Eq.trans (if_neg h502c) (Eq.trans (if_pos h505c) rfl))
      refine X.aload_n 34 i279_33 rfl rfl rfl ?_
      refine X.getF 37 i279_34 rfl rfl (by decide) rfl rfl ?_
      refine X.bipush 39 i279_37 rfl rfl (by decide) ?_
      refine X.lald 40 i279_39 rfl rfl (by decide) rfl (by omega) ?_
      refine X.aload_n 41 i279_40 rfl rfl rfl ?_
      refine X.getF 44 i279_41 rfl rfl (by decide) rfl rfl ?_
      refine X.iconst 45 i279_44 rfl rfl (by decide) ?_
      refine X.lald 46 i279_45 rfl rfl (by decide) rfl (by omega) ?_
      have h512 := r45_5 hJ510 4
      refine X.ldivW 47 i279_46 rfl rfl (by omega) (fun z513 ez513 hz513 => ?_)
      refine X.retl i279_47 rfl t279 ?_
      exact hQ z513 m508 (by first | trivial | omega) (Eq.trans hR511 (Eq.trans (zn_eq ez513) rfl)) (hJ510.up (by omega)) 
end
