section
-- WorkMeterModel.logs
theorem c223_1 {s : Nat × (Nat → Int32)} {S : zS} {m0 m : zM} {B : Int} {d : Nat} {Q : Option zV → zM → Prop} (a1 a2 : Int) (hd : 13 ≤ d) (hJ : J S m0 B m) (hB : B + 1 ≤ 1000000000) (ha1 : 0 ≤ a1 ∧ a1 ≤ 40) (hf26 : ¬ S.1 26) (hg4 : ¬ S.2.1 4) (hQ : ∀ m', f223_1 a1 a2 m = m' → J S m0 (B + 1) m' → Q none m') : X (EE s) d 223 0 [(0, zr 4 44), (1, zi a1), (2, zl a2)] [] m Q := by
  refine X.aload_n 1 (zi223 0) rfl rfl rfl ?_
  refine X.getF 4 (zi223 1) rfl rfl (by decide) rfl rfl ?_
  refine X.bipush 6 (zi223 4) rfl rfl (by decide) ?_
  refine X.lald 7 (zi223 6) rfl rfl (by decide) rfl (by omega) ?_
  have h501 := r45_16 hJ 4
  refine X.ldc2 10 (zi223 7) rfl rfl (by decide) ?_
  refine X.lcmp 11 (zi223 10) rfl rfl (fun z502 hz502 => ?_)
  refine X.iflt 54 14 (zi223 11) rfl rfl rfl (fun h503 => ?_) (fun h503 => ?_)
  · have h503c : (m 4 45 16) < 40 := by omega
    clear h503 hz502
    refine X.sipush 57 (zi223 54) rfl rfl (by decide) ?_
    refine X.iconst 58 (zi223 57) rfl rfl (by decide) ?_
    refine X.aload_n 59 (zi223 58) rfl rfl rfl ?_
    refine X.getF 62 (zi223 59) rfl rfl (by decide) rfl rfl ?_
    refine X.bipush 64 (zi223 62) rfl rfl (by decide) ?_
    refine X.lald 65 (zi223 64) rfl rfl (by decide) rfl (by omega) ?_
    refine X.ldc2 68 (zi223 65) rfl rfl (by decide) ?_
    refine X.lcmp 69 (zi223 68) rfl rfl (fun z504 hz504 => ?_)
    refine X.ifge 82 72 (zi223 69) rfl rfl rfl (fun h505 => (by exfalso; omega)) (fun h505 => ?_)
    have h505c : (m 4 45 16) < 40 := by omega
    clear h505 hz504
    refine X.aload_n 73 (zi223 72) rfl rfl rfl ?_
    refine X.getF 76 (zi223 73) rfl rfl (by decide) rfl rfl ?_
    refine X.bipush 78 (zi223 76) rfl rfl (by decide) ?_
    refine X.lald 79 (zi223 78) rfl rfl (by decide) rfl (by omega) ?_
    refine X.goto 85 (zi223 79) rfl rfl ?_
    refine X.l2i 86 (zi223 85) rfl rfl (by omega) ?_
    refine X.imul 87 (zi223 86) rfl rfl (by omega) ?_
    refine X.iadd 88 (zi223 87) rfl rfl (by omega) ?_
    refine X.istore 90 [(0, zr 4 44), (1, zi a1), (2, zl a2), (4, zi (1487 + (3 * (m 4 45 16))))] (zi223 88) rfl rfl rfl ?_
    refine X.aload_n 91 (zi223 90) rfl rfl rfl ?_
    refine X.getF 94 (zi223 91) rfl rfl (by decide) rfl rfl ?_
    refine X.iload 96 (zi223 94) rfl rfl rfl ?_
    refine X.aload_n 97 (zi223 96) rfl rfl rfl ?_
    refine X.getF 100 (zi223 97) rfl rfl (by decide) rfl rfl ?_
    refine X.iconst 101 (zi223 100) rfl rfl (by decide) ?_
    refine X.lald 102 (zi223 101) rfl rfl (by decide) rfl (by omega) ?_
    have h506 := r45_0 hJ 4
    refine X.last' 103 (zi223 102) rfl rfl (by decide) rfl (by omega) (fun hrm507 m507 hm507 => ?_)
    have hJ508 := w45_1487 hJ hm507 (by omega) hrm507 hf26 hg4
    refine X.aload_n 104 (zi223 103) rfl rfl rfl ?_
    refine X.getF 107 (zi223 104) rfl rfl (by decide) rfl rfl ?_
    refine X.iload 109 (zi223 107) rfl rfl rfl ?_
    refine X.iconst 110 (zi223 109) rfl rfl (by decide) ?_
    refine X.iadd 111 (zi223 110) rfl rfl (by omega) ?_
    refine X.iload_n 112 (zi223 111) rfl rfl rfl ?_
    refine X.i2l 113 (zi223 112) rfl rfl ?_
    refine X.last' 114 (zi223 113) rfl rfl (by decide) rfl (by omega) (fun hrm509 m509 hm509 => ?_)
    have hJ510 := w45_1487 hJ508 hm509 (by omega) hrm509 hf26 hg4
    refine X.aload_n 115 (zi223 114) rfl rfl rfl ?_
    refine X.getF 118 (zi223 115) rfl rfl (by decide) rfl rfl ?_
    refine X.iload 120 (zi223 118) rfl rfl rfl ?_
    refine X.iconst 121 (zi223 120) rfl rfl (by decide) ?_
    refine X.iadd 122 (zi223 121) rfl rfl (by omega) ?_
    refine X.lload_n 123 (zi223 122) rfl rfl rfl ?_
    refine X.last' 124 (zi223 123) rfl rfl (by decide) rfl (by omega) (fun hrm511 m511 hm511 => ?_)
    have hJ512 := w45_1487 hJ510 hm511 (by omega) hrm511 hf26 hg4
    refine X.aload_n 125 (zi223 124) rfl rfl rfl ?_
    refine X.getF 128 (zi223 125) rfl rfl (by decide) rfl rfl ?_
    refine X.bipush 130 (zi223 128) rfl rfl (by decide) ?_
    refine X.dup2 131 (zi223 130) rfl rfl ?_
    refine X.lald 132 (zi223 131) rfl rfl (by decide) rfl (by omega) ?_
    have h513 := r45_16 hJ512 4
    refine X.lconst (y := 1) 133 (zi223 132) rfl rfl rfl ?_
    refine X.ladd 134 (zi223 133) rfl rfl (by omega) ?_
    refine X.last' 135 (zi223 134) rfl rfl (by decide) rfl (by omega) (fun hrm514 m514 hm514 => ?_)
    have hJ515 := w45_16 (hJ512.up (B' := B + 1) (by omega)) hm514 (by omega) hf26 hg4
    refine X.retv (zi223 135) rfl t223 ?_
    exact hQ  m514  (Eq.trans (if_pos h503c) (Eq.trans (zs_eq hm507) (Eq.trans (zs_eq hm509) (Eq.trans (zs_eq hm511) (Eq.trans (zs_eq hm514) rfl))))) (hJ515.up (by omega)) 
  · have h503c : ¬ (m 4 45 16) < 40 := by omega
    clear h503 hz502
    refine X.iconst 15 (zi223 14) rfl rfl (by decide) ?_
    refine X.istore 17 [(0, zr 4 44), (1, zi a1), (2, zl a2), (4, zi 3)] (zi223 15) rfl rfl rfl ?_
    have hz118 := zfu_eq 118
    refine l223_17_1 (s := s) (d := d) (R0 := (f223_1 a1 a2 m))  a1 a2  (BE := B + 0) (by omega) (by omega) (by omega) hf26 hg4 (fun  m516 B517 hJ518 hBB517 hR519 => ?_) (zfu 118) 3 m (B) (hJ.up (by omega)) (by omega) (by omega) (by omega) (Eq.trans (if_neg h503c) rfl)
    refine X.sipush 57 (zi223 54) rfl rfl (by decide) ?_
    refine X.iconst 58 (zi223 57) rfl rfl (by decide) ?_
    refine X.aload_n 59 (zi223 58) rfl rfl rfl ?_
    refine X.getF 62 (zi223 59) rfl rfl (by decide) rfl rfl ?_
    refine X.bipush 64 (zi223 62) rfl rfl (by decide) ?_
    refine X.lald 65 (zi223 64) rfl rfl (by decide) rfl (by omega) ?_
    have h520 := r45_16 hJ518 4
    refine X.ldc2 68 (zi223 65) rfl rfl (by decide) ?_
    refine X.lcmp 69 (zi223 68) rfl rfl (fun z521 hz521 => ?_)
    have hK526 : ∀ (v : Int) , (0 ≤ v ∧ v ≤ 39) → (if (m516 4 45 16) < 40 then
        ((m516 4 45 16))
        else
        (39)) = v → X (EE s) d 223 85 [(0, zr 4 44), (1, zi a1), (2, zl a2)] [zl v, zi 3, zi 1487] m516 Q := by
      intro v523 hv523 hT527
      refine X.l2i 86 (zi223 85) rfl rfl (by omega) ?_
      refine X.imul 87 (zi223 86) rfl rfl (by omega) ?_
      refine X.iadd 88 (zi223 87) rfl rfl (by omega) ?_
      refine X.istore 90 [(0, zr 4 44), (1, zi a1), (2, zl a2), (4, zi (1487 + (3 * v523)))] (zi223 88) rfl rfl rfl ?_
      refine X.aload_n 91 (zi223 90) rfl rfl rfl ?_
      refine X.getF 94 (zi223 91) rfl rfl (by decide) rfl rfl ?_
      refine X.iload 96 (zi223 94) rfl rfl rfl ?_
      refine X.aload_n 97 (zi223 96) rfl rfl rfl ?_
      refine X.getF 100 (zi223 97) rfl rfl (by decide) rfl rfl ?_
      refine X.iconst 101 (zi223 100) rfl rfl (by decide) ?_
      refine X.lald 102 (zi223 101) rfl rfl (by decide) rfl (by omega) ?_
      have h528 := r45_0 hJ518 4
      refine X.last' 103 (zi223 102) rfl rfl (by decide) rfl (by omega) (fun hrm529 m529 hm529 => ?_)
      have hJ530 := w45_1487 hJ518 hm529 (by omega) hrm529 hf26 hg4
      refine X.aload_n 104 (zi223 103) rfl rfl rfl ?_
      refine X.getF 107 (zi223 104) rfl rfl (by decide) rfl rfl ?_
      refine X.iload 109 (zi223 107) rfl rfl rfl ?_
      refine X.iconst 110 (zi223 109) rfl rfl (by decide) ?_
      refine X.iadd 111 (zi223 110) rfl rfl (by omega) ?_
      refine X.iload_n 112 (zi223 111) rfl rfl rfl ?_
      refine X.i2l 113 (zi223 112) rfl rfl ?_
      refine X.last' 114 (zi223 113) rfl rfl (by decide) rfl (by omega) (fun hrm531 m531 hm531 => ?_)
      have hJ532 := w45_1487 hJ530 hm531 (by omega) hrm531 hf26 hg4
      refine X.aload_n 115 (zi223 114) rfl rfl rfl ?_
      refine X.getF 118 (zi223 115) rfl rfl (by decide) rfl rfl ?_
      refine X.iload 120 (zi223 118) rfl rfl rfl ?_
      refine X.iconst 121 (zi223 120) rfl rfl (by decide) ?_
      refine X.iadd 122 (zi223 121) rfl rfl (by omega) ?_
      refine X.lload_n 123 (zi223 122) rfl rfl rfl ?_
      refine X.last' 124 (zi223 123) rfl rfl (by decide) rfl (by omega) (fun hrm533 m533 hm533 => ?_)
      have hJ534 := w45_1487 hJ532 hm533 (by omega) hrm533 hf26 hg4
      refine X.aload_n 125 (zi223 124) rfl rfl rfl ?_
      refine X.getF 128 (zi223 125) rfl rfl (by decide) rfl rfl ?_
      refine X.bipush 130 (zi223 128) rfl rfl (by decide) ?_
      refine X.dup2 131 (zi223 130) rfl rfl ?_
      refine X.lald 132 (zi223 131) rfl rfl (by decide) rfl (by omega) ?_
      have h535 := r45_16 hJ534 4
      refine X.lconst (y := 1) 133 (zi223 132) rfl rfl rfl ?_
      refine X.ladd 134 (zi223 133) rfl rfl (by omega) ?_
      refine X.last' 135 (zi223 134) rfl rfl (by decide) rfl (by omega) (fun hrm536 m536 hm536 => ?_)
      have hJ537 := w45_16 (hJ534.up (B' := B517 + 1) (by omega)) hm536 (by omega) hf26 hg4
      refine X.retv (zi223 135) rfl t223 ?_
      exact hQ  m536  (Eq.trans hR519 (Eq.trans (zn_eq hT527.symm) (Eq.trans (zs_eq hm529) (Eq.trans (zs_eq hm531) (Eq.trans (zs_eq hm533) (Eq.trans (zs_eq hm536) rfl)))))) (hJ537.up (by omega)) 
    refine X.ifge 82 72 (zi223 69) rfl rfl rfl (fun h522 => ?_) (fun h522 => ?_)
    · have h522c : ¬ (m516 4 45 16) < 40 := by omega
      clear h522 hz521
      refine X.ldc2 85 (zi223 82) rfl rfl (by decide) ?_
      exact hK526 39 (by first | trivial | omega) (Eq.trans (if_neg h522c) rfl)
    · have h522c : (m516 4 45 16) < 40 := by omega
      clear h522 hz521
      refine X.aload_n 73 (zi223 72) rfl rfl rfl ?_
      refine X.getF 76 (zi223 73) rfl rfl (by decide) rfl rfl ?_
      refine X.bipush 78 (zi223 76) rfl rfl (by decide) ?_
      refine X.lald 79 (zi223 78) rfl rfl (by decide) rfl (by omega) ?_
      refine X.goto 85 (zi223 79) rfl rfl ?_
      exact hK526 (m516 4 45 16) (by first | trivial | omega) (Eq.trans (if_pos h522c) rfl)
-- WorkMeterModel.switches
noncomputable def f222_1 (m : zM) : zM :=
  zn (if (m 4 45 11) = 1 then
  (if (m 4 45 10) ≤ 0 then
  (1)
  else
  (0))
  else
  (0)) fun v506 =>
  if (m 4 45 12) = v506 then
  (m)
  else
  (zs (z_upd m 4 45 12 v506) fun m514 =>
  zn (if v506 = 1 then
  (22)
  else
  (23)) fun v517 =>
  zs (f223_1 v517 0 m514) fun m522 =>
  m522)
-- WorkMeterModel.switches
theorem c222_1 {s : Nat × (Nat → Int32)} {S : zS} {m0 m : zM} {B : Int} {d : Nat} {Q : Option zV → zM → Prop} (hd : 14 ≤ d) (hJ : J S m0 B m) (hB : B + 1 ≤ 1000000000) (hf26 : ¬ S.1 26) (hf32 : ¬ S.1 32) (hg4 : ¬ S.2.1 4) (hQ : ∀ m', f222_1 m = m' → J S m0 (B + 1) m' → Q none m') : X (EE s) d 222 0 [(0, zr 4 44)] [] m Q := by
  refine X.aload_n 1 (zi222 0) rfl rfl rfl ?_
  refine X.getF 4 (zi222 1) rfl rfl (by decide) rfl rfl ?_
  refine X.bipush 6 (zi222 4) rfl rfl (by decide) ?_
  refine X.lald 7 (zi222 6) rfl rfl (by decide) rfl (by omega) ?_
  have h501 := r45_11 hJ 4
  refine X.lconst (y := 1) 8 (zi222 7) rfl rfl rfl ?_
  refine X.lcmp 9 (zi222 8) rfl rfl (fun z502 hz502 => ?_)
  have hK509 : ∀ (v : Int) , (0 ≤ v ∧ v ≤ 1) → (if (m 4 45 11) = 1 then
      (if (m 4 45 10) ≤ 0 then
      (1)
      else
      (0))
      else
      (0)) = v → X (EE s) d 222 29 [(0, zr 4 44)] [zi v] m Q := by
    intro v506 hv506 hT510
    refine X.istore_n 30 [(0, zr 4 44), (1, zi v506)] (zi222 29) rfl rfl rfl ?_
    refine X.aload_n 31 (zi222 30) rfl rfl rfl ?_
    refine X.getF 34 (zi222 31) rfl rfl (by decide) rfl rfl ?_
    refine X.bipush 36 (zi222 34) rfl rfl (by decide) ?_
    refine X.lald 37 (zi222 36) rfl rfl (by decide) rfl (by omega) ?_
    have h511 := r45_12 hJ 4
    refine X.iload_n 38 (zi222 37) rfl rfl rfl ?_
    refine X.i2l 39 (zi222 38) rfl rfl ?_
    refine X.lcmp 40 (zi222 39) rfl rfl (fun z512 hz512 => ?_)
    refine X.ifne 44 43 (zi222 40) rfl rfl rfl (fun h513 => ?_) (fun h513 => ?_)
    · have h513c : ¬ (m 4 45 12) = v506 := by omega
      clear h513 hz512
      refine X.aload_n 45 (zi222 44) rfl rfl rfl ?_
      refine X.getF 48 (zi222 45) rfl rfl (by decide) rfl rfl ?_
      refine X.bipush 50 (zi222 48) rfl rfl (by decide) ?_
      refine X.iload_n 51 (zi222 50) rfl rfl rfl ?_
      refine X.i2l 52 (zi222 51) rfl rfl ?_
      refine X.last' 53 (zi222 52) rfl rfl (by decide) rfl (by omega) (fun hrm514 m514 hm514 => ?_)
      have hJ515 := w45_12 hJ hm514 (by omega) hf32 hg4
      refine X.aload_n 54 (zi222 53) rfl rfl rfl ?_
      refine X.iload_n 55 (zi222 54) rfl rfl rfl ?_
      refine X.iconst 56 (zi222 55) rfl rfl (by decide) ?_
      have hK520 : ∀ (v : Int) , (22 ≤ v ∧ v ≤ 23) → (if v506 = 1 then
          (22)
          else
          (23)) = v → X (EE s) d 222 66 [] [zi v, zr 4 44] m514 Q := by
        intro v517 hv517 hT521
        refine X.lconst (y := 0) 67 (zi222 66) rfl rfl rfl ?_
        refine X.callv 70 [zi v517, zl 0] [] [(0, zr 4 44), (1, zi v517), (2, zl 0)] (zi222 67) rfl (by decide) rfl rfl (by omega) rfl rfl (by decide) rfl t223 (Nat.le_of_ble_eq_true rfl) (Nat.le_of_ble_eq_true rfl) rfl ?_
        refine c223_1 (B := B)  v517 0 (by omega) (hJ515.up (by omega)) (by omega) (by omega) hf26 hg4 (fun m522 hFv524 hJ523 => ?_)
        show X (EE s) d 222 70 [] [] m522 _
        refine X.retv (zi222 70) rfl t222 ?_
        exact hQ  m522  (Eq.trans (zn_eq hT510.symm) (Eq.trans (if_neg h513c) (Eq.trans (zs_eq hm514) (Eq.trans (zn_eq hT521.symm) (Eq.trans (zs_eq hFv524.symm) rfl))))) (hJ523.up (by omega)) 
      refine X.icmpne 64 59 (zi222 56) rfl rfl rfl (fun h516 => ?_) (fun h516 => ?_)
      · refine X.cut [] (zi222 64) rfl ?_
        refine X.bipush 66 (zi222 64) rfl rfl (by decide) ?_
        exact hK520 23 (by first | trivial | omega) (Eq.trans (if_neg h516) rfl)
      · refine X.bipush 61 (zi222 59) rfl rfl (by decide) ?_
        refine X.goto 66 (zi222 61) rfl rfl ?_
        refine X.cut [] (zi222 66) rfl ?_
        exact hK520 22 (by first | trivial | omega) (Eq.trans (if_pos h516) rfl)
    · have h513c : (m 4 45 12) = v506 := by omega
      clear h513 hz512
      refine X.retv (zi222 43) rfl t222 ?_
      exact hQ  m  (Eq.trans (zn_eq hT510.symm) (Eq.trans (if_pos h513c) rfl)) (hJ.up (by omega)) 
  refine X.ifne 28 12 (zi222 9) rfl rfl rfl (fun h503 => ?_) (fun h503 => ?_)
  · have h503c : ¬ (m 4 45 11) = 1 := by omega
    clear h503 hz502
    refine X.iconst 29 (zi222 28) rfl rfl (by decide) ?_
    exact hK509 0 (by first | trivial | omega) (Eq.trans (if_neg h503c) rfl)
  · have h503c : (m 4 45 11) = 1 := by omega
    clear h503 hz502
    refine X.aload_n 13 (zi222 12) rfl rfl rfl ?_
    refine X.getF 16 (zi222 13) rfl rfl (by decide) rfl rfl ?_
    refine X.bipush 18 (zi222 16) rfl rfl (by decide) ?_
    refine X.lald 19 (zi222 18) rfl rfl (by decide) rfl (by omega) ?_
    refine X.lconst (y := 0) 20 (zi222 19) rfl rfl rfl ?_
    refine X.lcmp 21 (zi222 20) rfl rfl (fun z504 hz504 => ?_)
    refine X.ifgt 28 24 (zi222 21) rfl rfl rfl (fun h505 => ?_) (fun h505 => ?_)
    · have h505c : ¬ (m 4 45 10) ≤ 0 := by omega
      clear h505 hz504
      refine X.iconst 29 (zi222 28) rfl rfl (by decide) ?_
      exact hK509 0 (by first | trivial | omega) (Eq.trans (if_pos h503c) (Eq.trans (if_neg h505c) rfl))
    · have h505c : (m 4 45 10) ≤ 0 := by omega
      clear h505 hz504
      refine X.iconst 25 (zi222 24) rfl rfl (by decide) ?_
      refine X.goto 29 (zi222 25) rfl rfl ?_
      exact hK509 1 (by first | trivial | omega) (Eq.trans (if_pos h503c) (Eq.trans (if_pos h505c) rfl))
noncomputable def fl227_2_1_b (self : Int → Int) (k35 : Int → Int) (k43 : Int) (m : zM) (y1 : Int) : Int :=
  if (m 4 45 1) ≤ y1 then
  (k43)
  else
  (zn (f213_1 143 y1 m) fun v518 =>
  if v518 ≤ 0 then
  (self (y1 + 1))
  else
  (zn (f213_1 95 y1 m) fun v523 =>
  if v523 = 0 then
  (k35 y1)
  else
  (self (y1 + 1))))
noncomputable def fl227_2_1 (k35 : Int → Int) (k43 : Int) (m : zM) : Nat → Int → Int
  | 0 => fun y1 => 0
  | n + 1 => fl227_2_1_b (fl227_2_1 k35 k43 m n) k35 k43 m
theorem l227_2_1 {s : Nat × (Nat → Int32)} {S : zS} {m0 : zM} {m : zM} {B : Int} {d : Nat} {Q : Option zV → zM → Prop} {R0 : Int} {k35 : Int → Int} {k43 : Int} (hd : 14 ≤ d) (hJ : J S m0 B m) (hB9 : B ≤ 1000000000)
    (K35 : ∀ (x1 : Int) , (0 ≤ x1 ∧ x1 ≤ 2) → R0 = k35 x1 → X (EE s) d 227 35 [(0, zr 4 44), (1, zi x1)] [] m Q)
    (K43 : R0 = k43 → X (EE s) d 227 43 [] [] m Q) :
    ∀ (n : Nat) (y1 : Int) , (0 ≤ y1 ∧ y1 ≤ 3) → 3 - y1 < (n : Int) → R0 = fl227_2_1 k35 k43 m n y1 → X (EE s) d 227 2 [(0, zr 4 44), (1, zi y1)] [] m Q := by
  intro n
  induction n with
  | zero =>
    intro y1 hy1 hn hR
    exfalso
    omega
  | succ n ih =>
    intro y1 hy1 hn hR
    replace hR : R0 = fl227_2_1_b (fl227_2_1 k35 k43 m n) k35 k43 m y1 := hR
    refine X.iload_n 3 (zi227 2) rfl rfl rfl ?_
    refine X.aload_n 4 (zi227 3) rfl rfl rfl ?_
    refine X.callv 7 [] [zi y1] [(0, zr 4 44)] (zi227 4) rfl (by decide) rfl rfl (by omega) rfl rfl (by decide) rfl t206 (Nat.le_of_ble_eq_true rfl) (Nat.le_of_ble_eq_true rfl) rfl ?_
    refine X.aload_n 1 (zi206 0) rfl rfl rfl ?_
    refine X.getF 4 (zi206 1) rfl rfl (by decide) rfl rfl ?_
    refine X.iconst 5 (zi206 4) rfl rfl (by decide) ?_
    refine X.lald 6 (zi206 5) rfl rfl (by decide) rfl (by omega) ?_
    have h514 := r45_1 hJ 4
    refine X.l2i 7 (zi206 6) rfl rfl (by omega) ?_
    refine X.reti (zi206 7) rfl t206 ?_
    show X (EE s) d 227 7 [(0, zr 4 44), (1, zi y1)] [zi (m 4 45 1), zi y1] m _
    refine X.icmpge 43 10 (zi227 7) rfl rfl rfl (fun h515 => ?_) (fun h515 => ?_)
    · refine X.cut [] (zi227 43) rfl ?_
      exact K43   (Eq.trans hR (Eq.trans (if_pos h515) rfl))
    · refine X.aload_n 11 (zi227 10) rfl rfl rfl ?_
      refine X.sipush 14 (zi227 11) rfl rfl (by decide) ?_
      refine X.iload_n 15 (zi227 14) rfl rfl rfl ?_
      refine X.callv 18 [zi 143, zi y1] [] [(0, zr 4 44), (1, zi 143), (2, zi y1)] (zi227 15) rfl (by decide) rfl rfl (by omega) rfl rfl (by decide) rfl t213 (Nat.le_of_ble_eq_true rfl) (Nat.le_of_ble_eq_true rfl) rfl ?_
      refine c213_1 (B := B)  143 y1 (by omega) (hJ.up (by omega)) (by omega) (by omega) (by omega) (fun v518 hv518 hFv518 => ?_)
      show X (EE s) d 227 18 [(0, zr 4 44), (1, zi y1)] [zl v518] m _
      refine X.lconst (y := 0) 19 (zi227 18) rfl rfl rfl ?_
      refine X.lcmp 20 (zi227 19) rfl rfl (fun z519 hz519 => ?_)
      refine X.ifle 37 23 (zi227 20) rfl rfl rfl (fun h520 => ?_) (fun h520 => ?_)
      · have h520c : v518 ≤ 0 := by omega
        clear h520 hz519
        refine X.iinc 40 [(0, zr 4 44), (1, zi (y1 + 1))] (zi227 37) rfl rfl rfl (by omega) rfl ?_
        refine X.goto 2 (zi227 40) rfl rfl ?_
        exact ih (y1 + 1) (by omega) (by omega) (Eq.trans hR (Eq.trans (if_neg h515) (Eq.trans (zn_eq hFv518.symm) (Eq.trans (if_pos h520c) rfl))))
      · have h520c : ¬ v518 ≤ 0 := by omega
        clear h520 hz519
        refine X.aload_n 24 (zi227 23) rfl rfl rfl ?_
        refine X.bipush 26 (zi227 24) rfl rfl (by decide) ?_
        refine X.iload_n 27 (zi227 26) rfl rfl rfl ?_
        refine X.callv 30 [zi 95, zi y1] [] [(0, zr 4 44), (1, zi 95), (2, zi y1)] (zi227 27) rfl (by decide) rfl rfl (by omega) rfl rfl (by decide) rfl t213 (Nat.le_of_ble_eq_true rfl) (Nat.le_of_ble_eq_true rfl) rfl ?_
        refine c213_1 (B := B)  95 y1 (by omega) (hJ.up (by omega)) (by omega) (by omega) (by omega) (fun v523 hv523 hFv523 => ?_)
        show X (EE s) d 227 30 [(0, zr 4 44), (1, zi y1)] [zl v523] m _
        refine X.lconst (y := 0) 31 (zi227 30) rfl rfl rfl ?_
        refine X.lcmp 32 (zi227 31) rfl rfl (fun z524 hz524 => ?_)
        refine X.ifne 37 35 (zi227 32) rfl rfl rfl (fun h525 => ?_) (fun h525 => ?_)
        · have h525c : ¬ v523 = 0 := by omega
          clear h525 hz524
          refine X.iinc 40 [(0, zr 4 44), (1, zi (y1 + 1))] (zi227 37) rfl rfl rfl (by omega) rfl ?_
          refine X.goto 2 (zi227 40) rfl rfl ?_
          exact ih (y1 + 1) (by omega) (by omega) (Eq.trans hR (Eq.trans (if_neg h515) (Eq.trans (zn_eq hFv518.symm) (Eq.trans (if_neg h520c) (Eq.trans (zn_eq hFv523.symm) (Eq.trans (if_neg h525c) rfl))))))
        · have h525c : v523 = 0 := by omega
          clear h525 hz524
          exact K35 y1 (by first | trivial | omega) (Eq.trans hR (Eq.trans (if_neg h515) (Eq.trans (zn_eq hFv518.symm) (Eq.trans (if_neg h520c) (Eq.trans (zn_eq hFv523.symm) (Eq.trans (if_pos h525c) rfl))))))
-- WorkMeterModel.isStrange
noncomputable def f227_1 (m : zM) : Int :=
  fl227_2_1 (fun y501 =>
  1) (0) m (zfu 4) 0
-- WorkMeterModel.isStrange
theorem c227_1 {s : Nat × (Nat → Int32)} {S : zS} {m0 m : zM} {B : Int} {d : Nat} {Q : Option zV → zM → Prop} (hd : 14 ≤ d) (hJ : J S m0 B m) (hB : B + 0 ≤ 1000000000) (hQ : ∀ (v : Int), (0 ≤ v ∧ v ≤ 1) → f227_1 m = v → Q (some (zi v)) m) : X (EE s) d 227 0 [(0, zr 4 44)] [] m Q := by
  refine X.iconst 1 (zi227 0) rfl rfl (by decide) ?_
  refine X.istore_n 2 [(0, zr 4 44), (1, zi 0)] (zi227 1) rfl rfl rfl ?_
  have hz4 := zfu_eq 4
  refine l227_2_1 (s := s) (m := m) (B := B) (d := d) (R0 := (f227_1 m))    (by omega) (hJ.up (by omega)) (by omega) (fun y501 hby501 hR505 => ?_) (fun  hR509 => ?_) (zfu 4) 0 (by omega) (by omega) rfl
  · refine X.iconst 36 (zi227 35) rfl rfl (by decide) ?_
    refine X.retz (zi227 36) rfl t227 (by omega) ?_
    exact hQ 1 (by first | trivial | omega) (Eq.trans hR505 rfl) 
  · refine X.iconst 44 (zi227 43) rfl rfl (by decide) ?_
    refine X.retz (zi227 44) rfl t227 (by omega) ?_
    exact hQ 0 (by first | trivial | omega) (Eq.trans hR509 rfl) 
noncomputable def fl226_6_1_b (self : Int → Int → Int → Int) (k60 : Int → Int → Int) (m : zM) (y1 y2 y3 : Int) : Int :=
  if (m 4 45 1) ≤ y3 then
  (k60 y1 y2)
  else
  (zn (if y1 = 0 then
  (zn (f210_1 y3 m) fun v555 =>
  if v555 < 0 then
  (1)
  else
  (0))
  else
  (1)) fun v558 =>
  zn (if y2 = 0 then
  (zn (f210_1 y3 m) fun v566 =>
  if v566 ≤ 0 then
  (0)
  else
  (1))
  else
  (1)) fun v569 =>
  self v558 v569 (y3 + 1))
noncomputable def fl226_6_1 (k60 : Int → Int → Int) (m : zM) : Nat → Int → Int → Int → Int
  | 0 => fun y1 y2 y3 => 0
  | n + 1 => fl226_6_1_b (fl226_6_1 k60 m n) k60 m
theorem l226_6_1 {s : Nat × (Nat → Int32)} {S : zS} {m0 : zM} {m : zM} {B : Int} {d : Nat} {Q : Option zV → zM → Prop} {R0 : Int} {k60 : Int → Int → Int} (hd : 14 ≤ d) (hJ : J S m0 B m) (hB9 : B ≤ 1000000000)
    (K60 : ∀ (x1 x2 : Int) , (0 ≤ x1 ∧ x1 ≤ 1) → (0 ≤ x2 ∧ x2 ≤ 1) → R0 = k60 x1 x2 → X (EE s) d 226 60 [(1, zi x1), (2, zi x2)] [] m Q) :
    ∀ (n : Nat) (y1 y2 y3 : Int) , (0 ≤ y1 ∧ y1 ≤ 1) → (0 ≤ y2 ∧ y2 ≤ 1) → (0 ≤ y3 ∧ y3 ≤ 3) → 3 - y3 < (n : Int) → R0 = fl226_6_1 k60 m n y1 y2 y3 → X (EE s) d 226 6 [(0, zr 4 44), (1, zi y1), (2, zi y2), (3, zi y3)] [] m Q := by
  intro n
  induction n with
  | zero =>
    intro y1 y2 y3 hy1 hy2 hy3 hn hR
    exfalso
    omega
  | succ n ih =>
    intro y1 y2 y3 hy1 hy2 hy3 hn hR
    replace hR : R0 = fl226_6_1_b (fl226_6_1 k60 m n) k60 m y1 y2 y3 := hR
    refine X.iload_n 7 (zi226 6) rfl rfl rfl ?_
    refine X.aload_n 8 (zi226 7) rfl rfl rfl ?_
    refine X.callv 11 [] [zi y3] [(0, zr 4 44)] (zi226 8) rfl (by decide) rfl rfl (by omega) rfl rfl (by decide) rfl t206 (Nat.le_of_ble_eq_true rfl) (Nat.le_of_ble_eq_true rfl) rfl ?_
    refine X.aload_n 1 (zi206 0) rfl rfl rfl ?_
    refine X.getF 4 (zi206 1) rfl rfl (by decide) rfl rfl ?_
    refine X.iconst 5 (zi206 4) rfl rfl (by decide) ?_
    refine X.lald 6 (zi206 5) rfl rfl (by decide) rfl (by omega) ?_
    have h550 := r45_1 hJ 4
    refine X.l2i 7 (zi206 6) rfl rfl (by omega) ?_
    refine X.reti (zi206 7) rfl t206 ?_
    show X (EE s) d 226 11 [(0, zr 4 44), (1, zi y1), (2, zi y2), (3, zi y3)] [zi (m 4 45 1), zi y3] m _
    refine X.icmpge 60 14 (zi226 11) rfl rfl rfl (fun h551 => ?_) (fun h551 => ?_)
    · refine X.cut [(1, zi y1), (2, zi y2)] (zi226 60) rfl ?_
      exact K60 y1 y2 (by first | trivial | omega) (by first | trivial | omega) (Eq.trans hR (Eq.trans (if_pos h551) rfl))
    · refine X.iload_n 15 (zi226 14) rfl rfl rfl ?_
      have hK561 : ∀ (v : Int) , (0 ≤ v ∧ v ≤ 1) → (if y1 = 0 then
          (zn (f210_1 y3 m) fun v555 =>
          if v555 < 0 then
          (1)
          else
          (0))
          else
          (1)) = v → X (EE s) d 226 33 [(0, zr 4 44), (2, zi y2), (3, zi y3)] [zi v] m Q := by
        intro v558 hv558 hT562
        refine X.istore_n 34 [(0, zr 4 44), (1, zi v558), (2, zi y2), (3, zi y3)] (zi226 33) rfl rfl rfl ?_
        refine X.iload_n 35 (zi226 34) rfl rfl rfl ?_
        have hK572 : ∀ (v : Int) , (0 ≤ v ∧ v ≤ 1) → (if y2 = 0 then
            (zn (f210_1 y3 m) fun v566 =>
            if v566 ≤ 0 then
            (0)
            else
            (1))
            else
            (1)) = v → X (EE s) d 226 53 [(0, zr 4 44), (1, zi v558), (3, zi y3)] [zi v] m Q := by
          intro v569 hv569 hT573
          refine X.istore_n 54 [(0, zr 4 44), (1, zi v558), (2, zi v569), (3, zi y3)] (zi226 53) rfl rfl rfl ?_
          refine X.iinc 57 [(0, zr 4 44), (1, zi v558), (2, zi v569), (3, zi (y3 + 1))] (zi226 54) rfl rfl rfl (by omega) rfl ?_
          refine X.goto 6 (zi226 57) rfl rfl ?_
          exact ih v558 v569 (y3 + 1) (by omega) (by omega) (by omega) (by omega) (Eq.trans hR (Eq.trans (if_neg h551) (Eq.trans (zn_eq hT562.symm) (Eq.trans (zn_eq hT573.symm) rfl))))
        refine X.ifne 48 38 (zi226 35) rfl rfl rfl (fun h563 => ?_) (fun h563 => ?_)
        · refine X.cut [(0, zr 4 44), (1, zi v558), (3, zi y3)] (zi226 48) rfl ?_
          refine X.iconst 49 (zi226 48) rfl rfl (by decide) ?_
          refine X.goto 53 (zi226 49) rfl rfl ?_
          exact hK572 1 (by first | trivial | omega) (Eq.trans (if_neg h563) rfl)
        · refine X.aload_n 39 (zi226 38) rfl rfl rfl ?_
          refine X.iload_n 40 (zi226 39) rfl rfl rfl ?_
          refine X.callv 43 [zi y3] [] [(0, zr 4 44), (1, zi y3)] (zi226 40) rfl (by decide) rfl rfl (by omega) rfl rfl (by decide) rfl t210 (Nat.le_of_ble_eq_true rfl) (Nat.le_of_ble_eq_true rfl) rfl ?_
          refine c210_1 (B := B)  y3 (by omega) (hJ.up (by omega)) (by omega) (by omega) (fun v566 hv566 hFv566 => ?_)
          show X (EE s) d 226 43 [(0, zr 4 44), (1, zi v558), (2, zi y2), (3, zi y3)] [zl v566] m _
          refine X.lconst (y := 0) 44 (zi226 43) rfl rfl rfl ?_
          refine X.lcmp 45 (zi226 44) rfl rfl (fun z567 hz567 => ?_)
          refine X.ifle 52 48 (zi226 45) rfl rfl rfl (fun h568 => ?_) (fun h568 => ?_)
          · have h568c : v566 ≤ 0 := by omega
            clear h568 hz567
            refine X.cut [(0, zr 4 44), (1, zi v558), (3, zi y3)] (zi226 52) rfl ?_
            refine X.iconst 53 (zi226 52) rfl rfl (by decide) ?_
            exact hK572 0 (by first | trivial | omega) (Eq.trans (if_pos h563) (Eq.trans (zn_eq hFv566.symm) (Eq.trans (if_pos h568c) rfl)))
          · have h568c : ¬ v566 ≤ 0 := by omega
            clear h568 hz567
            refine X.cut [(0, zr 4 44), (1, zi v558), (3, zi y3)] (zi226 48) rfl ?_
            refine X.iconst 49 (zi226 48) rfl rfl (by decide) ?_
            refine X.goto 53 (zi226 49) rfl rfl ?_
            exact hK572 1 (by first | trivial | omega) (Eq.trans (if_pos h563) (Eq.trans (zn_eq hFv566.symm) (Eq.trans (if_neg h568c) rfl)))
      refine X.ifne 28 18 (zi226 15) rfl rfl rfl (fun h552 => ?_) (fun h552 => ?_)
      · refine X.cut [(0, zr 4 44), (2, zi y2), (3, zi y3)] (zi226 28) rfl ?_
        refine X.iconst 29 (zi226 28) rfl rfl (by decide) ?_
        refine X.goto 33 (zi226 29) rfl rfl ?_
        exact hK561 1 (by first | trivial | omega) (Eq.trans (if_neg h552) rfl)
      · refine X.aload_n 19 (zi226 18) rfl rfl rfl ?_
        refine X.iload_n 20 (zi226 19) rfl rfl rfl ?_
        refine X.callv 23 [zi y3] [] [(0, zr 4 44), (1, zi y3)] (zi226 20) rfl (by decide) rfl rfl (by omega) rfl rfl (by decide) rfl t210 (Nat.le_of_ble_eq_true rfl) (Nat.le_of_ble_eq_true rfl) rfl ?_
        refine c210_1 (B := B)  y3 (by omega) (hJ.up (by omega)) (by omega) (by omega) (fun v555 hv555 hFv555 => ?_)
        show X (EE s) d 226 23 [(0, zr 4 44), (1, zi y1), (2, zi y2), (3, zi y3)] [zl v555] m _
        refine X.lconst (y := 0) 24 (zi226 23) rfl rfl rfl ?_
        refine X.lcmp 25 (zi226 24) rfl rfl (fun z556 hz556 => ?_)
        refine X.ifge 32 28 (zi226 25) rfl rfl rfl (fun h557 => ?_) (fun h557 => ?_)
        · have h557c : ¬ v555 < 0 := by omega
          clear h557 hz556
          refine X.cut [(0, zr 4 44), (2, zi y2), (3, zi y3)] (zi226 32) rfl ?_
          refine X.iconst 33 (zi226 32) rfl rfl (by decide) ?_
          exact hK561 0 (by first | trivial | omega) (Eq.trans (if_pos h552) (Eq.trans (zn_eq hFv555.symm) (Eq.trans (if_neg h557c) rfl)))
        · have h557c : v555 < 0 := by omega
          clear h557 hz556
          refine X.cut [(0, zr 4 44), (2, zi y2), (3, zi y3)] (zi226 28) rfl ?_
          refine X.iconst 29 (zi226 28) rfl rfl (by decide) ?_
          refine X.goto 33 (zi226 29) rfl rfl ?_
          exact hK561 1 (by first | trivial | omega) (Eq.trans (if_pos h552) (Eq.trans (zn_eq hFv555.symm) (Eq.trans (if_pos h557c) rfl)))
-- WorkMeterModel.isReversed
noncomputable def f226_1 (m : zM) : Int :=
  fl226_6_1 (fun y501 y502 =>
  zn (if y501 = 0 then
  (0)
  else
  (if y502 = 0 then
  (0)
  else
  (1))) fun v509 =>
  v509) m (zfu 4) 0 0 0
-- WorkMeterModel.isReversed
theorem c226_1 {s : Nat × (Nat → Int32)} {S : zS} {m0 m : zM} {B : Int} {d : Nat} {Q : Option zV → zM → Prop} (hd : 14 ≤ d) (hJ : J S m0 B m) (hB : B + 0 ≤ 1000000000) (hQ : ∀ (v : Int), (0 ≤ v ∧ v ≤ 1) → f226_1 m = v → Q (some (zi v)) m) : X (EE s) d 226 0 [(0, zr 4 44)] [] m Q := by
  refine X.iconst 1 (zi226 0) rfl rfl (by decide) ?_
  refine X.istore_n 2 [(0, zr 4 44), (1, zi 0)] (zi226 1) rfl rfl rfl ?_
  refine X.iconst 3 (zi226 2) rfl rfl (by decide) ?_
  refine X.istore_n 4 [(0, zr 4 44), (1, zi 0), (2, zi 0)] (zi226 3) rfl rfl rfl ?_
  refine X.iconst 5 (zi226 4) rfl rfl (by decide) ?_
  refine X.istore_n 6 [(0, zr 4 44), (1, zi 0), (2, zi 0), (3, zi 0)] (zi226 5) rfl rfl rfl ?_
  have hz4 := zfu_eq 4
  refine l226_6_1 (s := s) (m := m) (B := B) (d := d) (R0 := (f226_1 m))    (by omega) (hJ.up (by omega)) (by omega) (fun y501 y502 hby501 hby502 hR506 => ?_) (zfu 4) 0 0 0 (by omega) (by omega) (by omega) (by omega) rfl
  refine X.iload_n 61 (zi226 60) rfl rfl rfl ?_
  have hK512 : ∀ (v : Int) , (0 ≤ v ∧ v ≤ 1) → (if y501 = 0 then
      (0)
      else
      (if y502 = 0 then
      (0)
      else
      (1))) = v → X (EE s) d 226 73 [] [zi v] m Q := by
    intro v509 hv509 hT513
    refine X.retz (zi226 73) rfl t226 (by omega) ?_
    exact hQ v509 (by first | trivial | omega) (Eq.trans hR506 (Eq.trans (zn_eq hT513.symm) rfl)) 
  refine X.ifeq 72 64 (zi226 61) rfl rfl rfl (fun h507 => ?_) (fun h507 => ?_)
  · refine X.cut [] (zi226 72) rfl ?_
    refine X.iconst 73 (zi226 72) rfl rfl (by decide) ?_
    exact hK512 0 (by first | trivial | omega) (Eq.trans (if_pos h507) rfl)
  · refine X.iload_n 65 (zi226 64) rfl rfl rfl ?_
    refine X.ifeq 72 68 (zi226 65) rfl rfl rfl (fun h508 => ?_) (fun h508 => ?_)
    · refine X.cut [] (zi226 72) rfl ?_
      refine X.iconst 73 (zi226 72) rfl rfl (by decide) ?_
      exact hK512 0 (by first | trivial | omega) (Eq.trans (if_neg h507) (Eq.trans (if_pos h508) rfl))
    · refine X.iconst 69 (zi226 68) rfl rfl (by decide) ?_
      refine X.goto 73 (zi226 69) rfl rfl ?_
      refine X.cut [] (zi226 73) rfl ?_
      exact hK512 1 (by first | trivial | omega) (Eq.trans (if_neg h507) (Eq.trans (if_neg h508) rfl))
noncomputable def fl225_6_1_b (self : Int → Int → Int → Int) (k82 : Int → Int → Int) (m : zM) (y1 y2 y3 : Int) : Int :=
  if (m 4 45 1) ≤ y3 then
  (k82 y1 y2)
  else
  (zn (f213_1 95 y3 m) fun v564 =>
  zn (((m 4 45 2) * (m 4 45 6))) fun z567 =>
  zn (if v564 < z567 then
  (1)
  else
  (0)) fun v570 =>
  zn (if y1 = 0 then
  (if v570 = 0 then
  (0)
  else
  (1))
  else
  (1)) fun v577 =>
  zn (if y2 = 0 then
  (if v570 = 0 then
  (1)
  else
  (0))
  else
  (1)) fun v584 =>
  self v577 v584 (y3 + 1))
noncomputable def fl225_6_1 (k82 : Int → Int → Int) (m : zM) : Nat → Int → Int → Int → Int
  | 0 => fun y1 y2 y3 => 0
  | n + 1 => fl225_6_1_b (fl225_6_1 k82 m n) k82 m
theorem l225_6_1 {s : Nat × (Nat → Int32)} {S : zS} {m0 : zM} {m : zM} {B : Int} {d : Nat} {Q : Option zV → zM → Prop} {R0 : Int} {k82 : Int → Int → Int} (hd : 14 ≤ d) (hJ : J S m0 B m) (hB9 : B ≤ 1000000000)
    (K82 : ∀ (x1 x2 : Int) , (0 ≤ x1 ∧ x1 ≤ 1) → (0 ≤ x2 ∧ x2 ≤ 1) → R0 = k82 x1 x2 → X (EE s) d 225 82 [(1, zi x1), (2, zi x2)] [] m Q) :
    ∀ (n : Nat) (y1 y2 y3 : Int) , (0 ≤ y1 ∧ y1 ≤ 1) → (0 ≤ y2 ∧ y2 ≤ 1) → (0 ≤ y3 ∧ y3 ≤ 3) → 3 - y3 < (n : Int) → R0 = fl225_6_1 k82 m n y1 y2 y3 → X (EE s) d 225 6 [(0, zr 4 44), (1, zi y1), (2, zi y2), (3, zi y3)] [] m Q := by
  intro n
  induction n with
  | zero =>
    intro y1 y2 y3 hy1 hy2 hy3 hn hR
    exfalso
    omega
  | succ n ih =>
    intro y1 y2 y3 hy1 hy2 hy3 hn hR
    replace hR : R0 = fl225_6_1_b (fl225_6_1 k82 m n) k82 m y1 y2 y3 := hR
    refine X.iload_n 7 (zi225 6) rfl rfl rfl ?_
    refine X.aload_n 8 (zi225 7) rfl rfl rfl ?_
    refine X.callv 11 [] [zi y3] [(0, zr 4 44)] (zi225 8) rfl (by decide) rfl rfl (by omega) rfl rfl (by decide) rfl t206 (Nat.le_of_ble_eq_true rfl) (Nat.le_of_ble_eq_true rfl) rfl ?_
    refine X.aload_n 1 (zi206 0) rfl rfl rfl ?_
    refine X.getF 4 (zi206 1) rfl rfl (by decide) rfl rfl ?_
    refine X.iconst 5 (zi206 4) rfl rfl (by decide) ?_
    refine X.lald 6 (zi206 5) rfl rfl (by decide) rfl (by omega) ?_
    have h560 := r45_1 hJ 4
    refine X.l2i 7 (zi206 6) rfl rfl (by omega) ?_
    refine X.reti (zi206 7) rfl t206 ?_
    show X (EE s) d 225 11 [(0, zr 4 44), (1, zi y1), (2, zi y2), (3, zi y3)] [zi (m 4 45 1), zi y3] m _
    refine X.icmpge 82 14 (zi225 11) rfl rfl rfl (fun h561 => ?_) (fun h561 => ?_)
    · refine X.cut [(1, zi y1), (2, zi y2)] (zi225 82) rfl ?_
      exact K82 y1 y2 (by first | trivial | omega) (by first | trivial | omega) (Eq.trans hR (Eq.trans (if_pos h561) rfl))
    · refine X.aload_n 15 (zi225 14) rfl rfl rfl ?_
      refine X.bipush 17 (zi225 15) rfl rfl (by decide) ?_
      refine X.iload_n 18 (zi225 17) rfl rfl rfl ?_
      refine X.callv 21 [zi 95, zi y3] [] [(0, zr 4 44), (1, zi 95), (2, zi y3)] (zi225 18) rfl (by decide) rfl rfl (by omega) rfl rfl (by decide) rfl t213 (Nat.le_of_ble_eq_true rfl) (Nat.le_of_ble_eq_true rfl) rfl ?_
      refine c213_1 (B := B)  95 y3 (by omega) (hJ.up (by omega)) (by omega) (by omega) (by omega) (fun v564 hv564 hFv564 => ?_)
      show X (EE s) d 225 21 [(0, zr 4 44), (1, zi y1), (2, zi y2), (3, zi y3)] [zl v564] m _
      refine X.aload_n 22 (zi225 21) rfl rfl rfl ?_
      refine X.getF 25 (zi225 22) rfl rfl (by decide) rfl rfl ?_
      refine X.iconst 26 (zi225 25) rfl rfl (by decide) ?_
      refine X.lald 27 (zi225 26) rfl rfl (by decide) rfl (by omega) ?_
      have h565 := r45_2 hJ 4
      refine X.aload_n 28 (zi225 27) rfl rfl rfl ?_
      refine X.getF 31 (zi225 28) rfl rfl (by decide) rfl rfl ?_
      refine X.bipush 33 (zi225 31) rfl rfl (by decide) ?_
      refine X.lald 34 (zi225 33) rfl rfl (by decide) rfl (by omega) ?_
      have h566 := r45_6 hJ 4
      have hz567 := z_mulr (a := 4) (b := 16) (c := 0) (e := 250000) (x := (m 4 45 2)) (y := (m 4 45 6)) (by omega) (by omega)
      refine X.lmul 35 (zi225 34) rfl rfl (z_in3 hz567 (by decide) (by decide)) ?_
      obtain ⟨z567, ez567⟩ : ∃ z, z = ((m 4 45 2) * (m 4 45 6)) := ⟨_, rfl⟩
      rw [← ez567] at hz567 ⊢
      have gz567 : 0 ≤ z567 ∧ z567 ≤ 4000000 := z_in3 hz567 (by decide) (by decide)
      clear hz567
      refine X.lcmp 36 (zi225 35) rfl rfl (fun z568 hz568 => ?_)
      have hK573 : ∀ (v : Int) , (0 ≤ v ∧ v ≤ 1) → (if v564 < z567 then
          (1)
          else
          (0)) = v → X (EE s) d 225 44 [(0, zr 4 44), (1, zi y1), (2, zi y2), (3, zi y3)] [zi v] m Q := by
        intro v570 hv570 hT574
        refine X.istore 46 [(0, zr 4 44), (1, zi y1), (2, zi y2), (3, zi y3), (4, zi v570)] (zi225 44) rfl rfl rfl ?_
        refine X.iload_n 47 (zi225 46) rfl rfl rfl ?_
        have hK580 : ∀ (v : Int) , (0 ≤ v ∧ v ≤ 1) → (if y1 = 0 then
            (if v570 = 0 then
            (0)
            else
            (1))
            else
            (1)) = v → X (EE s) d 225 60 [(0, zr 4 44), (2, zi y2), (3, zi y3), (4, zi v570)] [zi v] m Q := by
          intro v577 hv577 hT581
          refine X.istore_n 61 [(0, zr 4 44), (1, zi v577), (2, zi y2), (3, zi y3), (4, zi v570)] (zi225 60) rfl rfl rfl ?_
          refine X.iload_n 62 (zi225 61) rfl rfl rfl ?_
          have hK587 : ∀ (v : Int) , (0 ≤ v ∧ v ≤ 1) → (if y2 = 0 then
              (if v570 = 0 then
              (1)
              else
              (0))
              else
              (1)) = v → X (EE s) d 225 75 [(0, zr 4 44), (1, zi v577), (3, zi y3)] [zi v] m Q := by
            intro v584 hv584 hT588
            refine X.istore_n 76 [(0, zr 4 44), (1, zi v577), (2, zi v584), (3, zi y3)] (zi225 75) rfl rfl rfl ?_
            refine X.iinc 79 [(0, zr 4 44), (1, zi v577), (2, zi v584), (3, zi (y3 + 1))] (zi225 76) rfl rfl rfl (by omega) rfl ?_
            refine X.goto 6 (zi225 79) rfl rfl ?_
            exact ih v577 v584 (y3 + 1) (by omega) (by omega) (by omega) (by omega) (Eq.trans hR (Eq.trans (if_neg h561) (Eq.trans (zn_eq hFv564.symm) (Eq.trans (zn_eq ez567) (Eq.trans (zn_eq hT574.symm) (Eq.trans (zn_eq hT581.symm) (Eq.trans (zn_eq hT588.symm) rfl)))))))
          refine X.ifne 70 65 (zi225 62) rfl rfl rfl (fun h582 => ?_) (fun h582 => ?_)
          · refine X.cut [(0, zr 4 44), (1, zi v577), (3, zi y3)] (zi225 70) rfl ?_
            refine X.iconst 71 (zi225 70) rfl rfl (by decide) ?_
            refine X.goto 75 (zi225 71) rfl rfl ?_
            exact hK587 1 (by first | trivial | omega) (Eq.trans (if_neg h582) rfl)
          · refine X.iload 67 (zi225 65) rfl rfl rfl ?_
            refine X.ifne 74 70 (zi225 67) rfl rfl rfl (fun h583 => ?_) (fun h583 => ?_)
            · refine X.cut [(0, zr 4 44), (1, zi v577), (3, zi y3)] (zi225 74) rfl ?_
              refine X.iconst 75 (zi225 74) rfl rfl (by decide) ?_
              exact hK587 0 (by first | trivial | omega) (Eq.trans (if_pos h582) (Eq.trans (if_neg h583) rfl))
            · refine X.cut [(0, zr 4 44), (1, zi v577), (3, zi y3)] (zi225 70) rfl ?_
              refine X.iconst 71 (zi225 70) rfl rfl (by decide) ?_
              refine X.goto 75 (zi225 71) rfl rfl ?_
              exact hK587 1 (by first | trivial | omega) (Eq.trans (if_pos h582) (Eq.trans (if_pos h583) rfl))
        refine X.ifne 55 50 (zi225 47) rfl rfl rfl (fun h575 => ?_) (fun h575 => ?_)
        · refine X.cut [(0, zr 4 44), (2, zi y2), (3, zi y3), (4, zi v570)] (zi225 55) rfl ?_
          refine X.iconst 56 (zi225 55) rfl rfl (by decide) ?_
          refine X.goto 60 (zi225 56) rfl rfl ?_
          exact hK580 1 (by first | trivial | omega) (Eq.trans (if_neg h575) rfl)
        · refine X.iload 52 (zi225 50) rfl rfl rfl ?_
          refine X.ifeq 59 55 (zi225 52) rfl rfl rfl (fun h576 => ?_) (fun h576 => ?_)
          · refine X.cut [(0, zr 4 44), (2, zi y2), (3, zi y3), (4, zi v570)] (zi225 59) rfl ?_
            refine X.iconst 60 (zi225 59) rfl rfl (by decide) ?_
            exact hK580 0 (by first | trivial | omega) (Eq.trans (if_pos h575) (Eq.trans (if_pos h576) rfl))
          · refine X.cut [(0, zr 4 44), (2, zi y2), (3, zi y3), (4, zi v570)] (zi225 55) rfl ?_
            refine X.iconst 56 (zi225 55) rfl rfl (by decide) ?_
            refine X.goto 60 (zi225 56) rfl rfl ?_
            exact hK580 1 (by first | trivial | omega) (Eq.trans (if_pos h575) (Eq.trans (if_neg h576) rfl))
      refine X.ifge 43 39 (zi225 36) rfl rfl rfl (fun h569 => ?_) (fun h569 => ?_)
      · have h569c : ¬ v564 < z567 := by omega
        clear h569 hz568
        refine X.iconst 44 (zi225 43) rfl rfl (by decide) ?_
        exact hK573 0 (by first | trivial | omega) (Eq.trans (if_neg h569c) rfl)
      · have h569c : v564 < z567 := by omega
        clear h569 hz568
        refine X.iconst 40 (zi225 39) rfl rfl (by decide) ?_
        refine X.goto 44 (zi225 40) rfl rfl ?_
        exact hK573 1 (by first | trivial | omega) (Eq.trans (if_pos h569c) rfl)
-- WorkMeterModel.isMissing
noncomputable def f225_1 (m : zM) : Int :=
  fl225_6_1 (fun y501 y502 =>
  zn (if y501 = 0 then
  (0)
  else
  (if y502 = 0 then
  (0)
  else
  (1))) fun v509 =>
  v509) m (zfu 4) 0 0 0
-- WorkMeterModel.isMissing
theorem c225_1 {s : Nat × (Nat → Int32)} {S : zS} {m0 m : zM} {B : Int} {d : Nat} {Q : Option zV → zM → Prop} (hd : 14 ≤ d) (hJ : J S m0 B m) (hB : B + 0 ≤ 1000000000) (hQ : ∀ (v : Int), (0 ≤ v ∧ v ≤ 1) → f225_1 m = v → Q (some (zi v)) m) : X (EE s) d 225 0 [(0, zr 4 44)] [] m Q := by
  refine X.iconst 1 (zi225 0) rfl rfl (by decide) ?_
  refine X.istore_n 2 [(0, zr 4 44), (1, zi 0)] (zi225 1) rfl rfl rfl ?_
  refine X.iconst 3 (zi225 2) rfl rfl (by decide) ?_
  refine X.istore_n 4 [(0, zr 4 44), (1, zi 0), (2, zi 0)] (zi225 3) rfl rfl rfl ?_
  refine X.iconst 5 (zi225 4) rfl rfl (by decide) ?_
  refine X.istore_n 6 [(0, zr 4 44), (1, zi 0), (2, zi 0), (3, zi 0)] (zi225 5) rfl rfl rfl ?_
  have hz4 := zfu_eq 4
  refine l225_6_1 (s := s) (m := m) (B := B) (d := d) (R0 := (f225_1 m))    (by omega) (hJ.up (by omega)) (by omega) (fun y501 y502 hby501 hby502 hR506 => ?_) (zfu 4) 0 0 0 (by omega) (by omega) (by omega) (by omega) rfl
  refine X.iload_n 83 (zi225 82) rfl rfl rfl ?_
  have hK512 : ∀ (v : Int) , (0 ≤ v ∧ v ≤ 1) → (if y501 = 0 then
      (0)
      else
      (if y502 = 0 then
      (0)
      else
      (1))) = v → X (EE s) d 225 95 [] [zi v] m Q := by
    intro v509 hv509 hT513
    refine X.retz (zi225 95) rfl t225 (by omega) ?_
    exact hQ v509 (by first | trivial | omega) (Eq.trans hR506 (Eq.trans (zn_eq hT513.symm) rfl)) 
  refine X.ifeq 94 86 (zi225 83) rfl rfl rfl (fun h507 => ?_) (fun h507 => ?_)
  · refine X.cut [] (zi225 94) rfl ?_
    refine X.iconst 95 (zi225 94) rfl rfl (by decide) ?_
    exact hK512 0 (by first | trivial | omega) (Eq.trans (if_pos h507) rfl)
  · refine X.iload_n 87 (zi225 86) rfl rfl rfl ?_
    refine X.ifeq 94 90 (zi225 87) rfl rfl rfl (fun h508 => ?_) (fun h508 => ?_)
    · refine X.cut [] (zi225 94) rfl ?_
      refine X.iconst 95 (zi225 94) rfl rfl (by decide) ?_
      exact hK512 0 (by first | trivial | omega) (Eq.trans (if_neg h507) (Eq.trans (if_pos h508) rfl))
    · refine X.iconst 91 (zi225 90) rfl rfl (by decide) ?_
      refine X.goto 95 (zi225 91) rfl rfl ?_
      refine X.cut [] (zi225 95) rfl ?_
      exact hK512 1 (by first | trivial | omega) (Eq.trans (if_neg h507) (Eq.trans (if_neg h508) rfl))
-- WorkMeterModel.turnsOn
noncomputable def f228_1 (a1 : Int) (m : zM) : zM :=
  zs (z_upd m 4 45 (40 + a1) 1) fun m501 =>
  zn (w64 ((m501 4 45 (45 + a1)) + 1)) fun z503 =>
  zs (z_upd m501 4 45 (45 + a1) z503) fun m504 =>
  zs (f223_1 a1 0 m504) fun m506 =>
  m506
-- WorkMeterModel.turnsOn
theorem c228_1 {s : Nat × (Nat → Int32)} {S : zS} {m0 m : zM} {B : Int} {d : Nat} {Q : Option zV → zM → Prop} (a1 : Int) (hd : 14 ≤ d) (hJ : J S m0 B m) (hB : B + 1 ≤ 1000000000) (ha1 : 2 ≤ a1 ∧ a1 ≤ 4) (hf26 : ¬ S.1 26) (hf29 : ¬ S.1 29) (hg4 : ¬ S.2.1 4) (hQ : ∀ m', f228_1 a1 m = m' → J S m0 (B + 1) m' → Q none m') : X (EE s) d 228 0 [(0, zr 4 44), (1, zi a1)] [] m Q := by
  refine X.aload_n 1 (zi228 0) rfl rfl rfl ?_
  refine X.getF 4 (zi228 1) rfl rfl (by decide) rfl rfl ?_
  refine X.bipush 6 (zi228 4) rfl rfl (by decide) ?_
  refine X.iload_n 7 (zi228 6) rfl rfl rfl ?_
  refine X.iadd 8 (zi228 7) rfl rfl (by omega) ?_
  refine X.lconst (y := 1) 9 (zi228 8) rfl rfl rfl ?_
  refine X.last' 10 (zi228 9) rfl rfl (by decide) rfl (by omega) (fun hrm501 m501 hm501 => ?_)
  have hJ502 := w45_40 hJ hm501 (by omega) hrm501 hf29 hg4
  refine X.aload_n 11 (zi228 10) rfl rfl rfl ?_
  refine X.getF 14 (zi228 11) rfl rfl (by decide) rfl rfl ?_
  refine X.bipush 16 (zi228 14) rfl rfl (by decide) ?_
  refine X.iload_n 17 (zi228 16) rfl rfl rfl ?_
  refine X.iadd 18 (zi228 17) rfl rfl (by omega) ?_
  refine X.dup2 19 (zi228 18) rfl rfl ?_
  refine X.lald 20 (zi228 19) rfl rfl (by decide) rfl (by omega) ?_
  refine X.lconst (y := 1) 21 (zi228 20) rfl rfl rfl ?_
  refine X.laddW 22 (zi228 21) rfl rfl (fun z503 ez503 hz503 => ?_)
  refine X.last' 23 (zi228 22) rfl rfl (by decide) rfl (by omega) (fun hrm504 m504 hm504 => ?_)
  have hJ505 := w45_40 hJ502 hm504 (by omega) hrm504 hf29 hg4
  refine X.aload_n 24 (zi228 23) rfl rfl rfl ?_
  refine X.iload_n 25 (zi228 24) rfl rfl rfl ?_
  refine X.lconst (y := 0) 26 (zi228 25) rfl rfl rfl ?_
  refine X.callv 29 [zi a1, zl 0] [] [(0, zr 4 44), (1, zi a1), (2, zl 0)] (zi228 26) rfl (by decide) rfl rfl (by omega) rfl rfl (by decide) rfl t223 (Nat.le_of_ble_eq_true rfl) (Nat.le_of_ble_eq_true rfl) rfl ?_
  refine c223_1 (B := B)  a1 0 (by omega) (hJ505.up (by omega)) (by omega) (by omega) hf26 hg4 (fun m506 hFv508 hJ507 => ?_)
  show X (EE s) d 228 29 [(0, zr 4 44), (1, zi a1)] [] m506 _
  refine X.retv (zi228 29) rfl t228 ?_
  exact hQ  m506  (Eq.trans (zs_eq hm501) (Eq.trans (zn_eq ez503) (Eq.trans (zs_eq hm504) (Eq.trans (zs_eq hFv508.symm) rfl)))) (hJ507.up (by omega)) 
-- WorkMeterModel.turnsOff
noncomputable def f229_1 (a1 : Int) (m : zM) : zM :=
  zs (z_upd m 4 45 (40 + a1) 0) fun m501 =>
  zs (f223_1 (10 + a1) 0 m501) fun m503 =>
  m503
-- WorkMeterModel.turnsOff
theorem c229_1 {s : Nat × (Nat → Int32)} {S : zS} {m0 m : zM} {B : Int} {d : Nat} {Q : Option zV → zM → Prop} (a1 : Int) (hd : 14 ≤ d) (hJ : J S m0 B m) (hB : B + 1 ≤ 1000000000) (ha1 : 2 ≤ a1 ∧ a1 ≤ 4) (hf26 : ¬ S.1 26) (hf29 : ¬ S.1 29) (hg4 : ¬ S.2.1 4) (hQ : ∀ m', f229_1 a1 m = m' → J S m0 (B + 1) m' → Q none m') : X (EE s) d 229 0 [(0, zr 4 44), (1, zi a1)] [] m Q := by
  refine X.aload_n 1 (zi229 0) rfl rfl rfl ?_
  refine X.getF 4 (zi229 1) rfl rfl (by decide) rfl rfl ?_
  refine X.bipush 6 (zi229 4) rfl rfl (by decide) ?_
  refine X.iload_n 7 (zi229 6) rfl rfl rfl ?_
  refine X.iadd 8 (zi229 7) rfl rfl (by omega) ?_
  refine X.lconst (y := 0) 9 (zi229 8) rfl rfl rfl ?_
  refine X.last' 10 (zi229 9) rfl rfl (by decide) rfl (by omega) (fun hrm501 m501 hm501 => ?_)
  have hJ502 := w45_40 hJ hm501 (by omega) hrm501 hf29 hg4
  refine X.aload_n 11 (zi229 10) rfl rfl rfl ?_
  refine X.bipush 13 (zi229 11) rfl rfl (by decide) ?_
  refine X.iload_n 14 (zi229 13) rfl rfl rfl ?_
  refine X.iadd 15 (zi229 14) rfl rfl (by omega) ?_
  refine X.lconst (y := 0) 16 (zi229 15) rfl rfl rfl ?_
  refine X.callv 19 [zi (10 + a1), zl 0] [] [(0, zr 4 44), (1, zi (10 + a1)), (2, zl 0)] (zi229 16) rfl (by decide) rfl rfl (by omega) rfl rfl (by decide) rfl t223 (Nat.le_of_ble_eq_true rfl) (Nat.le_of_ble_eq_true rfl) rfl ?_
  refine c223_1 (B := B)  (10 + a1) 0 (by omega) (hJ502.up (by omega)) (by omega) (by omega) hf26 hg4 (fun m503 hFv505 hJ504 => ?_)
  show X (EE s) d 229 19 [(0, zr 4 44), (1, zi a1)] [] m503 _
  refine X.retv (zi229 19) rfl t229 ?_
  exact hQ  m503  (Eq.trans (zs_eq hm501) (Eq.trans (zs_eq hFv505.symm) rfl)) (hJ504.up (by omega)) 
noncomputable def fl224_2_1_b (self : Int → zM → zM) (k142 : zM → zM) (y1 : Int) (m : zM) : zM :=
  if 5 ≤ y1 then
  (k142 m)
  else
  (zn (if y1 = 2 then
  (zn (f225_1 m) fun v568 =>
  v568)
  else
  (if y1 = 3 then
  (zn (f226_1 m) fun v565 =>
  v565)
  else
  (zn (f227_1 m) fun v562 =>
  v562))) fun v569 =>
  zn (if v569 = 0 then
  (0)
  else
  (zn (w64 ((m 4 45 (55 + y1)) + 1)) fun z575 =>
  z575)) fun v576 =>
  zs (z_upd m 4 45 (55 + y1) v576) fun m581 =>
  zn (if (m581 4 45 (55 + y1)) ≤ (m581 4 45 7) then
  (0)
  else
  (1)) fun v586 =>
  zs (if v586 = 0 then
  (m581)
  else
  (if (m581 4 45 (40 + y1)) = 0 then
  (zs (f228_1 y1 m581) fun m594 =>
  m594)
  else
  (m581))) fun m598 =>
  zs (if v569 = 0 then
  (if (m598 4 45 (40 + y1)) = 1 then
  (zs (f229_1 y1 m598) fun m605 =>
  m605)
  else
  (m598))
  else
  (m598)) fun m609 =>
  self (y1 + 1) m609)
noncomputable def fl224_2_1 (k142 : zM → zM) : Nat → Int → zM → zM
  | 0 => fun y1 m => m
  | n + 1 => fl224_2_1_b (fl224_2_1 k142 n) k142
theorem l224_2_1 {s : Nat × (Nat → Int32)} {S : zS} {m0 : zM} {d : Nat} {Q : Option zV → zM → Prop} {R0 : zM} {k142 : zM → zM} (BE : Int) (hE : BE ≤ 1000000000) (hd : 15 ≤ d) (hf26 : ¬ S.1 26) (hf29 : ¬ S.1 29) (hg4 : ¬ S.2.1 4)
    (K142 : ∀ (m' : zM) (B' : Int), J S m0 B' m' → B' ≤ BE → R0 = k142 m' → X (EE s) d 224 142 [(0, zr 4 44)] [] m' Q) :
    ∀ (n : Nat) (y1 : Int) (m : zM) (B : Int), J S m0 B m → B + 2 * (n : Int) ≤ BE → (2 ≤ y1 ∧ y1 ≤ 5) → 5 - y1 < (n : Int) → R0 = fl224_2_1 k142 n y1 m → X (EE s) d 224 2 [(0, zr 4 44), (1, zi y1)] [] m Q := by
  intro n
  induction n with
  | zero =>
    intro y1 m B hJ hB hy1 hn hR
    exfalso
    omega
  | succ n ih =>
    intro y1 m B hJ hB hy1 hn hR
    replace hR : R0 = fl224_2_1_b (fl224_2_1 k142 n) k142 y1 m := hR
    refine X.iload_n 3 (zi224 2) rfl rfl rfl ?_
    refine X.iconst 4 (zi224 3) rfl rfl (by decide) ?_
    refine X.icmpge 142 7 (zi224 4) rfl rfl rfl (fun h557 => ?_) (fun h557 => ?_)
    · refine X.cut [(0, zr 4 44)] (zi224 142) rfl ?_
      exact K142  m (B) (hJ.up (by omega)) (by omega)  (Eq.trans hR (Eq.trans (if_pos h557) rfl))
    · refine X.iload_n 8 (zi224 7) rfl rfl rfl ?_
      refine X.iconst 9 (zi224 8) rfl rfl (by decide) ?_
      have hK572 : ∀ (v : Int) , (0 ≤ v ∧ v ≤ 1) → (if y1 = 2 then
          (zn (f225_1 m) fun v568 =>
          v568)
          else
          (if y1 = 3 then
          (zn (f226_1 m) fun v565 =>
          v565)
          else
          (zn (f227_1 m) fun v562 =>
          v562))) = v → X (EE s) d 224 35 [(0, zr 4 44), (1, zi y1)] [zi v] m Q := by
        intro v569 hv569 hT573
        refine X.istore_n 36 [(0, zr 4 44), (1, zi y1), (2, zi v569)] (zi224 35) rfl rfl rfl ?_
        refine X.aload_n 37 (zi224 36) rfl rfl rfl ?_
        refine X.getF 40 (zi224 37) rfl rfl (by decide) rfl rfl ?_
        refine X.bipush 42 (zi224 40) rfl rfl (by decide) ?_
        refine X.iload_n 43 (zi224 42) rfl rfl rfl ?_
        refine X.iadd 44 (zi224 43) rfl rfl (by omega) ?_
        refine X.iload_n 45 (zi224 44) rfl rfl rfl ?_
        have hK579 : ∀ (v : Int) , (True) → (if v569 = 0 then
            (0)
            else
            (zn (w64 ((m 4 45 (55 + y1)) + 1)) fun z575 =>
            z575)) = v → X (EE s) d 224 63 [(0, zr 4 44), (1, zi y1), (2, zi v569)] [zl v, zi (55 + y1), zr 4 45] m Q := by
          intro v576 hv576 hT580
          refine X.last' 64 (zi224 63) rfl rfl (by decide) rfl (by omega) (fun hrm581 m581 hm581 => ?_)
          have hJ582 := w45_40 hJ hm581 (by omega) hrm581 hf29 hg4
          refine X.aload_n 65 (zi224 64) rfl rfl rfl ?_
          refine X.getF 68 (zi224 65) rfl rfl (by decide) rfl rfl ?_
          refine X.bipush 70 (zi224 68) rfl rfl (by decide) ?_
          refine X.iload_n 71 (zi224 70) rfl rfl rfl ?_
          refine X.iadd 72 (zi224 71) rfl rfl (by omega) ?_
          refine X.lald 73 (zi224 72) rfl rfl (by decide) rfl (by omega) ?_
          refine X.aload_n 74 (zi224 73) rfl rfl rfl ?_
          refine X.getF 77 (zi224 74) rfl rfl (by decide) rfl rfl ?_
          refine X.bipush 79 (zi224 77) rfl rfl (by decide) ?_
          refine X.lald 80 (zi224 79) rfl rfl (by decide) rfl (by omega) ?_
          have h583 := r45_7 hJ582 4
          refine X.lcmp 81 (zi224 80) rfl rfl (fun z584 hz584 => ?_)
          have hK589 : ∀ (v : Int) , (0 ≤ v ∧ v ≤ 1) → (if (m581 4 45 (55 + y1)) ≤ (m581 4 45 7) then
              (0)
              else
              (1)) = v → X (EE s) d 224 89 [(0, zr 4 44), (1, zi y1), (2, zi v569)] [zi v] m581 Q := by
            intro v586 hv586 hT590
            refine X.istore_n 90 [(0, zr 4 44), (1, zi y1), (2, zi v569), (3, zi v586)] (zi224 89) rfl rfl rfl ?_
            refine X.iload_n 91 (zi224 90) rfl rfl rfl ?_
            have hK600 : ∀ (m' : zM), (if v586 = 0 then
                (m581)
                else
                (if (m581 4 45 (40 + y1)) = 0 then
                (zs (f228_1 y1 m581) fun m594 =>
                m594)
                else
                (m581))) = m' → J S m0 (B + 1) m' → X (EE s) d 224 113 [(0, zr 4 44), (1, zi y1), (2, zi v569)] [] m' Q := by
              intro m598 hT601 hJ599
              refine X.iload_n 114 (zi224 113) rfl rfl rfl ?_
              have hK611 : ∀ (m' : zM), (if v569 = 0 then
                  (if (m598 4 45 (40 + y1)) = 1 then
                  (zs (f229_1 y1 m598) fun m605 =>
                  m605)
                  else
                  (m598))
                  else
                  (m598)) = m' → J S m0 (B + 2) m' → X (EE s) d 224 136 [(0, zr 4 44), (1, zi y1)] [] m' Q := by
                intro m609 hT612 hJ610
                refine X.iinc 139 [(0, zr 4 44), (1, zi (y1 + 1))] (zi224 136) rfl rfl rfl (by omega) rfl ?_
                refine X.goto 2 (zi224 139) rfl rfl ?_
                exact ih (y1 + 1) m609 (B + 2) (hJ610.up (by omega)) (by omega) (by omega) (by omega) (Eq.trans hR (Eq.trans (if_neg h557) (Eq.trans (zn_eq hT573.symm) (Eq.trans (zn_eq hT580.symm) (Eq.trans (zs_eq hm581) (Eq.trans (zn_eq hT590.symm) (Eq.trans (zs_eq hT601.symm) (Eq.trans (zs_eq hT612.symm) rfl))))))))
              refine X.ifne 136 117 (zi224 114) rfl rfl rfl (fun h602 => ?_) (fun h602 => ?_)
              · refine X.cut [(0, zr 4 44), (1, zi y1)] (zi224 136) rfl ?_
                exact hK611 m598 (Eq.trans (if_neg h602) rfl) (hJ599.up (by omega))
              · refine X.aload_n 118 (zi224 117) rfl rfl rfl ?_
                refine X.getF 121 (zi224 118) rfl rfl (by decide) rfl rfl ?_
                refine X.bipush 123 (zi224 121) rfl rfl (by decide) ?_
                refine X.iload_n 124 (zi224 123) rfl rfl rfl ?_
                refine X.iadd 125 (zi224 124) rfl rfl (by omega) ?_
                refine X.lald 126 (zi224 125) rfl rfl (by decide) rfl (by omega) ?_
                refine X.lconst (y := 1) 127 (zi224 126) rfl rfl rfl ?_
                refine X.lcmp 128 (zi224 127) rfl rfl (fun z603 hz603 => ?_)
                refine X.ifne 136 131 (zi224 128) rfl rfl rfl (fun h604 => ?_) (fun h604 => ?_)
                · have h604c : ¬ (m598 4 45 (40 + y1)) = 1 := by omega
                  clear h604 hz603
                  refine X.cut [(0, zr 4 44), (1, zi y1)] (zi224 136) rfl ?_
                  exact hK611 m598 (Eq.trans (if_pos h602) (Eq.trans (if_neg h604c) rfl)) (hJ599.up (by omega))
                · have h604c : (m598 4 45 (40 + y1)) = 1 := by omega
                  clear h604 hz603
                  refine X.aload_n 132 (zi224 131) rfl rfl rfl ?_
                  refine X.iload_n 133 (zi224 132) rfl rfl rfl ?_
                  refine X.callv 136 [zi y1] [] [(0, zr 4 44), (1, zi y1)] (zi224 133) rfl (by decide) rfl rfl (by omega) rfl rfl (by decide) rfl t229 (Nat.le_of_ble_eq_true rfl) (Nat.le_of_ble_eq_true rfl) rfl ?_
                  refine c229_1 (B := B + 1)  y1 (by omega) (hJ599.up (by omega)) (by omega) (by omega) hf26 hf29 hg4 (fun m605 hFv607 hJ606 => ?_)
                  show X (EE s) d 224 136 [(0, zr 4 44), (1, zi y1), (2, zi v569)] [] m605 _
                  refine X.cut [(0, zr 4 44), (1, zi y1)] (zi224 136) rfl ?_
                  exact hK611 m605 (Eq.trans (if_pos h602) (Eq.trans (if_pos h604c) (Eq.trans (zs_eq hFv607.symm) rfl))) (hJ606.up (by omega))
            refine X.ifeq 113 94 (zi224 91) rfl rfl rfl (fun h591 => ?_) (fun h591 => ?_)
            · refine X.cut [(0, zr 4 44), (1, zi y1), (2, zi v569)] (zi224 113) rfl ?_
              exact hK600 m581 (Eq.trans (if_pos h591) rfl) (hJ582.up (by omega))
            · refine X.aload_n 95 (zi224 94) rfl rfl rfl ?_
              refine X.getF 98 (zi224 95) rfl rfl (by decide) rfl rfl ?_
              refine X.bipush 100 (zi224 98) rfl rfl (by decide) ?_
              refine X.iload_n 101 (zi224 100) rfl rfl rfl ?_
              refine X.iadd 102 (zi224 101) rfl rfl (by omega) ?_
              refine X.lald 103 (zi224 102) rfl rfl (by decide) rfl (by omega) ?_
              refine X.lconst (y := 0) 104 (zi224 103) rfl rfl rfl ?_
              refine X.lcmp 105 (zi224 104) rfl rfl (fun z592 hz592 => ?_)
              refine X.ifne 113 108 (zi224 105) rfl rfl rfl (fun h593 => ?_) (fun h593 => ?_)
              · have h593c : ¬ (m581 4 45 (40 + y1)) = 0 := by omega
                clear h593 hz592
                refine X.cut [(0, zr 4 44), (1, zi y1), (2, zi v569)] (zi224 113) rfl ?_
                exact hK600 m581 (Eq.trans (if_neg h591) (Eq.trans (if_neg h593c) rfl)) (hJ582.up (by omega))
              · have h593c : (m581 4 45 (40 + y1)) = 0 := by omega
                clear h593 hz592
                refine X.aload_n 109 (zi224 108) rfl rfl rfl ?_
                refine X.iload_n 110 (zi224 109) rfl rfl rfl ?_
                refine X.callv 113 [zi y1] [] [(0, zr 4 44), (1, zi y1)] (zi224 110) rfl (by decide) rfl rfl (by omega) rfl rfl (by decide) rfl t228 (Nat.le_of_ble_eq_true rfl) (Nat.le_of_ble_eq_true rfl) rfl ?_
                refine c228_1 (B := B)  y1 (by omega) (hJ582.up (by omega)) (by omega) (by omega) hf26 hf29 hg4 (fun m594 hFv596 hJ595 => ?_)
                show X (EE s) d 224 113 [(0, zr 4 44), (1, zi y1), (2, zi v569), (3, zi v586)] [] m594 _
                refine X.cut [(0, zr 4 44), (1, zi y1), (2, zi v569)] (zi224 113) rfl ?_
                exact hK600 m594 (Eq.trans (if_neg h591) (Eq.trans (if_pos h593c) (Eq.trans (zs_eq hFv596.symm) rfl))) (hJ595.up (by omega))
          refine X.ifle 88 84 (zi224 81) rfl rfl rfl (fun h585 => ?_) (fun h585 => ?_)
          · have h585c : (m581 4 45 (55 + y1)) ≤ (m581 4 45 7) := by omega
            clear h585 hz584
            refine X.iconst 89 (zi224 88) rfl rfl (by decide) ?_
            exact hK589 0 (by first | trivial | omega) (Eq.trans (if_pos h585c) rfl)
          · have h585c : ¬ (m581 4 45 (55 + y1)) ≤ (m581 4 45 7) := by omega
            clear h585 hz584
            refine X.iconst 85 (zi224 84) rfl rfl (by decide) ?_
            refine X.goto 89 (zi224 85) rfl rfl ?_
            exact hK589 1 (by first | trivial | omega) (Eq.trans (if_neg h585c) rfl)
        refine X.ifeq 62 48 (zi224 45) rfl rfl rfl (fun h574 => ?_) (fun h574 => ?_)
        · refine X.lconst (y := 0) 63 (zi224 62) rfl rfl rfl ?_
          exact hK579 0 (by first | trivial | omega) (Eq.trans (if_pos h574) rfl)
        · refine X.aload_n 49 (zi224 48) rfl rfl rfl ?_
          refine X.getF 52 (zi224 49) rfl rfl (by decide) rfl rfl ?_
          refine X.bipush 54 (zi224 52) rfl rfl (by decide) ?_
          refine X.iload_n 55 (zi224 54) rfl rfl rfl ?_
          refine X.iadd 56 (zi224 55) rfl rfl (by omega) ?_
          refine X.lald 57 (zi224 56) rfl rfl (by decide) rfl (by omega) ?_
          refine X.lconst (y := 1) 58 (zi224 57) rfl rfl rfl ?_
          refine X.laddW 59 (zi224 58) rfl rfl (fun z575 ez575 hz575 => ?_)
          refine X.goto 63 (zi224 59) rfl rfl ?_
          exact hK579 z575 (by first | trivial | omega) (Eq.trans (if_neg h574) (Eq.trans (zn_eq ez575) rfl))
      refine X.icmpne 19 12 (zi224 9) rfl rfl rfl (fun h558 => ?_) (fun h558 => ?_)
      · refine X.iload_n 20 (zi224 19) rfl rfl rfl ?_
        refine X.iconst 21 (zi224 20) rfl rfl (by decide) ?_
        refine X.icmpne 31 24 (zi224 21) rfl rfl rfl (fun h559 => ?_) (fun h559 => ?_)
        · refine X.aload_n 32 (zi224 31) rfl rfl rfl ?_
          refine X.callv 35 [] [] [(0, zr 4 44)] (zi224 32) rfl (by decide) rfl rfl (by omega) rfl rfl (by decide) rfl t227 (Nat.le_of_ble_eq_true rfl) (Nat.le_of_ble_eq_true rfl) rfl ?_
          refine c227_1 (B := B)   (by omega) (hJ.up (by omega)) (by omega)  (fun v562 hv562 hFv562 => ?_)
          show X (EE s) d 224 35 [(0, zr 4 44), (1, zi y1)] [zi v562] m _
          exact hK572 v562 (by first | trivial | omega) (Eq.trans (if_neg h558) (Eq.trans (if_neg h559) (Eq.trans (zn_eq hFv562.symm) rfl)))
        · refine X.aload_n 25 (zi224 24) rfl rfl rfl ?_
          refine X.callv 28 [] [] [(0, zr 4 44)] (zi224 25) rfl (by decide) rfl rfl (by omega) rfl rfl (by decide) rfl t226 (Nat.le_of_ble_eq_true rfl) (Nat.le_of_ble_eq_true rfl) rfl ?_
          refine c226_1 (B := B)   (by omega) (hJ.up (by omega)) (by omega)  (fun v565 hv565 hFv565 => ?_)
          show X (EE s) d 224 28 [(0, zr 4 44), (1, zi y1)] [zi v565] m _
          refine X.goto 35 (zi224 28) rfl rfl ?_
          exact hK572 v565 (by first | trivial | omega) (Eq.trans (if_neg h558) (Eq.trans (if_pos h559) (Eq.trans (zn_eq hFv565.symm) rfl)))
      · refine X.aload_n 13 (zi224 12) rfl rfl rfl ?_
        refine X.callv 16 [] [] [(0, zr 4 44)] (zi224 13) rfl (by decide) rfl rfl (by omega) rfl rfl (by decide) rfl t225 (Nat.le_of_ble_eq_true rfl) (Nat.le_of_ble_eq_true rfl) rfl ?_
        refine c225_1 (B := B)   (by omega) (hJ.up (by omega)) (by omega)  (fun v568 hv568 hFv568 => ?_)
        show X (EE s) d 224 16 [(0, zr 4 44), (1, zi y1)] [zi v568] m _
        refine X.goto 35 (zi224 16) rfl rfl ?_
        exact hK572 v568 (by first | trivial | omega) (Eq.trans (if_pos h558) (Eq.trans (zn_eq hFv568.symm) rfl))
noncomputable def fl224_144_1_b (self : Int → zM → zM) (k176 : zM → zM) (y1 : Int) (m : zM) : zM :=
  if 5 ≤ y1 then
  (k176 m)
  else
  (zn (w64 ((m 4 45 (50 + y1)) + (m 4 45 (40 + y1)))) fun z506 =>
  zs (z_upd m 4 45 (50 + y1) z506) fun m507 =>
  self (y1 + 1) m507)
noncomputable def fl224_144_1 (k176 : zM → zM) : Nat → Int → zM → zM
  | 0 => fun y1 m => m
  | n + 1 => fl224_144_1_b (fl224_144_1 k176 n) k176
theorem l224_144_1 {s : Nat × (Nat → Int32)} {S : zS} {m0 : zM} {d : Nat} {Q : Option zV → zM → Prop} {R0 : zM} {k176 : zM → zM} (BE : Int) (hE : BE ≤ 1000000000) (hd : 13 ≤ d) (hf29 : ¬ S.1 29) (hg4 : ¬ S.2.1 4)
    (K176 : ∀ (m' : zM) (B' : Int), J S m0 B' m' → B' ≤ BE → R0 = k176 m' → X (EE s) d 224 176 [] [] m' Q) :
    ∀ (n : Nat) (y1 : Int) (m : zM) (B : Int), J S m0 B m → B + 0 * (n : Int) ≤ BE → (0 ≤ y1 ∧ y1 ≤ 5) → 5 - y1 < (n : Int) → R0 = fl224_144_1 k176 n y1 m → X (EE s) d 224 144 [(0, zr 4 44), (1, zi y1)] [] m Q := by
  intro n
  induction n with
  | zero =>
    intro y1 m B hJ hB hy1 hn hR
    exfalso
    omega
  | succ n ih =>
    intro y1 m B hJ hB hy1 hn hR
    replace hR : R0 = fl224_144_1_b (fl224_144_1 k176 n) k176 y1 m := hR
    refine X.iload_n 145 (zi224 144) rfl rfl rfl ?_
    refine X.iconst 146 (zi224 145) rfl rfl (by decide) ?_
    refine X.icmpge 176 149 (zi224 146) rfl rfl rfl (fun h505 => ?_) (fun h505 => ?_)
    · refine X.cut [] (zi224 176) rfl ?_
      exact K176  m (B) (hJ.up (by omega)) (by omega)  (Eq.trans hR (Eq.trans (if_pos h505) rfl))
    · refine X.aload_n 150 (zi224 149) rfl rfl rfl ?_
      refine X.getF 153 (zi224 150) rfl rfl (by decide) rfl rfl ?_
      refine X.bipush 155 (zi224 153) rfl rfl (by decide) ?_
      refine X.iload_n 156 (zi224 155) rfl rfl rfl ?_
      refine X.iadd 157 (zi224 156) rfl rfl (by omega) ?_
      refine X.dup2 158 (zi224 157) rfl rfl ?_
      refine X.lald 159 (zi224 158) rfl rfl (by decide) rfl (by omega) ?_
      refine X.aload_n 160 (zi224 159) rfl rfl rfl ?_
      refine X.getF 163 (zi224 160) rfl rfl (by decide) rfl rfl ?_
      refine X.bipush 165 (zi224 163) rfl rfl (by decide) ?_
      refine X.iload_n 166 (zi224 165) rfl rfl rfl ?_
      refine X.iadd 167 (zi224 166) rfl rfl (by omega) ?_
      refine X.lald 168 (zi224 167) rfl rfl (by decide) rfl (by omega) ?_
      refine X.laddW 169 (zi224 168) rfl rfl (fun z506 ez506 hz506 => ?_)
      refine X.last' 170 (zi224 169) rfl rfl (by decide) rfl (by omega) (fun hrm507 m507 hm507 => ?_)
      have hJ508 := w45_40 hJ hm507 (by omega) hrm507 hf29 hg4
      refine X.iinc 173 [(0, zr 4 44), (1, zi (y1 + 1))] (zi224 170) rfl rfl rfl (by omega) rfl ?_
      refine X.goto 144 (zi224 173) rfl rfl ?_
      exact ih (y1 + 1) m507 (B) (hJ508.up (by omega)) (by omega) (by omega) (by omega) (Eq.trans hR (Eq.trans (if_neg h505) (Eq.trans (zn_eq ez506) (Eq.trans (zs_eq hm507) rfl))))
-- WorkMeterModel.marks
noncomputable def f224_1 (m : zM) : zM :=
  fl224_2_1 (fun m501 =>
  fl224_144_1 (fun m505 =>
  m505) (zfu 6) 0 m501) (zfu 4) 2 m
-- WorkMeterModel.marks
theorem c224_1 {s : Nat × (Nat → Int32)} {S : zS} {m0 m : zM} {B : Int} {d : Nat} {Q : Option zV → zM → Prop} (hd : 15 ≤ d) (hJ : J S m0 B m) (hB : B + 8 ≤ 1000000000) (hf26 : ¬ S.1 26) (hf29 : ¬ S.1 29) (hg4 : ¬ S.2.1 4) (hQ : ∀ m', f224_1 m = m' → J S m0 (B + 8) m' → Q none m') : X (EE s) d 224 0 [(0, zr 4 44)] [] m Q := by
  refine X.iconst 1 (zi224 0) rfl rfl (by decide) ?_
  refine X.istore_n 2 [(0, zr 4 44), (1, zi 2)] (zi224 1) rfl rfl rfl ?_
  have hz4 := zfu_eq 4
  refine l224_2_1 (s := s) (d := d) (R0 := (f224_1 m))    (BE := B + 8) (by omega) (by omega) hf26 hf29 hg4 (fun  m501 B502 hJ503 hBB502 hR504 => ?_) (zfu 4) 2 m (B) (hJ.up (by omega)) (by omega) (by omega) (by omega) rfl
  refine X.iconst 143 (zi224 142) rfl rfl (by decide) ?_
  refine X.istore_n 144 [(0, zr 4 44), (1, zi 0)] (zi224 143) rfl rfl rfl ?_
  have hz6 := zfu_eq 6
  refine l224_144_1 (s := s) (d := d)    (BE := B502 + 0) (by omega) (by omega) hf29 hg4 (fun  m505 B506 hJ507 hBB506 hR508 => ?_) (zfu 6) 0 m501 (B502) (hJ503.up (by omega)) (by omega) (by omega) (by omega) (Eq.trans hR504 rfl)
  refine X.retv (zi224 176) rfl t224 ?_
  exact hQ  m505  (Eq.trans hR508 rfl) (hJ507.up (by omega)) 
noncomputable def fl231_4_1_b (self : Int → Int → Int) (k29 : Int → Int) (m : zM) (y1 y3 : Int) : Int :=
  if 5 ≤ y3 then
  (k29 y1)
  else
  (zn (zshlL (m 4 45 (40 + y3)) y3) fun z508 =>
  zn (zorL y1 z508) fun z509 =>
  self z509 (y3 + 1))
noncomputable def fl231_4_1 (k29 : Int → Int) (m : zM) : Nat → Int → Int → Int
  | 0 => fun y1 y3 => 0
  | n + 1 => fl231_4_1_b (fl231_4_1 k29 m n) k29 m
theorem l231_4_1 {s : Nat × (Nat → Int32)} {S : zS} {m0 : zM} {m : zM} {B : Int} {d : Nat} {Q : Option zV → zM → Prop} {R0 : Int} {k29 : Int → Int} (hd : 13 ≤ d) (hJ : J S m0 B m) (hB9 : B ≤ 1000000000)
    (K29 : ∀ (x1 : Int) , (True) → R0 = k29 x1 → X (EE s) d 231 29 [(1, zl x1)] [] m Q) :
    ∀ (n : Nat) (y1 y3 : Int) , (0 ≤ y3 ∧ y3 ≤ 5) → 5 - y3 < (n : Int) → R0 = fl231_4_1 k29 m n y1 y3 → X (EE s) d 231 4 [(0, zr 4 44), (1, zl y1), (3, zi y3)] [] m Q := by
  intro n
  induction n with
  | zero =>
    intro y1 y3 hy3 hn hR
    exfalso
    omega
  | succ n ih =>
    intro y1 y3 hy3 hn hR
    replace hR : R0 = fl231_4_1_b (fl231_4_1 k29 m n) k29 m y1 y3 := hR
    refine X.iload_n 5 (zi231 4) rfl rfl rfl ?_
    refine X.iconst 6 (zi231 5) rfl rfl (by decide) ?_
    refine X.icmpge 29 9 (zi231 6) rfl rfl rfl (fun h507 => ?_) (fun h507 => ?_)
    · refine X.cut [(1, zl y1)] (zi231 29) rfl ?_
      exact K29 y1 (by first | trivial | omega) (Eq.trans hR (Eq.trans (if_pos h507) rfl))
    · refine X.lload_n 10 (zi231 9) rfl rfl rfl ?_
      refine X.aload_n 11 (zi231 10) rfl rfl rfl ?_
      refine X.getF 14 (zi231 11) rfl rfl (by decide) rfl rfl ?_
      refine X.bipush 16 (zi231 14) rfl rfl (by decide) ?_
      refine X.iload_n 17 (zi231 16) rfl rfl rfl ?_
      refine X.iadd 18 (zi231 17) rfl rfl (by omega) ?_
      refine X.lald 19 (zi231 18) rfl rfl (by decide) rfl (by omega) ?_
      refine X.iload_n 20 (zi231 19) rfl rfl rfl ?_
      refine X.lshlE 21 (zi231 20) rfl rfl (fun z508 ez508 hz508 => ?_)
      refine X.llE 22 .lor (fun x y => x ||| y) (zi231 21) rfl rfl rfl (fun _ _ => rfl) (fun z509 ez509 hz509 => ?_)
      refine X.lstore_n 23 [(0, zr 4 44), (1, zl z509), (3, zi y3)] (zi231 22) rfl rfl rfl ?_
      refine X.iinc 26 [(0, zr 4 44), (1, zl z509), (3, zi (y3 + 1))] (zi231 23) rfl rfl rfl (by omega) rfl ?_
      refine X.goto 4 (zi231 26) rfl rfl ?_
      exact ih z509 (y3 + 1) (by omega) (by omega) (Eq.trans hR (Eq.trans (if_neg h507) (Eq.trans (zn_eq ez508) (Eq.trans (zn_eq ez509) rfl))))
-- WorkMeterModel.marksOn
noncomputable def f231_1 (m : zM) : Int :=
  fl231_4_1 (fun y501 =>
  y501) m (zfu 6) 0 0
-- WorkMeterModel.marksOn
theorem c231_1 {s : Nat × (Nat → Int32)} {S : zS} {m0 m : zM} {B : Int} {d : Nat} {Q : Option zV → zM → Prop} (hd : 13 ≤ d) (hJ : J S m0 B m) (hB : B + 0 ≤ 1000000000) (hQ : ∀ (v : Int), (True) → f231_1 m = v → Q (some (zl v)) m) : X (EE s) d 231 0 [(0, zr 4 44)] [] m Q := by
  refine X.lconst (y := 0) 1 (zi231 0) rfl rfl rfl ?_
  refine X.lstore_n 2 [(0, zr 4 44), (1, zl 0)] (zi231 1) rfl rfl rfl ?_
  refine X.iconst 3 (zi231 2) rfl rfl (by decide) ?_
  refine X.istore_n 4 [(0, zr 4 44), (1, zl 0), (3, zi 0)] (zi231 3) rfl rfl rfl ?_
  have hz6 := zfu_eq 6
  refine l231_4_1 (s := s) (m := m) (B := B) (d := d) (R0 := (f231_1 m))    (by omega) (hJ.up (by omega)) (by omega) (fun y501 hby501 hR505 => ?_) (zfu 6) 0 0 (by omega) (by omega) rfl
  refine X.lload_n 30 (zi231 29) rfl rfl rfl ?_
  refine X.retl (zi231 30) rfl t231 ?_
  exact hQ y501 (by first | trivial | omega) (Eq.trans hR505 rfl) 
-- WorkMeterModel.lines
noncomputable def f235_1 (m : zM) : Int :=
  zn (if (m 4 45 17) < 64 then
  ((m 4 45 17))
  else
  (64)) fun v504 =>
  v504
-- WorkMeterModel.lines
theorem c235_1 {s : Nat × (Nat → Int32)} {S : zS} {m0 m : zM} {B : Int} {d : Nat} {Q : Option zV → zM → Prop} (hd : 13 ≤ d) (hJ : J S m0 B m) (hB : B + 0 ≤ 1000000000) (hQ : ∀ (v : Int), (0 ≤ v ∧ v ≤ 64) → f235_1 m = v → Q (some (zi v)) m) : X (EE s) d 235 0 [(0, zr 4 44)] [] m Q := by
  refine X.aload_n 1 (zi235 0) rfl rfl rfl ?_
  refine X.getF 4 (zi235 1) rfl rfl (by decide) rfl rfl ?_
  refine X.bipush 6 (zi235 4) rfl rfl (by decide) ?_
  refine X.lald 7 (zi235 6) rfl rfl (by decide) rfl (by omega) ?_
  have h501 := r45_17 hJ 4
  refine X.ldc2 10 (zi235 7) rfl rfl (by decide) ?_
  refine X.lcmp 11 (zi235 10) rfl rfl (fun z502 hz502 => ?_)
  have hK507 : ∀ (v : Int) , (0 ≤ v ∧ v ≤ 64) → (if (m 4 45 17) < 64 then
      ((m 4 45 17))
      else
      (64)) = v → X (EE s) d 235 27 [] [zl v] m Q := by
    intro v504 hv504 hT508
    refine X.l2i 28 (zi235 27) rfl rfl (by omega) ?_
    refine X.reti (zi235 28) rfl t235 ?_
    exact hQ v504 (by first | trivial | omega) (Eq.trans (zn_eq hT508.symm) rfl) 
  refine X.ifge 24 14 (zi235 11) rfl rfl rfl (fun h503 => ?_) (fun h503 => ?_)
  · have h503c : ¬ (m 4 45 17) < 64 := by omega
    clear h503 hz502
    refine X.cut [] (zi235 24) rfl ?_
    refine X.ldc2 27 (zi235 24) rfl rfl (by decide) ?_
    exact hK507 64 (by first | trivial | omega) (Eq.trans (if_neg h503c) rfl)
  · have h503c : (m 4 45 17) < 64 := by omega
    clear h503 hz502
    refine X.aload_n 15 (zi235 14) rfl rfl rfl ?_
    refine X.getF 18 (zi235 15) rfl rfl (by decide) rfl rfl ?_
    refine X.bipush 20 (zi235 18) rfl rfl (by decide) ?_
    refine X.lald 21 (zi235 20) rfl rfl (by decide) rfl (by omega) ?_
    refine X.goto 27 (zi235 21) rfl rfl ?_
    refine X.cut [] (zi235 27) rfl ?_
    exact hK507 (m 4 45 17) (by first | trivial | omega) (Eq.trans (if_pos h503c) rfl)
noncomputable def fl233_3_1_b (self : Int → zM → zM) (k22 : zM → zM) (y1 : Int) (m : zM) : zM :=
  if 27 < y1 then
  (k22 m)
  else
  (zs (z_upd m 4 45 y1 0) fun m505 =>
  self (y1 + 1) m505)
noncomputable def fl233_3_1 (k22 : zM → zM) : Nat → Int → zM → zM
  | 0 => fun y1 m => m
  | n + 1 => fl233_3_1_b (fl233_3_1 k22 n) k22
theorem l233_3_1 {s : Nat × (Nat → Int32)} {S : zS} {m0 : zM} {d : Nat} {Q : Option zV → zM → Prop} {R0 : zM} {k22 : zM → zM} (BE : Int) (hE : BE ≤ 1000000000) (hd : 13 ≤ d) (hf27 : ¬ S.1 27) (hg4 : ¬ S.2.1 4)
    (K22 : ∀ (m' : zM) (B' : Int), J S m0 B' m' → B' ≤ BE → R0 = k22 m' → X (EE s) d 233 22 [(0, zr 4 44)] [] m' Q) :
    ∀ (n : Nat) (y1 : Int) (m : zM) (B : Int), J S m0 B m → B + 0 * (n : Int) ≤ BE → (22 ≤ y1 ∧ y1 ≤ 28) → 28 - y1 < (n : Int) → R0 = fl233_3_1 k22 n y1 m → X (EE s) d 233 3 [(0, zr 4 44), (1, zi y1)] [] m Q := by
  intro n
  induction n with
  | zero =>
    intro y1 m B hJ hB hy1 hn hR
    exfalso
    omega
  | succ n ih =>
    intro y1 m B hJ hB hy1 hn hR
    replace hR : R0 = fl233_3_1_b (fl233_3_1 k22 n) k22 y1 m := hR
    refine X.iload_n 4 (zi233 3) rfl rfl rfl ?_
    refine X.bipush 6 (zi233 4) rfl rfl (by decide) ?_
    refine X.icmpgt 22 9 (zi233 6) rfl rfl rfl (fun h504 => ?_) (fun h504 => ?_)
    · refine X.cut [(0, zr 4 44)] (zi233 22) rfl ?_
      exact K22  m (B) (hJ.up (by omega)) (by omega)  (Eq.trans hR (Eq.trans (if_pos h504) rfl))
    · refine X.aload_n 10 (zi233 9) rfl rfl rfl ?_
      refine X.getF 13 (zi233 10) rfl rfl (by decide) rfl rfl ?_
      refine X.iload_n 14 (zi233 13) rfl rfl rfl ?_
      refine X.lconst (y := 0) 15 (zi233 14) rfl rfl rfl ?_
      refine X.last' 16 (zi233 15) rfl rfl (by decide) rfl (by omega) (fun hrm505 m505 hm505 => ?_)
      have hJ506 := w45_21 hJ hm505 (by omega) hrm505 hf27 hg4
      refine X.iinc 19 [(0, zr 4 44), (1, zi (y1 + 1))] (zi233 16) rfl rfl rfl (by omega) rfl ?_
      refine X.goto 3 (zi233 19) rfl rfl ?_
      exact ih (y1 + 1) m505 (B) (hJ506.up (by omega)) (by omega) (by omega) (by omega) (Eq.trans hR (Eq.trans (if_neg h504) (Eq.trans (zs_eq hm505) rfl)))
-- WorkMeterModel.beginsBlock
noncomputable def f233_1 (m : zM) : zM :=
  fl233_3_1 (fun m501 =>
  zn (((m501 4 45 0) % (m501 4 45 8))) fun z507 =>
  zn (if z507 = 0 then
  (0)
  else
  (1)) fun v510 =>
  zs (z_upd m501 4 45 21 v510) fun m515 =>
  m515) (zfu 7) 22 m
-- WorkMeterModel.beginsBlock
theorem c233_1 {s : Nat × (Nat → Int32)} {S : zS} {m0 m : zM} {B : Int} {d : Nat} {Q : Option zV → zM → Prop} (hd : 13 ≤ d) (hJ : J S m0 B m) (hB : B + 0 ≤ 1000000000) (hf27 : ¬ S.1 27) (hg4 : ¬ S.2.1 4) (hQ : ∀ m', f233_1 m = m' → J S m0 (B) m' → Q none m') : X (EE s) d 233 0 [(0, zr 4 44)] [] m Q := by
  refine X.bipush 2 (zi233 0) rfl rfl (by decide) ?_
  refine X.istore_n 3 [(0, zr 4 44), (1, zi 22)] (zi233 2) rfl rfl rfl ?_
  have hz7 := zfu_eq 7
  refine l233_3_1 (s := s) (d := d) (R0 := (f233_1 m))    (BE := B + 0) (by omega) (by omega) hf27 hg4 (fun  m501 B502 hJ503 hBB502 hR504 => ?_) (zfu 7) 22 m (B) (hJ.up (by omega)) (by omega) (by omega) (by omega) rfl
  refine X.aload_n 23 (zi233 22) rfl rfl rfl ?_
  refine X.getF 26 (zi233 23) rfl rfl (by decide) rfl rfl ?_
  refine X.bipush 28 (zi233 26) rfl rfl (by decide) ?_
  refine X.aload_n 29 (zi233 28) rfl rfl rfl ?_
  refine X.getF 32 (zi233 29) rfl rfl (by decide) rfl rfl ?_
  refine X.iconst 33 (zi233 32) rfl rfl (by decide) ?_
  refine X.lald 34 (zi233 33) rfl rfl (by decide) rfl (by omega) ?_
  have h505 := r45_0 hJ503 4
  refine X.aload_n 35 (zi233 34) rfl rfl rfl ?_
  refine X.getF 38 (zi233 35) rfl rfl (by decide) rfl rfl ?_
  refine X.bipush 40 (zi233 38) rfl rfl (by decide) ?_
  refine X.lald 41 (zi233 40) rfl rfl (by decide) rfl (by omega) ?_
  have h506 := r45_8 hJ503 4
  refine X.lremp 42 (zi233 41) rfl rfl (by omega) ?_
  have hz507 := z_modb (x := (m501 4 45 0)) (y := (m501 4 45 8)) (by omega) (by omega)
  obtain ⟨z507, ez507⟩ : ∃ z, z = ((m501 4 45 0) % (m501 4 45 8)) := ⟨_, rfl⟩
  rw [← ez507] at hz507 ⊢
  refine X.lconst (y := 0) 43 (zi233 42) rfl rfl rfl ?_
  refine X.lcmp 44 (zi233 43) rfl rfl (fun z508 hz508 => ?_)
  have hK513 : ∀ (v : Int) , (0 ≤ v ∧ v ≤ 1) → (if z507 = 0 then
      (0)
      else
      (1)) = v → X (EE s) d 233 52 [] [zl v, zi 21, zr 4 45] m501 Q := by
    intro v510 hv510 hT514
    refine X.last' 53 (zi233 52) rfl rfl (by decide) rfl (by omega) (fun hrm515 m515 hm515 => ?_)
    have hJ516 := w45_21 hJ503 hm515 (by omega) hrm515 hf27 hg4
    refine X.retv (zi233 53) rfl t233 ?_
    exact hQ  m515  (Eq.trans hR504 (Eq.trans (zn_eq ez507) (Eq.trans (zn_eq hT514.symm) (Eq.trans (zs_eq hm515) rfl)))) (hJ516.up (by omega)) 
  refine X.ifne 51 47 (zi233 44) rfl rfl rfl (fun h509 => ?_) (fun h509 => ?_)
  · have h509c : ¬ z507 = 0 := by omega
    clear h509 hz508
    refine X.cut [] (zi233 51) rfl ?_
    refine X.lconst (y := 1) 52 (zi233 51) rfl rfl rfl ?_
    exact hK513 1 (by first | trivial | omega) (Eq.trans (if_neg h509c) rfl)
  · have h509c : z507 = 0 := by omega
    clear h509 hz508
    refine X.lconst (y := 0) 48 (zi233 47) rfl rfl rfl ?_
    refine X.goto 52 (zi233 48) rfl rfl ?_
    refine X.cut [] (zi233 52) rfl ?_
    exact hK513 0 (by first | trivial | omega) (Eq.trans (if_pos h509c) rfl)
-- WorkMeterModel.line
noncomputable def f234_1 (a1 a2 : Int) (m : zM) : Int :=
  (m 4 45 ((788 + (6 * a1)) + a2))
-- WorkMeterModel.line
theorem c234_1 {s : Nat × (Nat → Int32)} {S : zS} {m0 m : zM} {B : Int} {d : Nat} {Q : Option zV → zM → Prop} (a1 a2 : Int) (hd : 13 ≤ d) (hJ : J S m0 B m) (hB : B + 0 ≤ 1000000000) (ha1 : (-5) ≤ a1 ∧ a1 ≤ 63) (ha2 : 5 ≤ a2 ∧ a2 ≤ 5) (hQ : ∀ (v : Int), (True) → f234_1 a1 a2 m = v → Q (some (zl v)) m) : X (EE s) d 234 0 [(0, zr 4 44), (1, zi a1), (2, zi a2)] [] m Q := by
  refine X.aload_n 1 (zi234 0) rfl rfl rfl ?_
  refine X.getF 4 (zi234 1) rfl rfl (by decide) rfl rfl ?_
  refine X.sipush 7 (zi234 4) rfl rfl (by decide) ?_
  refine X.bipush 9 (zi234 7) rfl rfl (by decide) ?_
  refine X.iload_n 10 (zi234 9) rfl rfl rfl ?_
  refine X.imul 11 (zi234 10) rfl rfl (by omega) ?_
  refine X.iadd 12 (zi234 11) rfl rfl (by omega) ?_
  refine X.iload_n 13 (zi234 12) rfl rfl rfl ?_
  refine X.iadd 14 (zi234 13) rfl rfl (by omega) ?_
  refine X.lald 15 (zi234 14) rfl rfl (by decide) rfl (by omega) ?_
  refine X.retl (zi234 15) rfl t234 ?_
  exact hQ (m 4 45 ((788 + (6 * a1)) + a2)) (by first | trivial | omega) rfl 
-- WorkMeterModel.line
theorem c234_2 {s : Nat × (Nat → Int32)} {S : zS} {m0 m : zM} {B : Int} {d : Nat} {Q : Option zV → zM → Prop} (a1 a2 : Int) (hd : 13 ≤ d) (hJ : J S m0 B m) (hB : B + 0 ≤ 1000000000) (ha1 : 0 ≤ a1 ∧ a1 ≤ 63) (ha2 : 1 ≤ a2 ∧ a2 ≤ 1) (hQ : ∀ (v : Int), (True) → f234_1 a1 a2 m = v → Q (some (zl v)) m) : X (EE s) d 234 0 [(0, zr 4 44), (1, zi a1), (2, zi a2)] [] m Q := by
  refine X.aload_n 1 (zi234 0) rfl rfl rfl ?_
  refine X.getF 4 (zi234 1) rfl rfl (by decide) rfl rfl ?_
  refine X.sipush 7 (zi234 4) rfl rfl (by decide) ?_
  refine X.bipush 9 (zi234 7) rfl rfl (by decide) ?_
  refine X.iload_n 10 (zi234 9) rfl rfl rfl ?_
  refine X.imul 11 (zi234 10) rfl rfl (by omega) ?_
  refine X.iadd 12 (zi234 11) rfl rfl (by omega) ?_
  refine X.iload_n 13 (zi234 12) rfl rfl rfl ?_
  refine X.iadd 14 (zi234 13) rfl rfl (by omega) ?_
  refine X.lald 15 (zi234 14) rfl rfl (by decide) rfl (by omega) ?_
  refine X.retl (zi234 15) rfl t234 ?_
  exact hQ (m 4 45 ((788 + (6 * a1)) + a2)) (by first | trivial | omega) rfl 
-- WorkMeterModel.line
theorem c234_3 {s : Nat × (Nat → Int32)} {S : zS} {m0 m : zM} {B : Int} {d : Nat} {Q : Option zV → zM → Prop} (a1 a2 : Int) (hd : 13 ≤ d) (hJ : J S m0 B m) (hB : B + 0 ≤ 1000000000) (ha1 : (-4) ≤ a1 ∧ a1 ≤ 63) (ha2 : 0 ≤ a2 ∧ a2 ≤ 0) (hQ : ∀ (v : Int), (True) → f234_1 a1 a2 m = v → Q (some (zl v)) m) : X (EE s) d 234 0 [(0, zr 4 44), (1, zi a1), (2, zi a2)] [] m Q := by
  refine X.aload_n 1 (zi234 0) rfl rfl rfl ?_
  refine X.getF 4 (zi234 1) rfl rfl (by decide) rfl rfl ?_
  refine X.sipush 7 (zi234 4) rfl rfl (by decide) ?_
  refine X.bipush 9 (zi234 7) rfl rfl (by decide) ?_
  refine X.iload_n 10 (zi234 9) rfl rfl rfl ?_
  refine X.imul 11 (zi234 10) rfl rfl (by omega) ?_
  refine X.iadd 12 (zi234 11) rfl rfl (by omega) ?_
  refine X.iload_n 13 (zi234 12) rfl rfl rfl ?_
  refine X.iadd 14 (zi234 13) rfl rfl (by omega) ?_
  refine X.lald 15 (zi234 14) rfl rfl (by decide) rfl (by omega) ?_
  refine X.retl (zi234 15) rfl t234 ?_
  exact hQ (m 4 45 ((788 + (6 * a1)) + a2)) (by first | trivial | omega) rfl 
-- WorkMeterModel.line
theorem c234_4 {s : Nat × (Nat → Int32)} {S : zS} {m0 m : zM} {B : Int} {d : Nat} {Q : Option zV → zM → Prop} (a1 a2 : Int) (hd : 13 ≤ d) (hJ : J S m0 B m) (hB : B + 0 ≤ 1000000000) (ha1 : (-5) ≤ a1 ∧ a1 ≤ 62) (ha2 : 0 ≤ a2 ∧ a2 ≤ 0) (hQ : ∀ (v : Int), (True) → f234_1 a1 a2 m = v → Q (some (zl v)) m) : X (EE s) d 234 0 [(0, zr 4 44), (1, zi a1), (2, zi a2)] [] m Q := by
  refine X.aload_n 1 (zi234 0) rfl rfl rfl ?_
  refine X.getF 4 (zi234 1) rfl rfl (by decide) rfl rfl ?_
  refine X.sipush 7 (zi234 4) rfl rfl (by decide) ?_
  refine X.bipush 9 (zi234 7) rfl rfl (by decide) ?_
  refine X.iload_n 10 (zi234 9) rfl rfl rfl ?_
  refine X.imul 11 (zi234 10) rfl rfl (by omega) ?_
  refine X.iadd 12 (zi234 11) rfl rfl (by omega) ?_
  refine X.iload_n 13 (zi234 12) rfl rfl rfl ?_
  refine X.iadd 14 (zi234 13) rfl rfl (by omega) ?_
  refine X.lald 15 (zi234 14) rfl rfl (by decide) rfl (by omega) ?_
  refine X.retl (zi234 15) rfl t234 ?_
  exact hQ (m 4 45 ((788 + (6 * a1)) + a2)) (by first | trivial | omega) rfl 
-- WorkMeterModel.line
theorem c234_5 {s : Nat × (Nat → Int32)} {S : zS} {m0 m : zM} {B : Int} {d : Nat} {Q : Option zV → zM → Prop} (a1 a2 : Int) (hd : 13 ≤ d) (hJ : J S m0 B m) (hB : B + 0 ≤ 1000000000) (ha1 : (-5) ≤ a1 ∧ a1 ≤ 62) (ha2 : 1 ≤ a2 ∧ a2 ≤ 1) (hQ : ∀ (v : Int), (True) → f234_1 a1 a2 m = v → Q (some (zl v)) m) : X (EE s) d 234 0 [(0, zr 4 44), (1, zi a1), (2, zi a2)] [] m Q := by
  refine X.aload_n 1 (zi234 0) rfl rfl rfl ?_
  refine X.getF 4 (zi234 1) rfl rfl (by decide) rfl rfl ?_
  refine X.sipush 7 (zi234 4) rfl rfl (by decide) ?_
  refine X.bipush 9 (zi234 7) rfl rfl (by decide) ?_
  refine X.iload_n 10 (zi234 9) rfl rfl rfl ?_
  refine X.imul 11 (zi234 10) rfl rfl (by omega) ?_
  refine X.iadd 12 (zi234 11) rfl rfl (by omega) ?_
  refine X.iload_n 13 (zi234 12) rfl rfl rfl ?_
  refine X.iadd 14 (zi234 13) rfl rfl (by omega) ?_
  refine X.lald 15 (zi234 14) rfl rfl (by decide) rfl (by omega) ?_
  refine X.retl (zi234 15) rfl t234 ?_
  exact hQ (m 4 45 ((788 + (6 * a1)) + a2)) (by first | trivial | omega) rfl 
noncomputable def fl236_24_1_b (self : Int → Int → zM) (k95 : zM) (k112 : Int → zM) (y1 : Int) (m : zM) (y2 y4 : Int) : zM :=
  if y4 < (m 4 45 9) then
  (zn (f234_1 ((y1 - 1) - y4) 5 m) fun v564 =>
  zn (zandL v564 192) fun z565 =>
  if z565 = 0 then
  (if y4 ≤ 0 then
  (zn (f234_1 ((y1 - 1) - y4) 1 m) fun v571 =>
  zn (w64 (y2 + v571)) fun z572 =>
  self z572 (y4 + 1))
  else
  (zn (f234_1 (((y1 - 1) - y4) + 1) 0 m) fun v575 =>
  zn (w64 (v575 - (m 4 45 8))) fun z577 =>
  zn (f234_1 ((y1 - 1) - y4) 0 m) fun v580 =>
  if z577 = v580 then
  (zn (f234_1 ((y1 - 1) - y4) 1 m) fun v585 =>
  zn (w64 (y2 + v585)) fun z586 =>
  self z586 (y4 + 1))
  else
  (k95)))
  else
  (k95))
  else
  (k112 y2)
noncomputable def fl236_24_1 (k95 : zM) (k112 : Int → zM) (y1 : Int) (m : zM) : Nat → Int → Int → zM
  | 0 => fun y2 y4 => m
  | n + 1 => fl236_24_1_b (fl236_24_1 k95 k112 y1 m n) k95 k112 y1 m
theorem l236_24_1 {s : Nat × (Nat → Int32)} {S : zS} {m0 : zM} {m : zM} {B : Int} {d : Nat} {Q : Option zV → zM → Prop} {R0 : zM} {k95 : zM} {k112 : Int → zM} (y1 : Int) (hd : 14 ≤ d) (hJ : J S m0 B m) (hB9 : B ≤ 1000000000) (hy1 : 1 ≤ y1 ∧ y1 ≤ 64)
    (K95 : R0 = k95 → X (EE s) d 236 95 [] [] m Q)
    (K112 : ∀ (x2 : Int) , (True) → R0 = k112 x2 → X (EE s) d 236 112 [(0, zr 4 44), (2, zl x2)] [] m Q) :
    ∀ (n : Nat) (y2 y4 : Int) , (0 ≤ y4 ∧ y4 ≤ 6) → 6 - y4 < (n : Int) → R0 = fl236_24_1 k95 k112 y1 m n y2 y4 → X (EE s) d 236 24 [(0, zr 4 44), (1, zi y1), (2, zl y2), (4, zi y4)] [] m Q := by
  intro n
  induction n with
  | zero =>
    intro y2 y4 hy4 hn hR
    exfalso
    omega
  | succ n ih =>
    intro y2 y4 hy4 hn hR
    replace hR : R0 = fl236_24_1_b (fl236_24_1 k95 k112 y1 m n) k95 k112 y1 m y2 y4 := hR
    refine X.iload 26 (zi236 24) rfl rfl rfl ?_
    refine X.i2l 27 (zi236 26) rfl rfl ?_
    refine X.aload_n 28 (zi236 27) rfl rfl rfl ?_
    refine X.getF 31 (zi236 28) rfl rfl (by decide) rfl rfl ?_
    refine X.bipush 33 (zi236 31) rfl rfl (by decide) ?_
    refine X.lald 34 (zi236 33) rfl rfl (by decide) rfl (by omega) ?_
    have h559 := r45_9 hJ 4
    refine X.lcmp 35 (zi236 34) rfl rfl (fun z560 hz560 => ?_)
    refine X.ifge 112 38 (zi236 35) rfl rfl rfl (fun h561 => ?_) (fun h561 => ?_)
    · have h561c : ¬ y4 < (m 4 45 9) := by omega
      clear h561 hz560
      refine X.cut [(0, zr 4 44), (2, zl y2)] (zi236 112) rfl ?_
      exact K112 y2 (by first | trivial | omega) (Eq.trans hR (Eq.trans (if_neg h561c) rfl))
    · have h561c : y4 < (m 4 45 9) := by omega
      clear h561 hz560
      refine X.iload_n 39 (zi236 38) rfl rfl rfl ?_
      refine X.iconst 40 (zi236 39) rfl rfl (by decide) ?_
      refine X.isub 41 (zi236 40) rfl rfl (by omega) ?_
      refine X.iload 43 (zi236 41) rfl rfl rfl ?_
      refine X.isub 44 (zi236 43) rfl rfl (by omega) ?_
      refine X.istore 46 [(0, zr 4 44), (1, zi y1), (2, zl y2), (4, zi y4), (5, zi ((y1 - 1) - y4))] (zi236 44) rfl rfl rfl ?_
      refine X.aload_n 47 (zi236 46) rfl rfl rfl ?_
      refine X.iload 49 (zi236 47) rfl rfl rfl ?_
      refine X.iconst 50 (zi236 49) rfl rfl (by decide) ?_
      refine X.callv 53 [zi ((y1 - 1) - y4), zi 5] [] [(0, zr 4 44), (1, zi ((y1 - 1) - y4)), (2, zi 5)] (zi236 50) rfl (by decide) rfl rfl (by omega) rfl rfl (by decide) rfl t234 (Nat.le_of_ble_eq_true rfl) (Nat.le_of_ble_eq_true rfl) rfl ?_
      refine c234_1 (B := B)  ((y1 - 1) - y4) 5 (by omega) (hJ.up (by omega)) (by omega) (by omega) (by omega) (fun v564 hv564 hFv564 => ?_)
      show X (EE s) d 236 53 [(0, zr 4 44), (1, zi y1), (2, zl y2), (4, zi y4), (5, zi ((y1 - 1) - y4))] [zl v564] m _
      refine X.ldc2 56 (zi236 53) rfl rfl (by decide) ?_
      refine X.llE 57 .land (fun x y => x &&& y) (zi236 56) rfl rfl rfl (fun _ _ => rfl) (fun z565 ez565 hz565 => ?_)
      refine X.lconst (y := 0) 58 (zi236 57) rfl rfl rfl ?_
      refine X.lcmp 59 (zi236 58) rfl rfl (fun z566 hz566 => ?_)
      refine X.ifne 95 62 (zi236 59) rfl rfl rfl (fun h567 => ?_) (fun h567 => ?_)
      · have h567c : ¬ z565 = 0 := by omega
        clear h567 hz566
        refine X.cut [] (zi236 95) rfl ?_
        exact K95   (Eq.trans hR (Eq.trans (if_pos h561c) (Eq.trans (zn_eq hFv564.symm) (Eq.trans (zn_eq ez565) (Eq.trans (if_neg h567c) rfl)))))
      · have h567c : z565 = 0 := by omega
        clear h567 hz566
        refine X.iload 64 (zi236 62) rfl rfl rfl ?_
        refine X.ifle 96 67 (zi236 64) rfl rfl rfl (fun h568 => ?_) (fun h568 => ?_)
        · refine X.lload_n 97 (zi236 96) rfl rfl rfl ?_
          refine X.aload_n 98 (zi236 97) rfl rfl rfl ?_
          refine X.iload 100 (zi236 98) rfl rfl rfl ?_
          refine X.iconst 101 (zi236 100) rfl rfl (by decide) ?_
          refine X.callv 104 [zi ((y1 - 1) - y4), zi 1] [zl y2] [(0, zr 4 44), (1, zi ((y1 - 1) - y4)), (2, zi 1)] (zi236 101) rfl (by decide) rfl rfl (by omega) rfl rfl (by decide) rfl t234 (Nat.le_of_ble_eq_true rfl) (Nat.le_of_ble_eq_true rfl) rfl ?_
          refine c234_2 (B := B)  ((y1 - 1) - y4) 1 (by omega) (hJ.up (by omega)) (by omega) (by omega) (by omega) (fun v571 hv571 hFv571 => ?_)
          show X (EE s) d 236 104 [(0, zr 4 44), (1, zi y1), (2, zl y2), (4, zi y4), (5, zi ((y1 - 1) - y4))] [zl v571, zl y2] m _
          refine X.laddW 105 (zi236 104) rfl rfl (fun z572 ez572 hz572 => ?_)
          refine X.lstore_n 106 [(0, zr 4 44), (1, zi y1), (2, zl z572), (4, zi y4), (5, zi ((y1 - 1) - y4))] (zi236 105) rfl rfl rfl ?_
          refine X.iinc 109 [(0, zr 4 44), (1, zi y1), (2, zl z572), (4, zi (y4 + 1)), (5, zi ((y1 - 1) - y4))] (zi236 106) rfl rfl rfl (by omega) rfl ?_
          refine X.goto 24 (zi236 109) rfl rfl ?_
          refine X.cut [(0, zr 4 44), (1, zi y1), (2, zl z572), (4, zi (y4 + 1))] (zi236 24) rfl ?_
          exact ih z572 (y4 + 1) (by omega) (by omega) (Eq.trans hR (Eq.trans (if_pos h561c) (Eq.trans (zn_eq hFv564.symm) (Eq.trans (zn_eq ez565) (Eq.trans (if_pos h567c) (Eq.trans (if_pos h568) (Eq.trans (zn_eq hFv571.symm) (Eq.trans (zn_eq ez572) rfl))))))))
        · refine X.aload_n 68 (zi236 67) rfl rfl rfl ?_
          refine X.iload 70 (zi236 68) rfl rfl rfl ?_
          refine X.iconst 71 (zi236 70) rfl rfl (by decide) ?_
          refine X.iadd 72 (zi236 71) rfl rfl (by omega) ?_
          refine X.iconst 73 (zi236 72) rfl rfl (by decide) ?_
          refine X.callv 76 [zi (((y1 - 1) - y4) + 1), zi 0] [] [(0, zr 4 44), (1, zi (((y1 - 1) - y4) + 1)), (2, zi 0)] (zi236 73) rfl (by decide) rfl rfl (by omega) rfl rfl (by decide) rfl t234 (Nat.le_of_ble_eq_true rfl) (Nat.le_of_ble_eq_true rfl) rfl ?_
          refine c234_3 (B := B)  (((y1 - 1) - y4) + 1) 0 (by omega) (hJ.up (by omega)) (by omega) (by omega) (by omega) (fun v575 hv575 hFv575 => ?_)
          show X (EE s) d 236 76 [(0, zr 4 44), (1, zi y1), (2, zl y2), (4, zi y4), (5, zi ((y1 - 1) - y4))] [zl v575] m _
          refine X.aload_n 77 (zi236 76) rfl rfl rfl ?_
          refine X.getF 80 (zi236 77) rfl rfl (by decide) rfl rfl ?_
          refine X.bipush 82 (zi236 80) rfl rfl (by decide) ?_
          refine X.lald 83 (zi236 82) rfl rfl (by decide) rfl (by omega) ?_
          have h576 := r45_8 hJ 4
          refine X.lsubW 84 (zi236 83) rfl rfl (fun z577 ez577 hz577 => ?_)
          refine X.aload_n 85 (zi236 84) rfl rfl rfl ?_
          refine X.iload 87 (zi236 85) rfl rfl rfl ?_
          refine X.iconst 88 (zi236 87) rfl rfl (by decide) ?_
          refine X.callv 91 [zi ((y1 - 1) - y4), zi 0] [zl z577] [(0, zr 4 44), (1, zi ((y1 - 1) - y4)), (2, zi 0)] (zi236 88) rfl (by decide) rfl rfl (by omega) rfl rfl (by decide) rfl t234 (Nat.le_of_ble_eq_true rfl) (Nat.le_of_ble_eq_true rfl) rfl ?_
          refine c234_4 (B := B)  ((y1 - 1) - y4) 0 (by omega) (hJ.up (by omega)) (by omega) (by omega) (by omega) (fun v580 hv580 hFv580 => ?_)
          show X (EE s) d 236 91 [(0, zr 4 44), (1, zi y1), (2, zl y2), (4, zi y4), (5, zi ((y1 - 1) - y4))] [zl v580, zl z577] m _
          refine X.lcmp 92 (zi236 91) rfl rfl (fun z581 hz581 => ?_)
          refine X.ifeq 96 95 (zi236 92) rfl rfl rfl (fun h582 => ?_) (fun h582 => ?_)
          · have h582c : z577 = v580 := by omega
            clear h582 hz581
            refine X.lload_n 97 (zi236 96) rfl rfl rfl ?_
            refine X.aload_n 98 (zi236 97) rfl rfl rfl ?_
            refine X.iload 100 (zi236 98) rfl rfl rfl ?_
            refine X.iconst 101 (zi236 100) rfl rfl (by decide) ?_
            refine X.callv 104 [zi ((y1 - 1) - y4), zi 1] [zl y2] [(0, zr 4 44), (1, zi ((y1 - 1) - y4)), (2, zi 1)] (zi236 101) rfl (by decide) rfl rfl (by omega) rfl rfl (by decide) rfl t234 (Nat.le_of_ble_eq_true rfl) (Nat.le_of_ble_eq_true rfl) rfl ?_
            refine c234_5 (B := B)  ((y1 - 1) - y4) 1 (by omega) (hJ.up (by omega)) (by omega) (by omega) (by omega) (fun v585 hv585 hFv585 => ?_)
            show X (EE s) d 236 104 [(0, zr 4 44), (1, zi y1), (2, zl y2), (4, zi y4), (5, zi ((y1 - 1) - y4))] [zl v585, zl y2] m _
            refine X.laddW 105 (zi236 104) rfl rfl (fun z586 ez586 hz586 => ?_)
            refine X.lstore_n 106 [(0, zr 4 44), (1, zi y1), (2, zl z586), (4, zi y4), (5, zi ((y1 - 1) - y4))] (zi236 105) rfl rfl rfl ?_
            refine X.iinc 109 [(0, zr 4 44), (1, zi y1), (2, zl z586), (4, zi (y4 + 1)), (5, zi ((y1 - 1) - y4))] (zi236 106) rfl rfl rfl (by omega) rfl ?_
            refine X.goto 24 (zi236 109) rfl rfl ?_
            refine X.cut [(0, zr 4 44), (1, zi y1), (2, zl z586), (4, zi (y4 + 1))] (zi236 24) rfl ?_
            exact ih z586 (y4 + 1) (by omega) (by omega) (Eq.trans hR (Eq.trans (if_pos h561c) (Eq.trans (zn_eq hFv564.symm) (Eq.trans (zn_eq ez565) (Eq.trans (if_pos h567c) (Eq.trans (if_neg h568) (Eq.trans (zn_eq hFv575.symm) (Eq.trans (zn_eq ez577) (Eq.trans (zn_eq hFv580.symm) (Eq.trans (if_pos h582c) (Eq.trans (zn_eq hFv585.symm) (Eq.trans (zn_eq ez586) rfl))))))))))))
          · have h582c : ¬ z577 = v580 := by omega
            clear h582 hz581
            refine X.cut [] (zi236 95) rfl ?_
            exact K95   (Eq.trans hR (Eq.trans (if_pos h561c) (Eq.trans (zn_eq hFv564.symm) (Eq.trans (zn_eq ez565) (Eq.trans (if_pos h567c) (Eq.trans (if_neg h568) (Eq.trans (zn_eq hFv575.symm) (Eq.trans (zn_eq ez577) (Eq.trans (zn_eq hFv580.symm) (Eq.trans (if_neg h582c) rfl))))))))))
-- WorkMeterModel.demands
noncomputable def f236_1 (m : zM) : zM :=
  zn (f235_1 m) fun v503 =>
  if v503 < (m 4 45 9) then
  (m)
  else
  (fl236_24_1 (m) (fun y511 =>
  zs (z_upd m 4 45 19 y511) fun m516 =>
  zs (z_upd m516 4 45 20 (m516 4 45 0)) fun m519 =>
  zn (f217_1 ((m519 4 45 0) - 1) m519) fun v524 =>
  if y511 ≤ (m519 4 45 (32 + v524)) then
  (m519)
  else
  (zs (z_upd m519 4 45 (32 + v524) y511) fun m527 =>
  zs (z_upd m527 4 45 (36 + v524) (m527 4 45 0)) fun m530 =>
  m530)) v503 m (zfu 7) 0 0)
end
section
-- WorkMeterModel.demands
theorem c236_1 {s : Nat × (Nat → Int32)} {S : zS} {m0 m : zM} {B : Int} {d : Nat} {Q : Option zV → zM → Prop} (hd : 16 ≤ d) (hJ : J S m0 B m) (hB : B + 0 ≤ 1000000000) (hf28 : ¬ S.1 28) (hg4 : ¬ S.2.1 4) (hQ : ∀ m', f236_1 m = m' → J S m0 (B) m' → Q none m') : X (EE s) d 236 0 [(0, zr 4 44)] [] m Q := by
  refine X.aload_n 1 (zi236 0) rfl rfl rfl ?_
  refine X.callv 4 [] [] [(0, zr 4 44)] (zi236 1) rfl (by decide) rfl rfl (by omega) rfl rfl (by decide) rfl t235 (Nat.le_of_ble_eq_true rfl) (Nat.le_of_ble_eq_true rfl) rfl ?_
  refine c235_1 (B := B)   (by omega) (hJ.up (by omega)) (by omega)  (fun v503 hv503 hFv503 => ?_)
  show X (EE s) d 236 4 [(0, zr 4 44)] [zi v503] m _
  refine X.istore_n 5 [(0, zr 4 44), (1, zi v503)] (zi236 4) rfl rfl rfl ?_
  refine X.iload_n 6 (zi236 5) rfl rfl rfl ?_
  refine X.i2l 7 (zi236 6) rfl rfl ?_
  refine X.aload_n 8 (zi236 7) rfl rfl rfl ?_
  refine X.getF 11 (zi236 8) rfl rfl (by decide) rfl rfl ?_
  refine X.bipush 13 (zi236 11) rfl rfl (by decide) ?_
  refine X.lald 14 (zi236 13) rfl rfl (by decide) rfl (by omega) ?_
  have h504 := r45_9 hJ 4
  refine X.lcmp 15 (zi236 14) rfl rfl (fun z505 hz505 => ?_)
  refine X.ifge 19 18 (zi236 15) rfl rfl rfl (fun h506 => ?_) (fun h506 => ?_)
  · have h506c : ¬ v503 < (m 4 45 9) := by omega
    clear h506 hz505
    refine X.lconst (y := 0) 20 (zi236 19) rfl rfl rfl ?_
    refine X.lstore_n 21 [(0, zr 4 44), (1, zi v503), (2, zl 0)] (zi236 20) rfl rfl rfl ?_
    refine X.iconst 22 (zi236 21) rfl rfl (by decide) ?_
    refine X.istore 24 [(0, zr 4 44), (1, zi v503), (2, zl 0), (4, zi 0)] (zi236 22) rfl rfl rfl ?_
    have hz7 := zfu_eq 7
    refine l236_24_1 (s := s) (m := m) (B := B) (d := d) (R0 := (f236_1 m))  v503  (by omega) (hJ.up (by omega)) (by omega) (by omega) (fun  hR510 => ?_) (fun y511 hby511 hR515 => ?_) (zfu 7) 0 0 (by omega) (by omega) (Eq.trans (zn_eq hFv503.symm) (Eq.trans (if_neg h506c) rfl))
    · refine X.retv (zi236 95) rfl t236 ?_
      exact hQ  m  (Eq.trans hR510 rfl) (hJ.up (by omega)) 
    · refine X.aload_n 113 (zi236 112) rfl rfl rfl ?_
      refine X.getF 116 (zi236 113) rfl rfl (by decide) rfl rfl ?_
      refine X.bipush 118 (zi236 116) rfl rfl (by decide) ?_
      refine X.lload_n 119 (zi236 118) rfl rfl rfl ?_
      refine X.last' 120 (zi236 119) rfl rfl (by decide) rfl (by omega) (fun hrm516 m516 hm516 => ?_)
      have hJ517 := w45_19 hJ hm516 (by omega) hrm516 hf28 hg4
      refine X.aload_n 121 (zi236 120) rfl rfl rfl ?_
      refine X.getF 124 (zi236 121) rfl rfl (by decide) rfl rfl ?_
      refine X.bipush 126 (zi236 124) rfl rfl (by decide) ?_
      refine X.aload_n 127 (zi236 126) rfl rfl rfl ?_
      refine X.getF 130 (zi236 127) rfl rfl (by decide) rfl rfl ?_
      refine X.iconst 131 (zi236 130) rfl rfl (by decide) ?_
      refine X.lald 132 (zi236 131) rfl rfl (by decide) rfl (by omega) ?_
      have h518 := r45_0 hJ517 4
      refine X.last' 133 (zi236 132) rfl rfl (by decide) rfl (by omega) (fun hrm519 m519 hm519 => ?_)
      have hJ520 := w45_19 hJ517 hm519 (by omega) hrm519 hf28 hg4
      refine X.aload_n 134 (zi236 133) rfl rfl rfl ?_
      refine X.aload_n 135 (zi236 134) rfl rfl rfl ?_
      refine X.getF 138 (zi236 135) rfl rfl (by decide) rfl rfl ?_
      refine X.iconst 139 (zi236 138) rfl rfl (by decide) ?_
      refine X.lald 140 (zi236 139) rfl rfl (by decide) rfl (by omega) ?_
      have h521 := r45_0 hJ520 4
      refine X.l2i 141 (zi236 140) rfl rfl (by omega) ?_
      refine X.iconst 142 (zi236 141) rfl rfl (by decide) ?_
      refine X.isub 143 (zi236 142) rfl rfl (by omega) ?_
      refine X.callv 146 [zi ((m519 4 45 0) - 1)] [] [(0, zr 4 44), (1, zi ((m519 4 45 0) - 1))] (zi236 143) rfl (by decide) rfl rfl (by omega) rfl rfl (by decide) rfl t217 (Nat.le_of_ble_eq_true rfl) (Nat.le_of_ble_eq_true rfl) rfl ?_
      refine c217_1 (B := B)  ((m519 4 45 0) - 1) (by omega) (hJ520.up (by omega)) (by omega) (by omega) (fun v524 hv524 hFv524 => ?_)
      show X (EE s) d 236 146 [(0, zr 4 44), (2, zl y511)] [zi v524] m519 _
      refine X.istore 148 [(0, zr 4 44), (2, zl y511), (4, zi v524)] (zi236 146) rfl rfl rfl ?_
      refine X.lload_n 149 (zi236 148) rfl rfl rfl ?_
      refine X.aload_n 150 (zi236 149) rfl rfl rfl ?_
      refine X.getF 153 (zi236 150) rfl rfl (by decide) rfl rfl ?_
      refine X.bipush 155 (zi236 153) rfl rfl (by decide) ?_
      refine X.iload 157 (zi236 155) rfl rfl rfl ?_
      refine X.iadd 158 (zi236 157) rfl rfl (by omega) ?_
      refine X.lald 159 (zi236 158) rfl rfl (by decide) rfl (by omega) ?_
      refine X.lcmp 160 (zi236 159) rfl rfl (fun z525 hz525 => ?_)
      refine X.ifgt 164 163 (zi236 160) rfl rfl rfl (fun h526 => ?_) (fun h526 => ?_)
      · have h526c : ¬ y511 ≤ (m519 4 45 (32 + v524)) := by omega
        clear h526 hz525
        refine X.aload_n 165 (zi236 164) rfl rfl rfl ?_
        refine X.getF 168 (zi236 165) rfl rfl (by decide) rfl rfl ?_
        refine X.bipush 170 (zi236 168) rfl rfl (by decide) ?_
        refine X.iload 172 (zi236 170) rfl rfl rfl ?_
        refine X.iadd 173 (zi236 172) rfl rfl (by omega) ?_
        refine X.lload_n 174 (zi236 173) rfl rfl rfl ?_
        refine X.last' 175 (zi236 174) rfl rfl (by decide) rfl (by omega) (fun hrm527 m527 hm527 => ?_)
        have hJ528 := w45_32 hJ520 hm527 (by omega) hrm527 hf28 hg4
        refine X.aload_n 176 (zi236 175) rfl rfl rfl ?_
        refine X.getF 179 (zi236 176) rfl rfl (by decide) rfl rfl ?_
        refine X.bipush 181 (zi236 179) rfl rfl (by decide) ?_
        refine X.iload 183 (zi236 181) rfl rfl rfl ?_
        refine X.iadd 184 (zi236 183) rfl rfl (by omega) ?_
        refine X.aload_n 185 (zi236 184) rfl rfl rfl ?_
        refine X.getF 188 (zi236 185) rfl rfl (by decide) rfl rfl ?_
        refine X.iconst 189 (zi236 188) rfl rfl (by decide) ?_
        refine X.lald 190 (zi236 189) rfl rfl (by decide) rfl (by omega) ?_
        have h529 := r45_0 hJ528 4
        refine X.last' 191 (zi236 190) rfl rfl (by decide) rfl (by omega) (fun hrm530 m530 hm530 => ?_)
        have hJ531 := w45_32 hJ528 hm530 (by omega) hrm530 hf28 hg4
        refine X.retv (zi236 191) rfl t236 ?_
        exact hQ  m530  (Eq.trans hR515 (Eq.trans (zs_eq hm516) (Eq.trans (zs_eq hm519) (Eq.trans (zn_eq hFv524.symm) (Eq.trans (if_neg h526c) (Eq.trans (zs_eq hm527) (Eq.trans (zs_eq hm530) rfl))))))) (hJ531.up (by omega)) 
      · have h526c : y511 ≤ (m519 4 45 (32 + v524)) := by omega
        clear h526 hz525
        refine X.retv (zi236 163) rfl t236 ?_
        exact hQ  m519  (Eq.trans hR515 (Eq.trans (zs_eq hm516) (Eq.trans (zs_eq hm519) (Eq.trans (zn_eq hFv524.symm) (Eq.trans (if_pos h526c) rfl))))) (hJ520.up (by omega)) 
  · have h506c : v503 < (m 4 45 9) := by omega
    clear h506 hz505
    refine X.retv (zi236 18) rfl t236 ?_
    exact hQ  m  (Eq.trans (zn_eq hFv503.symm) (Eq.trans (if_pos h506c) rfl)) (hJ.up (by omega)) 
-- WorkMeterModel.line
theorem c234_6 {s : Nat × (Nat → Int32)} {S : zS} {m0 m : zM} {B : Int} {d : Nat} {Q : Option zV → zM → Prop} (a1 a2 : Int) (hd : 13 ≤ d) (hJ : J S m0 B m) (hB : B + 0 ≤ 1000000000) (ha1 : 0 ≤ a1 ∧ a1 ≤ 0) (ha2 : 1 ≤ a2 ∧ a2 ≤ 4) (hQ : ∀ (v : Int), (True) → f234_1 a1 a2 m = v → Q (some (zl v)) m) : X (EE s) d 234 0 [(0, zr 4 44), (1, zi a1), (2, zi a2)] [] m Q := by
  refine X.aload_n 1 (zi234 0) rfl rfl rfl ?_
  refine X.getF 4 (zi234 1) rfl rfl (by decide) rfl rfl ?_
  refine X.sipush 7 (zi234 4) rfl rfl (by decide) ?_
  refine X.bipush 9 (zi234 7) rfl rfl (by decide) ?_
  refine X.iload_n 10 (zi234 9) rfl rfl rfl ?_
  refine X.imul 11 (zi234 10) rfl rfl (by omega) ?_
  refine X.iadd 12 (zi234 11) rfl rfl (by omega) ?_
  refine X.iload_n 13 (zi234 12) rfl rfl rfl ?_
  refine X.iadd 14 (zi234 13) rfl rfl (by omega) ?_
  refine X.lald 15 (zi234 14) rfl rfl (by decide) rfl (by omega) ?_
  refine X.retl (zi234 15) rfl t234 ?_
  exact hQ (m 4 45 ((788 + (6 * a1)) + a2)) (by first | trivial | omega) rfl 
noncomputable def fl232_112_1_b (self : Int → zM → zM) (k147 : zM → zM) (y1 y3 : Int) (y5 : Int) (m : zM) : zM :=
  if 4 ≤ y5 then
  (k147 m)
  else
  (zn (f234_1 0 (1 + y5) m) fun v511 =>
  zn (w64 ((m 4 45 (1607 + y5)) + v511)) fun z512 =>
  zs (z_upd m 4 45 (1607 + y5) z512) fun m513 =>
  self (y5 + 1) m513)
noncomputable def fl232_112_1 (k147 : zM → zM) (y1 y3 : Int) : Nat → Int → zM → zM
  | 0 => fun y5 m => m
  | n + 1 => fl232_112_1_b (fl232_112_1 k147 y1 y3 n) k147 y1 y3
theorem l232_112_1 {s : Nat × (Nat → Int32)} {S : zS} {m0 : zM} {d : Nat} {Q : Option zV → zM → Prop} {R0 : zM} {k147 : zM → zM} (y1 y3 : Int) (BE : Int) (hE : BE ≤ 1000000000) (hd : 14 ≤ d) (hy1 : 0 ≤ y1 ∧ y1 ≤ 64) (hf27 : ¬ S.1 27) (hg4 : ¬ S.2.1 4)
    (K147 : ∀ (m' : zM) (B' : Int), J S m0 B' m' → B' ≤ BE → R0 = k147 m' → X (EE s) d 232 147 [(0, zr 4 44), (1, zl y1), (3, zl y3)] [] m' Q) :
    ∀ (n : Nat) (y5 : Int) (m : zM) (B : Int), J S m0 B m → B + 0 * (n : Int) ≤ BE → (0 ≤ y5 ∧ y5 ≤ 4) → 4 - y5 < (n : Int) → R0 = fl232_112_1 k147 y1 y3 n y5 m → X (EE s) d 232 112 [(0, zr 4 44), (1, zl y1), (3, zl y3), (5, zi y5)] [] m Q := by
  intro n
  induction n with
  | zero =>
    intro y5 m B hJ hB hy5 hn hR
    exfalso
    omega
  | succ n ih =>
    intro y5 m B hJ hB hy5 hn hR
    replace hR : R0 = fl232_112_1_b (fl232_112_1 k147 y1 y3 n) k147 y1 y3 y5 m := hR
    refine X.iload 114 (zi232 112) rfl rfl rfl ?_
    refine X.iconst 115 (zi232 114) rfl rfl (by decide) ?_
    refine X.icmpge 147 118 (zi232 115) rfl rfl rfl (fun h508 => ?_) (fun h508 => ?_)
    · refine X.cut [(0, zr 4 44), (1, zl y1), (3, zl y3)] (zi232 147) rfl ?_
      exact K147  m (B) (hJ.up (by omega)) (by omega)  (Eq.trans hR (Eq.trans (if_pos h508) rfl))
    · refine X.aload_n 119 (zi232 118) rfl rfl rfl ?_
      refine X.getF 122 (zi232 119) rfl rfl (by decide) rfl rfl ?_
      refine X.sipush 125 (zi232 122) rfl rfl (by decide) ?_
      refine X.iload 127 (zi232 125) rfl rfl rfl ?_
      refine X.iadd 128 (zi232 127) rfl rfl (by omega) ?_
      refine X.dup2 129 (zi232 128) rfl rfl ?_
      refine X.lald 130 (zi232 129) rfl rfl (by decide) rfl (by omega) ?_
      refine X.aload_n 131 (zi232 130) rfl rfl rfl ?_
      refine X.iconst 132 (zi232 131) rfl rfl (by decide) ?_
      refine X.iconst 133 (zi232 132) rfl rfl (by decide) ?_
      refine X.iload 135 (zi232 133) rfl rfl rfl ?_
      refine X.iadd 136 (zi232 135) rfl rfl (by omega) ?_
      refine X.callv 139 [zi 0, zi (1 + y5)] [zl (m 4 45 (1607 + y5)), zi (1607 + y5), zr 4 45] [(0, zr 4 44), (1, zi 0), (2, zi (1 + y5))] (zi232 136) rfl (by decide) rfl rfl (by omega) rfl rfl (by decide) rfl t234 (Nat.le_of_ble_eq_true rfl) (Nat.le_of_ble_eq_true rfl) rfl ?_
      refine c234_6 (B := B)  0 (1 + y5) (by omega) (hJ.up (by omega)) (by omega) (by omega) (by omega) (fun v511 hv511 hFv511 => ?_)
      show X (EE s) d 232 139 [(0, zr 4 44), (1, zl y1), (3, zl y3), (5, zi y5)] [zl v511, zl (m 4 45 (1607 + y5)), zi (1607 + y5), zr 4 45] m _
      refine X.laddW 140 (zi232 139) rfl rfl (fun z512 ez512 hz512 => ?_)
      refine X.last' 141 (zi232 140) rfl rfl (by decide) rfl (by omega) (fun hrm513 m513 hm513 => ?_)
      have hJ514 := w45_1607 hJ hm513 (by omega) hrm513 hf27 hg4
      refine X.iinc 144 [(0, zr 4 44), (1, zl y1), (3, zl y3), (5, zi (y5 + 1))] (zi232 141) rfl rfl rfl (by omega) rfl ?_
      refine X.goto 112 (zi232 144) rfl rfl ?_
      exact ih (y5 + 1) m513 (B) (hJ514.up (by omega)) (by omega) (by omega) (by omega) (Eq.trans hR (Eq.trans (if_neg h508) (Eq.trans (zn_eq hFv511.symm) (Eq.trans (zn_eq ez512) (Eq.trans (zs_eq hm513) rfl)))))
noncomputable def fl232_151_1_b (self : Int → zM → zM) (k190 : zM → zM) (y1 y3 : Int) (y5 : Int) (m : zM) : zM :=
  if 384 ≤ y5 then
  (k190 m)
  else
  (zs (z_upd m 4 45 ((788 + y5) - 6) (m 4 45 (788 + y5))) fun m505 =>
  self (y5 + 1) m505)
noncomputable def fl232_151_1 (k190 : zM → zM) (y1 y3 : Int) : Nat → Int → zM → zM
  | 0 => fun y5 m => m
  | n + 1 => fl232_151_1_b (fl232_151_1 k190 y1 y3 n) k190 y1 y3
theorem l232_151_1 {s : Nat × (Nat → Int32)} {S : zS} {m0 : zM} {d : Nat} {Q : Option zV → zM → Prop} {R0 : zM} {k190 : zM → zM} (y1 y3 : Int) (BE : Int) (hE : BE ≤ 1000000000) (hd : 13 ≤ d) (hy1 : 0 ≤ y1 ∧ y1 ≤ 64) (hf27 : ¬ S.1 27) (hg4 : ¬ S.2.1 4)
    (K190 : ∀ (m' : zM) (B' : Int), J S m0 B' m' → B' ≤ BE → R0 = k190 m' → X (EE s) d 232 190 [(0, zr 4 44), (1, zl y1), (3, zl y3)] [] m' Q) :
    ∀ (n : Nat) (y5 : Int) (m : zM) (B : Int), J S m0 B m → B + 0 * (n : Int) ≤ BE → (6 ≤ y5 ∧ y5 ≤ 384) → 384 - y5 < (n : Int) → R0 = fl232_151_1 k190 y1 y3 n y5 m → X (EE s) d 232 151 [(0, zr 4 44), (1, zl y1), (3, zl y3), (5, zi y5)] [] m Q := by
  intro n
  induction n with
  | zero =>
    intro y5 m B hJ hB hy5 hn hR
    exfalso
    omega
  | succ n ih =>
    intro y5 m B hJ hB hy5 hn hR
    replace hR : R0 = fl232_151_1_b (fl232_151_1 k190 y1 y3 n) k190 y1 y3 y5 m := hR
    refine X.iload 153 (zi232 151) rfl rfl rfl ?_
    refine X.sipush 156 (zi232 153) rfl rfl (by decide) ?_
    refine X.icmpge 190 159 (zi232 156) rfl rfl rfl (fun h504 => ?_) (fun h504 => ?_)
    · refine X.cut [(0, zr 4 44), (1, zl y1), (3, zl y3)] (zi232 190) rfl ?_
      exact K190  m (B) (hJ.up (by omega)) (by omega)  (Eq.trans hR (Eq.trans (if_pos h504) rfl))
    · refine X.aload_n 160 (zi232 159) rfl rfl rfl ?_
      refine X.getF 163 (zi232 160) rfl rfl (by decide) rfl rfl ?_
      refine X.sipush 166 (zi232 163) rfl rfl (by decide) ?_
      refine X.iload 168 (zi232 166) rfl rfl rfl ?_
      refine X.iadd 169 (zi232 168) rfl rfl (by omega) ?_
      refine X.bipush 171 (zi232 169) rfl rfl (by decide) ?_
      refine X.isub 172 (zi232 171) rfl rfl (by omega) ?_
      refine X.aload_n 173 (zi232 172) rfl rfl rfl ?_
      refine X.getF 176 (zi232 173) rfl rfl (by decide) rfl rfl ?_
      refine X.sipush 179 (zi232 176) rfl rfl (by decide) ?_
      refine X.iload 181 (zi232 179) rfl rfl rfl ?_
      refine X.iadd 182 (zi232 181) rfl rfl (by omega) ?_
      refine X.lald 183 (zi232 182) rfl rfl (by decide) rfl (by omega) ?_
      refine X.last' 184 (zi232 183) rfl rfl (by decide) rfl (by omega) (fun hrm505 m505 hm505 => ?_)
      have hJ506 := w45_788 hJ hm505 (by omega) hrm505 hf27 hg4
      refine X.iinc 187 [(0, zr 4 44), (1, zl y1), (3, zl y3), (5, zi (y5 + 1))] (zi232 184) rfl rfl rfl (by omega) rfl ?_
      refine X.goto 151 (zi232 187) rfl rfl ?_
      exact ih (y5 + 1) m505 (B) (hJ506.up (by omega)) (by omega) (by omega) (by omega) (Eq.trans hR (Eq.trans (if_neg h504) (Eq.trans (zs_eq hm505) rfl)))
-- WorkMeterModel.ends
noncomputable def f232_1 (a1 : Int) (m : zM) : zM :=
  zn (w64 ((m 4 45 25) + (m 4 45 26))) fun z501 =>
  if z501 = 0 then
  (zs (f233_1 m) fun m618 =>
  m618)
  else
  (zn (if (m 4 45 26) ≤ 0 then
  (0)
  else
  (32)) fun v506 =>
  zn (zorL (m 4 45 27) v506) fun z511 =>
  zn (zorL z511 a1) fun z512 =>
  zn (if (m 4 45 21) = 1 then
  (128)
  else
  (zn (((m 4 45 0) % (m 4 45 8))) fun z517 =>
  if z517 = 0 then
  (0)
  else
  (128))) fun v520 =>
  zn (zorL z512 v520) fun z525 =>
  if (m 4 45 17) < 64 then
  (zn (f235_1 m) fun v531 =>
  zn (if 64 ≤ v531 then
  (63)
  else
  (zn (f235_1 m) fun v535 =>
  v535)) fun v536 =>
  zs (z_upd m 4 45 17 ((m 4 45 17) + 1)) fun m541 =>
  zs (z_upd m541 4 45 (788 + (6 * v536)) (m541 4 45 0)) fun m544 =>
  zs (z_upd m544 4 45 ((788 + (6 * v536)) + 1) (m544 4 45 22)) fun m546 =>
  zs (z_upd m546 4 45 ((788 + (6 * v536)) + 2) (m546 4 45 23)) fun m548 =>
  zs (z_upd m548 4 45 ((788 + (6 * v536)) + 3) (m548 4 45 24)) fun m550 =>
  zs (z_upd m550 4 45 ((788 + (6 * v536)) + 4) (m550 4 45 25)) fun m552 =>
  zs (z_upd m552 4 45 ((788 + (6 * v536)) + 5) z525) fun m554 =>
  zs (f233_1 m554) fun m556 =>
  zs (if a1 = 0 then
  (zs (f236_1 m556) fun m561 =>
  m561)
  else
  (m556)) fun m565 =>
  m565)
  else
  (fl232_112_1 (fun m569 =>
  fl232_151_1 (fun m573 =>
  zn (f235_1 m573) fun v579 =>
  zn (if 64 ≤ v579 then
  (63)
  else
  (zn (f235_1 m573) fun v583 =>
  v583)) fun v584 =>
  zs (z_upd m573 4 45 17 ((m573 4 45 17) + 1)) fun m590 =>
  zs (z_upd m590 4 45 (788 + (6 * v584)) (m590 4 45 0)) fun m593 =>
  zs (z_upd m593 4 45 ((788 + (6 * v584)) + 1) (m593 4 45 22)) fun m595 =>
  zs (z_upd m595 4 45 ((788 + (6 * v584)) + 2) (m595 4 45 23)) fun m597 =>
  zs (z_upd m597 4 45 ((788 + (6 * v584)) + 3) (m597 4 45 24)) fun m599 =>
  zs (z_upd m599 4 45 ((788 + (6 * v584)) + 4) (m599 4 45 25)) fun m601 =>
  zs (z_upd m601 4 45 ((788 + (6 * v584)) + 5) z525) fun m603 =>
  zs (f233_1 m603) fun m605 =>
  zs (if a1 = 0 then
  (zs (f236_1 m605) fun m610 =>
  m610)
  else
  (m605)) fun m614 =>
  m614) a1 z525 (zfu 379) 6 m569) a1 z525 (zfu 5) 0 m))
-- WorkMeterModel.ends
theorem c232_1 {s : Nat × (Nat → Int32)} {S : zS} {m0 m : zM} {B : Int} {d : Nat} {Q : Option zV → zM → Prop} (a1 : Int) (hd : 17 ≤ d) (hJ : J S m0 B m) (hB : B + 1 ≤ 1000000000) (ha1 : 0 ≤ a1 ∧ a1 ≤ 64) (hf27 : ¬ S.1 27) (hf28 : ¬ S.1 28) (hg4 : ¬ S.2.1 4) (hQ : ∀ m', f232_1 a1 m = m' → J S m0 (B + 1) m' → Q none m') : X (EE s) d 232 0 [(0, zr 4 44), (1, zl a1)] [] m Q := by
  refine X.aload_n 1 (zi232 0) rfl rfl rfl ?_
  refine X.getF 4 (zi232 1) rfl rfl (by decide) rfl rfl ?_
  refine X.bipush 6 (zi232 4) rfl rfl (by decide) ?_
  refine X.lald 7 (zi232 6) rfl rfl (by decide) rfl (by omega) ?_
  refine X.aload_n 8 (zi232 7) rfl rfl rfl ?_
  refine X.getF 11 (zi232 8) rfl rfl (by decide) rfl rfl ?_
  refine X.bipush 13 (zi232 11) rfl rfl (by decide) ?_
  refine X.lald 14 (zi232 13) rfl rfl (by decide) rfl (by omega) ?_
  refine X.laddW 15 (zi232 14) rfl rfl (fun z501 ez501 hz501 => ?_)
  refine X.lconst (y := 0) 16 (zi232 15) rfl rfl rfl ?_
  refine X.lcmp 17 (zi232 16) rfl rfl (fun z502 hz502 => ?_)
  refine X.ifne 25 20 (zi232 17) rfl rfl rfl (fun h503 => ?_) (fun h503 => ?_)
  · have h503c : ¬ z501 = 0 := by omega
    clear h503 hz502
    refine X.aload_n 26 (zi232 25) rfl rfl rfl ?_
    refine X.getF 29 (zi232 26) rfl rfl (by decide) rfl rfl ?_
    refine X.bipush 31 (zi232 29) rfl rfl (by decide) ?_
    refine X.lald 32 (zi232 31) rfl rfl (by decide) rfl (by omega) ?_
    refine X.aload_n 33 (zi232 32) rfl rfl rfl ?_
    refine X.getF 36 (zi232 33) rfl rfl (by decide) rfl rfl ?_
    refine X.bipush 38 (zi232 36) rfl rfl (by decide) ?_
    refine X.lald 39 (zi232 38) rfl rfl (by decide) rfl (by omega) ?_
    refine X.lconst (y := 0) 40 (zi232 39) rfl rfl rfl ?_
    refine X.lcmp 41 (zi232 40) rfl rfl (fun z504 hz504 => ?_)
    have hK509 : ∀ (v : Int) , (0 ≤ v ∧ v ≤ 32) → (if (m 4 45 26) ≤ 0 then
        (0)
        else
        (32)) = v → X (EE s) d 232 50 [(0, zr 4 44), (1, zl a1)] [zi v, zl (m 4 45 27)] m Q := by
      intro v506 hv506 hT510
      refine X.i2l 51 (zi232 50) rfl rfl ?_
      refine X.llE 52 .lor (fun x y => x ||| y) (zi232 51) rfl rfl rfl (fun _ _ => rfl) (fun z511 ez511 hz511 => ?_)
      refine X.lload_n 53 (zi232 52) rfl rfl rfl ?_
      refine X.llE 54 .lor (fun x y => x ||| y) (zi232 53) rfl rfl rfl (fun _ _ => rfl) (fun z512 ez512 hz512 => ?_)
      refine X.aload_n 55 (zi232 54) rfl rfl rfl ?_
      refine X.getF 58 (zi232 55) rfl rfl (by decide) rfl rfl ?_
      refine X.bipush 60 (zi232 58) rfl rfl (by decide) ?_
      refine X.lald 61 (zi232 60) rfl rfl (by decide) rfl (by omega) ?_
      refine X.lconst (y := 1) 62 (zi232 61) rfl rfl rfl ?_
      refine X.lcmp 63 (zi232 62) rfl rfl (fun z513 hz513 => ?_)
      have hK523 : ∀ (v : Int) , (0 ≤ v ∧ v ≤ 128) → (if (m 4 45 21) = 1 then
          (128)
          else
          (zn (((m 4 45 0) % (m 4 45 8))) fun z517 =>
          if z517 = 0 then
          (0)
          else
          (128))) = v → X (EE s) d 232 92 [(0, zr 4 44), (1, zl a1)] [zi v, zl z512] m Q := by
        intro v520 hv520 hT524
        refine X.i2l 93 (zi232 92) rfl rfl ?_
        refine X.llE 94 .lor (fun x y => x ||| y) (zi232 93) rfl rfl rfl (fun _ _ => rfl) (fun z525 ez525 hz525 => ?_)
        refine X.lstore_n 95 [(0, zr 4 44), (1, zl a1), (3, zl z525)] (zi232 94) rfl rfl rfl ?_
        refine X.aload_n 96 (zi232 95) rfl rfl rfl ?_
        refine X.getF 99 (zi232 96) rfl rfl (by decide) rfl rfl ?_
        refine X.bipush 101 (zi232 99) rfl rfl (by decide) ?_
        refine X.lald 102 (zi232 101) rfl rfl (by decide) rfl (by omega) ?_
        have h526 := r45_17 hJ 4
        refine X.ldc2 105 (zi232 102) rfl rfl (by decide) ?_
        refine X.lcmp 106 (zi232 105) rfl rfl (fun z527 hz527 => ?_)
        refine X.iflt 190 109 (zi232 106) rfl rfl rfl (fun h528 => ?_) (fun h528 => ?_)
        · have h528c : (m 4 45 17) < 64 := by omega
          clear h528 hz527
          refine X.sipush 193 (zi232 190) rfl rfl (by decide) ?_
          refine X.bipush 195 (zi232 193) rfl rfl (by decide) ?_
          refine X.aload_n 196 (zi232 195) rfl rfl rfl ?_
          refine X.callv 199 [] [zi 6, zi 788] [(0, zr 4 44)] (zi232 196) rfl (by decide) rfl rfl (by omega) rfl rfl (by decide) rfl t235 (Nat.le_of_ble_eq_true rfl) (Nat.le_of_ble_eq_true rfl) rfl ?_
          refine c235_1 (B := B)   (by omega) (hJ.up (by omega)) (by omega)  (fun v531 hv531 hFv531 => ?_)
          show X (EE s) d 232 199 [(0, zr 4 44), (1, zl a1), (3, zl z525)] [zi v531, zi 6, zi 788] m _
          refine X.bipush 201 (zi232 199) rfl rfl (by decide) ?_
          have hK539 : ∀ (v : Int) , (0 ≤ v ∧ v ≤ 63) → (if 64 ≤ v531 then
              (63)
              else
              (zn (f235_1 m) fun v535 =>
              v535)) = v → X (EE s) d 232 213 [(0, zr 4 44), (1, zl a1), (3, zl z525)] [zi v, zi 6, zi 788] m Q := by
            intro v536 hv536 hT540
            refine X.imul 214 (zi232 213) rfl rfl (by omega) ?_
            refine X.iadd 215 (zi232 214) rfl rfl (by omega) ?_
            refine X.istore 217 [(0, zr 4 44), (1, zl a1), (3, zl z525), (5, zi (788 + (6 * v536)))] (zi232 215) rfl rfl rfl ?_
            refine X.aload_n 218 (zi232 217) rfl rfl rfl ?_
            refine X.getF 221 (zi232 218) rfl rfl (by decide) rfl rfl ?_
            refine X.bipush 223 (zi232 221) rfl rfl (by decide) ?_
            refine X.dup2 224 (zi232 223) rfl rfl ?_
            refine X.lald 225 (zi232 224) rfl rfl (by decide) rfl (by omega) ?_
            refine X.lconst (y := 1) 226 (zi232 225) rfl rfl rfl ?_
            refine X.ladd 227 (zi232 226) rfl rfl (by omega) ?_
            refine X.last' 228 (zi232 227) rfl rfl (by decide) rfl (by omega) (fun hrm541 m541 hm541 => ?_)
            have hJ542 := w45_17 (hJ.up (B' := B + 1) (by omega)) hm541 (by omega) hf27 hg4
            refine X.aload_n 229 (zi232 228) rfl rfl rfl ?_
            refine X.getF 232 (zi232 229) rfl rfl (by decide) rfl rfl ?_
            refine X.iload 234 (zi232 232) rfl rfl rfl ?_
            refine X.aload_n 235 (zi232 234) rfl rfl rfl ?_
            refine X.getF 238 (zi232 235) rfl rfl (by decide) rfl rfl ?_
            refine X.iconst 239 (zi232 238) rfl rfl (by decide) ?_
            refine X.lald 240 (zi232 239) rfl rfl (by decide) rfl (by omega) ?_
            have h543 := r45_0 hJ542 4
            refine X.last' 241 (zi232 240) rfl rfl (by decide) rfl (by omega) (fun hrm544 m544 hm544 => ?_)
            have hJ545 := w45_788 hJ542 hm544 (by omega) hrm544 hf27 hg4
            refine X.aload_n 242 (zi232 241) rfl rfl rfl ?_
            refine X.getF 245 (zi232 242) rfl rfl (by decide) rfl rfl ?_
            refine X.iload 247 (zi232 245) rfl rfl rfl ?_
            refine X.iconst 248 (zi232 247) rfl rfl (by decide) ?_
            refine X.iadd 249 (zi232 248) rfl rfl (by omega) ?_
            refine X.aload_n 250 (zi232 249) rfl rfl rfl ?_
            refine X.getF 253 (zi232 250) rfl rfl (by decide) rfl rfl ?_
            refine X.bipush 255 (zi232 253) rfl rfl (by decide) ?_
            refine X.lald 256 (zi232 255) rfl rfl (by decide) rfl (by omega) ?_
            refine X.last' 257 (zi232 256) rfl rfl (by decide) rfl (by omega) (fun hrm546 m546 hm546 => ?_)
            have hJ547 := w45_788 hJ545 hm546 (by omega) hrm546 hf27 hg4
            refine X.aload_n 258 (zi232 257) rfl rfl rfl ?_
            refine X.getF 261 (zi232 258) rfl rfl (by decide) rfl rfl ?_
            refine X.iload 263 (zi232 261) rfl rfl rfl ?_
            refine X.iconst 264 (zi232 263) rfl rfl (by decide) ?_
            refine X.iadd 265 (zi232 264) rfl rfl (by omega) ?_
            refine X.aload_n 266 (zi232 265) rfl rfl rfl ?_
            refine X.getF 269 (zi232 266) rfl rfl (by decide) rfl rfl ?_
            refine X.bipush 271 (zi232 269) rfl rfl (by decide) ?_
            refine X.lald 272 (zi232 271) rfl rfl (by decide) rfl (by omega) ?_
            refine X.last' 273 (zi232 272) rfl rfl (by decide) rfl (by omega) (fun hrm548 m548 hm548 => ?_)
            have hJ549 := w45_788 hJ547 hm548 (by omega) hrm548 hf27 hg4
            refine X.aload_n 274 (zi232 273) rfl rfl rfl ?_
            refine X.getF 277 (zi232 274) rfl rfl (by decide) rfl rfl ?_
            refine X.iload 279 (zi232 277) rfl rfl rfl ?_
            refine X.iconst 280 (zi232 279) rfl rfl (by decide) ?_
            refine X.iadd 281 (zi232 280) rfl rfl (by omega) ?_
            refine X.aload_n 282 (zi232 281) rfl rfl rfl ?_
            refine X.getF 285 (zi232 282) rfl rfl (by decide) rfl rfl ?_
            refine X.bipush 287 (zi232 285) rfl rfl (by decide) ?_
            refine X.lald 288 (zi232 287) rfl rfl (by decide) rfl (by omega) ?_
            refine X.last' 289 (zi232 288) rfl rfl (by decide) rfl (by omega) (fun hrm550 m550 hm550 => ?_)
            have hJ551 := w45_788 hJ549 hm550 (by omega) hrm550 hf27 hg4
            refine X.aload_n 290 (zi232 289) rfl rfl rfl ?_
            refine X.getF 293 (zi232 290) rfl rfl (by decide) rfl rfl ?_
            refine X.iload 295 (zi232 293) rfl rfl rfl ?_
            refine X.iconst 296 (zi232 295) rfl rfl (by decide) ?_
            refine X.iadd 297 (zi232 296) rfl rfl (by omega) ?_
            refine X.aload_n 298 (zi232 297) rfl rfl rfl ?_
            refine X.getF 301 (zi232 298) rfl rfl (by decide) rfl rfl ?_
            refine X.bipush 303 (zi232 301) rfl rfl (by decide) ?_
            refine X.lald 304 (zi232 303) rfl rfl (by decide) rfl (by omega) ?_
            refine X.last' 305 (zi232 304) rfl rfl (by decide) rfl (by omega) (fun hrm552 m552 hm552 => ?_)
            have hJ553 := w45_788 hJ551 hm552 (by omega) hrm552 hf27 hg4
            refine X.aload_n 306 (zi232 305) rfl rfl rfl ?_
            refine X.getF 309 (zi232 306) rfl rfl (by decide) rfl rfl ?_
            refine X.iload 311 (zi232 309) rfl rfl rfl ?_
            refine X.iconst 312 (zi232 311) rfl rfl (by decide) ?_
            refine X.iadd 313 (zi232 312) rfl rfl (by omega) ?_
            refine X.lload_n 314 (zi232 313) rfl rfl rfl ?_
            refine X.last' 315 (zi232 314) rfl rfl (by decide) rfl (by omega) (fun hrm554 m554 hm554 => ?_)
            have hJ555 := w45_788 hJ553 hm554 (by omega) hrm554 hf27 hg4
            refine X.aload_n 316 (zi232 315) rfl rfl rfl ?_
            refine X.callv 319 [] [] [(0, zr 4 44)] (zi232 316) rfl (by decide) rfl rfl (by omega) rfl rfl (by decide) rfl t233 (Nat.le_of_ble_eq_true rfl) (Nat.le_of_ble_eq_true rfl) rfl ?_
            refine c233_1 (B := B + 1)   (by omega) (hJ555.up (by omega)) (by omega)  hf27 hg4 (fun m556 hFv558 hJ557 => ?_)
            show X (EE s) d 232 319 [(0, zr 4 44), (1, zl a1), (3, zl z525), (5, zi (788 + (6 * v536)))] [] m556 _
            refine X.lload_n 320 (zi232 319) rfl rfl rfl ?_
            refine X.lconst (y := 0) 321 (zi232 320) rfl rfl rfl ?_
            refine X.lcmp 322 (zi232 321) rfl rfl (fun z559 hz559 => ?_)
            have hK567 : ∀ (m' : zM), (if a1 = 0 then
                (zs (f236_1 m556) fun m561 =>
                m561)
                else
                (m556)) = m' → J S m0 (B + 1) m' → X (EE s) d 232 329 [] [] m' Q := by
              intro m565 hT568 hJ566
              refine X.retv (zi232 329) rfl t232 ?_
              exact hQ  m565  (Eq.trans (zn_eq ez501) (Eq.trans (if_neg h503c) (Eq.trans (zn_eq hT510.symm) (Eq.trans (zn_eq ez511) (Eq.trans (zn_eq ez512) (Eq.trans (zn_eq hT524.symm) (Eq.trans (zn_eq ez525) (Eq.trans (if_pos h528c) (Eq.trans (zn_eq hFv531.symm) (Eq.trans (zn_eq hT540.symm) (Eq.trans (zs_eq hm541) (Eq.trans (zs_eq hm544) (Eq.trans (zs_eq hm546) (Eq.trans (zs_eq hm548) (Eq.trans (zs_eq hm550) (Eq.trans (zs_eq hm552) (Eq.trans (zs_eq hm554) (Eq.trans (zs_eq hFv558.symm) (Eq.trans (zs_eq hT568.symm) rfl))))))))))))))))))) (hJ566.up (by omega)) 
            refine X.ifne 329 325 (zi232 322) rfl rfl rfl (fun h560 => ?_) (fun h560 => ?_)
            · have h560c : ¬ a1 = 0 := by omega
              clear h560 hz559
              refine X.cut [] (zi232 329) rfl ?_
              exact hK567 m556 (Eq.trans (if_neg h560c) rfl) (hJ557.up (by omega))
            · have h560c : a1 = 0 := by omega
              clear h560 hz559
              refine X.aload_n 326 (zi232 325) rfl rfl rfl ?_
              refine X.callv 329 [] [] [(0, zr 4 44)] (zi232 326) rfl (by decide) rfl rfl (by omega) rfl rfl (by decide) rfl t236 (Nat.le_of_ble_eq_true rfl) (Nat.le_of_ble_eq_true rfl) rfl ?_
              refine c236_1 (B := B + 1)   (by omega) (hJ557.up (by omega)) (by omega)  hf28 hg4 (fun m561 hFv563 hJ562 => ?_)
              show X (EE s) d 232 329 [(0, zr 4 44), (1, zl a1), (3, zl z525), (5, zi (788 + (6 * v536)))] [] m561 _
              refine X.cut [] (zi232 329) rfl ?_
              exact hK567 m561 (Eq.trans (if_pos h560c) (Eq.trans (zs_eq hFv563.symm) rfl)) (hJ562.up (by omega))
          refine X.icmpge 211 204 (zi232 201) rfl rfl rfl (fun h532 => ?_) (fun h532 => ?_)
          · refine X.bipush 213 (zi232 211) rfl rfl (by decide) ?_
            exact hK539 63 (by first | trivial | omega) (Eq.trans (if_pos h532) rfl)
          · refine X.aload_n 205 (zi232 204) rfl rfl rfl ?_
            refine X.callv 208 [] [zi 6, zi 788] [(0, zr 4 44)] (zi232 205) rfl (by decide) rfl rfl (by omega) rfl rfl (by decide) rfl t235 (Nat.le_of_ble_eq_true rfl) (Nat.le_of_ble_eq_true rfl) rfl ?_
            refine c235_1 (B := B)   (by omega) (hJ.up (by omega)) (by omega)  (fun v535 hv535 hFv535 => ?_)
            show X (EE s) d 232 208 [(0, zr 4 44), (1, zl a1), (3, zl z525)] [zi v535, zi 6, zi 788] m _
            refine X.goto 213 (zi232 208) rfl rfl ?_
            exact hK539 v535 (by first | trivial | omega) (Eq.trans (if_neg h532) (Eq.trans (zn_eq hFv535.symm) rfl))
        · have h528c : ¬ (m 4 45 17) < 64 := by omega
          clear h528 hz527
          refine X.iconst 110 (zi232 109) rfl rfl (by decide) ?_
          refine X.istore 112 [(0, zr 4 44), (1, zl a1), (3, zl z525), (5, zi 0)] (zi232 110) rfl rfl rfl ?_
          have hz5 := zfu_eq 5
          refine l232_112_1 (s := s) (d := d) (R0 := (f232_1 a1 m))  a1 z525  (BE := B + 0) (by omega) (by omega) (by omega) hf27 hg4 (fun  m569 B570 hJ571 hBB570 hR572 => ?_) (zfu 5) 0 m (B) (hJ.up (by omega)) (by omega) (by omega) (by omega) (Eq.trans (zn_eq ez501) (Eq.trans (if_neg h503c) (Eq.trans (zn_eq hT510.symm) (Eq.trans (zn_eq ez511) (Eq.trans (zn_eq ez512) (Eq.trans (zn_eq hT524.symm) (Eq.trans (zn_eq ez525) (Eq.trans (if_neg h528c) rfl))))))))
          refine X.bipush 149 (zi232 147) rfl rfl (by decide) ?_
          refine X.istore 151 [(0, zr 4 44), (1, zl a1), (3, zl z525), (5, zi 6)] (zi232 149) rfl rfl rfl ?_
          have hz379 := zfu_eq 379
          refine l232_151_1 (s := s) (d := d)  a1 z525  (BE := B570 + 0) (by omega) (by omega) (by omega) hf27 hg4 (fun  m573 B574 hJ575 hBB574 hR576 => ?_) (zfu 379) 6 m569 (B570) (hJ571.up (by omega)) (by omega) (by omega) (by omega) (Eq.trans hR572 rfl)
          refine X.sipush 193 (zi232 190) rfl rfl (by decide) ?_
          refine X.bipush 195 (zi232 193) rfl rfl (by decide) ?_
          refine X.aload_n 196 (zi232 195) rfl rfl rfl ?_
          refine X.callv 199 [] [zi 6, zi 788] [(0, zr 4 44)] (zi232 196) rfl (by decide) rfl rfl (by omega) rfl rfl (by decide) rfl t235 (Nat.le_of_ble_eq_true rfl) (Nat.le_of_ble_eq_true rfl) rfl ?_
          refine c235_1 (B := B574)   (by omega) (hJ575.up (by omega)) (by omega)  (fun v579 hv579 hFv579 => ?_)
          show X (EE s) d 232 199 [(0, zr 4 44), (1, zl a1), (3, zl z525)] [zi v579, zi 6, zi 788] m573 _
          refine X.bipush 201 (zi232 199) rfl rfl (by decide) ?_
          have hK587 : ∀ (v : Int) , (0 ≤ v ∧ v ≤ 63) → (if 64 ≤ v579 then
              (63)
              else
              (zn (f235_1 m573) fun v583 =>
              v583)) = v → X (EE s) d 232 213 [(0, zr 4 44), (1, zl a1), (3, zl z525)] [zi v, zi 6, zi 788] m573 Q := by
            intro v584 hv584 hT588
            refine X.imul 214 (zi232 213) rfl rfl (by omega) ?_
            refine X.iadd 215 (zi232 214) rfl rfl (by omega) ?_
            refine X.istore 217 [(0, zr 4 44), (1, zl a1), (3, zl z525), (5, zi (788 + (6 * v584)))] (zi232 215) rfl rfl rfl ?_
            refine X.aload_n 218 (zi232 217) rfl rfl rfl ?_
            refine X.getF 221 (zi232 218) rfl rfl (by decide) rfl rfl ?_
            refine X.bipush 223 (zi232 221) rfl rfl (by decide) ?_
            refine X.dup2 224 (zi232 223) rfl rfl ?_
            refine X.lald 225 (zi232 224) rfl rfl (by decide) rfl (by omega) ?_
            have h589 := r45_17 hJ575 4
            refine X.lconst (y := 1) 226 (zi232 225) rfl rfl rfl ?_
            refine X.ladd 227 (zi232 226) rfl rfl (by omega) ?_
            refine X.last' 228 (zi232 227) rfl rfl (by decide) rfl (by omega) (fun hrm590 m590 hm590 => ?_)
            have hJ591 := w45_17 (hJ575.up (B' := B574 + 1) (by omega)) hm590 (by omega) hf27 hg4
            refine X.aload_n 229 (zi232 228) rfl rfl rfl ?_
            refine X.getF 232 (zi232 229) rfl rfl (by decide) rfl rfl ?_
            refine X.iload 234 (zi232 232) rfl rfl rfl ?_
            refine X.aload_n 235 (zi232 234) rfl rfl rfl ?_
            refine X.getF 238 (zi232 235) rfl rfl (by decide) rfl rfl ?_
            refine X.iconst 239 (zi232 238) rfl rfl (by decide) ?_
            refine X.lald 240 (zi232 239) rfl rfl (by decide) rfl (by omega) ?_
            have h592 := r45_0 hJ591 4
            refine X.last' 241 (zi232 240) rfl rfl (by decide) rfl (by omega) (fun hrm593 m593 hm593 => ?_)
            have hJ594 := w45_788 hJ591 hm593 (by omega) hrm593 hf27 hg4
            refine X.aload_n 242 (zi232 241) rfl rfl rfl ?_
            refine X.getF 245 (zi232 242) rfl rfl (by decide) rfl rfl ?_
            refine X.iload 247 (zi232 245) rfl rfl rfl ?_
            refine X.iconst 248 (zi232 247) rfl rfl (by decide) ?_
            refine X.iadd 249 (zi232 248) rfl rfl (by omega) ?_
            refine X.aload_n 250 (zi232 249) rfl rfl rfl ?_
            refine X.getF 253 (zi232 250) rfl rfl (by decide) rfl rfl ?_
            refine X.bipush 255 (zi232 253) rfl rfl (by decide) ?_
            refine X.lald 256 (zi232 255) rfl rfl (by decide) rfl (by omega) ?_
            refine X.last' 257 (zi232 256) rfl rfl (by decide) rfl (by omega) (fun hrm595 m595 hm595 => ?_)
            have hJ596 := w45_788 hJ594 hm595 (by omega) hrm595 hf27 hg4
            refine X.aload_n 258 (zi232 257) rfl rfl rfl ?_
            refine X.getF 261 (zi232 258) rfl rfl (by decide) rfl rfl ?_
            refine X.iload 263 (zi232 261) rfl rfl rfl ?_
            refine X.iconst 264 (zi232 263) rfl rfl (by decide) ?_
            refine X.iadd 265 (zi232 264) rfl rfl (by omega) ?_
            refine X.aload_n 266 (zi232 265) rfl rfl rfl ?_
            refine X.getF 269 (zi232 266) rfl rfl (by decide) rfl rfl ?_
            refine X.bipush 271 (zi232 269) rfl rfl (by decide) ?_
            refine X.lald 272 (zi232 271) rfl rfl (by decide) rfl (by omega) ?_
            refine X.last' 273 (zi232 272) rfl rfl (by decide) rfl (by omega) (fun hrm597 m597 hm597 => ?_)
            have hJ598 := w45_788 hJ596 hm597 (by omega) hrm597 hf27 hg4
            refine X.aload_n 274 (zi232 273) rfl rfl rfl ?_
            refine X.getF 277 (zi232 274) rfl rfl (by decide) rfl rfl ?_
            refine X.iload 279 (zi232 277) rfl rfl rfl ?_
            refine X.iconst 280 (zi232 279) rfl rfl (by decide) ?_
            refine X.iadd 281 (zi232 280) rfl rfl (by omega) ?_
            refine X.aload_n 282 (zi232 281) rfl rfl rfl ?_
            refine X.getF 285 (zi232 282) rfl rfl (by decide) rfl rfl ?_
            refine X.bipush 287 (zi232 285) rfl rfl (by decide) ?_
            refine X.lald 288 (zi232 287) rfl rfl (by decide) rfl (by omega) ?_
            refine X.last' 289 (zi232 288) rfl rfl (by decide) rfl (by omega) (fun hrm599 m599 hm599 => ?_)
            have hJ600 := w45_788 hJ598 hm599 (by omega) hrm599 hf27 hg4
            refine X.aload_n 290 (zi232 289) rfl rfl rfl ?_
            refine X.getF 293 (zi232 290) rfl rfl (by decide) rfl rfl ?_
            refine X.iload 295 (zi232 293) rfl rfl rfl ?_
            refine X.iconst 296 (zi232 295) rfl rfl (by decide) ?_
            refine X.iadd 297 (zi232 296) rfl rfl (by omega) ?_
            refine X.aload_n 298 (zi232 297) rfl rfl rfl ?_
            refine X.getF 301 (zi232 298) rfl rfl (by decide) rfl rfl ?_
            refine X.bipush 303 (zi232 301) rfl rfl (by decide) ?_
            refine X.lald 304 (zi232 303) rfl rfl (by decide) rfl (by omega) ?_
            refine X.last' 305 (zi232 304) rfl rfl (by decide) rfl (by omega) (fun hrm601 m601 hm601 => ?_)
            have hJ602 := w45_788 hJ600 hm601 (by omega) hrm601 hf27 hg4
            refine X.aload_n 306 (zi232 305) rfl rfl rfl ?_
            refine X.getF 309 (zi232 306) rfl rfl (by decide) rfl rfl ?_
            refine X.iload 311 (zi232 309) rfl rfl rfl ?_
            refine X.iconst 312 (zi232 311) rfl rfl (by decide) ?_
            refine X.iadd 313 (zi232 312) rfl rfl (by omega) ?_
            refine X.lload_n 314 (zi232 313) rfl rfl rfl ?_
            refine X.last' 315 (zi232 314) rfl rfl (by decide) rfl (by omega) (fun hrm603 m603 hm603 => ?_)
            have hJ604 := w45_788 hJ602 hm603 (by omega) hrm603 hf27 hg4
            refine X.aload_n 316 (zi232 315) rfl rfl rfl ?_
            refine X.callv 319 [] [] [(0, zr 4 44)] (zi232 316) rfl (by decide) rfl rfl (by omega) rfl rfl (by decide) rfl t233 (Nat.le_of_ble_eq_true rfl) (Nat.le_of_ble_eq_true rfl) rfl ?_
            refine c233_1 (B := B574 + 1)   (by omega) (hJ604.up (by omega)) (by omega)  hf27 hg4 (fun m605 hFv607 hJ606 => ?_)
            show X (EE s) d 232 319 [(0, zr 4 44), (1, zl a1), (3, zl z525), (5, zi (788 + (6 * v584)))] [] m605 _
            refine X.lload_n 320 (zi232 319) rfl rfl rfl ?_
            refine X.lconst (y := 0) 321 (zi232 320) rfl rfl rfl ?_
            refine X.lcmp 322 (zi232 321) rfl rfl (fun z608 hz608 => ?_)
            have hK616 : ∀ (m' : zM), (if a1 = 0 then
                (zs (f236_1 m605) fun m610 =>
                m610)
                else
                (m605)) = m' → J S m0 (B574 + 1) m' → X (EE s) d 232 329 [] [] m' Q := by
              intro m614 hT617 hJ615
              refine X.retv (zi232 329) rfl t232 ?_
              exact hQ  m614  (Eq.trans hR576 (Eq.trans (zn_eq hFv579.symm) (Eq.trans (zn_eq hT588.symm) (Eq.trans (zs_eq hm590) (Eq.trans (zs_eq hm593) (Eq.trans (zs_eq hm595) (Eq.trans (zs_eq hm597) (Eq.trans (zs_eq hm599) (Eq.trans (zs_eq hm601) (Eq.trans (zs_eq hm603) (Eq.trans (zs_eq hFv607.symm) (Eq.trans (zs_eq hT617.symm) rfl)))))))))))) (hJ615.up (by omega)) 
            refine X.ifne 329 325 (zi232 322) rfl rfl rfl (fun h609 => ?_) (fun h609 => ?_)
            · have h609c : ¬ a1 = 0 := by omega
              clear h609 hz608
              refine X.cut [] (zi232 329) rfl ?_
              exact hK616 m605 (Eq.trans (if_neg h609c) rfl) (hJ606.up (by omega))
            · have h609c : a1 = 0 := by omega
              clear h609 hz608
              refine X.aload_n 326 (zi232 325) rfl rfl rfl ?_
              refine X.callv 329 [] [] [(0, zr 4 44)] (zi232 326) rfl (by decide) rfl rfl (by omega) rfl rfl (by decide) rfl t236 (Nat.le_of_ble_eq_true rfl) (Nat.le_of_ble_eq_true rfl) rfl ?_
              refine c236_1 (B := B574 + 1)   (by omega) (hJ606.up (by omega)) (by omega)  hf28 hg4 (fun m610 hFv612 hJ611 => ?_)
              show X (EE s) d 232 329 [(0, zr 4 44), (1, zl a1), (3, zl z525), (5, zi (788 + (6 * v584)))] [] m610 _
              refine X.cut [] (zi232 329) rfl ?_
              exact hK616 m610 (Eq.trans (if_pos h609c) (Eq.trans (zs_eq hFv612.symm) rfl)) (hJ611.up (by omega))
          refine X.icmpge 211 204 (zi232 201) rfl rfl rfl (fun h580 => ?_) (fun h580 => ?_)
          · refine X.bipush 213 (zi232 211) rfl rfl (by decide) ?_
            exact hK587 63 (by first | trivial | omega) (Eq.trans (if_pos h580) rfl)
          · refine X.aload_n 205 (zi232 204) rfl rfl rfl ?_
            refine X.callv 208 [] [zi 6, zi 788] [(0, zr 4 44)] (zi232 205) rfl (by decide) rfl rfl (by omega) rfl rfl (by decide) rfl t235 (Nat.le_of_ble_eq_true rfl) (Nat.le_of_ble_eq_true rfl) rfl ?_
            refine c235_1 (B := B574)   (by omega) (hJ575.up (by omega)) (by omega)  (fun v583 hv583 hFv583 => ?_)
            show X (EE s) d 232 208 [(0, zr 4 44), (1, zl a1), (3, zl z525)] [zi v583, zi 6, zi 788] m573 _
            refine X.goto 213 (zi232 208) rfl rfl ?_
            exact hK587 v583 (by first | trivial | omega) (Eq.trans (if_neg h580) (Eq.trans (zn_eq hFv583.symm) rfl))
      refine X.ifeq 85 66 (zi232 63) rfl rfl rfl (fun h514 => ?_) (fun h514 => ?_)
      · have h514c : (m 4 45 21) = 1 := by omega
        clear h514 hz513
        refine X.sipush 88 (zi232 85) rfl rfl (by decide) ?_
        refine X.goto 92 (zi232 88) rfl rfl ?_
        exact hK523 128 (by first | trivial | omega) (Eq.trans (if_pos h514c) rfl)
      · have h514c : ¬ (m 4 45 21) = 1 := by omega
        clear h514 hz513
        refine X.aload_n 67 (zi232 66) rfl rfl rfl ?_
        refine X.getF 70 (zi232 67) rfl rfl (by decide) rfl rfl ?_
        refine X.iconst 71 (zi232 70) rfl rfl (by decide) ?_
        refine X.lald 72 (zi232 71) rfl rfl (by decide) rfl (by omega) ?_
        have h515 := r45_0 hJ 4
        refine X.aload_n 73 (zi232 72) rfl rfl rfl ?_
        refine X.getF 76 (zi232 73) rfl rfl (by decide) rfl rfl ?_
        refine X.bipush 78 (zi232 76) rfl rfl (by decide) ?_
        refine X.lald 79 (zi232 78) rfl rfl (by decide) rfl (by omega) ?_
        have h516 := r45_8 hJ 4
        refine X.lremp 80 (zi232 79) rfl rfl (by omega) ?_
        have hz517 := z_modb (x := (m 4 45 0)) (y := (m 4 45 8)) (by omega) (by omega)
        obtain ⟨z517, ez517⟩ : ∃ z, z = ((m 4 45 0) % (m 4 45 8)) := ⟨_, rfl⟩
        rw [← ez517] at hz517 ⊢
        refine X.lconst (y := 0) 81 (zi232 80) rfl rfl rfl ?_
        refine X.lcmp 82 (zi232 81) rfl rfl (fun z518 hz518 => ?_)
        refine X.ifeq 91 85 (zi232 82) rfl rfl rfl (fun h519 => ?_) (fun h519 => ?_)
        · have h519c : z517 = 0 := by omega
          clear h519 hz518
          refine X.iconst 92 (zi232 91) rfl rfl (by decide) ?_
          exact hK523 0 (by first | trivial | omega) (Eq.trans (if_neg h514c) (Eq.trans (zn_eq ez517) (Eq.trans (if_pos h519c) rfl)))
        · have h519c : ¬ z517 = 0 := by omega
          clear h519 hz518
          refine X.sipush 88 (zi232 85) rfl rfl (by decide) ?_
          refine X.goto 92 (zi232 88) rfl rfl ?_
          exact hK523 128 (by first | trivial | omega) (Eq.trans (if_neg h514c) (Eq.trans (zn_eq ez517) (Eq.trans (if_neg h519c) rfl)))
    refine X.ifle 49 44 (zi232 41) rfl rfl rfl (fun h505 => ?_) (fun h505 => ?_)
    · have h505c : (m 4 45 26) ≤ 0 := by omega
      clear h505 hz504
      refine X.iconst 50 (zi232 49) rfl rfl (by decide) ?_
      exact hK509 0 (by first | trivial | omega) (Eq.trans (if_pos h505c) rfl)
    · have h505c : ¬ (m 4 45 26) ≤ 0 := by omega
      clear h505 hz504
      refine X.bipush 46 (zi232 44) rfl rfl (by decide) ?_
      refine X.goto 50 (zi232 46) rfl rfl ?_
      exact hK509 32 (by first | trivial | omega) (Eq.trans (if_neg h505c) rfl)
  · have h503c : z501 = 0 := by omega
    clear h503 hz502
    refine X.aload_n 21 (zi232 20) rfl rfl rfl ?_
    refine X.callv 24 [] [] [(0, zr 4 44)] (zi232 21) rfl (by decide) rfl rfl (by omega) rfl rfl (by decide) rfl t233 (Nat.le_of_ble_eq_true rfl) (Nat.le_of_ble_eq_true rfl) rfl ?_
    refine c233_1 (B := B)   (by omega) (hJ.up (by omega)) (by omega)  hf27 hg4 (fun m618 hFv620 hJ619 => ?_)
    show X (EE s) d 232 24 [(0, zr 4 44), (1, zl a1)] [] m618 _
    refine X.retv (zi232 24) rfl t232 ?_
    exact hQ  m618  (Eq.trans (zn_eq ez501) (Eq.trans (if_pos h503c) (Eq.trans (zs_eq hFv620.symm) rfl))) (hJ619.up (by omega)) 
-- WorkMeterModel.goes
noncomputable def f230_1 (m : zM) : zM :=
  zn (f231_1 m) fun v503 =>
  zn (zorL (m 4 45 27) v503) fun z504 =>
  zs (z_upd m 4 45 27 z504) fun m505 =>
  if (m505 4 45 0) = 2000000000 then
  (m505)
  else
  (zs (z_upd m505 4 45 0 ((m505 4 45 0) + 1)) fun m510 =>
  zn (((m510 4 45 0) % (m510 4 45 8))) fun z514 =>
  zs (if z514 = 0 then
  (zs (f232_1 0 m510) fun m517 =>
  m517)
  else
  (m510)) fun m521 =>
  m521)
-- WorkMeterModel.goes
theorem c230_1 {s : Nat × (Nat → Int32)} {S : zS} {m0 m : zM} {B : Int} {d : Nat} {Q : Option zV → zM → Prop} (hd : 18 ≤ d) (hJ : J S m0 B m) (hB : B + 1 ≤ 1000000000) (hf27 : ¬ S.1 27) (hf28 : ¬ S.1 28) (hf31 : ¬ S.1 31) (hg4 : ¬ S.2.1 4) (hQ : ∀ m', f230_1 m = m' → J S m0 (B + 1) m' → Q none m') : X (EE s) d 230 0 [(0, zr 4 44)] [] m Q := by
  refine X.aload_n 1 (zi230 0) rfl rfl rfl ?_
  refine X.getF 4 (zi230 1) rfl rfl (by decide) rfl rfl ?_
  refine X.bipush 6 (zi230 4) rfl rfl (by decide) ?_
  refine X.dup2 7 (zi230 6) rfl rfl ?_
  refine X.lald 8 (zi230 7) rfl rfl (by decide) rfl (by omega) ?_
  refine X.aload_n 9 (zi230 8) rfl rfl rfl ?_
  refine X.callv 12 [] [zl (m 4 45 27), zi 27, zr 4 45] [(0, zr 4 44)] (zi230 9) rfl (by decide) rfl rfl (by omega) rfl rfl (by decide) rfl t231 (Nat.le_of_ble_eq_true rfl) (Nat.le_of_ble_eq_true rfl) rfl ?_
  refine c231_1 (B := B)   (by omega) (hJ.up (by omega)) (by omega)  (fun v503 hv503 hFv503 => ?_)
  show X (EE s) d 230 12 [(0, zr 4 44)] [zl v503, zl (m 4 45 27), zi 27, zr 4 45] m _
  refine X.llE 13 .lor (fun x y => x ||| y) (zi230 12) rfl rfl rfl (fun _ _ => rfl) (fun z504 ez504 hz504 => ?_)
  refine X.last' 14 (zi230 13) rfl rfl (by decide) rfl (by omega) (fun hrm505 m505 hm505 => ?_)
  have hJ506 := w45_21 hJ hm505 (by omega) hrm505 hf27 hg4
  refine X.aload_n 15 (zi230 14) rfl rfl rfl ?_
  refine X.getF 18 (zi230 15) rfl rfl (by decide) rfl rfl ?_
  refine X.iconst 19 (zi230 18) rfl rfl (by decide) ?_
  refine X.lald 20 (zi230 19) rfl rfl (by decide) rfl (by omega) ?_
  have h507 := r45_0 hJ506 4
  refine X.ldc2 23 (zi230 20) rfl rfl (by decide) ?_
  refine X.lcmp 24 (zi230 23) rfl rfl (fun z508 hz508 => ?_)
  refine X.ifne 28 27 (zi230 24) rfl rfl rfl (fun h509 => ?_) (fun h509 => ?_)
  · have h509c : ¬ (m505 4 45 0) = 2000000000 := by omega
    clear h509 hz508
    refine X.aload_n 29 (zi230 28) rfl rfl rfl ?_
    refine X.getF 32 (zi230 29) rfl rfl (by decide) rfl rfl ?_
    refine X.iconst 33 (zi230 32) rfl rfl (by decide) ?_
    refine X.dup2 34 (zi230 33) rfl rfl ?_
    refine X.lald 35 (zi230 34) rfl rfl (by decide) rfl (by omega) ?_
    refine X.lconst (y := 1) 36 (zi230 35) rfl rfl rfl ?_
    refine X.ladd 37 (zi230 36) rfl rfl (by omega) ?_
    refine X.last' 38 (zi230 37) rfl rfl (by decide) rfl (by omega) (fun hrm510 m510 hm510 => ?_)
    have hJ511 := w45_0 hJ506 hm510 (by omega) hf31 hg4
    refine X.aload_n 39 (zi230 38) rfl rfl rfl ?_
    refine X.getF 42 (zi230 39) rfl rfl (by decide) rfl rfl ?_
    refine X.iconst 43 (zi230 42) rfl rfl (by decide) ?_
    refine X.lald 44 (zi230 43) rfl rfl (by decide) rfl (by omega) ?_
    have h512 := r45_0 hJ511 4
    refine X.aload_n 45 (zi230 44) rfl rfl rfl ?_
    refine X.getF 48 (zi230 45) rfl rfl (by decide) rfl rfl ?_
    refine X.bipush 50 (zi230 48) rfl rfl (by decide) ?_
    refine X.lald 51 (zi230 50) rfl rfl (by decide) rfl (by omega) ?_
    have h513 := r45_8 hJ511 4
    refine X.lremp 52 (zi230 51) rfl rfl (by omega) ?_
    have hz514 := z_modb (x := (m510 4 45 0)) (y := (m510 4 45 8)) (by omega) (by omega)
    obtain ⟨z514, ez514⟩ : ∃ z, z = ((m510 4 45 0) % (m510 4 45 8)) := ⟨_, rfl⟩
    rw [← ez514] at hz514 ⊢
    refine X.lconst (y := 0) 53 (zi230 52) rfl rfl rfl ?_
    refine X.lcmp 54 (zi230 53) rfl rfl (fun z515 hz515 => ?_)
    have hK523 : ∀ (m' : zM), (if z514 = 0 then
        (zs (f232_1 0 m510) fun m517 =>
        m517)
        else
        (m510)) = m' → J S m0 (B + 1) m' → X (EE s) d 230 62 [] [] m' Q := by
      intro m521 hT524 hJ522
      refine X.retv (zi230 62) rfl t230 ?_
      exact hQ  m521  (Eq.trans (zn_eq hFv503.symm) (Eq.trans (zn_eq ez504) (Eq.trans (zs_eq hm505) (Eq.trans (if_neg h509c) (Eq.trans (zs_eq hm510) (Eq.trans (zn_eq ez514) (Eq.trans (zs_eq hT524.symm) rfl))))))) (hJ522.up (by omega)) 
    refine X.ifne 62 57 (zi230 54) rfl rfl rfl (fun h516 => ?_) (fun h516 => ?_)
    · have h516c : ¬ z514 = 0 := by omega
      clear h516 hz515
      refine X.cut [] (zi230 62) rfl ?_
      exact hK523 m510 (Eq.trans (if_neg h516c) rfl) (hJ511.up (by omega))
    · have h516c : z514 = 0 := by omega
      clear h516 hz515
      refine X.aload_n 58 (zi230 57) rfl rfl rfl ?_
      refine X.lconst (y := 0) 59 (zi230 58) rfl rfl rfl ?_
      refine X.callv 62 [zl 0] [] [(0, zr 4 44), (1, zl 0)] (zi230 59) rfl (by decide) rfl rfl (by omega) rfl rfl (by decide) rfl t232 (Nat.le_of_ble_eq_true rfl) (Nat.le_of_ble_eq_true rfl) rfl ?_
      refine c232_1 (B := B)  0 (by omega) (hJ511.up (by omega)) (by omega) (by omega) hf27 hf28 hg4 (fun m517 hFv519 hJ518 => ?_)
      show X (EE s) d 230 62 [(0, zr 4 44)] [] m517 _
      refine X.cut [] (zi230 62) rfl ?_
      exact hK523 m517 (Eq.trans (if_pos h516c) (Eq.trans (zs_eq hFv519.symm) rfl)) (hJ518.up (by omega))
  · have h509c : (m505 4 45 0) = 2000000000 := by omega
    clear h509 hz508
    refine X.retv (zi230 27) rfl t230 ?_
    exact hQ  m505  (Eq.trans (zn_eq hFv503.symm) (Eq.trans (zn_eq ez504) (Eq.trans (zs_eq hm505) (Eq.trans (if_pos h509c) rfl)))) (hJ506.up (by omega)) 
-- WorkMeterModel.meters
noncomputable def f208_1 (m : zM) : zM :=
  zn (if (m 4 45 12) = 1 then
  (0)
  else
  (zn (f209_1 0 m) fun v506 =>
  v506)) fun v507 =>
  zn (if (m 4 45 12) = 1 then
  (0)
  else
  (zn (f209_1 1 m) fun v516 =>
  v516)) fun v517 =>
  zn ((v507 * v507)) fun z522 =>
  zn ((v517 * v517)) fun z523 =>
  zn (f214_1 (z522 + z523) m) fun v526 =>
  zs (z_upd m 4 45 13 ((m 4 45 13) + 1)) fun m528 =>
  zn (w64 ((m528 4 45 25) + 1)) fun z530 =>
  zs (z_upd m528 4 45 25 z530) fun m531 =>
  zn (f215_1 v507 m531) fun v535 =>
  zs (if v535 < (m531 4 45 4) then
  (zn (f215_1 v517 m531) fun v544 =>
  if v544 < (m531 4 45 4) then
  (zn (w64 ((m531 4 45 14) + 1)) fun z550 =>
  zs (z_upd m531 4 45 14 z550) fun m551 =>
  m551)
  else
  (zs (f216_1 v507 v517 v526 m531) fun m547 =>
  m547))
  else
  (zs (f216_1 v507 v517 v526 m531) fun m539 =>
  m539)) fun m554 =>
  zs (f222_1 m554) fun m558 =>
  zs (f224_1 m558) fun m561 =>
  zs (f230_1 m561) fun m564 =>
  m564
-- WorkMeterModel.meters
theorem c208_1 {s : Nat × (Nat → Int32)} {S : zS} {m0 m : zM} {B : Int} {d : Nat} {Q : Option zV → zM → Prop} (hd : 19 ≤ d) (hJ : J S m0 B m) (hB : B + 11 ≤ 1000000000) (hf26 : ¬ S.1 26) (hf27 : ¬ S.1 27) (hf28 : ¬ S.1 28) (hf29 : ¬ S.1 29) (hf30 : ¬ S.1 30) (hf31 : ¬ S.1 31) (hf32 : ¬ S.1 32) (hf33 : ¬ S.1 33) (hg4 : ¬ S.2.1 4) (hQ : ∀ m', f208_1 m = m' → J S m0 (B + 11) m' → Q none m') : X (EE s) d 208 0 [(0, zr 4 44)] [] m Q := by
  refine X.aload_n 1 (zi208 0) rfl rfl rfl ?_
  refine X.getF 4 (zi208 1) rfl rfl (by decide) rfl rfl ?_
  refine X.bipush 6 (zi208 4) rfl rfl (by decide) ?_
  refine X.lald 7 (zi208 6) rfl rfl (by decide) rfl (by omega) ?_
  have h501 := r45_12 hJ 4
  refine X.lconst (y := 1) 8 (zi208 7) rfl rfl rfl ?_
  refine X.lcmp 9 (zi208 8) rfl rfl (fun z502 hz502 => ?_)
  have hK510 : ∀ (v : Int) , ((-12000000) ≤ v ∧ v ≤ 12000000) → (if (m 4 45 12) = 1 then
      (0)
      else
      (zn (f209_1 0 m) fun v506 =>
      v506)) = v → X (EE s) d 208 21 [(0, zr 4 44)] [zl v] m Q := by
    intro v507 hv507 hT511
    refine X.lstore_n 22 [(0, zr 4 44), (1, zl v507)] (zi208 21) rfl rfl rfl ?_
    refine X.aload_n 23 (zi208 22) rfl rfl rfl ?_
    refine X.getF 26 (zi208 23) rfl rfl (by decide) rfl rfl ?_
    refine X.bipush 28 (zi208 26) rfl rfl (by decide) ?_
    refine X.lald 29 (zi208 28) rfl rfl (by decide) rfl (by omega) ?_
    refine X.lconst (y := 1) 30 (zi208 29) rfl rfl rfl ?_
    refine X.lcmp 31 (zi208 30) rfl rfl (fun z512 hz512 => ?_)
    have hK520 : ∀ (v : Int) , ((-12000000) ≤ v ∧ v ≤ 12000000) → (if (m 4 45 12) = 1 then
        (0)
        else
        (zn (f209_1 1 m) fun v516 =>
        v516)) = v → X (EE s) d 208 43 [(0, zr 4 44), (1, zl v507)] [zl v] m Q := by
      intro v517 hv517 hT521
      refine X.lstore_n 44 [(0, zr 4 44), (1, zl v507), (3, zl v517)] (zi208 43) rfl rfl rfl ?_
      refine X.lload_n 45 (zi208 44) rfl rfl rfl ?_
      refine X.lload_n 46 (zi208 45) rfl rfl rfl ?_
      have hz522 := z_sqr (e := 12000000) (x := v507) (by omega)
      refine X.lmul 47 (zi208 46) rfl rfl (z_in3 hz522 (by decide) (by decide)) ?_
      obtain ⟨z522, ez522⟩ : ∃ z, z = (v507 * v507) := ⟨_, rfl⟩
      rw [← ez522] at hz522 ⊢
      have gz522 : 0 ≤ z522 ∧ z522 ≤ 144000000000000 := z_in3 hz522 (by decide) (by decide)
      clear hz522
      refine X.lload_n 48 (zi208 47) rfl rfl rfl ?_
      refine X.lload_n 49 (zi208 48) rfl rfl rfl ?_
      have hz523 := z_sqr (e := 12000000) (x := v517) (by omega)
      refine X.lmul 50 (zi208 49) rfl rfl (z_in3 hz523 (by decide) (by decide)) ?_
      obtain ⟨z523, ez523⟩ : ∃ z, z = (v517 * v517) := ⟨_, rfl⟩
      rw [← ez523] at hz523 ⊢
      have gz523 : 0 ≤ z523 ∧ z523 ≤ 144000000000000 := z_in3 hz523 (by decide) (by decide)
      clear hz523
      refine X.ladd 51 (zi208 50) rfl rfl (by omega) ?_
      refine X.calls 54 [zl (z522 + z523)] [] [(0, zl (z522 + z523))] (zi208 51) (by decide) rfl rfl (by omega) rfl rfl t214 (Nat.le_of_ble_eq_true rfl) (Nat.le_of_ble_eq_true rfl) rfl ?_
      refine c214_1 (B := B)  (z522 + z523) (by omega) (hJ.up (by omega)) (by omega) (by omega) (fun v526 hv526 hFv526 => ?_)
      show X (EE s) d 208 54 [(0, zr 4 44), (1, zl v507), (3, zl v517)] [zl v526] m _
      refine X.lstore 56 [(0, zr 4 44), (1, zl v507), (3, zl v517), (5, zl v526)] (zi208 54) rfl rfl rfl ?_
      refine X.aload_n 57 (zi208 56) rfl rfl rfl ?_
      refine X.getF 60 (zi208 57) rfl rfl (by decide) rfl rfl ?_
      refine X.bipush 62 (zi208 60) rfl rfl (by decide) ?_
      refine X.dup2 63 (zi208 62) rfl rfl ?_
      refine X.lald 64 (zi208 63) rfl rfl (by decide) rfl (by omega) ?_
      have h527 := r45_13 hJ 4
      refine X.lconst (y := 1) 65 (zi208 64) rfl rfl rfl ?_
      refine X.ladd 66 (zi208 65) rfl rfl (by omega) ?_
      refine X.last' 67 (zi208 66) rfl rfl (by decide) rfl (by omega) (fun hrm528 m528 hm528 => ?_)
      have hJ529 := w45_13 (hJ.up (B' := B + 1) (by omega)) hm528 (by omega) hf33 hg4
      refine X.aload_n 68 (zi208 67) rfl rfl rfl ?_
      refine X.getF 71 (zi208 68) rfl rfl (by decide) rfl rfl ?_
      refine X.bipush 73 (zi208 71) rfl rfl (by decide) ?_
      refine X.dup2 74 (zi208 73) rfl rfl ?_
      refine X.lald 75 (zi208 74) rfl rfl (by decide) rfl (by omega) ?_
      refine X.lconst (y := 1) 76 (zi208 75) rfl rfl rfl ?_
      refine X.laddW 77 (zi208 76) rfl rfl (fun z530 ez530 hz530 => ?_)
      refine X.last' 78 (zi208 77) rfl rfl (by decide) rfl (by omega) (fun hrm531 m531 hm531 => ?_)
      have hJ532 := w45_21 hJ529 hm531 (by omega) hrm531 hf27 hg4
      refine X.lload_n 79 (zi208 78) rfl rfl rfl ?_
      refine X.calls 82 [zl v507] [] [(0, zl v507)] (zi208 79) (by decide) rfl rfl (by omega) rfl rfl t215 (Nat.le_of_ble_eq_true rfl) (Nat.le_of_ble_eq_true rfl) rfl ?_
      refine c215_1 (B := B + 1)  v507 (by omega) (hJ532.up (by omega)) (by omega) (by omega) (fun v535 hv535 hFv535 => ?_)
      show X (EE s) d 208 82 [(0, zr 4 44), (1, zl v507), (3, zl v517), (5, zl v526)] [zl v535] m531 _
      refine X.aload_n 83 (zi208 82) rfl rfl rfl ?_
      refine X.getF 86 (zi208 83) rfl rfl (by decide) rfl rfl ?_
      refine X.iconst 87 (zi208 86) rfl rfl (by decide) ?_
      refine X.lald 88 (zi208 87) rfl rfl (by decide) rfl (by omega) ?_
      have h536 := r45_4 hJ532 4
      refine X.lcmp 89 (zi208 88) rfl rfl (fun z537 hz537 => ?_)
      have hK556 : ∀ (m' : zM), (if v535 < (m531 4 45 4) then
          (zn (f215_1 v517 m531) fun v544 =>
          if v544 < (m531 4 45 4) then
          (zn (w64 ((m531 4 45 14) + 1)) fun z550 =>
          zs (z_upd m531 4 45 14 z550) fun m551 =>
          m551)
          else
          (zs (f216_1 v507 v517 v526 m531) fun m547 =>
          m547))
          else
          (zs (f216_1 v507 v517 v526 m531) fun m539 =>
          m539)) = m' → J S m0 (B + 1) m' → X (EE s) d 208 128 [(0, zr 4 44)] [] m' Q := by
        intro m554 hT557 hJ555
        refine X.aload_n 129 (zi208 128) rfl rfl rfl ?_
        refine X.callv 132 [] [] [(0, zr 4 44)] (zi208 129) rfl (by decide) rfl rfl (by omega) rfl rfl (by decide) rfl t222 (Nat.le_of_ble_eq_true rfl) (Nat.le_of_ble_eq_true rfl) rfl ?_
        refine c222_1 (B := B + 1)   (by omega) (hJ555.up (by omega)) (by omega)  hf26 hf32 hg4 (fun m558 hFv560 hJ559 => ?_)
        show X (EE s) d 208 132 [(0, zr 4 44)] [] m558 _
        refine X.aload_n 133 (zi208 132) rfl rfl rfl ?_
        refine X.callv 136 [] [] [(0, zr 4 44)] (zi208 133) rfl (by decide) rfl rfl (by omega) rfl rfl (by decide) rfl t224 (Nat.le_of_ble_eq_true rfl) (Nat.le_of_ble_eq_true rfl) rfl ?_
        refine c224_1 (B := B + 2)   (by omega) (hJ559.up (by omega)) (by omega)  hf26 hf29 hg4 (fun m561 hFv563 hJ562 => ?_)
        show X (EE s) d 208 136 [(0, zr 4 44)] [] m561 _
        refine X.aload_n 137 (zi208 136) rfl rfl rfl ?_
        refine X.callv 140 [] [] [(0, zr 4 44)] (zi208 137) rfl (by decide) rfl rfl (by omega) rfl rfl (by decide) rfl t230 (Nat.le_of_ble_eq_true rfl) (Nat.le_of_ble_eq_true rfl) rfl ?_
        refine c230_1 (B := B + 10)   (by omega) (hJ562.up (by omega)) (by omega)  hf27 hf28 hf31 hg4 (fun m564 hFv566 hJ565 => ?_)
        show X (EE s) d 208 140 [(0, zr 4 44)] [] m564 _
        refine X.retv (zi208 140) rfl t208 ?_
        exact hQ  m564  (Eq.trans (zn_eq hT511.symm) (Eq.trans (zn_eq hT521.symm) (Eq.trans (zn_eq ez522) (Eq.trans (zn_eq ez523) (Eq.trans (zn_eq hFv526.symm) (Eq.trans (zs_eq hm528) (Eq.trans (zn_eq ez530) (Eq.trans (zs_eq hm531) (Eq.trans (zn_eq hFv535.symm) (Eq.trans (zs_eq hT557.symm) (Eq.trans (zs_eq hFv560.symm) (Eq.trans (zs_eq hFv563.symm) (Eq.trans (zs_eq hFv566.symm) rfl))))))))))))) (hJ565.up (by omega)) 
      refine X.ifge 120 92 (zi208 89) rfl rfl rfl (fun h538 => ?_) (fun h538 => ?_)
      · have h538c : ¬ v535 < (m531 4 45 4) := by omega
        clear h538 hz537
        refine X.aload_n 121 (zi208 120) rfl rfl rfl ?_
        refine X.lload_n 122 (zi208 121) rfl rfl rfl ?_
        refine X.lload_n 123 (zi208 122) rfl rfl rfl ?_
        refine X.lload 125 (zi208 123) rfl rfl rfl ?_
        refine X.callv 128 [zl v507, zl v517, zl v526] [] [(0, zr 4 44), (1, zl v507), (3, zl v517), (5, zl v526)] (zi208 125) rfl (by decide) rfl rfl (by omega) rfl rfl (by decide) rfl t216 (Nat.le_of_ble_eq_true rfl) (Nat.le_of_ble_eq_true rfl) rfl ?_
        refine c216_1 (B := B + 1)  v507 v517 v526 (by omega) (hJ532.up (by omega)) (by omega) (by omega) (by omega) (by omega) hf27 hf30 hf32 hg4 (fun m539 hFv541 hJ540 => ?_)
        show X (EE s) d 208 128 [(0, zr 4 44), (1, zl v507), (3, zl v517), (5, zl v526)] [] m539 _
        refine X.cut [(0, zr 4 44)] (zi208 128) rfl ?_
        exact hK556 m539 (Eq.trans (if_neg h538c) (Eq.trans (zs_eq hFv541.symm) rfl)) (hJ540.up (by omega))
      · have h538c : v535 < (m531 4 45 4) := by omega
        clear h538 hz537
        refine X.lload_n 93 (zi208 92) rfl rfl rfl ?_
        refine X.calls 96 [zl v517] [] [(0, zl v517)] (zi208 93) (by decide) rfl rfl (by omega) rfl rfl t215 (Nat.le_of_ble_eq_true rfl) (Nat.le_of_ble_eq_true rfl) rfl ?_
        refine c215_1 (B := B + 1)  v517 (by omega) (hJ532.up (by omega)) (by omega) (by omega) (fun v544 hv544 hFv544 => ?_)
        show X (EE s) d 208 96 [(0, zr 4 44), (1, zl v507), (3, zl v517), (5, zl v526)] [zl v544] m531 _
        refine X.aload_n 97 (zi208 96) rfl rfl rfl ?_
        refine X.getF 100 (zi208 97) rfl rfl (by decide) rfl rfl ?_
        refine X.iconst 101 (zi208 100) rfl rfl (by decide) ?_
        refine X.lald 102 (zi208 101) rfl rfl (by decide) rfl (by omega) ?_
        refine X.lcmp 103 (zi208 102) rfl rfl (fun z545 hz545 => ?_)
        refine X.ifge 120 106 (zi208 103) rfl rfl rfl (fun h546 => ?_) (fun h546 => ?_)
        · have h546c : ¬ v544 < (m531 4 45 4) := by omega
          clear h546 hz545
          refine X.aload_n 121 (zi208 120) rfl rfl rfl ?_
          refine X.lload_n 122 (zi208 121) rfl rfl rfl ?_
          refine X.lload_n 123 (zi208 122) rfl rfl rfl ?_
          refine X.lload 125 (zi208 123) rfl rfl rfl ?_
          refine X.callv 128 [zl v507, zl v517, zl v526] [] [(0, zr 4 44), (1, zl v507), (3, zl v517), (5, zl v526)] (zi208 125) rfl (by decide) rfl rfl (by omega) rfl rfl (by decide) rfl t216 (Nat.le_of_ble_eq_true rfl) (Nat.le_of_ble_eq_true rfl) rfl ?_
          refine c216_1 (B := B + 1)  v507 v517 v526 (by omega) (hJ532.up (by omega)) (by omega) (by omega) (by omega) (by omega) hf27 hf30 hf32 hg4 (fun m547 hFv549 hJ548 => ?_)
          show X (EE s) d 208 128 [(0, zr 4 44), (1, zl v507), (3, zl v517), (5, zl v526)] [] m547 _
          refine X.cut [(0, zr 4 44)] (zi208 128) rfl ?_
          exact hK556 m547 (Eq.trans (if_pos h538c) (Eq.trans (zn_eq hFv544.symm) (Eq.trans (if_neg h546c) (Eq.trans (zs_eq hFv549.symm) rfl)))) (hJ548.up (by omega))
        · have h546c : v544 < (m531 4 45 4) := by omega
          clear h546 hz545
          refine X.aload_n 107 (zi208 106) rfl rfl rfl ?_
          refine X.getF 110 (zi208 107) rfl rfl (by decide) rfl rfl ?_
          refine X.bipush 112 (zi208 110) rfl rfl (by decide) ?_
          refine X.dup2 113 (zi208 112) rfl rfl ?_
          refine X.lald 114 (zi208 113) rfl rfl (by decide) rfl (by omega) ?_
          refine X.lconst (y := 1) 115 (zi208 114) rfl rfl rfl ?_
          refine X.laddW 116 (zi208 115) rfl rfl (fun z550 ez550 hz550 => ?_)
          refine X.last' 117 (zi208 116) rfl rfl (by decide) rfl (by omega) (fun hrm551 m551 hm551 => ?_)
          have hJ552 := w45_14 hJ532 hm551 (by omega) hrm551 hf33 hg4
          refine X.goto 128 (zi208 117) rfl rfl ?_
          refine X.cut [(0, zr 4 44)] (zi208 128) rfl ?_
          exact hK556 m551 (Eq.trans (if_pos h538c) (Eq.trans (zn_eq hFv544.symm) (Eq.trans (if_pos h546c) (Eq.trans (zn_eq ez550) (Eq.trans (zs_eq hm551) rfl))))) (hJ552.up (by omega))
    refine X.ifne 38 34 (zi208 31) rfl rfl rfl (fun h513 => ?_) (fun h513 => ?_)
    · have h513c : ¬ (m 4 45 12) = 1 := by omega
      clear h513 hz512
      refine X.aload_n 39 (zi208 38) rfl rfl rfl ?_
      refine X.iconst 40 (zi208 39) rfl rfl (by decide) ?_
      refine X.callv 43 [zi 1] [] [(0, zr 4 44), (1, zi 1)] (zi208 40) rfl (by decide) rfl rfl (by omega) rfl rfl (by decide) rfl t209 (Nat.le_of_ble_eq_true rfl) (Nat.le_of_ble_eq_true rfl) rfl ?_
      refine c209_1 (B := B)  1 (by omega) (hJ.up (by omega)) (by omega) (by omega) (fun v516 hv516 hFv516 => ?_)
      show X (EE s) d 208 43 [(0, zr 4 44), (1, zl v507)] [zl v516] m _
      exact hK520 v516 (by first | trivial | omega) (Eq.trans (if_neg h513c) (Eq.trans (zn_eq hFv516.symm) rfl))
    · have h513c : (m 4 45 12) = 1 := by omega
      clear h513 hz512
      refine X.lconst (y := 0) 35 (zi208 34) rfl rfl rfl ?_
      refine X.goto 43 (zi208 35) rfl rfl ?_
      exact hK520 0 (by first | trivial | omega) (Eq.trans (if_pos h513c) rfl)
  refine X.ifne 16 12 (zi208 9) rfl rfl rfl (fun h503 => ?_) (fun h503 => ?_)
  · have h503c : ¬ (m 4 45 12) = 1 := by omega
    clear h503 hz502
    refine X.aload_n 17 (zi208 16) rfl rfl rfl ?_
    refine X.iconst 18 (zi208 17) rfl rfl (by decide) ?_
    refine X.callv 21 [zi 0] [] [(0, zr 4 44), (1, zi 0)] (zi208 18) rfl (by decide) rfl rfl (by omega) rfl rfl (by decide) rfl t209 (Nat.le_of_ble_eq_true rfl) (Nat.le_of_ble_eq_true rfl) rfl ?_
    refine c209_1 (B := B)  0 (by omega) (hJ.up (by omega)) (by omega) (by omega) (fun v506 hv506 hFv506 => ?_)
    show X (EE s) d 208 21 [(0, zr 4 44)] [zl v506] m _
    exact hK510 v506 (by first | trivial | omega) (Eq.trans (if_neg h503c) (Eq.trans (zn_eq hFv506.symm) rfl))
  · have h503c : (m 4 45 12) = 1 := by omega
    clear h503 hz502
    refine X.lconst (y := 0) 13 (zi208 12) rfl rfl rfl ?_
    refine X.goto 21 (zi208 13) rfl rfl ?_
    exact hK510 0 (by first | trivial | omega) (Eq.trans (if_pos h503c) rfl)
-- WorkMeterModel.sample
noncomputable def f205_1 (a1 a2 : Int) (m : zM) : Int × zM :=
  if a1 < (-500) then
  (((-1), m))
  else
  (if a1 ≤ 500 then
  (if a2 < (-500) then
  (((-1), m))
  else
  (if a2 ≤ 500 then
  (zn (((m 4 45 3) % (m 4 45 1))) fun z517 =>
  zn (((m 4 45 3) / (m 4 45 1))) fun z518 =>
  zs (z_upd m 4 45 ((191 + (16 * z517)) + z518) a1) fun m519 =>
  zn (((m 4 45 3) % (m519 4 45 1))) fun z522 =>
  zn (((m 4 45 3) / (m519 4 45 1))) fun z523 =>
  zs (z_upd m519 4 45 ((239 + (16 * z522)) + z523) a2) fun m524 =>
  zs (z_upd m524 4 45 3 ((m524 4 45 3) + 1)) fun m527 =>
  zn (((m527 4 45 1) * (m527 4 45 2))) fun z529 =>
  if (m527 4 45 3) < z529 then
  (((m527 4 45 3), m527))
  else
  (zs (z_upd m527 4 45 3 0) fun m532 =>
  fl205_139_1 (fun m534 =>
  zs (f208_1 m534) fun m538 =>
  (0, m538)) (zfu 97) 0 m532))
  else
  (((-1), m))))
  else
  (((-1), m)))
-- WorkMeterModel.sample
theorem c205_1 {s : Nat × (Nat → Int32)} {S : zS} {m0 m : zM} {B : Int} {d : Nat} {Q : Option zV → zM → Prop} (a1 a2 : Int) (hd : 20 ≤ d) (hJ : J S m0 B m) (hB : B + 11 ≤ 1000000000) (ha1 : (-2147483648) ≤ a1 ∧ a1 ≤ 2147483647) (ha2 : (-2147483648) ≤ a2 ∧ a2 ≤ 2147483647) (hf22 : ¬ S.1 22) (hf26 : ¬ S.1 26) (hf27 : ¬ S.1 27) (hf28 : ¬ S.1 28) (hf29 : ¬ S.1 29) (hf30 : ¬ S.1 30) (hf31 : ¬ S.1 31) (hf32 : ¬ S.1 32) (hf33 : ¬ S.1 33) (hg4 : ¬ S.2.1 4) (hQ : ∀ (v : Int) m', ((-1) ≤ v ∧ v ≤ 47) → f205_1 a1 a2 m = (v, m') → J S m0 (B + 11) m' → Q (some (zi v)) m') : X (EE s) d 205 0 [(0, zr 4 44), (1, zi a1), (2, zi a2)] [] m Q := by
  refine X.iload_n 1 (zi205 0) rfl rfl rfl ?_
  refine X.i2l 2 (zi205 1) rfl rfl ?_
  refine X.ldc2 5 (zi205 2) rfl rfl (by decide) ?_
  refine X.ldc2 8 (zi205 5) rfl rfl (by decide) ?_
  refine X.calls 11 [zl a1, zl (-500), zl 500] [] [(0, zl a1), (2, zl (-500)), (4, zl 500)] (zi205 8) (by decide) rfl rfl (by omega) rfl rfl t204 (Nat.le_of_ble_eq_true rfl) (Nat.le_of_ble_eq_true rfl) rfl ?_
  refine X.lload_n 1 (zi204 0) rfl rfl rfl ?_
  refine X.lload_n 2 (zi204 1) rfl rfl rfl ?_
  refine X.lcmp 3 (zi204 2) rfl rfl (fun z501 hz501 => ?_)
  refine X.iflt 17 6 (zi204 3) rfl rfl rfl (fun h502 => ?_) (fun h502 => ?_)
  · have h502c : a1 < (-500) := by omega
    clear h502 hz501
    refine X.cut [] (zi204 17) rfl ?_
    refine X.iconst 18 (zi204 17) rfl rfl (by decide) ?_
    refine X.retz (zi204 18) rfl t204 (by omega) ?_
    show X (EE s) d 205 11 [(0, zr 4 44), (1, zi a1), (2, zi a2)] [zi 0] m _
    refine X.ifeq 28 14 (zi205 11) rfl rfl rfl (fun h503 => ?_) (fun h503 => (by exfalso; omega))
    refine X.cut [] (zi205 28) rfl ?_
    refine X.iconst 29 (zi205 28) rfl rfl (by decide) ?_
    refine X.reti (zi205 29) rfl t205 ?_
    exact hQ (-1) m (by first | trivial | omega) (Eq.trans (if_pos h502c) rfl) (hJ.up (by omega)) 
  · have h502c : ¬ a1 < (-500) := by omega
    clear h502 hz501
    refine X.lload_n 7 (zi204 6) rfl rfl rfl ?_
    refine X.lload 9 (zi204 7) rfl rfl rfl ?_
    refine X.lcmp 10 (zi204 9) rfl rfl (fun z504 hz504 => ?_)
    refine X.ifgt 17 13 (zi204 10) rfl rfl rfl (fun h505 => ?_) (fun h505 => ?_)
    · have h505c : ¬ a1 ≤ 500 := by omega
      clear h505 hz504
      refine X.cut [] (zi204 17) rfl ?_
      refine X.iconst 18 (zi204 17) rfl rfl (by decide) ?_
      refine X.retz (zi204 18) rfl t204 (by omega) ?_
      show X (EE s) d 205 11 [(0, zr 4 44), (1, zi a1), (2, zi a2)] [zi 0] m _
      refine X.ifeq 28 14 (zi205 11) rfl rfl rfl (fun h506 => ?_) (fun h506 => (by exfalso; omega))
      refine X.cut [] (zi205 28) rfl ?_
      refine X.iconst 29 (zi205 28) rfl rfl (by decide) ?_
      refine X.reti (zi205 29) rfl t205 ?_
      exact hQ (-1) m (by first | trivial | omega) (Eq.trans (if_neg h502c) (Eq.trans (if_neg h505c) rfl)) (hJ.up (by omega)) 
    · have h505c : a1 ≤ 500 := by omega
      clear h505 hz504
      refine X.iconst 14 (zi204 13) rfl rfl (by decide) ?_
      refine X.goto 18 (zi204 14) rfl rfl ?_
      refine X.cut [] (zi204 18) rfl ?_
      refine X.retz (zi204 18) rfl t204 (by omega) ?_
      show X (EE s) d 205 11 [(0, zr 4 44), (1, zi a1), (2, zi a2)] [zi 1] m _
      refine X.ifeq 28 14 (zi205 11) rfl rfl rfl (fun h507 => (by exfalso; omega)) (fun h507 => ?_)
      refine X.iload_n 15 (zi205 14) rfl rfl rfl ?_
      refine X.i2l 16 (zi205 15) rfl rfl ?_
      refine X.ldc2 19 (zi205 16) rfl rfl (by decide) ?_
      refine X.ldc2 22 (zi205 19) rfl rfl (by decide) ?_
      refine X.calls 25 [zl a2, zl (-500), zl 500] [] [(0, zl a2), (2, zl (-500)), (4, zl 500)] (zi205 22) (by decide) rfl rfl (by omega) rfl rfl t204 (Nat.le_of_ble_eq_true rfl) (Nat.le_of_ble_eq_true rfl) rfl ?_
      refine X.lload_n 1 (zi204 0) rfl rfl rfl ?_
      refine X.lload_n 2 (zi204 1) rfl rfl rfl ?_
      refine X.lcmp 3 (zi204 2) rfl rfl (fun z508 hz508 => ?_)
      refine X.iflt 17 6 (zi204 3) rfl rfl rfl (fun h509 => ?_) (fun h509 => ?_)
      · have h509c : a2 < (-500) := by omega
        clear h509 hz508
        refine X.cut [] (zi204 17) rfl ?_
        refine X.iconst 18 (zi204 17) rfl rfl (by decide) ?_
        refine X.retz (zi204 18) rfl t204 (by omega) ?_
        show X (EE s) d 205 25 [(0, zr 4 44), (1, zi a1), (2, zi a2)] [zi 0] m _
        refine X.ifne 30 28 (zi205 25) rfl rfl rfl (fun h510 => (by exfalso; omega)) (fun h510 => ?_)
        refine X.cut [] (zi205 28) rfl ?_
        refine X.iconst 29 (zi205 28) rfl rfl (by decide) ?_
        refine X.reti (zi205 29) rfl t205 ?_
        exact hQ (-1) m (by first | trivial | omega) (Eq.trans (if_neg h502c) (Eq.trans (if_pos h505c) (Eq.trans (if_pos h509c) rfl))) (hJ.up (by omega)) 
      · have h509c : ¬ a2 < (-500) := by omega
        clear h509 hz508
        refine X.lload_n 7 (zi204 6) rfl rfl rfl ?_
        refine X.lload 9 (zi204 7) rfl rfl rfl ?_
        refine X.lcmp 10 (zi204 9) rfl rfl (fun z511 hz511 => ?_)
        refine X.ifgt 17 13 (zi204 10) rfl rfl rfl (fun h512 => ?_) (fun h512 => ?_)
        · have h512c : ¬ a2 ≤ 500 := by omega
          clear h512 hz511
          refine X.cut [] (zi204 17) rfl ?_
          refine X.iconst 18 (zi204 17) rfl rfl (by decide) ?_
          refine X.retz (zi204 18) rfl t204 (by omega) ?_
          show X (EE s) d 205 25 [(0, zr 4 44), (1, zi a1), (2, zi a2)] [zi 0] m _
          refine X.ifne 30 28 (zi205 25) rfl rfl rfl (fun h513 => (by exfalso; omega)) (fun h513 => ?_)
          refine X.cut [] (zi205 28) rfl ?_
          refine X.iconst 29 (zi205 28) rfl rfl (by decide) ?_
          refine X.reti (zi205 29) rfl t205 ?_
          exact hQ (-1) m (by first | trivial | omega) (Eq.trans (if_neg h502c) (Eq.trans (if_pos h505c) (Eq.trans (if_neg h509c) (Eq.trans (if_neg h512c) rfl)))) (hJ.up (by omega)) 
        · have h512c : a2 ≤ 500 := by omega
          clear h512 hz511
          refine X.iconst 14 (zi204 13) rfl rfl (by decide) ?_
          refine X.goto 18 (zi204 14) rfl rfl ?_
          refine X.cut [] (zi204 18) rfl ?_
          refine X.retz (zi204 18) rfl t204 (by omega) ?_
          show X (EE s) d 205 25 [(0, zr 4 44), (1, zi a1), (2, zi a2)] [zi 1] m _
          refine X.ifne 30 28 (zi205 25) rfl rfl rfl (fun h514 => ?_) (fun h514 => (by exfalso; omega))
          refine X.aload_n 31 (zi205 30) rfl rfl rfl ?_
          refine X.getF 34 (zi205 31) rfl rfl (by decide) rfl rfl ?_
          refine X.iconst 35 (zi205 34) rfl rfl (by decide) ?_
          refine X.lald 36 (zi205 35) rfl rfl (by decide) rfl (by omega) ?_
          have h515 := r45_3 hJ 4
          refine X.l2i 37 (zi205 36) rfl rfl (by omega) ?_
          refine X.istore_n 38 [(0, zr 4 44), (1, zi a1), (2, zi a2), (3, zi (m 4 45 3))] (zi205 37) rfl rfl rfl ?_
          refine X.aload_n 39 (zi205 38) rfl rfl rfl ?_
          refine X.getF 42 (zi205 39) rfl rfl (by decide) rfl rfl ?_
          refine X.sipush 45 (zi205 42) rfl rfl (by decide) ?_
          refine X.iload_n 46 (zi205 45) rfl rfl rfl ?_
          refine X.aload_n 47 (zi205 46) rfl rfl rfl ?_
          refine X.callv 50 [] [zi (m 4 45 3), zi 191, zr 4 45] [(0, zr 4 44)] (zi205 47) rfl (by decide) rfl rfl (by omega) rfl rfl (by decide) rfl t206 (Nat.le_of_ble_eq_true rfl) (Nat.le_of_ble_eq_true rfl) rfl ?_
          refine X.aload_n 1 (zi206 0) rfl rfl rfl ?_
          refine X.getF 4 (zi206 1) rfl rfl (by decide) rfl rfl ?_
          refine X.iconst 5 (zi206 4) rfl rfl (by decide) ?_
          refine X.lald 6 (zi206 5) rfl rfl (by decide) rfl (by omega) ?_
          have h516 := r45_1 hJ 4
          refine X.l2i 7 (zi206 6) rfl rfl (by omega) ?_
          refine X.reti (zi206 7) rfl t206 ?_
          show X (EE s) d 205 50 [(0, zr 4 44), (1, zi a1), (2, zi a2), (3, zi (m 4 45 3))] [zi (m 4 45 1), zi (m 4 45 3), zi 191, zr 4 45] m _
          refine X.irem 51 (zi205 50) rfl rfl (by omega) ?_
          have hz517 := z_modb (x := (m 4 45 3)) (y := (m 4 45 1)) (by omega) (by omega)
          obtain ⟨z517, ez517⟩ : ∃ z, z = ((m 4 45 3) % (m 4 45 1)) := ⟨_, rfl⟩
          rw [← ez517] at hz517 ⊢
          refine X.iload_n 52 (zi205 51) rfl rfl rfl ?_
          refine X.aload_n 53 (zi205 52) rfl rfl rfl ?_
          refine X.callv 56 [] [zi (m 4 45 3), zi z517, zi 191, zr 4 45] [(0, zr 4 44)] (zi205 53) rfl (by decide) rfl rfl (by omega) rfl rfl (by decide) rfl t206 (Nat.le_of_ble_eq_true rfl) (Nat.le_of_ble_eq_true rfl) rfl ?_
          refine X.aload_n 1 (zi206 0) rfl rfl rfl ?_
          refine X.getF 4 (zi206 1) rfl rfl (by decide) rfl rfl ?_
          refine X.iconst 5 (zi206 4) rfl rfl (by decide) ?_
          refine X.lald 6 (zi206 5) rfl rfl (by decide) rfl (by omega) ?_
          refine X.l2i 7 (zi206 6) rfl rfl (by omega) ?_
          refine X.reti (zi206 7) rfl t206 ?_
          show X (EE s) d 205 56 [(0, zr 4 44), (1, zi a1), (2, zi a2), (3, zi (m 4 45 3))] [zi (m 4 45 1), zi (m 4 45 3), zi z517, zi 191, zr 4 45] m _
          refine X.idiv 57 (zi205 56) rfl rfl (by omega) ?_
          have hz518 := z_divb (x := (m 4 45 3)) (y := (m 4 45 1)) (by omega) (by omega)
          have kz518 := z_kp (x := (m 4 45 3)) (y := (m 4 45 1)) (by omega) (by omega)
          obtain ⟨z518, ez518⟩ : ∃ z, z = ((m 4 45 3) / (m 4 45 1)) := ⟨_, rfl⟩
          rw [← ez518] at hz518 ⊢
          rw [← ez518, ← ez517] at kz518
          refine X.calls 60 [zi 191, zi z517, zi z518] [zr 4 45] [(0, zi 191), (1, zi z517), (2, zi z518)] (zi205 57) (by decide) rfl rfl (by omega) rfl rfl t207 (Nat.le_of_ble_eq_true rfl) (Nat.le_of_ble_eq_true rfl) rfl ?_
          refine X.iload_n 1 (zi207 0) rfl rfl rfl ?_
          refine X.bipush 3 (zi207 1) rfl rfl (by decide) ?_
          refine X.iload_n 4 (zi207 3) rfl rfl rfl ?_
          refine X.imul 5 (zi207 4) rfl rfl (by omega) ?_
          refine X.iadd 6 (zi207 5) rfl rfl (by omega) ?_
          refine X.iload_n 7 (zi207 6) rfl rfl rfl ?_
          refine X.iadd 8 (zi207 7) rfl rfl (by omega) ?_
          refine X.reti (zi207 8) rfl t207 ?_
          show X (EE s) d 205 60 [(0, zr 4 44), (1, zi a1), (2, zi a2), (3, zi (m 4 45 3))] [zi ((191 + (16 * z517)) + z518), zr 4 45] m _
          refine X.iload_n 61 (zi205 60) rfl rfl rfl ?_
          refine X.i2l 62 (zi205 61) rfl rfl ?_
          refine X.last' 63 (zi205 62) rfl rfl (by decide) rfl (by omega) (fun hrm519 m519 hm519 => ?_)
          have hJ520 := w45_95 hJ hm519 (by omega) (by omega) hf22 hg4
          refine X.aload_n 64 (zi205 63) rfl rfl rfl ?_
          refine X.getF 67 (zi205 64) rfl rfl (by decide) rfl rfl ?_
          refine X.sipush 70 (zi205 67) rfl rfl (by decide) ?_
          refine X.iload_n 71 (zi205 70) rfl rfl rfl ?_
          refine X.aload_n 72 (zi205 71) rfl rfl rfl ?_
          refine X.callv 75 [] [zi (m 4 45 3), zi 239, zr 4 45] [(0, zr 4 44)] (zi205 72) rfl (by decide) rfl rfl (by omega) rfl rfl (by decide) rfl t206 (Nat.le_of_ble_eq_true rfl) (Nat.le_of_ble_eq_true rfl) rfl ?_
          refine X.aload_n 1 (zi206 0) rfl rfl rfl ?_
          refine X.getF 4 (zi206 1) rfl rfl (by decide) rfl rfl ?_
          refine X.iconst 5 (zi206 4) rfl rfl (by decide) ?_
          refine X.lald 6 (zi206 5) rfl rfl (by decide) rfl (by omega) ?_
          have h521 := r45_1 hJ520 4
          refine X.l2i 7 (zi206 6) rfl rfl (by omega) ?_
          refine X.reti (zi206 7) rfl t206 ?_
          show X (EE s) d 205 75 [(0, zr 4 44), (1, zi a1), (2, zi a2), (3, zi (m 4 45 3))] [zi (m519 4 45 1), zi (m 4 45 3), zi 239, zr 4 45] m519 _
          refine X.irem 76 (zi205 75) rfl rfl (by omega) ?_
          have hz522 := z_modb (x := (m 4 45 3)) (y := (m519 4 45 1)) (by omega) (by omega)
          obtain ⟨z522, ez522⟩ : ∃ z, z = ((m 4 45 3) % (m519 4 45 1)) := ⟨_, rfl⟩
          rw [← ez522] at hz522 ⊢
          refine X.iload_n 77 (zi205 76) rfl rfl rfl ?_
          refine X.aload_n 78 (zi205 77) rfl rfl rfl ?_
          refine X.callv 81 [] [zi (m 4 45 3), zi z522, zi 239, zr 4 45] [(0, zr 4 44)] (zi205 78) rfl (by decide) rfl rfl (by omega) rfl rfl (by decide) rfl t206 (Nat.le_of_ble_eq_true rfl) (Nat.le_of_ble_eq_true rfl) rfl ?_
          refine X.aload_n 1 (zi206 0) rfl rfl rfl ?_
          refine X.getF 4 (zi206 1) rfl rfl (by decide) rfl rfl ?_
          refine X.iconst 5 (zi206 4) rfl rfl (by decide) ?_
          refine X.lald 6 (zi206 5) rfl rfl (by decide) rfl (by omega) ?_
          refine X.l2i 7 (zi206 6) rfl rfl (by omega) ?_
          refine X.reti (zi206 7) rfl t206 ?_
          show X (EE s) d 205 81 [(0, zr 4 44), (1, zi a1), (2, zi a2), (3, zi (m 4 45 3))] [zi (m519 4 45 1), zi (m 4 45 3), zi z522, zi 239, zr 4 45] m519 _
          refine X.idiv 82 (zi205 81) rfl rfl (by omega) ?_
          have hz523 := z_divb (x := (m 4 45 3)) (y := (m519 4 45 1)) (by omega) (by omega)
          have kz523 := z_kp (x := (m 4 45 3)) (y := (m519 4 45 1)) (by omega) (by omega)
          obtain ⟨z523, ez523⟩ : ∃ z, z = ((m 4 45 3) / (m519 4 45 1)) := ⟨_, rfl⟩
          rw [← ez523] at hz523 ⊢
          rw [← ez523, ← ez522] at kz523
          refine X.calls 85 [zi 239, zi z522, zi z523] [zr 4 45] [(0, zi 239), (1, zi z522), (2, zi z523)] (zi205 82) (by decide) rfl rfl (by omega) rfl rfl t207 (Nat.le_of_ble_eq_true rfl) (Nat.le_of_ble_eq_true rfl) rfl ?_
          refine X.iload_n 1 (zi207 0) rfl rfl rfl ?_
          refine X.bipush 3 (zi207 1) rfl rfl (by decide) ?_
          refine X.iload_n 4 (zi207 3) rfl rfl rfl ?_
          refine X.imul 5 (zi207 4) rfl rfl (by omega) ?_
          refine X.iadd 6 (zi207 5) rfl rfl (by omega) ?_
          refine X.iload_n 7 (zi207 6) rfl rfl rfl ?_
          refine X.iadd 8 (zi207 7) rfl rfl (by omega) ?_
          refine X.reti (zi207 8) rfl t207 ?_
          show X (EE s) d 205 85 [(0, zr 4 44), (1, zi a1), (2, zi a2), (3, zi (m 4 45 3))] [zi ((239 + (16 * z522)) + z523), zr 4 45] m519 _
          refine X.iload_n 86 (zi205 85) rfl rfl rfl ?_
          refine X.i2l 87 (zi205 86) rfl rfl ?_
          refine X.last' 88 (zi205 87) rfl rfl (by decide) rfl (by omega) (fun hrm524 m524 hm524 => ?_)
          have hJ525 := w45_95 hJ520 hm524 (by omega) (by omega) hf22 hg4
          refine X.aload_n 89 (zi205 88) rfl rfl rfl ?_
          refine X.getF 92 (zi205 89) rfl rfl (by decide) rfl rfl ?_
          refine X.iconst 93 (zi205 92) rfl rfl (by decide) ?_
          refine X.dup2 94 (zi205 93) rfl rfl ?_
          refine X.lald 95 (zi205 94) rfl rfl (by decide) rfl (by omega) ?_
          have h526 := r45_3 hJ525 4
          refine X.lconst (y := 1) 96 (zi205 95) rfl rfl rfl ?_
          refine X.ladd 97 (zi205 96) rfl rfl (by omega) ?_
          refine X.last' 98 (zi205 97) rfl rfl (by decide) rfl (by omega) (fun hrm527 m527 hm527 => ?_)
          have em527 : m527 4 45 3 = ((m524 4 45 3) + 1) := by rw [hm527]; exact z_upd_same _ _ _ _ _
          have qm527_1 : m527 4 45 1 = m524 4 45 1 := by rw [hm527]; exact z_upd_o _ _ rfl
          have qqm527_1 := r45_1 hJ525 4
          have qm527_2 : m527 4 45 2 = m524 4 45 2 := by rw [hm527]; exact z_upd_o _ _ rfl
          have qqm527_2 := r45_2 hJ525 4
          refine X.aload_n 99 (zi205 98) rfl rfl rfl ?_
          refine X.getF 102 (zi205 99) rfl rfl (by decide) rfl rfl ?_
          refine X.iconst 103 (zi205 102) rfl rfl (by decide) ?_
          refine X.lald 104 (zi205 103) rfl rfl (by decide) rfl (by omega) ?_
          refine X.aload_n 105 (zi205 104) rfl rfl rfl ?_
          refine X.getF 108 (zi205 105) rfl rfl (by decide) rfl rfl ?_
          refine X.iconst 109 (zi205 108) rfl rfl (by decide) ?_
          refine X.lald 110 (zi205 109) rfl rfl (by decide) rfl (by omega) ?_
          refine X.aload_n 111 (zi205 110) rfl rfl rfl ?_
          refine X.getF 114 (zi205 111) rfl rfl (by decide) rfl rfl ?_
          refine X.iconst 115 (zi205 114) rfl rfl (by decide) ?_
          refine X.lald 116 (zi205 115) rfl rfl (by decide) rfl (by omega) ?_
          have hz529 := z_mulr (a := 1) (b := 3) (c := 4) (e := 16) (x := (m527 4 45 1)) (y := (m527 4 45 2)) (by omega) (by omega)
          refine X.lmul 117 (zi205 116) rfl rfl (z_in3 hz529 (by decide) (by decide)) ?_
          obtain ⟨z529, ez529⟩ : ∃ z, z = ((m527 4 45 1) * (m527 4 45 2)) := ⟨_, rfl⟩
          rw [← ez529] at hz529 ⊢
          have gz529 : 4 ≤ z529 ∧ z529 ≤ 48 := z_in3 hz529 (by decide) (by decide)
          clear hz529
          refine X.lcmp 118 (zi205 117) rfl rfl (fun z530 hz530 => ?_)
          refine X.ifge 129 121 (zi205 118) rfl rfl rfl (fun h531 => ?_) (fun h531 => ?_)
          · have h531c : ¬ (m527 4 45 3) < z529 := by omega
            clear h531 hz530
            refine X.cut [(0, zr 4 44)] (zi205 129) rfl ?_
            refine X.aload_n 130 (zi205 129) rfl rfl rfl ?_
            refine X.getF 133 (zi205 130) rfl rfl (by decide) rfl rfl ?_
            refine X.iconst 134 (zi205 133) rfl rfl (by decide) ?_
            refine X.lconst (y := 0) 135 (zi205 134) rfl rfl rfl ?_
            refine X.last' 136 (zi205 135) rfl rfl (by decide) rfl (by omega) (fun hrm532 m532 hm532 => ?_)
            have hJ533 := w45_3 (x := 0) hJ525 (show m532 = z_upd m524 4 45 3 0 by rw [hm532, hm527]; exact z_upd_upd _ _ _ _ _ _) (by omega) hf22 hg4
            refine X.iconst 137 (zi205 136) rfl rfl (by decide) ?_
            refine X.istore 139 [(0, zr 4 44), (4, zi 0)] (zi205 137) rfl rfl rfl ?_
            have hz97 := zfu_eq 97
            refine l205_139_1 (s := s) (d := d) (R0 := (f205_1 a1 a2 m))    (BE := B + 0) (by omega) (by omega) hf22 hg4 (fun  m534 B535 hJ536 hBB535 hR537 => ?_) (zfu 97) 0 m532 (B) (hJ533.up (by omega)) (by omega) (by omega) (by omega) (Eq.trans (if_neg h502c) (Eq.trans (if_pos h505c) (Eq.trans (if_neg h509c) (Eq.trans (if_pos h512c) (Eq.trans (zn_eq ez517) (Eq.trans (zn_eq ez518) (Eq.trans (zs_eq hm519) (Eq.trans (zn_eq ez522) (Eq.trans (zn_eq ez523) (Eq.trans (zs_eq hm524) (Eq.trans (zs_eq hm527) (Eq.trans (zn_eq ez529) (Eq.trans (if_neg h531c) (Eq.trans (zs_eq hm532) rfl))))))))))))))
            refine X.aload_n 174 (zi205 173) rfl rfl rfl ?_
            refine X.callv 177 [] [] [(0, zr 4 44)] (zi205 174) rfl (by decide) rfl rfl (by omega) rfl rfl (by decide) rfl t208 (Nat.le_of_ble_eq_true rfl) (Nat.le_of_ble_eq_true rfl) rfl ?_
            refine c208_1 (B := B535)   (by omega) (hJ536.up (by omega)) (by omega)  hf26 hf27 hf28 hf29 hf30 hf31 hf32 hf33 hg4 (fun m538 hFv540 hJ539 => ?_)
            show X (EE s) d 205 177 [(0, zr 4 44)] [] m538 _
            refine X.iconst 178 (zi205 177) rfl rfl (by decide) ?_
            refine X.reti (zi205 178) rfl t205 ?_
            exact hQ 0 m538 (by first | trivial | omega) (Eq.trans hR537 (Eq.trans (zs_eq hFv540.symm) rfl)) (hJ539.up (by omega)) 
          · have h531c : (m527 4 45 3) < z529 := by omega
            clear h531 hz530
            refine X.aload_n 122 (zi205 121) rfl rfl rfl ?_
            refine X.getF 125 (zi205 122) rfl rfl (by decide) rfl rfl ?_
            refine X.iconst 126 (zi205 125) rfl rfl (by decide) ?_
            refine X.lald 127 (zi205 126) rfl rfl (by decide) rfl (by omega) ?_
            refine X.l2i 128 (zi205 127) rfl rfl (by omega) ?_
            have hJ541 := w45_3 hJ525 hm527 (by omega) hf22 hg4
            refine X.reti (zi205 128) rfl t205 ?_
            exact hQ (m527 4 45 3) m527 (by first | trivial | omega) (Eq.trans (if_neg h502c) (Eq.trans (if_pos h505c) (Eq.trans (if_neg h509c) (Eq.trans (if_pos h512c) (Eq.trans (zn_eq ez517) (Eq.trans (zn_eq ez518) (Eq.trans (zs_eq hm519) (Eq.trans (zn_eq ez522) (Eq.trans (zn_eq ez523) (Eq.trans (zs_eq hm524) (Eq.trans (zs_eq hm527) (Eq.trans (zn_eq ez529) (Eq.trans (if_pos h531c) rfl))))))))))))) (hJ541.up (by omega)) 
noncomputable def fl72_16_1_b (self : Int → Int → Int) (k37 : Int → Int) (g0 : Nat) (y1 : Int) (m : zM) (y3 y5 : Int) : Int :=
  if 4 ≤ y5 then
  (k37 y3)
  else
  (zn (w64 (y3 + (m g0 24 (y1 + y5)))) fun z506 =>
  self z506 (y5 + 1))
noncomputable def fl72_16_1 (k37 : Int → Int) (g0 : Nat) (y1 : Int) (m : zM) : Nat → Int → Int → Int
  | 0 => fun y3 y5 => 0
  | n + 1 => fl72_16_1_b (fl72_16_1 k37 g0 y1 m n) k37 g0 y1 m
theorem l72_16_1 {s : Nat × (Nat → Int32)} {S : zS} {m0 : zM} {m : zM} {B : Int} {d : Nat} {Q : Option zV → zM → Prop} {R0 : Int} {k37 : Int → Int} (g0 : Nat) (y1 : Int) (hd : 13 ≤ d) (hJ : J S m0 B m) (hB9 : B ≤ 1000000000) (hy1 : 0 ≤ y1 ∧ y1 ≤ 24)
    (K37 : ∀ (x3 : Int) , (True) → R0 = k37 x3 → X (EE s) d 72 37 [(3, zl x3)] [] m Q) :
    ∀ (n : Nat) (y3 y5 : Int) , (0 ≤ y5 ∧ y5 ≤ 4) → 4 - y5 < (n : Int) → R0 = fl72_16_1 k37 g0 y1 m n y3 y5 → X (EE s) d 72 16 [(0, zr g0 24), (1, zi y1), (3, zl y3), (5, zi y5)] [] m Q := by
  intro n
  induction n with
  | zero =>
    intro y3 y5 hy5 hn hR
    exfalso
    omega
  | succ n ih =>
    intro y3 y5 hy5 hn hR
    replace hR : R0 = fl72_16_1_b (fl72_16_1 k37 g0 y1 m n) k37 g0 y1 m y3 y5 := hR
    refine X.iload 18 (zi72 16) rfl rfl rfl ?_
    refine X.iconst 19 (zi72 18) rfl rfl (by decide) ?_
    refine X.icmpge 37 22 (zi72 19) rfl rfl rfl (fun h505 => ?_) (fun h505 => ?_)
    · refine X.cut [(3, zl y3)] (zi72 37) rfl ?_
      exact K37 y3 (by first | trivial | omega) (Eq.trans hR (Eq.trans (if_pos h505) rfl))
    · refine X.lload_n 23 (zi72 22) rfl rfl rfl ?_
      refine X.aload_n 24 (zi72 23) rfl rfl rfl ?_
      refine X.iload_n 25 (zi72 24) rfl rfl rfl ?_
      refine X.iload 27 (zi72 25) rfl rfl rfl ?_
      refine X.iadd 28 (zi72 27) rfl rfl (by omega) ?_
      refine X.lald 29 (zi72 28) rfl rfl (by decide) rfl (by omega) ?_
      refine X.laddW 30 (zi72 29) rfl rfl (fun z506 ez506 hz506 => ?_)
      refine X.lstore_n 31 [(0, zr g0 24), (1, zi y1), (3, zl z506), (5, zi y5)] (zi72 30) rfl rfl rfl ?_
      refine X.iinc 34 [(0, zr g0 24), (1, zi y1), (3, zl z506), (5, zi (y5 + 1))] (zi72 31) rfl rfl rfl (by omega) rfl ?_
      refine X.goto 16 (zi72 34) rfl rfl ?_
      exact ih z506 (y5 + 1) (by omega) (by omega) (Eq.trans hR (Eq.trans (if_neg h505) (Eq.trans (zn_eq ez506) rfl)))
-- WorkMeter$Registers.sumIn
noncomputable def f72_1 (g0 : Nat) (a1 a2 : Int) (m : zM) : Int :=
  if a2 = (-1) then
  (fl72_16_1 (fun y502 =>
  y502) g0 a1 m (zfu 5) 0 0)
  else
  ((m g0 24 (a1 + a2)))
-- WorkMeter$Registers.sumIn
theorem c72_1 {s : Nat × (Nat → Int32)} {S : zS} {m0 m : zM} {B : Int} {d : Nat} {Q : Option zV → zM → Prop} (g0 : Nat) (a1 a2 : Int) (hd : 13 ≤ d) (hJ : J S m0 B m) (hB : B + 0 ≤ 1000000000) (ha1 : 0 ≤ a1 ∧ a1 ≤ 24) (ha2 : (-1) ≤ a2 ∧ a2 ≤ 3) (hQ : ∀ (v : Int), (True) → f72_1 g0 a1 a2 m = v → Q (some (zl v)) m) : X (EE s) d 72 0 [(0, zr g0 24), (1, zi a1), (2, zi a2)] [] m Q := by
  refine X.iload_n 1 (zi72 0) rfl rfl rfl ?_
  refine X.iconst 2 (zi72 1) rfl rfl (by decide) ?_
  refine X.icmpeq 11 5 (zi72 2) rfl rfl rfl (fun h501 => ?_) (fun h501 => ?_)
  · refine X.cut [(0, zr g0 24), (1, zi a1)] (zi72 11) rfl ?_
    refine X.lconst (y := 0) 12 (zi72 11) rfl rfl rfl ?_
    refine X.lstore_n 13 [(0, zr g0 24), (1, zi a1), (3, zl 0)] (zi72 12) rfl rfl rfl ?_
    refine X.iconst 14 (zi72 13) rfl rfl (by decide) ?_
    refine X.istore 16 [(0, zr g0 24), (1, zi a1), (3, zl 0), (5, zi 0)] (zi72 14) rfl rfl rfl ?_
    have hz5 := zfu_eq 5
    refine l72_16_1 (s := s) (m := m) (B := B) (d := d) (R0 := (f72_1 g0 a1 a2 m)) g0 a1  (by omega) (hJ.up (by omega)) (by omega) (by omega) (fun y502 hby502 hR506 => ?_) (zfu 5) 0 0 (by omega) (by omega) (Eq.trans (if_pos h501) rfl)
    refine X.lload_n 38 (zi72 37) rfl rfl rfl ?_
    refine X.retl (zi72 38) rfl t72 ?_
    exact hQ y502 (by first | trivial | omega) (Eq.trans hR506 rfl) 
  · refine X.aload_n 6 (zi72 5) rfl rfl rfl ?_
    refine X.iload_n 7 (zi72 6) rfl rfl rfl ?_
    refine X.iload_n 8 (zi72 7) rfl rfl rfl ?_
    refine X.iadd 9 (zi72 8) rfl rfl (by omega) ?_
    refine X.lald 10 (zi72 9) rfl rfl (by decide) rfl (by omega) ?_
    refine X.retl (zi72 10) rfl t72 ?_
    exact hQ (m g0 24 (a1 + a2)) (by first | trivial | omega) (Eq.trans (if_neg h501) rfl) 
-- WorkMeter$Registers.sum
noncomputable def f71_1 (g0 : Nat) (a1 a2 : Int) (m : zM) : Int :=
  zn (f72_1 g0 (a1 * 4) a2 m) fun v503 =>
  v503
-- WorkMeter$Registers.sum
theorem c71_1 {s : Nat × (Nat → Int32)} {S : zS} {m0 m : zM} {B : Int} {d : Nat} {Q : Option zV → zM → Prop} (g0 : Nat) (a1 a2 : Int) (hd : 14 ≤ d) (hJ : J S m0 B m) (hB : B + 0 ≤ 1000000000) (ha1 : 0 ≤ a1 ∧ a1 ≤ 0) (ha2 : (-1) ≤ a2 ∧ a2 ≤ (-1)) (hQ : ∀ (v : Int), (True) → f71_1 g0 a1 a2 m = v → Q (some (zl v)) m) : X (EE s) d 71 0 [(0, zr g0 23), (1, zi a1), (2, zi a2)] [] m Q := by
  refine X.aload_n 1 (zi71 0) rfl rfl rfl ?_
  refine X.getR 4 (zi71 1) rfl rfl (by decide) rfl rfl ?_
  refine X.iload_n 5 (zi71 4) rfl rfl rfl ?_
  refine X.iconst 6 (zi71 5) rfl rfl (by decide) ?_
  refine X.imul 7 (zi71 6) rfl rfl (by omega) ?_
  refine X.iload_n 8 (zi71 7) rfl rfl rfl ?_
  refine X.calls 11 [zr g0 24, zi (a1 * 4), zi a2] [] [(0, zr g0 24), (1, zi (a1 * 4)), (2, zi a2)] (zi71 8) (by decide) rfl rfl (by omega) rfl rfl t72 (Nat.le_of_ble_eq_true rfl) (Nat.le_of_ble_eq_true rfl) rfl ?_
  refine c72_1 (B := B) g0 (a1 * 4) a2 (by omega) (hJ.up (by omega)) (by omega) (by omega) (by omega) (fun v503 hv503 hFv503 => ?_)
  show X (EE s) d 71 11 [(0, zr g0 23), (1, zi a1), (2, zi a2)] [zl v503] m _
  refine X.retl (zi71 11) rfl t71 ?_
  exact hQ v503 (by first | trivial | omega) (Eq.trans (zn_eq hFv503.symm) rfl) 
-- WorkMeter$Meter.totalReading
noncomputable def f70_1 (g0 : Nat) (a1 : Int) (m : zM) : Int :=
  zn (f71_1 g0 a1 (-1) m) fun v503 =>
  zn (w64 ((v503).tdiv (max 1 (m g0 10 1)))) fun z505 =>
  z505
-- WorkMeter$Meter.totalReading
theorem c70_1 {s : Nat × (Nat → Int32)} {S : zS} {m0 m : zM} {B : Int} {d : Nat} {Q : Option zV → zM → Prop} (g0 : Nat) (a1 : Int) (hd : 15 ≤ d) (hJ : J S m0 B m) (hB : B + 0 ≤ 1000000000) (ha1 : 0 ≤ a1 ∧ a1 ≤ 0) (hQ : ∀ (v : Int), (True) → f70_1 g0 a1 m = v → Q (some (zl v)) m) : X (EE s) d 70 0 [(0, zr g0 8), (1, zi a1)] [] m Q := by
  refine X.aload_n 1 (zi70 0) rfl rfl rfl ?_
  refine X.getR 4 (zi70 1) rfl rfl (by decide) rfl rfl ?_
  refine X.iload_n 5 (zi70 4) rfl rfl rfl ?_
  refine X.iconst 6 (zi70 5) rfl rfl (by decide) ?_
  refine X.callv 9 [zi a1, zi (-1)] [] [(0, zr g0 23), (1, zi a1), (2, zi (-1))] (zi70 6) rfl (by decide) rfl rfl (by omega) rfl rfl (by decide) rfl t71 (Nat.le_of_ble_eq_true rfl) (Nat.le_of_ble_eq_true rfl) rfl ?_
  refine c71_1 (B := B) g0 a1 (-1) (by omega) (hJ.up (by omega)) (by omega) (by omega) (by omega) (fun v503 hv503 hFv503 => ?_)
  show X (EE s) d 70 9 [(0, zr g0 8), (1, zi a1)] [zl v503] m _
  refine X.aload_n 10 (zi70 9) rfl rfl rfl ?_
  refine X.getR 13 (zi70 10) rfl rfl (by decide) rfl rfl ?_
  refine X.callv 16 [] [zl v503] [(0, zr g0 9)] (zi70 13) rfl (by decide) rfl rfl (by omega) rfl rfl (by decide) rfl t48 (Nat.le_of_ble_eq_true rfl) (Nat.le_of_ble_eq_true rfl) rfl ?_
  refine X.iconst 1 (zi48 0) rfl rfl (by decide) ?_
  refine X.aload_n 2 (zi48 1) rfl rfl rfl ?_
  refine X.getR 5 (zi48 2) rfl rfl (by decide) rfl rfl ?_
  refine X.iconst 6 (zi48 5) rfl rfl (by decide) ?_
  refine X.iald 7 (zi48 6) rfl rfl (by decide) rfl (by omega) ?_
  have h504 := r10_0 hJ g0 (i := 1) (by omega)
  refine X.maxI 10 (zi48 7) rfl rfl (by omega) (Nat.le_of_ble_eq_true rfl) ?_
  refine X.reti (zi48 10) rfl t48 ?_
  show X (EE s) d 70 16 [(0, zr g0 8), (1, zi a1)] [zi (max 1 (m g0 10 1)), zl v503] m _
  refine X.i2l 17 (zi70 16) rfl rfl ?_
  refine X.ldivW 18 (zi70 17) rfl rfl (by omega) (fun z505 ez505 hz505 => ?_)
  refine X.retl (zi70 18) rfl t70 ?_
  exact hQ z505 (by first | trivial | omega) (Eq.trans (zn_eq hFv503.symm) (Eq.trans (zn_eq ez505) rfl)) 
-- WorkMeter.again
noncomputable def f69_1 (a1 : Int) (m : zM) : Int × zM :=
  if a1 < 1 then
  (((-1), m))
  else
  (if a1 ≤ 900 then
  (zs (f25_1 0 a1 m) fun m503 =>
  zn (f70_1 0 0 m503) fun v508 =>
  (v508, m503))
  else
  (((-1), m)))
-- WorkMeter.again
theorem c69_1 {s : Nat × (Nat → Int32)} {S : zS} {m0 m : zM} {B : Int} {d : Nat} {Q : Option zV → zM → Prop} (a1 : Int) (hd : 19 ≤ d) (hJ : J S m0 B m) (hB : B + 7208 ≤ 1000000000) (ha1 : (-2147483648) ≤ a1 ∧ a1 ≤ 2147483647) (hf6 : ¬ S.1 6) (hf7 : ¬ S.1 7) (hf8 : ¬ S.1 8) (hf9 : ¬ S.1 9) (hf10 : ¬ S.1 10) (hf11 : ¬ S.1 11) (hf12 : ¬ S.1 12) (hf13 : ¬ S.1 13) (hg0 : ¬ S.2.1 0) (hQ : ∀ (v : Int) m', (True) → f69_1 a1 m = (v, m') → J S m0 (B + 7208) m' → Q (some (zl v)) m') : X (EE s) d 69 0 [(0, zr 4 40), (1, zi a1)] [] m Q := by
  refine X.iload_n 1 (zi69 0) rfl rfl rfl ?_
  refine X.iconst 2 (zi69 1) rfl rfl (by decide) ?_
  refine X.icmplt 12 5 (zi69 2) rfl rfl rfl (fun h501 => ?_) (fun h501 => ?_)
  · refine X.cut [] (zi69 12) rfl ?_
    refine X.ldc2 15 (zi69 12) rfl rfl (by decide) ?_
    refine X.retl (zi69 15) rfl t69 ?_
    exact hQ (-1) m (by first | trivial | omega) (Eq.trans (if_pos h501) rfl) (hJ.up (by omega)) 
  · refine X.iload_n 6 (zi69 5) rfl rfl rfl ?_
    refine X.sipush 9 (zi69 6) rfl rfl (by decide) ?_
    refine X.icmple 16 12 (zi69 9) rfl rfl rfl (fun h502 => ?_) (fun h502 => ?_)
    · refine X.aload_n 17 (zi69 16) rfl rfl rfl ?_
      refine X.getF 20 (zi69 17) rfl rfl (by decide) rfl rfl ?_
      refine X.iload_n 21 (zi69 20) rfl rfl rfl ?_
      refine X.callv 24 [zi a1] [] [(0, zr 0 8), (1, zi a1)] (zi69 21) rfl (by decide) rfl rfl (by omega) rfl rfl (by decide) rfl t25 (Nat.le_of_ble_eq_true rfl) (Nat.le_of_ble_eq_true rfl) rfl ?_
      refine c25_1 (B := B) 0 a1 (by omega) (hJ.up (by omega)) (by omega) (by omega) hf6 hf7 hf8 hf9 hf10 hf11 hf12 hf13 hg0 (fun m503 hFv505 hJ504 => ?_)
      show X (EE s) d 69 24 [(0, zr 4 40), (1, zi a1)] [] m503 _
      refine X.aload_n 25 (zi69 24) rfl rfl rfl ?_
      refine X.getF 28 (zi69 25) rfl rfl (by decide) rfl rfl ?_
      refine X.iconst 29 (zi69 28) rfl rfl (by decide) ?_
      refine X.callv 32 [zi 0] [] [(0, zr 0 8), (1, zi 0)] (zi69 29) rfl (by decide) rfl rfl (by omega) rfl rfl (by decide) rfl t70 (Nat.le_of_ble_eq_true rfl) (Nat.le_of_ble_eq_true rfl) rfl ?_
      refine c70_1 (B := B + 7208) 0 0 (by omega) (hJ504.up (by omega)) (by omega) (by omega) (fun v508 hv508 hFv508 => ?_)
      show X (EE s) d 69 32 [(0, zr 4 40), (1, zi a1)] [zl v508] m503 _
      refine X.retl (zi69 32) rfl t69 ?_
      exact hQ v508 m503 (by first | trivial | omega) (Eq.trans (if_neg h501) (Eq.trans (if_pos h502) (Eq.trans (zs_eq hFv505.symm) (Eq.trans (zn_eq hFv508.symm) rfl)))) (hJ504.up (by omega)) 
    · refine X.cut [] (zi69 12) rfl ?_
      refine X.ldc2 15 (zi69 12) rfl rfl (by decide) ?_
      refine X.retl (zi69 15) rfl t69 ?_
      exact hQ (-1) m (by first | trivial | omega) (Eq.trans (if_neg h501) (Eq.trans (if_neg h502) rfl)) (hJ.up (by omega)) 
noncomputable def fl279_18_1_b (self : Int → zM → Int × zM) (k33 : zM → Int × zM) (y1 : Int) (y2 : Int) (m : zM) : Int × zM :=
  if y1 ≤ y2 then
  (k33 m)
  else
  (zs (f208_1 m) fun m506 =>
  self (y2 + 1) m506)
noncomputable def fl279_18_1 (k33 : zM → Int × zM) (y1 : Int) : Nat → Int → zM → Int × zM
  | 0 => fun y2 m => (0, m)
  | n + 1 => fl279_18_1_b (fl279_18_1 k33 y1 n) k33 y1
theorem l279_18_1 {s : Nat × (Nat → Int32)} {S : zS} {m0 : zM} {d : Nat} {Q : Option zV → zM → Prop} {R0 : Int × zM} {k33 : zM → Int × zM} (y1 : Int) (BE : Int) (hE : BE ≤ 1000000000) (hd : 20 ≤ d) (hy1 : 1 ≤ y1 ∧ y1 ≤ 900) (hf26 : ¬ S.1 26) (hf27 : ¬ S.1 27) (hf28 : ¬ S.1 28) (hf29 : ¬ S.1 29) (hf30 : ¬ S.1 30) (hf31 : ¬ S.1 31) (hf32 : ¬ S.1 32) (hf33 : ¬ S.1 33) (hg4 : ¬ S.2.1 4)
    (K33 : ∀ (m' : zM) (B' : Int), J S m0 B' m' → B' ≤ BE → R0 = k33 m' → X (EE s) d 279 33 [(0, zr 4 44)] [] m' Q) :
    ∀ (n : Nat) (y2 : Int) (m : zM) (B : Int), J S m0 B m → B + 11 * (n : Int) ≤ BE → (0 ≤ y2 ∧ y2 ≤ 900) → 900 - y2 < (n : Int) → R0 = fl279_18_1 k33 y1 n y2 m → X (EE s) d 279 18 [(0, zr 4 44), (1, zi y1), (2, zi y2)] [] m Q := by
  intro n
  induction n with
  | zero =>
    intro y2 m B hJ hB hy2 hn hR
    exfalso
    omega
  | succ n ih =>
    intro y2 m B hJ hB hy2 hn hR
    replace hR : R0 = fl279_18_1_b (fl279_18_1 k33 y1 n) k33 y1 y2 m := hR
    refine X.iload_n 19 (zi279 18) rfl rfl rfl ?_
    refine X.iload_n 20 (zi279 19) rfl rfl rfl ?_
    refine X.icmpge 33 23 (zi279 20) rfl rfl rfl (fun h505 => ?_) (fun h505 => ?_)
    · refine X.cut [(0, zr 4 44)] (zi279 33) rfl ?_
      exact K33  m (B) (hJ.up (by omega)) (by omega)  (Eq.trans hR (Eq.trans (if_pos h505) rfl))
    · refine X.aload_n 24 (zi279 23) rfl rfl rfl ?_
      refine X.callv 27 [] [] [(0, zr 4 44)] (zi279 24) rfl (by decide) rfl rfl (by omega) rfl rfl (by decide) rfl t208 (Nat.le_of_ble_eq_true rfl) (Nat.le_of_ble_eq_true rfl) rfl ?_
      refine c208_1 (B := B)   (by omega) (hJ.up (by omega)) (by omega)  hf26 hf27 hf28 hf29 hf30 hf31 hf32 hf33 hg4 (fun m506 hFv508 hJ507 => ?_)
      show X (EE s) d 279 27 [(0, zr 4 44), (1, zi y1), (2, zi y2)] [] m506 _
      refine X.iinc 30 [(0, zr 4 44), (1, zi y1), (2, zi (y2 + 1))] (zi279 27) rfl rfl rfl (by omega) rfl ?_
      refine X.goto 18 (zi279 30) rfl rfl ?_
      exact ih (y2 + 1) m506 (B + 11) (hJ507.up (by omega)) (by omega) (by omega) (by omega) (Eq.trans hR (Eq.trans (if_neg h505) (Eq.trans (zs_eq hFv508.symm) rfl)))
-- WorkMeterModel.again
noncomputable def f279_1 (a1 : Int) (m : zM) : Int × zM :=
  if a1 < 1 then
  (((-1), m))
  else
  (if a1 ≤ 900 then
  (fl279_18_1 (fun m508 =>
  zn (w64 (((m508 4 45 64)).tdiv (m508 4 45 5))) fun z513 =>
  (z513, m508)) a1 (zfu 901) 0 m)
  else
  (((-1), m)))
-- WorkMeterModel.again
theorem c279_1 {s : Nat × (Nat → Int32)} {S : zS} {m0 m : zM} {B : Int} {d : Nat} {Q : Option zV → zM → Prop} (a1 : Int) (hd : 20 ≤ d) (hJ : J S m0 B m) (hB : B + 9911 ≤ 1000000000) (ha1 : (-2147483648) ≤ a1 ∧ a1 ≤ 2147483647) (hf26 : ¬ S.1 26) (hf27 : ¬ S.1 27) (hf28 : ¬ S.1 28) (hf29 : ¬ S.1 29) (hf30 : ¬ S.1 30) (hf31 : ¬ S.1 31) (hf32 : ¬ S.1 32) (hf33 : ¬ S.1 33) (hg4 : ¬ S.2.1 4) (hQ : ∀ (v : Int) m', (True) → f279_1 a1 m = (v, m') → J S m0 (B + 9911) m' → Q (some (zl v)) m') : X (EE s) d 279 0 [(0, zr 4 44), (1, zi a1)] [] m Q := by
  refine X.iload_n 1 (zi279 0) rfl rfl rfl ?_
  refine X.i2l 2 (zi279 1) rfl rfl ?_
  refine X.lconst (y := 1) 3 (zi279 2) rfl rfl rfl ?_
  refine X.ldc2 6 (zi279 3) rfl rfl (by decide) ?_
  refine X.calls 9 [zl a1, zl 1, zl 900] [] [(0, zl a1), (2, zl 1), (4, zl 900)] (zi279 6) (by decide) rfl rfl (by omega) rfl rfl t204 (Nat.le_of_ble_eq_true rfl) (Nat.le_of_ble_eq_true rfl) rfl ?_
  refine X.lload_n 1 (zi204 0) rfl rfl rfl ?_
  refine X.lload_n 2 (zi204 1) rfl rfl rfl ?_
  refine X.lcmp 3 (zi204 2) rfl rfl (fun z501 hz501 => ?_)
  refine X.iflt 17 6 (zi204 3) rfl rfl rfl (fun h502 => ?_) (fun h502 => ?_)
  · have h502c : a1 < 1 := by omega
    clear h502 hz501
    refine X.cut [] (zi204 17) rfl ?_
    refine X.iconst 18 (zi204 17) rfl rfl (by decide) ?_
    refine X.retz (zi204 18) rfl t204 (by omega) ?_
    show X (EE s) d 279 9 [(0, zr 4 44), (1, zi a1)] [zi 0] m _
    refine X.ifne 16 12 (zi279 9) rfl rfl rfl (fun h503 => (by exfalso; omega)) (fun h503 => ?_)
    refine X.ldc2 15 (zi279 12) rfl rfl (by decide) ?_
    refine X.retl (zi279 15) rfl t279 ?_
    exact hQ (-1) m (by first | trivial | omega) (Eq.trans (if_pos h502c) rfl) (hJ.up (by omega)) 
  · have h502c : ¬ a1 < 1 := by omega
    clear h502 hz501
    refine X.lload_n 7 (zi204 6) rfl rfl rfl ?_
    refine X.lload 9 (zi204 7) rfl rfl rfl ?_
    refine X.lcmp 10 (zi204 9) rfl rfl (fun z504 hz504 => ?_)
    refine X.ifgt 17 13 (zi204 10) rfl rfl rfl (fun h505 => ?_) (fun h505 => ?_)
    · have h505c : ¬ a1 ≤ 900 := by omega
      clear h505 hz504
      refine X.cut [] (zi204 17) rfl ?_
      refine X.iconst 18 (zi204 17) rfl rfl (by decide) ?_
      refine X.retz (zi204 18) rfl t204 (by omega) ?_
      show X (EE s) d 279 9 [(0, zr 4 44), (1, zi a1)] [zi 0] m _
      refine X.ifne 16 12 (zi279 9) rfl rfl rfl (fun h506 => (by exfalso; omega)) (fun h506 => ?_)
      refine X.ldc2 15 (zi279 12) rfl rfl (by decide) ?_
      refine X.retl (zi279 15) rfl t279 ?_
      exact hQ (-1) m (by first | trivial | omega) (Eq.trans (if_neg h502c) (Eq.trans (if_neg h505c) rfl)) (hJ.up (by omega)) 
    · have h505c : a1 ≤ 900 := by omega
      clear h505 hz504
      refine X.iconst 14 (zi204 13) rfl rfl (by decide) ?_
      refine X.goto 18 (zi204 14) rfl rfl ?_
      refine X.cut [] (zi204 18) rfl ?_
      refine X.retz (zi204 18) rfl t204 (by omega) ?_
      show X (EE s) d 279 9 [(0, zr 4 44), (1, zi a1)] [zi 1] m _
      refine X.ifne 16 12 (zi279 9) rfl rfl rfl (fun h507 => ?_) (fun h507 => (by exfalso; omega))
      refine X.iconst 17 (zi279 16) rfl rfl (by decide) ?_
      refine X.istore_n 18 [(0, zr 4 44), (1, zi a1), (2, zi 0)] (zi279 17) rfl rfl rfl ?_
      have hz901 := zfu_eq 901
      refine l279_18_1 (s := s) (d := d) (R0 := (f279_1 a1 m))  a1  (BE := B + 9911) (by omega) (by omega) (by omega) hf26 hf27 hf28 hf29 hf30 hf31 hf32 hf33 hg4 (fun  m508 B509 hJ510 hBB509 hR511 => ?_) (zfu 901) 0 m (B) (hJ.up (by omega)) (by omega) (by omega) (by omega) (Eq.trans (if_neg h502c) (Eq.trans (if_pos h505c) rfl))
      refine X.aload_n 34 (zi279 33) rfl rfl rfl ?_
      refine X.getF 37 (zi279 34) rfl rfl (by decide) rfl rfl ?_
      refine X.bipush 39 (zi279 37) rfl rfl (by decide) ?_
      refine X.lald 40 (zi279 39) rfl rfl (by decide) rfl (by omega) ?_
      refine X.aload_n 41 (zi279 40) rfl rfl rfl ?_
      refine X.getF 44 (zi279 41) rfl rfl (by decide) rfl rfl ?_
      refine X.iconst 45 (zi279 44) rfl rfl (by decide) ?_
      refine X.lald 46 (zi279 45) rfl rfl (by decide) rfl (by omega) ?_
      have h512 := r45_5 hJ510 4
      refine X.ldivW 47 (zi279 46) rfl rfl (by omega) (fun z513 ez513 hz513 => ?_)
      refine X.retl (zi279 47) rfl t279 ?_
      exact hQ z513 m508 (by first | trivial | omega) (Eq.trans hR511 (Eq.trans (zn_eq ez513) rfl)) (hJ510.up (by omega)) 
end
