-- WorkMeterModel.open
noncomputable def f277_1 (a1 : Int) (m : zM) : Int × zM :=
  if (m 4 45 1614) = 0 then
  ((0, m))
  else
  (zn (f278_1 m) fun v506 =>
  if v506 ≤ 0 then
  (if a1 = (m 4 45 1615) then
  (zs (z_upd m 4 45 1614 0) fun m529 =>
  zs (z_upd m529 4 45 1616 0) fun m531 =>
  zs (z_upd m531 4 45 1617 0) fun m533 =>
  zs (f223_1 31 0 m533) fun m535 =>
  (1, m535))
  else
  (zs (z_upd m 4 45 1616 ((m 4 45 1616) + 1)) fun m512 =>
  zs (f223_1 32 (m512 4 45 1616) m512) fun m515 =>
  if (m515 4 45 1616) < 3 then
  ((0, m515))
  else
  (zs (z_upd m515 4 45 1616 0) fun m521 =>
  zs (z_upd m521 4 45 1617 ((m521 4 45 0) + 300)) fun m524 =>
  zs (f223_1 33 0 m524) fun m526 =>
  (0, m526))))
  else
  ((0, m)))
-- WorkMeterModel.open
theorem c277_1 {s : Nat × (Nat → Int32)} {S : zS} {m0 m : zM} {B : Int} {d : Nat} {Q : Option zV → zM → Prop} (a1 : Int) (hd : 14 ≤ d) (hJ : J S m0 B m) (hB : B + 4 ≤ 1000000000) (ha1 : (-2147483648) ≤ a1 ∧ a1 ≤ 2147483647) (hf4 : ¬ S.1 4) (hf6 : ¬ S.1 6) (hg4 : ¬ S.2.1 4) (hQ : ∀ (v : Int) m', (0 ≤ v ∧ v ≤ 1) → f277_1 a1 m = (v, m') → J S m0 (B + 4) m' → Q (some (zi v)) m') : X (EE s) d 277 0 [(0, zr 4 44), (1, zi a1)] [] m Q := by
  refine X.aload_n 1 i277_0 rfl rfl rfl ?_
  refine X.getF 4 i277_1 rfl rfl (by decide) rfl rfl ?_
  refine X.sipush 7 i277_4 rfl rfl (by decide) ?_
  refine X.lald 8 i277_7 rfl rfl (by decide) rfl (by omega) ?_
  have h501 := r45_1614 hJ 4
  refine X.lconst (y := 0) 9 i277_8 rfl rfl rfl ?_
  refine X.lcmp 10 i277_9 rfl rfl (fun z502 hz502 => ?_)
  refine X.ifeq 22 13 i277_10 rfl rfl rfl (fun h503 => ?_) (fun h503 => ?_)
  · have h503c : (m 4 45 1614) = 0 := by omega
    clear h503 hz502
    refine X.cut [] i277_22 rfl ?_
    refine X.iconst 23 i277_22 rfl rfl (by decide) ?_
    refine X.retz i277_23 rfl t277 (by omega) ?_
    exact hQ 0 m (by first | trivial | omega) (Eq.trans (if_pos h503c) rfl) (hJ.up (by omega)) 
  · have h503c : ¬ (m 4 45 1614) = 0 := by omega
    clear h503 hz502
    refine X.aload_n 14 i277_13 rfl rfl rfl ?_
    refine X.callv 17 [] [] [(0, zr 4 44)] i277_14 rfl (by decide) rfl rfl (by omega) rfl rfl (by decide) rfl t278 (Nat.le_of_ble_eq_true rfl) (Nat.le_of_ble_eq_true rfl) rfl ?_
    refine c278_1 (B := B)   (by omega) (hJ.up (by omega)) (by omega)  (fun v506 hv506 hFv506 => ?_)
    show X (EE s) d 277 17 [(0, zr 4 44), (1, zi a1)] [zl v506] m _
    refine X.lconst (y := 0) 18 i277_17 rfl rfl rfl ?_
    refine X.lcmp 19 i277_18 rfl rfl (fun z507 hz507 => ?_)
    refine X.ifle 24 22 i277_19 rfl rfl rfl (fun h508 => ?_) (fun h508 => ?_)
    · have h508c : v506 ≤ 0 := by omega
      clear h508 hz507
      refine X.iload_n 25 i277_24 rfl rfl rfl ?_
      refine X.i2l 26 i277_25 rfl rfl ?_
      refine X.aload_n 27 i277_26 rfl rfl rfl ?_
      refine X.getF 30 i277_27 rfl rfl (by decide) rfl rfl ?_
      refine X.sipush 33 i277_30 rfl rfl (by decide) ?_
      refine X.lald 34 i277_33 rfl rfl (by decide) rfl (by omega) ?_
      refine X.lcmp 35 i277_34 rfl rfl (fun z509 hz509 => ?_)
      refine X.ifne 74 38 i277_35 rfl rfl rfl (fun h510 => ?_) (fun h510 => ?_)
      · have h510c : ¬ a1 = (m 4 45 1615) := by omega
        clear h510 hz509
        refine X.cut [(0, zr 4 44)] i277_74 rfl ?_
        refine X.aload_n 75 i277_74 rfl rfl rfl ?_
        refine X.getF 78 i277_75 rfl rfl (by decide) rfl rfl ?_
        refine X.sipush 81 i277_78 rfl rfl (by decide) ?_
        refine X.dup2 82 i277_81 rfl rfl ?_
        refine X.lald 83 i277_82 rfl rfl (by decide) rfl (by omega) ?_
        have h511 := r45_1616 hJ 4
        refine X.lconst (y := 1) 84 i277_83 rfl rfl rfl ?_
        refine X.ladd 85 i277_84 rfl rfl (by omega) ?_
        refine X.last' 86 i277_85 rfl rfl (by decide) rfl (by omega) (fun hrm512 m512 hm512 => ?_)
        have hJ513 := w45_1616 (hJ.up (B' := B + 1) (by omega)) hm512 (by omega) hf4 hg4
        refine X.aload_n 87 i277_86 rfl rfl rfl ?_
        refine X.bipush 89 i277_87 rfl rfl (by decide) ?_
        refine X.aload_n 90 i277_89 rfl rfl rfl ?_
        refine X.getF 93 i277_90 rfl rfl (by decide) rfl rfl ?_
        refine X.sipush 96 i277_93 rfl rfl (by decide) ?_
        refine X.lald 97 i277_96 rfl rfl (by decide) rfl (by omega) ?_
        have h514 := r45_1616 hJ513 4
        refine X.callv 100 [zi 32, zl (m512 4 45 1616)] [] [(0, zr 4 44), (1, zi 32), (2, zl (m512 4 45 1616))] i277_97 rfl (by decide) rfl rfl (by omega) rfl rfl (by decide) rfl t223 (Nat.le_of_ble_eq_true rfl) (Nat.le_of_ble_eq_true rfl) rfl ?_
        refine c223_1 (B := B + 1)  32 (m512 4 45 1616) (by omega) (hJ513.up (by omega)) (by omega) (by omega) hf6 hg4 (fun m515 hFv517 hJ516 => ?_)
        show X (EE s) d 277 100 [(0, zr 4 44)] [] m515 _
        refine X.aload_n 101 i277_100 rfl rfl rfl ?_
        refine X.getF 104 i277_101 rfl rfl (by decide) rfl rfl ?_
        refine X.sipush 107 i277_104 rfl rfl (by decide) ?_
        refine X.lald 108 i277_107 rfl rfl (by decide) rfl (by omega) ?_
        have h518 := r45_1616 hJ516 4
        refine X.ldc2 111 i277_108 rfl rfl (by decide) ?_
        refine X.lcmp 112 i277_111 rfl rfl (fun z519 hz519 => ?_)
        refine X.ifge 117 115 i277_112 rfl rfl rfl (fun h520 => ?_) (fun h520 => ?_)
        · have h520c : ¬ (m515 4 45 1616) < 3 := by omega
          clear h520 hz519
          refine X.aload_n 118 i277_117 rfl rfl rfl ?_
          refine X.getF 121 i277_118 rfl rfl (by decide) rfl rfl ?_
          refine X.sipush 124 i277_121 rfl rfl (by decide) ?_
          refine X.lconst (y := 0) 125 i277_124 rfl rfl rfl ?_
          refine X.last' 126 i277_125 rfl rfl (by decide) rfl (by omega) (fun hrm521 m521 hm521 => ?_)
          have rbm521 := r45_1616 hJ516 4
          have hJ522 := w45_1616 (hJ516.up (B' := B + 3) (by omega)) hm521 (by omega) hf4 hg4
          refine X.aload_n 127 i277_126 rfl rfl rfl ?_
          refine X.getF 130 i277_127 rfl rfl (by decide) rfl rfl ?_
          refine X.sipush 133 i277_130 rfl rfl (by decide) ?_
          refine X.aload_n 134 i277_133 rfl rfl rfl ?_
          refine X.getF 137 i277_134 rfl rfl (by decide) rfl rfl ?_
          refine X.iconst 138 i277_137 rfl rfl (by decide) ?_
          refine X.lald 139 i277_138 rfl rfl (by decide) rfl (by omega) ?_
          have h523 := r45_0 hJ522 4
          refine X.ldc2 142 i277_139 rfl rfl (by decide) ?_
          refine X.ladd 143 i277_142 rfl rfl (by omega) ?_
          refine X.last' 144 i277_143 rfl rfl (by decide) rfl (by omega) (fun hrm524 m524 hm524 => ?_)
          have hJ525 := w45_1617 hJ522 hm524 (by omega) hf4 hg4
          refine X.aload_n 145 i277_144 rfl rfl rfl ?_
          refine X.bipush 147 i277_145 rfl rfl (by decide) ?_
          refine X.lconst (y := 0) 148 i277_147 rfl rfl rfl ?_
          refine X.callv 151 [zi 33, zl 0] [] [(0, zr 4 44), (1, zi 33), (2, zl 0)] i277_148 rfl (by decide) rfl rfl (by omega) rfl rfl (by decide) rfl t223 (Nat.le_of_ble_eq_true rfl) (Nat.le_of_ble_eq_true rfl) rfl ?_
          refine c223_1 (B := B + 3)  33 0 (by omega) (hJ525.up (by omega)) (by omega) (by omega) hf6 hg4 (fun m526 hFv528 hJ527 => ?_)
          show X (EE s) d 277 151 [(0, zr 4 44)] [] m526 _
          refine X.iconst 152 i277_151 rfl rfl (by decide) ?_
          refine X.retz i277_152 rfl t277 (by omega) ?_
          exact hQ 0 m526 (by first | trivial | omega) (Eq.trans (if_neg h503c) (Eq.trans (zn_eq hFv506.symm) (Eq.trans (if_pos h508c) (Eq.trans (if_neg h510c) (Eq.trans (zs_eq hm512) (Eq.trans (zs_eq hFv517.symm) (Eq.trans (if_neg h520c) (Eq.trans (zs_eq hm521) (Eq.trans (zs_eq hm524) (Eq.trans (zs_eq hFv528.symm) rfl)))))))))) (hJ527.up (by omega)) 
        · have h520c : (m515 4 45 1616) < 3 := by omega
          clear h520 hz519
          refine X.iconst 116 i277_115 rfl rfl (by decide) ?_
          refine X.retz i277_116 rfl t277 (by omega) ?_
          exact hQ 0 m515 (by first | trivial | omega) (Eq.trans (if_neg h503c) (Eq.trans (zn_eq hFv506.symm) (Eq.trans (if_pos h508c) (Eq.trans (if_neg h510c) (Eq.trans (zs_eq hm512) (Eq.trans (zs_eq hFv517.symm) (Eq.trans (if_pos h520c) rfl))))))) (hJ516.up (by omega)) 
      · have h510c : a1 = (m 4 45 1615) := by omega
        clear h510 hz509
        refine X.aload_n 39 i277_38 rfl rfl rfl ?_
        refine X.getF 42 i277_39 rfl rfl (by decide) rfl rfl ?_
        refine X.sipush 45 i277_42 rfl rfl (by decide) ?_
        refine X.lconst (y := 0) 46 i277_45 rfl rfl rfl ?_
        refine X.last' 47 i277_46 rfl rfl (by decide) rfl (by omega) (fun hrm529 m529 hm529 => ?_)
        have hJ530 := w45_1614 hJ hm529 (by omega) hf4 hg4
        refine X.aload_n 48 i277_47 rfl rfl rfl ?_
        refine X.getF 51 i277_48 rfl rfl (by decide) rfl rfl ?_
        refine X.sipush 54 i277_51 rfl rfl (by decide) ?_
        refine X.lconst (y := 0) 55 i277_54 rfl rfl rfl ?_
        refine X.last' 56 i277_55 rfl rfl (by decide) rfl (by omega) (fun hrm531 m531 hm531 => ?_)
        have rbm531 := r45_1616 hJ530 4
        have hJ532 := w45_1616 (hJ530.up (B' := B + 1) (by omega)) hm531 (by omega) hf4 hg4
        refine X.aload_n 57 i277_56 rfl rfl rfl ?_
        refine X.getF 60 i277_57 rfl rfl (by decide) rfl rfl ?_
        refine X.sipush 63 i277_60 rfl rfl (by decide) ?_
        refine X.lconst (y := 0) 64 i277_63 rfl rfl rfl ?_
        refine X.last' 65 i277_64 rfl rfl (by decide) rfl (by omega) (fun hrm533 m533 hm533 => ?_)
        have hJ534 := w45_1617 hJ532 hm533 (by omega) hf4 hg4
        refine X.aload_n 66 i277_65 rfl rfl rfl ?_
        refine X.bipush 68 i277_66 rfl rfl (by decide) ?_
        refine X.lconst (y := 0) 69 i277_68 rfl rfl rfl ?_
        refine X.callv 72 [zi 31, zl 0] [] [(0, zr 4 44), (1, zi 31), (2, zl 0)] i277_69 rfl (by decide) rfl rfl (by omega) rfl rfl (by decide) rfl t223 (Nat.le_of_ble_eq_true rfl) (Nat.le_of_ble_eq_true rfl) rfl ?_
        refine c223_1 (B := B + 1)  31 0 (by omega) (hJ534.up (by omega)) (by omega) (by omega) hf6 hg4 (fun m535 hFv537 hJ536 => ?_)
        show X (EE s) d 277 72 [(0, zr 4 44), (1, zi a1)] [] m535 _
        refine X.iconst 73 i277_72 rfl rfl (by decide) ?_
        refine X.retz i277_73 rfl t277 (by omega) ?_
        exact hQ 1 m535 (by first | trivial | omega) (Eq.trans (if_neg h503c) (Eq.trans (zn_eq hFv506.symm) (Eq.trans (if_pos h508c) (Eq.trans (if_pos h510c) (Eq.trans (zs_eq hm529) (Eq.trans (zs_eq hm531) (Eq.trans (zs_eq hm533) (Eq.trans (zs_eq hFv537.symm) rfl)))))))) (hJ536.up (by omega)) 
    · have h508c : ¬ v506 ≤ 0 := by omega
      clear h508 hz507
      refine X.cut [] i277_22 rfl ?_
      refine X.iconst 23 i277_22 rfl rfl (by decide) ?_
      refine X.retz i277_23 rfl t277 (by omega) ?_
      exact hQ 0 m (by first | trivial | omega) (Eq.trans (if_neg h503c) (Eq.trans (zn_eq hFv506.symm) (Eq.trans (if_neg h508c) rfl))) (hJ.up (by omega)) 
-- WorkMeter.season
noncomputable def f122_1 (a1 a2 : Int) (m : zM) : Int × zM :=
  zb (f17_1 0 m) fun v503 m501 =>
  if v503 = 0 then
  (if a1 < 0 then
  ((0, m501))
  else
  (if 4 ≤ a1 then
  ((0, m501))
  else
  (if a2 < (-1) then
  ((0, m501))
  else
  (if a2 < 365 then
  (if a1 = 0 then
  (if a2 = (-1) then
  ((0, m501))
  else
  (zs (z_upd m501 0 15 a1 a2) fun m516 =>
  (1, m516)))
  else
  (zs (z_upd m501 0 15 a1 a2) fun m513 =>
  (1, m513)))
  else
  ((0, m501))))))
  else
  ((0, m501))
-- WorkMeter.season
theorem c122_1 {s : Nat × (Nat → Int32)} {S : zS} {m0 m : zM} {B : Int} {d : Nat} {Q : Option zV → zM → Prop} (a1 a2 : Int) (hd : 14 ≤ d) (hJ : J S m0 B m) (hB : B + 0 ≤ 1000000000) (ha1 : (-2147483648) ≤ a1 ∧ a1 ≤ 2147483647) (ha2 : (-2147483648) ≤ a2 ∧ a2 ≤ 2147483647) (hf1 : ¬ S.1 1) (hf4 : ¬ S.1 4) (hg0 : ¬ S.2.1 0) (hQ : ∀ (v : Int) m', (0 ≤ v ∧ v ≤ 1) → f122_1 a1 a2 m = (v, m') → J S m0 (B) m' → Q (some (zi v)) m') : X (EE s) d 122 0 [(0, zr 4 40), (1, zi a1), (2, zi a2)] [] m Q := by
  refine X.aload_n 1 i122_0 rfl rfl rfl ?_
  refine X.getF 4 i122_1 rfl rfl (by decide) rfl rfl ?_
  refine X.getR 7 i122_4 rfl rfl (by decide) rfl rfl ?_
  refine X.callv 10 [] [] [(0, zr 0 39)] i122_7 rfl (by decide) rfl rfl (by omega) rfl rfl (by decide) rfl t17 (Nat.le_of_ble_eq_true rfl) (Nat.le_of_ble_eq_true rfl) rfl ?_
  refine c17_1 (B := B) 0  (by omega) (hJ.up (by omega)) (by omega)  hf4 hg0 (fun v503 m501 hv503 hFv503 hJ502 => ?_)
  show X (EE s) d 122 10 [(0, zr 4 40), (1, zi a1), (2, zi a2)] [zi v503] m501 _
  refine X.ifne 32 13 i122_10 rfl rfl rfl (fun h504 => ?_) (fun h504 => ?_)
  · refine X.cut [] i122_32 rfl ?_
    refine X.iconst 33 i122_32 rfl rfl (by decide) ?_
    refine X.retz i122_33 rfl t122 (by omega) ?_
    exact hQ 0 m501 (by first | trivial | omega) (Eq.trans (zb_eq hFv503) (Eq.trans (if_neg h504) rfl)) (hJ502.up (by omega)) 
  · refine X.iload_n 14 i122_13 rfl rfl rfl ?_
    refine X.calls 17 [zi a1] [] [(0, zi a1)] i122_14 (by decide) rfl rfl (by omega) rfl rfl t123 (Nat.le_of_ble_eq_true rfl) (Nat.le_of_ble_eq_true rfl) rfl ?_
    refine X.iload_n 1 i123_0 rfl rfl rfl ?_
    refine X.iflt 13 4 i123_1 rfl rfl rfl (fun h505 => ?_) (fun h505 => ?_)
    · refine X.cut [] i123_13 rfl ?_
      refine X.iconst 14 i123_13 rfl rfl (by decide) ?_
      refine X.retz i123_14 rfl t123 (by omega) ?_
      show X (EE s) d 122 17 [(0, zr 4 40), (1, zi a1), (2, zi a2)] [zi 0] m501 _
      refine X.ifeq 32 20 i122_17 rfl rfl rfl (fun h506 => ?_) (fun h506 => (by exfalso; omega))
      refine X.cut [] i122_32 rfl ?_
      refine X.iconst 33 i122_32 rfl rfl (by decide) ?_
      refine X.retz i122_33 rfl t122 (by omega) ?_
      exact hQ 0 m501 (by first | trivial | omega) (Eq.trans (zb_eq hFv503) (Eq.trans (if_pos h504) (Eq.trans (if_pos h505) rfl))) (hJ502.up (by omega)) 
    · refine X.iload_n 5 i123_4 rfl rfl rfl ?_
      refine X.iconst 6 i123_5 rfl rfl (by decide) ?_
      refine X.icmpge 13 9 i123_6 rfl rfl rfl (fun h507 => ?_) (fun h507 => ?_)
      · refine X.cut [] i123_13 rfl ?_
        refine X.iconst 14 i123_13 rfl rfl (by decide) ?_
        refine X.retz i123_14 rfl t123 (by omega) ?_
        show X (EE s) d 122 17 [(0, zr 4 40), (1, zi a1), (2, zi a2)] [zi 0] m501 _
        refine X.ifeq 32 20 i122_17 rfl rfl rfl (fun h508 => ?_) (fun h508 => (by exfalso; omega))
        refine X.cut [] i122_32 rfl ?_
        refine X.iconst 33 i122_32 rfl rfl (by decide) ?_
        refine X.retz i122_33 rfl t122 (by omega) ?_
        exact hQ 0 m501 (by first | trivial | omega) (Eq.trans (zb_eq hFv503) (Eq.trans (if_pos h504) (Eq.trans (if_neg h505) (Eq.trans (if_pos h507) rfl)))) (hJ502.up (by omega)) 
      · refine X.iconst 10 i123_9 rfl rfl (by decide) ?_
        refine X.goto 14 i123_10 rfl rfl ?_
        refine X.cut [] i123_14 rfl ?_
        refine X.retz i123_14 rfl t123 (by omega) ?_
        show X (EE s) d 122 17 [(0, zr 4 40), (1, zi a1), (2, zi a2)] [zi 1] m501 _
        refine X.ifeq 32 20 i122_17 rfl rfl rfl (fun h509 => (by exfalso; omega)) (fun h509 => ?_)
        refine X.iload_n 21 i122_20 rfl rfl rfl ?_
        refine X.iconst 22 i122_21 rfl rfl (by decide) ?_
        refine X.icmplt 32 25 i122_22 rfl rfl rfl (fun h510 => ?_) (fun h510 => ?_)
        · refine X.cut [] i122_32 rfl ?_
          refine X.iconst 33 i122_32 rfl rfl (by decide) ?_
          refine X.retz i122_33 rfl t122 (by omega) ?_
          exact hQ 0 m501 (by first | trivial | omega) (Eq.trans (zb_eq hFv503) (Eq.trans (if_pos h504) (Eq.trans (if_neg h505) (Eq.trans (if_neg h507) (Eq.trans (if_pos h510) rfl))))) (hJ502.up (by omega)) 
        · refine X.iload_n 26 i122_25 rfl rfl rfl ?_
          refine X.sipush 29 i122_26 rfl rfl (by decide) ?_
          refine X.icmplt 34 32 i122_29 rfl rfl rfl (fun h511 => ?_) (fun h511 => ?_)
          · refine X.iload_n 35 i122_34 rfl rfl rfl ?_
            refine X.ifne 45 38 i122_35 rfl rfl rfl (fun h512 => ?_) (fun h512 => ?_)
            · refine X.aload_n 46 i122_45 rfl rfl rfl ?_
              refine X.getF 49 i122_46 rfl rfl (by decide) rfl rfl ?_
              refine X.getR 52 i122_49 rfl rfl (by decide) rfl rfl ?_
              refine X.getR 55 i122_52 rfl rfl (by decide) rfl rfl ?_
              refine X.iload_n 56 i122_55 rfl rfl rfl ?_
              refine X.iload_n 57 i122_56 rfl rfl rfl ?_
              refine X.iast' 58 i122_57 rfl rfl (by decide) rfl (by omega) (fun hrm513 m513 hm513 => ?_)
              have hJ514 := w15_0 hJ502 hm513 (by omega) (by omega) hf1 hg0
              refine X.iconst 59 i122_58 rfl rfl (by decide) ?_
              refine X.retz i122_59 rfl t122 (by omega) ?_
              exact hQ 1 m513 (by first | trivial | omega) (Eq.trans (zb_eq hFv503) (Eq.trans (if_pos h504) (Eq.trans (if_neg h505) (Eq.trans (if_neg h507) (Eq.trans (if_neg h510) (Eq.trans (if_pos h511) (Eq.trans (if_neg h512) (Eq.trans (zs_eq hm513) rfl)))))))) (hJ514.up (by omega)) 
            · refine X.iload_n 39 i122_38 rfl rfl rfl ?_
              refine X.iconst 40 i122_39 rfl rfl (by decide) ?_
              refine X.icmpne 45 43 i122_40 rfl rfl rfl (fun h515 => ?_) (fun h515 => ?_)
              · refine X.aload_n 46 i122_45 rfl rfl rfl ?_
                refine X.getF 49 i122_46 rfl rfl (by decide) rfl rfl ?_
                refine X.getR 52 i122_49 rfl rfl (by decide) rfl rfl ?_
                refine X.getR 55 i122_52 rfl rfl (by decide) rfl rfl ?_
                refine X.iload_n 56 i122_55 rfl rfl rfl ?_
                refine X.iload_n 57 i122_56 rfl rfl rfl ?_
                refine X.iast' 58 i122_57 rfl rfl (by decide) rfl (by omega) (fun hrm516 m516 hm516 => ?_)
                have hJ517 := w15_0 hJ502 hm516 (by omega) (by omega) hf1 hg0
                refine X.iconst 59 i122_58 rfl rfl (by decide) ?_
                refine X.retz i122_59 rfl t122 (by omega) ?_
                exact hQ 1 m516 (by first | trivial | omega) (Eq.trans (zb_eq hFv503) (Eq.trans (if_pos h504) (Eq.trans (if_neg h505) (Eq.trans (if_neg h507) (Eq.trans (if_neg h510) (Eq.trans (if_pos h511) (Eq.trans (if_pos h512) (Eq.trans (if_neg h515) (Eq.trans (zs_eq hm516) rfl))))))))) (hJ517.up (by omega)) 
              · refine X.iconst 44 i122_43 rfl rfl (by decide) ?_
                refine X.retz i122_44 rfl t122 (by omega) ?_
                exact hQ 0 m501 (by first | trivial | omega) (Eq.trans (zb_eq hFv503) (Eq.trans (if_pos h504) (Eq.trans (if_neg h505) (Eq.trans (if_neg h507) (Eq.trans (if_neg h510) (Eq.trans (if_pos h511) (Eq.trans (if_pos h512) (Eq.trans (if_pos h515) rfl)))))))) (hJ502.up (by omega)) 
          · refine X.cut [] i122_32 rfl ?_
            refine X.iconst 33 i122_32 rfl rfl (by decide) ?_
            refine X.retz i122_33 rfl t122 (by omega) ?_
            exact hQ 0 m501 (by first | trivial | omega) (Eq.trans (zb_eq hFv503) (Eq.trans (if_pos h504) (Eq.trans (if_neg h505) (Eq.trans (if_neg h507) (Eq.trans (if_neg h510) (Eq.trans (if_neg h511) rfl)))))) (hJ502.up (by omega)) 
-- WorkMeterModel.season
noncomputable def f245_1 (a1 a2 : Int) (m : zM) : Int × zM :=
  zb (f203_1 m) fun v503 m501 =>
  if v503 = 0 then
  (if a1 < 0 then
  ((0, m501))
  else
  (if a1 ≤ 3 then
  (zn (if a1 = 0 then
  (0)
  else
  ((-1))) fun v513 =>
  if a2 < v513 then
  ((0, m501))
  else
  (if a2 ≤ 364 then
  (zs (z_upd m501 4 45 (391 + a1) a2) fun m525 =>
  (1, m525))
  else
  ((0, m501))))
  else
  ((0, m501))))
  else
  ((0, m501))
-- WorkMeterModel.season
theorem c245_1 {s : Nat × (Nat → Int32)} {S : zS} {m0 m : zM} {B : Int} {d : Nat} {Q : Option zV → zM → Prop} (a1 a2 : Int) (hd : 14 ≤ d) (hJ : J S m0 B m) (hB : B + 0 ≤ 1000000000) (ha1 : (-2147483648) ≤ a1 ∧ a1 ≤ 2147483647) (ha2 : (-2147483648) ≤ a2 ∧ a2 ≤ 2147483647) (hf1 : ¬ S.1 1) (hf4 : ¬ S.1 4) (hg4 : ¬ S.2.1 4) (hQ : ∀ (v : Int) m', (0 ≤ v ∧ v ≤ 1) → f245_1 a1 a2 m = (v, m') → J S m0 (B) m' → Q (some (zi v)) m') : X (EE s) d 245 0 [(0, zr 4 44), (1, zi a1), (2, zi a2)] [] m Q := by
  refine X.aload_n 1 i245_0 rfl rfl rfl ?_
  refine X.callv 4 [] [] [(0, zr 4 44)] i245_1 rfl (by decide) rfl rfl (by omega) rfl rfl (by decide) rfl t203 (Nat.le_of_ble_eq_true rfl) (Nat.le_of_ble_eq_true rfl) rfl ?_
  refine c203_1 (B := B)   (by omega) (hJ.up (by omega)) (by omega)  hf4 hg4 (fun v503 m501 hv503 hFv503 hJ502 => ?_)
  show X (EE s) d 245 4 [(0, zr 4 44), (1, zi a1), (2, zi a2)] [zi v503] m501 _
  refine X.ifne 36 7 i245_4 rfl rfl rfl (fun h504 => ?_) (fun h504 => ?_)
  · refine X.cut [] i245_36 rfl ?_
    refine X.iconst 37 i245_36 rfl rfl (by decide) ?_
    refine X.retz i245_37 rfl t245 (by omega) ?_
    exact hQ 0 m501 (by first | trivial | omega) (Eq.trans (zb_eq hFv503) (Eq.trans (if_neg h504) rfl)) (hJ502.up (by omega)) 
  · refine X.iload_n 8 i245_7 rfl rfl rfl ?_
    refine X.calls 11 [zi a1] [] [(0, zi a1)] i245_8 (by decide) rfl rfl (by omega) rfl rfl t246 (Nat.le_of_ble_eq_true rfl) (Nat.le_of_ble_eq_true rfl) rfl ?_
    refine X.iload_n 1 i246_0 rfl rfl rfl ?_
    refine X.i2l 2 i246_1 rfl rfl ?_
    refine X.lconst (y := 0) 3 i246_2 rfl rfl rfl ?_
    refine X.ldc2 6 i246_3 rfl rfl (by decide) ?_
    refine X.calls 9 [zl a1, zl 0, zl 3] [] [(0, zl a1), (2, zl 0), (4, zl 3)] i246_6 (by decide) rfl rfl (by omega) rfl rfl t204 (Nat.le_of_ble_eq_true rfl) (Nat.le_of_ble_eq_true rfl) rfl ?_
    refine X.lload_n 1 i204_0 rfl rfl rfl ?_
    refine X.lload_n 2 i204_1 rfl rfl rfl ?_
    refine X.lcmp 3 i204_2 rfl rfl (fun z505 hz505 => ?_)
    refine X.iflt 17 6 i204_3 rfl rfl rfl (fun h506 => ?_) (fun h506 => ?_)
    · have h506c : a1 < 0 := by omega
      clear h506 hz505
      refine X.cut [] i204_17 rfl ?_
      refine X.iconst 18 i204_17 rfl rfl (by decide) ?_
      refine X.retz i204_18 rfl t204 (by omega) ?_
      show X (EE s) (d - 1) 246 9 [(0, zi a1)] [zi 0] m501 _
      refine X.retz i246_9 rfl t246 (by omega) ?_
      show X (EE s) d 245 11 [(0, zr 4 44), (1, zi a1), (2, zi a2)] [zi 0] m501 _
      refine X.ifeq 36 14 i245_11 rfl rfl rfl (fun h507 => ?_) (fun h507 => (by exfalso; omega))
      refine X.cut [] i245_36 rfl ?_
      refine X.iconst 37 i245_36 rfl rfl (by decide) ?_
      refine X.retz i245_37 rfl t245 (by omega) ?_
      exact hQ 0 m501 (by first | trivial | omega) (Eq.trans (zb_eq hFv503) (Eq.trans (if_pos h504) (Eq.trans (if_pos h506c) rfl))) (hJ502.up (by omega)) 
    · have h506c : ¬ a1 < 0 := by omega
      clear h506 hz505
      refine X.lload_n 7 i204_6 rfl rfl rfl ?_
      refine X.lload 9 i204_7 rfl rfl rfl ?_
      refine X.lcmp 10 i204_9 rfl rfl (fun z508 hz508 => ?_)
      refine X.ifgt 17 13 i204_10 rfl rfl rfl (fun h509 => ?_) (fun h509 => ?_)
      · have h509c : ¬ a1 ≤ 3 := by omega
        clear h509 hz508
        refine X.cut [] i204_17 rfl ?_
        refine X.iconst 18 i204_17 rfl rfl (by decide) ?_
        refine X.retz i204_18 rfl t204 (by omega) ?_
        show X (EE s) (d - 1) 246 9 [(0, zi a1)] [zi 0] m501 _
        refine X.retz i246_9 rfl t246 (by omega) ?_
        show X (EE s) d 245 11 [(0, zr 4 44), (1, zi a1), (2, zi a2)] [zi 0] m501 _
        refine X.ifeq 36 14 i245_11 rfl rfl rfl (fun h510 => ?_) (fun h510 => (by exfalso; omega))
        refine X.cut [] i245_36 rfl ?_
        refine X.iconst 37 i245_36 rfl rfl (by decide) ?_
        refine X.retz i245_37 rfl t245 (by omega) ?_
        exact hQ 0 m501 (by first | trivial | omega) (Eq.trans (zb_eq hFv503) (Eq.trans (if_pos h504) (Eq.trans (if_neg h506c) (Eq.trans (if_neg h509c) rfl)))) (hJ502.up (by omega)) 
      · have h509c : a1 ≤ 3 := by omega
        clear h509 hz508
        refine X.iconst 14 i204_13 rfl rfl (by decide) ?_
        refine X.goto 18 i204_14 rfl rfl ?_
        refine X.cut [] i204_18 rfl ?_
        refine X.retz i204_18 rfl t204 (by omega) ?_
        show X (EE s) (d - 1) 246 9 [(0, zi a1)] [zi 1] m501 _
        refine X.retz i246_9 rfl t246 (by omega) ?_
        show X (EE s) d 245 11 [(0, zr 4 44), (1, zi a1), (2, zi a2)] [zi 1] m501 _
        refine X.ifeq 36 14 i245_11 rfl rfl rfl (fun h511 => (by exfalso; omega)) (fun h511 => ?_)
        refine X.iload_n 15 i245_14 rfl rfl rfl ?_
        refine X.i2l 16 i245_15 rfl rfl ?_
        refine X.iload_n 17 i245_16 rfl rfl rfl ?_
        have hK516 : ∀ (v : Int) , ((-1) ≤ v ∧ v ≤ 0) → (if a1 = 0 then
            (0)
            else
            ((-1))) = v → X (EE s) d 245 27 [(0, zr 4 44), (1, zi a1), (2, zi a2)] [zl v, zl a2] m501 Q := by
          intro v513 hv513 hT517
          refine X.ldc2 30 i245_27 rfl rfl (by decide) ?_
          refine X.calls 33 [zl a2, zl v513, zl 364] [] [(0, zl a2), (2, zl v513), (4, zl 364)] i245_30 (by decide) rfl rfl (by omega) rfl rfl t204 (Nat.le_of_ble_eq_true rfl) (Nat.le_of_ble_eq_true rfl) rfl ?_
          refine X.lload_n 1 i204_0 rfl rfl rfl ?_
          refine X.lload_n 2 i204_1 rfl rfl rfl ?_
          refine X.lcmp 3 i204_2 rfl rfl (fun z518 hz518 => ?_)
          refine X.iflt 17 6 i204_3 rfl rfl rfl (fun h519 => ?_) (fun h519 => ?_)
          · have h519c : a2 < v513 := by omega
            clear h519 hz518
            refine X.cut [] i204_17 rfl ?_
            refine X.iconst 18 i204_17 rfl rfl (by decide) ?_
            refine X.retz i204_18 rfl t204 (by omega) ?_
            show X (EE s) d 245 33 [(0, zr 4 44), (1, zi a1), (2, zi a2)] [zi 0] m501 _
            refine X.ifne 38 36 i245_33 rfl rfl rfl (fun h520 => (by exfalso; omega)) (fun h520 => ?_)
            refine X.cut [] i245_36 rfl ?_
            refine X.iconst 37 i245_36 rfl rfl (by decide) ?_
            refine X.retz i245_37 rfl t245 (by omega) ?_
            exact hQ 0 m501 (by first | trivial | omega) (Eq.trans (zb_eq hFv503) (Eq.trans (if_pos h504) (Eq.trans (if_neg h506c) (Eq.trans (if_pos h509c) (Eq.trans (zn_eq hT517.symm) (Eq.trans (if_pos h519c) rfl)))))) (hJ502.up (by omega)) 
          · have h519c : ¬ a2 < v513 := by omega
            clear h519 hz518
            refine X.lload_n 7 i204_6 rfl rfl rfl ?_
            refine X.lload 9 i204_7 rfl rfl rfl ?_
            refine X.lcmp 10 i204_9 rfl rfl (fun z521 hz521 => ?_)
            refine X.ifgt 17 13 i204_10 rfl rfl rfl (fun h522 => ?_) (fun h522 => ?_)
            · have h522c : ¬ a2 ≤ 364 := by omega
              clear h522 hz521
              refine X.cut [] i204_17 rfl ?_
              refine X.iconst 18 i204_17 rfl rfl (by decide) ?_
              refine X.retz i204_18 rfl t204 (by omega) ?_
              show X (EE s) d 245 33 [(0, zr 4 44), (1, zi a1), (2, zi a2)] [zi 0] m501 _
              refine X.ifne 38 36 i245_33 rfl rfl rfl (fun h523 => (by exfalso; omega)) (fun h523 => ?_)
              refine X.cut [] i245_36 rfl ?_
              refine X.iconst 37 i245_36 rfl rfl (by decide) ?_
              refine X.retz i245_37 rfl t245 (by omega) ?_
              exact hQ 0 m501 (by first | trivial | omega) (Eq.trans (zb_eq hFv503) (Eq.trans (if_pos h504) (Eq.trans (if_neg h506c) (Eq.trans (if_pos h509c) (Eq.trans (zn_eq hT517.symm) (Eq.trans (if_neg h519c) (Eq.trans (if_neg h522c) rfl))))))) (hJ502.up (by omega)) 
            · have h522c : a2 ≤ 364 := by omega
              clear h522 hz521
              refine X.iconst 14 i204_13 rfl rfl (by decide) ?_
              refine X.goto 18 i204_14 rfl rfl ?_
              refine X.cut [] i204_18 rfl ?_
              refine X.retz i204_18 rfl t204 (by omega) ?_
              show X (EE s) d 245 33 [(0, zr 4 44), (1, zi a1), (2, zi a2)] [zi 1] m501 _
              refine X.ifne 38 36 i245_33 rfl rfl rfl (fun h524 => ?_) (fun h524 => (by exfalso; omega))
              refine X.aload_n 39 i245_38 rfl rfl rfl ?_
              refine X.getF 42 i245_39 rfl rfl (by decide) rfl rfl ?_
              refine X.sipush 45 i245_42 rfl rfl (by decide) ?_
              refine X.iload_n 46 i245_45 rfl rfl rfl ?_
              refine X.iadd 47 i245_46 rfl rfl (by omega) ?_
              refine X.iload_n 48 i245_47 rfl rfl rfl ?_
              refine X.i2l 49 i245_48 rfl rfl ?_
              refine X.last' 50 i245_49 rfl rfl (by decide) rfl (by omega) (fun hrm525 m525 hm525 => ?_)
              have hJ526 := w45_391 hJ502 hm525 (by omega) (by omega) hf1 hg4
              refine X.iconst 51 i245_50 rfl rfl (by decide) ?_
              refine X.retz i245_51 rfl t245 (by omega) ?_
              exact hQ 1 m525 (by first | trivial | omega) (Eq.trans (zb_eq hFv503) (Eq.trans (if_pos h504) (Eq.trans (if_neg h506c) (Eq.trans (if_pos h509c) (Eq.trans (zn_eq hT517.symm) (Eq.trans (if_neg h519c) (Eq.trans (if_pos h522c) (Eq.trans (zs_eq hm525) rfl)))))))) (hJ526.up (by omega)) 
        refine X.ifne 24 20 i245_17 rfl rfl rfl (fun h512 => ?_) (fun h512 => ?_)
        · refine X.ldc2 27 i245_24 rfl rfl (by decide) ?_
          exact hK516 (-1) (by first | trivial | omega) (Eq.trans (if_neg h512) rfl)
        · refine X.lconst (y := 0) 21 i245_20 rfl rfl rfl ?_
          refine X.goto 27 i245_21 rfl rfl ?_
          exact hK516 0 (by first | trivial | omega) (Eq.trans (if_pos h512) rfl)
-- WorkMeter.week
noncomputable def f124_1 (a1 a2 a3 : Int) (m : zM) : Int × zM :=
  zb (f17_1 0 m) fun v503 m501 =>
  if v503 = 0 then
  (if a1 < 0 then
  ((0, m501))
  else
  (if 4 ≤ a1 then
  ((0, m501))
  else
  (if a3 < 0 then
  ((0, m501))
  else
  (if 8 ≤ a3 then
  ((0, m501))
  else
  (if a2 < 0 then
  ((0, m501))
  else
  (if a2 < 7 then
  (zs (z_upd m501 0 16 ((a1 * 7) + a2) a3) fun m517 =>
  (1, m517))
  else
  ((0, m501))))))))
  else
  ((0, m501))
-- WorkMeter.week
theorem c124_1 {s : Nat × (Nat → Int32)} {S : zS} {m0 m : zM} {B : Int} {d : Nat} {Q : Option zV → zM → Prop} (a1 a2 a3 : Int) (hd : 14 ≤ d) (hJ : J S m0 B m) (hB : B + 0 ≤ 1000000000) (ha1 : (-2147483648) ≤ a1 ∧ a1 ≤ 2147483647) (ha2 : (-2147483648) ≤ a2 ∧ a2 ≤ 2147483647) (ha3 : (-2147483648) ≤ a3 ∧ a3 ≤ 2147483647) (hf1 : ¬ S.1 1) (hf4 : ¬ S.1 4) (hg0 : ¬ S.2.1 0) (hQ : ∀ (v : Int) m', (0 ≤ v ∧ v ≤ 1) → f124_1 a1 a2 a3 m = (v, m') → J S m0 (B) m' → Q (some (zi v)) m') : X (EE s) d 124 0 [(0, zr 4 40), (1, zi a1), (2, zi a2), (3, zi a3)] [] m Q := by
  refine X.aload_n 1 i124_0 rfl rfl rfl ?_
  refine X.getF 4 i124_1 rfl rfl (by decide) rfl rfl ?_
  refine X.getR 7 i124_4 rfl rfl (by decide) rfl rfl ?_
  refine X.callv 10 [] [] [(0, zr 0 39)] i124_7 rfl (by decide) rfl rfl (by omega) rfl rfl (by decide) rfl t17 (Nat.le_of_ble_eq_true rfl) (Nat.le_of_ble_eq_true rfl) rfl ?_
  refine c17_1 (B := B) 0  (by omega) (hJ.up (by omega)) (by omega)  hf4 hg0 (fun v503 m501 hv503 hFv503 hJ502 => ?_)
  show X (EE s) d 124 10 [(0, zr 4 40), (1, zi a1), (2, zi a2), (3, zi a3)] [zi v503] m501 _
  refine X.ifne 27 13 i124_10 rfl rfl rfl (fun h504 => ?_) (fun h504 => ?_)
  · refine X.cut [] i124_27 rfl ?_
    refine X.iconst 28 i124_27 rfl rfl (by decide) ?_
    refine X.retz i124_28 rfl t124 (by omega) ?_
    exact hQ 0 m501 (by first | trivial | omega) (Eq.trans (zb_eq hFv503) (Eq.trans (if_neg h504) rfl)) (hJ502.up (by omega)) 
  · refine X.iload_n 14 i124_13 rfl rfl rfl ?_
    refine X.calls 17 [zi a1] [] [(0, zi a1)] i124_14 (by decide) rfl rfl (by omega) rfl rfl t123 (Nat.le_of_ble_eq_true rfl) (Nat.le_of_ble_eq_true rfl) rfl ?_
    refine X.iload_n 1 i123_0 rfl rfl rfl ?_
    refine X.iflt 13 4 i123_1 rfl rfl rfl (fun h505 => ?_) (fun h505 => ?_)
    · refine X.cut [] i123_13 rfl ?_
      refine X.iconst 14 i123_13 rfl rfl (by decide) ?_
      refine X.retz i123_14 rfl t123 (by omega) ?_
      show X (EE s) d 124 17 [(0, zr 4 40), (1, zi a1), (2, zi a2), (3, zi a3)] [zi 0] m501 _
      refine X.ifeq 27 20 i124_17 rfl rfl rfl (fun h506 => ?_) (fun h506 => (by exfalso; omega))
      refine X.cut [] i124_27 rfl ?_
      refine X.iconst 28 i124_27 rfl rfl (by decide) ?_
      refine X.retz i124_28 rfl t124 (by omega) ?_
      exact hQ 0 m501 (by first | trivial | omega) (Eq.trans (zb_eq hFv503) (Eq.trans (if_pos h504) (Eq.trans (if_pos h505) rfl))) (hJ502.up (by omega)) 
    · refine X.iload_n 5 i123_4 rfl rfl rfl ?_
      refine X.iconst 6 i123_5 rfl rfl (by decide) ?_
      refine X.icmpge 13 9 i123_6 rfl rfl rfl (fun h507 => ?_) (fun h507 => ?_)
      · refine X.cut [] i123_13 rfl ?_
        refine X.iconst 14 i123_13 rfl rfl (by decide) ?_
        refine X.retz i123_14 rfl t123 (by omega) ?_
        show X (EE s) d 124 17 [(0, zr 4 40), (1, zi a1), (2, zi a2), (3, zi a3)] [zi 0] m501 _
        refine X.ifeq 27 20 i124_17 rfl rfl rfl (fun h508 => ?_) (fun h508 => (by exfalso; omega))
        refine X.cut [] i124_27 rfl ?_
        refine X.iconst 28 i124_27 rfl rfl (by decide) ?_
        refine X.retz i124_28 rfl t124 (by omega) ?_
        exact hQ 0 m501 (by first | trivial | omega) (Eq.trans (zb_eq hFv503) (Eq.trans (if_pos h504) (Eq.trans (if_neg h505) (Eq.trans (if_pos h507) rfl)))) (hJ502.up (by omega)) 
      · refine X.iconst 10 i123_9 rfl rfl (by decide) ?_
        refine X.goto 14 i123_10 rfl rfl ?_
        refine X.cut [] i123_14 rfl ?_
        refine X.retz i123_14 rfl t123 (by omega) ?_
        show X (EE s) d 124 17 [(0, zr 4 40), (1, zi a1), (2, zi a2), (3, zi a3)] [zi 1] m501 _
        refine X.ifeq 27 20 i124_17 rfl rfl rfl (fun h509 => (by exfalso; omega)) (fun h509 => ?_)
        refine X.iload_n 21 i124_20 rfl rfl rfl ?_
        refine X.calls 24 [zi a3] [] [(0, zi a3)] i124_21 (by decide) rfl rfl (by omega) rfl rfl t79 (Nat.le_of_ble_eq_true rfl) (Nat.le_of_ble_eq_true rfl) rfl ?_
        refine X.iload_n 1 i79_0 rfl rfl rfl ?_
        refine X.iflt 14 4 i79_1 rfl rfl rfl (fun h510 => ?_) (fun h510 => ?_)
        · refine X.cut [] i79_14 rfl ?_
          refine X.iconst 15 i79_14 rfl rfl (by decide) ?_
          refine X.retz i79_15 rfl t79 (by omega) ?_
          show X (EE s) d 124 24 [(0, zr 4 40), (1, zi a1), (2, zi a2), (3, zi a3)] [zi 0] m501 _
          refine X.ifne 29 27 i124_24 rfl rfl rfl (fun h511 => (by exfalso; omega)) (fun h511 => ?_)
          refine X.cut [] i124_27 rfl ?_
          refine X.iconst 28 i124_27 rfl rfl (by decide) ?_
          refine X.retz i124_28 rfl t124 (by omega) ?_
          exact hQ 0 m501 (by first | trivial | omega) (Eq.trans (zb_eq hFv503) (Eq.trans (if_pos h504) (Eq.trans (if_neg h505) (Eq.trans (if_neg h507) (Eq.trans (if_pos h510) rfl))))) (hJ502.up (by omega)) 
        · refine X.iload_n 5 i79_4 rfl rfl rfl ?_
          refine X.bipush 7 i79_5 rfl rfl (by decide) ?_
          refine X.icmpge 14 10 i79_7 rfl rfl rfl (fun h512 => ?_) (fun h512 => ?_)
          · refine X.cut [] i79_14 rfl ?_
            refine X.iconst 15 i79_14 rfl rfl (by decide) ?_
            refine X.retz i79_15 rfl t79 (by omega) ?_
            show X (EE s) d 124 24 [(0, zr 4 40), (1, zi a1), (2, zi a2), (3, zi a3)] [zi 0] m501 _
            refine X.ifne 29 27 i124_24 rfl rfl rfl (fun h513 => (by exfalso; omega)) (fun h513 => ?_)
            refine X.cut [] i124_27 rfl ?_
            refine X.iconst 28 i124_27 rfl rfl (by decide) ?_
            refine X.retz i124_28 rfl t124 (by omega) ?_
            exact hQ 0 m501 (by first | trivial | omega) (Eq.trans (zb_eq hFv503) (Eq.trans (if_pos h504) (Eq.trans (if_neg h505) (Eq.trans (if_neg h507) (Eq.trans (if_neg h510) (Eq.trans (if_pos h512) rfl)))))) (hJ502.up (by omega)) 
          · refine X.iconst 11 i79_10 rfl rfl (by decide) ?_
            refine X.goto 15 i79_11 rfl rfl ?_
            refine X.cut [] i79_15 rfl ?_
            refine X.retz i79_15 rfl t79 (by omega) ?_
            show X (EE s) d 124 24 [(0, zr 4 40), (1, zi a1), (2, zi a2), (3, zi a3)] [zi 1] m501 _
            refine X.ifne 29 27 i124_24 rfl rfl rfl (fun h514 => ?_) (fun h514 => (by exfalso; omega))
            refine X.iload_n 30 i124_29 rfl rfl rfl ?_
            refine X.iflt 39 33 i124_30 rfl rfl rfl (fun h515 => ?_) (fun h515 => ?_)
            · refine X.cut [] i124_39 rfl ?_
              refine X.iconst 40 i124_39 rfl rfl (by decide) ?_
              refine X.retz i124_40 rfl t124 (by omega) ?_
              exact hQ 0 m501 (by first | trivial | omega) (Eq.trans (zb_eq hFv503) (Eq.trans (if_pos h504) (Eq.trans (if_neg h505) (Eq.trans (if_neg h507) (Eq.trans (if_neg h510) (Eq.trans (if_neg h512) (Eq.trans (if_pos h515) rfl))))))) (hJ502.up (by omega)) 
            · refine X.iload_n 34 i124_33 rfl rfl rfl ?_
              refine X.bipush 36 i124_34 rfl rfl (by decide) ?_
              refine X.icmplt 41 39 i124_36 rfl rfl rfl (fun h516 => ?_) (fun h516 => ?_)
              · refine X.aload_n 42 i124_41 rfl rfl rfl ?_
                refine X.getF 45 i124_42 rfl rfl (by decide) rfl rfl ?_
                refine X.getR 48 i124_45 rfl rfl (by decide) rfl rfl ?_
                refine X.getR 51 i124_48 rfl rfl (by decide) rfl rfl ?_
                refine X.iload_n 52 i124_51 rfl rfl rfl ?_
                refine X.bipush 54 i124_52 rfl rfl (by decide) ?_
                refine X.imul 55 i124_54 rfl rfl (by omega) ?_
                refine X.iload_n 56 i124_55 rfl rfl rfl ?_
                refine X.iadd 57 i124_56 rfl rfl (by omega) ?_
                refine X.iload_n 58 i124_57 rfl rfl rfl ?_
                refine X.iast' 59 i124_58 rfl rfl (by decide) rfl (by omega) (fun hrm517 m517 hm517 => ?_)
                have hJ518 := w16_0 hJ502 hm517 (by omega) (by omega) hf1 hg0
                refine X.iconst 60 i124_59 rfl rfl (by decide) ?_
                refine X.retz i124_60 rfl t124 (by omega) ?_
                exact hQ 1 m517 (by first | trivial | omega) (Eq.trans (zb_eq hFv503) (Eq.trans (if_pos h504) (Eq.trans (if_neg h505) (Eq.trans (if_neg h507) (Eq.trans (if_neg h510) (Eq.trans (if_neg h512) (Eq.trans (if_neg h515) (Eq.trans (if_pos h516) (Eq.trans (zs_eq hm517) rfl))))))))) (hJ518.up (by omega)) 
              · refine X.cut [] i124_39 rfl ?_
                refine X.iconst 40 i124_39 rfl rfl (by decide) ?_
                refine X.retz i124_40 rfl t124 (by omega) ?_
                exact hQ 0 m501 (by first | trivial | omega) (Eq.trans (zb_eq hFv503) (Eq.trans (if_pos h504) (Eq.trans (if_neg h505) (Eq.trans (if_neg h507) (Eq.trans (if_neg h510) (Eq.trans (if_neg h512) (Eq.trans (if_neg h515) (Eq.trans (if_neg h516) rfl)))))))) (hJ502.up (by omega)) 
-- WorkMeterModel.week
noncomputable def f247_1 (a1 a2 a3 : Int) (m : zM) : Int × zM :=
  zb (f203_1 m) fun v503 m501 =>
  if v503 = 0 then
  (if a1 < 0 then
  ((0, m501))
  else
  (if a1 ≤ 3 then
  (if a2 < 0 then
  ((0, m501))
  else
  (if a2 ≤ 6 then
  (if a3 < 0 then
  ((0, m501))
  else
  (if a3 ≤ 7 then
  (zs (z_upd m501 4 45 ((395 + (7 * a1)) + a2) a3) fun m526 =>
  (1, m526))
  else
  ((0, m501))))
  else
  ((0, m501))))
  else
  ((0, m501))))
  else
  ((0, m501))
-- WorkMeterModel.week
theorem c247_1 {s : Nat × (Nat → Int32)} {S : zS} {m0 m : zM} {B : Int} {d : Nat} {Q : Option zV → zM → Prop} (a1 a2 a3 : Int) (hd : 14 ≤ d) (hJ : J S m0 B m) (hB : B + 0 ≤ 1000000000) (ha1 : (-2147483648) ≤ a1 ∧ a1 ≤ 2147483647) (ha2 : (-2147483648) ≤ a2 ∧ a2 ≤ 2147483647) (ha3 : (-2147483648) ≤ a3 ∧ a3 ≤ 2147483647) (hf1 : ¬ S.1 1) (hf4 : ¬ S.1 4) (hg4 : ¬ S.2.1 4) (hQ : ∀ (v : Int) m', (0 ≤ v ∧ v ≤ 1) → f247_1 a1 a2 a3 m = (v, m') → J S m0 (B) m' → Q (some (zi v)) m') : X (EE s) d 247 0 [(0, zr 4 44), (1, zi a1), (2, zi a2), (3, zi a3)] [] m Q := by
  refine X.aload_n 1 i247_0 rfl rfl rfl ?_
  refine X.callv 4 [] [] [(0, zr 4 44)] i247_1 rfl (by decide) rfl rfl (by omega) rfl rfl (by decide) rfl t203 (Nat.le_of_ble_eq_true rfl) (Nat.le_of_ble_eq_true rfl) rfl ?_
  refine c203_1 (B := B)   (by omega) (hJ.up (by omega)) (by omega)  hf4 hg4 (fun v503 m501 hv503 hFv503 hJ502 => ?_)
  show X (EE s) d 247 4 [(0, zr 4 44), (1, zi a1), (2, zi a2), (3, zi a3)] [zi v503] m501 _
  refine X.ifne 33 7 i247_4 rfl rfl rfl (fun h504 => ?_) (fun h504 => ?_)
  · refine X.cut [] i247_33 rfl ?_
    refine X.iconst 34 i247_33 rfl rfl (by decide) ?_
    refine X.retz i247_34 rfl t247 (by omega) ?_
    exact hQ 0 m501 (by first | trivial | omega) (Eq.trans (zb_eq hFv503) (Eq.trans (if_neg h504) rfl)) (hJ502.up (by omega)) 
  · refine X.iload_n 8 i247_7 rfl rfl rfl ?_
    refine X.calls 11 [zi a1] [] [(0, zi a1)] i247_8 (by decide) rfl rfl (by omega) rfl rfl t246 (Nat.le_of_ble_eq_true rfl) (Nat.le_of_ble_eq_true rfl) rfl ?_
    refine X.iload_n 1 i246_0 rfl rfl rfl ?_
    refine X.i2l 2 i246_1 rfl rfl ?_
    refine X.lconst (y := 0) 3 i246_2 rfl rfl rfl ?_
    refine X.ldc2 6 i246_3 rfl rfl (by decide) ?_
    refine X.calls 9 [zl a1, zl 0, zl 3] [] [(0, zl a1), (2, zl 0), (4, zl 3)] i246_6 (by decide) rfl rfl (by omega) rfl rfl t204 (Nat.le_of_ble_eq_true rfl) (Nat.le_of_ble_eq_true rfl) rfl ?_
    refine X.lload_n 1 i204_0 rfl rfl rfl ?_
    refine X.lload_n 2 i204_1 rfl rfl rfl ?_
    refine X.lcmp 3 i204_2 rfl rfl (fun z505 hz505 => ?_)
    refine X.iflt 17 6 i204_3 rfl rfl rfl (fun h506 => ?_) (fun h506 => ?_)
    · have h506c : a1 < 0 := by omega
      clear h506 hz505
      refine X.cut [] i204_17 rfl ?_
      refine X.iconst 18 i204_17 rfl rfl (by decide) ?_
      refine X.retz i204_18 rfl t204 (by omega) ?_
      show X (EE s) (d - 1) 246 9 [(0, zi a1)] [zi 0] m501 _
      refine X.retz i246_9 rfl t246 (by omega) ?_
      show X (EE s) d 247 11 [(0, zr 4 44), (1, zi a1), (2, zi a2), (3, zi a3)] [zi 0] m501 _
      refine X.ifeq 33 14 i247_11 rfl rfl rfl (fun h507 => ?_) (fun h507 => (by exfalso; omega))
      refine X.cut [] i247_33 rfl ?_
      refine X.iconst 34 i247_33 rfl rfl (by decide) ?_
      refine X.retz i247_34 rfl t247 (by omega) ?_
      exact hQ 0 m501 (by first | trivial | omega) (Eq.trans (zb_eq hFv503) (Eq.trans (if_pos h504) (Eq.trans (if_pos h506c) rfl))) (hJ502.up (by omega)) 
    · have h506c : ¬ a1 < 0 := by omega
      clear h506 hz505
      refine X.lload_n 7 i204_6 rfl rfl rfl ?_
      refine X.lload 9 i204_7 rfl rfl rfl ?_
      refine X.lcmp 10 i204_9 rfl rfl (fun z508 hz508 => ?_)
      refine X.ifgt 17 13 i204_10 rfl rfl rfl (fun h509 => ?_) (fun h509 => ?_)
      · have h509c : ¬ a1 ≤ 3 := by omega
        clear h509 hz508
        refine X.cut [] i204_17 rfl ?_
        refine X.iconst 18 i204_17 rfl rfl (by decide) ?_
        refine X.retz i204_18 rfl t204 (by omega) ?_
        show X (EE s) (d - 1) 246 9 [(0, zi a1)] [zi 0] m501 _
        refine X.retz i246_9 rfl t246 (by omega) ?_
        show X (EE s) d 247 11 [(0, zr 4 44), (1, zi a1), (2, zi a2), (3, zi a3)] [zi 0] m501 _
        refine X.ifeq 33 14 i247_11 rfl rfl rfl (fun h510 => ?_) (fun h510 => (by exfalso; omega))
        refine X.cut [] i247_33 rfl ?_
        refine X.iconst 34 i247_33 rfl rfl (by decide) ?_
        refine X.retz i247_34 rfl t247 (by omega) ?_
        exact hQ 0 m501 (by first | trivial | omega) (Eq.trans (zb_eq hFv503) (Eq.trans (if_pos h504) (Eq.trans (if_neg h506c) (Eq.trans (if_neg h509c) rfl)))) (hJ502.up (by omega)) 
      · have h509c : a1 ≤ 3 := by omega
        clear h509 hz508
        refine X.iconst 14 i204_13 rfl rfl (by decide) ?_
        refine X.goto 18 i204_14 rfl rfl ?_
        refine X.cut [] i204_18 rfl ?_
        refine X.retz i204_18 rfl t204 (by omega) ?_
        show X (EE s) (d - 1) 246 9 [(0, zi a1)] [zi 1] m501 _
        refine X.retz i246_9 rfl t246 (by omega) ?_
        show X (EE s) d 247 11 [(0, zr 4 44), (1, zi a1), (2, zi a2), (3, zi a3)] [zi 1] m501 _
        refine X.ifeq 33 14 i247_11 rfl rfl rfl (fun h511 => (by exfalso; omega)) (fun h511 => ?_)
        refine X.iload_n 15 i247_14 rfl rfl rfl ?_
        refine X.i2l 16 i247_15 rfl rfl ?_
        refine X.lconst (y := 0) 17 i247_16 rfl rfl rfl ?_
        refine X.ldc2 20 i247_17 rfl rfl (by decide) ?_
        refine X.calls 23 [zl a2, zl 0, zl 6] [] [(0, zl a2), (2, zl 0), (4, zl 6)] i247_20 (by decide) rfl rfl (by omega) rfl rfl t204 (Nat.le_of_ble_eq_true rfl) (Nat.le_of_ble_eq_true rfl) rfl ?_
        refine X.lload_n 1 i204_0 rfl rfl rfl ?_
        refine X.lload_n 2 i204_1 rfl rfl rfl ?_
        refine X.lcmp 3 i204_2 rfl rfl (fun z512 hz512 => ?_)
        refine X.iflt 17 6 i204_3 rfl rfl rfl (fun h513 => ?_) (fun h513 => ?_)
        · have h513c : a2 < 0 := by omega
          clear h513 hz512
          refine X.cut [] i204_17 rfl ?_
          refine X.iconst 18 i204_17 rfl rfl (by decide) ?_
          refine X.retz i204_18 rfl t204 (by omega) ?_
          show X (EE s) d 247 23 [(0, zr 4 44), (1, zi a1), (2, zi a2), (3, zi a3)] [zi 0] m501 _
          refine X.ifeq 33 26 i247_23 rfl rfl rfl (fun h514 => ?_) (fun h514 => (by exfalso; omega))
          refine X.cut [] i247_33 rfl ?_
          refine X.iconst 34 i247_33 rfl rfl (by decide) ?_
          refine X.retz i247_34 rfl t247 (by omega) ?_
          exact hQ 0 m501 (by first | trivial | omega) (Eq.trans (zb_eq hFv503) (Eq.trans (if_pos h504) (Eq.trans (if_neg h506c) (Eq.trans (if_pos h509c) (Eq.trans (if_pos h513c) rfl))))) (hJ502.up (by omega)) 
        · have h513c : ¬ a2 < 0 := by omega
          clear h513 hz512
          refine X.lload_n 7 i204_6 rfl rfl rfl ?_
          refine X.lload 9 i204_7 rfl rfl rfl ?_
          refine X.lcmp 10 i204_9 rfl rfl (fun z515 hz515 => ?_)
          refine X.ifgt 17 13 i204_10 rfl rfl rfl (fun h516 => ?_) (fun h516 => ?_)
          · have h516c : ¬ a2 ≤ 6 := by omega
            clear h516 hz515
            refine X.cut [] i204_17 rfl ?_
            refine X.iconst 18 i204_17 rfl rfl (by decide) ?_
            refine X.retz i204_18 rfl t204 (by omega) ?_
            show X (EE s) d 247 23 [(0, zr 4 44), (1, zi a1), (2, zi a2), (3, zi a3)] [zi 0] m501 _
            refine X.ifeq 33 26 i247_23 rfl rfl rfl (fun h517 => ?_) (fun h517 => (by exfalso; omega))
            refine X.cut [] i247_33 rfl ?_
            refine X.iconst 34 i247_33 rfl rfl (by decide) ?_
            refine X.retz i247_34 rfl t247 (by omega) ?_
            exact hQ 0 m501 (by first | trivial | omega) (Eq.trans (zb_eq hFv503) (Eq.trans (if_pos h504) (Eq.trans (if_neg h506c) (Eq.trans (if_pos h509c) (Eq.trans (if_neg h513c) (Eq.trans (if_neg h516c) rfl)))))) (hJ502.up (by omega)) 
          · have h516c : a2 ≤ 6 := by omega
            clear h516 hz515
            refine X.iconst 14 i204_13 rfl rfl (by decide) ?_
            refine X.goto 18 i204_14 rfl rfl ?_
            refine X.cut [] i204_18 rfl ?_
            refine X.retz i204_18 rfl t204 (by omega) ?_
            show X (EE s) d 247 23 [(0, zr 4 44), (1, zi a1), (2, zi a2), (3, zi a3)] [zi 1] m501 _
            refine X.ifeq 33 26 i247_23 rfl rfl rfl (fun h518 => (by exfalso; omega)) (fun h518 => ?_)
            refine X.iload_n 27 i247_26 rfl rfl rfl ?_
            refine X.calls 30 [zi a3] [] [(0, zi a3)] i247_27 (by decide) rfl rfl (by omega) rfl rfl t241 (Nat.le_of_ble_eq_true rfl) (Nat.le_of_ble_eq_true rfl) rfl ?_
            refine X.iload_n 1 i241_0 rfl rfl rfl ?_
            refine X.i2l 2 i241_1 rfl rfl ?_
            refine X.lconst (y := 0) 3 i241_2 rfl rfl rfl ?_
            refine X.ldc2 6 i241_3 rfl rfl (by decide) ?_
            refine X.calls 9 [zl a3, zl 0, zl 7] [] [(0, zl a3), (2, zl 0), (4, zl 7)] i241_6 (by decide) rfl rfl (by omega) rfl rfl t204 (Nat.le_of_ble_eq_true rfl) (Nat.le_of_ble_eq_true rfl) rfl ?_
            refine X.lload_n 1 i204_0 rfl rfl rfl ?_
            refine X.lload_n 2 i204_1 rfl rfl rfl ?_
            refine X.lcmp 3 i204_2 rfl rfl (fun z519 hz519 => ?_)
            refine X.iflt 17 6 i204_3 rfl rfl rfl (fun h520 => ?_) (fun h520 => ?_)
            · have h520c : a3 < 0 := by omega
              clear h520 hz519
              refine X.cut [] i204_17 rfl ?_
              refine X.iconst 18 i204_17 rfl rfl (by decide) ?_
              refine X.retz i204_18 rfl t204 (by omega) ?_
              show X (EE s) (d - 1) 241 9 [(0, zi a3)] [zi 0] m501 _
              refine X.retz i241_9 rfl t241 (by omega) ?_
              show X (EE s) d 247 30 [(0, zr 4 44), (1, zi a1), (2, zi a2), (3, zi a3)] [zi 0] m501 _
              refine X.ifne 35 33 i247_30 rfl rfl rfl (fun h521 => (by exfalso; omega)) (fun h521 => ?_)
              refine X.cut [] i247_33 rfl ?_
              refine X.iconst 34 i247_33 rfl rfl (by decide) ?_
              refine X.retz i247_34 rfl t247 (by omega) ?_
              exact hQ 0 m501 (by first | trivial | omega) (Eq.trans (zb_eq hFv503) (Eq.trans (if_pos h504) (Eq.trans (if_neg h506c) (Eq.trans (if_pos h509c) (Eq.trans (if_neg h513c) (Eq.trans (if_pos h516c) (Eq.trans (if_pos h520c) rfl))))))) (hJ502.up (by omega)) 
            · have h520c : ¬ a3 < 0 := by omega
              clear h520 hz519
              refine X.lload_n 7 i204_6 rfl rfl rfl ?_
              refine X.lload 9 i204_7 rfl rfl rfl ?_
              refine X.lcmp 10 i204_9 rfl rfl (fun z522 hz522 => ?_)
              refine X.ifgt 17 13 i204_10 rfl rfl rfl (fun h523 => ?_) (fun h523 => ?_)
              · have h523c : ¬ a3 ≤ 7 := by omega
                clear h523 hz522
                refine X.cut [] i204_17 rfl ?_
                refine X.iconst 18 i204_17 rfl rfl (by decide) ?_
                refine X.retz i204_18 rfl t204 (by omega) ?_
                show X (EE s) (d - 1) 241 9 [(0, zi a3)] [zi 0] m501 _
                refine X.retz i241_9 rfl t241 (by omega) ?_
                show X (EE s) d 247 30 [(0, zr 4 44), (1, zi a1), (2, zi a2), (3, zi a3)] [zi 0] m501 _
                refine X.ifne 35 33 i247_30 rfl rfl rfl (fun h524 => (by exfalso; omega)) (fun h524 => ?_)
                refine X.cut [] i247_33 rfl ?_
                refine X.iconst 34 i247_33 rfl rfl (by decide) ?_
                refine X.retz i247_34 rfl t247 (by omega) ?_
                exact hQ 0 m501 (by first | trivial | omega) (Eq.trans (zb_eq hFv503) (Eq.trans (if_pos h504) (Eq.trans (if_neg h506c) (Eq.trans (if_pos h509c) (Eq.trans (if_neg h513c) (Eq.trans (if_pos h516c) (Eq.trans (if_neg h520c) (Eq.trans (if_neg h523c) rfl)))))))) (hJ502.up (by omega)) 
              · have h523c : a3 ≤ 7 := by omega
                clear h523 hz522
                refine X.iconst 14 i204_13 rfl rfl (by decide) ?_
                refine X.goto 18 i204_14 rfl rfl ?_
                refine X.cut [] i204_18 rfl ?_
                refine X.retz i204_18 rfl t204 (by omega) ?_
                show X (EE s) (d - 1) 241 9 [(0, zi a3)] [zi 1] m501 _
                refine X.retz i241_9 rfl t241 (by omega) ?_
                show X (EE s) d 247 30 [(0, zr 4 44), (1, zi a1), (2, zi a2), (3, zi a3)] [zi 1] m501 _
                refine X.ifne 35 33 i247_30 rfl rfl rfl (fun h525 => ?_) (fun h525 => (by exfalso; omega))
                refine X.aload_n 36 i247_35 rfl rfl rfl ?_
                refine X.getF 39 i247_36 rfl rfl (by decide) rfl rfl ?_
                refine X.sipush 42 i247_39 rfl rfl (by decide) ?_
                refine X.bipush 44 i247_42 rfl rfl (by decide) ?_
                refine X.iload_n 45 i247_44 rfl rfl rfl ?_
                refine X.imul 46 i247_45 rfl rfl (by omega) ?_
                refine X.iadd 47 i247_46 rfl rfl (by omega) ?_
                refine X.iload_n 48 i247_47 rfl rfl rfl ?_
                refine X.iadd 49 i247_48 rfl rfl (by omega) ?_
                refine X.iload_n 50 i247_49 rfl rfl rfl ?_
                refine X.i2l 51 i247_50 rfl rfl ?_
                refine X.last' 52 i247_51 rfl rfl (by decide) rfl (by omega) (fun hrm526 m526 hm526 => ?_)
                have hJ527 := w45_395 hJ502 hm526 (by omega) (by omega) hf1 hg4
                refine X.iconst 53 i247_52 rfl rfl (by decide) ?_
                refine X.retz i247_53 rfl t247 (by omega) ?_
                exact hQ 1 m526 (by first | trivial | omega) (Eq.trans (zb_eq hFv503) (Eq.trans (if_pos h504) (Eq.trans (if_neg h506c) (Eq.trans (if_pos h509c) (Eq.trans (if_neg h513c) (Eq.trans (if_pos h516c) (Eq.trans (if_neg h520c) (Eq.trans (if_pos h523c) (Eq.trans (zs_eq hm526) rfl))))))))) (hJ527.up (by omega)) 
-- WorkMeter$Calendar.dropSpecial
noncomputable def f126_1 (g0 : Nat) (a1 : Int) (m : zM) : Int × zM :=
  zn (f29_1 g0 a1 m) fun v503 =>
  if v503 = (-1) then
  ((0, m))
  else
  (zs (z_upd m g0 11 7 ((m g0 11 7) - 1)) fun m506 =>
  zs (z_upd m506 g0 17 v503 (m506 g0 17 (m506 g0 11 7))) fun m509 =>
  zs (z_upd m509 g0 18 v503 (m509 g0 18 (m509 g0 11 7))) fun m513 =>
  (1, m513))
-- WorkMeter$Calendar.dropSpecial
theorem c126_1 {s : Nat × (Nat → Int32)} {S : zS} {m0 m : zM} {B : Int} {d : Nat} {Q : Option zV → zM → Prop} (g0 : Nat) (a1 : Int) (hd : 14 ≤ d) (hJ : J S m0 B m) (hB : B + 0 ≤ 1000000000) (ha1 : 0 ≤ a1 ∧ a1 ≤ 364) (hf1 : ¬ S.1 1) (hgg0 : ¬ S.2.1 g0) (hQ : ∀ (v : Int) m', (0 ≤ v ∧ v ≤ 1) → f126_1 g0 a1 m = (v, m') → J S m0 (B) m' → Q (some (zi v)) m') : X (EE s) d 126 0 [(0, zr g0 11), (1, zi a1)] [] m Q := by
  refine X.aload_n 1 i126_0 rfl rfl rfl ?_
  refine X.iload_n 2 i126_1 rfl rfl rfl ?_
  refine X.callv 5 [zi a1] [] [(0, zr g0 11), (1, zi a1)] i126_2 rfl (by decide) rfl rfl (by omega) rfl rfl (by decide) rfl t29 (Nat.le_of_ble_eq_true rfl) (Nat.le_of_ble_eq_true rfl) rfl ?_
  refine c29_1 (B := B) g0 a1 (by omega) (hJ.up (by omega)) (by omega) (by omega) (fun v503 hv503 hFv503 hqv503_0 => ?_)
  show X (EE s) d 126 5 [(0, zr g0 11), (1, zi a1)] [zi v503] m _
  refine X.istore_n 6 [(0, zr g0 11), (1, zi a1), (2, zi v503)] i126_5 rfl rfl rfl ?_
  refine X.iload_n 7 i126_6 rfl rfl rfl ?_
  refine X.iconst 8 i126_7 rfl rfl (by decide) ?_
  refine X.icmpne 13 11 i126_8 rfl rfl rfl (fun h504 => ?_) (fun h504 => ?_)
  · refine X.cut [(0, zr g0 11), (2, zi v503)] i126_13 rfl ?_
    refine X.aload_n 14 i126_13 rfl rfl rfl ?_
    refine X.dup 15 i126_14 rfl rfl rfl ?_
    refine X.getI 18 7 i126_15 rfl rfl (by decide) rfl rfl rfl ?_
    have h505 := r11_7 hJ g0
    refine X.iconst 19 i126_18 rfl rfl (by decide) ?_
    refine X.isub 20 i126_19 rfl rfl (by omega) ?_
    refine X.putI' 23 7 i126_20 rfl rfl (by decide) rfl rfl rfl (fun hrm506 m506 hm506 => ?_)
    have hJ507 := w11_7 hJ hm506 (by omega) hf1 hgg0
    have em506 : m506 g0 11 7 = ((m g0 11 7) - 1) := by rw [hm506]; exact z_upd_same _ _ _ _ _
    refine X.aload_n 24 i126_23 rfl rfl rfl ?_
    refine X.getR 27 i126_24 rfl rfl (by decide) rfl rfl ?_
    refine X.iload_n 28 i126_27 rfl rfl rfl ?_
    refine X.aload_n 29 i126_28 rfl rfl rfl ?_
    refine X.getR 32 i126_29 rfl rfl (by decide) rfl rfl ?_
    refine X.aload_n 33 i126_32 rfl rfl rfl ?_
    refine X.getI 36 7 i126_33 rfl rfl (by decide) rfl rfl rfl ?_
    refine X.iald 37 i126_36 rfl rfl (by decide) rfl (by omega) ?_
    have h508 := r17_0 hJ507 g0 (i := (m506 g0 11 7)) (by omega)
    refine X.iast' 38 i126_37 rfl rfl (by decide) rfl (by omega) (fun hrm509 m509 hm509 => ?_)
    have hJ510 := w17_0 hJ507 hm509 (by omega) (by omega) hf1 hgg0
    have wtm509_0 : m509 g0 11 7 = m506 g0 11 7 := by rw [hm509]; exact z_upd_o _ _ rfl
    refine X.aload_n 39 i126_38 rfl rfl rfl ?_
    refine X.getR 42 i126_39 rfl rfl (by decide) rfl rfl ?_
    refine X.iload_n 43 i126_42 rfl rfl rfl ?_
    refine X.aload_n 44 i126_43 rfl rfl rfl ?_
    refine X.getR 47 i126_44 rfl rfl (by decide) rfl rfl ?_
    refine X.aload_n 48 i126_47 rfl rfl rfl ?_
    refine X.getI 51 7 i126_48 rfl rfl (by decide) rfl rfl rfl ?_
    have h511 := r11_7 hJ510 g0
    refine X.iald 52 i126_51 rfl rfl (by decide) rfl (by omega) ?_
    have h512 := r18_0 hJ510 g0 (i := (m509 g0 11 7)) (by omega)
    refine X.iast' 53 i126_52 rfl rfl (by decide) rfl (by omega) (fun hrm513 m513 hm513 => ?_)
    have hJ514 := w18_0 hJ510 hm513 (by omega) (by omega) hf1 hgg0
    have wtm513_0 : m513 g0 11 7 = m509 g0 11 7 := by rw [hm513]; exact z_upd_o _ _ rfl
    refine X.iconst 54 i126_53 rfl rfl (by decide) ?_
    refine X.retz i126_54 rfl t126 (by omega) ?_
    exact hQ 1 m513 (by first | trivial | omega) (Eq.trans (zn_eq hFv503.symm) (Eq.trans (if_neg h504) (Eq.trans (zs_eq hm506) (Eq.trans (zs_eq hm509) (Eq.trans (zs_eq hm513) rfl))))) (hJ514.up (by omega)) 
  · refine X.iconst 12 i126_11 rfl rfl (by decide) ?_
    refine X.retz i126_12 rfl t126 (by omega) ?_
    exact hQ 0 m (by first | trivial | omega) (Eq.trans (zn_eq hFv503.symm) (Eq.trans (if_pos h504) rfl)) (hJ.up (by omega)) 
-- WorkMeter.special
noncomputable def f125_1 (a1 a2 : Int) (m : zM) : Int × zM :=
  zb (f17_1 0 m) fun v503 m501 =>
  if v503 = 0 then
  (if a1 < 0 then
  ((0, m501))
  else
  (if a1 < 365 then
  (if a2 = (-1) then
  (zb (f126_1 0 a1 m501) fun v524 m522 =>
  (v524, m522))
  else
  (if a2 < 0 then
  ((0, m501))
  else
  (if 8 ≤ a2 then
  ((0, m501))
  else
  (zb (f109_1 0 a1 a2 m501) fun v515 m513 =>
  zn (if v515 = 0 then
  (0)
  else
  (1)) fun v517 =>
  (v517, m513)))))
  else
  ((0, m501))))
  else
  ((0, m501))
-- WorkMeter.special
theorem c125_1 {s : Nat × (Nat → Int32)} {S : zS} {m0 m : zM} {B : Int} {d : Nat} {Q : Option zV → zM → Prop} (a1 a2 : Int) (hd : 15 ≤ d) (hJ : J S m0 B m) (hB : B + 0 ≤ 1000000000) (ha1 : (-2147483648) ≤ a1 ∧ a1 ≤ 2147483647) (ha2 : (-2147483648) ≤ a2 ∧ a2 ≤ 2147483647) (hf1 : ¬ S.1 1) (hf4 : ¬ S.1 4) (hg0 : ¬ S.2.1 0) (hQ : ∀ (v : Int) m', (0 ≤ v ∧ v ≤ 1) → f125_1 a1 a2 m = (v, m') → J S m0 (B) m' → Q (some (zi v)) m') : X (EE s) d 125 0 [(0, zr 4 40), (1, zi a1), (2, zi a2)] [] m Q := by
  refine X.aload_n 1 i125_0 rfl rfl rfl ?_
  refine X.getF 4 i125_1 rfl rfl (by decide) rfl rfl ?_
  refine X.getR 7 i125_4 rfl rfl (by decide) rfl rfl ?_
  refine X.callv 10 [] [] [(0, zr 0 39)] i125_7 rfl (by decide) rfl rfl (by omega) rfl rfl (by decide) rfl t17 (Nat.le_of_ble_eq_true rfl) (Nat.le_of_ble_eq_true rfl) rfl ?_
  refine c17_1 (B := B) 0  (by omega) (hJ.up (by omega)) (by omega)  hf4 hg0 (fun v503 m501 hv503 hFv503 hJ502 => ?_)
  show X (EE s) d 125 10 [(0, zr 4 40), (1, zi a1), (2, zi a2)] [zi v503] m501 _
  refine X.ifne 24 13 i125_10 rfl rfl rfl (fun h504 => ?_) (fun h504 => ?_)
  · refine X.cut [] i125_24 rfl ?_
    refine X.iconst 25 i125_24 rfl rfl (by decide) ?_
    refine X.retz i125_25 rfl t125 (by omega) ?_
    exact hQ 0 m501 (by first | trivial | omega) (Eq.trans (zb_eq hFv503) (Eq.trans (if_neg h504) rfl)) (hJ502.up (by omega)) 
  · refine X.iload_n 14 i125_13 rfl rfl rfl ?_
    refine X.iflt 24 17 i125_14 rfl rfl rfl (fun h505 => ?_) (fun h505 => ?_)
    · refine X.cut [] i125_24 rfl ?_
      refine X.iconst 25 i125_24 rfl rfl (by decide) ?_
      refine X.retz i125_25 rfl t125 (by omega) ?_
      exact hQ 0 m501 (by first | trivial | omega) (Eq.trans (zb_eq hFv503) (Eq.trans (if_pos h504) (Eq.trans (if_pos h505) rfl))) (hJ502.up (by omega)) 
    · refine X.iload_n 18 i125_17 rfl rfl rfl ?_
      refine X.sipush 21 i125_18 rfl rfl (by decide) ?_
      refine X.icmplt 26 24 i125_21 rfl rfl rfl (fun h506 => ?_) (fun h506 => ?_)
      · refine X.iload_n 27 i125_26 rfl rfl rfl ?_
        refine X.iconst 28 i125_27 rfl rfl (by decide) ?_
        refine X.icmpne 43 31 i125_28 rfl rfl rfl (fun h507 => ?_) (fun h507 => ?_)
        · refine X.iload_n 44 i125_43 rfl rfl rfl ?_
          refine X.calls 47 [zi a2] [] [(0, zi a2)] i125_44 (by decide) rfl rfl (by omega) rfl rfl t79 (Nat.le_of_ble_eq_true rfl) (Nat.le_of_ble_eq_true rfl) rfl ?_
          refine X.iload_n 1 i79_0 rfl rfl rfl ?_
          refine X.iflt 14 4 i79_1 rfl rfl rfl (fun h508 => ?_) (fun h508 => ?_)
          · refine X.cut [] i79_14 rfl ?_
            refine X.iconst 15 i79_14 rfl rfl (by decide) ?_
            refine X.retz i79_15 rfl t79 (by omega) ?_
            show X (EE s) d 125 47 [(0, zr 4 40), (1, zi a1), (2, zi a2)] [zi 0] m501 _
            refine X.ifeq 69 50 i125_47 rfl rfl rfl (fun h509 => ?_) (fun h509 => (by exfalso; omega))
            refine X.cut [] i125_69 rfl ?_
            refine X.iconst 70 i125_69 rfl rfl (by decide) ?_
            refine X.retz i125_70 rfl t125 (by omega) ?_
            exact hQ 0 m501 (by first | trivial | omega) (Eq.trans (zb_eq hFv503) (Eq.trans (if_pos h504) (Eq.trans (if_neg h505) (Eq.trans (if_pos h506) (Eq.trans (if_neg h507) (Eq.trans (if_pos h508) rfl)))))) (hJ502.up (by omega)) 
          · refine X.iload_n 5 i79_4 rfl rfl rfl ?_
            refine X.bipush 7 i79_5 rfl rfl (by decide) ?_
            refine X.icmpge 14 10 i79_7 rfl rfl rfl (fun h510 => ?_) (fun h510 => ?_)
            · refine X.cut [] i79_14 rfl ?_
              refine X.iconst 15 i79_14 rfl rfl (by decide) ?_
              refine X.retz i79_15 rfl t79 (by omega) ?_
              show X (EE s) d 125 47 [(0, zr 4 40), (1, zi a1), (2, zi a2)] [zi 0] m501 _
              refine X.ifeq 69 50 i125_47 rfl rfl rfl (fun h511 => ?_) (fun h511 => (by exfalso; omega))
              refine X.cut [] i125_69 rfl ?_
              refine X.iconst 70 i125_69 rfl rfl (by decide) ?_
              refine X.retz i125_70 rfl t125 (by omega) ?_
              exact hQ 0 m501 (by first | trivial | omega) (Eq.trans (zb_eq hFv503) (Eq.trans (if_pos h504) (Eq.trans (if_neg h505) (Eq.trans (if_pos h506) (Eq.trans (if_neg h507) (Eq.trans (if_neg h508) (Eq.trans (if_pos h510) rfl))))))) (hJ502.up (by omega)) 
            · refine X.iconst 11 i79_10 rfl rfl (by decide) ?_
              refine X.goto 15 i79_11 rfl rfl ?_
              refine X.cut [] i79_15 rfl ?_
              refine X.retz i79_15 rfl t79 (by omega) ?_
              show X (EE s) d 125 47 [(0, zr 4 40), (1, zi a1), (2, zi a2)] [zi 1] m501 _
              refine X.ifeq 69 50 i125_47 rfl rfl rfl (fun h512 => (by exfalso; omega)) (fun h512 => ?_)
              refine X.aload_n 51 i125_50 rfl rfl rfl ?_
              refine X.getF 54 i125_51 rfl rfl (by decide) rfl rfl ?_
              refine X.getR 57 i125_54 rfl rfl (by decide) rfl rfl ?_
              refine X.iload_n 58 i125_57 rfl rfl rfl ?_
              refine X.iload_n 59 i125_58 rfl rfl rfl ?_
              refine X.callv 62 [zi a1, zi a2] [] [(0, zr 0 11), (1, zi a1), (2, zi a2)] i125_59 rfl (by decide) rfl rfl (by omega) rfl rfl (by decide) rfl t109 (Nat.le_of_ble_eq_true rfl) (Nat.le_of_ble_eq_true rfl) rfl ?_
              refine c109_1 (B := B) 0 a1 a2 (by omega) (hJ502.up (by omega)) (by omega) (by omega) (by omega) hf1 hg0 (fun v515 m513 hv515 hFv515 hJ514 => ?_)
              show X (EE s) d 125 62 [(0, zr 4 40), (1, zi a1), (2, zi a2)] [zi v515] m513 _
              have hK520 : ∀ (v : Int) , (0 ≤ v ∧ v ≤ 1) → (if v515 = 0 then
                  (0)
                  else
                  (1)) = v → X (EE s) d 125 70 [] [zi v] m513 Q := by
                intro v517 hv517 hT521
                refine X.retz i125_70 rfl t125 (by omega) ?_
                exact hQ v517 m513 (by first | trivial | omega) (Eq.trans (zb_eq hFv503) (Eq.trans (if_pos h504) (Eq.trans (if_neg h505) (Eq.trans (if_pos h506) (Eq.trans (if_neg h507) (Eq.trans (if_neg h508) (Eq.trans (if_neg h510) (Eq.trans (zb_eq hFv515) (Eq.trans (zn_eq hT521.symm) rfl))))))))) (hJ514.up (by omega)) 
              refine X.ifeq 69 65 i125_62 rfl rfl rfl (fun h516 => ?_) (fun h516 => ?_)
              · refine X.cut [] i125_69 rfl ?_
                refine X.iconst 70 i125_69 rfl rfl (by decide) ?_
                exact hK520 0 (by first | trivial | omega) (Eq.trans (if_pos h516) rfl)
              · refine X.iconst 66 i125_65 rfl rfl (by decide) ?_
                refine X.goto 70 i125_66 rfl rfl ?_
                refine X.cut [] i125_70 rfl ?_
                exact hK520 1 (by first | trivial | omega) (Eq.trans (if_neg h516) rfl)
        · refine X.aload_n 32 i125_31 rfl rfl rfl ?_
          refine X.getF 35 i125_32 rfl rfl (by decide) rfl rfl ?_
          refine X.getR 38 i125_35 rfl rfl (by decide) rfl rfl ?_
          refine X.iload_n 39 i125_38 rfl rfl rfl ?_
          refine X.callv 42 [zi a1] [] [(0, zr 0 11), (1, zi a1)] i125_39 rfl (by decide) rfl rfl (by omega) rfl rfl (by decide) rfl t126 (Nat.le_of_ble_eq_true rfl) (Nat.le_of_ble_eq_true rfl) rfl ?_
          refine c126_1 (B := B) 0 a1 (by omega) (hJ502.up (by omega)) (by omega) (by omega) hf1 hg0 (fun v524 m522 hv524 hFv524 hJ523 => ?_)
          show X (EE s) d 125 42 [(0, zr 4 40), (1, zi a1), (2, zi a2)] [zi v524] m522 _
          refine X.retz i125_42 rfl t125 (by omega) ?_
          exact hQ v524 m522 (by first | trivial | omega) (Eq.trans (zb_eq hFv503) (Eq.trans (if_pos h504) (Eq.trans (if_neg h505) (Eq.trans (if_pos h506) (Eq.trans (if_pos h507) (Eq.trans (zb_eq hFv524) rfl)))))) (hJ523.up (by omega)) 
      · refine X.cut [] i125_24 rfl ?_
        refine X.iconst 25 i125_24 rfl rfl (by decide) ?_
        refine X.retz i125_25 rfl t125 (by omega) ?_
        exact hQ 0 m501 (by first | trivial | omega) (Eq.trans (zb_eq hFv503) (Eq.trans (if_pos h504) (Eq.trans (if_neg h505) (Eq.trans (if_neg h506) rfl)))) (hJ502.up (by omega)) 
noncomputable def fl249_4_1_b (self : Int → Int → Int) (k42 : Int → Int) (m : zM) (y1 y2 : Int) : Int :=
  if 365 ≤ y2 then
  (k42 y1)
  else
  (zn (if (m 4 45 (423 + y2)) = (-1) then
  (0)
  else
  (1)) fun v514 =>
  self (y1 + v514) (y2 + 1))
noncomputable def fl249_4_1 (k42 : Int → Int) (m : zM) : Nat → Int → Int → Int
  | 0 => fun y1 y2 => 0
  | n + 1 => fl249_4_1_b (fl249_4_1 k42 m n) k42 m
theorem l249_4_1 {s : Nat × (Nat → Int32)} {S : zS} {m0 : zM} {m : zM} {B : Int} {d : Nat} {Q : Option zV → zM → Prop} {R0 : Int} {k42 : Int → Int} (hd : 13 ≤ d) (hJ : J S m0 B m) (hB9 : B ≤ 1000000000)
    (K42 : ∀ (x1 : Int) , (0 ≤ x1 ∧ x1 ≤ 365) → (0 ≤ x1) → R0 = k42 x1 → X (EE s) d 249 42 [(1, zi x1)] [] m Q) :
    ∀ (n : Nat) (y1 y2 : Int) , (0 ≤ y1 ∧ y1 ≤ 365) → (0 ≤ y2 ∧ y2 ≤ 365) → (0 ≤ y1) → (y1 ≤ y2) → 365 - y2 < (n : Int) → R0 = fl249_4_1 k42 m n y1 y2 → X (EE s) d 249 4 [(0, zr 4 44), (1, zi y1), (2, zi y2)] [] m Q := by
  intro n
  induction n with
  | zero =>
    intro y1 y2 hy1 hy2 hr0 hr1 hn hR
    exfalso
    omega
  | succ n ih =>
    intro y1 y2 hy1 hy2 hr0 hr1 hn hR
    replace hR : R0 = fl249_4_1_b (fl249_4_1 k42 m n) k42 m y1 y2 := hR
    refine X.iload_n 5 i249_4 rfl rfl rfl ?_
    refine X.sipush 8 i249_5 rfl rfl (by decide) ?_
    refine X.icmpge 42 11 i249_8 rfl rfl rfl (fun h510 => ?_) (fun h510 => ?_)
    · refine X.cut [(1, zi y1)] i249_42 rfl ?_
      exact K42 y1 (by first | trivial | omega) (by omega) (Eq.trans hR (Eq.trans (if_pos h510) rfl))
    · refine X.iload_n 12 i249_11 rfl rfl rfl ?_
      refine X.aload_n 13 i249_12 rfl rfl rfl ?_
      refine X.getF 16 i249_13 rfl rfl (by decide) rfl rfl ?_
      refine X.sipush 19 i249_16 rfl rfl (by decide) ?_
      refine X.iload_n 20 i249_19 rfl rfl rfl ?_
      refine X.iadd 21 i249_20 rfl rfl (by omega) ?_
      refine X.lald 22 i249_21 rfl rfl (by decide) rfl (by omega) ?_
      have h511 := r45_423 hJ 4 (i := (423 + y2)) (by omega)
      refine X.ldc2 25 i249_22 rfl rfl (by decide) ?_
      refine X.lcmp 26 i249_25 rfl rfl (fun z512 hz512 => ?_)
      have hK517 : ∀ (v : Int) , (0 ≤ v ∧ v ≤ 1) → (if (m 4 45 (423 + y2)) = (-1) then
          (0)
          else
          (1)) = v → X (EE s) d 249 34 [(0, zr 4 44), (2, zi y2)] [zi v, zi y1] m Q := by
        intro v514 hv514 hT518
        refine X.iadd 35 i249_34 rfl rfl (by omega) ?_
        refine X.istore_n 36 [(0, zr 4 44), (1, zi (y1 + v514)), (2, zi y2)] i249_35 rfl rfl rfl ?_
        refine X.iinc 39 [(0, zr 4 44), (1, zi (y1 + v514)), (2, zi (y2 + 1))] i249_36 rfl rfl rfl (by omega) rfl ?_
        refine X.goto 4 i249_39 rfl rfl ?_
        exact ih (y1 + v514) (y2 + 1) (by omega) (by omega) (by omega) (by omega) (by omega) (Eq.trans hR (Eq.trans (if_neg h510) (Eq.trans (zn_eq hT518.symm) rfl)))
      refine X.ifne 33 29 i249_26 rfl rfl rfl (fun h513 => ?_) (fun h513 => ?_)
      · have h513c : ¬ (m 4 45 (423 + y2)) = (-1) := by omega
        clear h513 hz512
        refine X.cut [(0, zr 4 44), (2, zi y2)] i249_33 rfl ?_
        refine X.iconst 34 i249_33 rfl rfl (by decide) ?_
        exact hK517 1 (by first | trivial | omega) (Eq.trans (if_neg h513c) rfl)
      · have h513c : (m 4 45 (423 + y2)) = (-1) := by omega
        clear h513 hz512
        refine X.iconst 30 i249_29 rfl rfl (by decide) ?_
        refine X.goto 34 i249_30 rfl rfl ?_
        refine X.cut [(0, zr 4 44), (2, zi y2)] i249_34 rfl ?_
        exact hK517 0 (by first | trivial | omega) (Eq.trans (if_pos h513c) rfl)
-- WorkMeterModel.specials
noncomputable def f249_1 (m : zM) : Int :=
  fl249_4_1 (fun y501 =>
  y501) m (zfu 366) 0 0
-- WorkMeterModel.specials
theorem c249_1 {s : Nat × (Nat → Int32)} {S : zS} {m0 m : zM} {B : Int} {d : Nat} {Q : Option zV → zM → Prop} (hd : 13 ≤ d) (hJ : J S m0 B m) (hB : B + 0 ≤ 1000000000) (hQ : ∀ (v : Int), (0 ≤ v ∧ v ≤ 365) → f249_1 m = v → Q (some (zi v)) m) : X (EE s) d 249 0 [(0, zr 4 44)] [] m Q := by
  refine X.iconst 1 i249_0 rfl rfl (by decide) ?_
  refine X.istore_n 2 [(0, zr 4 44), (1, zi 0)] i249_1 rfl rfl rfl ?_
  refine X.iconst 3 i249_2 rfl rfl (by decide) ?_
  refine X.istore_n 4 [(0, zr 4 44), (1, zi 0), (2, zi 0)] i249_3 rfl rfl rfl ?_
  have hz366 := zfu_eq 366
  refine l249_4_1 (s := s) (m := m) (B := B) (d := d) (R0 := (f249_1 m))    (by omega) (hJ.up (by omega)) (by omega) (fun y501 hby501 hrlm502_0 hR505 => ?_) (zfu 366) 0 0 (by omega) (by omega) (by omega) (by omega) (by omega) rfl
  refine X.iload_n 43 i249_42 rfl rfl rfl ?_
  refine X.reti i249_43 rfl t249 ?_
  exact hQ y501 (by first | trivial | omega) (Eq.trans hR505 rfl) 
-- WorkMeterModel.special
noncomputable def f248_1 (a1 a2 : Int) (m : zM) : Int × zM :=
  zb (f203_1 m) fun v503 m501 =>
  if v503 = 0 then
  (if a1 < 0 then
  ((0, m501))
  else
  (if a1 ≤ 364 then
  (if a2 = (-1) then
  (zn (if (m501 4 45 (423 + a1)) = (-1) then
  (0)
  else
  (1)) fun v516 =>
  if v516 = 0 then
  ((0, m501))
  else
  (zs (z_upd m501 4 45 (423 + a1) a2) fun m523 =>
  (1, m523)))
  else
  (if a2 < 0 then
  ((0, m501))
  else
  (if a2 ≤ 7 then
  (zn (if (m501 4 45 (423 + a1)) = (-1) then
  (0)
  else
  (1)) fun v535 =>
  if v535 = 0 then
  (zn (f249_1 m501) fun v546 =>
  if v546 = 16 then
  ((0, m501))
  else
  (zs (z_upd m501 4 45 (423 + a1) a2) fun m548 =>
  (1, m548)))
  else
  (zs (z_upd m501 4 45 (423 + a1) a2) fun m542 =>
  (1, m542)))
  else
  ((0, m501)))))
  else
  ((0, m501))))
  else
  ((0, m501))
-- WorkMeterModel.special
theorem c248_1 {s : Nat × (Nat → Int32)} {S : zS} {m0 m : zM} {B : Int} {d : Nat} {Q : Option zV → zM → Prop} (a1 a2 : Int) (hd : 14 ≤ d) (hJ : J S m0 B m) (hB : B + 0 ≤ 1000000000) (ha1 : (-2147483648) ≤ a1 ∧ a1 ≤ 2147483647) (ha2 : (-2147483648) ≤ a2 ∧ a2 ≤ 2147483647) (hf1 : ¬ S.1 1) (hf4 : ¬ S.1 4) (hg4 : ¬ S.2.1 4) (hQ : ∀ (v : Int) m', (0 ≤ v ∧ v ≤ 1) → f248_1 a1 a2 m = (v, m') → J S m0 (B) m' → Q (some (zi v)) m') : X (EE s) d 248 0 [(0, zr 4 44), (1, zi a1), (2, zi a2)] [] m Q := by
  refine X.aload_n 1 i248_0 rfl rfl rfl ?_
  refine X.callv 4 [] [] [(0, zr 4 44)] i248_1 rfl (by decide) rfl rfl (by omega) rfl rfl (by decide) rfl t203 (Nat.le_of_ble_eq_true rfl) (Nat.le_of_ble_eq_true rfl) rfl ?_
  refine c203_1 (B := B)   (by omega) (hJ.up (by omega)) (by omega)  hf4 hg4 (fun v503 m501 hv503 hFv503 hJ502 => ?_)
  show X (EE s) d 248 4 [(0, zr 4 44), (1, zi a1), (2, zi a2)] [zi v503] m501 _
  refine X.ifne 31 7 i248_4 rfl rfl rfl (fun h504 => ?_) (fun h504 => ?_)
  · refine X.cut [] i248_31 rfl ?_
    refine X.iconst 32 i248_31 rfl rfl (by decide) ?_
    refine X.retz i248_32 rfl t248 (by omega) ?_
    exact hQ 0 m501 (by first | trivial | omega) (Eq.trans (zb_eq hFv503) (Eq.trans (if_neg h504) rfl)) (hJ502.up (by omega)) 
  · refine X.iload_n 8 i248_7 rfl rfl rfl ?_
    refine X.i2l 9 i248_8 rfl rfl ?_
    refine X.lconst (y := 0) 10 i248_9 rfl rfl rfl ?_
    refine X.ldc2 13 i248_10 rfl rfl (by decide) ?_
    refine X.calls 16 [zl a1, zl 0, zl 364] [] [(0, zl a1), (2, zl 0), (4, zl 364)] i248_13 (by decide) rfl rfl (by omega) rfl rfl t204 (Nat.le_of_ble_eq_true rfl) (Nat.le_of_ble_eq_true rfl) rfl ?_
    refine X.lload_n 1 i204_0 rfl rfl rfl ?_
    refine X.lload_n 2 i204_1 rfl rfl rfl ?_
    refine X.lcmp 3 i204_2 rfl rfl (fun z505 hz505 => ?_)
    refine X.iflt 17 6 i204_3 rfl rfl rfl (fun h506 => ?_) (fun h506 => ?_)
    · have h506c : a1 < 0 := by omega
      clear h506 hz505
      refine X.cut [] i204_17 rfl ?_
      refine X.iconst 18 i204_17 rfl rfl (by decide) ?_
      refine X.retz i204_18 rfl t204 (by omega) ?_
      show X (EE s) d 248 16 [(0, zr 4 44), (1, zi a1), (2, zi a2)] [zi 0] m501 _
      refine X.ifeq 31 19 i248_16 rfl rfl rfl (fun h507 => ?_) (fun h507 => (by exfalso; omega))
      refine X.cut [] i248_31 rfl ?_
      refine X.iconst 32 i248_31 rfl rfl (by decide) ?_
      refine X.retz i248_32 rfl t248 (by omega) ?_
      exact hQ 0 m501 (by first | trivial | omega) (Eq.trans (zb_eq hFv503) (Eq.trans (if_pos h504) (Eq.trans (if_pos h506c) rfl))) (hJ502.up (by omega)) 
    · have h506c : ¬ a1 < 0 := by omega
      clear h506 hz505
      refine X.lload_n 7 i204_6 rfl rfl rfl ?_
      refine X.lload 9 i204_7 rfl rfl rfl ?_
      refine X.lcmp 10 i204_9 rfl rfl (fun z508 hz508 => ?_)
      refine X.ifgt 17 13 i204_10 rfl rfl rfl (fun h509 => ?_) (fun h509 => ?_)
      · have h509c : ¬ a1 ≤ 364 := by omega
        clear h509 hz508
        refine X.cut [] i204_17 rfl ?_
        refine X.iconst 18 i204_17 rfl rfl (by decide) ?_
        refine X.retz i204_18 rfl t204 (by omega) ?_
        show X (EE s) d 248 16 [(0, zr 4 44), (1, zi a1), (2, zi a2)] [zi 0] m501 _
        refine X.ifeq 31 19 i248_16 rfl rfl rfl (fun h510 => ?_) (fun h510 => (by exfalso; omega))
        refine X.cut [] i248_31 rfl ?_
        refine X.iconst 32 i248_31 rfl rfl (by decide) ?_
        refine X.retz i248_32 rfl t248 (by omega) ?_
        exact hQ 0 m501 (by first | trivial | omega) (Eq.trans (zb_eq hFv503) (Eq.trans (if_pos h504) (Eq.trans (if_neg h506c) (Eq.trans (if_neg h509c) rfl)))) (hJ502.up (by omega)) 
      · have h509c : a1 ≤ 364 := by omega
        clear h509 hz508
        refine X.iconst 14 i204_13 rfl rfl (by decide) ?_
        refine X.goto 18 i204_14 rfl rfl ?_
        refine X.cut [] i204_18 rfl ?_
        refine X.retz i204_18 rfl t204 (by omega) ?_
        show X (EE s) d 248 16 [(0, zr 4 44), (1, zi a1), (2, zi a2)] [zi 1] m501 _
        refine X.ifeq 31 19 i248_16 rfl rfl rfl (fun h511 => (by exfalso; omega)) (fun h511 => ?_)
        refine X.iload_n 20 i248_19 rfl rfl rfl ?_
        refine X.iconst 21 i248_20 rfl rfl (by decide) ?_
        refine X.icmpeq 33 24 i248_21 rfl rfl rfl (fun h512 => ?_) (fun h512 => ?_)
        · refine X.aload_n 34 i248_33 rfl rfl rfl ?_
          refine X.getF 37 i248_34 rfl rfl (by decide) rfl rfl ?_
          refine X.sipush 40 i248_37 rfl rfl (by decide) ?_
          refine X.iload_n 41 i248_40 rfl rfl rfl ?_
          refine X.iadd 42 i248_41 rfl rfl (by omega) ?_
          refine X.lald 43 i248_42 rfl rfl (by decide) rfl (by omega) ?_
          have h513 := r45_423 hJ502 4 (i := (423 + a1)) (by omega)
          refine X.ldc2 46 i248_43 rfl rfl (by decide) ?_
          refine X.lcmp 47 i248_46 rfl rfl (fun z514 hz514 => ?_)
          have hK519 : ∀ (v : Int) , (0 ≤ v ∧ v ≤ 1) → (if (m501 4 45 (423 + a1)) = (-1) then
              (0)
              else
              (1)) = v → X (EE s) d 248 55 [(0, zr 4 44), (1, zi a1), (2, zi a2)] [zi v] m501 Q := by
            intro v516 hv516 hT520
            refine X.istore_n 56 [(0, zr 4 44), (1, zi a1), (2, zi a2), (3, zi v516)] i248_55 rfl rfl rfl ?_
            refine X.iload_n 57 i248_56 rfl rfl rfl ?_
            refine X.iconst 58 i248_57 rfl rfl (by decide) ?_
            refine X.icmpne 68 61 i248_58 rfl rfl rfl (fun h521 => (by exfalso; omega)) (fun h521 => ?_)
            refine X.iload_n 62 i248_61 rfl rfl rfl ?_
            refine X.ifne 83 65 i248_62 rfl rfl rfl (fun h522 => ?_) (fun h522 => ?_)
            · refine X.cut [(0, zr 4 44), (1, zi a1), (2, zi a2)] i248_83 rfl ?_
              refine X.aload_n 84 i248_83 rfl rfl rfl ?_
              refine X.getF 87 i248_84 rfl rfl (by decide) rfl rfl ?_
              refine X.sipush 90 i248_87 rfl rfl (by decide) ?_
              refine X.iload_n 91 i248_90 rfl rfl rfl ?_
              refine X.iadd 92 i248_91 rfl rfl (by omega) ?_
              refine X.iload_n 93 i248_92 rfl rfl rfl ?_
              refine X.i2l 94 i248_93 rfl rfl ?_
              refine X.last' 95 i248_94 rfl rfl (by decide) rfl (by omega) (fun hrm523 m523 hm523 => ?_)
              have hJ524 := w45_423 hJ502 hm523 (by omega) (by omega) hf1 hg4
              refine X.iconst 96 i248_95 rfl rfl (by decide) ?_
              refine X.retz i248_96 rfl t248 (by omega) ?_
              exact hQ 1 m523 (by first | trivial | omega) (Eq.trans (zb_eq hFv503) (Eq.trans (if_pos h504) (Eq.trans (if_neg h506c) (Eq.trans (if_pos h509c) (Eq.trans (if_pos h512) (Eq.trans (zn_eq hT520.symm) (Eq.trans (if_neg h522) (Eq.trans (zs_eq hm523) rfl)))))))) (hJ524.up (by omega)) 
            · refine X.goto 81 i248_65 rfl rfl ?_
              refine X.cut [] i248_81 rfl ?_
              refine X.iconst 82 i248_81 rfl rfl (by decide) ?_
              refine X.retz i248_82 rfl t248 (by omega) ?_
              exact hQ 0 m501 (by first | trivial | omega) (Eq.trans (zb_eq hFv503) (Eq.trans (if_pos h504) (Eq.trans (if_neg h506c) (Eq.trans (if_pos h509c) (Eq.trans (if_pos h512) (Eq.trans (zn_eq hT520.symm) (Eq.trans (if_pos h522) rfl))))))) (hJ502.up (by omega)) 
          refine X.ifeq 54 50 i248_47 rfl rfl rfl (fun h515 => ?_) (fun h515 => ?_)
          · have h515c : (m501 4 45 (423 + a1)) = (-1) := by omega
            clear h515 hz514
            refine X.iconst 55 i248_54 rfl rfl (by decide) ?_
            exact hK519 0 (by first | trivial | omega) (Eq.trans (if_pos h515c) rfl)
          · have h515c : ¬ (m501 4 45 (423 + a1)) = (-1) := by omega
            clear h515 hz514
            refine X.iconst 51 i248_50 rfl rfl (by decide) ?_
            refine X.goto 55 i248_51 rfl rfl ?_
            exact hK519 1 (by first | trivial | omega) (Eq.trans (if_neg h515c) rfl)
        · refine X.iload_n 25 i248_24 rfl rfl rfl ?_
          refine X.calls 28 [zi a2] [] [(0, zi a2)] i248_25 (by decide) rfl rfl (by omega) rfl rfl t241 (Nat.le_of_ble_eq_true rfl) (Nat.le_of_ble_eq_true rfl) rfl ?_
          refine X.iload_n 1 i241_0 rfl rfl rfl ?_
          refine X.i2l 2 i241_1 rfl rfl ?_
          refine X.lconst (y := 0) 3 i241_2 rfl rfl rfl ?_
          refine X.ldc2 6 i241_3 rfl rfl (by decide) ?_
          refine X.calls 9 [zl a2, zl 0, zl 7] [] [(0, zl a2), (2, zl 0), (4, zl 7)] i241_6 (by decide) rfl rfl (by omega) rfl rfl t204 (Nat.le_of_ble_eq_true rfl) (Nat.le_of_ble_eq_true rfl) rfl ?_
          refine X.lload_n 1 i204_0 rfl rfl rfl ?_
          refine X.lload_n 2 i204_1 rfl rfl rfl ?_
          refine X.lcmp 3 i204_2 rfl rfl (fun z525 hz525 => ?_)
          refine X.iflt 17 6 i204_3 rfl rfl rfl (fun h526 => ?_) (fun h526 => ?_)
          · have h526c : a2 < 0 := by omega
            clear h526 hz525
            refine X.cut [] i204_17 rfl ?_
            refine X.iconst 18 i204_17 rfl rfl (by decide) ?_
            refine X.retz i204_18 rfl t204 (by omega) ?_
            show X (EE s) (d - 1) 241 9 [(0, zi a2)] [zi 0] m501 _
            refine X.retz i241_9 rfl t241 (by omega) ?_
            show X (EE s) d 248 28 [(0, zr 4 44), (1, zi a1), (2, zi a2)] [zi 0] m501 _
            refine X.ifne 33 31 i248_28 rfl rfl rfl (fun h527 => (by exfalso; omega)) (fun h527 => ?_)
            refine X.cut [] i248_31 rfl ?_
            refine X.iconst 32 i248_31 rfl rfl (by decide) ?_
            refine X.retz i248_32 rfl t248 (by omega) ?_
            exact hQ 0 m501 (by first | trivial | omega) (Eq.trans (zb_eq hFv503) (Eq.trans (if_pos h504) (Eq.trans (if_neg h506c) (Eq.trans (if_pos h509c) (Eq.trans (if_neg h512) (Eq.trans (if_pos h526c) rfl)))))) (hJ502.up (by omega)) 
          · have h526c : ¬ a2 < 0 := by omega
            clear h526 hz525
            refine X.lload_n 7 i204_6 rfl rfl rfl ?_
            refine X.lload 9 i204_7 rfl rfl rfl ?_
            refine X.lcmp 10 i204_9 rfl rfl (fun z528 hz528 => ?_)
            refine X.ifgt 17 13 i204_10 rfl rfl rfl (fun h529 => ?_) (fun h529 => ?_)
            · have h529c : ¬ a2 ≤ 7 := by omega
              clear h529 hz528
              refine X.cut [] i204_17 rfl ?_
              refine X.iconst 18 i204_17 rfl rfl (by decide) ?_
              refine X.retz i204_18 rfl t204 (by omega) ?_
              show X (EE s) (d - 1) 241 9 [(0, zi a2)] [zi 0] m501 _
              refine X.retz i241_9 rfl t241 (by omega) ?_
              show X (EE s) d 248 28 [(0, zr 4 44), (1, zi a1), (2, zi a2)] [zi 0] m501 _
              refine X.ifne 33 31 i248_28 rfl rfl rfl (fun h530 => (by exfalso; omega)) (fun h530 => ?_)
              refine X.cut [] i248_31 rfl ?_
              refine X.iconst 32 i248_31 rfl rfl (by decide) ?_
              refine X.retz i248_32 rfl t248 (by omega) ?_
              exact hQ 0 m501 (by first | trivial | omega) (Eq.trans (zb_eq hFv503) (Eq.trans (if_pos h504) (Eq.trans (if_neg h506c) (Eq.trans (if_pos h509c) (Eq.trans (if_neg h512) (Eq.trans (if_neg h526c) (Eq.trans (if_neg h529c) rfl))))))) (hJ502.up (by omega)) 
            · have h529c : a2 ≤ 7 := by omega
              clear h529 hz528
              refine X.iconst 14 i204_13 rfl rfl (by decide) ?_
              refine X.goto 18 i204_14 rfl rfl ?_
              refine X.cut [] i204_18 rfl ?_
              refine X.retz i204_18 rfl t204 (by omega) ?_
              show X (EE s) (d - 1) 241 9 [(0, zi a2)] [zi 1] m501 _
              refine X.retz i241_9 rfl t241 (by omega) ?_
              show X (EE s) d 248 28 [(0, zr 4 44), (1, zi a1), (2, zi a2)] [zi 1] m501 _
              refine X.ifne 33 31 i248_28 rfl rfl rfl (fun h531 => ?_) (fun h531 => (by exfalso; omega))
              refine X.aload_n 34 i248_33 rfl rfl rfl ?_
              refine X.getF 37 i248_34 rfl rfl (by decide) rfl rfl ?_
              refine X.sipush 40 i248_37 rfl rfl (by decide) ?_
              refine X.iload_n 41 i248_40 rfl rfl rfl ?_
              refine X.iadd 42 i248_41 rfl rfl (by omega) ?_
              refine X.lald 43 i248_42 rfl rfl (by decide) rfl (by omega) ?_
              have h532 := r45_423 hJ502 4 (i := (423 + a1)) (by omega)
              refine X.ldc2 46 i248_43 rfl rfl (by decide) ?_
              refine X.lcmp 47 i248_46 rfl rfl (fun z533 hz533 => ?_)
              have hK538 : ∀ (v : Int) , (0 ≤ v ∧ v ≤ 1) → (if (m501 4 45 (423 + a1)) = (-1) then
                  (0)
                  else
                  (1)) = v → X (EE s) d 248 55 [(0, zr 4 44), (1, zi a1), (2, zi a2)] [zi v] m501 Q := by
                intro v535 hv535 hT539
                refine X.istore_n 56 [(0, zr 4 44), (1, zi a1), (2, zi a2), (3, zi v535)] i248_55 rfl rfl rfl ?_
                refine X.iload_n 57 i248_56 rfl rfl rfl ?_
                refine X.iconst 58 i248_57 rfl rfl (by decide) ?_
                refine X.icmpne 68 61 i248_58 rfl rfl rfl (fun h540 => ?_) (fun h540 => (by exfalso; omega))
                refine X.iload_n 69 i248_68 rfl rfl rfl ?_
                refine X.ifne 83 72 i248_69 rfl rfl rfl (fun h541 => ?_) (fun h541 => ?_)
                · refine X.cut [(0, zr 4 44), (1, zi a1), (2, zi a2)] i248_83 rfl ?_
                  refine X.aload_n 84 i248_83 rfl rfl rfl ?_
                  refine X.getF 87 i248_84 rfl rfl (by decide) rfl rfl ?_
                  refine X.sipush 90 i248_87 rfl rfl (by decide) ?_
                  refine X.iload_n 91 i248_90 rfl rfl rfl ?_
                  refine X.iadd 92 i248_91 rfl rfl (by omega) ?_
                  refine X.iload_n 93 i248_92 rfl rfl rfl ?_
                  refine X.i2l 94 i248_93 rfl rfl ?_
                  refine X.last' 95 i248_94 rfl rfl (by decide) rfl (by omega) (fun hrm542 m542 hm542 => ?_)
                  have hJ543 := w45_423 hJ502 hm542 (by omega) (by omega) hf1 hg4
                  refine X.iconst 96 i248_95 rfl rfl (by decide) ?_
                  refine X.retz i248_96 rfl t248 (by omega) ?_
                  exact hQ 1 m542 (by first | trivial | omega) (Eq.trans (zb_eq hFv503) (Eq.trans (if_pos h504) (Eq.trans (if_neg h506c) (Eq.trans (if_pos h509c) (Eq.trans (if_neg h512) (Eq.trans (if_neg h526c) (Eq.trans (if_pos h529c) (Eq.trans (zn_eq hT539.symm) (Eq.trans (if_neg h541) (Eq.trans (zs_eq hm542) rfl)))))))))) (hJ543.up (by omega)) 
                · refine X.aload_n 73 i248_72 rfl rfl rfl ?_
                  refine X.callv 76 [] [] [(0, zr 4 44)] i248_73 rfl (by decide) rfl rfl (by omega) rfl rfl (by decide) rfl t249 (Nat.le_of_ble_eq_true rfl) (Nat.le_of_ble_eq_true rfl) rfl ?_
                  refine c249_1 (B := B)   (by omega) (hJ502.up (by omega)) (by omega)  (fun v546 hv546 hFv546 => ?_)
                  show X (EE s) d 248 76 [(0, zr 4 44), (1, zi a1), (2, zi a2), (3, zi v535)] [zi v546] m501 _
                  refine X.bipush 78 i248_76 rfl rfl (by decide) ?_
                  refine X.icmpne 83 81 i248_78 rfl rfl rfl (fun h547 => ?_) (fun h547 => ?_)
                  · refine X.cut [(0, zr 4 44), (1, zi a1), (2, zi a2)] i248_83 rfl ?_
                    refine X.aload_n 84 i248_83 rfl rfl rfl ?_
                    refine X.getF 87 i248_84 rfl rfl (by decide) rfl rfl ?_
                    refine X.sipush 90 i248_87 rfl rfl (by decide) ?_
                    refine X.iload_n 91 i248_90 rfl rfl rfl ?_
                    refine X.iadd 92 i248_91 rfl rfl (by omega) ?_
                    refine X.iload_n 93 i248_92 rfl rfl rfl ?_
                    refine X.i2l 94 i248_93 rfl rfl ?_
                    refine X.last' 95 i248_94 rfl rfl (by decide) rfl (by omega) (fun hrm548 m548 hm548 => ?_)
                    have hJ549 := w45_423 hJ502 hm548 (by omega) (by omega) hf1 hg4
                    refine X.iconst 96 i248_95 rfl rfl (by decide) ?_
                    refine X.retz i248_96 rfl t248 (by omega) ?_
                    exact hQ 1 m548 (by first | trivial | omega) (Eq.trans (zb_eq hFv503) (Eq.trans (if_pos h504) (Eq.trans (if_neg h506c) (Eq.trans (if_pos h509c) (Eq.trans (if_neg h512) (Eq.trans (if_neg h526c) (Eq.trans (if_pos h529c) (Eq.trans (zn_eq hT539.symm) (Eq.trans (if_pos h541) (Eq.trans (zn_eq hFv546.symm) (Eq.trans (if_neg h547) (Eq.trans (zs_eq hm548) rfl)))))))))))) (hJ549.up (by omega)) 
                  · refine X.cut [] i248_81 rfl ?_
                    refine X.iconst 82 i248_81 rfl rfl (by decide) ?_
                    refine X.retz i248_82 rfl t248 (by omega) ?_
                    exact hQ 0 m501 (by first | trivial | omega) (Eq.trans (zb_eq hFv503) (Eq.trans (if_pos h504) (Eq.trans (if_neg h506c) (Eq.trans (if_pos h509c) (Eq.trans (if_neg h512) (Eq.trans (if_neg h526c) (Eq.trans (if_pos h529c) (Eq.trans (zn_eq hT539.symm) (Eq.trans (if_pos h541) (Eq.trans (zn_eq hFv546.symm) (Eq.trans (if_pos h547) rfl))))))))))) (hJ502.up (by omega)) 
              refine X.ifeq 54 50 i248_47 rfl rfl rfl (fun h534 => ?_) (fun h534 => ?_)
              · have h534c : (m501 4 45 (423 + a1)) = (-1) := by omega
                clear h534 hz533
                refine X.iconst 55 i248_54 rfl rfl (by decide) ?_
                exact hK538 0 (by first | trivial | omega) (Eq.trans (if_pos h534c) rfl)
              · have h534c : ¬ (m501 4 45 (423 + a1)) = (-1) := by omega
                clear h534 hz533
                refine X.iconst 51 i248_50 rfl rfl (by decide) ?_
                refine X.goto 55 i248_51 rfl rfl ?_
                exact hK538 1 (by first | trivial | omega) (Eq.trans (if_neg h534c) rfl)
-- WorkMeter$Meter.note
theorem c54_6 {s : Nat × (Nat → Int32)} {S : zS} {m0 m : zM} {B : Int} {d : Nat} {Q : Option zV → zM → Prop} (g0 : Nat) (a1 a2 : Int) (hd : 14 ≤ d) (hJ : J S m0 B m) (hB : B + 1 ≤ 1000000000) (ha1 : 20 ≤ a1 ∧ a1 ≤ 20) (ha2 : 0 ≤ a2 ∧ a2 ≤ 2000000000) (hf6 : ¬ S.1 6) (hgg0 : ¬ S.2.1 g0) (hQ : ∀ m', f54_1 g0 a1 a2 m = m' → J S m0 (B + 1) m' → Q none m') : X (EE s) d 54 0 [(0, zr g0 8), (1, zi a1), (2, zi a2)] [] m Q := by
  refine X.aload_n 1 i54_0 rfl rfl rfl ?_
  refine X.getR 4 i54_1 rfl rfl (by decide) rfl rfl ?_
  refine X.aload_n 5 i54_4 rfl rfl rfl ?_
  refine X.getI 8 9 i54_5 rfl rfl (by decide) rfl rfl rfl ?_
  have h501 := r8_9 hJ g0
  refine X.iload_n 9 i54_8 rfl rfl rfl ?_
  refine X.iload_n 10 i54_9 rfl rfl rfl ?_
  refine X.callv 13 [zi (m g0 8 9), zi a1, zi a2] [] [(0, zr g0 37), (1, zi (m g0 8 9)), (2, zi a1), (3, zi a2)] i54_10 rfl (by decide) rfl rfl (by omega) rfl rfl (by decide) rfl t55 (Nat.le_of_ble_eq_true rfl) (Nat.le_of_ble_eq_true rfl) rfl ?_
  refine c55_1 (B := B) g0 (m g0 8 9) a1 a2 (by omega) (hJ.up (by omega)) (by omega) (by omega) (by omega) (by omega) hf6 hgg0 (fun m502 hFv504 hJ503 => ?_)
  show X (EE s) d 54 13 [(0, zr g0 8), (1, zi a1), (2, zi a2)] [] m502 _
  refine X.retv i54_13 rfl t54 ?_
  exact hQ  m502  (Eq.trans (zs_eq hFv504.symm) rfl) (hJ503.up (by omega)) 
-- WorkMeter$Meter.moveClock
noncomputable def f129_1 (g0 : Nat) (a1 : Int) (m : zM) : Int × zM :=
  zs (f60_1 g0 (m g0 8 9) (max 1 (m g0 10 4)) 64 m) fun m503 =>
  zs (z_upd m503 g0 8 9 a1) fun m506 =>
  zs (z_upd m506 g0 27 9 a1) fun m508 =>
  zs (f54_1 g0 20 (m g0 8 9) m508) fun m510 =>
  ((m g0 8 9), m510)
-- WorkMeter$Meter.moveClock
theorem c129_1 {s : Nat × (Nat → Int32)} {S : zS} {m0 m : zM} {B : Int} {d : Nat} {Q : Option zV → zM → Prop} (g0 : Nat) (a1 : Int) (hd : 15 ≤ d) (hJ : J S m0 B m) (hB : B + 2 ≤ 1000000000) (ha1 : 0 ≤ a1 ∧ a1 ≤ 2000000000) (hf6 : ¬ S.1 6) (hf7 : ¬ S.1 7) (hf11 : ¬ S.1 11) (hgg0 : ¬ S.2.1 g0) (hQ : ∀ (v : Int) m', (0 ≤ v ∧ v ≤ 2000000000) → f129_1 g0 a1 m = (v, m') → J S m0 (B + 2) m' → Q (some (zi v)) m') : X (EE s) d 129 0 [(0, zr g0 8), (1, zi a1)] [] m Q := by
  refine X.aload_n 1 i129_0 rfl rfl rfl ?_
  refine X.getI 4 9 i129_1 rfl rfl (by decide) rfl rfl rfl ?_
  have h501 := r8_9 hJ g0
  refine X.istore_n 5 [(0, zr g0 8), (1, zi a1), (2, zi (m g0 8 9))] i129_4 rfl rfl rfl ?_
  refine X.aload_n 6 i129_5 rfl rfl rfl ?_
  refine X.getR 9 i129_6 rfl rfl (by decide) rfl rfl ?_
  refine X.aload_n 10 i129_9 rfl rfl rfl ?_
  refine X.getI 13 9 i129_10 rfl rfl (by decide) rfl rfl rfl ?_
  refine X.aload_n 14 i129_13 rfl rfl rfl ?_
  refine X.getR 17 i129_14 rfl rfl (by decide) rfl rfl ?_
  refine X.callv 20 [] [zi (m g0 8 9), zr g0 27] [(0, zr g0 9)] i129_17 rfl (by decide) rfl rfl (by omega) rfl rfl (by decide) rfl t36 (Nat.le_of_ble_eq_true rfl) (Nat.le_of_ble_eq_true rfl) rfl ?_
  refine X.iconst 1 i36_0 rfl rfl (by decide) ?_
  refine X.aload_n 2 i36_1 rfl rfl rfl ?_
  refine X.getR 5 i36_2 rfl rfl (by decide) rfl rfl ?_
  refine X.iconst 6 i36_5 rfl rfl (by decide) ?_
  refine X.iald 7 i36_6 rfl rfl (by decide) rfl (by omega) ?_
  have h502 := r10_0 hJ g0 (i := 4) (by omega)
  refine X.maxI 10 i36_7 rfl rfl (by omega) (Nat.le_of_ble_eq_true rfl) ?_
  refine X.reti i36_10 rfl t36 ?_
  show X (EE s) d 129 20 [(0, zr g0 8), (1, zi a1), (2, zi (m g0 8 9))] [zi (max 1 (m g0 10 4)), zi (m g0 8 9), zr g0 27] m _
  refine X.bipush 22 i129_20 rfl rfl (by decide) ?_
  refine X.callv 25 [zi (m g0 8 9), zi (max 1 (m g0 10 4)), zi 64] [] [(0, zr g0 27), (1, zi (m g0 8 9)), (2, zi (max 1 (m g0 10 4))), (3, zi 64)] i129_22 rfl (by decide) rfl rfl (by omega) rfl rfl (by decide) rfl t60 (Nat.le_of_ble_eq_true rfl) (Nat.le_of_ble_eq_true rfl) rfl ?_
  refine c60_1 (B := B) g0 (m g0 8 9) (max 1 (m g0 10 4)) 64 (by omega) (hJ.up (by omega)) (by omega) (by omega) (by omega) (by omega) hf7 hgg0 (fun m503 hFv505 hJ504 => ?_)
  show X (EE s) d 129 25 [(0, zr g0 8), (1, zi a1), (2, zi (m g0 8 9))] [] m503 _
  refine X.aload_n 26 i129_25 rfl rfl rfl ?_
  refine X.iload_n 27 i129_26 rfl rfl rfl ?_
  refine X.putI' 30 9 i129_27 rfl rfl (by decide) rfl rfl rfl (fun hrm506 m506 hm506 => ?_)
  have hJ507 := w8_9 hJ504 hm506 (by omega) hf11 hgg0
  have em506 : m506 g0 8 9 = a1 := by rw [hm506]; exact z_upd_same _ _ _ _ _
  refine X.aload_n 31 i129_30 rfl rfl rfl ?_
  refine X.getR 34 i129_31 rfl rfl (by decide) rfl rfl ?_
  refine X.iload_n 35 i129_34 rfl rfl rfl ?_
  refine X.putI' 38 9 i129_35 rfl rfl (by decide) rfl rfl rfl (fun hrm508 m508 hm508 => ?_)
  have hJ509 := w27_9 hJ507 hm508 (by omega) hf7 hgg0
  refine X.aload_n 39 i129_38 rfl rfl rfl ?_
  refine X.bipush 41 i129_39 rfl rfl (by decide) ?_
  refine X.iload_n 42 i129_41 rfl rfl rfl ?_
  refine X.callv 45 [zi 20, zi (m g0 8 9)] [] [(0, zr g0 8), (1, zi 20), (2, zi (m g0 8 9))] i129_42 rfl (by decide) rfl rfl (by omega) rfl rfl (by decide) rfl t54 (Nat.le_of_ble_eq_true rfl) (Nat.le_of_ble_eq_true rfl) rfl ?_
  refine c54_6 (B := B + 1) g0 20 (m g0 8 9) (by omega) (hJ509.up (by omega)) (by omega) (by omega) (by omega) hf6 hgg0 (fun m510 hFv512 hJ511 => ?_)
  show X (EE s) d 129 45 [(0, zr g0 8), (1, zi a1), (2, zi (m g0 8 9))] [] m510 _
  refine X.iload_n 46 i129_45 rfl rfl rfl ?_
  refine X.reti i129_46 rfl t129 ?_
  exact hQ (m g0 8 9) m510 (by first | trivial | omega) (Eq.trans (zs_eq hFv505.symm) (Eq.trans (zs_eq hm506) (Eq.trans (zs_eq hm508) (Eq.trans (zs_eq hFv512.symm) rfl)))) (hJ511.up (by omega)) 
-- WorkMeter.move
noncomputable def f127_1 (a1 : Int) (m : zM) : Int × zM :=
  zb (f17_1 0 m) fun v503 m501 =>
  if v503 = 0 then
  (if a1 < 0 then
  (((-1), m501))
  else
  (if 2000000000 < a1 then
  (((-1), m501))
  else
  (zb (f129_1 0 a1 m501) fun v512 m510 =>
  (v512, m510))))
  else
  (((-1), m501))
-- WorkMeter.move
theorem c127_1 {s : Nat × (Nat → Int32)} {S : zS} {m0 m : zM} {B : Int} {d : Nat} {Q : Option zV → zM → Prop} (a1 : Int) (hd : 16 ≤ d) (hJ : J S m0 B m) (hB : B + 2 ≤ 1000000000) (ha1 : (-2147483648) ≤ a1 ∧ a1 ≤ 2147483647) (hf4 : ¬ S.1 4) (hf6 : ¬ S.1 6) (hf7 : ¬ S.1 7) (hf11 : ¬ S.1 11) (hg0 : ¬ S.2.1 0) (hQ : ∀ (v : Int) m', ((-1) ≤ v ∧ v ≤ 2000000000) → f127_1 a1 m = (v, m') → J S m0 (B + 2) m' → Q (some (zi v)) m') : X (EE s) d 127 0 [(0, zr 4 40), (1, zi a1)] [] m Q := by
  refine X.aload_n 1 i127_0 rfl rfl rfl ?_
  refine X.getF 4 i127_1 rfl rfl (by decide) rfl rfl ?_
  refine X.getR 7 i127_4 rfl rfl (by decide) rfl rfl ?_
  refine X.callv 10 [] [] [(0, zr 0 39)] i127_7 rfl (by decide) rfl rfl (by omega) rfl rfl (by decide) rfl t17 (Nat.le_of_ble_eq_true rfl) (Nat.le_of_ble_eq_true rfl) rfl ?_
  refine c17_1 (B := B) 0  (by omega) (hJ.up (by omega)) (by omega)  hf4 hg0 (fun v503 m501 hv503 hFv503 hJ502 => ?_)
  show X (EE s) d 127 10 [(0, zr 4 40), (1, zi a1)] [zi v503] m501 _
  refine X.ifne 20 13 i127_10 rfl rfl rfl (fun h504 => ?_) (fun h504 => ?_)
  · refine X.cut [] i127_20 rfl ?_
    refine X.iconst 21 i127_20 rfl rfl (by decide) ?_
    refine X.reti i127_21 rfl t127 ?_
    exact hQ (-1) m501 (by first | trivial | omega) (Eq.trans (zb_eq hFv503) (Eq.trans (if_neg h504) rfl)) (hJ502.up (by omega)) 
  · refine X.iload_n 14 i127_13 rfl rfl rfl ?_
    refine X.calls 17 [zi a1] [] [(0, zi a1)] i127_14 (by decide) rfl rfl (by omega) rfl rfl t128 (Nat.le_of_ble_eq_true rfl) (Nat.le_of_ble_eq_true rfl) rfl ?_
    refine X.iload_n 1 i128_0 rfl rfl rfl ?_
    refine X.iflt 14 4 i128_1 rfl rfl rfl (fun h505 => ?_) (fun h505 => ?_)
    · refine X.cut [] i128_14 rfl ?_
      refine X.iconst 15 i128_14 rfl rfl (by decide) ?_
      refine X.retz i128_15 rfl t128 (by omega) ?_
      show X (EE s) d 127 17 [(0, zr 4 40), (1, zi a1)] [zi 0] m501 _
      refine X.ifne 22 20 i127_17 rfl rfl rfl (fun h506 => (by exfalso; omega)) (fun h506 => ?_)
      refine X.cut [] i127_20 rfl ?_
      refine X.iconst 21 i127_20 rfl rfl (by decide) ?_
      refine X.reti i127_21 rfl t127 ?_
      exact hQ (-1) m501 (by first | trivial | omega) (Eq.trans (zb_eq hFv503) (Eq.trans (if_pos h504) (Eq.trans (if_pos h505) rfl))) (hJ502.up (by omega)) 
    · refine X.iload_n 5 i128_4 rfl rfl rfl ?_
      refine X.ldc 7 i128_5 rfl rfl (by decide) ?_
      refine X.icmpgt 14 10 i128_7 rfl rfl rfl (fun h507 => ?_) (fun h507 => ?_)
      · refine X.cut [] i128_14 rfl ?_
        refine X.iconst 15 i128_14 rfl rfl (by decide) ?_
        refine X.retz i128_15 rfl t128 (by omega) ?_
        show X (EE s) d 127 17 [(0, zr 4 40), (1, zi a1)] [zi 0] m501 _
        refine X.ifne 22 20 i127_17 rfl rfl rfl (fun h508 => (by exfalso; omega)) (fun h508 => ?_)
        refine X.cut [] i127_20 rfl ?_
        refine X.iconst 21 i127_20 rfl rfl (by decide) ?_
        refine X.reti i127_21 rfl t127 ?_
        exact hQ (-1) m501 (by first | trivial | omega) (Eq.trans (zb_eq hFv503) (Eq.trans (if_pos h504) (Eq.trans (if_neg h505) (Eq.trans (if_pos h507) rfl)))) (hJ502.up (by omega)) 
      · refine X.iconst 11 i128_10 rfl rfl (by decide) ?_
        refine X.goto 15 i128_11 rfl rfl ?_
        refine X.cut [] i128_15 rfl ?_
        refine X.retz i128_15 rfl t128 (by omega) ?_
        show X (EE s) d 127 17 [(0, zr 4 40), (1, zi a1)] [zi 1] m501 _
        refine X.ifne 22 20 i127_17 rfl rfl rfl (fun h509 => ?_) (fun h509 => (by exfalso; omega))
        refine X.aload_n 23 i127_22 rfl rfl rfl ?_
        refine X.getF 26 i127_23 rfl rfl (by decide) rfl rfl ?_
        refine X.iload_n 27 i127_26 rfl rfl rfl ?_
        refine X.callv 30 [zi a1] [] [(0, zr 0 8), (1, zi a1)] i127_27 rfl (by decide) rfl rfl (by omega) rfl rfl (by decide) rfl t129 (Nat.le_of_ble_eq_true rfl) (Nat.le_of_ble_eq_true rfl) rfl ?_
        refine c129_1 (B := B) 0 a1 (by omega) (hJ502.up (by omega)) (by omega) (by omega) hf6 hf7 hf11 hg0 (fun v512 m510 hv512 hFv512 hJ511 => ?_)
        show X (EE s) d 127 30 [(0, zr 4 40), (1, zi a1)] [zi v512] m510 _
        refine X.reti i127_30 rfl t127 ?_
        exact hQ v512 m510 (by first | trivial | omega) (Eq.trans (zb_eq hFv503) (Eq.trans (if_pos h504) (Eq.trans (if_neg h505) (Eq.trans (if_neg h507) (Eq.trans (zb_eq hFv512) rfl))))) (hJ511.up (by omega)) 
-- WorkMeterModel.move
noncomputable def f281_1 (a1 : Int) (m : zM) : Int × zM :=
  zb (f203_1 m) fun v503 m501 =>
  if v503 = 0 then
  (if a1 < 0 then
  (((-1), m501))
  else
  (if a1 ≤ 2000000000 then
  (zs (f232_1 64 m501) fun m513 =>
  zs (z_upd m513 4 45 0 a1) fun m516 =>
  zs (f233_1 m516) fun m518 =>
  zs (f223_1 20 (m501 4 45 0) m518) fun m521 =>
  ((m501 4 45 0), m521))
  else
  (((-1), m501))))
  else
  (((-1), m501))
