section
-- WorkMeter$Calendar.putSwitch
theorem c81_1 {s : Nat × (Nat → Int32)} {S : zS} {m0 m : zM} {B : Int} {d : Nat} {Q : Option zV → zM → Prop} (g0 : Nat) (a1 a2 a3 : Int) (hd : 15 ≤ d) (hJ : J S m0 B m) (hB : B + 0 ≤ 1000000000) (ha1 : 0 ≤ a1 ∧ a1 ≤ 7) (ha2 : 0 ≤ a2 ∧ a2 ≤ 86399) (ha3 : 0 ≤ a3 ∧ a3 ≤ 3) (hf1 : ¬ S.1 1) (hgg0 : ¬ S.2.1 g0) (hQ : ∀ (v : Int) m', ((-1) ≤ v ∧ v ≤ 6) → f81_1 g0 a1 a2 a3 m = (v, m') → J S m0 (B) m' → Q (some (zi v)) m') : X (EE s) d 81 0 [(0, zr g0 11), (1, zi a1), (2, zi a2), (3, zi a3)] [] m Q := by
  have f0 := r12_0 hJ g0 (i := a1) (by omega)
  refine X.iload_n 1 i81_0 rfl rfl rfl ?_
  refine X.bipush 3 i81_1 rfl rfl (by decide) ?_
  refine X.imul 4 i81_3 rfl rfl (by omega) ?_
  refine X.istore 6 [(0, zr g0 11), (1, zi a1), (2, zi a2), (3, zi a3), (4, zi (a1 * 6))] i81_4 rfl rfl rfl ?_
  refine X.iload 8 i81_6 rfl rfl rfl ?_
  refine X.aload_n 9 i81_8 rfl rfl rfl ?_
  refine X.iload_n 10 i81_9 rfl rfl rfl ?_
  refine X.iload_n 11 i81_10 rfl rfl rfl ?_
  refine X.callv 14 [zi a1, zi a2] [zi (a1 * 6)] [(0, zr g0 11), (1, zi a1), (2, zi a2)] i81_11 rfl (by decide) rfl rfl (by omega) rfl rfl (by decide) rfl t32 (Nat.le_of_ble_eq_true rfl) (Nat.le_of_ble_eq_true rfl) rfl ?_
  refine c32_1 (B := B) g0 a1 a2 (by omega) (hJ.up (by omega)) (by omega) (by omega) (by omega) (fun v503 hv503 hFv503 hqv503_0 hqv503_1 => ?_)
  show X (EE s) d 81 14 [(0, zr g0 11), (1, zi a1), (2, zi a2), (3, zi a3), (4, zi (a1 * 6))] [zi v503, zi (a1 * 6)] m _
  refine X.iadd 15 i81_14 rfl rfl (by omega) ?_
  refine X.istore 17 [(0, zr g0 11), (1, zi a1), (2, zi a2), (3, zi a3), (4, zi (a1 * 6)), (5, zi ((a1 * 6) + v503))] i81_15 rfl rfl rfl ?_
  refine X.aload_n 18 i81_17 rfl rfl rfl ?_
  refine X.iload_n 19 i81_18 rfl rfl rfl ?_
  refine X.iload_n 20 i81_19 rfl rfl rfl ?_
  refine X.callv 23 [zi a1, zi a2] [] [(0, zr g0 11), (1, zi a1), (2, zi a2)] i81_20 rfl (by decide) rfl rfl (by omega) rfl rfl (by decide) rfl t82 (Nat.le_of_ble_eq_true rfl) (Nat.le_of_ble_eq_true rfl) rfl ?_
  refine c82_1 (B := B) g0 a1 a2 (by omega) (hJ.up (by omega)) (by omega) (by omega) (by omega) (fun v506 hv506 hFv506 hqv506_0 => ?_)
  show X (EE s) d 81 23 [(0, zr g0 11), (1, zi a1), (2, zi a2), (3, zi a3), (4, zi (a1 * 6)), (5, zi ((a1 * 6) + v503))] [zi v506] m _
  refine X.ifeq 41 26 i81_23 rfl rfl rfl (fun h507 => ?_) (fun h507 => ?_)
  · refine X.aload_n 42 i81_41 rfl rfl rfl ?_
    refine X.getR 45 i81_42 rfl rfl (by decide) rfl rfl ?_
    refine X.iload_n 46 i81_45 rfl rfl rfl ?_
    refine X.iald 47 i81_46 rfl rfl (by decide) rfl (by omega) ?_
    have h508 := r12_0 hJ g0 (i := a1) (by omega)
    refine X.bipush 49 i81_47 rfl rfl (by decide) ?_
    refine X.icmplt 54 52 i81_49 rfl rfl rfl (fun h509 => ?_) (fun h509 => ?_)
    · refine X.iload 56 i81_54 rfl rfl rfl ?_
      refine X.aload_n 57 i81_56 rfl rfl rfl ?_
      refine X.getR 60 i81_57 rfl rfl (by decide) rfl rfl ?_
      refine X.iload_n 61 i81_60 rfl rfl rfl ?_
      refine X.iald 62 i81_61 rfl rfl (by decide) rfl (by omega) ?_
      refine X.iadd 63 i81_62 rfl rfl (by omega) ?_
      refine X.istore 65 [(0, zr g0 11), (1, zi a1), (2, zi a2), (3, zi a3), (4, zi (a1 * 6)), (5, zi ((a1 * 6) + v503)), (6, zi ((a1 * 6) + (m g0 12 a1)))] i81_63 rfl rfl rfl ?_
      refine X.cut [(0, zr g0 11), (1, zi a1), (2, zi a2), (3, zi a3), (5, zi ((a1 * 6) + v503)), (6, zi ((a1 * 6) + (m g0 12 a1)))] i81_65 rfl ?_
      have hz48 := zfu_eq 48
      refine l81_65_1 (s := s) (d := d) (R0 := (f81_1 g0 a1 a2 a3 m)) g0 a1 a2 a3 ((a1 * 6) + v503)  (BE := B + 0) (by omega) (by omega) (by omega) (by omega) (by omega) (by omega) hf1 hgg0 (fun  m510 B511 hJ512 hBB511 hrlm510_0 hR513 => ?_) (zfu 48) ((a1 * 6) + (m g0 12 a1)) m (B) (hJ.up (by omega)) (by omega) (by omega) (by omega) (by omega) (Eq.trans (zn_eq hFv503.symm) (Eq.trans (zn_eq hFv506.symm) (Eq.trans (if_pos h507) (Eq.trans (if_pos h509) rfl))))
      refine X.aload_n 111 i81_110 rfl rfl rfl ?_
      refine X.getR 114 i81_111 rfl rfl (by decide) rfl rfl ?_
      refine X.iload 116 i81_114 rfl rfl rfl ?_
      refine X.iload_n 117 i81_116 rfl rfl rfl ?_
      refine X.iast' 118 i81_117 rfl rfl (by decide) rfl (by omega) (fun hrm514 m514 hm514 => ?_)
      have hJ515 := w13_0 hJ512 hm514 (by omega) (by omega) hf1 hgg0
      have wtm514_0 : m514 g0 12 a1 = m510 g0 12 a1 := by rw [hm514]; exact z_upd_o _ _ rfl
      refine X.aload_n 119 i81_118 rfl rfl rfl ?_
      refine X.getR 122 i81_119 rfl rfl (by decide) rfl rfl ?_
      refine X.iload 124 i81_122 rfl rfl rfl ?_
      refine X.iload_n 125 i81_124 rfl rfl rfl ?_
      refine X.iast' 126 i81_125 rfl rfl (by decide) rfl (by omega) (fun hrm516 m516 hm516 => ?_)
      have hJ517 := w14_0 hJ515 hm516 (by omega) (by omega) hf1 hgg0
      have wtm516_0 : m516 g0 12 a1 = m514 g0 12 a1 := by rw [hm516]; exact z_upd_o _ _ rfl
      refine X.aload_n 127 i81_126 rfl rfl rfl ?_
      refine X.getR 130 i81_127 rfl rfl (by decide) rfl rfl ?_
      refine X.iload_n 131 i81_130 rfl rfl rfl ?_
      refine X.dup2 132 i81_131 rfl rfl ?_
      refine X.iald 133 i81_132 rfl rfl (by decide) rfl (by omega) ?_
      have h518 := r12_0 hJ517 g0 (i := a1) (by omega)
      refine X.iconst 134 i81_133 rfl rfl (by decide) ?_
      refine X.iadd 135 i81_134 rfl rfl (by omega) ?_
      refine X.iast' 136 i81_135 rfl rfl (by decide) rfl (by omega) (fun hrm519 m519 hm519 => ?_)
      have hJ520 := w12_0 hJ517 hm519 (by omega) (by omega) hf1 hgg0
      refine X.aload_n 137 i81_136 rfl rfl rfl ?_
      refine X.getR 140 i81_137 rfl rfl (by decide) rfl rfl ?_
      refine X.iload_n 141 i81_140 rfl rfl rfl ?_
      refine X.iald 142 i81_141 rfl rfl (by decide) rfl (by omega) ?_
      have h521 := r12_0 hJ520 g0 (i := a1) (by omega)
      refine X.reti i81_142 rfl t81 ?_
      exact hQ (m519 g0 12 a1) m519 (by first | trivial | omega) (Eq.trans hR513 (Eq.trans (zs_eq hm514) (Eq.trans (zs_eq hm516) (Eq.trans (zs_eq hm519) rfl)))) (hJ520.up (by omega)) 
    · refine X.iconst 53 i81_52 rfl rfl (by decide) ?_
      refine X.reti i81_53 rfl t81 ?_
      exact hQ (-1) m (by first | trivial | omega) (Eq.trans (zn_eq hFv503.symm) (Eq.trans (zn_eq hFv506.symm) (Eq.trans (if_pos h507) (Eq.trans (if_neg h509) rfl)))) (hJ.up (by omega)) 
  · refine X.aload_n 27 i81_26 rfl rfl rfl ?_
    refine X.getR 30 i81_27 rfl rfl (by decide) rfl rfl ?_
    refine X.iload 32 i81_30 rfl rfl rfl ?_
    refine X.iload_n 33 i81_32 rfl rfl rfl ?_
    refine X.iast' 34 i81_33 rfl rfl (by decide) rfl (by omega) (fun hrm522 m522 hm522 => ?_)
    have hJ523 := w14_0 hJ hm522 (by omega) (by omega) hf1 hgg0
    have wtm522_0 : m522 g0 12 a1 = m g0 12 a1 := by rw [hm522]; exact z_upd_o _ _ rfl
    refine X.aload_n 35 i81_34 rfl rfl rfl ?_
    refine X.getR 38 i81_35 rfl rfl (by decide) rfl rfl ?_
    refine X.iload_n 39 i81_38 rfl rfl rfl ?_
    refine X.iald 40 i81_39 rfl rfl (by decide) rfl (by omega) ?_
    have h524 := r12_0 hJ523 g0 (i := a1) (by omega)
    refine X.reti i81_40 rfl t81 ?_
    exact hQ (m522 g0 12 a1) m522 (by first | trivial | omega) (Eq.trans (zn_eq hFv503.symm) (Eq.trans (zn_eq hFv506.symm) (Eq.trans (if_neg h507) (Eq.trans (zs_eq hm522) rfl)))) (hJ523.up (by omega)) 
-- WorkMeter.table
noncomputable def f78_1 (a1 a2 a3 : Int) (m : zM) : Int × zM :=
  zb (f17_1 0 m) fun v503 m501 =>
  if v503 = 0 then
  (if a1 < 0 then
  (((-1), m501))
  else
  (if 8 ≤ a1 then
  (((-1), m501))
  else
  (if a3 < 0 then
  (((-1), m501))
  else
  (if 4 ≤ a3 then
  (((-1), m501))
  else
  (if a2 < 0 then
  (((-1), m501))
  else
  (if a2 < 86400 then
  (zb (f81_1 0 a1 a2 a3 m501) fun v519 m517 =>
  (v519, m517))
  else
  (((-1), m501))))))))
  else
  (((-1), m501))
-- WorkMeter.table
theorem c78_1 {s : Nat × (Nat → Int32)} {S : zS} {m0 m : zM} {B : Int} {d : Nat} {Q : Option zV → zM → Prop} (a1 a2 a3 : Int) (hd : 16 ≤ d) (hJ : J S m0 B m) (hB : B + 0 ≤ 1000000000) (ha1 : (-2147483648) ≤ a1 ∧ a1 ≤ 2147483647) (ha2 : (-2147483648) ≤ a2 ∧ a2 ≤ 2147483647) (ha3 : (-2147483648) ≤ a3 ∧ a3 ≤ 2147483647) (hf1 : ¬ S.1 1) (hf4 : ¬ S.1 4) (hg0 : ¬ S.2.1 0) (hQ : ∀ (v : Int) m', ((-1) ≤ v ∧ v ≤ 6) → f78_1 a1 a2 a3 m = (v, m') → J S m0 (B) m' → Q (some (zi v)) m') : X (EE s) d 78 0 [(0, zr 4 40), (1, zi a1), (2, zi a2), (3, zi a3)] [] m Q := by
  refine X.aload_n 1 i78_0 rfl rfl rfl ?_
  refine X.getF 4 i78_1 rfl rfl (by decide) rfl rfl ?_
  refine X.getR 7 i78_4 rfl rfl (by decide) rfl rfl ?_
  refine X.callv 10 [] [] [(0, zr 0 39)] i78_7 rfl (by decide) rfl rfl (by omega) rfl rfl (by decide) rfl t17 (Nat.le_of_ble_eq_true rfl) (Nat.le_of_ble_eq_true rfl) rfl ?_
  refine c17_1 (B := B) 0  (by omega) (hJ.up (by omega)) (by omega)  hf4 hg0 (fun v503 m501 hv503 hFv503 hJ502 => ?_)
  show X (EE s) d 78 10 [(0, zr 4 40), (1, zi a1), (2, zi a2), (3, zi a3)] [zi v503] m501 _
  refine X.ifeq 15 13 i78_10 rfl rfl rfl (fun h504 => ?_) (fun h504 => ?_)
  · refine X.iload_n 16 i78_15 rfl rfl rfl ?_
    refine X.calls 19 [zi a1] [] [(0, zi a1)] i78_16 (by decide) rfl rfl (by omega) rfl rfl t79 (Nat.le_of_ble_eq_true rfl) (Nat.le_of_ble_eq_true rfl) rfl ?_
    refine X.iload_n 1 i79_0 rfl rfl rfl ?_
    refine X.iflt 14 4 i79_1 rfl rfl rfl (fun h505 => ?_) (fun h505 => ?_)
    · refine X.cut [] i79_14 rfl ?_
      refine X.iconst 15 i79_14 rfl rfl (by decide) ?_
      refine X.retz i79_15 rfl t79 (by omega) ?_
      show X (EE s) d 78 19 [(0, zr 4 40), (1, zi a1), (2, zi a2), (3, zi a3)] [zi 0] m501 _
      refine X.ifeq 39 22 i78_19 rfl rfl rfl (fun h506 => ?_) (fun h506 => (by exfalso; omega))
      refine X.cut [] i78_39 rfl ?_
      refine X.iconst 40 i78_39 rfl rfl (by decide) ?_
      refine X.reti i78_40 rfl t78 ?_
      exact hQ (-1) m501 (by first | trivial | omega) (Eq.trans (zb_eq hFv503) (Eq.trans (if_pos h504) (Eq.trans (if_pos h505) rfl))) (hJ502.up (by omega)) 
    · refine X.iload_n 5 i79_4 rfl rfl rfl ?_
      refine X.bipush 7 i79_5 rfl rfl (by decide) ?_
      refine X.icmpge 14 10 i79_7 rfl rfl rfl (fun h507 => ?_) (fun h507 => ?_)
      · refine X.cut [] i79_14 rfl ?_
        refine X.iconst 15 i79_14 rfl rfl (by decide) ?_
        refine X.retz i79_15 rfl t79 (by omega) ?_
        show X (EE s) d 78 19 [(0, zr 4 40), (1, zi a1), (2, zi a2), (3, zi a3)] [zi 0] m501 _
        refine X.ifeq 39 22 i78_19 rfl rfl rfl (fun h508 => ?_) (fun h508 => (by exfalso; omega))
        refine X.cut [] i78_39 rfl ?_
        refine X.iconst 40 i78_39 rfl rfl (by decide) ?_
        refine X.reti i78_40 rfl t78 ?_
        exact hQ (-1) m501 (by first | trivial | omega) (Eq.trans (zb_eq hFv503) (Eq.trans (if_pos h504) (Eq.trans (if_neg h505) (Eq.trans (if_pos h507) rfl)))) (hJ502.up (by omega)) 
      · refine X.iconst 11 i79_10 rfl rfl (by decide) ?_
        refine X.goto 15 i79_11 rfl rfl ?_
        refine X.cut [] i79_15 rfl ?_
        refine X.retz i79_15 rfl t79 (by omega) ?_
        show X (EE s) d 78 19 [(0, zr 4 40), (1, zi a1), (2, zi a2), (3, zi a3)] [zi 1] m501 _
        refine X.ifeq 39 22 i78_19 rfl rfl rfl (fun h509 => (by exfalso; omega)) (fun h509 => ?_)
        refine X.iload_n 23 i78_22 rfl rfl rfl ?_
        refine X.calls 26 [zi a3] [] [(0, zi a3)] i78_23 (by decide) rfl rfl (by omega) rfl rfl t80 (Nat.le_of_ble_eq_true rfl) (Nat.le_of_ble_eq_true rfl) rfl ?_
        refine X.iload_n 1 i80_0 rfl rfl rfl ?_
        refine X.iflt 13 4 i80_1 rfl rfl rfl (fun h510 => ?_) (fun h510 => ?_)
        · refine X.cut [] i80_13 rfl ?_
          refine X.iconst 14 i80_13 rfl rfl (by decide) ?_
          refine X.retz i80_14 rfl t80 (by omega) ?_
          show X (EE s) d 78 26 [(0, zr 4 40), (1, zi a1), (2, zi a2), (3, zi a3)] [zi 0] m501 _
          refine X.ifeq 39 29 i78_26 rfl rfl rfl (fun h511 => ?_) (fun h511 => (by exfalso; omega))
          refine X.cut [] i78_39 rfl ?_
          refine X.iconst 40 i78_39 rfl rfl (by decide) ?_
          refine X.reti i78_40 rfl t78 ?_
          exact hQ (-1) m501 (by first | trivial | omega) (Eq.trans (zb_eq hFv503) (Eq.trans (if_pos h504) (Eq.trans (if_neg h505) (Eq.trans (if_neg h507) (Eq.trans (if_pos h510) rfl))))) (hJ502.up (by omega)) 
        · refine X.iload_n 5 i80_4 rfl rfl rfl ?_
          refine X.iconst 6 i80_5 rfl rfl (by decide) ?_
          refine X.icmpge 13 9 i80_6 rfl rfl rfl (fun h512 => ?_) (fun h512 => ?_)
          · refine X.cut [] i80_13 rfl ?_
            refine X.iconst 14 i80_13 rfl rfl (by decide) ?_
            refine X.retz i80_14 rfl t80 (by omega) ?_
            show X (EE s) d 78 26 [(0, zr 4 40), (1, zi a1), (2, zi a2), (3, zi a3)] [zi 0] m501 _
            refine X.ifeq 39 29 i78_26 rfl rfl rfl (fun h513 => ?_) (fun h513 => (by exfalso; omega))
            refine X.cut [] i78_39 rfl ?_
            refine X.iconst 40 i78_39 rfl rfl (by decide) ?_
            refine X.reti i78_40 rfl t78 ?_
            exact hQ (-1) m501 (by first | trivial | omega) (Eq.trans (zb_eq hFv503) (Eq.trans (if_pos h504) (Eq.trans (if_neg h505) (Eq.trans (if_neg h507) (Eq.trans (if_neg h510) (Eq.trans (if_pos h512) rfl)))))) (hJ502.up (by omega)) 
          · refine X.iconst 10 i80_9 rfl rfl (by decide) ?_
            refine X.goto 14 i80_10 rfl rfl ?_
            refine X.cut [] i80_14 rfl ?_
            refine X.retz i80_14 rfl t80 (by omega) ?_
            show X (EE s) d 78 26 [(0, zr 4 40), (1, zi a1), (2, zi a2), (3, zi a3)] [zi 1] m501 _
            refine X.ifeq 39 29 i78_26 rfl rfl rfl (fun h514 => (by exfalso; omega)) (fun h514 => ?_)
            refine X.iload_n 30 i78_29 rfl rfl rfl ?_
            refine X.iflt 39 33 i78_30 rfl rfl rfl (fun h515 => ?_) (fun h515 => ?_)
            · refine X.cut [] i78_39 rfl ?_
              refine X.iconst 40 i78_39 rfl rfl (by decide) ?_
              refine X.reti i78_40 rfl t78 ?_
              exact hQ (-1) m501 (by first | trivial | omega) (Eq.trans (zb_eq hFv503) (Eq.trans (if_pos h504) (Eq.trans (if_neg h505) (Eq.trans (if_neg h507) (Eq.trans (if_neg h510) (Eq.trans (if_neg h512) (Eq.trans (if_pos h515) rfl))))))) (hJ502.up (by omega)) 
            · refine X.iload_n 34 i78_33 rfl rfl rfl ?_
              refine X.ldc 36 i78_34 rfl rfl (by decide) ?_
              refine X.icmplt 41 39 i78_36 rfl rfl rfl (fun h516 => ?_) (fun h516 => ?_)
              · refine X.aload_n 42 i78_41 rfl rfl rfl ?_
                refine X.getF 45 i78_42 rfl rfl (by decide) rfl rfl ?_
                refine X.getR 48 i78_45 rfl rfl (by decide) rfl rfl ?_
                refine X.iload_n 49 i78_48 rfl rfl rfl ?_
                refine X.iload_n 50 i78_49 rfl rfl rfl ?_
                refine X.iload_n 51 i78_50 rfl rfl rfl ?_
                refine X.callv 54 [zi a1, zi a2, zi a3] [] [(0, zr 0 11), (1, zi a1), (2, zi a2), (3, zi a3)] i78_51 rfl (by decide) rfl rfl (by omega) rfl rfl (by decide) rfl t81 (Nat.le_of_ble_eq_true rfl) (Nat.le_of_ble_eq_true rfl) rfl ?_
                refine c81_1 (B := B) 0 a1 a2 a3 (by omega) (hJ502.up (by omega)) (by omega) (by omega) (by omega) (by omega) hf1 hg0 (fun v519 m517 hv519 hFv519 hJ518 => ?_)
                show X (EE s) d 78 54 [(0, zr 4 40), (1, zi a1), (2, zi a2), (3, zi a3)] [zi v519] m517 _
                refine X.reti i78_54 rfl t78 ?_
                exact hQ v519 m517 (by first | trivial | omega) (Eq.trans (zb_eq hFv503) (Eq.trans (if_pos h504) (Eq.trans (if_neg h505) (Eq.trans (if_neg h507) (Eq.trans (if_neg h510) (Eq.trans (if_neg h512) (Eq.trans (if_neg h515) (Eq.trans (if_pos h516) (Eq.trans (zb_eq hFv519) rfl))))))))) (hJ518.up (by omega)) 
              · refine X.cut [] i78_39 rfl ?_
                refine X.iconst 40 i78_39 rfl rfl (by decide) ?_
                refine X.reti i78_40 rfl t78 ?_
                exact hQ (-1) m501 (by first | trivial | omega) (Eq.trans (zb_eq hFv503) (Eq.trans (if_pos h504) (Eq.trans (if_neg h505) (Eq.trans (if_neg h507) (Eq.trans (if_neg h510) (Eq.trans (if_neg h512) (Eq.trans (if_neg h515) (Eq.trans (if_neg h516) rfl)))))))) (hJ502.up (by omega)) 
  · refine X.iconst 14 i78_13 rfl rfl (by decide) ?_
    refine X.reti i78_14 rfl t78 ?_
    exact hQ (-1) m501 (by first | trivial | omega) (Eq.trans (zb_eq hFv503) (Eq.trans (if_neg h504) rfl)) (hJ502.up (by omega)) 
noncomputable def fl243_22_1_b (self : Int → Int × zM) (k55 : Int → Int × zM) (y1 y2 y3 y4 y5 : Int) (m : zM) (y6 : Int) : Int × zM :=
  if y5 ≤ y6 then
  (k55 y6)
  else
  (if (m 4 45 ((295 + y4) + y6)) < y2 then
  (self (y6 + 1))
  else
  (k55 y6))
noncomputable def fl243_22_1 (k55 : Int → Int × zM) (y1 y2 y3 y4 y5 : Int) (m : zM) : Nat → Int → Int × zM
  | 0 => fun y6 => (0, m)
  | n + 1 => fl243_22_1_b (fl243_22_1 k55 y1 y2 y3 y4 y5 m n) k55 y1 y2 y3 y4 y5 m
theorem l243_22_1 {s : Nat × (Nat → Int32)} {S : zS} {m0 : zM} {m : zM} {B : Int} {d : Nat} {Q : Option zV → zM → Prop} {R0 : Int × zM} {k55 : Int → Int × zM} (y1 y2 y3 y4 y5 : Int) (hd : 13 ≤ d) (hJ : J S m0 B m) (hB9 : B ≤ 1000000000) (hy1 : 0 ≤ y1 ∧ y1 ≤ 7) (hy2 : 0 ≤ y2 ∧ y2 ≤ 86399) (hy3 : 0 ≤ y3 ∧ y3 ≤ 3) (hy4 : 0 ≤ y4 ∧ y4 ≤ 42) (hy5 : 0 ≤ y5 ∧ y5 ≤ 6)
    (K55 : ∀ (x6 : Int) , (0 ≤ x6 ∧ x6 ≤ 6) → (x6 ≤ y5) → R0 = k55 x6 → X (EE s) d 243 55 [(0, zr 4 44), (1, zi y1), (2, zi y2), (3, zi y3), (4, zi y4), (5, zi y5), (6, zi x6)] [] m Q) :
    ∀ (n : Nat) (y6 : Int) , (0 ≤ y6 ∧ y6 ≤ 6) → (y6 ≤ y5) → 6 - y6 < (n : Int) → R0 = fl243_22_1 k55 y1 y2 y3 y4 y5 m n y6 → X (EE s) d 243 22 [(0, zr 4 44), (1, zi y1), (2, zi y2), (3, zi y3), (4, zi y4), (5, zi y5), (6, zi y6)] [] m Q := by
  intro n
  induction n with
  | zero =>
    intro y6 hy6 hr0 hn hR
    exfalso
    omega
  | succ n ih =>
    intro y6 hy6 hr0 hn hR
    replace hR : R0 = fl243_22_1_b (fl243_22_1 k55 y1 y2 y3 y4 y5 m n) k55 y1 y2 y3 y4 y5 m y6 := hR
    refine X.iload 24 i243_22 rfl rfl rfl ?_
    refine X.iload 26 i243_24 rfl rfl rfl ?_
    refine X.icmpge 55 29 i243_26 rfl rfl rfl (fun h505 => ?_) (fun h505 => ?_)
    · exact K55 y6 (by first | trivial | omega) (by omega) (Eq.trans hR (Eq.trans (if_pos h505) rfl))
    · refine X.aload_n 30 i243_29 rfl rfl rfl ?_
      refine X.getF 33 i243_30 rfl rfl (by decide) rfl rfl ?_
      refine X.sipush 36 i243_33 rfl rfl (by decide) ?_
      refine X.iload 38 i243_36 rfl rfl rfl ?_
      refine X.iadd 39 i243_38 rfl rfl (by omega) ?_
      refine X.iload 41 i243_39 rfl rfl rfl ?_
      refine X.iadd 42 i243_41 rfl rfl (by omega) ?_
      refine X.lald 43 i243_42 rfl rfl (by decide) rfl (by omega) ?_
      have h506 := r45_295 hJ 4 (i := ((295 + y4) + y6)) (by omega)
      refine X.iload_n 44 i243_43 rfl rfl rfl ?_
      refine X.i2l 45 i243_44 rfl rfl ?_
      refine X.lcmp 46 i243_45 rfl rfl (fun z507 hz507 => ?_)
      refine X.ifge 55 49 i243_46 rfl rfl rfl (fun h508 => ?_) (fun h508 => ?_)
      · have h508c : ¬ (m 4 45 ((295 + y4) + y6)) < y2 := by omega
        clear h508 hz507
        exact K55 y6 (by first | trivial | omega) (by omega) (Eq.trans hR (Eq.trans (if_neg h505) (Eq.trans (if_neg h508c) rfl)))
      · have h508c : (m 4 45 ((295 + y4) + y6)) < y2 := by omega
        clear h508 hz507
        refine X.iinc 52 [(0, zr 4 44), (1, zi y1), (2, zi y2), (3, zi y3), (4, zi y4), (5, zi y5), (6, zi (y6 + 1))] i243_49 rfl rfl rfl (by omega) rfl ?_
        refine X.goto 22 i243_52 rfl rfl ?_
        exact ih (y6 + 1) (by omega) (by omega) (by omega) (Eq.trans hR (Eq.trans (if_neg h505) (Eq.trans (if_pos h508c) rfl)))
noncomputable def fl243_107_1_b (self : Int → zM → Int × zM) (k185 : zM → Int × zM) (y1 y2 y3 y4 y6 y7 : Int) (y8 : Int) (m : zM) : Int × zM :=
  if y8 ≤ y6 then
  (k185 m)
  else
  (zs (z_upd m 4 45 ((295 + y4) + y8) (m 4 45 (((295 + y4) + y8) - 1))) fun m512 =>
  zs (z_upd m512 4 45 ((343 + y4) + y8) (m512 4 45 (((343 + y4) + y8) - 1))) fun m515 =>
  self (y8 + (-1)) m515)
noncomputable def fl243_107_1 (k185 : zM → Int × zM) (y1 y2 y3 y4 y6 y7 : Int) : Nat → Int → zM → Int × zM
  | 0 => fun y8 m => (0, m)
  | n + 1 => fl243_107_1_b (fl243_107_1 k185 y1 y2 y3 y4 y6 y7 n) k185 y1 y2 y3 y4 y6 y7
theorem l243_107_1 {s : Nat × (Nat → Int32)} {S : zS} {m0 : zM} {d : Nat} {Q : Option zV → zM → Prop} {R0 : Int × zM} {k185 : zM → Int × zM} (y1 y2 y3 y4 y6 y7 : Int) (c8 c9 : Int) (BE : Int) (hE : BE ≤ 1000000000) (hd : 13 ≤ d) (hy1 : 0 ≤ y1 ∧ y1 ≤ 7) (hy2 : 0 ≤ y2 ∧ y2 ≤ 86399) (hy3 : 0 ≤ y3 ∧ y3 ≤ 3) (hy4 : 0 ≤ y4 ∧ y4 ≤ 42) (hy6 : 0 ≤ y6 ∧ y6 ≤ 6) (hy7 : 0 ≤ y7 ∧ y7 ≤ 0) (hf21 : ¬ S.1 21) (hg4 : ¬ S.2.1 4)
    (K185 : ∀ (m' : zM) (B' : Int), J S m0 B' m' → B' ≤ BE → (m' 4 45 (287 + y1) ≤ 5 + y7) → (c8 ≤ m' 4 44 8) → (c9 ≤ m' 4 44 9) → R0 = k185 m' → X (EE s) d 243 185 [(0, zr 4 44), (1, zi y1), (2, zi y2), (3, zi y3), (4, zi y4), (6, zi y6), (7, zi y7)] [] m' Q) :
    ∀ (n : Nat) (y8 : Int) (m : zM) (B : Int), J S m0 B m → B + 0 * (n : Int) ≤ BE → (0 ≤ y8 ∧ y8 ≤ 5) → (m 4 45 (287 + y1) ≤ 5 + y7) → (c8 ≤ m 4 44 8) → (c9 ≤ m 4 44 9) → y8 - 0 < (n : Int) → R0 = fl243_107_1 k185 y1 y2 y3 y4 y6 y7 n y8 m → X (EE s) d 243 107 [(0, zr 4 44), (1, zi y1), (2, zi y2), (3, zi y3), (4, zi y4), (6, zi y6), (7, zi y7), (8, zi y8)] [] m Q := by
  intro n
  induction n with
  | zero =>
    intro y8 m B hJ hB hy8 hr0 hr1 hr2 hn hR
    exfalso
    omega
  | succ n ih =>
    intro y8 m B hJ hB hy8 hr0 hr1 hr2 hn hR
    replace hR : R0 = fl243_107_1_b (fl243_107_1 k185 y1 y2 y3 y4 y6 y7 n) k185 y1 y2 y3 y4 y6 y7 y8 m := hR
    refine X.iload 109 i243_107 rfl rfl rfl ?_
    refine X.iload 111 i243_109 rfl rfl rfl ?_
    refine X.icmple 185 114 i243_111 rfl rfl rfl (fun h509 => ?_) (fun h509 => ?_)
    · refine X.cut [(0, zr 4 44), (1, zi y1), (2, zi y2), (3, zi y3), (4, zi y4), (6, zi y6), (7, zi y7)] i243_185 rfl ?_
      exact K185  m (B) (hJ.up (by omega)) (by omega) (by omega) (by omega) (by omega) (Eq.trans hR (Eq.trans (if_pos h509) rfl))
    · refine X.iload 116 i243_114 rfl rfl rfl ?_
      refine X.ifne 185 119 i243_116 rfl rfl rfl (fun h510 => (by exfalso; omega)) (fun h510 => ?_)
      refine X.aload_n 120 i243_119 rfl rfl rfl ?_
      refine X.getF 123 i243_120 rfl rfl (by decide) rfl rfl ?_
      refine X.sipush 126 i243_123 rfl rfl (by decide) ?_
      refine X.iload 128 i243_126 rfl rfl rfl ?_
      refine X.iadd 129 i243_128 rfl rfl (by omega) ?_
      refine X.iload 131 i243_129 rfl rfl rfl ?_
      refine X.iadd 132 i243_131 rfl rfl (by omega) ?_
      refine X.aload_n 133 i243_132 rfl rfl rfl ?_
      refine X.getF 136 i243_133 rfl rfl (by decide) rfl rfl ?_
      refine X.sipush 139 i243_136 rfl rfl (by decide) ?_
      refine X.iload 141 i243_139 rfl rfl rfl ?_
      refine X.iadd 142 i243_141 rfl rfl (by omega) ?_
      refine X.iload 144 i243_142 rfl rfl rfl ?_
      refine X.iadd 145 i243_144 rfl rfl (by omega) ?_
      refine X.iconst 146 i243_145 rfl rfl (by decide) ?_
      refine X.isub 147 i243_146 rfl rfl (by omega) ?_
      refine X.lald 148 i243_147 rfl rfl (by decide) rfl (by omega) ?_
      have h511 := r45_295 hJ 4 (i := (((295 + y4) + y8) - 1)) (by omega)
      refine X.last' 149 i243_148 rfl rfl (by decide) rfl (by omega) (fun hrm512 m512 hm512 => ?_)
      have hJ513 := w45_295 hJ hm512 (by omega) (by omega) hf21 hg4
      have wtm512_0 : m512 4 45 (287 + y1) = m 4 45 (287 + y1) := by rw [hm512]; exact z_upd_i _ _ _ _ (by omega)
      have wmm512_8 : m512 4 44 8 = m 4 44 8 := by rw [hm512]; exact z_upd_o _ _ rfl
      have wmm512_9 : m512 4 44 9 = m 4 44 9 := by rw [hm512]; exact z_upd_o _ _ rfl
      have wmm512_10 : m512 4 44 10 = m 4 44 10 := by rw [hm512]; exact z_upd_o _ _ rfl
      refine X.aload_n 150 i243_149 rfl rfl rfl ?_
      refine X.getF 153 i243_150 rfl rfl (by decide) rfl rfl ?_
      refine X.sipush 156 i243_153 rfl rfl (by decide) ?_
      refine X.iload 158 i243_156 rfl rfl rfl ?_
      refine X.iadd 159 i243_158 rfl rfl (by omega) ?_
      refine X.iload 161 i243_159 rfl rfl rfl ?_
      refine X.iadd 162 i243_161 rfl rfl (by omega) ?_
      refine X.aload_n 163 i243_162 rfl rfl rfl ?_
      refine X.getF 166 i243_163 rfl rfl (by decide) rfl rfl ?_
      refine X.sipush 169 i243_166 rfl rfl (by decide) ?_
      refine X.iload 171 i243_169 rfl rfl rfl ?_
      refine X.iadd 172 i243_171 rfl rfl (by omega) ?_
      refine X.iload 174 i243_172 rfl rfl rfl ?_
      refine X.iadd 175 i243_174 rfl rfl (by omega) ?_
      refine X.iconst 176 i243_175 rfl rfl (by decide) ?_
      refine X.isub 177 i243_176 rfl rfl (by omega) ?_
      refine X.lald 178 i243_177 rfl rfl (by decide) rfl (by omega) ?_
      have h514 := r45_343 hJ513 4 (i := (((343 + y4) + y8) - 1)) (by omega)
      refine X.last' 179 i243_178 rfl rfl (by decide) rfl (by omega) (fun hrm515 m515 hm515 => ?_)
      have hJ516 := w45_343 hJ513 hm515 (by omega) (by omega) hf21 hg4
      have wtm515_0 : m515 4 45 (287 + y1) = m512 4 45 (287 + y1) := by rw [hm515]; exact z_upd_i _ _ _ _ (by omega)
      have wmm515_8 : m515 4 44 8 = m512 4 44 8 := by rw [hm515]; exact z_upd_o _ _ rfl
      have wmm515_9 : m515 4 44 9 = m512 4 44 9 := by rw [hm515]; exact z_upd_o _ _ rfl
      have wmm515_10 : m515 4 44 10 = m512 4 44 10 := by rw [hm515]; exact z_upd_o _ _ rfl
      refine X.iinc 182 [(0, zr 4 44), (1, zi y1), (2, zi y2), (3, zi y3), (4, zi y4), (6, zi y6), (7, zi y7), (8, zi (y8 + (-1)))] i243_179 rfl rfl rfl (by omega) rfl ?_
      refine X.goto 107 i243_182 rfl rfl ?_
      exact ih (y8 + (-1)) m515 (B) (hJ516.up (by omega)) (by omega) (by omega) (by omega) (by omega) (by omega) (by omega) (Eq.trans hR (Eq.trans (if_neg h509) (Eq.trans (zs_eq hm512) (Eq.trans (zs_eq hm515) rfl))))
noncomputable def fl243_107_2_b (self : Int → zM → Int × zM) (k185 : zM → Int × zM) (y1 y2 y3 y4 y6 y7 : Int) (y8 : Int) (m : zM) : Int × zM :=
  if y8 ≤ y6 then
  (k185 m)
  else
  (k185 m)
noncomputable def fl243_107_2 (k185 : zM → Int × zM) (y1 y2 y3 y4 y6 y7 : Int) : Nat → Int → zM → Int × zM
  | 0 => fun y8 m => (0, m)
  | n + 1 => fl243_107_2_b (fl243_107_2 k185 y1 y2 y3 y4 y6 y7 n) k185 y1 y2 y3 y4 y6 y7
theorem l243_107_2 {s : Nat × (Nat → Int32)} {S : zS} {m0 : zM} {d : Nat} {Q : Option zV → zM → Prop} {R0 : Int × zM} {k185 : zM → Int × zM} (y1 y2 y3 y4 y6 y7 : Int) (c8 c9 : Int) (BE : Int) (hE : BE ≤ 1000000000) (hd : 13 ≤ d) (hy1 : 0 ≤ y1 ∧ y1 ≤ 7) (hy2 : 0 ≤ y2 ∧ y2 ≤ 86399) (hy3 : 0 ≤ y3 ∧ y3 ≤ 3) (hy4 : 0 ≤ y4 ∧ y4 ≤ 42) (hy6 : 0 ≤ y6 ∧ y6 ≤ 5) (hy7 : 1 ≤ y7 ∧ y7 ≤ 1)
    (K185 : ∀ (m' : zM) (B' : Int), J S m0 B' m' → B' ≤ BE → (m' 4 45 (287 + y1) ≤ 5 + y7) → (c8 ≤ m' 4 44 8) → (c9 ≤ m' 4 44 9) → R0 = k185 m' → X (EE s) d 243 185 [(0, zr 4 44), (1, zi y1), (2, zi y2), (3, zi y3), (4, zi y4), (6, zi y6), (7, zi y7)] [] m' Q) :
    ∀ (n : Nat) (y8 : Int) (m : zM) (B : Int), J S m0 B m → B + 0 * (n : Int) ≤ BE → (0 ≤ y8 ∧ y8 ≤ 6) → (m 4 45 (287 + y1) ≤ 5 + y7) → (c8 ≤ m 4 44 8) → (c9 ≤ m 4 44 9) → y8 - 0 < (n : Int) → R0 = fl243_107_2 k185 y1 y2 y3 y4 y6 y7 n y8 m → X (EE s) d 243 107 [(0, zr 4 44), (1, zi y1), (2, zi y2), (3, zi y3), (4, zi y4), (6, zi y6), (7, zi y7), (8, zi y8)] [] m Q := by
  intro n
  induction n with
  | zero =>
    intro y8 m B hJ hB hy8 hr0 hr1 hr2 hn hR
    exfalso
    omega
  | succ n ih =>
    intro y8 m B hJ hB hy8 hr0 hr1 hr2 hn hR
    replace hR : R0 = fl243_107_2_b (fl243_107_2 k185 y1 y2 y3 y4 y6 y7 n) k185 y1 y2 y3 y4 y6 y7 y8 m := hR
    refine X.iload 109 i243_107 rfl rfl rfl ?_
    refine X.iload 111 i243_109 rfl rfl rfl ?_
    refine X.icmple 185 114 i243_111 rfl rfl rfl (fun h503 => ?_) (fun h503 => ?_)
    · refine X.cut [(0, zr 4 44), (1, zi y1), (2, zi y2), (3, zi y3), (4, zi y4), (6, zi y6), (7, zi y7)] i243_185 rfl ?_
      exact K185  m (B) (hJ.up (by omega)) (by omega) (by omega) (by omega) (by omega) (Eq.trans hR (Eq.trans (if_pos h503) rfl))
    · refine X.iload 116 i243_114 rfl rfl rfl ?_
      refine X.ifne 185 119 i243_116 rfl rfl rfl (fun h504 => ?_) (fun h504 => (by exfalso; omega))
      refine X.cut [(0, zr 4 44), (1, zi y1), (2, zi y2), (3, zi y3), (4, zi y4), (6, zi y6), (7, zi y7)] i243_185 rfl ?_
      exact K185  m (B) (hJ.up (by omega)) (by omega) (by omega) (by omega) (by omega) (Eq.trans hR (Eq.trans (if_neg h503) rfl))
-- WorkMeterModel.puts
noncomputable def f243_1 (a1 a2 a3 : Int) (m : zM) : Int × zM :=
  fl243_22_1 (fun y502 =>
  if (m 4 45 (287 + a1)) ≤ y502 then
  (if (m 4 45 (287 + a1)) = 6 then
  (((-1), m))
  else
  (fl243_107_1 (fun m510 =>
  zs (z_upd m510 4 45 ((295 + (6 * a1)) + y502) a2) fun m514 =>
  zs (z_upd m514 4 45 ((343 + (6 * a1)) + y502) a3) fun m516 =>
  zs (z_upd m516 4 45 (287 + a1) ((m516 4 45 (287 + a1)) + 1)) fun m520 =>
  ((m520 4 45 (287 + a1)), m520)) a1 a2 a3 (6 * a1) y502 0 (zfu 6) (m 4 45 (287 + a1)) m))
  else
  (if (m 4 45 ((295 + (6 * a1)) + y502)) = a2 then
  (fl243_107_2 (fun m542 =>
  zs (z_upd m542 4 45 ((295 + (6 * a1)) + y502) a2) fun m546 =>
  zs (z_upd m546 4 45 ((343 + (6 * a1)) + y502) a3) fun m548 =>
  zs (z_upd m548 4 45 (287 + a1) ((m548 4 45 (287 + a1)) + 0)) fun m552 =>
  ((m552 4 45 (287 + a1)), m552)) a1 a2 a3 (6 * a1) y502 1 (zfu 7) (m 4 45 (287 + a1)) m)
  else
  (if (m 4 45 (287 + a1)) = 6 then
  (((-1), m))
  else
  (fl243_107_1 (fun m528 =>
  zs (z_upd m528 4 45 ((295 + (6 * a1)) + y502) a2) fun m532 =>
  zs (z_upd m532 4 45 ((343 + (6 * a1)) + y502) a3) fun m534 =>
  zs (z_upd m534 4 45 (287 + a1) ((m534 4 45 (287 + a1)) + 1)) fun m538 =>
  ((m538 4 45 (287 + a1)), m538)) a1 a2 a3 (6 * a1) y502 0 (zfu 6) (m 4 45 (287 + a1)) m)))) a1 a2 a3 (6 * a1) (m 4 45 (287 + a1)) m (zfu 7) 0
-- WorkMeterModel.puts
theorem c243_1 {s : Nat × (Nat → Int32)} {S : zS} {m0 m : zM} {B : Int} {d : Nat} {Q : Option zV → zM → Prop} (a1 a2 a3 : Int) (hd : 13 ≤ d) (hJ : J S m0 B m) (hB : B + 0 ≤ 1000000000) (ha1 : 0 ≤ a1 ∧ a1 ≤ 7) (ha2 : 0 ≤ a2 ∧ a2 ≤ 86399) (ha3 : 0 ≤ a3 ∧ a3 ≤ 3) (hf21 : ¬ S.1 21) (hg4 : ¬ S.2.1 4) (hQ : ∀ (v : Int) m', ((-1) ≤ v ∧ v ≤ 6) → f243_1 a1 a2 a3 m = (v, m') → J S m0 (B) m' → (m 4 44 8 ≤ m' 4 44 8) → (m 4 44 9 ≤ m' 4 44 9) → Q (some (zi v)) m') : X (EE s) d 243 0 [(0, zr 4 44), (1, zi a1), (2, zi a2), (3, zi a3)] [] m Q := by
  refine X.bipush 2 i243_0 rfl rfl (by decide) ?_
  refine X.iload_n 3 i243_2 rfl rfl rfl ?_
  refine X.imul 4 i243_3 rfl rfl (by omega) ?_
  refine X.istore 6 [(0, zr 4 44), (1, zi a1), (2, zi a2), (3, zi a3), (4, zi (6 * a1))] i243_4 rfl rfl rfl ?_
  refine X.aload_n 7 i243_6 rfl rfl rfl ?_
  refine X.getF 10 i243_7 rfl rfl (by decide) rfl rfl ?_
  refine X.sipush 13 i243_10 rfl rfl (by decide) ?_
  refine X.iload_n 14 i243_13 rfl rfl rfl ?_
  refine X.iadd 15 i243_14 rfl rfl (by omega) ?_
  refine X.lald 16 i243_15 rfl rfl (by decide) rfl (by omega) ?_
  have h501 := r45_287 hJ 4 (i := (287 + a1)) (by omega)
  refine X.l2i 17 i243_16 rfl rfl (by omega) ?_
  refine X.istore 19 [(0, zr 4 44), (1, zi a1), (2, zi a2), (3, zi a3), (4, zi (6 * a1)), (5, zi (m 4 45 (287 + a1)))] i243_17 rfl rfl rfl ?_
  refine X.iconst 20 i243_19 rfl rfl (by decide) ?_
  refine X.istore 22 [(0, zr 4 44), (1, zi a1), (2, zi a2), (3, zi a3), (4, zi (6 * a1)), (5, zi (m 4 45 (287 + a1))), (6, zi 0)] i243_20 rfl rfl rfl ?_
  have hz7 := zfu_eq 7
  refine l243_22_1 (s := s) (m := m) (B := B) (d := d) (R0 := (f243_1 a1 a2 a3 m))  a1 a2 a3 (6 * a1) (m 4 45 (287 + a1))  (by omega) (hJ.up (by omega)) (by omega) (by omega) (by omega) (by omega) (by omega) (by omega) (fun y502 hby502 hrlm503_0 hR506 => ?_) (zfu 7) 0 (by omega) (by omega) (by omega) rfl
  refine X.iload 57 i243_55 rfl rfl rfl ?_
  refine X.iload 59 i243_57 rfl rfl rfl ?_
  refine X.icmpge 86 62 i243_59 rfl rfl rfl (fun h507 => ?_) (fun h507 => ?_)
  · refine X.iconst 87 i243_86 rfl rfl (by decide) ?_
    refine X.istore 89 [(0, zr 4 44), (1, zi a1), (2, zi a2), (3, zi a3), (4, zi (6 * a1)), (5, zi (m 4 45 (287 + a1))), (6, zi y502), (7, zi 0)] i243_87 rfl rfl rfl ?_
    refine X.iload 91 i243_89 rfl rfl rfl ?_
    refine X.ifne 103 94 i243_91 rfl rfl rfl (fun h508 => (by exfalso; omega)) (fun h508 => ?_)
    refine X.iload 96 i243_94 rfl rfl rfl ?_
    refine X.bipush 98 i243_96 rfl rfl (by decide) ?_
    refine X.icmpne 103 101 i243_98 rfl rfl rfl (fun h509 => ?_) (fun h509 => ?_)
    · refine X.iload 105 i243_103 rfl rfl rfl ?_
      refine X.istore 107 [(0, zr 4 44), (1, zi a1), (2, zi a2), (3, zi a3), (4, zi (6 * a1)), (5, zi (m 4 45 (287 + a1))), (6, zi y502), (7, zi 0), (8, zi (m 4 45 (287 + a1)))] i243_105 rfl rfl rfl ?_
      refine X.cut [(0, zr 4 44), (1, zi a1), (2, zi a2), (3, zi a3), (4, zi (6 * a1)), (6, zi y502), (7, zi 0), (8, zi (m 4 45 (287 + a1)))] i243_107 rfl ?_
      have hz6 := zfu_eq 6
      refine l243_107_1 (s := s) (d := d)  a1 a2 a3 (6 * a1) y502 0 (m 4 44 8) (m 4 44 9) (BE := B + 0) (by omega) (by omega) (by omega) (by omega) (by omega) (by omega) (by omega) (by omega) hf21 hg4 (fun  m510 B511 hJ512 hBB511 hrlm510_0 hrlm510_1 hrlm510_2 hR513 => ?_) (zfu 6) (m 4 45 (287 + a1)) m (B) (hJ.up (by omega)) (by omega) (by omega) (by omega) (by omega) (by omega) (by omega) (Eq.trans hR506 (Eq.trans (if_pos h507) (Eq.trans (if_neg h509) rfl)))
      refine X.aload_n 186 i243_185 rfl rfl rfl ?_
      refine X.getF 189 i243_186 rfl rfl (by decide) rfl rfl ?_
      refine X.sipush 192 i243_189 rfl rfl (by decide) ?_
      refine X.iload 194 i243_192 rfl rfl rfl ?_
      refine X.iadd 195 i243_194 rfl rfl (by omega) ?_
      refine X.iload 197 i243_195 rfl rfl rfl ?_
      refine X.iadd 198 i243_197 rfl rfl (by omega) ?_
      refine X.iload_n 199 i243_198 rfl rfl rfl ?_
      refine X.i2l 200 i243_199 rfl rfl ?_
      refine X.last' 201 i243_200 rfl rfl (by decide) rfl (by omega) (fun hrm514 m514 hm514 => ?_)
      have hJ515 := w45_295 hJ512 hm514 (by omega) (by omega) hf21 hg4
      have wtm514_0 : m514 4 45 (287 + a1) = m510 4 45 (287 + a1) := by rw [hm514]; exact z_upd_i _ _ _ _ (by omega)
      have wmm514_8 : m514 4 44 8 = m510 4 44 8 := by rw [hm514]; exact z_upd_o _ _ rfl
      have wmm514_9 : m514 4 44 9 = m510 4 44 9 := by rw [hm514]; exact z_upd_o _ _ rfl
      have wmm514_10 : m514 4 44 10 = m510 4 44 10 := by rw [hm514]; exact z_upd_o _ _ rfl
      refine X.aload_n 202 i243_201 rfl rfl rfl ?_
      refine X.getF 205 i243_202 rfl rfl (by decide) rfl rfl ?_
      refine X.sipush 208 i243_205 rfl rfl (by decide) ?_
      refine X.iload 210 i243_208 rfl rfl rfl ?_
      refine X.iadd 211 i243_210 rfl rfl (by omega) ?_
      refine X.iload 213 i243_211 rfl rfl rfl ?_
      refine X.iadd 214 i243_213 rfl rfl (by omega) ?_
      refine X.iload_n 215 i243_214 rfl rfl rfl ?_
      refine X.i2l 216 i243_215 rfl rfl ?_
      refine X.last' 217 i243_216 rfl rfl (by decide) rfl (by omega) (fun hrm516 m516 hm516 => ?_)
      have hJ517 := w45_343 hJ515 hm516 (by omega) (by omega) hf21 hg4
      have wtm516_0 : m516 4 45 (287 + a1) = m514 4 45 (287 + a1) := by rw [hm516]; exact z_upd_i _ _ _ _ (by omega)
      have wmm516_8 : m516 4 44 8 = m514 4 44 8 := by rw [hm516]; exact z_upd_o _ _ rfl
      have wmm516_9 : m516 4 44 9 = m514 4 44 9 := by rw [hm516]; exact z_upd_o _ _ rfl
      have wmm516_10 : m516 4 44 10 = m514 4 44 10 := by rw [hm516]; exact z_upd_o _ _ rfl
      refine X.aload_n 218 i243_217 rfl rfl rfl ?_
      refine X.getF 221 i243_218 rfl rfl (by decide) rfl rfl ?_
      refine X.sipush 224 i243_221 rfl rfl (by decide) ?_
      refine X.iload_n 225 i243_224 rfl rfl rfl ?_
      refine X.iadd 226 i243_225 rfl rfl (by omega) ?_
      refine X.dup2 227 i243_226 rfl rfl ?_
      refine X.lald 228 i243_227 rfl rfl (by decide) rfl (by omega) ?_
      have h518 := r45_287 hJ517 4 (i := (287 + a1)) (by omega)
      refine X.iload 230 i243_228 rfl rfl rfl ?_
      refine X.ifeq 237 233 i243_230 rfl rfl rfl (fun h519 => ?_) (fun h519 => (by exfalso; omega))
      refine X.cut [(0, zr 4 44), (1, zi a1)] i243_237 rfl ?_
      refine X.lconst (y := 1) 238 i243_237 rfl rfl rfl ?_
      refine X.ladd 239 i243_238 rfl rfl (by omega) ?_
      refine X.last' 240 i243_239 rfl rfl (by decide) rfl (by omega) (fun hrm520 m520 hm520 => ?_)
      have hJ521 := w45_287 hJ517 hm520 (by omega) (by omega) hf21 hg4
      have wmm520_8 : m520 4 44 8 = m516 4 44 8 := by rw [hm520]; exact z_upd_o _ _ rfl
      have wmm520_9 : m520 4 44 9 = m516 4 44 9 := by rw [hm520]; exact z_upd_o _ _ rfl
      have wmm520_10 : m520 4 44 10 = m516 4 44 10 := by rw [hm520]; exact z_upd_o _ _ rfl
      refine X.aload_n 241 i243_240 rfl rfl rfl ?_
      refine X.getF 244 i243_241 rfl rfl (by decide) rfl rfl ?_
      refine X.sipush 247 i243_244 rfl rfl (by decide) ?_
      refine X.iload_n 248 i243_247 rfl rfl rfl ?_
      refine X.iadd 249 i243_248 rfl rfl (by omega) ?_
      refine X.lald 250 i243_249 rfl rfl (by decide) rfl (by omega) ?_
      have h522 := r45_287 hJ521 4 (i := (287 + a1)) (by omega)
      refine X.l2i 251 i243_250 rfl rfl (by omega) ?_
      refine X.reti i243_251 rfl t243 ?_
      exact hQ (m520 4 45 (287 + a1)) m520 (by first | trivial | omega) (Eq.trans hR513 (Eq.trans (zs_eq hm514) (Eq.trans (zs_eq hm516) (Eq.trans (zs_eq hm520) rfl)))) (hJ521.up (by omega)) (by omega) (by omega)
    · refine X.iconst 102 i243_101 rfl rfl (by decide) ?_
      refine X.reti i243_102 rfl t243 ?_
      exact hQ (-1) m (by first | trivial | omega) (Eq.trans hR506 (Eq.trans (if_pos h507) (Eq.trans (if_pos h509) rfl))) (hJ.up (by omega)) (by omega) (by omega)
  · refine X.aload_n 63 i243_62 rfl rfl rfl ?_
    refine X.getF 66 i243_63 rfl rfl (by decide) rfl rfl ?_
    refine X.sipush 69 i243_66 rfl rfl (by decide) ?_
    refine X.iload 71 i243_69 rfl rfl rfl ?_
    refine X.iadd 72 i243_71 rfl rfl (by omega) ?_
    refine X.iload 74 i243_72 rfl rfl rfl ?_
    refine X.iadd 75 i243_74 rfl rfl (by omega) ?_
    refine X.lald 76 i243_75 rfl rfl (by decide) rfl (by omega) ?_
    have h523 := r45_295 hJ 4 (i := ((295 + (6 * a1)) + y502)) (by omega)
    refine X.iload_n 77 i243_76 rfl rfl rfl ?_
    refine X.i2l 78 i243_77 rfl rfl ?_
    refine X.lcmp 79 i243_78 rfl rfl (fun z524 hz524 => ?_)
    refine X.ifne 86 82 i243_79 rfl rfl rfl (fun h525 => ?_) (fun h525 => ?_)
    · have h525c : ¬ (m 4 45 ((295 + (6 * a1)) + y502)) = a2 := by omega
      clear h525 hz524
      refine X.iconst 87 i243_86 rfl rfl (by decide) ?_
      refine X.istore 89 [(0, zr 4 44), (1, zi a1), (2, zi a2), (3, zi a3), (4, zi (6 * a1)), (5, zi (m 4 45 (287 + a1))), (6, zi y502), (7, zi 0)] i243_87 rfl rfl rfl ?_
      refine X.iload 91 i243_89 rfl rfl rfl ?_
      refine X.ifne 103 94 i243_91 rfl rfl rfl (fun h526 => (by exfalso; omega)) (fun h526 => ?_)
      refine X.iload 96 i243_94 rfl rfl rfl ?_
      refine X.bipush 98 i243_96 rfl rfl (by decide) ?_
      refine X.icmpne 103 101 i243_98 rfl rfl rfl (fun h527 => ?_) (fun h527 => ?_)
      · refine X.iload 105 i243_103 rfl rfl rfl ?_
        refine X.istore 107 [(0, zr 4 44), (1, zi a1), (2, zi a2), (3, zi a3), (4, zi (6 * a1)), (5, zi (m 4 45 (287 + a1))), (6, zi y502), (7, zi 0), (8, zi (m 4 45 (287 + a1)))] i243_105 rfl rfl rfl ?_
        refine X.cut [(0, zr 4 44), (1, zi a1), (2, zi a2), (3, zi a3), (4, zi (6 * a1)), (6, zi y502), (7, zi 0), (8, zi (m 4 45 (287 + a1)))] i243_107 rfl ?_
        have hz6 := zfu_eq 6
        refine l243_107_1 (s := s) (d := d)  a1 a2 a3 (6 * a1) y502 0 (m 4 44 8) (m 4 44 9) (BE := B + 0) (by omega) (by omega) (by omega) (by omega) (by omega) (by omega) (by omega) (by omega) hf21 hg4 (fun  m528 B529 hJ530 hBB529 hrlm528_0 hrlm528_1 hrlm528_2 hR531 => ?_) (zfu 6) (m 4 45 (287 + a1)) m (B) (hJ.up (by omega)) (by omega) (by omega) (by omega) (by omega) (by omega) (by omega) (Eq.trans hR506 (Eq.trans (if_neg h507) (Eq.trans (if_neg h525c) (Eq.trans (if_neg h527) rfl))))
        refine X.aload_n 186 i243_185 rfl rfl rfl ?_
        refine X.getF 189 i243_186 rfl rfl (by decide) rfl rfl ?_
        refine X.sipush 192 i243_189 rfl rfl (by decide) ?_
        refine X.iload 194 i243_192 rfl rfl rfl ?_
        refine X.iadd 195 i243_194 rfl rfl (by omega) ?_
        refine X.iload 197 i243_195 rfl rfl rfl ?_
        refine X.iadd 198 i243_197 rfl rfl (by omega) ?_
        refine X.iload_n 199 i243_198 rfl rfl rfl ?_
        refine X.i2l 200 i243_199 rfl rfl ?_
        refine X.last' 201 i243_200 rfl rfl (by decide) rfl (by omega) (fun hrm532 m532 hm532 => ?_)
        have hJ533 := w45_295 hJ530 hm532 (by omega) (by omega) hf21 hg4
        have wtm532_0 : m532 4 45 (287 + a1) = m528 4 45 (287 + a1) := by rw [hm532]; exact z_upd_i _ _ _ _ (by omega)
        have wmm532_8 : m532 4 44 8 = m528 4 44 8 := by rw [hm532]; exact z_upd_o _ _ rfl
        have wmm532_9 : m532 4 44 9 = m528 4 44 9 := by rw [hm532]; exact z_upd_o _ _ rfl
        have wmm532_10 : m532 4 44 10 = m528 4 44 10 := by rw [hm532]; exact z_upd_o _ _ rfl
        refine X.aload_n 202 i243_201 rfl rfl rfl ?_
        refine X.getF 205 i243_202 rfl rfl (by decide) rfl rfl ?_
        refine X.sipush 208 i243_205 rfl rfl (by decide) ?_
        refine X.iload 210 i243_208 rfl rfl rfl ?_
        refine X.iadd 211 i243_210 rfl rfl (by omega) ?_
        refine X.iload 213 i243_211 rfl rfl rfl ?_
        refine X.iadd 214 i243_213 rfl rfl (by omega) ?_
        refine X.iload_n 215 i243_214 rfl rfl rfl ?_
        refine X.i2l 216 i243_215 rfl rfl ?_
        refine X.last' 217 i243_216 rfl rfl (by decide) rfl (by omega) (fun hrm534 m534 hm534 => ?_)
        have hJ535 := w45_343 hJ533 hm534 (by omega) (by omega) hf21 hg4
        have wtm534_0 : m534 4 45 (287 + a1) = m532 4 45 (287 + a1) := by rw [hm534]; exact z_upd_i _ _ _ _ (by omega)
        have wmm534_8 : m534 4 44 8 = m532 4 44 8 := by rw [hm534]; exact z_upd_o _ _ rfl
        have wmm534_9 : m534 4 44 9 = m532 4 44 9 := by rw [hm534]; exact z_upd_o _ _ rfl
        have wmm534_10 : m534 4 44 10 = m532 4 44 10 := by rw [hm534]; exact z_upd_o _ _ rfl
        refine X.aload_n 218 i243_217 rfl rfl rfl ?_
        refine X.getF 221 i243_218 rfl rfl (by decide) rfl rfl ?_
        refine X.sipush 224 i243_221 rfl rfl (by decide) ?_
        refine X.iload_n 225 i243_224 rfl rfl rfl ?_
        refine X.iadd 226 i243_225 rfl rfl (by omega) ?_
        refine X.dup2 227 i243_226 rfl rfl ?_
        refine X.lald 228 i243_227 rfl rfl (by decide) rfl (by omega) ?_
        have h536 := r45_287 hJ535 4 (i := (287 + a1)) (by omega)
        refine X.iload 230 i243_228 rfl rfl rfl ?_
        refine X.ifeq 237 233 i243_230 rfl rfl rfl (fun h537 => ?_) (fun h537 => (by exfalso; omega))
        refine X.cut [(0, zr 4 44), (1, zi a1)] i243_237 rfl ?_
        refine X.lconst (y := 1) 238 i243_237 rfl rfl rfl ?_
        refine X.ladd 239 i243_238 rfl rfl (by omega) ?_
        refine X.last' 240 i243_239 rfl rfl (by decide) rfl (by omega) (fun hrm538 m538 hm538 => ?_)
        have hJ539 := w45_287 hJ535 hm538 (by omega) (by omega) hf21 hg4
        have wmm538_8 : m538 4 44 8 = m534 4 44 8 := by rw [hm538]; exact z_upd_o _ _ rfl
        have wmm538_9 : m538 4 44 9 = m534 4 44 9 := by rw [hm538]; exact z_upd_o _ _ rfl
        have wmm538_10 : m538 4 44 10 = m534 4 44 10 := by rw [hm538]; exact z_upd_o _ _ rfl
        refine X.aload_n 241 i243_240 rfl rfl rfl ?_
        refine X.getF 244 i243_241 rfl rfl (by decide) rfl rfl ?_
        refine X.sipush 247 i243_244 rfl rfl (by decide) ?_
        refine X.iload_n 248 i243_247 rfl rfl rfl ?_
        refine X.iadd 249 i243_248 rfl rfl (by omega) ?_
        refine X.lald 250 i243_249 rfl rfl (by decide) rfl (by omega) ?_
        have h540 := r45_287 hJ539 4 (i := (287 + a1)) (by omega)
        refine X.l2i 251 i243_250 rfl rfl (by omega) ?_
        refine X.reti i243_251 rfl t243 ?_
        exact hQ (m538 4 45 (287 + a1)) m538 (by first | trivial | omega) (Eq.trans hR531 (Eq.trans (zs_eq hm532) (Eq.trans (zs_eq hm534) (Eq.trans (zs_eq hm538) rfl)))) (hJ539.up (by omega)) (by omega) (by omega)
      · refine X.iconst 102 i243_101 rfl rfl (by decide) ?_
        refine X.reti i243_102 rfl t243 ?_
        exact hQ (-1) m (by first | trivial | omega) (Eq.trans hR506 (Eq.trans (if_neg h507) (Eq.trans (if_neg h525c) (Eq.trans (if_pos h527) rfl)))) (hJ.up (by omega)) (by omega) (by omega)
    · have h525c : (m 4 45 ((295 + (6 * a1)) + y502)) = a2 := by omega
      clear h525 hz524
      refine X.iconst 83 i243_82 rfl rfl (by decide) ?_
      refine X.goto 87 i243_83 rfl rfl ?_
      refine X.istore 89 [(0, zr 4 44), (1, zi a1), (2, zi a2), (3, zi a3), (4, zi (6 * a1)), (5, zi (m 4 45 (287 + a1))), (6, zi y502), (7, zi 1)] i243_87 rfl rfl rfl ?_
      refine X.iload 91 i243_89 rfl rfl rfl ?_
      refine X.ifne 103 94 i243_91 rfl rfl rfl (fun h541 => ?_) (fun h541 => (by exfalso; omega))
      refine X.iload 105 i243_103 rfl rfl rfl ?_
      refine X.istore 107 [(0, zr 4 44), (1, zi a1), (2, zi a2), (3, zi a3), (4, zi (6 * a1)), (5, zi (m 4 45 (287 + a1))), (6, zi y502), (7, zi 1), (8, zi (m 4 45 (287 + a1)))] i243_105 rfl rfl rfl ?_
      refine X.cut [(0, zr 4 44), (1, zi a1), (2, zi a2), (3, zi a3), (4, zi (6 * a1)), (6, zi y502), (7, zi 1), (8, zi (m 4 45 (287 + a1)))] i243_107 rfl ?_
      have hz7 := zfu_eq 7
      refine l243_107_2 (s := s) (d := d)  a1 a2 a3 (6 * a1) y502 1 (m 4 44 8) (m 4 44 9) (BE := B + 0) (by omega) (by omega) (by omega) (by omega) (by omega) (by omega) (by omega) (by omega) (fun  m542 B543 hJ544 hBB543 hrlm542_0 hrlm542_1 hrlm542_2 hR545 => ?_) (zfu 7) (m 4 45 (287 + a1)) m (B) (hJ.up (by omega)) (by omega) (by omega) (by omega) (by omega) (by omega) (by omega) (Eq.trans hR506 (Eq.trans (if_neg h507) (Eq.trans (if_pos h525c) rfl)))
      refine X.aload_n 186 i243_185 rfl rfl rfl ?_
      refine X.getF 189 i243_186 rfl rfl (by decide) rfl rfl ?_
      refine X.sipush 192 i243_189 rfl rfl (by decide) ?_
      refine X.iload 194 i243_192 rfl rfl rfl ?_
      refine X.iadd 195 i243_194 rfl rfl (by omega) ?_
      refine X.iload 197 i243_195 rfl rfl rfl ?_
      refine X.iadd 198 i243_197 rfl rfl (by omega) ?_
      refine X.iload_n 199 i243_198 rfl rfl rfl ?_
      refine X.i2l 200 i243_199 rfl rfl ?_
      refine X.last' 201 i243_200 rfl rfl (by decide) rfl (by omega) (fun hrm546 m546 hm546 => ?_)
      have hJ547 := w45_295 hJ544 hm546 (by omega) (by omega) hf21 hg4
      have wtm546_0 : m546 4 45 (287 + a1) = m542 4 45 (287 + a1) := by rw [hm546]; exact z_upd_i _ _ _ _ (by omega)
      have wmm546_8 : m546 4 44 8 = m542 4 44 8 := by rw [hm546]; exact z_upd_o _ _ rfl
      have wmm546_9 : m546 4 44 9 = m542 4 44 9 := by rw [hm546]; exact z_upd_o _ _ rfl
      have wmm546_10 : m546 4 44 10 = m542 4 44 10 := by rw [hm546]; exact z_upd_o _ _ rfl
      refine X.aload_n 202 i243_201 rfl rfl rfl ?_
      refine X.getF 205 i243_202 rfl rfl (by decide) rfl rfl ?_
      refine X.sipush 208 i243_205 rfl rfl (by decide) ?_
      refine X.iload 210 i243_208 rfl rfl rfl ?_
      refine X.iadd 211 i243_210 rfl rfl (by omega) ?_
      refine X.iload 213 i243_211 rfl rfl rfl ?_
      refine X.iadd 214 i243_213 rfl rfl (by omega) ?_
      refine X.iload_n 215 i243_214 rfl rfl rfl ?_
      refine X.i2l 216 i243_215 rfl rfl ?_
      refine X.last' 217 i243_216 rfl rfl (by decide) rfl (by omega) (fun hrm548 m548 hm548 => ?_)
      have hJ549 := w45_343 hJ547 hm548 (by omega) (by omega) hf21 hg4
      have wtm548_0 : m548 4 45 (287 + a1) = m546 4 45 (287 + a1) := by rw [hm548]; exact z_upd_i _ _ _ _ (by omega)
      have wmm548_8 : m548 4 44 8 = m546 4 44 8 := by rw [hm548]; exact z_upd_o _ _ rfl
      have wmm548_9 : m548 4 44 9 = m546 4 44 9 := by rw [hm548]; exact z_upd_o _ _ rfl
      have wmm548_10 : m548 4 44 10 = m546 4 44 10 := by rw [hm548]; exact z_upd_o _ _ rfl
      refine X.aload_n 218 i243_217 rfl rfl rfl ?_
      refine X.getF 221 i243_218 rfl rfl (by decide) rfl rfl ?_
      refine X.sipush 224 i243_221 rfl rfl (by decide) ?_
      refine X.iload_n 225 i243_224 rfl rfl rfl ?_
      refine X.iadd 226 i243_225 rfl rfl (by omega) ?_
      refine X.dup2 227 i243_226 rfl rfl ?_
      refine X.lald 228 i243_227 rfl rfl (by decide) rfl (by omega) ?_
      have h550 := r45_287 hJ549 4 (i := (287 + a1)) (by omega)
      refine X.iload 230 i243_228 rfl rfl rfl ?_
      refine X.ifeq 237 233 i243_230 rfl rfl rfl (fun h551 => (by exfalso; omega)) (fun h551 => ?_)
      refine X.lconst (y := 0) 234 i243_233 rfl rfl rfl ?_
      refine X.goto 238 i243_234 rfl rfl ?_
      refine X.cut [(0, zr 4 44), (1, zi a1)] i243_238 rfl ?_
      refine X.ladd 239 i243_238 rfl rfl (by omega) ?_
      refine X.last' 240 i243_239 rfl rfl (by decide) rfl (by omega) (fun hrm552 m552 hm552 => ?_)
      have hJ553 := w45_287 hJ549 hm552 (by omega) (by omega) hf21 hg4
      have wmm552_8 : m552 4 44 8 = m548 4 44 8 := by rw [hm552]; exact z_upd_o _ _ rfl
      have wmm552_9 : m552 4 44 9 = m548 4 44 9 := by rw [hm552]; exact z_upd_o _ _ rfl
      have wmm552_10 : m552 4 44 10 = m548 4 44 10 := by rw [hm552]; exact z_upd_o _ _ rfl
      refine X.aload_n 241 i243_240 rfl rfl rfl ?_
      refine X.getF 244 i243_241 rfl rfl (by decide) rfl rfl ?_
      refine X.sipush 247 i243_244 rfl rfl (by decide) ?_
      refine X.iload_n 248 i243_247 rfl rfl rfl ?_
      refine X.iadd 249 i243_248 rfl rfl (by omega) ?_
      refine X.lald 250 i243_249 rfl rfl (by decide) rfl (by omega) ?_
      have h554 := r45_287 hJ553 4 (i := (287 + a1)) (by omega)
      refine X.l2i 251 i243_250 rfl rfl (by omega) ?_
      refine X.reti i243_251 rfl t243 ?_
      exact hQ (m552 4 45 (287 + a1)) m552 (by first | trivial | omega) (Eq.trans hR545 (Eq.trans (zs_eq hm546) (Eq.trans (zs_eq hm548) (Eq.trans (zs_eq hm552) rfl)))) (hJ553.up (by omega)) (by omega) (by omega)
-- WorkMeterModel.table
noncomputable def f240_1 (a1 a2 a3 : Int) (m : zM) : Int × zM :=
  zb (f203_1 m) fun v503 m501 =>
  if v503 = 0 then
  (if a1 < 0 then
  (((-1), m501))
  else
  (if a1 ≤ 7 then
  (if a2 < 0 then
  (((-1), m501))
  else
  (if a2 ≤ 86399 then
  (if a3 < 0 then
  (((-1), m501))
  else
  (if a3 ≤ 3 then
  (zb (f243_1 a1 a2 a3 m501) fun v528 m526 =>
  (v528, m526))
  else
  (((-1), m501))))
  else
  (((-1), m501))))
  else
  (((-1), m501))))
  else
  (((-1), m501))
-- WorkMeterModel.table
theorem c240_1 {s : Nat × (Nat → Int32)} {S : zS} {m0 m : zM} {B : Int} {d : Nat} {Q : Option zV → zM → Prop} (a1 a2 a3 : Int) (hd : 14 ≤ d) (hJ : J S m0 B m) (hB : B + 0 ≤ 1000000000) (ha1 : (-2147483648) ≤ a1 ∧ a1 ≤ 2147483647) (ha2 : (-2147483648) ≤ a2 ∧ a2 ≤ 2147483647) (ha3 : (-2147483648) ≤ a3 ∧ a3 ≤ 2147483647) (hf21 : ¬ S.1 21) (hf24 : ¬ S.1 24) (hg4 : ¬ S.2.1 4) (hQ : ∀ (v : Int) m', ((-1) ≤ v ∧ v ≤ 6) → f240_1 a1 a2 a3 m = (v, m') → J S m0 (B) m' → Q (some (zi v)) m') : X (EE s) d 240 0 [(0, zr 4 44), (1, zi a1), (2, zi a2), (3, zi a3)] [] m Q := by
  refine X.aload_n 1 i240_0 rfl rfl rfl ?_
  refine X.callv 4 [] [] [(0, zr 4 44)] i240_1 rfl (by decide) rfl rfl (by omega) rfl rfl (by decide) rfl t203 (Nat.le_of_ble_eq_true rfl) (Nat.le_of_ble_eq_true rfl) rfl ?_
  refine c203_1 (B := B)   (by omega) (hJ.up (by omega)) (by omega)  hf24 hg4 (fun v503 m501 hv503 hFv503 hJ502 => ?_)
  show X (EE s) d 240 4 [(0, zr 4 44), (1, zi a1), (2, zi a2), (3, zi a3)] [zi v503] m501 _
  refine X.ifne 33 7 i240_4 rfl rfl rfl (fun h504 => ?_) (fun h504 => ?_)
  · refine X.cut [] i240_33 rfl ?_
    refine X.iconst 34 i240_33 rfl rfl (by decide) ?_
    refine X.reti i240_34 rfl t240 ?_
    exact hQ (-1) m501 (by first | trivial | omega) (Eq.trans (zb_eq hFv503) (Eq.trans (if_neg h504) rfl)) (hJ502.up (by omega)) 
  · refine X.iload_n 8 i240_7 rfl rfl rfl ?_
    refine X.calls 11 [zi a1] [] [(0, zi a1)] i240_8 (by decide) rfl rfl (by omega) rfl rfl t241 (Nat.le_of_ble_eq_true rfl) (Nat.le_of_ble_eq_true rfl) rfl ?_
    refine X.iload_n 1 i241_0 rfl rfl rfl ?_
    refine X.i2l 2 i241_1 rfl rfl ?_
    refine X.lconst (y := 0) 3 i241_2 rfl rfl rfl ?_
    refine X.ldc2 6 i241_3 rfl rfl (by decide) ?_
    refine X.calls 9 [zl a1, zl 0, zl 7] [] [(0, zl a1), (2, zl 0), (4, zl 7)] i241_6 (by decide) rfl rfl (by omega) rfl rfl t204 (Nat.le_of_ble_eq_true rfl) (Nat.le_of_ble_eq_true rfl) rfl ?_
    refine X.lload_n 1 i204_0 rfl rfl rfl ?_
    refine X.lload_n 2 i204_1 rfl rfl rfl ?_
    refine X.lcmp 3 i204_2 rfl rfl (fun z505 hz505 => ?_)
    refine X.iflt 17 6 i204_3 rfl rfl rfl (fun h506 => ?_) (fun h506 => ?_)
    · have h506c : a1 < 0 := by omega
      clear h506 hz505
      refine X.cut [] i204_17 rfl ?_
      refine X.iconst 18 i204_17 rfl rfl (by decide) ?_
      refine X.retz i204_18 rfl t204 (by omega) ?_
      show X (EE s) (d - 1) 241 9 [(0, zi a1)] [zi 0] m501 _
      refine X.retz i241_9 rfl t241 (by omega) ?_
      show X (EE s) d 240 11 [(0, zr 4 44), (1, zi a1), (2, zi a2), (3, zi a3)] [zi 0] m501 _
      refine X.ifeq 33 14 i240_11 rfl rfl rfl (fun h507 => ?_) (fun h507 => (by exfalso; omega))
      refine X.cut [] i240_33 rfl ?_
      refine X.iconst 34 i240_33 rfl rfl (by decide) ?_
      refine X.reti i240_34 rfl t240 ?_
      exact hQ (-1) m501 (by first | trivial | omega) (Eq.trans (zb_eq hFv503) (Eq.trans (if_pos h504) (Eq.trans (if_pos h506c) rfl))) (hJ502.up (by omega)) 
    · have h506c : ¬ a1 < 0 := by omega
      clear h506 hz505
      refine X.lload_n 7 i204_6 rfl rfl rfl ?_
      refine X.lload 9 i204_7 rfl rfl rfl ?_
      refine X.lcmp 10 i204_9 rfl rfl (fun z508 hz508 => ?_)
      refine X.ifgt 17 13 i204_10 rfl rfl rfl (fun h509 => ?_) (fun h509 => ?_)
      · have h509c : ¬ a1 ≤ 7 := by omega
        clear h509 hz508
        refine X.cut [] i204_17 rfl ?_
        refine X.iconst 18 i204_17 rfl rfl (by decide) ?_
        refine X.retz i204_18 rfl t204 (by omega) ?_
        show X (EE s) (d - 1) 241 9 [(0, zi a1)] [zi 0] m501 _
        refine X.retz i241_9 rfl t241 (by omega) ?_
        show X (EE s) d 240 11 [(0, zr 4 44), (1, zi a1), (2, zi a2), (3, zi a3)] [zi 0] m501 _
        refine X.ifeq 33 14 i240_11 rfl rfl rfl (fun h510 => ?_) (fun h510 => (by exfalso; omega))
        refine X.cut [] i240_33 rfl ?_
        refine X.iconst 34 i240_33 rfl rfl (by decide) ?_
        refine X.reti i240_34 rfl t240 ?_
        exact hQ (-1) m501 (by first | trivial | omega) (Eq.trans (zb_eq hFv503) (Eq.trans (if_pos h504) (Eq.trans (if_neg h506c) (Eq.trans (if_neg h509c) rfl)))) (hJ502.up (by omega)) 
      · have h509c : a1 ≤ 7 := by omega
        clear h509 hz508
        refine X.iconst 14 i204_13 rfl rfl (by decide) ?_
        refine X.goto 18 i204_14 rfl rfl ?_
        refine X.cut [] i204_18 rfl ?_
        refine X.retz i204_18 rfl t204 (by omega) ?_
        show X (EE s) (d - 1) 241 9 [(0, zi a1)] [zi 1] m501 _
        refine X.retz i241_9 rfl t241 (by omega) ?_
        show X (EE s) d 240 11 [(0, zr 4 44), (1, zi a1), (2, zi a2), (3, zi a3)] [zi 1] m501 _
        refine X.ifeq 33 14 i240_11 rfl rfl rfl (fun h511 => (by exfalso; omega)) (fun h511 => ?_)
        refine X.iload_n 15 i240_14 rfl rfl rfl ?_
        refine X.i2l 16 i240_15 rfl rfl ?_
        refine X.lconst (y := 0) 17 i240_16 rfl rfl rfl ?_
        refine X.ldc2 20 i240_17 rfl rfl (by decide) ?_
        refine X.calls 23 [zl a2, zl 0, zl 86399] [] [(0, zl a2), (2, zl 0), (4, zl 86399)] i240_20 (by decide) rfl rfl (by omega) rfl rfl t204 (Nat.le_of_ble_eq_true rfl) (Nat.le_of_ble_eq_true rfl) rfl ?_
        refine X.lload_n 1 i204_0 rfl rfl rfl ?_
        refine X.lload_n 2 i204_1 rfl rfl rfl ?_
        refine X.lcmp 3 i204_2 rfl rfl (fun z512 hz512 => ?_)
        refine X.iflt 17 6 i204_3 rfl rfl rfl (fun h513 => ?_) (fun h513 => ?_)
        · have h513c : a2 < 0 := by omega
          clear h513 hz512
          refine X.cut [] i204_17 rfl ?_
          refine X.iconst 18 i204_17 rfl rfl (by decide) ?_
          refine X.retz i204_18 rfl t204 (by omega) ?_
          show X (EE s) d 240 23 [(0, zr 4 44), (1, zi a1), (2, zi a2), (3, zi a3)] [zi 0] m501 _
          refine X.ifeq 33 26 i240_23 rfl rfl rfl (fun h514 => ?_) (fun h514 => (by exfalso; omega))
          refine X.cut [] i240_33 rfl ?_
          refine X.iconst 34 i240_33 rfl rfl (by decide) ?_
          refine X.reti i240_34 rfl t240 ?_
          exact hQ (-1) m501 (by first | trivial | omega) (Eq.trans (zb_eq hFv503) (Eq.trans (if_pos h504) (Eq.trans (if_neg h506c) (Eq.trans (if_pos h509c) (Eq.trans (if_pos h513c) rfl))))) (hJ502.up (by omega)) 
        · have h513c : ¬ a2 < 0 := by omega
          clear h513 hz512
          refine X.lload_n 7 i204_6 rfl rfl rfl ?_
          refine X.lload 9 i204_7 rfl rfl rfl ?_
          refine X.lcmp 10 i204_9 rfl rfl (fun z515 hz515 => ?_)
          refine X.ifgt 17 13 i204_10 rfl rfl rfl (fun h516 => ?_) (fun h516 => ?_)
          · have h516c : ¬ a2 ≤ 86399 := by omega
            clear h516 hz515
            refine X.cut [] i204_17 rfl ?_
            refine X.iconst 18 i204_17 rfl rfl (by decide) ?_
            refine X.retz i204_18 rfl t204 (by omega) ?_
            show X (EE s) d 240 23 [(0, zr 4 44), (1, zi a1), (2, zi a2), (3, zi a3)] [zi 0] m501 _
            refine X.ifeq 33 26 i240_23 rfl rfl rfl (fun h517 => ?_) (fun h517 => (by exfalso; omega))
            refine X.cut [] i240_33 rfl ?_
            refine X.iconst 34 i240_33 rfl rfl (by decide) ?_
            refine X.reti i240_34 rfl t240 ?_
            exact hQ (-1) m501 (by first | trivial | omega) (Eq.trans (zb_eq hFv503) (Eq.trans (if_pos h504) (Eq.trans (if_neg h506c) (Eq.trans (if_pos h509c) (Eq.trans (if_neg h513c) (Eq.trans (if_neg h516c) rfl)))))) (hJ502.up (by omega)) 
          · have h516c : a2 ≤ 86399 := by omega
            clear h516 hz515
            refine X.iconst 14 i204_13 rfl rfl (by decide) ?_
            refine X.goto 18 i204_14 rfl rfl ?_
            refine X.cut [] i204_18 rfl ?_
            refine X.retz i204_18 rfl t204 (by omega) ?_
            show X (EE s) d 240 23 [(0, zr 4 44), (1, zi a1), (2, zi a2), (3, zi a3)] [zi 1] m501 _
            refine X.ifeq 33 26 i240_23 rfl rfl rfl (fun h518 => (by exfalso; omega)) (fun h518 => ?_)
            refine X.iload_n 27 i240_26 rfl rfl rfl ?_
            refine X.calls 30 [zi a3] [] [(0, zi a3)] i240_27 (by decide) rfl rfl (by omega) rfl rfl t242 (Nat.le_of_ble_eq_true rfl) (Nat.le_of_ble_eq_true rfl) rfl ?_
            refine X.iload_n 1 i242_0 rfl rfl rfl ?_
            refine X.i2l 2 i242_1 rfl rfl ?_
            refine X.lconst (y := 0) 3 i242_2 rfl rfl rfl ?_
            refine X.ldc2 6 i242_3 rfl rfl (by decide) ?_
            refine X.calls 9 [zl a3, zl 0, zl 3] [] [(0, zl a3), (2, zl 0), (4, zl 3)] i242_6 (by decide) rfl rfl (by omega) rfl rfl t204 (Nat.le_of_ble_eq_true rfl) (Nat.le_of_ble_eq_true rfl) rfl ?_
            refine X.lload_n 1 i204_0 rfl rfl rfl ?_
            refine X.lload_n 2 i204_1 rfl rfl rfl ?_
            refine X.lcmp 3 i204_2 rfl rfl (fun z519 hz519 => ?_)
            refine X.iflt 17 6 i204_3 rfl rfl rfl (fun h520 => ?_) (fun h520 => ?_)
            · have h520c : a3 < 0 := by omega
              clear h520 hz519
              refine X.cut [] i204_17 rfl ?_
              refine X.iconst 18 i204_17 rfl rfl (by decide) ?_
              refine X.retz i204_18 rfl t204 (by omega) ?_
              show X (EE s) (d - 1) 242 9 [(0, zi a3)] [zi 0] m501 _
              refine X.retz i242_9 rfl t242 (by omega) ?_
              show X (EE s) d 240 30 [(0, zr 4 44), (1, zi a1), (2, zi a2), (3, zi a3)] [zi 0] m501 _
              refine X.ifne 35 33 i240_30 rfl rfl rfl (fun h521 => (by exfalso; omega)) (fun h521 => ?_)
              refine X.cut [] i240_33 rfl ?_
              refine X.iconst 34 i240_33 rfl rfl (by decide) ?_
              refine X.reti i240_34 rfl t240 ?_
              exact hQ (-1) m501 (by first | trivial | omega) (Eq.trans (zb_eq hFv503) (Eq.trans (if_pos h504) (Eq.trans (if_neg h506c) (Eq.trans (if_pos h509c) (Eq.trans (if_neg h513c) (Eq.trans (if_pos h516c) (Eq.trans (if_pos h520c) rfl))))))) (hJ502.up (by omega)) 
            · have h520c : ¬ a3 < 0 := by omega
              clear h520 hz519
              refine X.lload_n 7 i204_6 rfl rfl rfl ?_
              refine X.lload 9 i204_7 rfl rfl rfl ?_
              refine X.lcmp 10 i204_9 rfl rfl (fun z522 hz522 => ?_)
              refine X.ifgt 17 13 i204_10 rfl rfl rfl (fun h523 => ?_) (fun h523 => ?_)
              · have h523c : ¬ a3 ≤ 3 := by omega
                clear h523 hz522
                refine X.cut [] i204_17 rfl ?_
                refine X.iconst 18 i204_17 rfl rfl (by decide) ?_
                refine X.retz i204_18 rfl t204 (by omega) ?_
                show X (EE s) (d - 1) 242 9 [(0, zi a3)] [zi 0] m501 _
                refine X.retz i242_9 rfl t242 (by omega) ?_
                show X (EE s) d 240 30 [(0, zr 4 44), (1, zi a1), (2, zi a2), (3, zi a3)] [zi 0] m501 _
                refine X.ifne 35 33 i240_30 rfl rfl rfl (fun h524 => (by exfalso; omega)) (fun h524 => ?_)
                refine X.cut [] i240_33 rfl ?_
                refine X.iconst 34 i240_33 rfl rfl (by decide) ?_
                refine X.reti i240_34 rfl t240 ?_
                exact hQ (-1) m501 (by first | trivial | omega) (Eq.trans (zb_eq hFv503) (Eq.trans (if_pos h504) (Eq.trans (if_neg h506c) (Eq.trans (if_pos h509c) (Eq.trans (if_neg h513c) (Eq.trans (if_pos h516c) (Eq.trans (if_neg h520c) (Eq.trans (if_neg h523c) rfl)))))))) (hJ502.up (by omega)) 
              · have h523c : a3 ≤ 3 := by omega
                clear h523 hz522
                refine X.iconst 14 i204_13 rfl rfl (by decide) ?_
                refine X.goto 18 i204_14 rfl rfl ?_
                refine X.cut [] i204_18 rfl ?_
                refine X.retz i204_18 rfl t204 (by omega) ?_
                show X (EE s) (d - 1) 242 9 [(0, zi a3)] [zi 1] m501 _
                refine X.retz i242_9 rfl t242 (by omega) ?_
                show X (EE s) d 240 30 [(0, zr 4 44), (1, zi a1), (2, zi a2), (3, zi a3)] [zi 1] m501 _
                refine X.ifne 35 33 i240_30 rfl rfl rfl (fun h525 => ?_) (fun h525 => (by exfalso; omega))
                refine X.aload_n 36 i240_35 rfl rfl rfl ?_
                refine X.iload_n 37 i240_36 rfl rfl rfl ?_
                refine X.iload_n 38 i240_37 rfl rfl rfl ?_
                refine X.iload_n 39 i240_38 rfl rfl rfl ?_
                refine X.callv 42 [zi a1, zi a2, zi a3] [] [(0, zr 4 44), (1, zi a1), (2, zi a2), (3, zi a3)] i240_39 rfl (by decide) rfl rfl (by omega) rfl rfl (by decide) rfl t243 (Nat.le_of_ble_eq_true rfl) (Nat.le_of_ble_eq_true rfl) rfl ?_
                refine c243_1 (B := B)  a1 a2 a3 (by omega) (hJ502.up (by omega)) (by omega) (by omega) (by omega) (by omega) hf21 hg4 (fun v528 m526 hv528 hFv528 hJ527 hqv528_0 hqv528_1 => ?_)
                show X (EE s) d 240 42 [(0, zr 4 44), (1, zi a1), (2, zi a2), (3, zi a3)] [zi v528] m526 _
                refine X.reti i240_42 rfl t240 ?_
                exact hQ v528 m526 (by first | trivial | omega) (Eq.trans (zb_eq hFv503) (Eq.trans (if_pos h504) (Eq.trans (if_neg h506c) (Eq.trans (if_pos h509c) (Eq.trans (if_neg h513c) (Eq.trans (if_pos h516c) (Eq.trans (if_neg h520c) (Eq.trans (if_pos h523c) (Eq.trans (zb_eq hFv528) rfl))))))))) (hJ527.up (by omega)) 
-- WorkMeter$Calendar.dropSwitches
noncomputable def f84_1 (g0 : Nat) (a1 : Int) (m : zM) : Int × zM :=
  zs (z_upd m g0 12 a1 0) fun m502 =>
  ((m g0 12 a1), m502)
-- WorkMeter$Calendar.dropSwitches
theorem c84_1 {s : Nat × (Nat → Int32)} {S : zS} {m0 m : zM} {B : Int} {d : Nat} {Q : Option zV → zM → Prop} (g0 : Nat) (a1 : Int) (hd : 13 ≤ d) (hJ : J S m0 B m) (hB : B + 0 ≤ 1000000000) (ha1 : 0 ≤ a1 ∧ a1 ≤ 7) (hf1 : ¬ S.1 1) (hgg0 : ¬ S.2.1 g0) (hQ : ∀ (v : Int) m', (0 ≤ v ∧ v ≤ 6) → f84_1 g0 a1 m = (v, m') → J S m0 (B) m' → Q (some (zi v)) m') : X (EE s) d 84 0 [(0, zr g0 11), (1, zi a1)] [] m Q := by
  refine X.aload_n 1 i84_0 rfl rfl rfl ?_
  refine X.getR 4 i84_1 rfl rfl (by decide) rfl rfl ?_
  refine X.iload_n 5 i84_4 rfl rfl rfl ?_
  refine X.iald 6 i84_5 rfl rfl (by decide) rfl (by omega) ?_
  have h501 := r12_0 hJ g0 (i := a1) (by omega)
  refine X.istore_n 7 [(0, zr g0 11), (1, zi a1), (2, zi (m g0 12 a1))] i84_6 rfl rfl rfl ?_
  refine X.aload_n 8 i84_7 rfl rfl rfl ?_
  refine X.getR 11 i84_8 rfl rfl (by decide) rfl rfl ?_
  refine X.iload_n 12 i84_11 rfl rfl rfl ?_
  refine X.iconst 13 i84_12 rfl rfl (by decide) ?_
  refine X.iast' 14 i84_13 rfl rfl (by decide) rfl (by omega) (fun hrm502 m502 hm502 => ?_)
  have hJ503 := w12_0 hJ hm502 (by omega) (by omega) hf1 hgg0
  refine X.iload_n 15 i84_14 rfl rfl rfl ?_
  refine X.reti i84_15 rfl t84 ?_
  exact hQ (m g0 12 a1) m502 (by first | trivial | omega) (Eq.trans (zs_eq hm502) rfl) (hJ503.up (by omega)) 
-- WorkMeter.wipe
noncomputable def f83_1 (a1 : Int) (m : zM) : Int × zM :=
  zb (f17_1 0 m) fun v503 m501 =>
  if v503 = 0 then
  (if a1 < 0 then
  (((-1), m501))
  else
  (if 8 ≤ a1 then
  (((-1), m501))
  else
  (zb (f84_1 0 a1 m501) fun v512 m510 =>
  (v512, m510))))
  else
  (((-1), m501))
-- WorkMeter.wipe
theorem c83_1 {s : Nat × (Nat → Int32)} {S : zS} {m0 m : zM} {B : Int} {d : Nat} {Q : Option zV → zM → Prop} (a1 : Int) (hd : 14 ≤ d) (hJ : J S m0 B m) (hB : B + 0 ≤ 1000000000) (ha1 : (-2147483648) ≤ a1 ∧ a1 ≤ 2147483647) (hf1 : ¬ S.1 1) (hf4 : ¬ S.1 4) (hg0 : ¬ S.2.1 0) (hQ : ∀ (v : Int) m', ((-1) ≤ v ∧ v ≤ 6) → f83_1 a1 m = (v, m') → J S m0 (B) m' → Q (some (zi v)) m') : X (EE s) d 83 0 [(0, zr 4 40), (1, zi a1)] [] m Q := by
  refine X.aload_n 1 i83_0 rfl rfl rfl ?_
  refine X.getF 4 i83_1 rfl rfl (by decide) rfl rfl ?_
  refine X.getR 7 i83_4 rfl rfl (by decide) rfl rfl ?_
  refine X.callv 10 [] [] [(0, zr 0 39)] i83_7 rfl (by decide) rfl rfl (by omega) rfl rfl (by decide) rfl t17 (Nat.le_of_ble_eq_true rfl) (Nat.le_of_ble_eq_true rfl) rfl ?_
  refine c17_1 (B := B) 0  (by omega) (hJ.up (by omega)) (by omega)  hf4 hg0 (fun v503 m501 hv503 hFv503 hJ502 => ?_)
  show X (EE s) d 83 10 [(0, zr 4 40), (1, zi a1)] [zi v503] m501 _
  refine X.ifne 20 13 i83_10 rfl rfl rfl (fun h504 => ?_) (fun h504 => ?_)
  · refine X.cut [] i83_20 rfl ?_
    refine X.iconst 21 i83_20 rfl rfl (by decide) ?_
    refine X.reti i83_21 rfl t83 ?_
    exact hQ (-1) m501 (by first | trivial | omega) (Eq.trans (zb_eq hFv503) (Eq.trans (if_neg h504) rfl)) (hJ502.up (by omega)) 
  · refine X.iload_n 14 i83_13 rfl rfl rfl ?_
    refine X.calls 17 [zi a1] [] [(0, zi a1)] i83_14 (by decide) rfl rfl (by omega) rfl rfl t79 (Nat.le_of_ble_eq_true rfl) (Nat.le_of_ble_eq_true rfl) rfl ?_
    refine X.iload_n 1 i79_0 rfl rfl rfl ?_
    refine X.iflt 14 4 i79_1 rfl rfl rfl (fun h505 => ?_) (fun h505 => ?_)
    · refine X.cut [] i79_14 rfl ?_
      refine X.iconst 15 i79_14 rfl rfl (by decide) ?_
      refine X.retz i79_15 rfl t79 (by omega) ?_
      show X (EE s) d 83 17 [(0, zr 4 40), (1, zi a1)] [zi 0] m501 _
      refine X.ifne 22 20 i83_17 rfl rfl rfl (fun h506 => (by exfalso; omega)) (fun h506 => ?_)
      refine X.cut [] i83_20 rfl ?_
      refine X.iconst 21 i83_20 rfl rfl (by decide) ?_
      refine X.reti i83_21 rfl t83 ?_
      exact hQ (-1) m501 (by first | trivial | omega) (Eq.trans (zb_eq hFv503) (Eq.trans (if_pos h504) (Eq.trans (if_pos h505) rfl))) (hJ502.up (by omega)) 
    · refine X.iload_n 5 i79_4 rfl rfl rfl ?_
      refine X.bipush 7 i79_5 rfl rfl (by decide) ?_
      refine X.icmpge 14 10 i79_7 rfl rfl rfl (fun h507 => ?_) (fun h507 => ?_)
      · refine X.cut [] i79_14 rfl ?_
        refine X.iconst 15 i79_14 rfl rfl (by decide) ?_
        refine X.retz i79_15 rfl t79 (by omega) ?_
        show X (EE s) d 83 17 [(0, zr 4 40), (1, zi a1)] [zi 0] m501 _
        refine X.ifne 22 20 i83_17 rfl rfl rfl (fun h508 => (by exfalso; omega)) (fun h508 => ?_)
        refine X.cut [] i83_20 rfl ?_
        refine X.iconst 21 i83_20 rfl rfl (by decide) ?_
        refine X.reti i83_21 rfl t83 ?_
        exact hQ (-1) m501 (by first | trivial | omega) (Eq.trans (zb_eq hFv503) (Eq.trans (if_pos h504) (Eq.trans (if_neg h505) (Eq.trans (if_pos h507) rfl)))) (hJ502.up (by omega)) 
      · refine X.iconst 11 i79_10 rfl rfl (by decide) ?_
        refine X.goto 15 i79_11 rfl rfl ?_
        refine X.cut [] i79_15 rfl ?_
        refine X.retz i79_15 rfl t79 (by omega) ?_
        show X (EE s) d 83 17 [(0, zr 4 40), (1, zi a1)] [zi 1] m501 _
        refine X.ifne 22 20 i83_17 rfl rfl rfl (fun h509 => ?_) (fun h509 => (by exfalso; omega))
        refine X.aload_n 23 i83_22 rfl rfl rfl ?_
        refine X.getF 26 i83_23 rfl rfl (by decide) rfl rfl ?_
        refine X.getR 29 i83_26 rfl rfl (by decide) rfl rfl ?_
        refine X.iload_n 30 i83_29 rfl rfl rfl ?_
        refine X.callv 33 [zi a1] [] [(0, zr 0 11), (1, zi a1)] i83_30 rfl (by decide) rfl rfl (by omega) rfl rfl (by decide) rfl t84 (Nat.le_of_ble_eq_true rfl) (Nat.le_of_ble_eq_true rfl) rfl ?_
        refine c84_1 (B := B) 0 a1 (by omega) (hJ502.up (by omega)) (by omega) (by omega) hf1 hg0 (fun v512 m510 hv512 hFv512 hJ511 => ?_)
        show X (EE s) d 83 33 [(0, zr 4 40), (1, zi a1)] [zi v512] m510 _
        refine X.reti i83_33 rfl t83 ?_
        exact hQ v512 m510 (by first | trivial | omega) (Eq.trans (zb_eq hFv503) (Eq.trans (if_pos h504) (Eq.trans (if_neg h505) (Eq.trans (if_neg h507) (Eq.trans (zb_eq hFv512) rfl))))) (hJ511.up (by omega)) 
-- WorkMeterModel.wipe
noncomputable def f244_1 (a1 : Int) (m : zM) : Int × zM :=
  zb (f203_1 m) fun v503 m501 =>
  if v503 = 0 then
  (if a1 < 0 then
  (((-1), m501))
  else
  (if a1 ≤ 7 then
  (zs (z_upd m501 4 45 (287 + a1) 0) fun m513 =>
  ((m501 4 45 (287 + a1)), m513))
  else
  (((-1), m501))))
  else
  (((-1), m501))
-- WorkMeterModel.wipe
theorem c244_1 {s : Nat × (Nat → Int32)} {S : zS} {m0 m : zM} {B : Int} {d : Nat} {Q : Option zV → zM → Prop} (a1 : Int) (hd : 14 ≤ d) (hJ : J S m0 B m) (hB : B + 0 ≤ 1000000000) (ha1 : (-2147483648) ≤ a1 ∧ a1 ≤ 2147483647) (hf21 : ¬ S.1 21) (hf24 : ¬ S.1 24) (hg4 : ¬ S.2.1 4) (hQ : ∀ (v : Int) m', ((-1) ≤ v ∧ v ≤ 6) → f244_1 a1 m = (v, m') → J S m0 (B) m' → Q (some (zi v)) m') : X (EE s) d 244 0 [(0, zr 4 44), (1, zi a1)] [] m Q := by
  refine X.aload_n 1 i244_0 rfl rfl rfl ?_
  refine X.callv 4 [] [] [(0, zr 4 44)] i244_1 rfl (by decide) rfl rfl (by omega) rfl rfl (by decide) rfl t203 (Nat.le_of_ble_eq_true rfl) (Nat.le_of_ble_eq_true rfl) rfl ?_
  refine c203_1 (B := B)   (by omega) (hJ.up (by omega)) (by omega)  hf24 hg4 (fun v503 m501 hv503 hFv503 hJ502 => ?_)
  show X (EE s) d 244 4 [(0, zr 4 44), (1, zi a1)] [zi v503] m501 _
  refine X.ifne 14 7 i244_4 rfl rfl rfl (fun h504 => ?_) (fun h504 => ?_)
  · refine X.cut [] i244_14 rfl ?_
    refine X.iconst 15 i244_14 rfl rfl (by decide) ?_
    refine X.reti i244_15 rfl t244 ?_
    exact hQ (-1) m501 (by first | trivial | omega) (Eq.trans (zb_eq hFv503) (Eq.trans (if_neg h504) rfl)) (hJ502.up (by omega)) 
  · refine X.iload_n 8 i244_7 rfl rfl rfl ?_
    refine X.calls 11 [zi a1] [] [(0, zi a1)] i244_8 (by decide) rfl rfl (by omega) rfl rfl t241 (Nat.le_of_ble_eq_true rfl) (Nat.le_of_ble_eq_true rfl) rfl ?_
    refine X.iload_n 1 i241_0 rfl rfl rfl ?_
    refine X.i2l 2 i241_1 rfl rfl ?_
    refine X.lconst (y := 0) 3 i241_2 rfl rfl rfl ?_
    refine X.ldc2 6 i241_3 rfl rfl (by decide) ?_
    refine X.calls 9 [zl a1, zl 0, zl 7] [] [(0, zl a1), (2, zl 0), (4, zl 7)] i241_6 (by decide) rfl rfl (by omega) rfl rfl t204 (Nat.le_of_ble_eq_true rfl) (Nat.le_of_ble_eq_true rfl) rfl ?_
    refine X.lload_n 1 i204_0 rfl rfl rfl ?_
    refine X.lload_n 2 i204_1 rfl rfl rfl ?_
    refine X.lcmp 3 i204_2 rfl rfl (fun z505 hz505 => ?_)
    refine X.iflt 17 6 i204_3 rfl rfl rfl (fun h506 => ?_) (fun h506 => ?_)
    · have h506c : a1 < 0 := by omega
      clear h506 hz505
      refine X.cut [] i204_17 rfl ?_
      refine X.iconst 18 i204_17 rfl rfl (by decide) ?_
      refine X.retz i204_18 rfl t204 (by omega) ?_
      show X (EE s) (d - 1) 241 9 [(0, zi a1)] [zi 0] m501 _
      refine X.retz i241_9 rfl t241 (by omega) ?_
      show X (EE s) d 244 11 [(0, zr 4 44), (1, zi a1)] [zi 0] m501 _
      refine X.ifne 16 14 i244_11 rfl rfl rfl (fun h507 => (by exfalso; omega)) (fun h507 => ?_)
      refine X.cut [] i244_14 rfl ?_
      refine X.iconst 15 i244_14 rfl rfl (by decide) ?_
      refine X.reti i244_15 rfl t244 ?_
      exact hQ (-1) m501 (by first | trivial | omega) (Eq.trans (zb_eq hFv503) (Eq.trans (if_pos h504) (Eq.trans (if_pos h506c) rfl))) (hJ502.up (by omega)) 
    · have h506c : ¬ a1 < 0 := by omega
      clear h506 hz505
      refine X.lload_n 7 i204_6 rfl rfl rfl ?_
      refine X.lload 9 i204_7 rfl rfl rfl ?_
      refine X.lcmp 10 i204_9 rfl rfl (fun z508 hz508 => ?_)
      refine X.ifgt 17 13 i204_10 rfl rfl rfl (fun h509 => ?_) (fun h509 => ?_)
      · have h509c : ¬ a1 ≤ 7 := by omega
        clear h509 hz508
        refine X.cut [] i204_17 rfl ?_
        refine X.iconst 18 i204_17 rfl rfl (by decide) ?_
        refine X.retz i204_18 rfl t204 (by omega) ?_
        show X (EE s) (d - 1) 241 9 [(0, zi a1)] [zi 0] m501 _
        refine X.retz i241_9 rfl t241 (by omega) ?_
        show X (EE s) d 244 11 [(0, zr 4 44), (1, zi a1)] [zi 0] m501 _
        refine X.ifne 16 14 i244_11 rfl rfl rfl (fun h510 => (by exfalso; omega)) (fun h510 => ?_)
        refine X.cut [] i244_14 rfl ?_
        refine X.iconst 15 i244_14 rfl rfl (by decide) ?_
        refine X.reti i244_15 rfl t244 ?_
        exact hQ (-1) m501 (by first | trivial | omega) (Eq.trans (zb_eq hFv503) (Eq.trans (if_pos h504) (Eq.trans (if_neg h506c) (Eq.trans (if_neg h509c) rfl)))) (hJ502.up (by omega)) 
      · have h509c : a1 ≤ 7 := by omega
        clear h509 hz508
        refine X.iconst 14 i204_13 rfl rfl (by decide) ?_
        refine X.goto 18 i204_14 rfl rfl ?_
        refine X.cut [] i204_18 rfl ?_
        refine X.retz i204_18 rfl t204 (by omega) ?_
        show X (EE s) (d - 1) 241 9 [(0, zi a1)] [zi 1] m501 _
        refine X.retz i241_9 rfl t241 (by omega) ?_
        show X (EE s) d 244 11 [(0, zr 4 44), (1, zi a1)] [zi 1] m501 _
        refine X.ifne 16 14 i244_11 rfl rfl rfl (fun h511 => ?_) (fun h511 => (by exfalso; omega))
        refine X.aload_n 17 i244_16 rfl rfl rfl ?_
        refine X.getF 20 i244_17 rfl rfl (by decide) rfl rfl ?_
        refine X.sipush 23 i244_20 rfl rfl (by decide) ?_
        refine X.iload_n 24 i244_23 rfl rfl rfl ?_
        refine X.iadd 25 i244_24 rfl rfl (by omega) ?_
        refine X.lald 26 i244_25 rfl rfl (by decide) rfl (by omega) ?_
        have h512 := r45_287 hJ502 4 (i := (287 + a1)) (by omega)
        refine X.l2i 27 i244_26 rfl rfl (by omega) ?_
        refine X.istore_n 28 [(0, zr 4 44), (1, zi a1), (2, zi (m501 4 45 (287 + a1)))] i244_27 rfl rfl rfl ?_
        refine X.aload_n 29 i244_28 rfl rfl rfl ?_
        refine X.getF 32 i244_29 rfl rfl (by decide) rfl rfl ?_
        refine X.sipush 35 i244_32 rfl rfl (by decide) ?_
        refine X.iload_n 36 i244_35 rfl rfl rfl ?_
        refine X.iadd 37 i244_36 rfl rfl (by omega) ?_
        refine X.lconst (y := 0) 38 i244_37 rfl rfl rfl ?_
        refine X.last' 39 i244_38 rfl rfl (by decide) rfl (by omega) (fun hrm513 m513 hm513 => ?_)
        have hJ514 := w45_287 hJ502 hm513 (by omega) (by omega) hf21 hg4
        refine X.iload_n 40 i244_39 rfl rfl rfl ?_
        refine X.reti i244_40 rfl t244 ?_
        exact hQ (m501 4 45 (287 + a1)) m513 (by first | trivial | omega) (Eq.trans (zb_eq hFv503) (Eq.trans (if_pos h504) (Eq.trans (if_neg h506c) (Eq.trans (if_pos h509c) (Eq.trans (zs_eq hm513) rfl))))) (hJ514.up (by omega)) 
-- WorkMeter$CalendarText.putBytes
noncomputable def f87_1 (a1 : Int) (m : zM) : zM :=
  if 300 ≤ (m 4 41 3) then
  (m)
  else
  (zn (zushr a1 24) fun z504 =>
  zn (zand z504 255) fun z505 =>
  zs (z_upd m 4 42 (m 4 41 3) z505) fun m506 =>
  zs (z_upd m506 4 41 3 ((m506 4 41 3) + 1)) fun m509 =>
  if 300 ≤ (m509 4 41 3) then
  (m509)
  else
  (zn (zushr a1 (24 + (-8))) fun z513 =>
  zn (zand z513 255) fun z514 =>
  zs (z_upd m509 4 42 (m509 4 41 3) z514) fun m515 =>
  zs (z_upd m515 4 41 3 ((m515 4 41 3) + 1)) fun m518 =>
  if 300 ≤ (m518 4 41 3) then
  (m518)
  else
  (zn (zushr a1 ((24 + (-8)) + (-8))) fun z522 =>
  zn (zand z522 255) fun z523 =>
  zs (z_upd m518 4 42 (m518 4 41 3) z523) fun m524 =>
  zs (z_upd m524 4 41 3 ((m524 4 41 3) + 1)) fun m527 =>
  if 300 ≤ (m527 4 41 3) then
  (m527)
  else
  (zn (zushr a1 (((24 + (-8)) + (-8)) + (-8))) fun z531 =>
  zn (zand z531 255) fun z532 =>
  zs (z_upd m527 4 42 (m527 4 41 3) z532) fun m533 =>
  zs (z_upd m533 4 41 3 ((m533 4 41 3) + 1)) fun m536 =>
  m536))))
-- WorkMeter$CalendarText.putBytes
theorem c87_1 {s : Nat × (Nat → Int32)} {S : zS} {m0 m : zM} {B : Int} {d : Nat} {Q : Option zV → zM → Prop} (a1 : Int) (hd : 13 ≤ d) (hJ : J S m0 B m) (hB : B + 0 ≤ 1000000000) (ha1 : (-2147483648) ≤ a1 ∧ a1 ≤ 2147483647) (hp0 : m 4 41 3 ≤ 296) (hf15 : ¬ S.1 15) (hg4 : ¬ S.2.1 4) (hQ : ∀ m', f87_1 a1 m = m' → J S m0 (B) m' → (m' 4 41 3 = m 4 41 3 + 4) → Q none m') : X (EE s) d 87 0 [(0, zr 4 41), (1, zi a1)] [] m Q := by
  refine X.bipush 2 i87_0 rfl rfl (by decide) ?_
  refine X.istore_n 3 [(0, zr 4 41), (1, zi a1), (2, zi 24)] i87_2 rfl rfl rfl ?_
  refine X.iload_n 4 i87_3 rfl rfl rfl ?_
  refine X.iflt 49 7 i87_4 rfl rfl rfl (fun h501 => (by exfalso; omega)) (fun h501 => ?_)
  refine X.aload_n 8 i87_7 rfl rfl rfl ?_
  refine X.getI 11 3 i87_8 rfl rfl (by decide) rfl rfl rfl ?_
  have h502 := r41_3 hJ 4
  refine X.sipush 14 i87_11 rfl rfl (by decide) ?_
  refine X.icmpge 49 17 i87_14 rfl rfl rfl (fun h503 => ?_) (fun h503 => ?_)
  · refine X.cut [] i87_49 rfl ?_
    refine X.retv i87_49 rfl t87 ?_
    exact hQ  m  (Eq.trans (if_pos h503) rfl) (hJ.up (by omega)) (by omega)
  · refine X.aload_n 18 i87_17 rfl rfl rfl ?_
    refine X.getF 21 i87_18 rfl rfl (by decide) rfl rfl ?_
    refine X.aload_n 22 i87_21 rfl rfl rfl ?_
    refine X.getI 25 3 i87_22 rfl rfl (by decide) rfl rfl rfl ?_
    refine X.iload_n 26 i87_25 rfl rfl rfl ?_
    refine X.iload_n 27 i87_26 rfl rfl rfl ?_
    refine X.iiE 28 .iushr (fun x y => (x.toUInt32 >>> (y.toUInt32 &&& Int32.toUInt32 31)).toInt32) i87_27 rfl rfl rfl (fun _ _ => rfl) (fun z504 ez504 hz504 => ?_)
    refine X.sipush 31 i87_28 rfl rfl (by decide) ?_
    refine X.andE 32 255 i87_31 rfl rfl (by decide) (.inl rfl) (fun z505 ez505 hz505 => ?_)
    refine X.iast' 33 i87_32 rfl rfl (by decide) rfl (by omega) (fun hrm506 m506 hm506 => ?_)
    have hJ507 := w42_0 hJ hm506 (by omega) (by omega) hf15 hg4
    have wtm506_0 : m506 4 41 3 = m 4 41 3 := by rw [hm506]; exact z_upd_o _ _ rfl
    refine X.aload_n 34 i87_33 rfl rfl rfl ?_
    refine X.dup 35 i87_34 rfl rfl rfl ?_
    refine X.getI 38 3 i87_35 rfl rfl (by decide) rfl rfl rfl ?_
    have h508 := r41_3 hJ507 4
    refine X.iconst 39 i87_38 rfl rfl (by decide) ?_
    refine X.iadd 40 i87_39 rfl rfl (by omega) ?_
    refine X.putI' 43 3 i87_40 rfl rfl (by decide) rfl rfl rfl (fun hrm509 m509 hm509 => ?_)
    have hJ510 := w41_3 hJ507 hm509 (by omega) hf15 hg4
    have em509 : m509 4 41 3 = ((m506 4 41 3) + 1) := by rw [hm509]; exact z_upd_same _ _ _ _ _
    refine X.iinc 46 [(0, zr 4 41), (1, zi a1), (2, zi (24 + (-8)))] i87_43 rfl rfl rfl (by omega) rfl ?_
    refine X.goto 3 i87_46 rfl rfl ?_
    refine X.iload_n 4 i87_3 rfl rfl rfl ?_
    refine X.iflt 49 7 i87_4 rfl rfl rfl (fun h511 => (by exfalso; omega)) (fun h511 => ?_)
    refine X.aload_n 8 i87_7 rfl rfl rfl ?_
    refine X.getI 11 3 i87_8 rfl rfl (by decide) rfl rfl rfl ?_
    refine X.sipush 14 i87_11 rfl rfl (by decide) ?_
    refine X.icmpge 49 17 i87_14 rfl rfl rfl (fun h512 => ?_) (fun h512 => ?_)
    · refine X.cut [] i87_49 rfl ?_
      refine X.retv i87_49 rfl t87 ?_
      exact hQ  m509  (Eq.trans (if_neg h503) (Eq.trans (zn_eq ez504) (Eq.trans (zn_eq ez505) (Eq.trans (zs_eq hm506) (Eq.trans (zs_eq hm509) (Eq.trans (if_pos h512) rfl)))))) (hJ510.up (by omega)) (by omega)
    · refine X.aload_n 18 i87_17 rfl rfl rfl ?_
      refine X.getF 21 i87_18 rfl rfl (by decide) rfl rfl ?_
      refine X.aload_n 22 i87_21 rfl rfl rfl ?_
      refine X.getI 25 3 i87_22 rfl rfl (by decide) rfl rfl rfl ?_
      refine X.iload_n 26 i87_25 rfl rfl rfl ?_
      refine X.iload_n 27 i87_26 rfl rfl rfl ?_
      refine X.iiE 28 .iushr (fun x y => (x.toUInt32 >>> (y.toUInt32 &&& Int32.toUInt32 31)).toInt32) i87_27 rfl rfl rfl (fun _ _ => rfl) (fun z513 ez513 hz513 => ?_)
      refine X.sipush 31 i87_28 rfl rfl (by decide) ?_
      refine X.andE 32 255 i87_31 rfl rfl (by decide) (.inl rfl) (fun z514 ez514 hz514 => ?_)
      refine X.iast' 33 i87_32 rfl rfl (by decide) rfl (by omega) (fun hrm515 m515 hm515 => ?_)
      have hJ516 := w42_0 hJ510 hm515 (by omega) (by omega) hf15 hg4
      have wtm515_0 : m515 4 41 3 = m509 4 41 3 := by rw [hm515]; exact z_upd_o _ _ rfl
      refine X.aload_n 34 i87_33 rfl rfl rfl ?_
      refine X.dup 35 i87_34 rfl rfl rfl ?_
      refine X.getI 38 3 i87_35 rfl rfl (by decide) rfl rfl rfl ?_
      have h517 := r41_3 hJ516 4
      refine X.iconst 39 i87_38 rfl rfl (by decide) ?_
      refine X.iadd 40 i87_39 rfl rfl (by omega) ?_
      refine X.putI' 43 3 i87_40 rfl rfl (by decide) rfl rfl rfl (fun hrm518 m518 hm518 => ?_)
      have hJ519 := w41_3 hJ516 hm518 (by omega) hf15 hg4
      have em518 : m518 4 41 3 = ((m515 4 41 3) + 1) := by rw [hm518]; exact z_upd_same _ _ _ _ _
      refine X.iinc 46 [(0, zr 4 41), (1, zi a1), (2, zi ((24 + (-8)) + (-8)))] i87_43 rfl rfl rfl (by omega) rfl ?_
      refine X.goto 3 i87_46 rfl rfl ?_
      refine X.iload_n 4 i87_3 rfl rfl rfl ?_
      refine X.iflt 49 7 i87_4 rfl rfl rfl (fun h520 => (by exfalso; omega)) (fun h520 => ?_)
      refine X.aload_n 8 i87_7 rfl rfl rfl ?_
      refine X.getI 11 3 i87_8 rfl rfl (by decide) rfl rfl rfl ?_
      refine X.sipush 14 i87_11 rfl rfl (by decide) ?_
      refine X.icmpge 49 17 i87_14 rfl rfl rfl (fun h521 => ?_) (fun h521 => ?_)
      · refine X.cut [] i87_49 rfl ?_
        refine X.retv i87_49 rfl t87 ?_
        exact hQ  m518  (Eq.trans (if_neg h503) (Eq.trans (zn_eq ez504) (Eq.trans (zn_eq ez505) (Eq.trans (zs_eq hm506) (Eq.trans (zs_eq hm509) (Eq.trans (if_neg h512) (Eq.trans (zn_eq ez513) (Eq.trans (zn_eq ez514) (Eq.trans (zs_eq hm515) (Eq.trans (zs_eq hm518) (Eq.trans (if_pos h521) rfl))))))))))) (hJ519.up (by omega)) (by omega)
      · refine X.aload_n 18 i87_17 rfl rfl rfl ?_
        refine X.getF 21 i87_18 rfl rfl (by decide) rfl rfl ?_
        refine X.aload_n 22 i87_21 rfl rfl rfl ?_
        refine X.getI 25 3 i87_22 rfl rfl (by decide) rfl rfl rfl ?_
        refine X.iload_n 26 i87_25 rfl rfl rfl ?_
        refine X.iload_n 27 i87_26 rfl rfl rfl ?_
        refine X.iiE 28 .iushr (fun x y => (x.toUInt32 >>> (y.toUInt32 &&& Int32.toUInt32 31)).toInt32) i87_27 rfl rfl rfl (fun _ _ => rfl) (fun z522 ez522 hz522 => ?_)
        refine X.sipush 31 i87_28 rfl rfl (by decide) ?_
        refine X.andE 32 255 i87_31 rfl rfl (by decide) (.inl rfl) (fun z523 ez523 hz523 => ?_)
        refine X.iast' 33 i87_32 rfl rfl (by decide) rfl (by omega) (fun hrm524 m524 hm524 => ?_)
        have hJ525 := w42_0 hJ519 hm524 (by omega) (by omega) hf15 hg4
        have wtm524_0 : m524 4 41 3 = m518 4 41 3 := by rw [hm524]; exact z_upd_o _ _ rfl
        refine X.aload_n 34 i87_33 rfl rfl rfl ?_
        refine X.dup 35 i87_34 rfl rfl rfl ?_
        refine X.getI 38 3 i87_35 rfl rfl (by decide) rfl rfl rfl ?_
        have h526 := r41_3 hJ525 4
        refine X.iconst 39 i87_38 rfl rfl (by decide) ?_
        refine X.iadd 40 i87_39 rfl rfl (by omega) ?_
        refine X.putI' 43 3 i87_40 rfl rfl (by decide) rfl rfl rfl (fun hrm527 m527 hm527 => ?_)
        have hJ528 := w41_3 hJ525 hm527 (by omega) hf15 hg4
        have em527 : m527 4 41 3 = ((m524 4 41 3) + 1) := by rw [hm527]; exact z_upd_same _ _ _ _ _
        refine X.iinc 46 [(0, zr 4 41), (1, zi a1), (2, zi (((24 + (-8)) + (-8)) + (-8)))] i87_43 rfl rfl rfl (by omega) rfl ?_
        refine X.goto 3 i87_46 rfl rfl ?_
        refine X.iload_n 4 i87_3 rfl rfl rfl ?_
        refine X.iflt 49 7 i87_4 rfl rfl rfl (fun h529 => (by exfalso; omega)) (fun h529 => ?_)
        refine X.aload_n 8 i87_7 rfl rfl rfl ?_
        refine X.getI 11 3 i87_8 rfl rfl (by decide) rfl rfl rfl ?_
        refine X.sipush 14 i87_11 rfl rfl (by decide) ?_
        refine X.icmpge 49 17 i87_14 rfl rfl rfl (fun h530 => ?_) (fun h530 => ?_)
        · refine X.cut [] i87_49 rfl ?_
          refine X.retv i87_49 rfl t87 ?_
          exact hQ  m527  (Eq.trans (if_neg h503) (Eq.trans (zn_eq ez504) (Eq.trans (zn_eq ez505) (Eq.trans (zs_eq hm506) (Eq.trans (zs_eq hm509) (Eq.trans (if_neg h512) (Eq.trans (zn_eq ez513) (Eq.trans (zn_eq ez514) (Eq.trans (zs_eq hm515) (Eq.trans (zs_eq hm518) (Eq.trans (if_neg h521) (Eq.trans (zn_eq ez522) (Eq.trans (zn_eq ez523) (Eq.trans (zs_eq hm524) (Eq.trans (zs_eq hm527) (Eq.trans (if_pos h530) rfl)))))))))))))))) (hJ528.up (by omega)) (by omega)
        · refine X.aload_n 18 i87_17 rfl rfl rfl ?_
          refine X.getF 21 i87_18 rfl rfl (by decide) rfl rfl ?_
          refine X.aload_n 22 i87_21 rfl rfl rfl ?_
          refine X.getI 25 3 i87_22 rfl rfl (by decide) rfl rfl rfl ?_
          refine X.iload_n 26 i87_25 rfl rfl rfl ?_
          refine X.iload_n 27 i87_26 rfl rfl rfl ?_
          refine X.iiE 28 .iushr (fun x y => (x.toUInt32 >>> (y.toUInt32 &&& Int32.toUInt32 31)).toInt32) i87_27 rfl rfl rfl (fun _ _ => rfl) (fun z531 ez531 hz531 => ?_)
          refine X.sipush 31 i87_28 rfl rfl (by decide) ?_
          refine X.andE 32 255 i87_31 rfl rfl (by decide) (.inl rfl) (fun z532 ez532 hz532 => ?_)
          refine X.iast' 33 i87_32 rfl rfl (by decide) rfl (by omega) (fun hrm533 m533 hm533 => ?_)
          have hJ534 := w42_0 hJ528 hm533 (by omega) (by omega) hf15 hg4
          have wtm533_0 : m533 4 41 3 = m527 4 41 3 := by rw [hm533]; exact z_upd_o _ _ rfl
          refine X.aload_n 34 i87_33 rfl rfl rfl ?_
          refine X.dup 35 i87_34 rfl rfl rfl ?_
          refine X.getI 38 3 i87_35 rfl rfl (by decide) rfl rfl rfl ?_
          have h535 := r41_3 hJ534 4
          refine X.iconst 39 i87_38 rfl rfl (by decide) ?_
          refine X.iadd 40 i87_39 rfl rfl (by omega) ?_
          refine X.putI' 43 3 i87_40 rfl rfl (by decide) rfl rfl rfl (fun hrm536 m536 hm536 => ?_)
          have hJ537 := w41_3 hJ534 hm536 (by omega) hf15 hg4
          have em536 : m536 4 41 3 = ((m533 4 41 3) + 1) := by rw [hm536]; exact z_upd_same _ _ _ _ _
          refine X.iinc 46 [(0, zr 4 41), (1, zi a1), (2, zi ((((24 + (-8)) + (-8)) + (-8)) + (-8)))] i87_43 rfl rfl rfl (by omega) rfl ?_
          refine X.goto 3 i87_46 rfl rfl ?_
          refine X.iload_n 4 i87_3 rfl rfl rfl ?_
          refine X.iflt 49 7 i87_4 rfl rfl rfl (fun h538 => ?_) (fun h538 => (by exfalso; omega))
          refine X.cut [] i87_49 rfl ?_
          refine X.retv i87_49 rfl t87 ?_
          exact hQ  m536  (Eq.trans (if_neg h503) (Eq.trans (zn_eq ez504) (Eq.trans (zn_eq ez505) (Eq.trans (zs_eq hm506) (Eq.trans (zs_eq hm509) (Eq.trans (if_neg h512) (Eq.trans (zn_eq ez513) (Eq.trans (zn_eq ez514) (Eq.trans (zs_eq hm515) (Eq.trans (zs_eq hm518) (Eq.trans (if_neg h521) (Eq.trans (zn_eq ez522) (Eq.trans (zn_eq ez523) (Eq.trans (zs_eq hm524) (Eq.trans (zs_eq hm527) (Eq.trans (if_neg h530) (Eq.trans (zn_eq ez531) (Eq.trans (zn_eq ez532) (Eq.trans (zs_eq hm533) (Eq.trans (zs_eq hm536) rfl)))))))))))))))))))) (hJ537.up (by omega)) (by omega)
-- WorkMeter.feed
noncomputable def f85_1 (a1 a2 a3 a4 a5 : Int) (m : zM) : Int × zM :=
  if 300 < ((m 4 41 3) + 20) then
  (((-1), m))
  else
  (zs (f87_1 a1 m) fun m505 =>
  zs (f87_1 a2 m505) fun m508 =>
  zs (f87_1 a3 m508) fun m511 =>
  zs (f87_1 a4 m511) fun m514 =>
  zs (f87_1 a5 m514) fun m517 =>
  ((m517 4 41 3), m517))
-- WorkMeter.feed
theorem c85_1 {s : Nat × (Nat → Int32)} {S : zS} {m0 m : zM} {B : Int} {d : Nat} {Q : Option zV → zM → Prop} (a1 a2 a3 a4 a5 : Int) (hd : 14 ≤ d) (hJ : J S m0 B m) (hB : B + 0 ≤ 1000000000) (ha1 : (-2147483648) ≤ a1 ∧ a1 ≤ 2147483647) (ha2 : (-2147483648) ≤ a2 ∧ a2 ≤ 2147483647) (ha3 : (-2147483648) ≤ a3 ∧ a3 ≤ 2147483647) (ha4 : (-2147483648) ≤ a4 ∧ a4 ≤ 2147483647) (ha5 : (-2147483648) ≤ a5 ∧ a5 ≤ 2147483647) (hf15 : ¬ S.1 15) (hg4 : ¬ S.2.1 4) (hQ : ∀ (v : Int) m', ((-1) ≤ v ∧ v ≤ 300) → f85_1 a1 a2 a3 a4 a5 m = (v, m') → J S m0 (B) m' → Q (some (zi v)) m') : X (EE s) d 85 0 [(0, zr 4 40), (1, zi a1), (2, zi a2), (3, zi a3), (4, zi a4), (5, zi a5)] [] m Q := by
  refine X.aload_n 1 i85_0 rfl rfl rfl ?_
  refine X.getF 4 i85_1 rfl rfl (by decide) rfl rfl ?_
  refine X.callv 7 [] [] [(0, zr 4 41)] i85_4 rfl (by decide) rfl rfl (by omega) rfl rfl (by decide) rfl t86 (Nat.le_of_ble_eq_true rfl) (Nat.le_of_ble_eq_true rfl) rfl ?_
  refine X.aload_n 1 i86_0 rfl rfl rfl ?_
  refine X.getI 4 3 i86_1 rfl rfl (by decide) rfl rfl rfl ?_
  have h501 := r41_3 hJ 4
  refine X.bipush 6 i86_4 rfl rfl (by decide) ?_
  refine X.iadd 7 i86_6 rfl rfl (by omega) ?_
  refine X.sipush 10 i86_7 rfl rfl (by decide) ?_
  refine X.icmpgt 17 13 i86_10 rfl rfl rfl (fun h502 => ?_) (fun h502 => ?_)
  · refine X.cut [] i86_17 rfl ?_
    refine X.iconst 18 i86_17 rfl rfl (by decide) ?_
    refine X.retz i86_18 rfl t86 (by omega) ?_
    show X (EE s) d 85 7 [(0, zr 4 40), (1, zi a1), (2, zi a2), (3, zi a3), (4, zi a4), (5, zi a5)] [zi 0] m _
    refine X.ifne 12 10 i85_7 rfl rfl rfl (fun h503 => (by exfalso; omega)) (fun h503 => ?_)
    refine X.iconst 11 i85_10 rfl rfl (by decide) ?_
    refine X.reti i85_11 rfl t85 ?_
    exact hQ (-1) m (by first | trivial | omega) (Eq.trans (if_pos h502) rfl) (hJ.up (by omega)) 
  · refine X.iconst 14 i86_13 rfl rfl (by decide) ?_
    refine X.goto 18 i86_14 rfl rfl ?_
    refine X.cut [] i86_18 rfl ?_
    refine X.retz i86_18 rfl t86 (by omega) ?_
    show X (EE s) d 85 7 [(0, zr 4 40), (1, zi a1), (2, zi a2), (3, zi a3), (4, zi a4), (5, zi a5)] [zi 1] m _
    refine X.ifne 12 10 i85_7 rfl rfl rfl (fun h504 => ?_) (fun h504 => (by exfalso; omega))
    refine X.aload_n 13 i85_12 rfl rfl rfl ?_
    refine X.getF 16 i85_13 rfl rfl (by decide) rfl rfl ?_
    refine X.iload_n 17 i85_16 rfl rfl rfl ?_
    refine X.callv 20 [zi a1] [] [(0, zr 4 41), (1, zi a1)] i85_17 rfl (by decide) rfl rfl (by omega) rfl rfl (by decide) rfl t87 (Nat.le_of_ble_eq_true rfl) (Nat.le_of_ble_eq_true rfl) rfl ?_
    refine c87_1 (B := B)  a1 (by omega) (hJ.up (by omega)) (by omega) (by omega) (by omega) hf15 hg4 (fun m505 hFv507 hJ506 hqv507_0 => ?_)
    show X (EE s) d 85 20 [(0, zr 4 40), (1, zi a1), (2, zi a2), (3, zi a3), (4, zi a4), (5, zi a5)] [] m505 _
    refine X.aload_n 21 i85_20 rfl rfl rfl ?_
    refine X.getF 24 i85_21 rfl rfl (by decide) rfl rfl ?_
    refine X.iload_n 25 i85_24 rfl rfl rfl ?_
    refine X.callv 28 [zi a2] [] [(0, zr 4 41), (1, zi a2)] i85_25 rfl (by decide) rfl rfl (by omega) rfl rfl (by decide) rfl t87 (Nat.le_of_ble_eq_true rfl) (Nat.le_of_ble_eq_true rfl) rfl ?_
    refine c87_1 (B := B)  a2 (by omega) (hJ506.up (by omega)) (by omega) (by omega) (by omega) hf15 hg4 (fun m508 hFv510 hJ509 hqv510_0 => ?_)
    show X (EE s) d 85 28 [(0, zr 4 40), (1, zi a1), (2, zi a2), (3, zi a3), (4, zi a4), (5, zi a5)] [] m508 _
    refine X.aload_n 29 i85_28 rfl rfl rfl ?_
    refine X.getF 32 i85_29 rfl rfl (by decide) rfl rfl ?_
    refine X.iload_n 33 i85_32 rfl rfl rfl ?_
    refine X.callv 36 [zi a3] [] [(0, zr 4 41), (1, zi a3)] i85_33 rfl (by decide) rfl rfl (by omega) rfl rfl (by decide) rfl t87 (Nat.le_of_ble_eq_true rfl) (Nat.le_of_ble_eq_true rfl) rfl ?_
    refine c87_1 (B := B)  a3 (by omega) (hJ509.up (by omega)) (by omega) (by omega) (by omega) hf15 hg4 (fun m511 hFv513 hJ512 hqv513_0 => ?_)
    show X (EE s) d 85 36 [(0, zr 4 40), (1, zi a1), (2, zi a2), (3, zi a3), (4, zi a4), (5, zi a5)] [] m511 _
    refine X.aload_n 37 i85_36 rfl rfl rfl ?_
    refine X.getF 40 i85_37 rfl rfl (by decide) rfl rfl ?_
    refine X.iload 42 i85_40 rfl rfl rfl ?_
    refine X.callv 45 [zi a4] [] [(0, zr 4 41), (1, zi a4)] i85_42 rfl (by decide) rfl rfl (by omega) rfl rfl (by decide) rfl t87 (Nat.le_of_ble_eq_true rfl) (Nat.le_of_ble_eq_true rfl) rfl ?_
    refine c87_1 (B := B)  a4 (by omega) (hJ512.up (by omega)) (by omega) (by omega) (by omega) hf15 hg4 (fun m514 hFv516 hJ515 hqv516_0 => ?_)
    show X (EE s) d 85 45 [(0, zr 4 40), (1, zi a1), (2, zi a2), (3, zi a3), (4, zi a4), (5, zi a5)] [] m514 _
    refine X.aload_n 46 i85_45 rfl rfl rfl ?_
    refine X.getF 49 i85_46 rfl rfl (by decide) rfl rfl ?_
    refine X.iload 51 i85_49 rfl rfl rfl ?_
    refine X.callv 54 [zi a5] [] [(0, zr 4 41), (1, zi a5)] i85_51 rfl (by decide) rfl rfl (by omega) rfl rfl (by decide) rfl t87 (Nat.le_of_ble_eq_true rfl) (Nat.le_of_ble_eq_true rfl) rfl ?_
    refine c87_1 (B := B)  a5 (by omega) (hJ515.up (by omega)) (by omega) (by omega) (by omega) hf15 hg4 (fun m517 hFv519 hJ518 hqv519_0 => ?_)
    show X (EE s) d 85 54 [(0, zr 4 40), (1, zi a1), (2, zi a2), (3, zi a3), (4, zi a4), (5, zi a5)] [] m517 _
    refine X.aload_n 55 i85_54 rfl rfl rfl ?_
    refine X.getF 58 i85_55 rfl rfl (by decide) rfl rfl ?_
    refine X.getI 61 3 i85_58 rfl rfl (by decide) rfl rfl rfl ?_
    have h520 := r41_3 hJ518 4
    refine X.reti i85_61 rfl t85 ?_
    exact hQ (m517 4 41 3) m517 (by first | trivial | omega) (Eq.trans (if_neg h502) (Eq.trans (zs_eq hFv507.symm) (Eq.trans (zs_eq hFv510.symm) (Eq.trans (zs_eq hFv513.symm) (Eq.trans (zs_eq hFv516.symm) (Eq.trans (zs_eq hFv519.symm) rfl)))))) (hJ518.up (by omega)) 
-- WorkMeterModel.comes
noncomputable def f257_1 (a1 : Int) (m : zM) : zM :=
  zn (zushr a1 24) fun z503 =>
  zn (w8 z503) fun z504 =>
  zs (z_upd m 4 48 (m 4 44 5) z504) fun m505 =>
  zs (z_upd m505 4 44 5 ((m505 4 44 5) + 1)) fun m508 =>
  zn (zushr a1 (24 + (-8))) fun z511 =>
  zn (w8 z511) fun z512 =>
  zs (z_upd m508 4 48 (m508 4 44 5) z512) fun m513 =>
  zs (z_upd m513 4 44 5 ((m513 4 44 5) + 1)) fun m516 =>
  zn (zushr a1 ((24 + (-8)) + (-8))) fun z519 =>
  zn (w8 z519) fun z520 =>
  zs (z_upd m516 4 48 (m516 4 44 5) z520) fun m521 =>
  zs (z_upd m521 4 44 5 ((m521 4 44 5) + 1)) fun m524 =>
  zn (zushr a1 (((24 + (-8)) + (-8)) + (-8))) fun z527 =>
  zn (w8 z527) fun z528 =>
  zs (z_upd m524 4 48 (m524 4 44 5) z528) fun m529 =>
  zs (z_upd m529 4 44 5 ((m529 4 44 5) + 1)) fun m532 =>
  m532
-- WorkMeterModel.comes
theorem c257_1 {s : Nat × (Nat → Int32)} {S : zS} {m0 m : zM} {B : Int} {d : Nat} {Q : Option zV → zM → Prop} (a1 : Int) (hd : 13 ≤ d) (hJ : J S m0 B m) (hB : B + 0 ≤ 1000000000) (ha1 : (-2147483648) ≤ a1 ∧ a1 ≤ 2147483647) (hp0 : m 4 44 5 ≤ 296) (hf35 : ¬ S.1 35) (hg4 : ¬ S.2.1 4) (hQ : ∀ m', f257_1 a1 m = m' → J S m0 (B) m' → (m' 4 44 5 = m 4 44 5 + 4) → Q none m') : X (EE s) d 257 0 [(0, zr 4 44), (1, zi a1)] [] m Q := by
  refine X.bipush 2 i257_0 rfl rfl (by decide) ?_
  refine X.istore_n 3 [(0, zr 4 44), (1, zi a1), (2, zi 24)] i257_2 rfl rfl rfl ?_
  refine X.iload_n 4 i257_3 rfl rfl rfl ?_
  refine X.iflt 36 7 i257_4 rfl rfl rfl (fun h501 => (by exfalso; omega)) (fun h501 => ?_)
  refine X.aload_n 8 i257_7 rfl rfl rfl ?_
  refine X.getF 11 i257_8 rfl rfl (by decide) rfl rfl ?_
  refine X.aload_n 12 i257_11 rfl rfl rfl ?_
  refine X.getI 15 5 i257_12 rfl rfl (by decide) rfl rfl rfl ?_
  have h502 := r44_5 hJ 4
  refine X.iload_n 16 i257_15 rfl rfl rfl ?_
  refine X.iload_n 17 i257_16 rfl rfl rfl ?_
  refine X.iiE 18 .iushr (fun x y => (x.toUInt32 >>> (y.toUInt32 &&& Int32.toUInt32 31)).toInt32) i257_17 rfl rfl rfl (fun _ _ => rfl) (fun z503 ez503 hz503 => ?_)
  refine X.i2bE 19 i257_18 rfl rfl (fun z504 ez504 hz504 => ?_)
  refine X.bast' 20 i257_19 rfl rfl (by decide) rfl (by omega) (by omega) (fun hrm505 m505 hm505 => ?_)
  have hJ506 := w48_0 hJ hm505 (by omega) hrm505 hf35 hg4
  have wtm505_0 : m505 4 44 5 = m 4 44 5 := by rw [hm505]; exact z_upd_o _ _ rfl
  refine X.aload_n 21 i257_20 rfl rfl rfl ?_
  refine X.dup 22 i257_21 rfl rfl rfl ?_
  refine X.getI 25 5 i257_22 rfl rfl (by decide) rfl rfl rfl ?_
  have h507 := r44_5 hJ506 4
  refine X.iconst 26 i257_25 rfl rfl (by decide) ?_
  refine X.iadd 27 i257_26 rfl rfl (by omega) ?_
  refine X.putI' 30 5 i257_27 rfl rfl (by decide) rfl rfl rfl (fun hrm508 m508 hm508 => ?_)
  have hJ509 := w44_5 hJ506 hm508 (by omega) hf35 hg4
  have em508 : m508 4 44 5 = ((m505 4 44 5) + 1) := by rw [hm508]; exact z_upd_same _ _ _ _ _
  refine X.iinc 33 [(0, zr 4 44), (1, zi a1), (2, zi (24 + (-8)))] i257_30 rfl rfl rfl (by omega) rfl ?_
  refine X.goto 3 i257_33 rfl rfl ?_
  refine X.iload_n 4 i257_3 rfl rfl rfl ?_
  refine X.iflt 36 7 i257_4 rfl rfl rfl (fun h510 => (by exfalso; omega)) (fun h510 => ?_)
  refine X.aload_n 8 i257_7 rfl rfl rfl ?_
  refine X.getF 11 i257_8 rfl rfl (by decide) rfl rfl ?_
  refine X.aload_n 12 i257_11 rfl rfl rfl ?_
  refine X.getI 15 5 i257_12 rfl rfl (by decide) rfl rfl rfl ?_
  refine X.iload_n 16 i257_15 rfl rfl rfl ?_
  refine X.iload_n 17 i257_16 rfl rfl rfl ?_
  refine X.iiE 18 .iushr (fun x y => (x.toUInt32 >>> (y.toUInt32 &&& Int32.toUInt32 31)).toInt32) i257_17 rfl rfl rfl (fun _ _ => rfl) (fun z511 ez511 hz511 => ?_)
  refine X.i2bE 19 i257_18 rfl rfl (fun z512 ez512 hz512 => ?_)
  refine X.bast' 20 i257_19 rfl rfl (by decide) rfl (by omega) (by omega) (fun hrm513 m513 hm513 => ?_)
  have hJ514 := w48_0 hJ509 hm513 (by omega) hrm513 hf35 hg4
  have wtm513_0 : m513 4 44 5 = m508 4 44 5 := by rw [hm513]; exact z_upd_o _ _ rfl
  refine X.aload_n 21 i257_20 rfl rfl rfl ?_
  refine X.dup 22 i257_21 rfl rfl rfl ?_
  refine X.getI 25 5 i257_22 rfl rfl (by decide) rfl rfl rfl ?_
  have h515 := r44_5 hJ514 4
  refine X.iconst 26 i257_25 rfl rfl (by decide) ?_
  refine X.iadd 27 i257_26 rfl rfl (by omega) ?_
  refine X.putI' 30 5 i257_27 rfl rfl (by decide) rfl rfl rfl (fun hrm516 m516 hm516 => ?_)
  have hJ517 := w44_5 hJ514 hm516 (by omega) hf35 hg4
  have em516 : m516 4 44 5 = ((m513 4 44 5) + 1) := by rw [hm516]; exact z_upd_same _ _ _ _ _
  refine X.iinc 33 [(0, zr 4 44), (1, zi a1), (2, zi ((24 + (-8)) + (-8)))] i257_30 rfl rfl rfl (by omega) rfl ?_
  refine X.goto 3 i257_33 rfl rfl ?_
  refine X.iload_n 4 i257_3 rfl rfl rfl ?_
  refine X.iflt 36 7 i257_4 rfl rfl rfl (fun h518 => (by exfalso; omega)) (fun h518 => ?_)
  refine X.aload_n 8 i257_7 rfl rfl rfl ?_
  refine X.getF 11 i257_8 rfl rfl (by decide) rfl rfl ?_
  refine X.aload_n 12 i257_11 rfl rfl rfl ?_
  refine X.getI 15 5 i257_12 rfl rfl (by decide) rfl rfl rfl ?_
  refine X.iload_n 16 i257_15 rfl rfl rfl ?_
  refine X.iload_n 17 i257_16 rfl rfl rfl ?_
  refine X.iiE 18 .iushr (fun x y => (x.toUInt32 >>> (y.toUInt32 &&& Int32.toUInt32 31)).toInt32) i257_17 rfl rfl rfl (fun _ _ => rfl) (fun z519 ez519 hz519 => ?_)
  refine X.i2bE 19 i257_18 rfl rfl (fun z520 ez520 hz520 => ?_)
  refine X.bast' 20 i257_19 rfl rfl (by decide) rfl (by omega) (by omega) (fun hrm521 m521 hm521 => ?_)
  have hJ522 := w48_0 hJ517 hm521 (by omega) hrm521 hf35 hg4
  have wtm521_0 : m521 4 44 5 = m516 4 44 5 := by rw [hm521]; exact z_upd_o _ _ rfl
  refine X.aload_n 21 i257_20 rfl rfl rfl ?_
  refine X.dup 22 i257_21 rfl rfl rfl ?_
  refine X.getI 25 5 i257_22 rfl rfl (by decide) rfl rfl rfl ?_
  have h523 := r44_5 hJ522 4
  refine X.iconst 26 i257_25 rfl rfl (by decide) ?_
  refine X.iadd 27 i257_26 rfl rfl (by omega) ?_
  refine X.putI' 30 5 i257_27 rfl rfl (by decide) rfl rfl rfl (fun hrm524 m524 hm524 => ?_)
  have hJ525 := w44_5 hJ522 hm524 (by omega) hf35 hg4
  have em524 : m524 4 44 5 = ((m521 4 44 5) + 1) := by rw [hm524]; exact z_upd_same _ _ _ _ _
  refine X.iinc 33 [(0, zr 4 44), (1, zi a1), (2, zi (((24 + (-8)) + (-8)) + (-8)))] i257_30 rfl rfl rfl (by omega) rfl ?_
  refine X.goto 3 i257_33 rfl rfl ?_
  refine X.iload_n 4 i257_3 rfl rfl rfl ?_
  refine X.iflt 36 7 i257_4 rfl rfl rfl (fun h526 => (by exfalso; omega)) (fun h526 => ?_)
  refine X.aload_n 8 i257_7 rfl rfl rfl ?_
  refine X.getF 11 i257_8 rfl rfl (by decide) rfl rfl ?_
  refine X.aload_n 12 i257_11 rfl rfl rfl ?_
  refine X.getI 15 5 i257_12 rfl rfl (by decide) rfl rfl rfl ?_
  refine X.iload_n 16 i257_15 rfl rfl rfl ?_
  refine X.iload_n 17 i257_16 rfl rfl rfl ?_
  refine X.iiE 18 .iushr (fun x y => (x.toUInt32 >>> (y.toUInt32 &&& Int32.toUInt32 31)).toInt32) i257_17 rfl rfl rfl (fun _ _ => rfl) (fun z527 ez527 hz527 => ?_)
  refine X.i2bE 19 i257_18 rfl rfl (fun z528 ez528 hz528 => ?_)
  refine X.bast' 20 i257_19 rfl rfl (by decide) rfl (by omega) (by omega) (fun hrm529 m529 hm529 => ?_)
  have hJ530 := w48_0 hJ525 hm529 (by omega) hrm529 hf35 hg4
  have wtm529_0 : m529 4 44 5 = m524 4 44 5 := by rw [hm529]; exact z_upd_o _ _ rfl
  refine X.aload_n 21 i257_20 rfl rfl rfl ?_
  refine X.dup 22 i257_21 rfl rfl rfl ?_
  refine X.getI 25 5 i257_22 rfl rfl (by decide) rfl rfl rfl ?_
  have h531 := r44_5 hJ530 4
  refine X.iconst 26 i257_25 rfl rfl (by decide) ?_
  refine X.iadd 27 i257_26 rfl rfl (by omega) ?_
  refine X.putI' 30 5 i257_27 rfl rfl (by decide) rfl rfl rfl (fun hrm532 m532 hm532 => ?_)
  have hJ533 := w44_5 hJ530 hm532 (by omega) hf35 hg4
  have em532 : m532 4 44 5 = ((m529 4 44 5) + 1) := by rw [hm532]; exact z_upd_same _ _ _ _ _
  refine X.iinc 33 [(0, zr 4 44), (1, zi a1), (2, zi ((((24 + (-8)) + (-8)) + (-8)) + (-8)))] i257_30 rfl rfl rfl (by omega) rfl ?_
  refine X.goto 3 i257_33 rfl rfl ?_
  refine X.iload_n 4 i257_3 rfl rfl rfl ?_
  refine X.iflt 36 7 i257_4 rfl rfl rfl (fun h534 => ?_) (fun h534 => (by exfalso; omega))
  refine X.cut [] i257_36 rfl ?_
  refine X.retv i257_36 rfl t257 ?_
  exact hQ  m532  (Eq.trans (zn_eq ez503) (Eq.trans (zn_eq ez504) (Eq.trans (zs_eq hm505) (Eq.trans (zs_eq hm508) (Eq.trans (zn_eq ez511) (Eq.trans (zn_eq ez512) (Eq.trans (zs_eq hm513) (Eq.trans (zs_eq hm516) (Eq.trans (zn_eq ez519) (Eq.trans (zn_eq ez520) (Eq.trans (zs_eq hm521) (Eq.trans (zs_eq hm524) (Eq.trans (zn_eq ez527) (Eq.trans (zn_eq ez528) (Eq.trans (zs_eq hm529) (Eq.trans (zs_eq hm532) rfl)))))))))))))))) (hJ533.up (by omega)) (by omega)
-- WorkMeterModel.feed
noncomputable def f256_1 (a1 a2 a3 a4 a5 : Int) (m : zM) : Int × zM :=
  if ((m 4 44 5) + 20) ≤ 300 then
  (zs (f257_1 a1 m) fun m503 =>
  zs (f257_1 a2 m503) fun m506 =>
  zs (f257_1 a3 m506) fun m509 =>
  zs (f257_1 a4 m509) fun m512 =>
  zs (f257_1 a5 m512) fun m515 =>
  ((m515 4 44 5), m515))
  else
  (((-1), m))
-- WorkMeterModel.feed
theorem c256_1 {s : Nat × (Nat → Int32)} {S : zS} {m0 m : zM} {B : Int} {d : Nat} {Q : Option zV → zM → Prop} (a1 a2 a3 a4 a5 : Int) (hd : 14 ≤ d) (hJ : J S m0 B m) (hB : B + 0 ≤ 1000000000) (ha1 : (-2147483648) ≤ a1 ∧ a1 ≤ 2147483647) (ha2 : (-2147483648) ≤ a2 ∧ a2 ≤ 2147483647) (ha3 : (-2147483648) ≤ a3 ∧ a3 ≤ 2147483647) (ha4 : (-2147483648) ≤ a4 ∧ a4 ≤ 2147483647) (ha5 : (-2147483648) ≤ a5 ∧ a5 ≤ 2147483647) (hf35 : ¬ S.1 35) (hg4 : ¬ S.2.1 4) (hQ : ∀ (v : Int) m', ((-1) ≤ v ∧ v ≤ 300) → f256_1 a1 a2 a3 a4 a5 m = (v, m') → J S m0 (B) m' → Q (some (zi v)) m') : X (EE s) d 256 0 [(0, zr 4 44), (1, zi a1), (2, zi a2), (3, zi a3), (4, zi a4), (5, zi a5)] [] m Q := by
  refine X.aload_n 1 i256_0 rfl rfl rfl ?_
  refine X.getI 4 5 i256_1 rfl rfl (by decide) rfl rfl rfl ?_
  have h501 := r44_5 hJ 4
  refine X.bipush 6 i256_4 rfl rfl (by decide) ?_
  refine X.iadd 7 i256_6 rfl rfl (by omega) ?_
  refine X.sipush 10 i256_7 rfl rfl (by decide) ?_
  refine X.icmple 15 13 i256_10 rfl rfl rfl (fun h502 => ?_) (fun h502 => ?_)
  · refine X.aload_n 16 i256_15 rfl rfl rfl ?_
    refine X.iload_n 17 i256_16 rfl rfl rfl ?_
    refine X.callv 20 [zi a1] [] [(0, zr 4 44), (1, zi a1)] i256_17 rfl (by decide) rfl rfl (by omega) rfl rfl (by decide) rfl t257 (Nat.le_of_ble_eq_true rfl) (Nat.le_of_ble_eq_true rfl) rfl ?_
    refine c257_1 (B := B)  a1 (by omega) (hJ.up (by omega)) (by omega) (by omega) (by omega) hf35 hg4 (fun m503 hFv505 hJ504 hqv505_0 => ?_)
    show X (EE s) d 256 20 [(0, zr 4 44), (1, zi a1), (2, zi a2), (3, zi a3), (4, zi a4), (5, zi a5)] [] m503 _
    refine X.aload_n 21 i256_20 rfl rfl rfl ?_
    refine X.iload_n 22 i256_21 rfl rfl rfl ?_
    refine X.callv 25 [zi a2] [] [(0, zr 4 44), (1, zi a2)] i256_22 rfl (by decide) rfl rfl (by omega) rfl rfl (by decide) rfl t257 (Nat.le_of_ble_eq_true rfl) (Nat.le_of_ble_eq_true rfl) rfl ?_
    refine c257_1 (B := B)  a2 (by omega) (hJ504.up (by omega)) (by omega) (by omega) (by omega) hf35 hg4 (fun m506 hFv508 hJ507 hqv508_0 => ?_)
    show X (EE s) d 256 25 [(0, zr 4 44), (1, zi a1), (2, zi a2), (3, zi a3), (4, zi a4), (5, zi a5)] [] m506 _
    refine X.aload_n 26 i256_25 rfl rfl rfl ?_
    refine X.iload_n 27 i256_26 rfl rfl rfl ?_
    refine X.callv 30 [zi a3] [] [(0, zr 4 44), (1, zi a3)] i256_27 rfl (by decide) rfl rfl (by omega) rfl rfl (by decide) rfl t257 (Nat.le_of_ble_eq_true rfl) (Nat.le_of_ble_eq_true rfl) rfl ?_
    refine c257_1 (B := B)  a3 (by omega) (hJ507.up (by omega)) (by omega) (by omega) (by omega) hf35 hg4 (fun m509 hFv511 hJ510 hqv511_0 => ?_)
    show X (EE s) d 256 30 [(0, zr 4 44), (1, zi a1), (2, zi a2), (3, zi a3), (4, zi a4), (5, zi a5)] [] m509 _
    refine X.aload_n 31 i256_30 rfl rfl rfl ?_
    refine X.iload 33 i256_31 rfl rfl rfl ?_
    refine X.callv 36 [zi a4] [] [(0, zr 4 44), (1, zi a4)] i256_33 rfl (by decide) rfl rfl (by omega) rfl rfl (by decide) rfl t257 (Nat.le_of_ble_eq_true rfl) (Nat.le_of_ble_eq_true rfl) rfl ?_
    refine c257_1 (B := B)  a4 (by omega) (hJ510.up (by omega)) (by omega) (by omega) (by omega) hf35 hg4 (fun m512 hFv514 hJ513 hqv514_0 => ?_)
    show X (EE s) d 256 36 [(0, zr 4 44), (1, zi a1), (2, zi a2), (3, zi a3), (4, zi a4), (5, zi a5)] [] m512 _
    refine X.aload_n 37 i256_36 rfl rfl rfl ?_
    refine X.iload 39 i256_37 rfl rfl rfl ?_
    refine X.callv 42 [zi a5] [] [(0, zr 4 44), (1, zi a5)] i256_39 rfl (by decide) rfl rfl (by omega) rfl rfl (by decide) rfl t257 (Nat.le_of_ble_eq_true rfl) (Nat.le_of_ble_eq_true rfl) rfl ?_
    refine c257_1 (B := B)  a5 (by omega) (hJ513.up (by omega)) (by omega) (by omega) (by omega) hf35 hg4 (fun m515 hFv517 hJ516 hqv517_0 => ?_)
    show X (EE s) d 256 42 [(0, zr 4 44), (1, zi a1), (2, zi a2), (3, zi a3), (4, zi a4), (5, zi a5)] [] m515 _
    refine X.aload_n 43 i256_42 rfl rfl rfl ?_
    refine X.getI 46 5 i256_43 rfl rfl (by decide) rfl rfl rfl ?_
    have h518 := r44_5 hJ516 4
    refine X.reti i256_46 rfl t256 ?_
    exact hQ (m515 4 44 5) m515 (by first | trivial | omega) (Eq.trans (if_pos h502) (Eq.trans (zs_eq hFv505.symm) (Eq.trans (zs_eq hFv508.symm) (Eq.trans (zs_eq hFv511.symm) (Eq.trans (zs_eq hFv514.symm) (Eq.trans (zs_eq hFv517.symm) rfl)))))) (hJ516.up (by omega)) 
  · refine X.iconst 14 i256_13 rfl rfl (by decide) ?_
    refine X.reti i256_14 rfl t256 ?_
    exact hQ (-1) m (by first | trivial | omega) (Eq.trans (if_neg h502) rfl) (hJ.up (by omega)) 
-- WorkMeter$CalendarText.cutTo
noncomputable def f89_1 (a1 : Int) (m : zM) : Int × zM :=
  if a1 < 0 then
  ((0, m))
  else
  (if a1 ≤ (m 4 41 3) then
  (zs (z_upd m 4 41 3 a1) fun m504 =>
  (1, m504))
  else
  ((0, m)))
-- WorkMeter$CalendarText.cutTo
theorem c89_1 {s : Nat × (Nat → Int32)} {S : zS} {m0 m : zM} {B : Int} {d : Nat} {Q : Option zV → zM → Prop} (a1 : Int) (hd : 13 ≤ d) (hJ : J S m0 B m) (hB : B + 0 ≤ 1000000000) (ha1 : (-2147483648) ≤ a1 ∧ a1 ≤ 2147483647) (hf15 : ¬ S.1 15) (hg4 : ¬ S.2.1 4) (hQ : ∀ (v : Int) m', (0 ≤ v ∧ v ≤ 1) → f89_1 a1 m = (v, m') → J S m0 (B) m' → Q (some (zi v)) m') : X (EE s) d 89 0 [(0, zr 4 41), (1, zi a1)] [] m Q := by
  refine X.iload_n 1 i89_0 rfl rfl rfl ?_
  refine X.iflt 12 4 i89_1 rfl rfl rfl (fun h501 => ?_) (fun h501 => ?_)
  · refine X.cut [] i89_12 rfl ?_
    refine X.iconst 13 i89_12 rfl rfl (by decide) ?_
    refine X.retz i89_13 rfl t89 (by omega) ?_
    exact hQ 0 m (by first | trivial | omega) (Eq.trans (if_pos h501) rfl) (hJ.up (by omega)) 
  · refine X.iload_n 5 i89_4 rfl rfl rfl ?_
    refine X.aload_n 6 i89_5 rfl rfl rfl ?_
    refine X.getI 9 3 i89_6 rfl rfl (by decide) rfl rfl rfl ?_
    have h502 := r41_3 hJ 4
    refine X.icmple 14 12 i89_9 rfl rfl rfl (fun h503 => ?_) (fun h503 => ?_)
    · refine X.aload_n 15 i89_14 rfl rfl rfl ?_
      refine X.iload_n 16 i89_15 rfl rfl rfl ?_
      refine X.putI' 19 3 i89_16 rfl rfl (by decide) rfl rfl rfl (fun hrm504 m504 hm504 => ?_)
      have hJ505 := w41_3 hJ hm504 (by omega) hf15 hg4
      have em504 : m504 4 41 3 = a1 := by rw [hm504]; exact z_upd_same _ _ _ _ _
      refine X.iconst 20 i89_19 rfl rfl (by decide) ?_
      refine X.retz i89_20 rfl t89 (by omega) ?_
      exact hQ 1 m504 (by first | trivial | omega) (Eq.trans (if_neg h501) (Eq.trans (if_pos h503) (Eq.trans (zs_eq hm504) rfl))) (hJ505.up (by omega)) 
    · refine X.cut [] i89_12 rfl ?_
      refine X.iconst 13 i89_12 rfl rfl (by decide) ?_
      refine X.retz i89_13 rfl t89 (by omega) ?_
      exact hQ 0 m (by first | trivial | omega) (Eq.trans (if_neg h501) (Eq.trans (if_neg h503) rfl)) (hJ.up (by omega)) 
-- WorkMeter.end
noncomputable def f88_1 (a1 : Int) (m : zM) : Int × zM :=
  zb (f89_1 a1 m) fun v503 m501 =>
  (v503, m501)
end
section
-- WorkMeter.end
theorem c88_1 {s : Nat × (Nat → Int32)} {S : zS} {m0 m : zM} {B : Int} {d : Nat} {Q : Option zV → zM → Prop} (a1 : Int) (hd : 14 ≤ d) (hJ : J S m0 B m) (hB : B + 0 ≤ 1000000000) (ha1 : (-2147483648) ≤ a1 ∧ a1 ≤ 2147483647) (hf15 : ¬ S.1 15) (hg4 : ¬ S.2.1 4) (hQ : ∀ (v : Int) m', (0 ≤ v ∧ v ≤ 1) → f88_1 a1 m = (v, m') → J S m0 (B) m' → Q (some (zi v)) m') : X (EE s) d 88 0 [(0, zr 4 40), (1, zi a1)] [] m Q := by
  refine X.aload_n 1 i88_0 rfl rfl rfl ?_
  refine X.getF 4 i88_1 rfl rfl (by decide) rfl rfl ?_
  refine X.iload_n 5 i88_4 rfl rfl rfl ?_
  refine X.callv 8 [zi a1] [] [(0, zr 4 41), (1, zi a1)] i88_5 rfl (by decide) rfl rfl (by omega) rfl rfl (by decide) rfl t89 (Nat.le_of_ble_eq_true rfl) (Nat.le_of_ble_eq_true rfl) rfl ?_
  refine c89_1 (B := B)  a1 (by omega) (hJ.up (by omega)) (by omega) (by omega) hf15 hg4 (fun v503 m501 hv503 hFv503 hJ502 => ?_)
  show X (EE s) d 88 8 [(0, zr 4 40), (1, zi a1)] [zi v503] m501 _
  refine X.retz i88_8 rfl t88 (by omega) ?_
  exact hQ v503 m501 (by first | trivial | omega) (Eq.trans (zb_eq hFv503) rfl) (hJ502.up (by omega)) 
-- WorkMeterModel.end
noncomputable def f258_1 (a1 : Int) (m : zM) : Int × zM :=
  if a1 < 0 then
  ((0, m))
  else
  (if a1 ≤ (m 4 44 5) then
  (zs (z_upd m 4 44 5 a1) fun m509 =>
  (1, m509))
  else
  ((0, m)))
-- WorkMeterModel.end
theorem c258_1 {s : Nat × (Nat → Int32)} {S : zS} {m0 m : zM} {B : Int} {d : Nat} {Q : Option zV → zM → Prop} (a1 : Int) (hd : 13 ≤ d) (hJ : J S m0 B m) (hB : B + 0 ≤ 1000000000) (ha1 : (-2147483648) ≤ a1 ∧ a1 ≤ 2147483647) (hf35 : ¬ S.1 35) (hg4 : ¬ S.2.1 4) (hQ : ∀ (v : Int) m', (0 ≤ v ∧ v ≤ 1) → f258_1 a1 m = (v, m') → J S m0 (B) m' → Q (some (zi v)) m') : X (EE s) d 258 0 [(0, zr 4 44), (1, zi a1)] [] m Q := by
  refine X.iload_n 1 i258_0 rfl rfl rfl ?_
  refine X.i2l 2 i258_1 rfl rfl ?_
  refine X.lconst (y := 0) 3 i258_2 rfl rfl rfl ?_
  refine X.aload_n 4 i258_3 rfl rfl rfl ?_
  refine X.getI 7 5 i258_4 rfl rfl (by decide) rfl rfl rfl ?_
  have h501 := r44_5 hJ 4
  refine X.i2l 8 i258_7 rfl rfl ?_
  refine X.calls 11 [zl a1, zl 0, zl (m 4 44 5)] [] [(0, zl a1), (2, zl 0), (4, zl (m 4 44 5))] i258_8 (by decide) rfl rfl (by omega) rfl rfl t204 (Nat.le_of_ble_eq_true rfl) (Nat.le_of_ble_eq_true rfl) rfl ?_
  refine X.lload_n 1 i204_0 rfl rfl rfl ?_
  refine X.lload_n 2 i204_1 rfl rfl rfl ?_
  refine X.lcmp 3 i204_2 rfl rfl (fun z502 hz502 => ?_)
  refine X.iflt 17 6 i204_3 rfl rfl rfl (fun h503 => ?_) (fun h503 => ?_)
  · have h503c : a1 < 0 := by omega
    clear h503 hz502
    refine X.cut [] i204_17 rfl ?_
    refine X.iconst 18 i204_17 rfl rfl (by decide) ?_
    refine X.retz i204_18 rfl t204 (by omega) ?_
    show X (EE s) d 258 11 [(0, zr 4 44), (1, zi a1)] [zi 0] m _
    refine X.ifne 16 14 i258_11 rfl rfl rfl (fun h504 => (by exfalso; omega)) (fun h504 => ?_)
    refine X.iconst 15 i258_14 rfl rfl (by decide) ?_
    refine X.retz i258_15 rfl t258 (by omega) ?_
    exact hQ 0 m (by first | trivial | omega) (Eq.trans (if_pos h503c) rfl) (hJ.up (by omega)) 
  · have h503c : ¬ a1 < 0 := by omega
    clear h503 hz502
    refine X.lload_n 7 i204_6 rfl rfl rfl ?_
    refine X.lload 9 i204_7 rfl rfl rfl ?_
    refine X.lcmp 10 i204_9 rfl rfl (fun z505 hz505 => ?_)
    refine X.ifgt 17 13 i204_10 rfl rfl rfl (fun h506 => ?_) (fun h506 => ?_)
    · have h506c : ¬ a1 ≤ (m 4 44 5) := by omega
      clear h506 hz505
      refine X.cut [] i204_17 rfl ?_
      refine X.iconst 18 i204_17 rfl rfl (by decide) ?_
      refine X.retz i204_18 rfl t204 (by omega) ?_
      show X (EE s) d 258 11 [(0, zr 4 44), (1, zi a1)] [zi 0] m _
      refine X.ifne 16 14 i258_11 rfl rfl rfl (fun h507 => (by exfalso; omega)) (fun h507 => ?_)
      refine X.iconst 15 i258_14 rfl rfl (by decide) ?_
      refine X.retz i258_15 rfl t258 (by omega) ?_
      exact hQ 0 m (by first | trivial | omega) (Eq.trans (if_neg h503c) (Eq.trans (if_neg h506c) rfl)) (hJ.up (by omega)) 
    · have h506c : a1 ≤ (m 4 44 5) := by omega
      clear h506 hz505
      refine X.iconst 14 i204_13 rfl rfl (by decide) ?_
      refine X.goto 18 i204_14 rfl rfl ?_
      refine X.cut [] i204_18 rfl ?_
      refine X.retz i204_18 rfl t204 (by omega) ?_
      show X (EE s) d 258 11 [(0, zr 4 44), (1, zi a1)] [zi 1] m _
      refine X.ifne 16 14 i258_11 rfl rfl rfl (fun h508 => ?_) (fun h508 => (by exfalso; omega))
      refine X.aload_n 17 i258_16 rfl rfl rfl ?_
      refine X.iload_n 18 i258_17 rfl rfl rfl ?_
      refine X.putI' 21 5 i258_18 rfl rfl (by decide) rfl rfl rfl (fun hrm509 m509 hm509 => ?_)
      have hJ510 := w44_5 hJ hm509 (by omega) hf35 hg4
      have em509 : m509 4 44 5 = a1 := by rw [hm509]; exact z_upd_same _ _ _ _ _
      refine X.iconst 22 i258_21 rfl rfl (by decide) ?_
      refine X.retz i258_22 rfl t258 (by omega) ?_
      exact hQ 1 m509 (by first | trivial | omega) (Eq.trans (if_neg h503c) (Eq.trans (if_pos h506c) (Eq.trans (zs_eq hm509) rfl))) (hJ510.up (by omega)) 
noncomputable def fl5_5_1_b (self : Int → zM → zM) (k20 : zM → zM) (g0 : Nat) (y1 y3 : Int) (y2 : Int) (m : zM) : zM :=
  if y3 ≤ y2 then
  (k20 m)
  else
  (zs (z_upd m g0 12 y2 y1) fun m505 =>
  self (y2 + 1) m505)
noncomputable def fl5_5_1 (k20 : zM → zM) (g0 : Nat) (y1 y3 : Int) : Nat → Int → zM → zM
  | 0 => fun y2 m => m
  | n + 1 => fl5_5_1_b (fl5_5_1 k20 g0 y1 y3 n) k20 g0 y1 y3
theorem l5_5_1 {s : Nat × (Nat → Int32)} {S : zS} {m0 : zM} {d : Nat} {Q : Option zV → zM → Prop} {R0 : zM} {k20 : zM → zM} (g0 : Nat) (y1 y3 : Int) (BE : Int) (hE : BE ≤ 1000000000) (hd : 13 ≤ d) (hy1 : 0 ≤ y1 ∧ y1 ≤ 0) (hy3 : 8 ≤ y3 ∧ y3 ≤ 8) (hf1 : ¬ S.1 1) (hgg0 : ¬ S.2.1 g0)
    (K20 : ∀ (m' : zM) (B' : Int), J S m0 B' m' → B' ≤ BE → R0 = k20 m' → X (EE s) d 5 20 [] [] m' Q) :
    ∀ (n : Nat) (y2 : Int) (m : zM) (B : Int), J S m0 B m → B + 0 * (n : Int) ≤ BE → (0 ≤ y2 ∧ y2 ≤ 8) → 8 - y2 < (n : Int) → R0 = fl5_5_1 k20 g0 y1 y3 n y2 m → X (EE s) d 5 5 [(0, zr g0 12), (1, zi y1), (2, zi y2), (3, zi y3)] [] m Q := by
  intro n
  induction n with
  | zero =>
    intro y2 m B hJ hB hy2 hn hR
    exfalso
    omega
  | succ n ih =>
    intro y2 m B hJ hB hy2 hn hR
    replace hR : R0 = fl5_5_1_b (fl5_5_1 k20 g0 y1 y3 n) k20 g0 y1 y3 y2 m := hR
    refine X.iload_n 6 i5_5 rfl rfl rfl ?_
    refine X.iload_n 7 i5_6 rfl rfl rfl ?_
    refine X.icmpge 20 10 i5_7 rfl rfl rfl (fun h504 => ?_) (fun h504 => ?_)
    · refine X.cut [] i5_20 rfl ?_
      exact K20  m (B) (hJ.up (by omega)) (by omega)  (Eq.trans hR (Eq.trans (if_pos h504) rfl))
    · refine X.aload_n 11 i5_10 rfl rfl rfl ?_
      refine X.iload_n 12 i5_11 rfl rfl rfl ?_
      refine X.iload_n 13 i5_12 rfl rfl rfl ?_
      refine X.iast' 14 i5_13 rfl rfl (by decide) rfl (by omega) (fun hrm505 m505 hm505 => ?_)
      have hJ506 := w12_0 hJ hm505 (by omega) (by omega) hf1 hgg0
      refine X.iinc 17 [(0, zr g0 12), (1, zi y1), (2, zi (y2 + 1)), (3, zi y3)] i5_14 rfl rfl rfl (by omega) rfl ?_
      refine X.goto 5 i5_17 rfl rfl ?_
      exact ih (y2 + 1) m505 (B) (hJ506.up (by omega)) (by omega) (by omega) (by omega) (Eq.trans hR (Eq.trans (if_neg h504) (Eq.trans (zs_eq hm505) rfl)))
-- java/util/Arrays.fill
noncomputable def f5_1 (g0 : Nat) (a1 : Int) (m : zM) : zM :=
  fl5_5_1 (fun m501 =>
  m501) g0 a1 8 (zfu 9) 0 m
-- java/util/Arrays.fill
theorem c5_1 {s : Nat × (Nat → Int32)} {S : zS} {m0 m : zM} {B : Int} {d : Nat} {Q : Option zV → zM → Prop} (g0 : Nat) (a1 : Int) (hd : 13 ≤ d) (hJ : J S m0 B m) (hB : B + 0 ≤ 1000000000) (ha1 : 0 ≤ a1 ∧ a1 ≤ 0) (hf1 : ¬ S.1 1) (hgg0 : ¬ S.2.1 g0) (hQ : ∀ m', f5_1 g0 a1 m = m' → J S m0 (B) m' → Q none m') : X (EE s) d 5 0 [(0, zr g0 12), (1, zi a1)] [] m Q := by
  refine X.iconst 1 i5_0 rfl rfl (by decide) ?_
  refine X.istore_n 2 [(0, zr g0 12), (1, zi a1), (2, zi 0)] i5_1 rfl rfl rfl ?_
  refine X.aload_n 3 i5_2 rfl rfl rfl ?_
  refine X.alen 4 i5_3 rfl rfl (by decide) rfl ?_
  show X (EE s) d 5 4 [(0, zr g0 12), (1, zi a1), (2, zi 0)] [zi 8] m _
  refine X.istore_n 5 [(0, zr g0 12), (1, zi a1), (2, zi 0), (3, zi 8)] i5_4 rfl rfl rfl ?_
  have hz9 := zfu_eq 9
  refine l5_5_1 (s := s) (d := d) (R0 := (f5_1 g0 a1 m)) g0 a1 8  (BE := B + 0) (by omega) (by omega) (by omega) (by omega) hf1 hgg0 (fun  m501 B502 hJ503 hBB502 hR504 => ?_) (zfu 9) 0 m (B) (hJ.up (by omega)) (by omega) (by omega) (by omega) rfl
  refine X.retv i5_20 rfl t5 ?_
  exact hQ  m501  (Eq.trans hR504 rfl) (hJ503.up (by omega)) 
noncomputable def fl5_5_2_b (self : Int → zM → zM) (k20 : zM → zM) (g0 : Nat) (y1 y3 : Int) (y2 : Int) (m : zM) : zM :=
  if y3 ≤ y2 then
  (k20 m)
  else
  (zs (z_upd m g0 15 y2 y1) fun m505 =>
  self (y2 + 1) m505)
noncomputable def fl5_5_2 (k20 : zM → zM) (g0 : Nat) (y1 y3 : Int) : Nat → Int → zM → zM
  | 0 => fun y2 m => m
  | n + 1 => fl5_5_2_b (fl5_5_2 k20 g0 y1 y3 n) k20 g0 y1 y3
theorem l5_5_2 {s : Nat × (Nat → Int32)} {S : zS} {m0 : zM} {d : Nat} {Q : Option zV → zM → Prop} {R0 : zM} {k20 : zM → zM} (g0 : Nat) (y1 y3 : Int) (BE : Int) (hE : BE ≤ 1000000000) (hd : 13 ≤ d) (hy1 : (-1) ≤ y1 ∧ y1 ≤ (-1)) (hy3 : 4 ≤ y3 ∧ y3 ≤ 4) (hf1 : ¬ S.1 1) (hgg0 : ¬ S.2.1 g0)
    (K20 : ∀ (m' : zM) (B' : Int), J S m0 B' m' → B' ≤ BE → R0 = k20 m' → X (EE s) d 5 20 [] [] m' Q) :
    ∀ (n : Nat) (y2 : Int) (m : zM) (B : Int), J S m0 B m → B + 0 * (n : Int) ≤ BE → (0 ≤ y2 ∧ y2 ≤ 4) → 4 - y2 < (n : Int) → R0 = fl5_5_2 k20 g0 y1 y3 n y2 m → X (EE s) d 5 5 [(0, zr g0 15), (1, zi y1), (2, zi y2), (3, zi y3)] [] m Q := by
  intro n
  induction n with
  | zero =>
    intro y2 m B hJ hB hy2 hn hR
    exfalso
    omega
  | succ n ih =>
    intro y2 m B hJ hB hy2 hn hR
    replace hR : R0 = fl5_5_2_b (fl5_5_2 k20 g0 y1 y3 n) k20 g0 y1 y3 y2 m := hR
    refine X.iload_n 6 i5_5 rfl rfl rfl ?_
    refine X.iload_n 7 i5_6 rfl rfl rfl ?_
    refine X.icmpge 20 10 i5_7 rfl rfl rfl (fun h504 => ?_) (fun h504 => ?_)
    · refine X.cut [] i5_20 rfl ?_
      exact K20  m (B) (hJ.up (by omega)) (by omega)  (Eq.trans hR (Eq.trans (if_pos h504) rfl))
    · refine X.aload_n 11 i5_10 rfl rfl rfl ?_
      refine X.iload_n 12 i5_11 rfl rfl rfl ?_
      refine X.iload_n 13 i5_12 rfl rfl rfl ?_
      refine X.iast' 14 i5_13 rfl rfl (by decide) rfl (by omega) (fun hrm505 m505 hm505 => ?_)
      have hJ506 := w15_0 hJ hm505 (by omega) (by omega) hf1 hgg0
      refine X.iinc 17 [(0, zr g0 15), (1, zi y1), (2, zi (y2 + 1)), (3, zi y3)] i5_14 rfl rfl rfl (by omega) rfl ?_
      refine X.goto 5 i5_17 rfl rfl ?_
      exact ih (y2 + 1) m505 (B) (hJ506.up (by omega)) (by omega) (by omega) (by omega) (Eq.trans hR (Eq.trans (if_neg h504) (Eq.trans (zs_eq hm505) rfl)))
-- java/util/Arrays.fill
noncomputable def f5_2 (g0 : Nat) (a1 : Int) (m : zM) : zM :=
  fl5_5_2 (fun m501 =>
  m501) g0 a1 4 (zfu 5) 0 m
-- java/util/Arrays.fill
theorem c5_2 {s : Nat × (Nat → Int32)} {S : zS} {m0 m : zM} {B : Int} {d : Nat} {Q : Option zV → zM → Prop} (g0 : Nat) (a1 : Int) (hd : 13 ≤ d) (hJ : J S m0 B m) (hB : B + 0 ≤ 1000000000) (ha1 : (-1) ≤ a1 ∧ a1 ≤ (-1)) (hf1 : ¬ S.1 1) (hgg0 : ¬ S.2.1 g0) (hQ : ∀ m', f5_2 g0 a1 m = m' → J S m0 (B) m' → Q none m') : X (EE s) d 5 0 [(0, zr g0 15), (1, zi a1)] [] m Q := by
  refine X.iconst 1 i5_0 rfl rfl (by decide) ?_
  refine X.istore_n 2 [(0, zr g0 15), (1, zi a1), (2, zi 0)] i5_1 rfl rfl rfl ?_
  refine X.aload_n 3 i5_2 rfl rfl rfl ?_
  refine X.alen 4 i5_3 rfl rfl (by decide) rfl ?_
  show X (EE s) d 5 4 [(0, zr g0 15), (1, zi a1), (2, zi 0)] [zi 4] m _
  refine X.istore_n 5 [(0, zr g0 15), (1, zi a1), (2, zi 0), (3, zi 4)] i5_4 rfl rfl rfl ?_
  have hz5 := zfu_eq 5
  refine l5_5_2 (s := s) (d := d) (R0 := (f5_2 g0 a1 m)) g0 a1 4  (BE := B + 0) (by omega) (by omega) (by omega) (by omega) hf1 hgg0 (fun  m501 B502 hJ503 hBB502 hR504 => ?_) (zfu 5) 0 m (B) (hJ.up (by omega)) (by omega) (by omega) (by omega) rfl
  refine X.retv i5_20 rfl t5 ?_
  exact hQ  m501  (Eq.trans hR504 rfl) (hJ503.up (by omega)) 
noncomputable def fl5_5_3_b (self : Int → zM → zM) (k20 : zM → zM) (g0 : Nat) (y1 y3 : Int) (y2 : Int) (m : zM) : zM :=
  if y3 ≤ y2 then
  (k20 m)
  else
  (zs (z_upd m g0 16 y2 y1) fun m505 =>
  self (y2 + 1) m505)
noncomputable def fl5_5_3 (k20 : zM → zM) (g0 : Nat) (y1 y3 : Int) : Nat → Int → zM → zM
  | 0 => fun y2 m => m
  | n + 1 => fl5_5_3_b (fl5_5_3 k20 g0 y1 y3 n) k20 g0 y1 y3
theorem l5_5_3 {s : Nat × (Nat → Int32)} {S : zS} {m0 : zM} {d : Nat} {Q : Option zV → zM → Prop} {R0 : zM} {k20 : zM → zM} (g0 : Nat) (y1 y3 : Int) (BE : Int) (hE : BE ≤ 1000000000) (hd : 13 ≤ d) (hy1 : 0 ≤ y1 ∧ y1 ≤ 0) (hy3 : 28 ≤ y3 ∧ y3 ≤ 28) (hf1 : ¬ S.1 1) (hgg0 : ¬ S.2.1 g0)
    (K20 : ∀ (m' : zM) (B' : Int), J S m0 B' m' → B' ≤ BE → R0 = k20 m' → X (EE s) d 5 20 [] [] m' Q) :
    ∀ (n : Nat) (y2 : Int) (m : zM) (B : Int), J S m0 B m → B + 0 * (n : Int) ≤ BE → (0 ≤ y2 ∧ y2 ≤ 28) → 28 - y2 < (n : Int) → R0 = fl5_5_3 k20 g0 y1 y3 n y2 m → X (EE s) d 5 5 [(0, zr g0 16), (1, zi y1), (2, zi y2), (3, zi y3)] [] m Q := by
  intro n
  induction n with
  | zero =>
    intro y2 m B hJ hB hy2 hn hR
    exfalso
    omega
  | succ n ih =>
    intro y2 m B hJ hB hy2 hn hR
    replace hR : R0 = fl5_5_3_b (fl5_5_3 k20 g0 y1 y3 n) k20 g0 y1 y3 y2 m := hR
    refine X.iload_n 6 i5_5 rfl rfl rfl ?_
    refine X.iload_n 7 i5_6 rfl rfl rfl ?_
    refine X.icmpge 20 10 i5_7 rfl rfl rfl (fun h504 => ?_) (fun h504 => ?_)
    · refine X.cut [] i5_20 rfl ?_
      exact K20  m (B) (hJ.up (by omega)) (by omega)  (Eq.trans hR (Eq.trans (if_pos h504) rfl))
    · refine X.aload_n 11 i5_10 rfl rfl rfl ?_
      refine X.iload_n 12 i5_11 rfl rfl rfl ?_
      refine X.iload_n 13 i5_12 rfl rfl rfl ?_
      refine X.iast' 14 i5_13 rfl rfl (by decide) rfl (by omega) (fun hrm505 m505 hm505 => ?_)
      have hJ506 := w16_0 hJ hm505 (by omega) (by omega) hf1 hgg0
      refine X.iinc 17 [(0, zr g0 16), (1, zi y1), (2, zi (y2 + 1)), (3, zi y3)] i5_14 rfl rfl rfl (by omega) rfl ?_
      refine X.goto 5 i5_17 rfl rfl ?_
      exact ih (y2 + 1) m505 (B) (hJ506.up (by omega)) (by omega) (by omega) (by omega) (Eq.trans hR (Eq.trans (if_neg h504) (Eq.trans (zs_eq hm505) rfl)))
-- java/util/Arrays.fill
noncomputable def f5_3 (g0 : Nat) (a1 : Int) (m : zM) : zM :=
  fl5_5_3 (fun m501 =>
  m501) g0 a1 28 (zfu 29) 0 m
-- java/util/Arrays.fill
theorem c5_3 {s : Nat × (Nat → Int32)} {S : zS} {m0 m : zM} {B : Int} {d : Nat} {Q : Option zV → zM → Prop} (g0 : Nat) (a1 : Int) (hd : 13 ≤ d) (hJ : J S m0 B m) (hB : B + 0 ≤ 1000000000) (ha1 : 0 ≤ a1 ∧ a1 ≤ 0) (hf1 : ¬ S.1 1) (hgg0 : ¬ S.2.1 g0) (hQ : ∀ m', f5_3 g0 a1 m = m' → J S m0 (B) m' → Q none m') : X (EE s) d 5 0 [(0, zr g0 16), (1, zi a1)] [] m Q := by
  refine X.iconst 1 i5_0 rfl rfl (by decide) ?_
  refine X.istore_n 2 [(0, zr g0 16), (1, zi a1), (2, zi 0)] i5_1 rfl rfl rfl ?_
  refine X.aload_n 3 i5_2 rfl rfl rfl ?_
  refine X.alen 4 i5_3 rfl rfl (by decide) rfl ?_
  show X (EE s) d 5 4 [(0, zr g0 16), (1, zi a1), (2, zi 0)] [zi 28] m _
  refine X.istore_n 5 [(0, zr g0 16), (1, zi a1), (2, zi 0), (3, zi 28)] i5_4 rfl rfl rfl ?_
  have hz29 := zfu_eq 29
  refine l5_5_3 (s := s) (d := d) (R0 := (f5_3 g0 a1 m)) g0 a1 28  (BE := B + 0) (by omega) (by omega) (by omega) (by omega) hf1 hgg0 (fun  m501 B502 hJ503 hBB502 hR504 => ?_) (zfu 29) 0 m (B) (hJ.up (by omega)) (by omega) (by omega) (by omega) rfl
  refine X.retv i5_20 rfl t5 ?_
  exact hQ  m501  (Eq.trans hR504 rfl) (hJ503.up (by omega)) 
-- WorkMeter$Calendar.clearAll
noncomputable def f4_1 (g0 : Nat) (m : zM) : zM :=
  zs (f5_1 g0 0 m) fun m501 =>
  zs (f5_2 g0 (-1) m501) fun m504 =>
  zs (z_upd m504 g0 15 0 0) fun m507 =>
  zs (f5_3 g0 0 m507) fun m509 =>
  zs (z_upd m509 g0 11 7 0) fun m512 =>
  m512
-- WorkMeter$Calendar.clearAll
theorem c4_1 {s : Nat × (Nat → Int32)} {S : zS} {m0 m : zM} {B : Int} {d : Nat} {Q : Option zV → zM → Prop} (g0 : Nat) (hd : 14 ≤ d) (hJ : J S m0 B m) (hB : B + 0 ≤ 1000000000) (hf1 : ¬ S.1 1) (hgg0 : ¬ S.2.1 g0) (hQ : ∀ m', f4_1 g0 m = m' → J S m0 (B) m' → Q none m') : X (EE s) d 4 0 [(0, zr g0 11)] [] m Q := by
  refine X.aload_n 1 i4_0 rfl rfl rfl ?_
  refine X.getR 4 i4_1 rfl rfl (by decide) rfl rfl ?_
  refine X.iconst 5 i4_4 rfl rfl (by decide) ?_
  refine X.calls 8 [zr g0 12, zi 0] [] [(0, zr g0 12), (1, zi 0)] i4_5 (by decide) rfl rfl (by omega) rfl rfl t5 (Nat.le_of_ble_eq_true rfl) (Nat.le_of_ble_eq_true rfl) rfl ?_
  refine c5_1 (B := B) g0 0 (by omega) (hJ.up (by omega)) (by omega) (by omega) hf1 hgg0 (fun m501 hFv503 hJ502 => ?_)
  show X (EE s) d 4 8 [(0, zr g0 11)] [] m501 _
  refine X.aload_n 9 i4_8 rfl rfl rfl ?_
  refine X.getR 12 i4_9 rfl rfl (by decide) rfl rfl ?_
  refine X.iconst 13 i4_12 rfl rfl (by decide) ?_
  refine X.calls 16 [zr g0 15, zi (-1)] [] [(0, zr g0 15), (1, zi (-1))] i4_13 (by decide) rfl rfl (by omega) rfl rfl t5 (Nat.le_of_ble_eq_true rfl) (Nat.le_of_ble_eq_true rfl) rfl ?_
  refine c5_2 (B := B) g0 (-1) (by omega) (hJ502.up (by omega)) (by omega) (by omega) hf1 hgg0 (fun m504 hFv506 hJ505 => ?_)
  show X (EE s) d 4 16 [(0, zr g0 11)] [] m504 _
  refine X.aload_n 17 i4_16 rfl rfl rfl ?_
  refine X.getR 20 i4_17 rfl rfl (by decide) rfl rfl ?_
  refine X.iconst 21 i4_20 rfl rfl (by decide) ?_
  refine X.iconst 22 i4_21 rfl rfl (by decide) ?_
  refine X.iast' 23 i4_22 rfl rfl (by decide) rfl (by omega) (fun hrm507 m507 hm507 => ?_)
  have hJ508 := w15_0 hJ505 hm507 (by omega) (by omega) hf1 hgg0
  refine X.aload_n 24 i4_23 rfl rfl rfl ?_
  refine X.getR 27 i4_24 rfl rfl (by decide) rfl rfl ?_
  refine X.iconst 28 i4_27 rfl rfl (by decide) ?_
  refine X.calls 31 [zr g0 16, zi 0] [] [(0, zr g0 16), (1, zi 0)] i4_28 (by decide) rfl rfl (by omega) rfl rfl t5 (Nat.le_of_ble_eq_true rfl) (Nat.le_of_ble_eq_true rfl) rfl ?_
  refine c5_3 (B := B) g0 0 (by omega) (hJ508.up (by omega)) (by omega) (by omega) hf1 hgg0 (fun m509 hFv511 hJ510 => ?_)
  show X (EE s) d 4 31 [(0, zr g0 11)] [] m509 _
  refine X.aload_n 32 i4_31 rfl rfl rfl ?_
  refine X.iconst 33 i4_32 rfl rfl (by decide) ?_
  refine X.putI' 36 7 i4_33 rfl rfl (by decide) rfl rfl rfl (fun hrm512 m512 hm512 => ?_)
  have hJ513 := w11_7 hJ510 hm512 (by omega) hf1 hgg0
  have em512 : m512 g0 11 7 = 0 := by rw [hm512]; exact z_upd_same _ _ _ _ _
  refine X.retv i4_36 rfl t4 ?_
  exact hQ  m512  (Eq.trans (zs_eq hFv503.symm) (Eq.trans (zs_eq hFv506.symm) (Eq.trans (zs_eq hm507) (Eq.trans (zs_eq hFv511.symm) (Eq.trans (zs_eq hm512) rfl))))) (hJ513.up (by omega)) 
noncomputable def fl93_0_1_b (self : zM → zM) (k38 : zM → zM) (m : zM) : zM :=
  if (m 4 41 3) ≤ (m 4 41 7) then
  (k38 m)
  else
  (if (m 4 42 (m 4 41 7)) = 32 then
  (zs (z_upd m 4 41 7 ((m 4 41 7) + 1)) fun m513 =>
  self m513)
  else
  (k38 m))
noncomputable def fl93_0_1 (k38 : zM → zM) : Nat → zM → zM
  | 0 => fun m => m
  | n + 1 => fl93_0_1_b (fl93_0_1 k38 n) k38
theorem l93_0_1 {s : Nat × (Nat → Int32)} {S : zS} {m0 : zM} {d : Nat} {Q : Option zV → zM → Prop} {R0 : zM} {k38 : zM → zM} (BE : Int) (hE : BE ≤ 1000000000) (hd : 13 ≤ d) (hf19 : ¬ S.1 19) (hg4 : ¬ S.2.1 4)
    (K38 : ∀ (m' : zM) (B' : Int), J S m0 B' m' → B' ≤ BE → R0 = k38 m' → X (EE s) d 93 38 [] [] m' Q) :
    ∀ (n : Nat) (m : zM) (B : Int), J S m0 B m → B + 0 * (n : Int) ≤ BE → 300 - m 4 41 7 < (n : Int) → R0 = fl93_0_1 k38 n m → X (EE s) d 93 0 [(0, zr 4 41)] [] m Q := by
  intro n
  induction n with
  | zero =>
    intro  m B hJ hB  hn hR
    have zf0 := r41_7 hJ 4
    exfalso
    omega
  | succ n ih =>
    intro  m B hJ hB  hn hR
    replace hR : R0 = fl93_0_1_b (fl93_0_1 k38 n) k38 m := hR
    refine X.aload_n 1 i93_0 rfl rfl rfl ?_
    refine X.getI 4 7 i93_1 rfl rfl (by decide) rfl rfl rfl ?_
    have h508 := r41_7 hJ 4
    refine X.aload_n 5 i93_4 rfl rfl rfl ?_
    refine X.getI 8 3 i93_5 rfl rfl (by decide) rfl rfl rfl ?_
    have h509 := r41_3 hJ 4
    refine X.icmpge 38 11 i93_8 rfl rfl rfl (fun h510 => ?_) (fun h510 => ?_)
    · refine X.cut [] i93_38 rfl ?_
      exact K38  m (B) (hJ.up (by omega)) (by omega)  (Eq.trans hR (Eq.trans (if_pos h510) rfl))
    · refine X.aload_n 12 i93_11 rfl rfl rfl ?_
      refine X.getF 15 i93_12 rfl rfl (by decide) rfl rfl ?_
      refine X.aload_n 16 i93_15 rfl rfl rfl ?_
      refine X.getI 19 7 i93_16 rfl rfl (by decide) rfl rfl rfl ?_
      refine X.iald 20 i93_19 rfl rfl (by decide) rfl (by omega) ?_
      have h511 := r42_0 hJ 4 (i := (m 4 41 7)) (by omega)
      refine X.bipush 22 i93_20 rfl rfl (by decide) ?_
      refine X.icmpne 38 25 i93_22 rfl rfl rfl (fun h512 => ?_) (fun h512 => ?_)
      · refine X.cut [] i93_38 rfl ?_
        exact K38  m (B) (hJ.up (by omega)) (by omega)  (Eq.trans hR (Eq.trans (if_neg h510) (Eq.trans (if_neg h512) rfl)))
      · refine X.aload_n 26 i93_25 rfl rfl rfl ?_
        refine X.dup 27 i93_26 rfl rfl rfl ?_
        refine X.getI 30 7 i93_27 rfl rfl (by decide) rfl rfl rfl ?_
        refine X.iconst 31 i93_30 rfl rfl (by decide) ?_
        refine X.iadd 32 i93_31 rfl rfl (by omega) ?_
        refine X.putI' 35 7 i93_32 rfl rfl (by decide) rfl rfl rfl (fun hrm513 m513 hm513 => ?_)
        have hJ514 := w41_7 hJ hm513 (by omega) hf19 hg4
        have em513 : m513 4 41 7 = ((m 4 41 7) + 1) := by rw [hm513]; exact z_upd_same _ _ _ _ _
        refine X.goto 0 i93_35 rfl rfl ?_
        exact ih  m513 (B) (hJ514.up (by omega)) (by omega)  (by omega) (Eq.trans hR (Eq.trans (if_neg h510) (Eq.trans (if_pos h512) (Eq.trans (zs_eq hm513) rfl))))
-- WorkMeter$CalendarText.skipBlanks
noncomputable def f93_1 (m : zM) : zM :=
  fl93_0_1 (fun m501 =>
  m501) (zfu 301) m
-- WorkMeter$CalendarText.skipBlanks
theorem c93_1 {s : Nat × (Nat → Int32)} {S : zS} {m0 m : zM} {B : Int} {d : Nat} {Q : Option zV → zM → Prop} (hd : 13 ≤ d) (hJ : J S m0 B m) (hB : B + 0 ≤ 1000000000) (hf19 : ¬ S.1 19) (hg4 : ¬ S.2.1 4) (hQ : ∀ m', f93_1 m = m' → J S m0 (B) m' → Q none m') : X (EE s) d 93 0 [(0, zr 4 41)] [] m Q := by
  have hz301 := zfu_eq 301
  have zf505 := r41_7 hJ 4
  refine l93_0_1 (s := s) (d := d) (R0 := (f93_1 m))    (BE := B + 0) (by omega) (by omega) hf19 hg4 (fun  m501 B502 hJ503 hBB502 hR504 => ?_) (zfu 301)  m (B) (hJ.up (by omega)) (by omega)  (by omega) rfl
  refine X.retv i93_38 rfl t93 ?_
  exact hQ  m501  (Eq.trans hR504 rfl) (hJ503.up (by omega)) 
noncomputable def fl95_5_1_b (self : Int → Int) (k41 : Int → Int) (m : zM) (y1 : Int) : Int :=
  if (m 4 41 3) ≤ y1 then
  (k41 y1)
  else
  (if (m 4 42 y1) < 97 then
  (k41 y1)
  else
  (if 122 < (m 4 42 y1) then
  (k41 y1)
  else
  (self (y1 + 1))))
noncomputable def fl95_5_1 (k41 : Int → Int) (m : zM) : Nat → Int → Int
  | 0 => fun y1 => 0
  | n + 1 => fl95_5_1_b (fl95_5_1 k41 m n) k41 m
theorem l95_5_1 {s : Nat × (Nat → Int32)} {S : zS} {m0 : zM} {m : zM} {B : Int} {d : Nat} {Q : Option zV → zM → Prop} {R0 : Int} {k41 : Int → Int} (hd : 13 ≤ d) (hJ : J S m0 B m) (hB9 : B ≤ 1000000000)
    (K41 : ∀ (x1 : Int) , (0 ≤ x1 ∧ x1 ≤ 300) → R0 = k41 x1 → X (EE s) d 95 41 [(0, zr 4 41), (1, zi x1)] [] m Q) :
    ∀ (n : Nat) (y1 : Int) , (0 ≤ y1 ∧ y1 ≤ 300) → 300 - y1 < (n : Int) → R0 = fl95_5_1 k41 m n y1 → X (EE s) d 95 5 [(0, zr 4 41), (1, zi y1)] [] m Q := by
  intro n
  induction n with
  | zero =>
    intro y1 hy1 hn hR
    exfalso
    omega
  | succ n ih =>
    intro y1 hy1 hn hR
    replace hR : R0 = fl95_5_1_b (fl95_5_1 k41 m n) k41 m y1 := hR
    refine X.iload_n 6 i95_5 rfl rfl rfl ?_
    refine X.aload_n 7 i95_6 rfl rfl rfl ?_
    refine X.getI 10 3 i95_7 rfl rfl (by decide) rfl rfl rfl ?_
    have h507 := r41_3 hJ 4
    refine X.icmpge 41 13 i95_10 rfl rfl rfl (fun h508 => ?_) (fun h508 => ?_)
    · exact K41 y1 (by first | trivial | omega) (Eq.trans hR (Eq.trans (if_pos h508) rfl))
    · refine X.aload_n 14 i95_13 rfl rfl rfl ?_
      refine X.getF 17 i95_14 rfl rfl (by decide) rfl rfl ?_
      refine X.iload_n 18 i95_17 rfl rfl rfl ?_
      refine X.iald 19 i95_18 rfl rfl (by decide) rfl (by omega) ?_
      have h509 := r42_0 hJ 4 (i := y1) (by omega)
      refine X.bipush 21 i95_19 rfl rfl (by decide) ?_
      refine X.icmplt 41 24 i95_21 rfl rfl rfl (fun h510 => ?_) (fun h510 => ?_)
      · exact K41 y1 (by first | trivial | omega) (Eq.trans hR (Eq.trans (if_neg h508) (Eq.trans (if_pos h510) rfl)))
      · refine X.aload_n 25 i95_24 rfl rfl rfl ?_
        refine X.getF 28 i95_25 rfl rfl (by decide) rfl rfl ?_
        refine X.iload_n 29 i95_28 rfl rfl rfl ?_
        refine X.iald 30 i95_29 rfl rfl (by decide) rfl (by omega) ?_
        refine X.bipush 32 i95_30 rfl rfl (by decide) ?_
        refine X.icmpgt 41 35 i95_32 rfl rfl rfl (fun h511 => ?_) (fun h511 => ?_)
        · exact K41 y1 (by first | trivial | omega) (Eq.trans hR (Eq.trans (if_neg h508) (Eq.trans (if_neg h510) (Eq.trans (if_pos h511) rfl))))
        · refine X.iinc 38 [(0, zr 4 41), (1, zi (y1 + 1))] i95_35 rfl rfl rfl (by omega) rfl ?_
          refine X.goto 5 i95_38 rfl rfl ?_
          exact ih (y1 + 1) (by omega) (by omega) (Eq.trans hR (Eq.trans (if_neg h508) (Eq.trans (if_neg h510) (Eq.trans (if_neg h511) rfl))))
-- WorkMeter$CalendarText.lettersHere
noncomputable def f95_1 (m : zM) : Int :=
  fl95_5_1 (fun y502 =>
  (y502 - (m 4 41 7))) m (zfu 301) (m 4 41 7)
-- WorkMeter$CalendarText.lettersHere
theorem c95_1 {s : Nat × (Nat → Int32)} {S : zS} {m0 m : zM} {B : Int} {d : Nat} {Q : Option zV → zM → Prop} (hd : 13 ≤ d) (hJ : J S m0 B m) (hB : B + 0 ≤ 1000000000) (hQ : ∀ (v : Int), ((-300) ≤ v ∧ v ≤ 300) → f95_1 m = v → Q (some (zi v)) m) : X (EE s) d 95 0 [(0, zr 4 41)] [] m Q := by
  refine X.aload_n 1 i95_0 rfl rfl rfl ?_
  refine X.getI 4 7 i95_1 rfl rfl (by decide) rfl rfl rfl ?_
  have h501 := r41_7 hJ 4
  refine X.istore_n 5 [(0, zr 4 41), (1, zi (m 4 41 7))] i95_4 rfl rfl rfl ?_
  have hz301 := zfu_eq 301
  refine l95_5_1 (s := s) (m := m) (B := B) (d := d) (R0 := (f95_1 m))    (by omega) (hJ.up (by omega)) (by omega) (fun y502 hby502 hR506 => ?_) (zfu 301) (m 4 41 7) (by omega) (by omega) rfl
  refine X.iload_n 42 i95_41 rfl rfl rfl ?_
  refine X.aload_n 43 i95_42 rfl rfl rfl ?_
  refine X.getI 46 7 i95_43 rfl rfl (by decide) rfl rfl rfl ?_
  refine X.isub 47 i95_46 rfl rfl (by omega) ?_
  refine X.reti i95_47 rfl t95 ?_
  exact hQ (y502 - (m 4 41 7)) (by first | trivial | omega) (Eq.trans hR506 rfl) 
noncomputable def fl96_25_1_b (self : Int → Int) (k49 : Int → Int) (k57 : Int) (y2 : Int) (m : zM) (y3 : Int) : Int :=
  if y2 ≤ y3 then
  (k57)
  else
  (zn (zch 4 y3) fun z509 =>
  if (m 4 42 ((m 4 41 7) + y3)) = z509 then
  (self (y3 + 1))
  else
  (k49 y3))
noncomputable def fl96_25_1 (k49 : Int → Int) (k57 : Int) (y2 : Int) (m : zM) : Nat → Int → Int
  | 0 => fun y3 => 0
  | n + 1 => fl96_25_1_b (fl96_25_1 k49 k57 y2 m n) k49 k57 y2 m
theorem l96_25_1 {s : Nat × (Nat → Int32)} {S : zS} {m0 : zM} {m : zM} {B : Int} {d : Nat} {Q : Option zV → zM → Prop} {R0 : Int} {k49 : Int → Int} {k57 : Int} (y2 : Int) (hd : 13 ≤ d) (hJ : J S m0 B m) (hB9 : B ≤ 1000000000) (hy2 : 5 ≤ y2 ∧ y2 ≤ 5)
    (K49 : ∀ (x3 : Int) , (0 ≤ x3 ∧ x3 ≤ 4) → (m 4 41 7 + y2 ≤ 300) → R0 = k49 x3 → X (EE s) d 96 49 [(0, zr 4 41), (1, zr 99 4), (2, zi y2), (3, zi x3)] [] m Q)
    (K57 : (m 4 41 7 + y2 ≤ 300) → R0 = k57 → X (EE s) d 96 57 [] [] m Q) :
    ∀ (n : Nat) (y3 : Int) , (0 ≤ y3 ∧ y3 ≤ 5) → (m 4 41 7 + y2 ≤ 300) → 5 - y3 < (n : Int) → R0 = fl96_25_1 k49 k57 y2 m n y3 → X (EE s) d 96 25 [(0, zr 4 41), (1, zr 99 4), (2, zi y2), (3, zi y3)] [] m Q := by
  intro n
  induction n with
  | zero =>
    intro y3 hy3 hr0 hn hR
    exfalso
    omega
  | succ n ih =>
    intro y3 hy3 hr0 hn hR
    replace hR : R0 = fl96_25_1_b (fl96_25_1 k49 k57 y2 m n) k49 k57 y2 m y3 := hR
    refine X.iload_n 26 i96_25 rfl rfl rfl ?_
    refine X.iload_n 27 i96_26 rfl rfl rfl ?_
    refine X.icmpge 57 30 i96_27 rfl rfl rfl (fun h506 => ?_) (fun h506 => ?_)
    · refine X.cut [] i96_57 rfl ?_
      exact K57  (by omega) (Eq.trans hR (Eq.trans (if_pos h506) rfl))
    · refine X.aload_n 31 i96_30 rfl rfl rfl ?_
      refine X.getF 34 i96_31 rfl rfl (by decide) rfl rfl ?_
      refine X.aload_n 35 i96_34 rfl rfl rfl ?_
      refine X.getI 38 7 i96_35 rfl rfl (by decide) rfl rfl rfl ?_
      have h507 := r41_7 hJ 4
      refine X.iload_n 39 i96_38 rfl rfl rfl ?_
      refine X.iadd 40 i96_39 rfl rfl (by omega) ?_
      refine X.iald 41 i96_40 rfl rfl (by decide) rfl (by omega) ?_
      have h508 := r42_0 hJ 4 (i := ((m 4 41 7) + y3)) (by omega)
      refine X.aload_n 42 i96_41 rfl rfl rfl ?_
      refine X.iload_n 43 i96_42 rfl rfl rfl ?_
      refine X.schar 46 i96_43 rfl rfl (by omega) (Nat.le_of_ble_eq_true rfl) (by decide) (by show 0 ≤ _ ∧ _ < (5 : Int); omega) ?_
      obtain ⟨z509, ez509⟩ : ∃ z, z = zch 4 y3 := ⟨_, rfl⟩
      show X (EE s) d 96 46 [(0, zr 4 41), (1, zr 99 4), (2, zi y2), (3, zi y3)] [zi (zch 4 y3), zi (m 4 42 ((m 4 41 7) + y3))] m _
      rw [← ez509]
      refine X.icmpeq 51 49 i96_46 rfl rfl rfl (fun h510 => ?_) (fun h510 => ?_)
      · refine X.iinc 54 [(0, zr 4 41), (1, zr 99 4), (2, zi y2), (3, zi (y3 + 1))] i96_51 rfl rfl rfl (by omega) rfl ?_
        refine X.goto 25 i96_54 rfl rfl ?_
        exact ih (y3 + 1) (by omega) (by omega) (by omega) (Eq.trans hR (Eq.trans (if_neg h506) (Eq.trans (zn_eq ez509) (Eq.trans (if_pos h510) rfl))))
      · exact K49 y3 (by first | trivial | omega) (by omega) (Eq.trans hR (Eq.trans (if_neg h506) (Eq.trans (zn_eq ez509) (Eq.trans (if_neg h510) rfl))))
-- WorkMeter$CalendarText.spells
noncomputable def f96_1 (a2 : Int) (m : zM) : Int :=
  if a2 = 5 then
  (if ((m 4 41 7) + a2) ≤ (m 4 41 3) then
  (fl96_25_1 (fun y505 =>
  0) (1) a2 m (zfu 6) 0)
  else
  (0))
  else
  (0)
-- WorkMeter$CalendarText.spells
theorem c96_1 {s : Nat × (Nat → Int32)} {S : zS} {m0 m : zM} {B : Int} {d : Nat} {Q : Option zV → zM → Prop} (a2 : Int) (hd : 13 ≤ d) (hJ : J S m0 B m) (hB : B + 0 ≤ 1000000000) (ha2 : (-300) ≤ a2 ∧ a2 ≤ 300) (hQ : ∀ (v : Int), (0 ≤ v ∧ v ≤ 1) → f96_1 a2 m = v → (v = 1 → m 4 41 7 + 5 ≤ 300) → Q (some (zi v)) m) : X (EE s) d 96 0 [(0, zr 4 41), (1, zr 99 4), (2, zi a2)] [] m Q := by
  have f0 := r41_3 hJ 4
  refine X.iload_n 1 i96_0 rfl rfl rfl ?_
  refine X.aload_n 2 i96_1 rfl rfl rfl ?_
  refine X.slen 5 i96_2 rfl rfl (by omega) (Nat.le_of_ble_eq_true rfl) (by decide) (show (5 : Nat) < 2147483648 by decide) ?_
  show X (EE s) d 96 5 [(0, zr 4 41), (1, zr 99 4), (2, zi a2)] [zi 5, zi a2] m _
  refine X.icmpne 21 8 i96_5 rfl rfl rfl (fun h501 => ?_) (fun h501 => ?_)
  · refine X.cut [] i96_21 rfl ?_
    refine X.iconst 22 i96_21 rfl rfl (by decide) ?_
    refine X.retz i96_22 rfl t96 (by omega) ?_
    exact hQ 0 (by first | trivial | omega) (Eq.trans (if_neg h501) rfl) (by omega)
  · refine X.aload_n 9 i96_8 rfl rfl rfl ?_
    refine X.getI 12 7 i96_9 rfl rfl (by decide) rfl rfl rfl ?_
    have h502 := r41_7 hJ 4
    refine X.iload_n 13 i96_12 rfl rfl rfl ?_
    refine X.iadd 14 i96_13 rfl rfl (by omega) ?_
    refine X.aload_n 15 i96_14 rfl rfl rfl ?_
    refine X.getI 18 3 i96_15 rfl rfl (by decide) rfl rfl rfl ?_
    have h503 := r41_3 hJ 4
    refine X.icmple 23 21 i96_18 rfl rfl rfl (fun h504 => ?_) (fun h504 => ?_)
    · refine X.iconst 24 i96_23 rfl rfl (by decide) ?_
      refine X.istore_n 25 [(0, zr 4 41), (1, zr 99 4), (2, zi a2), (3, zi 0)] i96_24 rfl rfl rfl ?_
      have hz6 := zfu_eq 6
      refine l96_25_1 (s := s) (m := m) (B := B) (d := d) (R0 := (f96_1 a2 m))  a2  (by omega) (hJ.up (by omega)) (by omega) (by omega) (fun y505 hby505 hrlm506_0 hR509 => ?_) (fun  hrlm510_0 hR513 => ?_) (zfu 6) 0 (by omega) (by omega) (by omega) (Eq.trans (if_pos h501) (Eq.trans (if_pos h504) rfl))
      · refine X.iconst 50 i96_49 rfl rfl (by decide) ?_
        refine X.retz i96_50 rfl t96 (by omega) ?_
        exact hQ 0 (by first | trivial | omega) (Eq.trans hR509 rfl) (by omega)
      · refine X.iconst 58 i96_57 rfl rfl (by decide) ?_
        refine X.retz i96_58 rfl t96 (by omega) ?_
        exact hQ 1 (by first | trivial | omega) (Eq.trans hR513 rfl) (by omega)
    · refine X.cut [] i96_21 rfl ?_
      refine X.iconst 22 i96_21 rfl rfl (by decide) ?_
      refine X.retz i96_22 rfl t96 (by omega) ?_
      exact hQ 0 (by first | trivial | omega) (Eq.trans (if_pos h501) (Eq.trans (if_neg h504) rfl)) (by omega)
noncomputable def fl96_25_2_b (self : Int → Int) (k49 : Int → Int) (k57 : Int) (y2 : Int) (m : zM) (y3 : Int) : Int :=
  if y2 ≤ y3 then
  (k57)
  else
  (zn (zch 5 y3) fun z509 =>
  if (m 4 42 ((m 4 41 7) + y3)) = z509 then
  (self (y3 + 1))
  else
  (k49 y3))
noncomputable def fl96_25_2 (k49 : Int → Int) (k57 : Int) (y2 : Int) (m : zM) : Nat → Int → Int
  | 0 => fun y3 => 0
  | n + 1 => fl96_25_2_b (fl96_25_2 k49 k57 y2 m n) k49 k57 y2 m
theorem l96_25_2 {s : Nat × (Nat → Int32)} {S : zS} {m0 : zM} {m : zM} {B : Int} {d : Nat} {Q : Option zV → zM → Prop} {R0 : Int} {k49 : Int → Int} {k57 : Int} (y2 : Int) (hd : 13 ≤ d) (hJ : J S m0 B m) (hB9 : B ≤ 1000000000) (hy2 : 6 ≤ y2 ∧ y2 ≤ 6)
    (K49 : ∀ (x3 : Int) , (0 ≤ x3 ∧ x3 ≤ 5) → (m 4 41 7 + y2 ≤ 300) → R0 = k49 x3 → X (EE s) d 96 49 [(0, zr 4 41), (1, zr 99 5), (2, zi y2), (3, zi x3)] [] m Q)
    (K57 : (m 4 41 7 + y2 ≤ 300) → R0 = k57 → X (EE s) d 96 57 [] [] m Q) :
    ∀ (n : Nat) (y3 : Int) , (0 ≤ y3 ∧ y3 ≤ 6) → (m 4 41 7 + y2 ≤ 300) → 6 - y3 < (n : Int) → R0 = fl96_25_2 k49 k57 y2 m n y3 → X (EE s) d 96 25 [(0, zr 4 41), (1, zr 99 5), (2, zi y2), (3, zi y3)] [] m Q := by
  intro n
  induction n with
  | zero =>
    intro y3 hy3 hr0 hn hR
    exfalso
    omega
  | succ n ih =>
    intro y3 hy3 hr0 hn hR
    replace hR : R0 = fl96_25_2_b (fl96_25_2 k49 k57 y2 m n) k49 k57 y2 m y3 := hR
    refine X.iload_n 26 i96_25 rfl rfl rfl ?_
    refine X.iload_n 27 i96_26 rfl rfl rfl ?_
    refine X.icmpge 57 30 i96_27 rfl rfl rfl (fun h506 => ?_) (fun h506 => ?_)
    · refine X.cut [] i96_57 rfl ?_
      exact K57  (by omega) (Eq.trans hR (Eq.trans (if_pos h506) rfl))
    · refine X.aload_n 31 i96_30 rfl rfl rfl ?_
      refine X.getF 34 i96_31 rfl rfl (by decide) rfl rfl ?_
      refine X.aload_n 35 i96_34 rfl rfl rfl ?_
      refine X.getI 38 7 i96_35 rfl rfl (by decide) rfl rfl rfl ?_
      have h507 := r41_7 hJ 4
      refine X.iload_n 39 i96_38 rfl rfl rfl ?_
      refine X.iadd 40 i96_39 rfl rfl (by omega) ?_
      refine X.iald 41 i96_40 rfl rfl (by decide) rfl (by omega) ?_
      have h508 := r42_0 hJ 4 (i := ((m 4 41 7) + y3)) (by omega)
      refine X.aload_n 42 i96_41 rfl rfl rfl ?_
      refine X.iload_n 43 i96_42 rfl rfl rfl ?_
      refine X.schar 46 i96_43 rfl rfl (by omega) (Nat.le_of_ble_eq_true rfl) (by decide) (by show 0 ≤ _ ∧ _ < (6 : Int); omega) ?_
      obtain ⟨z509, ez509⟩ : ∃ z, z = zch 5 y3 := ⟨_, rfl⟩
      show X (EE s) d 96 46 [(0, zr 4 41), (1, zr 99 5), (2, zi y2), (3, zi y3)] [zi (zch 5 y3), zi (m 4 42 ((m 4 41 7) + y3))] m _
      rw [← ez509]
      refine X.icmpeq 51 49 i96_46 rfl rfl rfl (fun h510 => ?_) (fun h510 => ?_)
      · refine X.iinc 54 [(0, zr 4 41), (1, zr 99 5), (2, zi y2), (3, zi (y3 + 1))] i96_51 rfl rfl rfl (by omega) rfl ?_
        refine X.goto 25 i96_54 rfl rfl ?_
        exact ih (y3 + 1) (by omega) (by omega) (by omega) (Eq.trans hR (Eq.trans (if_neg h506) (Eq.trans (zn_eq ez509) (Eq.trans (if_pos h510) rfl))))
      · exact K49 y3 (by first | trivial | omega) (by omega) (Eq.trans hR (Eq.trans (if_neg h506) (Eq.trans (zn_eq ez509) (Eq.trans (if_neg h510) rfl))))
-- WorkMeter$CalendarText.spells
noncomputable def f96_2 (a2 : Int) (m : zM) : Int :=
  if a2 = 6 then
  (if ((m 4 41 7) + a2) ≤ (m 4 41 3) then
  (fl96_25_2 (fun y505 =>
  0) (1) a2 m (zfu 7) 0)
  else
  (0))
  else
  (0)
-- WorkMeter$CalendarText.spells
theorem c96_2 {s : Nat × (Nat → Int32)} {S : zS} {m0 m : zM} {B : Int} {d : Nat} {Q : Option zV → zM → Prop} (a2 : Int) (hd : 13 ≤ d) (hJ : J S m0 B m) (hB : B + 0 ≤ 1000000000) (ha2 : (-300) ≤ a2 ∧ a2 ≤ 300) (hQ : ∀ (v : Int), (0 ≤ v ∧ v ≤ 1) → f96_2 a2 m = v → (v = 1 → m 4 41 7 + 6 ≤ 300) → Q (some (zi v)) m) : X (EE s) d 96 0 [(0, zr 4 41), (1, zr 99 5), (2, zi a2)] [] m Q := by
  have f0 := r41_3 hJ 4
  refine X.iload_n 1 i96_0 rfl rfl rfl ?_
  refine X.aload_n 2 i96_1 rfl rfl rfl ?_
  refine X.slen 5 i96_2 rfl rfl (by omega) (Nat.le_of_ble_eq_true rfl) (by decide) (show (6 : Nat) < 2147483648 by decide) ?_
  show X (EE s) d 96 5 [(0, zr 4 41), (1, zr 99 5), (2, zi a2)] [zi 6, zi a2] m _
  refine X.icmpne 21 8 i96_5 rfl rfl rfl (fun h501 => ?_) (fun h501 => ?_)
  · refine X.cut [] i96_21 rfl ?_
    refine X.iconst 22 i96_21 rfl rfl (by decide) ?_
    refine X.retz i96_22 rfl t96 (by omega) ?_
    exact hQ 0 (by first | trivial | omega) (Eq.trans (if_neg h501) rfl) (by omega)
  · refine X.aload_n 9 i96_8 rfl rfl rfl ?_
    refine X.getI 12 7 i96_9 rfl rfl (by decide) rfl rfl rfl ?_
    have h502 := r41_7 hJ 4
    refine X.iload_n 13 i96_12 rfl rfl rfl ?_
    refine X.iadd 14 i96_13 rfl rfl (by omega) ?_
    refine X.aload_n 15 i96_14 rfl rfl rfl ?_
    refine X.getI 18 3 i96_15 rfl rfl (by decide) rfl rfl rfl ?_
    have h503 := r41_3 hJ 4
    refine X.icmple 23 21 i96_18 rfl rfl rfl (fun h504 => ?_) (fun h504 => ?_)
    · refine X.iconst 24 i96_23 rfl rfl (by decide) ?_
      refine X.istore_n 25 [(0, zr 4 41), (1, zr 99 5), (2, zi a2), (3, zi 0)] i96_24 rfl rfl rfl ?_
      have hz7 := zfu_eq 7
      refine l96_25_2 (s := s) (m := m) (B := B) (d := d) (R0 := (f96_2 a2 m))  a2  (by omega) (hJ.up (by omega)) (by omega) (by omega) (fun y505 hby505 hrlm506_0 hR509 => ?_) (fun  hrlm510_0 hR513 => ?_) (zfu 7) 0 (by omega) (by omega) (by omega) (Eq.trans (if_pos h501) (Eq.trans (if_pos h504) rfl))
      · refine X.iconst 50 i96_49 rfl rfl (by decide) ?_
        refine X.retz i96_50 rfl t96 (by omega) ?_
        exact hQ 0 (by first | trivial | omega) (Eq.trans hR509 rfl) (by omega)
      · refine X.iconst 58 i96_57 rfl rfl (by decide) ?_
        refine X.retz i96_58 rfl t96 (by omega) ?_
        exact hQ 1 (by first | trivial | omega) (Eq.trans hR513 rfl) (by omega)
    · refine X.cut [] i96_21 rfl ?_
      refine X.iconst 22 i96_21 rfl rfl (by decide) ?_
      refine X.retz i96_22 rfl t96 (by omega) ?_
      exact hQ 0 (by first | trivial | omega) (Eq.trans (if_pos h501) (Eq.trans (if_neg h504) rfl)) (by omega)
noncomputable def fl96_25_3_b (self : Int → Int) (k49 : Int → Int) (k57 : Int) (y2 : Int) (m : zM) (y3 : Int) : Int :=
  if y2 ≤ y3 then
  (k57)
  else
  (zn (zch 6 y3) fun z509 =>
  if (m 4 42 ((m 4 41 7) + y3)) = z509 then
  (self (y3 + 1))
  else
  (k49 y3))
noncomputable def fl96_25_3 (k49 : Int → Int) (k57 : Int) (y2 : Int) (m : zM) : Nat → Int → Int
  | 0 => fun y3 => 0
  | n + 1 => fl96_25_3_b (fl96_25_3 k49 k57 y2 m n) k49 k57 y2 m
theorem l96_25_3 {s : Nat × (Nat → Int32)} {S : zS} {m0 : zM} {m : zM} {B : Int} {d : Nat} {Q : Option zV → zM → Prop} {R0 : Int} {k49 : Int → Int} {k57 : Int} (y2 : Int) (hd : 13 ≤ d) (hJ : J S m0 B m) (hB9 : B ≤ 1000000000) (hy2 : 7 ≤ y2 ∧ y2 ≤ 7)
    (K49 : ∀ (x3 : Int) , (0 ≤ x3 ∧ x3 ≤ 6) → (m 4 41 7 + y2 ≤ 300) → R0 = k49 x3 → X (EE s) d 96 49 [(0, zr 4 41), (1, zr 99 6), (2, zi y2), (3, zi x3)] [] m Q)
    (K57 : (m 4 41 7 + y2 ≤ 300) → R0 = k57 → X (EE s) d 96 57 [] [] m Q) :
    ∀ (n : Nat) (y3 : Int) , (0 ≤ y3 ∧ y3 ≤ 7) → (m 4 41 7 + y2 ≤ 300) → 7 - y3 < (n : Int) → R0 = fl96_25_3 k49 k57 y2 m n y3 → X (EE s) d 96 25 [(0, zr 4 41), (1, zr 99 6), (2, zi y2), (3, zi y3)] [] m Q := by
  intro n
  induction n with
  | zero =>
    intro y3 hy3 hr0 hn hR
    exfalso
    omega
  | succ n ih =>
    intro y3 hy3 hr0 hn hR
    replace hR : R0 = fl96_25_3_b (fl96_25_3 k49 k57 y2 m n) k49 k57 y2 m y3 := hR
    refine X.iload_n 26 i96_25 rfl rfl rfl ?_
    refine X.iload_n 27 i96_26 rfl rfl rfl ?_
    refine X.icmpge 57 30 i96_27 rfl rfl rfl (fun h506 => ?_) (fun h506 => ?_)
    · refine X.cut [] i96_57 rfl ?_
      exact K57  (by omega) (Eq.trans hR (Eq.trans (if_pos h506) rfl))
    · refine X.aload_n 31 i96_30 rfl rfl rfl ?_
      refine X.getF 34 i96_31 rfl rfl (by decide) rfl rfl ?_
      refine X.aload_n 35 i96_34 rfl rfl rfl ?_
      refine X.getI 38 7 i96_35 rfl rfl (by decide) rfl rfl rfl ?_
      have h507 := r41_7 hJ 4
      refine X.iload_n 39 i96_38 rfl rfl rfl ?_
      refine X.iadd 40 i96_39 rfl rfl (by omega) ?_
      refine X.iald 41 i96_40 rfl rfl (by decide) rfl (by omega) ?_
      have h508 := r42_0 hJ 4 (i := ((m 4 41 7) + y3)) (by omega)
      refine X.aload_n 42 i96_41 rfl rfl rfl ?_
      refine X.iload_n 43 i96_42 rfl rfl rfl ?_
      refine X.schar 46 i96_43 rfl rfl (by omega) (Nat.le_of_ble_eq_true rfl) (by decide) (by show 0 ≤ _ ∧ _ < (7 : Int); omega) ?_
      obtain ⟨z509, ez509⟩ : ∃ z, z = zch 6 y3 := ⟨_, rfl⟩
      show X (EE s) d 96 46 [(0, zr 4 41), (1, zr 99 6), (2, zi y2), (3, zi y3)] [zi (zch 6 y3), zi (m 4 42 ((m 4 41 7) + y3))] m _
      rw [← ez509]
      refine X.icmpeq 51 49 i96_46 rfl rfl rfl (fun h510 => ?_) (fun h510 => ?_)
      · refine X.iinc 54 [(0, zr 4 41), (1, zr 99 6), (2, zi y2), (3, zi (y3 + 1))] i96_51 rfl rfl rfl (by omega) rfl ?_
        refine X.goto 25 i96_54 rfl rfl ?_
        exact ih (y3 + 1) (by omega) (by omega) (by omega) (Eq.trans hR (Eq.trans (if_neg h506) (Eq.trans (zn_eq ez509) (Eq.trans (if_pos h510) rfl))))
      · exact K49 y3 (by first | trivial | omega) (by omega) (Eq.trans hR (Eq.trans (if_neg h506) (Eq.trans (zn_eq ez509) (Eq.trans (if_neg h510) rfl))))
-- WorkMeter$CalendarText.spells
noncomputable def f96_3 (a2 : Int) (m : zM) : Int :=
  if a2 = 7 then
  (if ((m 4 41 7) + a2) ≤ (m 4 41 3) then
  (fl96_25_3 (fun y505 =>
  0) (1) a2 m (zfu 8) 0)
  else
  (0))
  else
  (0)
-- WorkMeter$CalendarText.spells
theorem c96_3 {s : Nat × (Nat → Int32)} {S : zS} {m0 m : zM} {B : Int} {d : Nat} {Q : Option zV → zM → Prop} (a2 : Int) (hd : 13 ≤ d) (hJ : J S m0 B m) (hB : B + 0 ≤ 1000000000) (ha2 : (-300) ≤ a2 ∧ a2 ≤ 300) (hQ : ∀ (v : Int), (0 ≤ v ∧ v ≤ 1) → f96_3 a2 m = v → (v = 1 → m 4 41 7 + 7 ≤ 300) → Q (some (zi v)) m) : X (EE s) d 96 0 [(0, zr 4 41), (1, zr 99 6), (2, zi a2)] [] m Q := by
  have f0 := r41_3 hJ 4
  refine X.iload_n 1 i96_0 rfl rfl rfl ?_
  refine X.aload_n 2 i96_1 rfl rfl rfl ?_
  refine X.slen 5 i96_2 rfl rfl (by omega) (Nat.le_of_ble_eq_true rfl) (by decide) (show (7 : Nat) < 2147483648 by decide) ?_
  show X (EE s) d 96 5 [(0, zr 4 41), (1, zr 99 6), (2, zi a2)] [zi 7, zi a2] m _
  refine X.icmpne 21 8 i96_5 rfl rfl rfl (fun h501 => ?_) (fun h501 => ?_)
  · refine X.cut [] i96_21 rfl ?_
    refine X.iconst 22 i96_21 rfl rfl (by decide) ?_
    refine X.retz i96_22 rfl t96 (by omega) ?_
    exact hQ 0 (by first | trivial | omega) (Eq.trans (if_neg h501) rfl) (by omega)
  · refine X.aload_n 9 i96_8 rfl rfl rfl ?_
    refine X.getI 12 7 i96_9 rfl rfl (by decide) rfl rfl rfl ?_
    have h502 := r41_7 hJ 4
    refine X.iload_n 13 i96_12 rfl rfl rfl ?_
    refine X.iadd 14 i96_13 rfl rfl (by omega) ?_
    refine X.aload_n 15 i96_14 rfl rfl rfl ?_
    refine X.getI 18 3 i96_15 rfl rfl (by decide) rfl rfl rfl ?_
    have h503 := r41_3 hJ 4
    refine X.icmple 23 21 i96_18 rfl rfl rfl (fun h504 => ?_) (fun h504 => ?_)
    · refine X.iconst 24 i96_23 rfl rfl (by decide) ?_
      refine X.istore_n 25 [(0, zr 4 41), (1, zr 99 6), (2, zi a2), (3, zi 0)] i96_24 rfl rfl rfl ?_
      have hz8 := zfu_eq 8
      refine l96_25_3 (s := s) (m := m) (B := B) (d := d) (R0 := (f96_3 a2 m))  a2  (by omega) (hJ.up (by omega)) (by omega) (by omega) (fun y505 hby505 hrlm506_0 hR509 => ?_) (fun  hrlm510_0 hR513 => ?_) (zfu 8) 0 (by omega) (by omega) (by omega) (Eq.trans (if_pos h501) (Eq.trans (if_pos h504) rfl))
      · refine X.iconst 50 i96_49 rfl rfl (by decide) ?_
        refine X.retz i96_50 rfl t96 (by omega) ?_
        exact hQ 0 (by first | trivial | omega) (Eq.trans hR509 rfl) (by omega)
      · refine X.iconst 58 i96_57 rfl rfl (by decide) ?_
        refine X.retz i96_58 rfl t96 (by omega) ?_
        exact hQ 1 (by first | trivial | omega) (Eq.trans hR513 rfl) (by omega)
    · refine X.cut [] i96_21 rfl ?_
      refine X.iconst 22 i96_21 rfl rfl (by decide) ?_
      refine X.retz i96_22 rfl t96 (by omega) ?_
      exact hQ 0 (by first | trivial | omega) (Eq.trans (if_pos h501) (Eq.trans (if_neg h504) rfl)) (by omega)
noncomputable def fl96_25_4_b (self : Int → Int) (k49 : Int → Int) (k57 : Int) (y2 : Int) (m : zM) (y3 : Int) : Int :=
  if y2 ≤ y3 then
  (k57)
  else
  (zn (zch 7 y3) fun z509 =>
  if (m 4 42 ((m 4 41 7) + y3)) = z509 then
  (self (y3 + 1))
  else
  (k49 y3))
noncomputable def fl96_25_4 (k49 : Int → Int) (k57 : Int) (y2 : Int) (m : zM) : Nat → Int → Int
  | 0 => fun y3 => 0
  | n + 1 => fl96_25_4_b (fl96_25_4 k49 k57 y2 m n) k49 k57 y2 m
theorem l96_25_4 {s : Nat × (Nat → Int32)} {S : zS} {m0 : zM} {m : zM} {B : Int} {d : Nat} {Q : Option zV → zM → Prop} {R0 : Int} {k49 : Int → Int} {k57 : Int} (y2 : Int) (hd : 13 ≤ d) (hJ : J S m0 B m) (hB9 : B ≤ 1000000000) (hy2 : 5 ≤ y2 ∧ y2 ≤ 5)
    (K49 : ∀ (x3 : Int) , (0 ≤ x3 ∧ x3 ≤ 4) → (m 4 41 7 + y2 ≤ 300) → R0 = k49 x3 → X (EE s) d 96 49 [(0, zr 4 41), (1, zr 99 7), (2, zi y2), (3, zi x3)] [] m Q)
    (K57 : (m 4 41 7 + y2 ≤ 300) → R0 = k57 → X (EE s) d 96 57 [] [] m Q) :
    ∀ (n : Nat) (y3 : Int) , (0 ≤ y3 ∧ y3 ≤ 5) → (m 4 41 7 + y2 ≤ 300) → 5 - y3 < (n : Int) → R0 = fl96_25_4 k49 k57 y2 m n y3 → X (EE s) d 96 25 [(0, zr 4 41), (1, zr 99 7), (2, zi y2), (3, zi y3)] [] m Q := by
  intro n
  induction n with
  | zero =>
    intro y3 hy3 hr0 hn hR
    exfalso
    omega
  | succ n ih =>
    intro y3 hy3 hr0 hn hR
    replace hR : R0 = fl96_25_4_b (fl96_25_4 k49 k57 y2 m n) k49 k57 y2 m y3 := hR
    refine X.iload_n 26 i96_25 rfl rfl rfl ?_
    refine X.iload_n 27 i96_26 rfl rfl rfl ?_
    refine X.icmpge 57 30 i96_27 rfl rfl rfl (fun h506 => ?_) (fun h506 => ?_)
    · refine X.cut [] i96_57 rfl ?_
      exact K57  (by omega) (Eq.trans hR (Eq.trans (if_pos h506) rfl))
    · refine X.aload_n 31 i96_30 rfl rfl rfl ?_
      refine X.getF 34 i96_31 rfl rfl (by decide) rfl rfl ?_
      refine X.aload_n 35 i96_34 rfl rfl rfl ?_
      refine X.getI 38 7 i96_35 rfl rfl (by decide) rfl rfl rfl ?_
      have h507 := r41_7 hJ 4
      refine X.iload_n 39 i96_38 rfl rfl rfl ?_
      refine X.iadd 40 i96_39 rfl rfl (by omega) ?_
      refine X.iald 41 i96_40 rfl rfl (by decide) rfl (by omega) ?_
      have h508 := r42_0 hJ 4 (i := ((m 4 41 7) + y3)) (by omega)
      refine X.aload_n 42 i96_41 rfl rfl rfl ?_
      refine X.iload_n 43 i96_42 rfl rfl rfl ?_
      refine X.schar 46 i96_43 rfl rfl (by omega) (Nat.le_of_ble_eq_true rfl) (by decide) (by show 0 ≤ _ ∧ _ < (5 : Int); omega) ?_
      obtain ⟨z509, ez509⟩ : ∃ z, z = zch 7 y3 := ⟨_, rfl⟩
      show X (EE s) d 96 46 [(0, zr 4 41), (1, zr 99 7), (2, zi y2), (3, zi y3)] [zi (zch 7 y3), zi (m 4 42 ((m 4 41 7) + y3))] m _
      rw [← ez509]
      refine X.icmpeq 51 49 i96_46 rfl rfl rfl (fun h510 => ?_) (fun h510 => ?_)
      · refine X.iinc 54 [(0, zr 4 41), (1, zr 99 7), (2, zi y2), (3, zi (y3 + 1))] i96_51 rfl rfl rfl (by omega) rfl ?_
        refine X.goto 25 i96_54 rfl rfl ?_
        exact ih (y3 + 1) (by omega) (by omega) (by omega) (Eq.trans hR (Eq.trans (if_neg h506) (Eq.trans (zn_eq ez509) (Eq.trans (if_pos h510) rfl))))
      · exact K49 y3 (by first | trivial | omega) (by omega) (Eq.trans hR (Eq.trans (if_neg h506) (Eq.trans (zn_eq ez509) (Eq.trans (if_neg h510) rfl))))
-- WorkMeter$CalendarText.spells
noncomputable def f96_4 (a2 : Int) (m : zM) : Int :=
  if a2 = 5 then
  (if ((m 4 41 7) + a2) ≤ (m 4 41 3) then
  (fl96_25_4 (fun y505 =>
  0) (1) a2 m (zfu 6) 0)
  else
  (0))
  else
  (0)
-- WorkMeter$CalendarText.spells
theorem c96_4 {s : Nat × (Nat → Int32)} {S : zS} {m0 m : zM} {B : Int} {d : Nat} {Q : Option zV → zM → Prop} (a2 : Int) (hd : 13 ≤ d) (hJ : J S m0 B m) (hB : B + 0 ≤ 1000000000) (ha2 : (-300) ≤ a2 ∧ a2 ≤ 300) (hQ : ∀ (v : Int), (0 ≤ v ∧ v ≤ 1) → f96_4 a2 m = v → (v = 1 → m 4 41 7 + 5 ≤ 300) → Q (some (zi v)) m) : X (EE s) d 96 0 [(0, zr 4 41), (1, zr 99 7), (2, zi a2)] [] m Q := by
  have f0 := r41_3 hJ 4
  refine X.iload_n 1 i96_0 rfl rfl rfl ?_
  refine X.aload_n 2 i96_1 rfl rfl rfl ?_
  refine X.slen 5 i96_2 rfl rfl (by omega) (Nat.le_of_ble_eq_true rfl) (by decide) (show (5 : Nat) < 2147483648 by decide) ?_
  show X (EE s) d 96 5 [(0, zr 4 41), (1, zr 99 7), (2, zi a2)] [zi 5, zi a2] m _
  refine X.icmpne 21 8 i96_5 rfl rfl rfl (fun h501 => ?_) (fun h501 => ?_)
  · refine X.cut [] i96_21 rfl ?_
    refine X.iconst 22 i96_21 rfl rfl (by decide) ?_
    refine X.retz i96_22 rfl t96 (by omega) ?_
    exact hQ 0 (by first | trivial | omega) (Eq.trans (if_neg h501) rfl) (by omega)
  · refine X.aload_n 9 i96_8 rfl rfl rfl ?_
    refine X.getI 12 7 i96_9 rfl rfl (by decide) rfl rfl rfl ?_
    have h502 := r41_7 hJ 4
    refine X.iload_n 13 i96_12 rfl rfl rfl ?_
    refine X.iadd 14 i96_13 rfl rfl (by omega) ?_
    refine X.aload_n 15 i96_14 rfl rfl rfl ?_
    refine X.getI 18 3 i96_15 rfl rfl (by decide) rfl rfl rfl ?_
    have h503 := r41_3 hJ 4
    refine X.icmple 23 21 i96_18 rfl rfl rfl (fun h504 => ?_) (fun h504 => ?_)
    · refine X.iconst 24 i96_23 rfl rfl (by decide) ?_
      refine X.istore_n 25 [(0, zr 4 41), (1, zr 99 7), (2, zi a2), (3, zi 0)] i96_24 rfl rfl rfl ?_
      have hz6 := zfu_eq 6
      refine l96_25_4 (s := s) (m := m) (B := B) (d := d) (R0 := (f96_4 a2 m))  a2  (by omega) (hJ.up (by omega)) (by omega) (by omega) (fun y505 hby505 hrlm506_0 hR509 => ?_) (fun  hrlm510_0 hR513 => ?_) (zfu 6) 0 (by omega) (by omega) (by omega) (Eq.trans (if_pos h501) (Eq.trans (if_pos h504) rfl))
      · refine X.iconst 50 i96_49 rfl rfl (by decide) ?_
        refine X.retz i96_50 rfl t96 (by omega) ?_
        exact hQ 0 (by first | trivial | omega) (Eq.trans hR509 rfl) (by omega)
      · refine X.iconst 58 i96_57 rfl rfl (by decide) ?_
        refine X.retz i96_58 rfl t96 (by omega) ?_
        exact hQ 1 (by first | trivial | omega) (Eq.trans hR513 rfl) (by omega)
    · refine X.cut [] i96_21 rfl ?_
      refine X.iconst 22 i96_21 rfl rfl (by decide) ?_
      refine X.retz i96_22 rfl t96 (by omega) ?_
      exact hQ 0 (by first | trivial | omega) (Eq.trans (if_pos h501) (Eq.trans (if_neg h504) rfl)) (by omega)
-- WorkMeter$CalendarText.fail
noncomputable def f102_1 (a1 a2 : Int) (m : zM) : Int × zM :=
  zs (z_upd m 4 41 4 a1) fun m501 =>
  zs (z_upd m501 4 41 5 a2) fun m503 =>
  (0, m503)
-- WorkMeter$CalendarText.fail
theorem c102_1 {s : Nat × (Nat → Int32)} {S : zS} {m0 m : zM} {B : Int} {d : Nat} {Q : Option zV → zM → Prop} (a1 a2 : Int) (hd : 13 ≤ d) (hJ : J S m0 B m) (hB : B + 0 ≤ 1000000000) (ha1 : 1 ≤ a1 ∧ a1 ≤ 1) (ha2 : 0 ≤ a2 ∧ a2 ≤ 300) (hf16 : ¬ S.1 16) (hg4 : ¬ S.2.1 4) (hQ : ∀ (v : Int) m', (0 ≤ v ∧ v ≤ 0) → f102_1 a1 a2 m = (v, m') → J S m0 (B) m' → Q (some (zi v)) m') : X (EE s) d 102 0 [(0, zr 4 41), (1, zi a1), (2, zi a2)] [] m Q := by
  refine X.aload_n 1 i102_0 rfl rfl rfl ?_
  refine X.iload_n 2 i102_1 rfl rfl rfl ?_
  refine X.putI' 5 4 i102_2 rfl rfl (by decide) rfl rfl rfl (fun hrm501 m501 hm501 => ?_)
  have hJ502 := w41_4 hJ hm501 (by omega) hrm501 hf16 hg4
  refine X.aload_n 6 i102_5 rfl rfl rfl ?_
  refine X.iload_n 7 i102_6 rfl rfl rfl ?_
  refine X.putI' 10 5 i102_7 rfl rfl (by decide) rfl rfl rfl (fun hrm503 m503 hm503 => ?_)
  have hJ504 := w41_4 hJ502 hm503 (by omega) hrm503 hf16 hg4
  refine X.iconst 11 i102_10 rfl rfl (by decide) ?_
  refine X.retz i102_11 rfl t102 (by omega) ?_
  exact hQ 0 m503 (by first | trivial | omega) (Eq.trans (zs_eq hm501) (Eq.trans (zs_eq hm503) rfl)) (hJ504.up (by omega)) 
noncomputable def fl100_14_1_b (self : Int → zM → Int × zM) (k76 : Int → zM → Int × zM) (y1 : Int) (y2 : Int) (m : zM) : Int × zM :=
  if (m 4 41 3) ≤ (m 4 41 7) then
  (k76 y2 m)
  else
  (if (m 4 42 (m 4 41 7)) < 48 then
  (k76 y2 m)
  else
  (if 57 < (m 4 42 (m 4 41 7)) then
  (k76 y2 m)
  else
  (zs (z_upd m 4 41 7 ((m 4 41 7) + 1)) fun m521 =>
  self (min (((y2 * 10) + (m 4 42 (m 4 41 7))) - 48) 1000000) m521)))
noncomputable def fl100_14_1 (k76 : Int → zM → Int × zM) (y1 : Int) : Nat → Int → zM → Int × zM
  | 0 => fun y2 m => (0, m)
  | n + 1 => fl100_14_1_b (fl100_14_1 k76 y1 n) k76 y1
theorem l100_14_1 {s : Nat × (Nat → Int32)} {S : zS} {m0 : zM} {d : Nat} {Q : Option zV → zM → Prop} {R0 : Int × zM} {k76 : Int → zM → Int × zM} (y1 : Int) (BE : Int) (hE : BE ≤ 1000000000) (hd : 13 ≤ d) (hy1 : 0 ≤ y1 ∧ y1 ≤ 1000) (hf19 : ¬ S.1 19) (hg4 : ¬ S.2.1 4)
    (K76 : ∀ (x2 : Int) (m' : zM) (B' : Int), J S m0 B' m' → B' ≤ BE → (0 ≤ x2 ∧ x2 ≤ 1000000) → R0 = k76 x2 m' → X (EE s) d 100 76 [(0, zr 4 41), (1, zi y1), (2, zi x2)] [] m' Q) :
    ∀ (n : Nat) (y2 : Int) (m : zM) (B : Int), J S m0 B m → B + 0 * (n : Int) ≤ BE → (0 ≤ y2 ∧ y2 ≤ 1000000) → 300 - m 4 41 7 < (n : Int) → R0 = fl100_14_1 k76 y1 n y2 m → X (EE s) d 100 14 [(0, zr 4 41), (1, zi y1), (2, zi y2)] [] m Q := by
  intro n
  induction n with
  | zero =>
    intro y2 m B hJ hB hy2 hn hR
    have zf0 := r41_7 hJ 4
    exfalso
    omega
  | succ n ih =>
    intro y2 m B hJ hB hy2 hn hR
    replace hR : R0 = fl100_14_1_b (fl100_14_1 k76 y1 n) k76 y1 y2 m := hR
    refine X.aload_n 15 i100_14 rfl rfl rfl ?_
    refine X.getI 18 7 i100_15 rfl rfl (by decide) rfl rfl rfl ?_
    have h512 := r41_7 hJ 4
    refine X.aload_n 19 i100_18 rfl rfl rfl ?_
    refine X.getI 22 3 i100_19 rfl rfl (by decide) rfl rfl rfl ?_
    have h513 := r41_3 hJ 4
    refine X.icmpge 76 25 i100_22 rfl rfl rfl (fun h514 => ?_) (fun h514 => ?_)
    · exact K76 y2 m (B) (hJ.up (by omega)) (by omega) (by first | trivial | omega) (Eq.trans hR (Eq.trans (if_pos h514) rfl))
    · refine X.aload_n 26 i100_25 rfl rfl rfl ?_
      refine X.getF 29 i100_26 rfl rfl (by decide) rfl rfl ?_
      refine X.aload_n 30 i100_29 rfl rfl rfl ?_
      refine X.getI 33 7 i100_30 rfl rfl (by decide) rfl rfl rfl ?_
      refine X.iald 34 i100_33 rfl rfl (by decide) rfl (by omega) ?_
      have h515 := r42_0 hJ 4 (i := (m 4 41 7)) (by omega)
      refine X.calls 37 [zi (m 4 42 (m 4 41 7))] [] [(0, zi (m 4 42 (m 4 41 7)))] i100_34 (by decide) rfl rfl (by omega) rfl rfl t101 (Nat.le_of_ble_eq_true rfl) (Nat.le_of_ble_eq_true rfl) rfl ?_
      refine X.iload_n 1 i101_0 rfl rfl rfl ?_
      refine X.bipush 3 i101_1 rfl rfl (by decide) ?_
      refine X.icmplt 16 6 i101_3 rfl rfl rfl (fun h516 => ?_) (fun h516 => ?_)
      · refine X.cut [] i101_16 rfl ?_
        refine X.iconst 17 i101_16 rfl rfl (by decide) ?_
        refine X.retz i101_17 rfl t101 (by omega) ?_
        show X (EE s) d 100 37 [(0, zr 4 41), (1, zi y1), (2, zi y2)] [zi 0] m _
        refine X.ifeq 76 40 i100_37 rfl rfl rfl (fun h517 => ?_) (fun h517 => (by exfalso; omega))
        exact K76 y2 m (B) (hJ.up (by omega)) (by omega) (by first | trivial | omega) (Eq.trans hR (Eq.trans (if_neg h514) (Eq.trans (if_pos h516) rfl)))
      · refine X.iload_n 7 i101_6 rfl rfl rfl ?_
        refine X.bipush 9 i101_7 rfl rfl (by decide) ?_
        refine X.icmpgt 16 12 i101_9 rfl rfl rfl (fun h518 => ?_) (fun h518 => ?_)
        · refine X.cut [] i101_16 rfl ?_
          refine X.iconst 17 i101_16 rfl rfl (by decide) ?_
          refine X.retz i101_17 rfl t101 (by omega) ?_
          show X (EE s) d 100 37 [(0, zr 4 41), (1, zi y1), (2, zi y2)] [zi 0] m _
          refine X.ifeq 76 40 i100_37 rfl rfl rfl (fun h519 => ?_) (fun h519 => (by exfalso; omega))
          exact K76 y2 m (B) (hJ.up (by omega)) (by omega) (by first | trivial | omega) (Eq.trans hR (Eq.trans (if_neg h514) (Eq.trans (if_neg h516) (Eq.trans (if_pos h518) rfl))))
        · refine X.iconst 13 i101_12 rfl rfl (by decide) ?_
          refine X.goto 17 i101_13 rfl rfl ?_
          refine X.cut [] i101_17 rfl ?_
          refine X.retz i101_17 rfl t101 (by omega) ?_
          show X (EE s) d 100 37 [(0, zr 4 41), (1, zi y1), (2, zi y2)] [zi 1] m _
          refine X.ifeq 76 40 i100_37 rfl rfl rfl (fun h520 => (by exfalso; omega)) (fun h520 => ?_)
          refine X.iload_n 41 i100_40 rfl rfl rfl ?_
          refine X.bipush 43 i100_41 rfl rfl (by decide) ?_
          refine X.imul 44 i100_43 rfl rfl (by omega) ?_
          refine X.aload_n 45 i100_44 rfl rfl rfl ?_
          refine X.getF 48 i100_45 rfl rfl (by decide) rfl rfl ?_
          refine X.aload_n 49 i100_48 rfl rfl rfl ?_
          refine X.getI 52 7 i100_49 rfl rfl (by decide) rfl rfl rfl ?_
          refine X.iald 53 i100_52 rfl rfl (by decide) rfl (by omega) ?_
          refine X.iadd 54 i100_53 rfl rfl (by omega) ?_
          refine X.bipush 56 i100_54 rfl rfl (by decide) ?_
          refine X.isub 57 i100_56 rfl rfl (by omega) ?_
          refine X.ldc 59 i100_57 rfl rfl (by decide) ?_
          refine X.minI 62 i100_59 rfl rfl (by omega) (Nat.le_of_ble_eq_true rfl) ?_
          refine X.istore_n 63 [(0, zr 4 41), (1, zi y1), (2, zi (min (((y2 * 10) + (m 4 42 (m 4 41 7))) - 48) 1000000))] i100_62 rfl rfl rfl ?_
          refine X.aload_n 64 i100_63 rfl rfl rfl ?_
          refine X.dup 65 i100_64 rfl rfl rfl ?_
          refine X.getI 68 7 i100_65 rfl rfl (by decide) rfl rfl rfl ?_
          refine X.iconst 69 i100_68 rfl rfl (by decide) ?_
          refine X.iadd 70 i100_69 rfl rfl (by omega) ?_
          refine X.putI' 73 7 i100_70 rfl rfl (by decide) rfl rfl rfl (fun hrm521 m521 hm521 => ?_)
          have hJ522 := w41_7 hJ hm521 (by omega) hf19 hg4
          have em521 : m521 4 41 7 = ((m 4 41 7) + 1) := by rw [hm521]; exact z_upd_same _ _ _ _ _
          refine X.goto 14 i100_73 rfl rfl ?_
          exact ih (min (((y2 * 10) + (m 4 42 (m 4 41 7))) - 48) 1000000) m521 (B) (hJ522.up (by omega)) (by omega) (by omega) (by omega) (Eq.trans hR (Eq.trans (if_neg h514) (Eq.trans (if_neg h516) (Eq.trans (if_neg h518) (Eq.trans (zs_eq hm521) rfl)))))
-- WorkMeter$CalendarText.fail
theorem c102_2 {s : Nat × (Nat → Int32)} {S : zS} {m0 m : zM} {B : Int} {d : Nat} {Q : Option zV → zM → Prop} (a1 a2 : Int) (hd : 13 ≤ d) (hJ : J S m0 B m) (hB : B + 0 ≤ 1000000000) (ha1 : 2 ≤ a1 ∧ a1 ≤ 2) (ha2 : (-2147483648) ≤ a2 ∧ a2 ≤ 2147483647) (hf16 : ¬ S.1 16) (hg4 : ¬ S.2.1 4) (hQ : ∀ (v : Int) m', (0 ≤ v ∧ v ≤ 0) → f102_1 a1 a2 m = (v, m') → J S m0 (B) m' → Q (some (zi v)) m') : X (EE s) d 102 0 [(0, zr 4 41), (1, zi a1), (2, zi a2)] [] m Q := by
  refine X.aload_n 1 i102_0 rfl rfl rfl ?_
  refine X.iload_n 2 i102_1 rfl rfl rfl ?_
  refine X.putI' 5 4 i102_2 rfl rfl (by decide) rfl rfl rfl (fun hrm501 m501 hm501 => ?_)
  have hJ502 := w41_4 hJ hm501 (by omega) hrm501 hf16 hg4
  refine X.aload_n 6 i102_5 rfl rfl rfl ?_
  refine X.iload_n 7 i102_6 rfl rfl rfl ?_
  refine X.putI' 10 5 i102_7 rfl rfl (by decide) rfl rfl rfl (fun hrm503 m503 hm503 => ?_)
  have hJ504 := w41_4 hJ502 hm503 (by omega) hrm503 hf16 hg4
  refine X.iconst 11 i102_10 rfl rfl (by decide) ?_
  refine X.retz i102_11 rfl t102 (by omega) ?_
  exact hQ 0 m503 (by first | trivial | omega) (Eq.trans (zs_eq hm501) (Eq.trans (zs_eq hm503) rfl)) (hJ504.up (by omega)) 
-- WorkMeter$CalendarText.readNumber
noncomputable def f100_1 (a1 : Int) (m : zM) : Int × zM :=
  zs (f93_1 m) fun m501 =>
  zs (z_upd m501 4 41 8 (m501 4 41 7)) fun m505 =>
  fl100_14_1 (fun y507 m508 =>
  if (m508 4 41 7) = (m508 4 41 8) then
  (zb (f102_1 1 (m508 4 41 8) m508) fun v522 m520 =>
  ((-1), m520))
  else
  (if y507 ≤ a1 then
  ((y507, m508))
  else
  (zb (f102_1 2 (m508 4 41 8) m508) fun v519 m517 =>
  ((-1), m517)))) a1 (zfu 301) 0 m505
-- WorkMeter$CalendarText.readNumber
theorem c100_1 {s : Nat × (Nat → Int32)} {S : zS} {m0 m : zM} {B : Int} {d : Nat} {Q : Option zV → zM → Prop} (a1 : Int) (hd : 14 ≤ d) (hJ : J S m0 B m) (hB : B + 0 ≤ 1000000000) (ha1 : 0 ≤ a1 ∧ a1 ≤ 1000) (hf16 : ¬ S.1 16) (hf19 : ¬ S.1 19) (hg4 : ¬ S.2.1 4) (hQ : ∀ (v : Int) m', ((-1) ≤ v ∧ v ≤ 1000) → f100_1 a1 m = (v, m') → J S m0 (B) m' → (v ≤ a1) → Q (some (zi v)) m') : X (EE s) d 100 0 [(0, zr 4 41), (1, zi a1)] [] m Q := by
  refine X.aload_n 1 i100_0 rfl rfl rfl ?_
  refine X.callv 4 [] [] [(0, zr 4 41)] i100_1 rfl (by decide) rfl rfl (by omega) rfl rfl (by decide) rfl t93 (Nat.le_of_ble_eq_true rfl) (Nat.le_of_ble_eq_true rfl) rfl ?_
  refine c93_1 (B := B)   (by omega) (hJ.up (by omega)) (by omega)  hf19 hg4 (fun m501 hFv503 hJ502 => ?_)
  show X (EE s) d 100 4 [(0, zr 4 41), (1, zi a1)] [] m501 _
  refine X.aload_n 5 i100_4 rfl rfl rfl ?_
  refine X.aload_n 6 i100_5 rfl rfl rfl ?_
  refine X.getI 9 7 i100_6 rfl rfl (by decide) rfl rfl rfl ?_
  have h504 := r41_7 hJ502 4
  refine X.putI' 12 8 i100_9 rfl rfl (by decide) rfl rfl rfl (fun hrm505 m505 hm505 => ?_)
  have hJ506 := w41_8 hJ502 hm505 (by omega) hrm505 hf19 hg4
  refine X.iconst 13 i100_12 rfl rfl (by decide) ?_
  refine X.istore_n 14 [(0, zr 4 41), (1, zi a1), (2, zi 0)] i100_13 rfl rfl rfl ?_
  have hz301 := zfu_eq 301
  have zf512 := r41_7 hJ506 4
  refine l100_14_1 (s := s) (d := d) (R0 := (f100_1 a1 m))  a1  (BE := B + 0) (by omega) (by omega) (by omega) hf19 hg4 (fun y507 m508 B509 hJ510 hBB509 hby507 hR511 => ?_) (zfu 301) 0 m505 (B) (hJ506.up (by omega)) (by omega) (by omega) (by omega) (Eq.trans (zs_eq hFv503.symm) (Eq.trans (zs_eq hm505) rfl))
  refine X.aload_n 77 i100_76 rfl rfl rfl ?_
  refine X.getI 80 7 i100_77 rfl rfl (by decide) rfl rfl rfl ?_
  have h513 := r41_7 hJ510 4
  refine X.aload_n 81 i100_80 rfl rfl rfl ?_
  refine X.getIr 84 8 i100_81 rfl rfl (by decide) rfl rfl rfl (fun h514 => ?_)
  refine X.icmpne 99 87 i100_84 rfl rfl rfl (fun h515 => ?_) (fun h515 => ?_)
  · refine X.iload_n 100 i100_99 rfl rfl rfl ?_
    refine X.iload_n 101 i100_100 rfl rfl rfl ?_
    refine X.icmple 116 104 i100_101 rfl rfl rfl (fun h516 => ?_) (fun h516 => ?_)
    · refine X.cut [(2, zi y507)] i100_116 rfl ?_
      refine X.iload_n 117 i100_116 rfl rfl rfl ?_
      refine X.reti i100_117 rfl t100 ?_
      exact hQ y507 m508 (by first | trivial | omega) (Eq.trans hR511 (Eq.trans (if_neg h515) (Eq.trans (if_pos h516) rfl))) (hJ510.up (by omega)) (by omega)
    · refine X.aload_n 105 i100_104 rfl rfl rfl ?_
      refine X.iconst 106 i100_105 rfl rfl (by decide) ?_
      refine X.aload_n 107 i100_106 rfl rfl rfl ?_
      refine X.getI 110 8 i100_107 rfl rfl (by decide) rfl rfl rfl ?_
      refine X.callv 113 [zi 2, zi (m508 4 41 8)] [] [(0, zr 4 41), (1, zi 2), (2, zi (m508 4 41 8))] i100_110 rfl (by decide) rfl rfl (by omega) rfl rfl (by decide) rfl t102 (Nat.le_of_ble_eq_true rfl) (Nat.le_of_ble_eq_true rfl) rfl ?_
      refine c102_2 (B := B509)  2 (m508 4 41 8) (by omega) (hJ510.up (by omega)) (by omega) (by omega) (by omega) hf16 hg4 (fun v519 m517 hv519 hFv519 hJ518 => ?_)
      show X (EE s) d 100 113 [(0, zr 4 41), (1, zi a1), (2, zi y507)] [zi v519] m517 _
      refine X.pop 114 i100_113 rfl rfl rfl ?_
      refine X.iconst 115 i100_114 rfl rfl (by decide) ?_
      refine X.reti i100_115 rfl t100 ?_
      exact hQ (-1) m517 (by first | trivial | omega) (Eq.trans hR511 (Eq.trans (if_neg h515) (Eq.trans (if_neg h516) (Eq.trans (zb_eq hFv519) rfl)))) (hJ518.up (by omega)) (by omega)
  · refine X.aload_n 88 i100_87 rfl rfl rfl ?_
    refine X.iconst 89 i100_88 rfl rfl (by decide) ?_
    refine X.aload_n 90 i100_89 rfl rfl rfl ?_
    refine X.getI 93 8 i100_90 rfl rfl (by decide) rfl rfl rfl ?_
    refine X.callv 96 [zi 1, zi (m508 4 41 8)] [] [(0, zr 4 41), (1, zi 1), (2, zi (m508 4 41 8))] i100_93 rfl (by decide) rfl rfl (by omega) rfl rfl (by decide) rfl t102 (Nat.le_of_ble_eq_true rfl) (Nat.le_of_ble_eq_true rfl) rfl ?_
    refine c102_1 (B := B509)  1 (m508 4 41 8) (by omega) (hJ510.up (by omega)) (by omega) (by omega) (by omega) hf16 hg4 (fun v522 m520 hv522 hFv522 hJ521 => ?_)
    show X (EE s) d 100 96 [(0, zr 4 41), (1, zi a1), (2, zi y507)] [zi v522] m520 _
    refine X.pop 97 i100_96 rfl rfl rfl ?_
    refine X.iconst 98 i100_97 rfl rfl (by decide) ?_
    refine X.reti i100_98 rfl t100 ?_
    exact hQ (-1) m520 (by first | trivial | omega) (Eq.trans hR511 (Eq.trans (if_pos h515) (Eq.trans (zb_eq hFv522) rfl))) (hJ521.up (by omega)) (by omega)
noncomputable def fl110_25_1_b (self : Int → zM → Int × zM) (k42 : Int → Int → zM → Int × zM) (k57 : zM → Int × zM) (y1 : Int) (m : zM) : Int × zM :=
  if 4 ≤ y1 then
  (k57 m)
  else
  (zb (f100_1 100 m) fun v511 m509 =>
  if v511 = (-1) then
  (k42 y1 v511 m509)
  else
  (zs (z_upd m509 4 43 y1 v511) fun m513 =>
  self (y1 + 1) m513))
noncomputable def fl110_25_1 (k42 : Int → Int → zM → Int × zM) (k57 : zM → Int × zM) : Nat → Int → zM → Int × zM
  | 0 => fun y1 m => (0, m)
  | n + 1 => fl110_25_1_b (fl110_25_1 k42 k57 n) k42 k57
theorem l110_25_1 {s : Nat × (Nat → Int32)} {S : zS} {m0 : zM} {d : Nat} {Q : Option zV → zM → Prop} {R0 : Int × zM} {k42 : Int → Int → zM → Int × zM} {k57 : zM → Int × zM} (BE : Int) (hE : BE ≤ 1000000000) (hd : 15 ≤ d) (hf16 : ¬ S.1 16) (hf19 : ¬ S.1 19) (hg4 : ¬ S.2.1 4)
    (K42 : ∀ (x1 x2 : Int) (m' : zM) (B' : Int), J S m0 B' m' → B' ≤ BE → (0 ≤ x1 ∧ x1 ≤ 3) → ((-1) ≤ x2 ∧ x2 ≤ (-1)) → R0 = k42 x1 x2 m' → X (EE s) d 110 42 [(0, zr 4 41), (1, zi x1), (2, zi x2)] [] m' Q)
    (K57 : ∀ (m' : zM) (B' : Int), J S m0 B' m' → B' ≤ BE → R0 = k57 m' → X (EE s) d 110 57 [(0, zr 4 41)] [] m' Q) :
    ∀ (n : Nat) (y1 : Int) (m : zM) (B : Int), J S m0 B m → B + 0 * (n : Int) ≤ BE → (0 ≤ y1 ∧ y1 ≤ 4) → 4 - y1 < (n : Int) → R0 = fl110_25_1 k42 k57 n y1 m → X (EE s) d 110 25 [(0, zr 4 41), (1, zi y1)] [] m Q := by
  intro n
  induction n with
  | zero =>
    intro y1 m B hJ hB hy1 hn hR
    exfalso
    omega
  | succ n ih =>
    intro y1 m B hJ hB hy1 hn hR
    replace hR : R0 = fl110_25_1_b (fl110_25_1 k42 k57 n) k42 k57 y1 m := hR
    refine X.iload_n 26 i110_25 rfl rfl rfl ?_
    refine X.iconst 27 i110_26 rfl rfl (by decide) ?_
    refine X.icmpge 57 30 i110_27 rfl rfl rfl (fun h508 => ?_) (fun h508 => ?_)
    · refine X.cut [(0, zr 4 41)] i110_57 rfl ?_
      exact K57  m (B) (hJ.up (by omega)) (by omega)  (Eq.trans hR (Eq.trans (if_pos h508) rfl))
    · refine X.aload_n 31 i110_30 rfl rfl rfl ?_
      refine X.bipush 33 i110_31 rfl rfl (by decide) ?_
      refine X.callv 36 [zi 100] [] [(0, zr 4 41), (1, zi 100)] i110_33 rfl (by decide) rfl rfl (by omega) rfl rfl (by decide) rfl t100 (Nat.le_of_ble_eq_true rfl) (Nat.le_of_ble_eq_true rfl) rfl ?_
      refine c100_1 (B := B)  100 (by omega) (hJ.up (by omega)) (by omega) (by omega) hf16 hf19 hg4 (fun v511 m509 hv511 hFv511 hJ510 hqv511_0 => ?_)
      show X (EE s) d 110 36 [(0, zr 4 41), (1, zi y1)] [zi v511] m509 _
      refine X.istore_n 37 [(0, zr 4 41), (1, zi y1), (2, zi v511)] i110_36 rfl rfl rfl ?_
      refine X.iload_n 38 i110_37 rfl rfl rfl ?_
      refine X.iconst 39 i110_38 rfl rfl (by decide) ?_
      refine X.icmpne 44 42 i110_39 rfl rfl rfl (fun h512 => ?_) (fun h512 => ?_)
      · refine X.aload_n 45 i110_44 rfl rfl rfl ?_
        refine X.getF 48 i110_45 rfl rfl (by decide) rfl rfl ?_
        refine X.iload_n 49 i110_48 rfl rfl rfl ?_
        refine X.iload_n 50 i110_49 rfl rfl rfl ?_
        refine X.iast' 51 i110_50 rfl rfl (by decide) rfl (by omega) (fun hrm513 m513 hm513 => ?_)
        have hJ514 := w43_0 hJ510 hm513 (by omega) (by omega) hf19 hg4
        refine X.iinc 54 [(0, zr 4 41), (1, zi (y1 + 1)), (2, zi v511)] i110_51 rfl rfl rfl (by omega) rfl ?_
        refine X.goto 25 i110_54 rfl rfl ?_
        refine X.cut [(0, zr 4 41), (1, zi (y1 + 1))] i110_25 rfl ?_
        exact ih (y1 + 1) m513 (B) (hJ514.up (by omega)) (by omega) (by omega) (by omega) (Eq.trans hR (Eq.trans (if_neg h508) (Eq.trans (zb_eq hFv511) (Eq.trans (if_neg h512) (Eq.trans (zs_eq hm513) rfl)))))
      · exact K42 y1 v511 m509 (B) (hJ510.up (by omega)) (by omega) (by first | trivial | omega) (by first | trivial | omega) (Eq.trans hR (Eq.trans (if_neg h508) (Eq.trans (zb_eq hFv511) (Eq.trans (if_pos h512) rfl))))
-- WorkMeter$CalendarText.fail
theorem c102_3 {s : Nat × (Nat → Int32)} {S : zS} {m0 m : zM} {B : Int} {d : Nat} {Q : Option zV → zM → Prop} (a1 a2 : Int) (hd : 13 ≤ d) (hJ : J S m0 B m) (hB : B + 0 ≤ 1000000000) (ha1 : 3 ≤ a1 ∧ a1 ≤ 3) (ha2 : 0 ≤ a2 ∧ a2 ≤ 300) (hf16 : ¬ S.1 16) (hg4 : ¬ S.2.1 4) (hQ : ∀ (v : Int) m', (0 ≤ v ∧ v ≤ 0) → f102_1 a1 a2 m = (v, m') → J S m0 (B) m' → Q (some (zi v)) m') : X (EE s) d 102 0 [(0, zr 4 41), (1, zi a1), (2, zi a2)] [] m Q := by
  refine X.aload_n 1 i102_0 rfl rfl rfl ?_
  refine X.iload_n 2 i102_1 rfl rfl rfl ?_
  refine X.putI' 5 4 i102_2 rfl rfl (by decide) rfl rfl rfl (fun hrm501 m501 hm501 => ?_)
  have hJ502 := w41_4 hJ hm501 (by omega) hrm501 hf16 hg4
  refine X.aload_n 6 i102_5 rfl rfl rfl ?_
  refine X.iload_n 7 i102_6 rfl rfl rfl ?_
  refine X.putI' 10 5 i102_7 rfl rfl (by decide) rfl rfl rfl (fun hrm503 m503 hm503 => ?_)
  have hJ504 := w41_4 hJ502 hm503 (by omega) hrm503 hf16 hg4
  refine X.iconst 11 i102_10 rfl rfl (by decide) ?_
  refine X.retz i102_11 rfl t102 (by omega) ?_
  exact hQ 0 m503 (by first | trivial | omega) (Eq.trans (zs_eq hm501) (Eq.trans (zs_eq hm503) rfl)) (hJ504.up (by omega)) 
-- WorkMeter$CalendarText.readPrices
noncomputable def f110_1 (m : zM) : Int × zM :=
  if (m 4 41 6) = 0 then
  (zs (z_upd m 4 41 7 ((m 4 41 7) + 5)) fun m504 =>
  fl110_25_1 (fun y506 y507 m508 =>
  (0, m508)) (fun m512 =>
  zs (z_upd m512 4 41 6 1) fun m516 =>
  (1, m516)) (zfu 5) 0 m504)
  else
  (zb (f102_1 3 (m 4 41 7) m) fun v521 m519 =>
  (v521, m519))
-- WorkMeter$CalendarText.readPrices
theorem c110_1 {s : Nat × (Nat → Int32)} {S : zS} {m0 m : zM} {B : Int} {d : Nat} {Q : Option zV → zM → Prop} (hd : 15 ≤ d) (hJ : J S m0 B m) (hB : B + 0 ≤ 1000000000) (hp0 : m 4 41 7 + 5 ≤ 300) (hf16 : ¬ S.1 16) (hf19 : ¬ S.1 19) (hg4 : ¬ S.2.1 4) (hQ : ∀ (v : Int) m', (0 ≤ v ∧ v ≤ 1) → f110_1 m = (v, m') → J S m0 (B) m' → Q (some (zi v)) m') : X (EE s) d 110 0 [(0, zr 4 41)] [] m Q := by
  refine X.aload_n 1 i110_0 rfl rfl rfl ?_
  refine X.getZ 4 6 i110_1 rfl rfl (by decide) rfl rfl rfl (fun h501 => ?_)
  refine X.ifeq 17 7 i110_4 rfl rfl rfl (fun h502 => ?_) (fun h502 => ?_)
  · refine X.aload_n 18 i110_17 rfl rfl rfl ?_
    refine X.ldcS 20 i110_18 rfl rfl (by decide) ?_
    refine X.callv 23 [zr 99 7] [] [(0, zr 4 41), (1, zr 99 7)] i110_20 rfl (by decide) rfl rfl (by omega) rfl rfl (by decide) rfl t98 (Nat.le_of_ble_eq_true rfl) (Nat.le_of_ble_eq_true rfl) rfl ?_
    refine X.aload_n 1 i98_0 rfl rfl rfl ?_
    refine X.dup 2 i98_1 rfl rfl rfl ?_
    refine X.getI 5 7 i98_2 rfl rfl (by decide) rfl rfl rfl ?_
    have h503 := r41_7 hJ 4
    refine X.aload_n 6 i98_5 rfl rfl rfl ?_
    refine X.slen 9 i98_6 rfl rfl (by omega) (Nat.le_of_ble_eq_true rfl) (by decide) (show (5 : Nat) < 2147483648 by decide) ?_
    show X (EE s) (d - 1) 98 9 [(0, zr 4 41), (1, zr 99 7)] [zi 5, zi (m 4 41 7), zr 4 41] m _
    refine X.iadd 10 i98_9 rfl rfl (by omega) ?_
    refine X.putI' 13 7 i98_10 rfl rfl (by decide) rfl rfl rfl (fun hrm504 m504 hm504 => ?_)
    have hJ505 := w41_7 hJ hm504 (by omega) hf19 hg4
    have em504 : m504 4 41 7 = ((m 4 41 7) + 5) := by rw [hm504]; exact z_upd_same _ _ _ _ _
    refine X.retv i98_13 rfl t98 ?_
    show X (EE s) d 110 23 [(0, zr 4 41)] [] m504 _
    refine X.iconst 24 i110_23 rfl rfl (by decide) ?_
    refine X.istore_n 25 [(0, zr 4 41), (1, zi 0)] i110_24 rfl rfl rfl ?_
    have hz5 := zfu_eq 5
    refine l110_25_1 (s := s) (d := d) (R0 := (f110_1 m))    (BE := B + 0) (by omega) (by omega) hf16 hf19 hg4 (fun y506 y507 m508 B509 hJ510 hBB509 hby506 hby507 hR511 => ?_) (fun  m512 B513 hJ514 hBB513 hR515 => ?_) (zfu 5) 0 m504 (B) (hJ505.up (by omega)) (by omega) (by omega) (by omega) (Eq.trans (if_pos h502) (Eq.trans (zs_eq hm504) rfl))
    · refine X.iconst 43 i110_42 rfl rfl (by decide) ?_
      refine X.retz i110_43 rfl t110 (by omega) ?_
      exact hQ 0 m508 (by first | trivial | omega) (Eq.trans hR511 rfl) (hJ510.up (by omega)) 
    · refine X.aload_n 58 i110_57 rfl rfl rfl ?_
      refine X.iconst 59 i110_58 rfl rfl (by decide) ?_
      refine X.putZ' 62 6 i110_59 rfl rfl (by decide) rfl rfl rfl (by omega) (fun hrm516 m516 hm516 => ?_)
      have hJ517 := w41_6 hJ514 hm516 (by omega) hf19 hg4
      refine X.iconst 63 i110_62 rfl rfl (by decide) ?_
      refine X.retz i110_63 rfl t110 (by omega) ?_
      exact hQ 1 m516 (by first | trivial | omega) (Eq.trans hR515 (Eq.trans (zs_eq hm516) rfl)) (hJ517.up (by omega)) 
  · refine X.aload_n 8 i110_7 rfl rfl rfl ?_
    refine X.iconst 9 i110_8 rfl rfl (by decide) ?_
    refine X.aload_n 10 i110_9 rfl rfl rfl ?_
    refine X.getI 13 7 i110_10 rfl rfl (by decide) rfl rfl rfl ?_
    have h518 := r41_7 hJ 4
    refine X.callv 16 [zi 3, zi (m 4 41 7)] [] [(0, zr 4 41), (1, zi 3), (2, zi (m 4 41 7))] i110_13 rfl (by decide) rfl rfl (by omega) rfl rfl (by decide) rfl t102 (Nat.le_of_ble_eq_true rfl) (Nat.le_of_ble_eq_true rfl) rfl ?_
    refine c102_3 (B := B)  3 (m 4 41 7) (by omega) (hJ.up (by omega)) (by omega) (by omega) (by omega) hf16 hg4 (fun v521 m519 hv521 hFv521 hJ520 => ?_)
    show X (EE s) d 110 16 [(0, zr 4 41)] [zi v521] m519 _
    refine X.retz i110_16 rfl t110 (by omega) ?_
    exact hQ v521 m519 (by first | trivial | omega) (Eq.trans (if_neg h502) (Eq.trans (zb_eq hFv521) rfl)) (hJ520.up (by omega)) 
-- WorkMeter$Calendar.isSpecial
noncomputable def f108_1 (g0 : Nat) (a1 : Int) (m : zM) : Int :=
  zn (f29_1 g0 a1 m) fun v503 =>
  zn (if v503 = (-1) then
  (0)
  else
  (1)) fun v505 =>
  v505
-- WorkMeter$Calendar.isSpecial
theorem c108_1 {s : Nat × (Nat → Int32)} {S : zS} {m0 m : zM} {B : Int} {d : Nat} {Q : Option zV → zM → Prop} (g0 : Nat) (a1 : Int) (hd : 14 ≤ d) (hJ : J S m0 B m) (hB : B + 0 ≤ 1000000000) (ha1 : 0 ≤ a1 ∧ a1 ≤ 364) (hQ : ∀ (v : Int), (0 ≤ v ∧ v ≤ 1) → f108_1 g0 a1 m = v → Q (some (zi v)) m) : X (EE s) d 108 0 [(0, zr g0 11), (1, zi a1)] [] m Q := by
  refine X.aload_n 1 i108_0 rfl rfl rfl ?_
  refine X.iload_n 2 i108_1 rfl rfl rfl ?_
  refine X.callv 5 [zi a1] [] [(0, zr g0 11), (1, zi a1)] i108_2 rfl (by decide) rfl rfl (by omega) rfl rfl (by decide) rfl t29 (Nat.le_of_ble_eq_true rfl) (Nat.le_of_ble_eq_true rfl) rfl ?_
  refine c29_1 (B := B) g0 a1 (by omega) (hJ.up (by omega)) (by omega) (by omega) (fun v503 hv503 hFv503 hqv503_0 => ?_)
  show X (EE s) d 108 5 [(0, zr g0 11), (1, zi a1)] [zi v503] m _
  refine X.iconst 6 i108_5 rfl rfl (by decide) ?_
  have hK508 : ∀ (v : Int) , (0 ≤ v ∧ v ≤ 1) → (if v503 = (-1) then
      (0)
      else
      (1)) = v → X (EE s) d 108 14 [] [zi v] m Q := by
    intro v505 hv505 hT509
    refine X.retz i108_14 rfl t108 (by omega) ?_
    exact hQ v505 (by first | trivial | omega) (Eq.trans (zn_eq hFv503.symm) (Eq.trans (zn_eq hT509.symm) rfl)) 
  refine X.icmpeq 13 9 i108_6 rfl rfl rfl (fun h504 => ?_) (fun h504 => ?_)
  · refine X.cut [] i108_13 rfl ?_
    refine X.iconst 14 i108_13 rfl rfl (by decide) ?_
    exact hK508 0 (by first | trivial | omega) (Eq.trans (if_pos h504) rfl)
  · refine X.iconst 10 i108_9 rfl rfl (by decide) ?_
    refine X.goto 14 i108_10 rfl rfl ?_
    refine X.cut [] i108_14 rfl ?_
    exact hK508 1 (by first | trivial | omega) (Eq.trans (if_neg h504) rfl)
-- WorkMeter$Calendar.putSpecial
noncomputable def f109_1 (g0 : Nat) (a1 a2 : Int) (m : zM) : Int × zM :=
  zn (f29_1 g0 a1 m) fun v503 =>
  if v503 = (-1) then
  (if (m g0 11 7) < 16 then
  (zs (z_upd m g0 11 7 ((m g0 11 7) + 1)) fun m511 =>
  zs (z_upd m511 g0 17 (m g0 11 7) a1) fun m513 =>
  zs (z_upd m513 g0 18 (m g0 11 7) a2) fun m515 =>
  (1, m515))
  else
  ((0, m)))
  else
  (zs (z_upd m g0 17 v503 a1) fun m505 =>
  zs (z_upd m505 g0 18 v503 a2) fun m507 =>
  (1, m507))
-- WorkMeter$Calendar.putSpecial
theorem c109_1 {s : Nat × (Nat → Int32)} {S : zS} {m0 m : zM} {B : Int} {d : Nat} {Q : Option zV → zM → Prop} (g0 : Nat) (a1 a2 : Int) (hd : 14 ≤ d) (hJ : J S m0 B m) (hB : B + 0 ≤ 1000000000) (ha1 : 0 ≤ a1 ∧ a1 ≤ 364) (ha2 : 0 ≤ a2 ∧ a2 ≤ 7) (hf1 : ¬ S.1 1) (hgg0 : ¬ S.2.1 g0) (hQ : ∀ (v : Int) m', (0 ≤ v ∧ v ≤ 1) → f109_1 g0 a1 a2 m = (v, m') → J S m0 (B) m' → Q (some (zi v)) m') : X (EE s) d 109 0 [(0, zr g0 11), (1, zi a1), (2, zi a2)] [] m Q := by
  refine X.aload_n 1 i109_0 rfl rfl rfl ?_
  refine X.iload_n 2 i109_1 rfl rfl rfl ?_
  refine X.callv 5 [zi a1] [] [(0, zr g0 11), (1, zi a1)] i109_2 rfl (by decide) rfl rfl (by omega) rfl rfl (by decide) rfl t29 (Nat.le_of_ble_eq_true rfl) (Nat.le_of_ble_eq_true rfl) rfl ?_
  refine c29_1 (B := B) g0 a1 (by omega) (hJ.up (by omega)) (by omega) (by omega) (fun v503 hv503 hFv503 hqv503_0 => ?_)
  show X (EE s) d 109 5 [(0, zr g0 11), (1, zi a1), (2, zi a2)] [zi v503] m _
  refine X.istore_n 6 [(0, zr g0 11), (1, zi a1), (2, zi a2), (3, zi v503)] i109_5 rfl rfl rfl ?_
  refine X.iload_n 7 i109_6 rfl rfl rfl ?_
  refine X.iconst 8 i109_7 rfl rfl (by decide) ?_
  refine X.icmpne 37 11 i109_8 rfl rfl rfl (fun h504 => ?_) (fun h504 => ?_)
  · refine X.aload_n 38 i109_37 rfl rfl rfl ?_
    refine X.getR 41 i109_38 rfl rfl (by decide) rfl rfl ?_
    refine X.iload_n 42 i109_41 rfl rfl rfl ?_
    refine X.iload_n 43 i109_42 rfl rfl rfl ?_
    refine X.iast' 44 i109_43 rfl rfl (by decide) rfl (by omega) (fun hrm505 m505 hm505 => ?_)
    have hJ506 := w17_0 hJ hm505 (by omega) (by omega) hf1 hgg0
    refine X.aload_n 45 i109_44 rfl rfl rfl ?_
    refine X.getR 48 i109_45 rfl rfl (by decide) rfl rfl ?_
    refine X.iload_n 49 i109_48 rfl rfl rfl ?_
    refine X.iload_n 50 i109_49 rfl rfl rfl ?_
    refine X.iast' 51 i109_50 rfl rfl (by decide) rfl (by omega) (fun hrm507 m507 hm507 => ?_)
    have hJ508 := w18_0 hJ506 hm507 (by omega) (by omega) hf1 hgg0
    refine X.iconst 52 i109_51 rfl rfl (by decide) ?_
    refine X.retz i109_52 rfl t109 (by omega) ?_
    exact hQ 1 m507 (by first | trivial | omega) (Eq.trans (zn_eq hFv503.symm) (Eq.trans (if_neg h504) (Eq.trans (zs_eq hm505) (Eq.trans (zs_eq hm507) rfl)))) (hJ508.up (by omega)) 
  · refine X.aload_n 12 i109_11 rfl rfl rfl ?_
    refine X.getI 15 7 i109_12 rfl rfl (by decide) rfl rfl rfl ?_
    have h509 := r11_7 hJ g0
    refine X.bipush 17 i109_15 rfl rfl (by decide) ?_
    refine X.icmplt 22 20 i109_17 rfl rfl rfl (fun h510 => ?_) (fun h510 => ?_)
    · refine X.cut [(0, zr g0 11), (1, zi a1), (2, zi a2)] i109_22 rfl ?_
      refine X.aload_n 23 i109_22 rfl rfl rfl ?_
      refine X.getI 26 7 i109_23 rfl rfl (by decide) rfl rfl rfl ?_
      refine X.istore_n 27 [(0, zr g0 11), (1, zi a1), (2, zi a2), (3, zi (m g0 11 7))] i109_26 rfl rfl rfl ?_
      refine X.aload_n 28 i109_27 rfl rfl rfl ?_
      refine X.dup 29 i109_28 rfl rfl rfl ?_
      refine X.getI 32 7 i109_29 rfl rfl (by decide) rfl rfl rfl ?_
      refine X.iconst 33 i109_32 rfl rfl (by decide) ?_
      refine X.iadd 34 i109_33 rfl rfl (by omega) ?_
      refine X.putI' 37 7 i109_34 rfl rfl (by decide) rfl rfl rfl (fun hrm511 m511 hm511 => ?_)
      have hJ512 := w11_7 hJ hm511 (by omega) hf1 hgg0
      have em511 : m511 g0 11 7 = ((m g0 11 7) + 1) := by rw [hm511]; exact z_upd_same _ _ _ _ _
      refine X.aload_n 38 i109_37 rfl rfl rfl ?_
      refine X.getR 41 i109_38 rfl rfl (by decide) rfl rfl ?_
      refine X.iload_n 42 i109_41 rfl rfl rfl ?_
      refine X.iload_n 43 i109_42 rfl rfl rfl ?_
      refine X.iast' 44 i109_43 rfl rfl (by decide) rfl (by omega) (fun hrm513 m513 hm513 => ?_)
      have hJ514 := w17_0 hJ512 hm513 (by omega) (by omega) hf1 hgg0
      refine X.aload_n 45 i109_44 rfl rfl rfl ?_
      refine X.getR 48 i109_45 rfl rfl (by decide) rfl rfl ?_
      refine X.iload_n 49 i109_48 rfl rfl rfl ?_
      refine X.iload_n 50 i109_49 rfl rfl rfl ?_
      refine X.iast' 51 i109_50 rfl rfl (by decide) rfl (by omega) (fun hrm515 m515 hm515 => ?_)
      have hJ516 := w18_0 hJ514 hm515 (by omega) (by omega) hf1 hgg0
      refine X.iconst 52 i109_51 rfl rfl (by decide) ?_
      refine X.retz i109_52 rfl t109 (by omega) ?_
      exact hQ 1 m515 (by first | trivial | omega) (Eq.trans (zn_eq hFv503.symm) (Eq.trans (if_pos h504) (Eq.trans (if_pos h510) (Eq.trans (zs_eq hm511) (Eq.trans (zs_eq hm513) (Eq.trans (zs_eq hm515) rfl)))))) (hJ516.up (by omega)) 
    · refine X.iconst 21 i109_20 rfl rfl (by decide) ?_
      refine X.retz i109_21 rfl t109 (by omega) ?_
      exact hQ 0 m (by first | trivial | omega) (Eq.trans (zn_eq hFv503.symm) (Eq.trans (if_pos h504) (Eq.trans (if_neg h510) rfl))) (hJ.up (by omega)) 
-- WorkMeter$CalendarText.fail
theorem c102_4 {s : Nat × (Nat → Int32)} {S : zS} {m0 m : zM} {B : Int} {d : Nat} {Q : Option zV → zM → Prop} (a1 a2 : Int) (hd : 13 ≤ d) (hJ : J S m0 B m) (hB : B + 0 ≤ 1000000000) (ha1 : 3 ≤ a1 ∧ a1 ≤ 3) (ha2 : (-2147483648) ≤ a2 ∧ a2 ≤ 2147483647) (hf16 : ¬ S.1 16) (hg4 : ¬ S.2.1 4) (hQ : ∀ (v : Int) m', (0 ≤ v ∧ v ≤ 0) → f102_1 a1 a2 m = (v, m') → J S m0 (B) m' → Q (some (zi v)) m') : X (EE s) d 102 0 [(0, zr 4 41), (1, zi a1), (2, zi a2)] [] m Q := by
  refine X.aload_n 1 i102_0 rfl rfl rfl ?_
  refine X.iload_n 2 i102_1 rfl rfl rfl ?_
  refine X.putI' 5 4 i102_2 rfl rfl (by decide) rfl rfl rfl (fun hrm501 m501 hm501 => ?_)
  have hJ502 := w41_4 hJ hm501 (by omega) hrm501 hf16 hg4
  refine X.aload_n 6 i102_5 rfl rfl rfl ?_
  refine X.iload_n 7 i102_6 rfl rfl rfl ?_
  refine X.putI' 10 5 i102_7 rfl rfl (by decide) rfl rfl rfl (fun hrm503 m503 hm503 => ?_)
  have hJ504 := w41_4 hJ502 hm503 (by omega) hrm503 hf16 hg4
  refine X.iconst 11 i102_10 rfl rfl (by decide) ?_
  refine X.retz i102_11 rfl t102 (by omega) ?_
  exact hQ 0 m503 (by first | trivial | omega) (Eq.trans (zs_eq hm501) (Eq.trans (zs_eq hm503) rfl)) (hJ504.up (by omega)) 
-- WorkMeter$CalendarText.fail
theorem c102_5 {s : Nat × (Nat → Int32)} {S : zS} {m0 m : zM} {B : Int} {d : Nat} {Q : Option zV → zM → Prop} (a1 a2 : Int) (hd : 13 ≤ d) (hJ : J S m0 B m) (hB : B + 0 ≤ 1000000000) (ha1 : 4 ≤ a1 ∧ a1 ≤ 4) (ha2 : 0 ≤ a2 ∧ a2 ≤ 300) (hf16 : ¬ S.1 16) (hg4 : ¬ S.2.1 4) (hQ : ∀ (v : Int) m', (0 ≤ v ∧ v ≤ 0) → f102_1 a1 a2 m = (v, m') → J S m0 (B) m' → Q (some (zi v)) m') : X (EE s) d 102 0 [(0, zr 4 41), (1, zi a1), (2, zi a2)] [] m Q := by
  refine X.aload_n 1 i102_0 rfl rfl rfl ?_
  refine X.iload_n 2 i102_1 rfl rfl rfl ?_
  refine X.putI' 5 4 i102_2 rfl rfl (by decide) rfl rfl rfl (fun hrm501 m501 hm501 => ?_)
  have hJ502 := w41_4 hJ hm501 (by omega) hrm501 hf16 hg4
  refine X.aload_n 6 i102_5 rfl rfl rfl ?_
  refine X.iload_n 7 i102_6 rfl rfl rfl ?_
  refine X.putI' 10 5 i102_7 rfl rfl (by decide) rfl rfl rfl (fun hrm503 m503 hm503 => ?_)
  have hJ504 := w41_4 hJ502 hm503 (by omega) hrm503 hf16 hg4
  refine X.iconst 11 i102_10 rfl rfl (by decide) ?_
  refine X.retz i102_11 rfl t102 (by omega) ?_
  exact hQ 0 m503 (by first | trivial | omega) (Eq.trans (zs_eq hm501) (Eq.trans (zs_eq hm503) rfl)) (hJ504.up (by omega)) 
-- WorkMeter$CalendarText.readSpecial
noncomputable def f107_1 (m : zM) : Int × zM :=
  if (m 3 11 7) < 16 then
  (zs (z_upd m 4 41 7 ((m 4 41 7) + 7)) fun m504 =>
  zb (f100_1 364 m504) fun v508 m506 =>
  if v508 = (-1) then
  ((0, m506))
  else
  (zn (f108_1 3 v508 m506) fun v512 =>
  if v512 = 0 then
  (zb (f100_1 7 m506) fun v516 m514 =>
  zb (if v516 = (-1) then
  ((0, m514))
  else
  (zb (f109_1 3 v508 v516 m514) fun v520 m518 =>
  if v520 = 0 then
  ((0, m518))
  else
  ((1, m518)))) fun v522 m523 =>
  (v522, m523))
  else
  (zb (f102_1 3 (m506 4 41 8) m506) fun v530 m528 =>
  (v530, m528))))
  else
  (zb (f102_1 4 (m 4 41 7) m) fun v534 m532 =>
  (v534, m532))
-- WorkMeter$CalendarText.readSpecial
theorem c107_1 {s : Nat × (Nat → Int32)} {S : zS} {m0 m : zM} {B : Int} {d : Nat} {Q : Option zV → zM → Prop} (hd : 15 ≤ d) (hJ : J S m0 B m) (hB : B + 0 ≤ 1000000000) (hp0 : m 4 41 7 + 7 ≤ 300) (hf1 : ¬ S.1 1) (hf16 : ¬ S.1 16) (hf19 : ¬ S.1 19) (hg3 : ¬ S.2.1 3) (hg4 : ¬ S.2.1 4) (hQ : ∀ (v : Int) m', (0 ≤ v ∧ v ≤ 1) → f107_1 m = (v, m') → J S m0 (B) m' → Q (some (zi v)) m') : X (EE s) d 107 0 [(0, zr 4 41)] [] m Q := by
  refine X.aload_n 1 i107_0 rfl rfl rfl ?_
  refine X.getF 4 i107_1 rfl rfl (by decide) rfl rfl ?_
  refine X.getI 7 7 i107_4 rfl rfl (by decide) rfl rfl rfl ?_
  have h501 := r11_7 hJ 3
  refine X.bipush 9 i107_7 rfl rfl (by decide) ?_
  refine X.icmplt 22 12 i107_9 rfl rfl rfl (fun h502 => ?_) (fun h502 => ?_)
  · refine X.aload_n 23 i107_22 rfl rfl rfl ?_
    refine X.ldcS 25 i107_23 rfl rfl (by decide) ?_
    refine X.callv 28 [zr 99 6] [] [(0, zr 4 41), (1, zr 99 6)] i107_25 rfl (by decide) rfl rfl (by omega) rfl rfl (by decide) rfl t98 (Nat.le_of_ble_eq_true rfl) (Nat.le_of_ble_eq_true rfl) rfl ?_
    refine X.aload_n 1 i98_0 rfl rfl rfl ?_
    refine X.dup 2 i98_1 rfl rfl rfl ?_
    refine X.getI 5 7 i98_2 rfl rfl (by decide) rfl rfl rfl ?_
    have h503 := r41_7 hJ 4
    refine X.aload_n 6 i98_5 rfl rfl rfl ?_
    refine X.slen 9 i98_6 rfl rfl (by omega) (Nat.le_of_ble_eq_true rfl) (by decide) (show (7 : Nat) < 2147483648 by decide) ?_
    show X (EE s) (d - 1) 98 9 [(0, zr 4 41), (1, zr 99 6)] [zi 7, zi (m 4 41 7), zr 4 41] m _
    refine X.iadd 10 i98_9 rfl rfl (by omega) ?_
    refine X.putI' 13 7 i98_10 rfl rfl (by decide) rfl rfl rfl (fun hrm504 m504 hm504 => ?_)
    have hJ505 := w41_7 hJ hm504 (by omega) hf19 hg4
    have em504 : m504 4 41 7 = ((m 4 41 7) + 7) := by rw [hm504]; exact z_upd_same _ _ _ _ _
    refine X.retv i98_13 rfl t98 ?_
    show X (EE s) d 107 28 [(0, zr 4 41)] [] m504 _
    refine X.aload_n 29 i107_28 rfl rfl rfl ?_
    refine X.sipush 32 i107_29 rfl rfl (by decide) ?_
    refine X.callv 35 [zi 364] [] [(0, zr 4 41), (1, zi 364)] i107_32 rfl (by decide) rfl rfl (by omega) rfl rfl (by decide) rfl t100 (Nat.le_of_ble_eq_true rfl) (Nat.le_of_ble_eq_true rfl) rfl ?_
    refine c100_1 (B := B)  364 (by omega) (hJ505.up (by omega)) (by omega) (by omega) hf16 hf19 hg4 (fun v508 m506 hv508 hFv508 hJ507 hqv508_0 => ?_)
    show X (EE s) d 107 35 [(0, zr 4 41)] [zi v508] m506 _
    refine X.istore_n 36 [(0, zr 4 41), (1, zi v508)] i107_35 rfl rfl rfl ?_
    refine X.iload_n 37 i107_36 rfl rfl rfl ?_
    refine X.iconst 38 i107_37 rfl rfl (by decide) ?_
    refine X.icmpne 43 41 i107_38 rfl rfl rfl (fun h509 => ?_) (fun h509 => ?_)
    · refine X.aload_n 44 i107_43 rfl rfl rfl ?_
      refine X.getF 47 i107_44 rfl rfl (by decide) rfl rfl ?_
      refine X.iload_n 48 i107_47 rfl rfl rfl ?_
      refine X.callv 51 [zi v508] [] [(0, zr 3 11), (1, zi v508)] i107_48 rfl (by decide) rfl rfl (by omega) rfl rfl (by decide) rfl t108 (Nat.le_of_ble_eq_true rfl) (Nat.le_of_ble_eq_true rfl) rfl ?_
      refine c108_1 (B := B) 3 v508 (by omega) (hJ507.up (by omega)) (by omega) (by omega) (fun v512 hv512 hFv512 => ?_)
      show X (EE s) d 107 51 [(0, zr 4 41), (1, zi v508)] [zi v512] m506 _
      refine X.ifeq 64 54 i107_51 rfl rfl rfl (fun h513 => ?_) (fun h513 => ?_)
      · refine X.aload_n 65 i107_64 rfl rfl rfl ?_
        refine X.bipush 67 i107_65 rfl rfl (by decide) ?_
        refine X.callv 70 [zi 7] [] [(0, zr 4 41), (1, zi 7)] i107_67 rfl (by decide) rfl rfl (by omega) rfl rfl (by decide) rfl t100 (Nat.le_of_ble_eq_true rfl) (Nat.le_of_ble_eq_true rfl) rfl ?_
        refine c100_1 (B := B)  7 (by omega) (hJ507.up (by omega)) (by omega) (by omega) hf16 hf19 hg4 (fun v516 m514 hv516 hFv516 hJ515 hqv516_0 => ?_)
        show X (EE s) d 107 70 [(0, zr 4 41), (1, zi v508)] [zi v516] m514 _
        refine X.istore_n 71 [(0, zr 4 41), (1, zi v508), (2, zi v516)] i107_70 rfl rfl rfl ?_
        refine X.iload_n 72 i107_71 rfl rfl rfl ?_
        refine X.iconst 73 i107_72 rfl rfl (by decide) ?_
        have hK525 : ∀ (v : Int) (m' : zM), (0 ≤ v ∧ v ≤ 1) → (if v516 = (-1) then
            ((0, m514))
            else
            (zb (f109_1 3 v508 v516 m514) fun v520 m518 =>
            if v520 = 0 then
            ((0, m518))
            else
            ((1, m518)))) = (v, m') → J S m0 (B) m' → X (EE s) d 107 93 [] [zi v] m' Q := by
          intro v522 m523 hv522 hT526 hJ524
          refine X.retz i107_93 rfl t107 (by omega) ?_
          exact hQ v522 m523 (by first | trivial | omega) (Eq.trans (if_pos h502) (Eq.trans (zs_eq hm504) (Eq.trans (zb_eq hFv508) (Eq.trans (if_neg h509) (Eq.trans (zn_eq hFv512.symm) (Eq.trans (if_pos h513) (Eq.trans (zb_eq hFv516) (Eq.trans (zb_eq hT526) rfl)))))))) (hJ524.up (by omega)) 
        refine X.icmpeq 92 76 i107_73 rfl rfl rfl (fun h517 => ?_) (fun h517 => ?_)
        · refine X.cut [] i107_92 rfl ?_
          refine X.iconst 93 i107_92 rfl rfl (by decide) ?_
          exact hK525 0 m514 (by first | trivial | omega) (Eq.trans (if_pos h517) rfl) (hJ515.up (by omega))
        · refine X.aload_n 77 i107_76 rfl rfl rfl ?_
          refine X.getF 80 i107_77 rfl rfl (by decide) rfl rfl ?_
          refine X.iload_n 81 i107_80 rfl rfl rfl ?_
          refine X.iload_n 82 i107_81 rfl rfl rfl ?_
          refine X.callv 85 [zi v508, zi v516] [] [(0, zr 3 11), (1, zi v508), (2, zi v516)] i107_82 rfl (by decide) rfl rfl (by omega) rfl rfl (by decide) rfl t109 (Nat.le_of_ble_eq_true rfl) (Nat.le_of_ble_eq_true rfl) rfl ?_
          refine c109_1 (B := B) 3 v508 v516 (by omega) (hJ515.up (by omega)) (by omega) (by omega) (by omega) hf1 hg3 (fun v520 m518 hv520 hFv520 hJ519 => ?_)
          show X (EE s) d 107 85 [(0, zr 4 41), (1, zi v508), (2, zi v516)] [zi v520] m518 _
          refine X.ifeq 92 88 i107_85 rfl rfl rfl (fun h521 => ?_) (fun h521 => ?_)
          · refine X.cut [] i107_92 rfl ?_
            refine X.iconst 93 i107_92 rfl rfl (by decide) ?_
            exact hK525 0 m518 (by first | trivial | omega) (Eq.trans (if_neg h517) (Eq.trans (zb_eq hFv520) (Eq.trans (if_pos h521) rfl))) (hJ519.up (by omega))
          · refine X.iconst 89 i107_88 rfl rfl (by decide) ?_
            refine X.goto 93 i107_89 rfl rfl ?_
            refine X.cut [] i107_93 rfl ?_
            exact hK525 1 m518 (by first | trivial | omega) (Eq.trans (if_neg h517) (Eq.trans (zb_eq hFv520) (Eq.trans (if_neg h521) rfl))) (hJ519.up (by omega))
      · refine X.aload_n 55 i107_54 rfl rfl rfl ?_
        refine X.iconst 56 i107_55 rfl rfl (by decide) ?_
        refine X.aload_n 57 i107_56 rfl rfl rfl ?_
        refine X.getIr 60 8 i107_57 rfl rfl (by decide) rfl rfl rfl (fun h527 => ?_)
        refine X.callv 63 [zi 3, zi (m506 4 41 8)] [] [(0, zr 4 41), (1, zi 3), (2, zi (m506 4 41 8))] i107_60 rfl (by decide) rfl rfl (by omega) rfl rfl (by decide) rfl t102 (Nat.le_of_ble_eq_true rfl) (Nat.le_of_ble_eq_true rfl) rfl ?_
        refine c102_4 (B := B)  3 (m506 4 41 8) (by omega) (hJ507.up (by omega)) (by omega) (by omega) (by omega) hf16 hg4 (fun v530 m528 hv530 hFv530 hJ529 => ?_)
        show X (EE s) d 107 63 [(0, zr 4 41), (1, zi v508)] [zi v530] m528 _
        refine X.retz i107_63 rfl t107 (by omega) ?_
        exact hQ v530 m528 (by first | trivial | omega) (Eq.trans (if_pos h502) (Eq.trans (zs_eq hm504) (Eq.trans (zb_eq hFv508) (Eq.trans (if_neg h509) (Eq.trans (zn_eq hFv512.symm) (Eq.trans (if_neg h513) (Eq.trans (zb_eq hFv530) rfl))))))) (hJ529.up (by omega)) 
    · refine X.iconst 42 i107_41 rfl rfl (by decide) ?_
      refine X.retz i107_42 rfl t107 (by omega) ?_
      exact hQ 0 m506 (by first | trivial | omega) (Eq.trans (if_pos h502) (Eq.trans (zs_eq hm504) (Eq.trans (zb_eq hFv508) (Eq.trans (if_pos h509) rfl)))) (hJ507.up (by omega)) 
  · refine X.aload_n 13 i107_12 rfl rfl rfl ?_
    refine X.iconst 14 i107_13 rfl rfl (by decide) ?_
    refine X.aload_n 15 i107_14 rfl rfl rfl ?_
    refine X.getI 18 7 i107_15 rfl rfl (by decide) rfl rfl rfl ?_
    have h531 := r41_7 hJ 4
    refine X.callv 21 [zi 4, zi (m 4 41 7)] [] [(0, zr 4 41), (1, zi 4), (2, zi (m 4 41 7))] i107_18 rfl (by decide) rfl rfl (by omega) rfl rfl (by decide) rfl t102 (Nat.le_of_ble_eq_true rfl) (Nat.le_of_ble_eq_true rfl) rfl ?_
    refine c102_5 (B := B)  4 (m 4 41 7) (by omega) (hJ.up (by omega)) (by omega) (by omega) (by omega) hf16 hg4 (fun v534 m532 hv534 hFv534 hJ533 => ?_)
    show X (EE s) d 107 21 [(0, zr 4 41)] [zi v534] m532 _
    refine X.retz i107_21 rfl t107 (by omega) ?_
    exact hQ v534 m532 (by first | trivial | omega) (Eq.trans (if_neg h502) (Eq.trans (zb_eq hFv534) rfl)) (hJ533.up (by omega)) 
-- WorkMeter$CalendarText.readNewNumber
noncomputable def f99_1 (a1 a2 : Int) (m : zM) : Int × zM :=
  zb (f100_1 a1 m) fun v503 m501 =>
  if v503 = (-1) then
  ((v503, m501))
  else
  (zn (zshr a2 v503) fun z505 =>
  zn (zand z505 1) fun z506 =>
  if z506 = 1 then
  (zb (f102_1 3 (m501 4 41 8) m501) fun v511 m509 =>
  ((-1), m509))
  else
  ((v503, m501)))
-- WorkMeter$CalendarText.readNewNumber
theorem c99_1 {s : Nat × (Nat → Int32)} {S : zS} {m0 m : zM} {B : Int} {d : Nat} {Q : Option zV → zM → Prop} (a1 a2 : Int) (hd : 15 ≤ d) (hJ : J S m0 B m) (hB : B + 0 ≤ 1000000000) (ha1 : 0 ≤ a1 ∧ a1 ≤ 1000) (ha2 : (-2147483648) ≤ a2 ∧ a2 ≤ 2147483647) (hf16 : ¬ S.1 16) (hf19 : ¬ S.1 19) (hg4 : ¬ S.2.1 4) (hQ : ∀ (v : Int) m', ((-1) ≤ v ∧ v ≤ 1000) → f99_1 a1 a2 m = (v, m') → J S m0 (B) m' → (v ≤ a1) → Q (some (zi v)) m') : X (EE s) d 99 0 [(0, zr 4 41), (1, zi a1), (2, zi a2)] [] m Q := by
  refine X.aload_n 1 i99_0 rfl rfl rfl ?_
  refine X.iload_n 2 i99_1 rfl rfl rfl ?_
  refine X.callv 5 [zi a1] [] [(0, zr 4 41), (1, zi a1)] i99_2 rfl (by decide) rfl rfl (by omega) rfl rfl (by decide) rfl t100 (Nat.le_of_ble_eq_true rfl) (Nat.le_of_ble_eq_true rfl) rfl ?_
  refine c100_1 (B := B)  a1 (by omega) (hJ.up (by omega)) (by omega) (by omega) hf16 hf19 hg4 (fun v503 m501 hv503 hFv503 hJ502 hqv503_0 => ?_)
  show X (EE s) d 99 5 [(0, zr 4 41), (1, zi a1), (2, zi a2)] [zi v503] m501 _
  refine X.istore_n 6 [(0, zr 4 41), (1, zi a1), (2, zi a2), (3, zi v503)] i99_5 rfl rfl rfl ?_
  refine X.iload_n 7 i99_6 rfl rfl rfl ?_
  refine X.iconst 8 i99_7 rfl rfl (by decide) ?_
  refine X.icmpeq 32 11 i99_8 rfl rfl rfl (fun h504 => ?_) (fun h504 => ?_)
  · refine X.cut [(3, zi v503)] i99_32 rfl ?_
    refine X.iload_n 33 i99_32 rfl rfl rfl ?_
    refine X.reti i99_33 rfl t99 ?_
    exact hQ v503 m501 (by first | trivial | omega) (Eq.trans (zb_eq hFv503) (Eq.trans (if_pos h504) rfl)) (hJ502.up (by omega)) (by omega)
  · refine X.iload_n 12 i99_11 rfl rfl rfl ?_
    refine X.iload_n 13 i99_12 rfl rfl rfl ?_
    refine X.iiE 14 .ishr (fun x y => x >>> (y &&& 31)) i99_13 rfl rfl rfl (fun _ _ => rfl) (fun z505 ez505 hz505 => ?_)
    refine X.iconst 15 i99_14 rfl rfl (by decide) ?_
    refine X.andE 16 1 i99_15 rfl rfl (by decide) (.inl rfl) (fun z506 ez506 hz506 => ?_)
    refine X.iconst 17 i99_16 rfl rfl (by decide) ?_
    refine X.icmpne 32 20 i99_17 rfl rfl rfl (fun h507 => ?_) (fun h507 => ?_)
    · refine X.cut [(3, zi v503)] i99_32 rfl ?_
      refine X.iload_n 33 i99_32 rfl rfl rfl ?_
      refine X.reti i99_33 rfl t99 ?_
      exact hQ v503 m501 (by first | trivial | omega) (Eq.trans (zb_eq hFv503) (Eq.trans (if_neg h504) (Eq.trans (zn_eq ez505) (Eq.trans (zn_eq ez506) (Eq.trans (if_neg h507) rfl))))) (hJ502.up (by omega)) (by omega)
    · refine X.aload_n 21 i99_20 rfl rfl rfl ?_
      refine X.iconst 22 i99_21 rfl rfl (by decide) ?_
      refine X.aload_n 23 i99_22 rfl rfl rfl ?_
      refine X.getIr 26 8 i99_23 rfl rfl (by decide) rfl rfl rfl (fun h508 => ?_)
      refine X.callv 29 [zi 3, zi (m501 4 41 8)] [] [(0, zr 4 41), (1, zi 3), (2, zi (m501 4 41 8))] i99_26 rfl (by decide) rfl rfl (by omega) rfl rfl (by decide) rfl t102 (Nat.le_of_ble_eq_true rfl) (Nat.le_of_ble_eq_true rfl) rfl ?_
      refine c102_4 (B := B)  3 (m501 4 41 8) (by omega) (hJ502.up (by omega)) (by omega) (by omega) (by omega) hf16 hg4 (fun v511 m509 hv511 hFv511 hJ510 => ?_)
      show X (EE s) d 99 29 [(0, zr 4 41), (1, zi a1), (2, zi a2), (3, zi v503)] [zi v511] m509 _
      refine X.pop 30 i99_29 rfl rfl rfl ?_
      refine X.iconst 31 i99_30 rfl rfl (by decide) ?_
      refine X.reti i99_31 rfl t99 ?_
      exact hQ (-1) m509 (by first | trivial | omega) (Eq.trans (zb_eq hFv503) (Eq.trans (if_neg h504) (Eq.trans (zn_eq ez505) (Eq.trans (zn_eq ez506) (Eq.trans (if_pos h507) (Eq.trans (zb_eq hFv511) rfl)))))) (hJ510.up (by omega)) (by omega)
noncomputable def fl106_62_1_b (self : Int → zM → Int × zM) (k82 : Int → Int → zM → Int × zM) (k106 : zM → Int × zM) (y1 : Int) (y3 : Int) (m : zM) : Int × zM :=
  if 7 ≤ y3 then
  (k106 m)
  else
  (zb (f100_1 7 m) fun v511 m509 =>
  if v511 = (-1) then
  (k82 y3 v511 m509)
  else
  (zs (z_upd m509 3 16 ((y1 * 7) + y3) v511) fun m513 =>
  self (y3 + 1) m513))
noncomputable def fl106_62_1 (k82 : Int → Int → zM → Int × zM) (k106 : zM → Int × zM) (y1 : Int) : Nat → Int → zM → Int × zM
  | 0 => fun y3 m => (0, m)
  | n + 1 => fl106_62_1_b (fl106_62_1 k82 k106 y1 n) k82 k106 y1
theorem l106_62_1 {s : Nat × (Nat → Int32)} {S : zS} {m0 : zM} {d : Nat} {Q : Option zV → zM → Prop} {R0 : Int × zM} {k82 : Int → Int → zM → Int × zM} {k106 : zM → Int × zM} (y1 : Int) (BE : Int) (hE : BE ≤ 1000000000) (hd : 15 ≤ d) (hy1 : 0 ≤ y1 ∧ y1 ≤ 3) (hf1 : ¬ S.1 1) (hf16 : ¬ S.1 16) (hf19 : ¬ S.1 19) (hg3 : ¬ S.2.1 3) (hg4 : ¬ S.2.1 4)
    (K82 : ∀ (x3 x4 : Int) (m' : zM) (B' : Int), J S m0 B' m' → B' ≤ BE → (0 ≤ x3 ∧ x3 ≤ 6) → ((-1) ≤ x4 ∧ x4 ≤ (-1)) → R0 = k82 x3 x4 m' → X (EE s) d 106 82 [(0, zr 4 41), (1, zi y1), (3, zi x3), (4, zi x4)] [] m' Q)
    (K106 : ∀ (m' : zM) (B' : Int), J S m0 B' m' → B' ≤ BE → R0 = k106 m' → X (EE s) d 106 106 [] [] m' Q) :
    ∀ (n : Nat) (y3 : Int) (m : zM) (B : Int), J S m0 B m → B + 0 * (n : Int) ≤ BE → (0 ≤ y3 ∧ y3 ≤ 7) → 7 - y3 < (n : Int) → R0 = fl106_62_1 k82 k106 y1 n y3 m → X (EE s) d 106 62 [(0, zr 4 41), (1, zi y1), (3, zi y3)] [] m Q := by
  intro n
  induction n with
  | zero =>
    intro y3 m B hJ hB hy3 hn hR
    exfalso
    omega
  | succ n ih =>
    intro y3 m B hJ hB hy3 hn hR
    replace hR : R0 = fl106_62_1_b (fl106_62_1 k82 k106 y1 n) k82 k106 y1 y3 m := hR
    refine X.iload_n 63 i106_62 rfl rfl rfl ?_
    refine X.bipush 65 i106_63 rfl rfl (by decide) ?_
    refine X.icmpge 106 68 i106_65 rfl rfl rfl (fun h508 => ?_) (fun h508 => ?_)
    · refine X.cut [] i106_106 rfl ?_
      exact K106  m (B) (hJ.up (by omega)) (by omega)  (Eq.trans hR (Eq.trans (if_pos h508) rfl))
    · refine X.aload_n 69 i106_68 rfl rfl rfl ?_
      refine X.bipush 71 i106_69 rfl rfl (by decide) ?_
      refine X.callv 74 [zi 7] [] [(0, zr 4 41), (1, zi 7)] i106_71 rfl (by decide) rfl rfl (by omega) rfl rfl (by decide) rfl t100 (Nat.le_of_ble_eq_true rfl) (Nat.le_of_ble_eq_true rfl) rfl ?_
      refine c100_1 (B := B)  7 (by omega) (hJ.up (by omega)) (by omega) (by omega) hf16 hf19 hg4 (fun v511 m509 hv511 hFv511 hJ510 hqv511_0 => ?_)
      show X (EE s) d 106 74 [(0, zr 4 41), (1, zi y1), (3, zi y3)] [zi v511] m509 _
      refine X.istore 76 [(0, zr 4 41), (1, zi y1), (3, zi y3), (4, zi v511)] i106_74 rfl rfl rfl ?_
      refine X.iload 78 i106_76 rfl rfl rfl ?_
      refine X.iconst 79 i106_78 rfl rfl (by decide) ?_
      refine X.icmpne 84 82 i106_79 rfl rfl rfl (fun h512 => ?_) (fun h512 => ?_)
      · refine X.aload_n 85 i106_84 rfl rfl rfl ?_
        refine X.getF 88 i106_85 rfl rfl (by decide) rfl rfl ?_
        refine X.getR 91 i106_88 rfl rfl (by decide) rfl rfl ?_
        refine X.iload_n 92 i106_91 rfl rfl rfl ?_
        refine X.bipush 94 i106_92 rfl rfl (by decide) ?_
        refine X.imul 95 i106_94 rfl rfl (by omega) ?_
        refine X.iload_n 96 i106_95 rfl rfl rfl ?_
        refine X.iadd 97 i106_96 rfl rfl (by omega) ?_
        refine X.iload 99 i106_97 rfl rfl rfl ?_
        refine X.iast' 100 i106_99 rfl rfl (by decide) rfl (by omega) (fun hrm513 m513 hm513 => ?_)
        have hJ514 := w16_0 hJ510 hm513 (by omega) (by omega) hf1 hg3
        refine X.iinc 103 [(0, zr 4 41), (1, zi y1), (3, zi (y3 + 1)), (4, zi v511)] i106_100 rfl rfl rfl (by omega) rfl ?_
        refine X.goto 62 i106_103 rfl rfl ?_
        refine X.cut [(0, zr 4 41), (1, zi y1), (3, zi (y3 + 1))] i106_62 rfl ?_
        exact ih (y3 + 1) m513 (B) (hJ514.up (by omega)) (by omega) (by omega) (by omega) (Eq.trans hR (Eq.trans (if_neg h508) (Eq.trans (zb_eq hFv511) (Eq.trans (if_neg h512) (Eq.trans (zs_eq hm513) rfl)))))
      · exact K82 y3 v511 m509 (B) (hJ510.up (by omega)) (by omega) (by first | trivial | omega) (by first | trivial | omega) (Eq.trans hR (Eq.trans (if_neg h508) (Eq.trans (zb_eq hFv511) (Eq.trans (if_pos h512) rfl))))
-- WorkMeter$CalendarText.readSeason
noncomputable def f106_1 (m : zM) : Int × zM :=
  zs (z_upd m 4 41 7 ((m 4 41 7) + 6)) fun m502 =>
  zb (f99_1 3 (m502 4 41 10) m502) fun v507 m505 =>
  if v507 = (-1) then
  ((0, m505))
  else
  (zn (zshl 1 v507) fun z510 =>
  zn (zor (m505 4 41 10) z510) fun z511 =>
  zs (z_upd m505 4 41 10 z511) fun m512 =>
  zb (f100_1 364 m512) fun v516 m514 =>
  if v516 = (-1) then
  ((0, m514))
  else
  (zs (z_upd m514 3 15 v507 v516) fun m518 =>
  fl106_62_1 (fun y520 y521 m522 =>
  (0, m522)) (fun m526 =>
  (1, m526)) v507 (zfu 8) 0 m518))
end
