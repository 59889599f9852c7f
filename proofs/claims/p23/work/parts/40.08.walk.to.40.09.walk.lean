section
-- WorkMeter$Calendar.putSwitch
theorem c81_1 {s : Nat × (Nat → Int32)} {S : zS} {m0 m : zM} {B : Int} {d : Nat} {Q : Option zV → zM → Prop} (g0 : Nat) (a1 a2 a3 : Int) (hd : 15 ≤ d) (hJ : J S m0 B m) (hB : B + 0 ≤ 1000000000) (ha1 : 0 ≤ a1 ∧ a1 ≤ 7) (ha2 : 0 ≤ a2 ∧ a2 ≤ 86399) (ha3 : 0 ≤ a3 ∧ a3 ≤ 3) (hf1 : ¬ S.1 1) (hgg0 : ¬ S.2.1 g0) (hQ : ∀ (v : Int) m', ((-1) ≤ v ∧ v ≤ 6) → f81_1 g0 a1 a2 a3 m = (v, m') → J S m0 (B) m' → Q (some (zi v)) m') : X (EE s) d 81 0 [(0, zr g0 11), (1, zi a1), (2, zi a2), (3, zi a3)] [] m Q := by
  have f0 := r12_0 hJ g0 (i := a1) (by omega)
  refine X.iload_n 1 (zi81 0) rfl rfl rfl ?_
  refine X.bipush 3 (zi81 1) rfl rfl (by decide) ?_
  refine X.imul 4 (zi81 3) rfl rfl (by omega) ?_
  refine X.istore 6 [(0, zr g0 11), (1, zi a1), (2, zi a2), (3, zi a3), (4, zi (a1 * 6))] (zi81 4) rfl rfl rfl ?_
  refine X.iload 8 (zi81 6) rfl rfl rfl ?_
  refine X.aload_n 9 (zi81 8) rfl rfl rfl ?_
  refine X.iload_n 10 (zi81 9) rfl rfl rfl ?_
  refine X.iload_n 11 (zi81 10) rfl rfl rfl ?_
  refine X.callv 14 [zi a1, zi a2] [zi (a1 * 6)] [(0, zr g0 11), (1, zi a1), (2, zi a2)] (zi81 11) rfl (by decide) rfl rfl (by omega) rfl rfl (by decide) rfl t32 (Nat.le_of_ble_eq_true rfl) (Nat.le_of_ble_eq_true rfl) rfl ?_
  refine c32_1 (B := B) g0 a1 a2 (by omega) (hJ.up (by omega)) (by omega) (by omega) (by omega) (fun v503 hv503 hFv503 hqv503_0 hqv503_1 => ?_)
  show X (EE s) d 81 14 [(0, zr g0 11), (1, zi a1), (2, zi a2), (3, zi a3), (4, zi (a1 * 6))] [zi v503, zi (a1 * 6)] m _
  refine X.iadd 15 (zi81 14) rfl rfl (by omega) ?_
  refine X.istore 17 [(0, zr g0 11), (1, zi a1), (2, zi a2), (3, zi a3), (4, zi (a1 * 6)), (5, zi ((a1 * 6) + v503))] (zi81 15) rfl rfl rfl ?_
  refine X.aload_n 18 (zi81 17) rfl rfl rfl ?_
  refine X.iload_n 19 (zi81 18) rfl rfl rfl ?_
  refine X.iload_n 20 (zi81 19) rfl rfl rfl ?_
  refine X.callv 23 [zi a1, zi a2] [] [(0, zr g0 11), (1, zi a1), (2, zi a2)] (zi81 20) rfl (by decide) rfl rfl (by omega) rfl rfl (by decide) rfl t82 (Nat.le_of_ble_eq_true rfl) (Nat.le_of_ble_eq_true rfl) rfl ?_
  refine c82_1 (B := B) g0 a1 a2 (by omega) (hJ.up (by omega)) (by omega) (by omega) (by omega) (fun v506 hv506 hFv506 hqv506_0 => ?_)
  show X (EE s) d 81 23 [(0, zr g0 11), (1, zi a1), (2, zi a2), (3, zi a3), (4, zi (a1 * 6)), (5, zi ((a1 * 6) + v503))] [zi v506] m _
  refine X.ifeq 41 26 (zi81 23) rfl rfl rfl (fun h507 => ?_) (fun h507 => ?_)
  · refine X.aload_n 42 (zi81 41) rfl rfl rfl ?_
    refine X.getR 45 (zi81 42) rfl rfl (by decide) rfl rfl ?_
    refine X.iload_n 46 (zi81 45) rfl rfl rfl ?_
    refine X.iald 47 (zi81 46) rfl rfl (by decide) rfl (by omega) ?_
    have h508 := r12_0 hJ g0 (i := a1) (by omega)
    refine X.bipush 49 (zi81 47) rfl rfl (by decide) ?_
    refine X.icmplt 54 52 (zi81 49) rfl rfl rfl (fun h509 => ?_) (fun h509 => ?_)
    · refine X.iload 56 (zi81 54) rfl rfl rfl ?_
      refine X.aload_n 57 (zi81 56) rfl rfl rfl ?_
      refine X.getR 60 (zi81 57) rfl rfl (by decide) rfl rfl ?_
      refine X.iload_n 61 (zi81 60) rfl rfl rfl ?_
      refine X.iald 62 (zi81 61) rfl rfl (by decide) rfl (by omega) ?_
      refine X.iadd 63 (zi81 62) rfl rfl (by omega) ?_
      refine X.istore 65 [(0, zr g0 11), (1, zi a1), (2, zi a2), (3, zi a3), (4, zi (a1 * 6)), (5, zi ((a1 * 6) + v503)), (6, zi ((a1 * 6) + (m g0 12 a1)))] (zi81 63) rfl rfl rfl ?_
      refine X.cut [(0, zr g0 11), (1, zi a1), (2, zi a2), (3, zi a3), (5, zi ((a1 * 6) + v503)), (6, zi ((a1 * 6) + (m g0 12 a1)))] (zi81 65) rfl ?_
      have hz48 := zfu_eq 48
      refine l81_65_1 (s := s) (d := d) (R0 := (f81_1 g0 a1 a2 a3 m)) g0 a1 a2 a3 ((a1 * 6) + v503)  (BE := B + 0) (by omega) (by omega) (by omega) (by omega) (by omega) (by omega) hf1 hgg0 (fun  m510 B511 hJ512 hBB511 hrlm510_0 hR513 => ?_) (zfu 48) ((a1 * 6) + (m g0 12 a1)) m (B) (hJ.up (by omega)) (by omega) (by omega) (by omega) (by omega) (Eq.trans (zn_eq hFv503.symm) (Eq.trans (zn_eq hFv506.symm) (Eq.trans (if_pos h507) (Eq.trans (if_pos h509) rfl))))
      refine X.aload_n 111 (zi81 110) rfl rfl rfl ?_
      refine X.getR 114 (zi81 111) rfl rfl (by decide) rfl rfl ?_
      refine X.iload 116 (zi81 114) rfl rfl rfl ?_
      refine X.iload_n 117 (zi81 116) rfl rfl rfl ?_
      refine X.iast' 118 (zi81 117) rfl rfl (by decide) rfl (by omega) (fun hrm514 m514 hm514 => ?_)
      have hJ515 := w13_0 hJ512 hm514 (by omega) (by omega) hf1 hgg0
      have wtm514_0 : m514 g0 12 a1 = m510 g0 12 a1 := by rw [hm514]; exact z_upd_o _ _ rfl
      refine X.aload_n 119 (zi81 118) rfl rfl rfl ?_
      refine X.getR 122 (zi81 119) rfl rfl (by decide) rfl rfl ?_
      refine X.iload 124 (zi81 122) rfl rfl rfl ?_
      refine X.iload_n 125 (zi81 124) rfl rfl rfl ?_
      refine X.iast' 126 (zi81 125) rfl rfl (by decide) rfl (by omega) (fun hrm516 m516 hm516 => ?_)
      have hJ517 := w14_0 hJ515 hm516 (by omega) (by omega) hf1 hgg0
      have wtm516_0 : m516 g0 12 a1 = m514 g0 12 a1 := by rw [hm516]; exact z_upd_o _ _ rfl
      refine X.aload_n 127 (zi81 126) rfl rfl rfl ?_
      refine X.getR 130 (zi81 127) rfl rfl (by decide) rfl rfl ?_
      refine X.iload_n 131 (zi81 130) rfl rfl rfl ?_
      refine X.dup2 132 (zi81 131) rfl rfl ?_
      refine X.iald 133 (zi81 132) rfl rfl (by decide) rfl (by omega) ?_
      have h518 := r12_0 hJ517 g0 (i := a1) (by omega)
      refine X.iconst 134 (zi81 133) rfl rfl (by decide) ?_
      refine X.iadd 135 (zi81 134) rfl rfl (by omega) ?_
      refine X.iast' 136 (zi81 135) rfl rfl (by decide) rfl (by omega) (fun hrm519 m519 hm519 => ?_)
      have hJ520 := w12_0 hJ517 hm519 (by omega) (by omega) hf1 hgg0
      refine X.aload_n 137 (zi81 136) rfl rfl rfl ?_
      refine X.getR 140 (zi81 137) rfl rfl (by decide) rfl rfl ?_
      refine X.iload_n 141 (zi81 140) rfl rfl rfl ?_
      refine X.iald 142 (zi81 141) rfl rfl (by decide) rfl (by omega) ?_
      have h521 := r12_0 hJ520 g0 (i := a1) (by omega)
      refine X.reti (zi81 142) rfl t81 ?_
      exact hQ (m519 g0 12 a1) m519 (by first | trivial | omega) (Eq.trans hR513 (Eq.trans (zs_eq hm514) (Eq.trans (zs_eq hm516) (Eq.trans (zs_eq hm519) rfl)))) (hJ520.up (by omega)) 
    · refine X.iconst 53 (zi81 52) rfl rfl (by decide) ?_
      refine X.reti (zi81 53) rfl t81 ?_
      exact hQ (-1) m (by first | trivial | omega) (Eq.trans (zn_eq hFv503.symm) (Eq.trans (zn_eq hFv506.symm) (Eq.trans (if_pos h507) (Eq.trans (if_neg h509) rfl)))) (hJ.up (by omega)) 
  · refine X.aload_n 27 (zi81 26) rfl rfl rfl ?_
    refine X.getR 30 (zi81 27) rfl rfl (by decide) rfl rfl ?_
    refine X.iload 32 (zi81 30) rfl rfl rfl ?_
    refine X.iload_n 33 (zi81 32) rfl rfl rfl ?_
    refine X.iast' 34 (zi81 33) rfl rfl (by decide) rfl (by omega) (fun hrm522 m522 hm522 => ?_)
    have hJ523 := w14_0 hJ hm522 (by omega) (by omega) hf1 hgg0
    have wtm522_0 : m522 g0 12 a1 = m g0 12 a1 := by rw [hm522]; exact z_upd_o _ _ rfl
    refine X.aload_n 35 (zi81 34) rfl rfl rfl ?_
    refine X.getR 38 (zi81 35) rfl rfl (by decide) rfl rfl ?_
    refine X.iload_n 39 (zi81 38) rfl rfl rfl ?_
    refine X.iald 40 (zi81 39) rfl rfl (by decide) rfl (by omega) ?_
    have h524 := r12_0 hJ523 g0 (i := a1) (by omega)
    refine X.reti (zi81 40) rfl t81 ?_
    exact hQ (m522 g0 12 a1) m522 (by first | trivial | omega) (Eq.trans (zn_eq hFv503.symm) (Eq.trans (zn_eq hFv506.symm) (Eq.trans (if_neg h507) (Eq.trans (zs_eq hm522) rfl)))) (hJ523.up (by omega)) 
-- WorkMeter.table
noncomputable def f78_1 (a1 a2 a3 : Int) (m : zM) : Int × zM :=
  zb (f17_1 0 m) fun v503 m501 =>
  if v503 = 0 then
  (if a1 < 0 then
  (((-1), m501))
  else
  (if 8 ≤ a1 then
  (((-1), m501))
  else
  (if a3 < 0 then
  (((-1), m501))
  else
  (if 4 ≤ a3 then
  (((-1), m501))
  else
  (if a2 < 0 then
  (((-1), m501))
  else
  (if a2 < 86400 then
  (zb (f81_1 0 a1 a2 a3 m501) fun v519 m517 =>
  (v519, m517))
  else
  (((-1), m501))))))))
  else
  (((-1), m501))
-- WorkMeter.table
theorem c78_1 {s : Nat × (Nat → Int32)} {S : zS} {m0 m : zM} {B : Int} {d : Nat} {Q : Option zV → zM → Prop} (a1 a2 a3 : Int) (hd : 16 ≤ d) (hJ : J S m0 B m) (hB : B + 0 ≤ 1000000000) (ha1 : (-2147483648) ≤ a1 ∧ a1 ≤ 2147483647) (ha2 : (-2147483648) ≤ a2 ∧ a2 ≤ 2147483647) (ha3 : (-2147483648) ≤ a3 ∧ a3 ≤ 2147483647) (hf1 : ¬ S.1 1) (hf4 : ¬ S.1 4) (hg0 : ¬ S.2.1 0) (hQ : ∀ (v : Int) m', ((-1) ≤ v ∧ v ≤ 6) → f78_1 a1 a2 a3 m = (v, m') → J S m0 (B) m' → Q (some (zi v)) m') : X (EE s) d 78 0 [(0, zr 4 40), (1, zi a1), (2, zi a2), (3, zi a3)] [] m Q := by
  refine X.aload_n 1 (zi78 0) rfl rfl rfl ?_
  refine X.getF 4 (zi78 1) rfl rfl (by decide) rfl rfl ?_
  refine X.getR 7 (zi78 4) rfl rfl (by decide) rfl rfl ?_
  refine X.callv 10 [] [] [(0, zr 0 39)] (zi78 7) rfl (by decide) rfl rfl (by omega) rfl rfl (by decide) rfl t17 (Nat.le_of_ble_eq_true rfl) (Nat.le_of_ble_eq_true rfl) rfl ?_
  refine c17_1 (B := B) 0  (by omega) (hJ.up (by omega)) (by omega)  hf4 hg0 (fun v503 m501 hv503 hFv503 hJ502 => ?_)
  show X (EE s) d 78 10 [(0, zr 4 40), (1, zi a1), (2, zi a2), (3, zi a3)] [zi v503] m501 _
  refine X.ifeq 15 13 (zi78 10) rfl rfl rfl (fun h504 => ?_) (fun h504 => ?_)
  · refine X.iload_n 16 (zi78 15) rfl rfl rfl ?_
    refine X.calls 19 [zi a1] [] [(0, zi a1)] (zi78 16) (by decide) rfl rfl (by omega) rfl rfl t79 (Nat.le_of_ble_eq_true rfl) (Nat.le_of_ble_eq_true rfl) rfl ?_
    refine X.iload_n 1 (zi79 0) rfl rfl rfl ?_
    refine X.iflt 14 4 (zi79 1) rfl rfl rfl (fun h505 => ?_) (fun h505 => ?_)
    · refine X.cut [] (zi79 14) rfl ?_
      refine X.iconst 15 (zi79 14) rfl rfl (by decide) ?_
      refine X.retz (zi79 15) rfl t79 (by omega) ?_
      show X (EE s) d 78 19 [(0, zr 4 40), (1, zi a1), (2, zi a2), (3, zi a3)] [zi 0] m501 _
      refine X.ifeq 39 22 (zi78 19) rfl rfl rfl (fun h506 => ?_) (fun h506 => (by exfalso; omega))
      refine X.cut [] (zi78 39) rfl ?_
      refine X.iconst 40 (zi78 39) rfl rfl (by decide) ?_
      refine X.reti (zi78 40) rfl t78 ?_
      exact hQ (-1) m501 (by first | trivial | omega) (Eq.trans (zb_eq hFv503) (Eq.trans (if_pos h504) (Eq.trans (if_pos h505) rfl))) (hJ502.up (by omega)) 
    · refine X.iload_n 5 (zi79 4) rfl rfl rfl ?_
      refine X.bipush 7 (zi79 5) rfl rfl (by decide) ?_
      refine X.icmpge 14 10 (zi79 7) rfl rfl rfl (fun h507 => ?_) (fun h507 => ?_)
      · refine X.cut [] (zi79 14) rfl ?_
        refine X.iconst 15 (zi79 14) rfl rfl (by decide) ?_
        refine X.retz (zi79 15) rfl t79 (by omega) ?_
        show X (EE s) d 78 19 [(0, zr 4 40), (1, zi a1), (2, zi a2), (3, zi a3)] [zi 0] m501 _
        refine X.ifeq 39 22 (zi78 19) rfl rfl rfl (fun h508 => ?_) (fun h508 => (by exfalso; omega))
        refine X.cut [] (zi78 39) rfl ?_
        refine X.iconst 40 (zi78 39) rfl rfl (by decide) ?_
        refine X.reti (zi78 40) rfl t78 ?_
        exact hQ (-1) m501 (by first | trivial | omega) (Eq.trans (zb_eq hFv503) (Eq.trans (if_pos h504) (Eq.trans (if_neg h505) (Eq.trans (if_pos h507) rfl)))) (hJ502.up (by omega)) 
      · refine X.iconst 11 (zi79 10) rfl rfl (by decide) ?_
        refine X.goto 15 (zi79 11) rfl rfl ?_
        refine X.cut [] (zi79 15) rfl ?_
        refine X.retz (zi79 15) rfl t79 (by omega) ?_
        show X (EE s) d 78 19 [(0, zr 4 40), (1, zi a1), (2, zi a2), (3, zi a3)] [zi 1] m501 _
        refine X.ifeq 39 22 (zi78 19) rfl rfl rfl (fun h509 => (by exfalso; omega)) (fun h509 => ?_)
        refine X.iload_n 23 (zi78 22) rfl rfl rfl ?_
        refine X.calls 26 [zi a3] [] [(0, zi a3)] (zi78 23) (by decide) rfl rfl (by omega) rfl rfl t80 (Nat.le_of_ble_eq_true rfl) (Nat.le_of_ble_eq_true rfl) rfl ?_
        refine X.iload_n 1 (zi80 0) rfl rfl rfl ?_
        refine X.iflt 13 4 (zi80 1) rfl rfl rfl (fun h510 => ?_) (fun h510 => ?_)
        · refine X.cut [] (zi80 13) rfl ?_
          refine X.iconst 14 (zi80 13) rfl rfl (by decide) ?_
          refine X.retz (zi80 14) rfl t80 (by omega) ?_
          show X (EE s) d 78 26 [(0, zr 4 40), (1, zi a1), (2, zi a2), (3, zi a3)] [zi 0] m501 _
          refine X.ifeq 39 29 (zi78 26) rfl rfl rfl (fun h511 => ?_) (fun h511 => (by exfalso; omega))
          refine X.cut [] (zi78 39) rfl ?_
          refine X.iconst 40 (zi78 39) rfl rfl (by decide) ?_
          refine X.reti (zi78 40) rfl t78 ?_
          exact hQ (-1) m501 (by first | trivial | omega) (Eq.trans (zb_eq hFv503) (Eq.trans (if_pos h504) (Eq.trans (if_neg h505) (Eq.trans (if_neg h507) (Eq.trans (if_pos h510) rfl))))) (hJ502.up (by omega)) 
        · refine X.iload_n 5 (zi80 4) rfl rfl rfl ?_
          refine X.iconst 6 (zi80 5) rfl rfl (by decide) ?_
          refine X.icmpge 13 9 (zi80 6) rfl rfl rfl (fun h512 => ?_) (fun h512 => ?_)
          · refine X.cut [] (zi80 13) rfl ?_
            refine X.iconst 14 (zi80 13) rfl rfl (by decide) ?_
            refine X.retz (zi80 14) rfl t80 (by omega) ?_
            show X (EE s) d 78 26 [(0, zr 4 40), (1, zi a1), (2, zi a2), (3, zi a3)] [zi 0] m501 _
            refine X.ifeq 39 29 (zi78 26) rfl rfl rfl (fun h513 => ?_) (fun h513 => (by exfalso; omega))
            refine X.cut [] (zi78 39) rfl ?_
            refine X.iconst 40 (zi78 39) rfl rfl (by decide) ?_
            refine X.reti (zi78 40) rfl t78 ?_
            exact hQ (-1) m501 (by first | trivial | omega) (Eq.trans (zb_eq hFv503) (Eq.trans (if_pos h504) (Eq.trans (if_neg h505) (Eq.trans (if_neg h507) (Eq.trans (if_neg h510) (Eq.trans (if_pos h512) rfl)))))) (hJ502.up (by omega)) 
          · refine X.iconst 10 (zi80 9) rfl rfl (by decide) ?_
            refine X.goto 14 (zi80 10) rfl rfl ?_
            refine X.cut [] (zi80 14) rfl ?_
            refine X.retz (zi80 14) rfl t80 (by omega) ?_
            show X (EE s) d 78 26 [(0, zr 4 40), (1, zi a1), (2, zi a2), (3, zi a3)] [zi 1] m501 _
            refine X.ifeq 39 29 (zi78 26) rfl rfl rfl (fun h514 => (by exfalso; omega)) (fun h514 => ?_)
            refine X.iload_n 30 (zi78 29) rfl rfl rfl ?_
            refine X.iflt 39 33 (zi78 30) rfl rfl rfl (fun h515 => ?_) (fun h515 => ?_)
            · refine X.cut [] (zi78 39) rfl ?_
              refine X.iconst 40 (zi78 39) rfl rfl (by decide) ?_
              refine X.reti (zi78 40) rfl t78 ?_
              exact hQ (-1) m501 (by first | trivial | omega) (Eq.trans (zb_eq hFv503) (Eq.trans (if_pos h504) (Eq.trans (if_neg h505) (Eq.trans (if_neg h507) (Eq.trans (if_neg h510) (Eq.trans (if_neg h512) (Eq.trans (if_pos h515) rfl))))))) (hJ502.up (by omega)) 
            · refine X.iload_n 34 (zi78 33) rfl rfl rfl ?_
              refine X.ldc 36 (zi78 34) rfl rfl (by decide) ?_
              refine X.icmplt 41 39 (zi78 36) rfl rfl rfl (fun h516 => ?_) (fun h516 => ?_)
              · refine X.aload_n 42 (zi78 41) rfl rfl rfl ?_
                refine X.getF 45 (zi78 42) rfl rfl (by decide) rfl rfl ?_
                refine X.getR 48 (zi78 45) rfl rfl (by decide) rfl rfl ?_
                refine X.iload_n 49 (zi78 48) rfl rfl rfl ?_
                refine X.iload_n 50 (zi78 49) rfl rfl rfl ?_
                refine X.iload_n 51 (zi78 50) rfl rfl rfl ?_
                refine X.callv 54 [zi a1, zi a2, zi a3] [] [(0, zr 0 11), (1, zi a1), (2, zi a2), (3, zi a3)] (zi78 51) rfl (by decide) rfl rfl (by omega) rfl rfl (by decide) rfl t81 (Nat.le_of_ble_eq_true rfl) (Nat.le_of_ble_eq_true rfl) rfl ?_
                refine c81_1 (B := B) 0 a1 a2 a3 (by omega) (hJ502.up (by omega)) (by omega) (by omega) (by omega) (by omega) hf1 hg0 (fun v519 m517 hv519 hFv519 hJ518 => ?_)
                show X (EE s) d 78 54 [(0, zr 4 40), (1, zi a1), (2, zi a2), (3, zi a3)] [zi v519] m517 _
                refine X.reti (zi78 54) rfl t78 ?_
                exact hQ v519 m517 (by first | trivial | omega) (Eq.trans (zb_eq hFv503) (Eq.trans (if_pos h504) (Eq.trans (if_neg h505) (Eq.trans (if_neg h507) (Eq.trans (if_neg h510) (Eq.trans (if_neg h512) (Eq.trans (if_neg h515) (Eq.trans (if_pos h516) (Eq.trans (zb_eq hFv519) rfl))))))))) (hJ518.up (by omega)) 
              · refine X.cut [] (zi78 39) rfl ?_
                refine X.iconst 40 (zi78 39) rfl rfl (by decide) ?_
                refine X.reti (zi78 40) rfl t78 ?_
                exact hQ (-1) m501 (by first | trivial | omega) (Eq.trans (zb_eq hFv503) (Eq.trans (if_pos h504) (Eq.trans (if_neg h505) (Eq.trans (if_neg h507) (Eq.trans (if_neg h510) (Eq.trans (if_neg h512) (Eq.trans (if_neg h515) (Eq.trans (if_neg h516) rfl)))))))) (hJ502.up (by omega)) 
  · refine X.iconst 14 (zi78 13) rfl rfl (by decide) ?_
    refine X.reti (zi78 14) rfl t78 ?_
    exact hQ (-1) m501 (by first | trivial | omega) (Eq.trans (zb_eq hFv503) (Eq.trans (if_neg h504) rfl)) (hJ502.up (by omega)) 
noncomputable def fl243_22_1_b (self : Int → Int × zM) (k55 : Int → Int × zM) (y1 y2 y3 y4 y5 : Int) (m : zM) (y6 : Int) : Int × zM :=
  if y5 ≤ y6 then
  (k55 y6)
  else
  (if (m 4 45 ((295 + y4) + y6)) < y2 then
  (self (y6 + 1))
  else
  (k55 y6))
noncomputable def fl243_22_1 (k55 : Int → Int × zM) (y1 y2 y3 y4 y5 : Int) (m : zM) : Nat → Int → Int × zM
  | 0 => fun y6 => (0, m)
  | n + 1 => fl243_22_1_b (fl243_22_1 k55 y1 y2 y3 y4 y5 m n) k55 y1 y2 y3 y4 y5 m
theorem l243_22_1 {s : Nat × (Nat → Int32)} {S : zS} {m0 : zM} {m : zM} {B : Int} {d : Nat} {Q : Option zV → zM → Prop} {R0 : Int × zM} {k55 : Int → Int × zM} (y1 y2 y3 y4 y5 : Int) (hd : 13 ≤ d) (hJ : J S m0 B m) (hB9 : B ≤ 1000000000) (hy1 : 0 ≤ y1 ∧ y1 ≤ 7) (hy2 : 0 ≤ y2 ∧ y2 ≤ 86399) (hy3 : 0 ≤ y3 ∧ y3 ≤ 3) (hy4 : 0 ≤ y4 ∧ y4 ≤ 42) (hy5 : 0 ≤ y5 ∧ y5 ≤ 6)
    (K55 : ∀ (x6 : Int) , (0 ≤ x6 ∧ x6 ≤ 6) → (x6 ≤ y5) → R0 = k55 x6 → X (EE s) d 243 55 [(0, zr 4 44), (1, zi y1), (2, zi y2), (3, zi y3), (4, zi y4), (5, zi y5), (6, zi x6)] [] m Q) :
    ∀ (n : Nat) (y6 : Int) , (0 ≤ y6 ∧ y6 ≤ 6) → (y6 ≤ y5) → 6 - y6 < (n : Int) → R0 = fl243_22_1 k55 y1 y2 y3 y4 y5 m n y6 → X (EE s) d 243 22 [(0, zr 4 44), (1, zi y1), (2, zi y2), (3, zi y3), (4, zi y4), (5, zi y5), (6, zi y6)] [] m Q := by
  intro n
  induction n with
  | zero =>
    intro y6 hy6 hr0 hn hR
    exfalso
    omega
  | succ n ih =>
    intro y6 hy6 hr0 hn hR
    replace hR : R0 = fl243_22_1_b (fl243_22_1 k55 y1 y2 y3 y4 y5 m n) k55 y1 y2 y3 y4 y5 m y6 := hR
    refine X.iload 24 (zi243 22) rfl rfl rfl ?_
    refine X.iload 26 (zi243 24) rfl rfl rfl ?_
    refine X.icmpge 55 29 (zi243 26) rfl rfl rfl (fun h505 => ?_) (fun h505 => ?_)
    · exact K55 y6 (by first | trivial | omega) (by omega) (Eq.trans hR (Eq.trans (if_pos h505) rfl))
    · refine X.aload_n 30 (zi243 29) rfl rfl rfl ?_
      refine X.getF 33 (zi243 30) rfl rfl (by decide) rfl rfl ?_
      refine X.sipush 36 (zi243 33) rfl rfl (by decide) ?_
      refine X.iload 38 (zi243 36) rfl rfl rfl ?_
      refine X.iadd 39 (zi243 38) rfl rfl (by omega) ?_
      refine X.iload 41 (zi243 39) rfl rfl rfl ?_
      refine X.iadd 42 (zi243 41) rfl rfl (by omega) ?_
      refine X.lald 43 (zi243 42) rfl rfl (by decide) rfl (by omega) ?_
      have h506 := r45_295 hJ 4 (i := ((295 + y4) + y6)) (by omega)
      refine X.iload_n 44 (zi243 43) rfl rfl rfl ?_
      refine X.i2l 45 (zi243 44) rfl rfl ?_
      refine X.lcmp 46 (zi243 45) rfl rfl (fun z507 hz507 => ?_)
      refine X.ifge 55 49 (zi243 46) rfl rfl rfl (fun h508 => ?_) (fun h508 => ?_)
      · have h508c : ¬ (m 4 45 ((295 + y4) + y6)) < y2 := by omega
        clear h508 hz507
        exact K55 y6 (by first | trivial | omega) (by omega) (Eq.trans hR (Eq.trans (if_neg h505) (Eq.trans (if_neg h508c) rfl)))
      · have h508c : (m 4 45 ((295 + y4) + y6)) < y2 := by omega
        clear h508 hz507
        refine X.iinc 52 [(0, zr 4 44), (1, zi y1), (2, zi y2), (3, zi y3), (4, zi y4), (5, zi y5), (6, zi (y6 + 1))] (zi243 49) rfl rfl rfl (by omega) rfl ?_
        refine X.goto 22 (zi243 52) rfl rfl ?_
        exact ih (y6 + 1) (by omega) (by omega) (by omega) (Eq.trans hR (Eq.trans (if_neg h505) (Eq.trans (if_pos h508c) rfl)))
noncomputable def fl243_107_1_b (self : Int → zM → Int × zM) (k185 : zM → Int × zM) (y1 y2 y3 y4 y6 y7 : Int) (y8 : Int) (m : zM) : Int × zM :=
  if y8 ≤ y6 then
  (k185 m)
  else
  (zs (z_upd m 4 45 ((295 + y4) + y8) (m 4 45 (((295 + y4) + y8) - 1))) fun m512 =>
  zs (z_upd m512 4 45 ((343 + y4) + y8) (m512 4 45 (((343 + y4) + y8) - 1))) fun m515 =>
  self (y8 + (-1)) m515)
noncomputable def fl243_107_1 (k185 : zM → Int × zM) (y1 y2 y3 y4 y6 y7 : Int) : Nat → Int → zM → Int × zM
  | 0 => fun y8 m => (0, m)
  | n + 1 => fl243_107_1_b (fl243_107_1 k185 y1 y2 y3 y4 y6 y7 n) k185 y1 y2 y3 y4 y6 y7
theorem l243_107_1 {s : Nat × (Nat → Int32)} {S : zS} {m0 : zM} {d : Nat} {Q : Option zV → zM → Prop} {R0 : Int × zM} {k185 : zM → Int × zM} (y1 y2 y3 y4 y6 y7 : Int) (c8 c9 : Int) (BE : Int) (hE : BE ≤ 1000000000) (hd : 13 ≤ d) (hy1 : 0 ≤ y1 ∧ y1 ≤ 7) (hy2 : 0 ≤ y2 ∧ y2 ≤ 86399) (hy3 : 0 ≤ y3 ∧ y3 ≤ 3) (hy4 : 0 ≤ y4 ∧ y4 ≤ 42) (hy6 : 0 ≤ y6 ∧ y6 ≤ 6) (hy7 : 0 ≤ y7 ∧ y7 ≤ 0) (hf21 : ¬ S.1 21) (hg4 : ¬ S.2.1 4)
    (K185 : ∀ (m' : zM) (B' : Int), J S m0 B' m' → B' ≤ BE → (m' 4 45 (287 + y1) ≤ 5 + y7) → (c8 ≤ m' 4 44 8) → (c9 ≤ m' 4 44 9) → R0 = k185 m' → X (EE s) d 243 185 [(0, zr 4 44), (1, zi y1), (2, zi y2), (3, zi y3), (4, zi y4), (6, zi y6), (7, zi y7)] [] m' Q) :
    ∀ (n : Nat) (y8 : Int) (m : zM) (B : Int), J S m0 B m → B + 0 * (n : Int) ≤ BE → (0 ≤ y8 ∧ y8 ≤ 5) → (m 4 45 (287 + y1) ≤ 5 + y7) → (c8 ≤ m 4 44 8) → (c9 ≤ m 4 44 9) → y8 - 0 < (n : Int) → R0 = fl243_107_1 k185 y1 y2 y3 y4 y6 y7 n y8 m → X (EE s) d 243 107 [(0, zr 4 44), (1, zi y1), (2, zi y2), (3, zi y3), (4, zi y4), (6, zi y6), (7, zi y7), (8, zi y8)] [] m Q := by
  intro n
  induction n with
  | zero =>
    intro y8 m B hJ hB hy8 hr0 hr1 hr2 hn hR
    exfalso
    omega
  | succ n ih =>
    intro y8 m B hJ hB hy8 hr0 hr1 hr2 hn hR
    replace hR : R0 = fl243_107_1_b (fl243_107_1 k185 y1 y2 y3 y4 y6 y7 n) k185 y1 y2 y3 y4 y6 y7 y8 m := hR
    refine X.iload 109 (zi243 107) rfl rfl rfl ?_
    refine X.iload 111 (zi243 109) rfl rfl rfl ?_
    refine X.icmple 185 114 (zi243 111) rfl rfl rfl (fun h509 => ?_) (fun h509 => ?_)
    · refine X.cut [(0, zr 4 44), (1, zi y1), (2, zi y2), (3, zi y3), (4, zi y4), (6, zi y6), (7, zi y7)] (zi243 185) rfl ?_
      exact K185  m (B) (hJ.up (by omega)) (by omega) (by omega) (by omega) (by omega) (Eq.trans hR (Eq.trans (if_pos h509) rfl))
    · refine X.iload 116 (zi243 114) rfl rfl rfl ?_
      refine X.ifne 185 119 (zi243 116) rfl rfl rfl (fun h510 => (by exfalso; omega)) (fun h510 => ?_)
      refine X.aload_n 120 (zi243 119) rfl rfl rfl ?_
      refine X.getF 123 (zi243 120) rfl rfl (by decide) rfl rfl ?_
      refine X.sipush 126 (zi243 123) rfl rfl (by decide) ?_
      refine X.iload 128 (zi243 126) rfl rfl rfl ?_
      refine X.iadd 129 (zi243 128) rfl rfl (by omega) ?_
      refine X.iload 131 (zi243 129) rfl rfl rfl ?_
      refine X.iadd 132 (zi243 131) rfl rfl (by omega) ?_
      refine X.aload_n 133 (zi243 132) rfl rfl rfl ?_
      refine X.getF 136 (zi243 133) rfl rfl (by decide) rfl rfl ?_
      refine X.sipush 139 (zi243 136) rfl rfl (by decide) ?_
      refine X.iload 141 (zi243 139) rfl rfl rfl ?_
      refine X.iadd 142 (zi243 141) rfl rfl (by omega) ?_
      refine X.iload 144 (zi243 142) rfl rfl rfl ?_
      refine X.iadd 145 (zi243 144) rfl rfl (by omega) ?_
      refine X.iconst 146 (zi243 145) rfl rfl (by decide) ?_
      refine X.isub 147 (zi243 146) rfl rfl (by omega) ?_
      refine X.lald 148 (zi243 147) rfl rfl (by decide) rfl (by omega) ?_
      have h511 := r45_295 hJ 4 (i := (((295 + y4) + y8) - 1)) (by omega)
      refine X.last' 149 (zi243 148) rfl rfl (by decide) rfl (by omega) (fun hrm512 m512 hm512 => ?_)
      have hJ513 := w45_295 hJ hm512 (by omega) (by omega) hf21 hg4
      have wtm512_0 : m512 4 45 (287 + y1) = m 4 45 (287 + y1) := by rw [hm512]; exact z_upd_i _ _ _ _ (by omega)
      have wmm512_8 : m512 4 44 8 = m 4 44 8 := by rw [hm512]; exact z_upd_o _ _ rfl
      have wmm512_9 : m512 4 44 9 = m 4 44 9 := by rw [hm512]; exact z_upd_o _ _ rfl
      have wmm512_10 : m512 4 44 10 = m 4 44 10 := by rw [hm512]; exact z_upd_o _ _ rfl
      refine X.aload_n 150 (zi243 149) rfl rfl rfl ?_
      refine X.getF 153 (zi243 150) rfl rfl (by decide) rfl rfl ?_
      refine X.sipush 156 (zi243 153) rfl rfl (by decide) ?_
      refine X.iload 158 (zi243 156) rfl rfl rfl ?_
      refine X.iadd 159 (zi243 158) rfl rfl (by omega) ?_
      refine X.iload 161 (zi243 159) rfl rfl rfl ?_
      refine X.iadd 162 (zi243 161) rfl rfl (by omega) ?_
      refine X.aload_n 163 (zi243 162) rfl rfl rfl ?_
      refine X.getF 166 (zi243 163) rfl rfl (by decide) rfl rfl ?_
      refine X.sipush 169 (zi243 166) rfl rfl (by decide) ?_
      refine X.iload 171 (zi243 169) rfl rfl rfl ?_
      refine X.iadd 172 (zi243 171) rfl rfl (by omega) ?_
      refine X.iload 174 (zi243 172) rfl rfl rfl ?_
      refine X.iadd 175 (zi243 174) rfl rfl (by omega) ?_
      refine X.iconst 176 (zi243 175) rfl rfl (by decide) ?_
      refine X.isub 177 (zi243 176) rfl rfl (by omega) ?_
      refine X.lald 178 (zi243 177) rfl rfl (by decide) rfl (by omega) ?_
      have h514 := r45_343 hJ513 4 (i := (((343 + y4) + y8) - 1)) (by omega)
      refine X.last' 179 (zi243 178) rfl rfl (by decide) rfl (by omega) (fun hrm515 m515 hm515 => ?_)
      have hJ516 := w45_343 hJ513 hm515 (by omega) (by omega) hf21 hg4
      have wtm515_0 : m515 4 45 (287 + y1) = m512 4 45 (287 + y1) := by rw [hm515]; exact z_upd_i _ _ _ _ (by omega)
      have wmm515_8 : m515 4 44 8 = m512 4 44 8 := by rw [hm515]; exact z_upd_o _ _ rfl
      have wmm515_9 : m515 4 44 9 = m512 4 44 9 := by rw [hm515]; exact z_upd_o _ _ rfl
      have wmm515_10 : m515 4 44 10 = m512 4 44 10 := by rw [hm515]; exact z_upd_o _ _ rfl
      refine X.iinc 182 [(0, zr 4 44), (1, zi y1), (2, zi y2), (3, zi y3), (4, zi y4), (6, zi y6), (7, zi y7), (8, zi (y8 + (-1)))] (zi243 179) rfl rfl rfl (by omega) rfl ?_
      refine X.goto 107 (zi243 182) rfl rfl ?_
      exact ih (y8 + (-1)) m515 (B) (hJ516.up (by omega)) (by omega) (by omega) (by omega) (by omega) (by omega) (by omega) (Eq.trans hR (Eq.trans (if_neg h509) (Eq.trans (zs_eq hm512) (Eq.trans (zs_eq hm515) rfl))))
noncomputable def fl243_107_2_b (self : Int → zM → Int × zM) (k185 : zM → Int × zM) (y1 y2 y3 y4 y6 y7 : Int) (y8 : Int) (m : zM) : Int × zM :=
  if y8 ≤ y6 then
  (k185 m)
  else
  (k185 m)
noncomputable def fl243_107_2 (k185 : zM → Int × zM) (y1 y2 y3 y4 y6 y7 : Int) : Nat → Int → zM → Int × zM
  | 0 => fun y8 m => (0, m)
  | n + 1 => fl243_107_2_b (fl243_107_2 k185 y1 y2 y3 y4 y6 y7 n) k185 y1 y2 y3 y4 y6 y7
theorem l243_107_2 {s : Nat × (Nat → Int32)} {S : zS} {m0 : zM} {d : Nat} {Q : Option zV → zM → Prop} {R0 : Int × zM} {k185 : zM → Int × zM} (y1 y2 y3 y4 y6 y7 : Int) (c8 c9 : Int) (BE : Int) (hE : BE ≤ 1000000000) (hd : 13 ≤ d) (hy1 : 0 ≤ y1 ∧ y1 ≤ 7) (hy2 : 0 ≤ y2 ∧ y2 ≤ 86399) (hy3 : 0 ≤ y3 ∧ y3 ≤ 3) (hy4 : 0 ≤ y4 ∧ y4 ≤ 42) (hy6 : 0 ≤ y6 ∧ y6 ≤ 5) (hy7 : 1 ≤ y7 ∧ y7 ≤ 1)
    (K185 : ∀ (m' : zM) (B' : Int), J S m0 B' m' → B' ≤ BE → (m' 4 45 (287 + y1) ≤ 5 + y7) → (c8 ≤ m' 4 44 8) → (c9 ≤ m' 4 44 9) → R0 = k185 m' → X (EE s) d 243 185 [(0, zr 4 44), (1, zi y1), (2, zi y2), (3, zi y3), (4, zi y4), (6, zi y6), (7, zi y7)] [] m' Q) :
    ∀ (n : Nat) (y8 : Int) (m : zM) (B : Int), J S m0 B m → B + 0 * (n : Int) ≤ BE → (0 ≤ y8 ∧ y8 ≤ 6) → (m 4 45 (287 + y1) ≤ 5 + y7) → (c8 ≤ m 4 44 8) → (c9 ≤ m 4 44 9) → y8 - 0 < (n : Int) → R0 = fl243_107_2 k185 y1 y2 y3 y4 y6 y7 n y8 m → X (EE s) d 243 107 [(0, zr 4 44), (1, zi y1), (2, zi y2), (3, zi y3), (4, zi y4), (6, zi y6), (7, zi y7), (8, zi y8)] [] m Q := by
  intro n
  induction n with
  | zero =>
    intro y8 m B hJ hB hy8 hr0 hr1 hr2 hn hR
    exfalso
    omega
  | succ n ih =>
    intro y8 m B hJ hB hy8 hr0 hr1 hr2 hn hR
    replace hR : R0 = fl243_107_2_b (fl243_107_2 k185 y1 y2 y3 y4 y6 y7 n) k185 y1 y2 y3 y4 y6 y7 y8 m := hR
    refine X.iload 109 (zi243 107) rfl rfl rfl ?_
    refine X.iload 111 (zi243 109) rfl rfl rfl ?_
    refine X.icmple 185 114 (zi243 111) rfl rfl rfl (fun h503 => ?_) (fun h503 => ?_)
    · refine X.cut [(0, zr 4 44), (1, zi y1), (2, zi y2), (3, zi y3), (4, zi y4), (6, zi y6), (7, zi y7)] (zi243 185) rfl ?_
      exact K185  m (B) (hJ.up (by omega)) (by omega) (by omega) (by omega) (by omega) (Eq.trans hR (Eq.trans (if_pos h503) rfl))
    · refine X.iload 116 (zi243 114) rfl rfl rfl ?_
      refine X.ifne 185 119 (zi243 116) rfl rfl rfl (fun h504 => ?_) (fun h504 => (by exfalso; omega))
      refine X.cut [(0, zr 4 44), (1, zi y1), (2, zi y2), (3, zi y3), (4, zi y4), (6, zi y6), (7, zi y7)] (zi243 185) rfl ?_
      exact K185  m (B) (hJ.up (by omega)) (by omega) (by omega) (by omega) (by omega) (Eq.trans hR (Eq.trans (if_neg h503) rfl))
-- WorkMeterModel.puts
noncomputable def f243_1 (a1 a2 a3 : Int) (m : zM) : Int × zM :=
  fl243_22_1 (fun y502 =>
  if (m 4 45 (287 + a1)) ≤ y502 then
  (if (m 4 45 (287 + a1)) = 6 then
  (((-1), m))
  else
  (fl243_107_1 (fun m510 =>
  zs (z_upd m510 4 45 ((295 + (6 * a1)) + y502) a2) fun m514 =>
  zs (z_upd m514 4 45 ((343 + (6 * a1)) + y502) a3) fun m516 =>
  zs (z_upd m516 4 45 (287 + a1) ((m516 4 45 (287 + a1)) + 1)) fun m520 =>
  ((m520 4 45 (287 + a1)), m520)) a1 a2 a3 (6 * a1) y502 0 (zfu 6) (m 4 45 (287 + a1)) m))
  else
  (if (m 4 45 ((295 + (6 * a1)) + y502)) = a2 then
  (fl243_107_2 (fun m542 =>
  zs (z_upd m542 4 45 ((295 + (6 * a1)) + y502) a2) fun m546 =>
  zs (z_upd m546 4 45 ((343 + (6 * a1)) + y502) a3) fun m548 =>
  zs (z_upd m548 4 45 (287 + a1) ((m548 4 45 (287 + a1)) + 0)) fun m552 =>
  ((m552 4 45 (287 + a1)), m552)) a1 a2 a3 (6 * a1) y502 1 (zfu 7) (m 4 45 (287 + a1)) m)
  else
  (if (m 4 45 (287 + a1)) = 6 then
  (((-1), m))
  else
  (fl243_107_1 (fun m528 =>
  zs (z_upd m528 4 45 ((295 + (6 * a1)) + y502) a2) fun m532 =>
  zs (z_upd m532 4 45 ((343 + (6 * a1)) + y502) a3) fun m534 =>
  zs (z_upd m534 4 45 (287 + a1) ((m534 4 45 (287 + a1)) + 1)) fun m538 =>
  ((m538 4 45 (287 + a1)), m538)) a1 a2 a3 (6 * a1) y502 0 (zfu 6) (m 4 45 (287 + a1)) m)))) a1 a2 a3 (6 * a1) (m 4 45 (287 + a1)) m (zfu 7) 0
-- WorkMeterModel.puts
theorem c243_1 {s : Nat × (Nat → Int32)} {S : zS} {m0 m : zM} {B : Int} {d : Nat} {Q : Option zV → zM → Prop} (a1 a2 a3 : Int) (hd : 13 ≤ d) (hJ : J S m0 B m) (hB : B + 0 ≤ 1000000000) (ha1 : 0 ≤ a1 ∧ a1 ≤ 7) (ha2 : 0 ≤ a2 ∧ a2 ≤ 86399) (ha3 : 0 ≤ a3 ∧ a3 ≤ 3) (hf21 : ¬ S.1 21) (hg4 : ¬ S.2.1 4) (hQ : ∀ (v : Int) m', ((-1) ≤ v ∧ v ≤ 6) → f243_1 a1 a2 a3 m = (v, m') → J S m0 (B) m' → (m 4 44 8 ≤ m' 4 44 8) → (m 4 44 9 ≤ m' 4 44 9) → Q (some (zi v)) m') : X (EE s) d 243 0 [(0, zr 4 44), (1, zi a1), (2, zi a2), (3, zi a3)] [] m Q := by
  refine X.bipush 2 (zi243 0) rfl rfl (by decide) ?_
  refine X.iload_n 3 (zi243 2) rfl rfl rfl ?_
  refine X.imul 4 (zi243 3) rfl rfl (by omega) ?_
  refine X.istore 6 [(0, zr 4 44), (1, zi a1), (2, zi a2), (3, zi a3), (4, zi (6 * a1))] (zi243 4) rfl rfl rfl ?_
  refine X.aload_n 7 (zi243 6) rfl rfl rfl ?_
  refine X.getF 10 (zi243 7) rfl rfl (by decide) rfl rfl ?_
  refine X.sipush 13 (zi243 10) rfl rfl (by decide) ?_
  refine X.iload_n 14 (zi243 13) rfl rfl rfl ?_
  refine X.iadd 15 (zi243 14) rfl rfl (by omega) ?_
  refine X.lald 16 (zi243 15) rfl rfl (by decide) rfl (by omega) ?_
  have h501 := r45_287 hJ 4 (i := (287 + a1)) (by omega)
  refine X.l2i 17 (zi243 16) rfl rfl (by omega) ?_
  refine X.istore 19 [(0, zr 4 44), (1, zi a1), (2, zi a2), (3, zi a3), (4, zi (6 * a1)), (5, zi (m 4 45 (287 + a1)))] (zi243 17) rfl rfl rfl ?_
  refine X.iconst 20 (zi243 19) rfl rfl (by decide) ?_
  refine X.istore 22 [(0, zr 4 44), (1, zi a1), (2, zi a2), (3, zi a3), (4, zi (6 * a1)), (5, zi (m 4 45 (287 + a1))), (6, zi 0)] (zi243 20) rfl rfl rfl ?_
  have hz7 := zfu_eq 7
  refine l243_22_1 (s := s) (m := m) (B := B) (d := d) (R0 := (f243_1 a1 a2 a3 m))  a1 a2 a3 (6 * a1) (m 4 45 (287 + a1))  (by omega) (hJ.up (by omega)) (by omega) (by omega) (by omega) (by omega) (by omega) (by omega) (fun y502 hby502 hrlm503_0 hR506 => ?_) (zfu 7) 0 (by omega) (by omega) (by omega) rfl
  refine X.iload 57 (zi243 55) rfl rfl rfl ?_
  refine X.iload 59 (zi243 57) rfl rfl rfl ?_
  refine X.icmpge 86 62 (zi243 59) rfl rfl rfl (fun h507 => ?_) (fun h507 => ?_)
  · refine X.iconst 87 (zi243 86) rfl rfl (by decide) ?_
    refine X.istore 89 [(0, zr 4 44), (1, zi a1), (2, zi a2), (3, zi a3), (4, zi (6 * a1)), (5, zi (m 4 45 (287 + a1))), (6, zi y502), (7, zi 0)] (zi243 87) rfl rfl rfl ?_
    refine X.iload 91 (zi243 89) rfl rfl rfl ?_
    refine X.ifne 103 94 (zi243 91) rfl rfl rfl (fun h508 => (by exfalso; omega)) (fun h508 => ?_)
    refine X.iload 96 (zi243 94) rfl rfl rfl ?_
    refine X.bipush 98 (zi243 96) rfl rfl (by decide) ?_
    refine X.icmpne 103 101 (zi243 98) rfl rfl rfl (fun h509 => ?_) (fun h509 => ?_)
    · refine X.iload 105 (zi243 103) rfl rfl rfl ?_
      refine X.istore 107 [(0, zr 4 44), (1, zi a1), (2, zi a2), (3, zi a3), (4, zi (6 * a1)), (5, zi (m 4 45 (287 + a1))), (6, zi y502), (7, zi 0), (8, zi (m 4 45 (287 + a1)))] (zi243 105) rfl rfl rfl ?_
      refine X.cut [(0, zr 4 44), (1, zi a1), (2, zi a2), (3, zi a3), (4, zi (6 * a1)), (6, zi y502), (7, zi 0), (8, zi (m 4 45 (287 + a1)))] (zi243 107) rfl ?_
      have hz6 := zfu_eq 6
      refine l243_107_1 (s := s) (d := d)  a1 a2 a3 (6 * a1) y502 0 (m 4 44 8) (m 4 44 9) (BE := B + 0) (by omega) (by omega) (by omega) (by omega) (by omega) (by omega) (by omega) (by omega) hf21 hg4 (fun  m510 B511 hJ512 hBB511 hrlm510_0 hrlm510_1 hrlm510_2 hR513 => ?_) (zfu 6) (m 4 45 (287 + a1)) m (B) (hJ.up (by omega)) (by omega) (by omega) (by omega) (by omega) (by omega) (by omega) (Eq.trans hR506 (Eq.trans (if_pos h507) (Eq.trans (if_neg h509) rfl)))
      refine X.aload_n 186 (zi243 185) rfl rfl rfl ?_
      refine X.getF 189 (zi243 186) rfl rfl (by decide) rfl rfl ?_
      refine X.sipush 192 (zi243 189) rfl rfl (by decide) ?_
      refine X.iload 194 (zi243 192) rfl rfl rfl ?_
      refine X.iadd 195 (zi243 194) rfl rfl (by omega) ?_
      refine X.iload 197 (zi243 195) rfl rfl rfl ?_
      refine X.iadd 198 (zi243 197) rfl rfl (by omega) ?_
      refine X.iload_n 199 (zi243 198) rfl rfl rfl ?_
      refine X.i2l 200 (zi243 199) rfl rfl ?_
      refine X.last' 201 (zi243 200) rfl rfl (by decide) rfl (by omega) (fun hrm514 m514 hm514 => ?_)
      have hJ515 := w45_295 hJ512 hm514 (by omega) (by omega) hf21 hg4
      have wtm514_0 : m514 4 45 (287 + a1) = m510 4 45 (287 + a1) := by rw [hm514]; exact z_upd_i _ _ _ _ (by omega)
      have wmm514_8 : m514 4 44 8 = m510 4 44 8 := by rw [hm514]; exact z_upd_o _ _ rfl
      have wmm514_9 : m514 4 44 9 = m510 4 44 9 := by rw [hm514]; exact z_upd_o _ _ rfl
      have wmm514_10 : m514 4 44 10 = m510 4 44 10 := by rw [hm514]; exact z_upd_o _ _ rfl
      refine X.aload_n 202 (zi243 201) rfl rfl rfl ?_
      refine X.getF 205 (zi243 202) rfl rfl (by decide) rfl rfl ?_
      refine X.sipush 208 (zi243 205) rfl rfl (by decide) ?_
      refine X.iload 210 (zi243 208) rfl rfl rfl ?_
      refine X.iadd 211 (zi243 210) rfl rfl (by omega) ?_
      refine X.iload 213 (zi243 211) rfl rfl rfl ?_
      refine X.iadd 214 (zi243 213) rfl rfl (by omega) ?_
      refine X.iload_n 215 (zi243 214) rfl rfl rfl ?_
      refine X.i2l 216 (zi243 215) rfl rfl ?_
      refine X.last' 217 (zi243 216) rfl rfl (by decide) rfl (by omega) (fun hrm516 m516 hm516 => ?_)
      have hJ517 := w45_343 hJ515 hm516 (by omega) (by omega) hf21 hg4
      have wtm516_0 : m516 4 45 (287 + a1) = m514 4 45 (287 + a1) := by rw [hm516]; exact z_upd_i _ _ _ _ (by omega)
      have wmm516_8 : m516 4 44 8 = m514 4 44 8 := by rw [hm516]; exact z_upd_o _ _ rfl
      have wmm516_9 : m516 4 44 9 = m514 4 44 9 := by rw [hm516]; exact z_upd_o _ _ rfl
      have wmm516_10 : m516 4 44 10 = m514 4 44 10 := by rw [hm516]; exact z_upd_o _ _ rfl
      refine X.aload_n 218 (zi243 217) rfl rfl rfl ?_
      refine X.getF 221 (zi243 218) rfl rfl (by decide) rfl rfl ?_
      refine X.sipush 224 (zi243 221) rfl rfl (by decide) ?_
      refine X.iload_n 225 (zi243 224) rfl rfl rfl ?_
      refine X.iadd 226 (zi243 225) rfl rfl (by omega) ?_
      refine X.dup2 227 (zi243 226) rfl rfl ?_
      refine X.lald 228 (zi243 227) rfl rfl (by decide) rfl (by omega) ?_
      have h518 := r45_287 hJ517 4 (i := (287 + a1)) (by omega)
      refine X.iload 230 (zi243 228) rfl rfl rfl ?_
      refine X.ifeq 237 233 (zi243 230) rfl rfl rfl (fun h519 => ?_) (fun h519 => (by exfalso; omega))
      refine X.cut [(0, zr 4 44), (1, zi a1)] (zi243 237) rfl ?_
      refine X.lconst (y := 1) 238 (zi243 237) rfl rfl rfl ?_
      refine X.ladd 239 (zi243 238) rfl rfl (by omega) ?_
      refine X.last' 240 (zi243 239) rfl rfl (by decide) rfl (by omega) (fun hrm520 m520 hm520 => ?_)
      have hJ521 := w45_287 hJ517 hm520 (by omega) (by omega) hf21 hg4
      have wmm520_8 : m520 4 44 8 = m516 4 44 8 := by rw [hm520]; exact z_upd_o _ _ rfl
      have wmm520_9 : m520 4 44 9 = m516 4 44 9 := by rw [hm520]; exact z_upd_o _ _ rfl
      have wmm520_10 : m520 4 44 10 = m516 4 44 10 := by rw [hm520]; exact z_upd_o _ _ rfl
      refine X.aload_n 241 (zi243 240) rfl rfl rfl ?_
      refine X.getF 244 (zi243 241) rfl rfl (by decide) rfl rfl ?_
      refine X.sipush 247 (zi243 244) rfl rfl (by decide) ?_
      refine X.iload_n 248 (zi243 247) rfl rfl rfl ?_
      refine X.iadd 249 (zi243 248) rfl rfl (by omega) ?_
      refine X.lald 250 (zi243 249) rfl rfl (by decide) rfl (by omega) ?_
      have h522 := r45_287 hJ521 4 (i := (287 + a1)) (by omega)
      refine X.l2i 251 (zi243 250) rfl rfl (by omega) ?_
      refine X.reti (zi243 251) rfl t243 ?_
      exact hQ (m520 4 45 (287 + a1)) m520 (by first | trivial | omega) (Eq.trans hR513 (Eq.trans (zs_eq hm514) (Eq.trans (zs_eq hm516) (Eq.trans (zs_eq hm520) rfl)))) (hJ521.up (by omega)) (by omega) (by omega)
    · refine X.iconst 102 (zi243 101) rfl rfl (by decide) ?_
      refine X.reti (zi243 102) rfl t243 ?_
      exact hQ (-1) m (by first | trivial | omega) (Eq.trans hR506 (Eq.trans (if_pos h507) (Eq.trans (if_pos h509) rfl))) (hJ.up (by omega)) (by omega) (by omega)
  · refine X.aload_n 63 (zi243 62) rfl rfl rfl ?_
    refine X.getF 66 (zi243 63) rfl rfl (by decide) rfl rfl ?_
    refine X.sipush 69 (zi243 66) rfl rfl (by decide) ?_
    refine X.iload 71 (zi243 69) rfl rfl rfl ?_
    refine X.iadd 72 (zi243 71) rfl rfl (by omega) ?_
    refine X.iload 74 (zi243 72) rfl rfl rfl ?_
    refine X.iadd 75 (zi243 74) rfl rfl (by omega) ?_
    refine X.lald 76 (zi243 75) rfl rfl (by decide) rfl (by omega) ?_
    have h523 := r45_295 hJ 4 (i := ((295 + (6 * a1)) + y502)) (by omega)
    refine X.iload_n 77 (zi243 76) rfl rfl rfl ?_
    refine X.i2l 78 (zi243 77) rfl rfl ?_
    refine X.lcmp 79 (zi243 78) rfl rfl (fun z524 hz524 => ?_)
    refine X.ifne 86 82 (zi243 79) rfl rfl rfl (fun h525 => ?_) (fun h525 => ?_)
    · have h525c : ¬ (m 4 45 ((295 + (6 * a1)) + y502)) = a2 := by omega
      clear h525 hz524
      refine X.iconst 87 (zi243 86) rfl rfl (by decide) ?_
      refine X.istore 89 [(0, zr 4 44), (1, zi a1), (2, zi a2), (3, zi a3), (4, zi (6 * a1)), (5, zi (m 4 45 (287 + a1))), (6, zi y502), (7, zi 0)] (zi243 87) rfl rfl rfl ?_
      refine X.iload 91 (zi243 89) rfl rfl rfl ?_
      refine X.ifne 103 94 (zi243 91) rfl rfl rfl (fun h526 => (by exfalso; omega)) (fun h526 => ?_)
      refine X.iload 96 (zi243 94) rfl rfl rfl ?_
      refine X.bipush 98 (zi243 96) rfl rfl (by decide) ?_
      refine X.icmpne 103 101 (zi243 98) rfl rfl rfl (fun h527 => ?_) (fun h527 => ?_)
      · refine X.iload 105 (zi243 103) rfl rfl rfl ?_
        refine X.istore 107 [(0, zr 4 44), (1, zi a1), (2, zi a2), (3, zi a3), (4, zi (6 * a1)), (5, zi (m 4 45 (287 + a1))), (6, zi y502), (7, zi 0), (8, zi (m 4 45 (287 + a1)))] (zi243 105) rfl rfl rfl ?_
        refine X.cut [(0, zr 4 44), (1, zi a1), (2, zi a2), (3, zi a3), (4, zi (6 * a1)), (6, zi y502), (7, zi 0), (8, zi (m 4 45 (287 + a1)))] (zi243 107) rfl ?_
        have hz6 := zfu_eq 6
        refine l243_107_1 (s := s) (d := d)  a1 a2 a3 (6 * a1) y502 0 (m 4 44 8) (m 4 44 9) (BE := B + 0) (by omega) (by omega) (by omega) (by omega) (by omega) (by omega) (by omega) (by omega) hf21 hg4 (fun  m528 B529 hJ530 hBB529 hrlm528_0 hrlm528_1 hrlm528_2 hR531 => ?_) (zfu 6) (m 4 45 (287 + a1)) m (B) (hJ.up (by omega)) (by omega) (by omega) (by omega) (by omega) (by omega) (by omega) (Eq.trans hR506 (Eq.trans (if_neg h507) (Eq.trans (if_neg h525c) (Eq.trans (if_neg h527) rfl))))
        refine X.aload_n 186 (zi243 185) rfl rfl rfl ?_
        refine X.getF 189 (zi243 186) rfl rfl (by decide) rfl rfl ?_
        refine X.sipush 192 (zi243 189) rfl rfl (by decide) ?_
        refine X.iload 194 (zi243 192) rfl rfl rfl ?_
        refine X.iadd 195 (zi243 194) rfl rfl (by omega) ?_
        refine X.iload 197 (zi243 195) rfl rfl rfl ?_
        refine X.iadd 198 (zi243 197) rfl rfl (by omega) ?_
        refine X.iload_n 199 (zi243 198) rfl rfl rfl ?_
        refine X.i2l 200 (zi243 199) rfl rfl ?_
        refine X.last' 201 (zi243 200) rfl rfl (by decide) rfl (by omega) (fun hrm532 m532 hm532 => ?_)
        have hJ533 := w45_295 hJ530 hm532 (by omega) (by omega) hf21 hg4
        have wtm532_0 : m532 4 45 (287 + a1) = m528 4 45 (287 + a1) := by rw [hm532]; exact z_upd_i _ _ _ _ (by omega)
        have wmm532_8 : m532 4 44 8 = m528 4 44 8 := by rw [hm532]; exact z_upd_o _ _ rfl
        have wmm532_9 : m532 4 44 9 = m528 4 44 9 := by rw [hm532]; exact z_upd_o _ _ rfl
        have wmm532_10 : m532 4 44 10 = m528 4 44 10 := by rw [hm532]; exact z_upd_o _ _ rfl
        refine X.aload_n 202 (zi243 201) rfl rfl rfl ?_
        refine X.getF 205 (zi243 202) rfl rfl (by decide) rfl rfl ?_
        refine X.sipush 208 (zi243 205) rfl rfl (by decide) ?_
        refine X.iload 210 (zi243 208) rfl rfl rfl ?_
        refine X.iadd 211 (zi243 210) rfl rfl (by omega) ?_
        refine X.iload 213 (zi243 211) rfl rfl rfl ?_
        refine X.iadd 214 (zi243 213) rfl rfl (by omega) ?_
        refine X.iload_n 215 (zi243 214) rfl rfl rfl ?_
        refine X.i2l 216 (zi243 215) rfl rfl ?_
        refine X.last' 217 (zi243 216) rfl rfl (by decide) rfl (by omega) (fun hrm534 m534 hm534 => ?_)
        have hJ535 := w45_343 hJ533 hm534 (by omega) (by omega) hf21 hg4
        have wtm534_0 : m534 4 45 (287 + a1) = m532 4 45 (287 + a1) := by rw [hm534]; exact z_upd_i _ _ _ _ (by omega)
        have wmm534_8 : m534 4 44 8 = m532 4 44 8 := by rw [hm534]; exact z_upd_o _ _ rfl
        have wmm534_9 : m534 4 44 9 = m532 4 44 9 := by rw [hm534]; exact z_upd_o _ _ rfl
        have wmm534_10 : m534 4 44 10 = m532 4 44 10 := by rw [hm534]; exact z_upd_o _ _ rfl
        refine X.aload_n 218 (zi243 217) rfl rfl rfl ?_
        refine X.getF 221 (zi243 218) rfl rfl (by decide) rfl rfl ?_
        refine X.sipush 224 (zi243 221) rfl rfl (by decide) ?_
        refine X.iload_n 225 (zi243 224) rfl rfl rfl ?_
        refine X.iadd 226 (zi243 225) rfl rfl (by omega) ?_
        refine X.dup2 227 (zi243 226) rfl rfl ?_
        refine X.lald 228 (zi243 227) rfl rfl (by decide) rfl (by omega) ?_
        have h536 := r45_287 hJ535 4 (i := (287 + a1)) (by omega)
        refine X.iload 230 (zi243 228) rfl rfl rfl ?_
        refine X.ifeq 237 233 (zi243 230) rfl rfl rfl (fun h537 => ?_) (fun h537 => (by exfalso; omega))
        refine X.cut [(0, zr 4 44), (1, zi a1)] (zi243 237) rfl ?_
        refine X.lconst (y := 1) 238 (zi243 237) rfl rfl rfl ?_
        refine X.ladd 239 (zi243 238) rfl rfl (by omega) ?_
        refine X.last' 240 (zi243 239) rfl rfl (by decide) rfl (by omega) (fun hrm538 m538 hm538 => ?_)
        have hJ539 := w45_287 hJ535 hm538 (by omega) (by omega) hf21 hg4
        have wmm538_8 : m538 4 44 8 = m534 4 44 8 := by rw [hm538]; exact z_upd_o _ _ rfl
        have wmm538_9 : m538 4 44 9 = m534 4 44 9 := by rw [hm538]; exact z_upd_o _ _ rfl
        have wmm538_10 : m538 4 44 10 = m534 4 44 10 := by rw [hm538]; exact z_upd_o _ _ rfl
        refine X.aload_n 241 (zi243 240) rfl rfl rfl ?_
        refine X.getF 244 (zi243 241) rfl rfl (by decide) rfl rfl ?_
        refine X.sipush 247 (zi243 244) rfl rfl (by decide) ?_
        refine X.iload_n 248 (zi243 247) rfl rfl rfl ?_
        refine X.iadd 249 (zi243 248) rfl rfl (by omega) ?_
        refine X.lald 250 (zi243 249) rfl rfl (by decide) rfl (by omega) ?_
        have h540 := r45_287 hJ539 4 (i := (287 + a1)) (by omega)
        refine X.l2i 251 (zi243 250) rfl rfl (by omega) ?_
        refine X.reti (zi243 251) rfl t243 ?_
        exact hQ (m538 4 45 (287 + a1)) m538 (by first | trivial | omega) (Eq.trans hR531 (Eq.trans (zs_eq hm532) (Eq.trans (zs_eq hm534) (Eq.trans (zs_eq hm538) rfl)))) (hJ539.up (by omega)) (by omega) (by omega)
      · refine X.iconst 102 (zi243 101) rfl rfl (by decide) ?_
        refine X.reti (zi243 102) rfl t243 ?_
        exact hQ (-1) m (by first | trivial | omega) (Eq.trans hR506 (Eq.trans (if_neg h507) (Eq.trans (if_neg h525c) (Eq.trans (if_pos h527) rfl)))) (hJ.up (by omega)) (by omega) (by omega)
    · have h525c : (m 4 45 ((295 + (6 * a1)) + y502)) = a2 := by omega
      clear h525 hz524
      refine X.iconst 83 (zi243 82) rfl rfl (by decide) ?_
      refine X.goto 87 (zi243 83) rfl rfl ?_
      refine X.istore 89 [(0, zr 4 44), (1, zi a1), (2, zi a2), (3, zi a3), (4, zi (6 * a1)), (5, zi (m 4 45 (287 + a1))), (6, zi y502), (7, zi 1)] (zi243 87) rfl rfl rfl ?_
      refine X.iload 91 (zi243 89) rfl rfl rfl ?_
      refine X.ifne 103 94 (zi243 91) rfl rfl rfl (fun h541 => ?_) (fun h541 => (by exfalso; omega))
      refine X.iload 105 (zi243 103) rfl rfl rfl ?_
      refine X.istore 107 [(0, zr 4 44), (1, zi a1), (2, zi a2), (3, zi a3), (4, zi (6 * a1)), (5, zi (m 4 45 (287 + a1))), (6, zi y502), (7, zi 1), (8, zi (m 4 45 (287 + a1)))] (zi243 105) rfl rfl rfl ?_
      refine X.cut [(0, zr 4 44), (1, zi a1), (2, zi a2), (3, zi a3), (4, zi (6 * a1)), (6, zi y502), (7, zi 1), (8, zi (m 4 45 (287 + a1)))] (zi243 107) rfl ?_
      have hz7 := zfu_eq 7
      refine l243_107_2 (s := s) (d := d)  a1 a2 a3 (6 * a1) y502 1 (m 4 44 8) (m 4 44 9) (BE := B + 0) (by omega) (by omega) (by omega) (by omega) (by omega) (by omega) (by omega) (by omega) (fun  m542 B543 hJ544 hBB543 hrlm542_0 hrlm542_1 hrlm542_2 hR545 => ?_) (zfu 7) (m 4 45 (287 + a1)) m (B) (hJ.up (by omega)) (by omega) (by omega) (by omega) (by omega) (by omega) (by omega) (Eq.trans hR506 (Eq.trans (if_neg h507) (Eq.trans (if_pos h525c) rfl)))
      refine X.aload_n 186 (zi243 185) rfl rfl rfl ?_
      refine X.getF 189 (zi243 186) rfl rfl (by decide) rfl rfl ?_
      refine X.sipush 192 (zi243 189) rfl rfl (by decide) ?_
      refine X.iload 194 (zi243 192) rfl rfl rfl ?_
      refine X.iadd 195 (zi243 194) rfl rfl (by omega) ?_
      refine X.iload 197 (zi243 195) rfl rfl rfl ?_
      refine X.iadd 198 (zi243 197) rfl rfl (by omega) ?_
      refine X.iload_n 199 (zi243 198) rfl rfl rfl ?_
      refine X.i2l 200 (zi243 199) rfl rfl ?_
      refine X.last' 201 (zi243 200) rfl rfl (by decide) rfl (by omega) (fun hrm546 m546 hm546 => ?_)
      have hJ547 := w45_295 hJ544 hm546 (by omega) (by omega) hf21 hg4
      have wtm546_0 : m546 4 45 (287 + a1) = m542 4 45 (287 + a1) := by rw [hm546]; exact z_upd_i _ _ _ _ (by omega)
      have wmm546_8 : m546 4 44 8 = m542 4 44 8 := by rw [hm546]; exact z_upd_o _ _ rfl
      have wmm546_9 : m546 4 44 9 = m542 4 44 9 := by rw [hm546]; exact z_upd_o _ _ rfl
      have wmm546_10 : m546 4 44 10 = m542 4 44 10 := by rw [hm546]; exact z_upd_o _ _ rfl
      refine X.aload_n 202 (zi243 201) rfl rfl rfl ?_
      refine X.getF 205 (zi243 202) rfl rfl (by decide) rfl rfl ?_
      refine X.sipush 208 (zi243 205) rfl rfl (by decide) ?_
      refine X.iload 210 (zi243 208) rfl rfl rfl ?_
      refine X.iadd 211 (zi243 210) rfl rfl (by omega) ?_
      refine X.iload 213 (zi243 211) rfl rfl rfl ?_
      refine X.iadd 214 (zi243 213) rfl rfl (by omega) ?_
      refine X.iload_n 215 (zi243 214) rfl rfl rfl ?_
      refine X.i2l 216 (zi243 215) rfl rfl ?_
      refine X.last' 217 (zi243 216) rfl rfl (by decide) rfl (by omega) (fun hrm548 m548 hm548 => ?_)
      have hJ549 := w45_343 hJ547 hm548 (by omega) (by omega) hf21 hg4
      have wtm548_0 : m548 4 45 (287 + a1) = m546 4 45 (287 + a1) := by rw [hm548]; exact z_upd_i _ _ _ _ (by omega)
      have wmm548_8 : m548 4 44 8 = m546 4 44 8 := by rw [hm548]; exact z_upd_o _ _ rfl
      have wmm548_9 : m548 4 44 9 = m546 4 44 9 := by rw [hm548]; exact z_upd_o _ _ rfl
      have wmm548_10 : m548 4 44 10 = m546 4 44 10 := by rw [hm548]; exact z_upd_o _ _ rfl
      refine X.aload_n 218 (zi243 217) rfl rfl rfl ?_
      refine X.getF 221 (zi243 218) rfl rfl (by decide) rfl rfl ?_
      refine X.sipush 224 (zi243 221) rfl rfl (by decide) ?_
      refine X.iload_n 225 (zi243 224) rfl rfl rfl ?_
      refine X.iadd 226 (zi243 225) rfl rfl (by omega) ?_
      refine X.dup2 227 (zi243 226) rfl rfl ?_
      refine X.lald 228 (zi243 227) rfl rfl (by decide) rfl (by omega) ?_
      have h550 := r45_287 hJ549 4 (i := (287 + a1)) (by omega)
      refine X.iload 230 (zi243 228) rfl rfl rfl ?_
      refine X.ifeq 237 233 (zi243 230) rfl rfl rfl (fun h551 => (by exfalso; omega)) (fun h551 => ?_)
      refine X.lconst (y := 0) 234 (zi243 233) rfl rfl rfl ?_
      refine X.goto 238 (zi243 234) rfl rfl ?_
      refine X.cut [(0, zr 4 44), (1, zi a1)] (zi243 238) rfl ?_
      refine X.ladd 239 (zi243 238) rfl rfl (by omega) ?_
      refine X.last' 240 (zi243 239) rfl rfl (by decide) rfl (by omega) (fun hrm552 m552 hm552 => ?_)
      have hJ553 := w45_287 hJ549 hm552 (by omega) (by omega) hf21 hg4
      have wmm552_8 : m552 4 44 8 = m548 4 44 8 := by rw [hm552]; exact z_upd_o _ _ rfl
      have wmm552_9 : m552 4 44 9 = m548 4 44 9 := by rw [hm552]; exact z_upd_o _ _ rfl
      have wmm552_10 : m552 4 44 10 = m548 4 44 10 := by rw [hm552]; exact z_upd_o _ _ rfl
      refine X.aload_n 241 (zi243 240) rfl rfl rfl ?_
      refine X.getF 244 (zi243 241) rfl rfl (by decide) rfl rfl ?_
      refine X.sipush 247 (zi243 244) rfl rfl (by decide) ?_
      refine X.iload_n 248 (zi243 247) rfl rfl rfl ?_
      refine X.iadd 249 (zi243 248) rfl rfl (by omega) ?_
      refine X.lald 250 (zi243 249) rfl rfl (by decide) rfl (by omega) ?_
      have h554 := r45_287 hJ553 4 (i := (287 + a1)) (by omega)
      refine X.l2i 251 (zi243 250) rfl rfl (by omega) ?_
      refine X.reti (zi243 251) rfl t243 ?_
      exact hQ (m552 4 45 (287 + a1)) m552 (by first | trivial | omega) (Eq.trans hR545 (Eq.trans (zs_eq hm546) (Eq.trans (zs_eq hm548) (Eq.trans (zs_eq hm552) rfl)))) (hJ553.up (by omega)) (by omega) (by omega)
-- WorkMeterModel.table
noncomputable def f240_1 (a1 a2 a3 : Int) (m : zM) : Int × zM :=
  zb (f203_1 m) fun v503 m501 =>
  if v503 = 0 then
  (if a1 < 0 then
  (((-1), m501))
  else
  (if a1 ≤ 7 then
  (if a2 < 0 then
  (((-1), m501))
  else
  (if a2 ≤ 86399 then
  (if a3 < 0 then
  (((-1), m501))
  else
  (if a3 ≤ 3 then
  (zb (f243_1 a1 a2 a3 m501) fun v528 m526 =>
  (v528, m526))
  else
  (((-1), m501))))
  else
  (((-1), m501))))
  else
  (((-1), m501))))
  else
  (((-1), m501))
-- WorkMeterModel.table
theorem c240_1 {s : Nat × (Nat → Int32)} {S : zS} {m0 m : zM} {B : Int} {d : Nat} {Q : Option zV → zM → Prop} (a1 a2 a3 : Int) (hd : 14 ≤ d) (hJ : J S m0 B m) (hB : B + 0 ≤ 1000000000) (ha1 : (-2147483648) ≤ a1 ∧ a1 ≤ 2147483647) (ha2 : (-2147483648) ≤ a2 ∧ a2 ≤ 2147483647) (ha3 : (-2147483648) ≤ a3 ∧ a3 ≤ 2147483647) (hf21 : ¬ S.1 21) (hf24 : ¬ S.1 24) (hg4 : ¬ S.2.1 4) (hQ : ∀ (v : Int) m', ((-1) ≤ v ∧ v ≤ 6) → f240_1 a1 a2 a3 m = (v, m') → J S m0 (B) m' → Q (some (zi v)) m') : X (EE s) d 240 0 [(0, zr 4 44), (1, zi a1), (2, zi a2), (3, zi a3)] [] m Q := by
  refine X.aload_n 1 (zi240 0) rfl rfl rfl ?_
  refine X.callv 4 [] [] [(0, zr 4 44)] (zi240 1) rfl (by decide) rfl rfl (by omega) rfl rfl (by decide) rfl t203 (Nat.le_of_ble_eq_true rfl) (Nat.le_of_ble_eq_true rfl) rfl ?_
  refine c203_1 (B := B)   (by omega) (hJ.up (by omega)) (by omega)  hf24 hg4 (fun v503 m501 hv503 hFv503 hJ502 => ?_)
  show X (EE s) d 240 4 [(0, zr 4 44), (1, zi a1), (2, zi a2), (3, zi a3)] [zi v503] m501 _
  refine X.ifne 33 7 (zi240 4) rfl rfl rfl (fun h504 => ?_) (fun h504 => ?_)
  · refine X.cut [] (zi240 33) rfl ?_
    refine X.iconst 34 (zi240 33) rfl rfl (by decide) ?_
    refine X.reti (zi240 34) rfl t240 ?_
    exact hQ (-1) m501 (by first | trivial | omega) (Eq.trans (zb_eq hFv503) (Eq.trans (if_neg h504) rfl)) (hJ502.up (by omega)) 
  · refine X.iload_n 8 (zi240 7) rfl rfl rfl ?_
    refine X.calls 11 [zi a1] [] [(0, zi a1)] (zi240 8) (by decide) rfl rfl (by omega) rfl rfl t241 (Nat.le_of_ble_eq_true rfl) (Nat.le_of_ble_eq_true rfl) rfl ?_
    refine X.iload_n 1 (zi241 0) rfl rfl rfl ?_
    refine X.i2l 2 (zi241 1) rfl rfl ?_
    refine X.lconst (y := 0) 3 (zi241 2) rfl rfl rfl ?_
    refine X.ldc2 6 (zi241 3) rfl rfl (by decide) ?_
    refine X.calls 9 [zl a1, zl 0, zl 7] [] [(0, zl a1), (2, zl 0), (4, zl 7)] (zi241 6) (by decide) rfl rfl (by omega) rfl rfl t204 (Nat.le_of_ble_eq_true rfl) (Nat.le_of_ble_eq_true rfl) rfl ?_
    refine X.lload_n 1 (zi204 0) rfl rfl rfl ?_
    refine X.lload_n 2 (zi204 1) rfl rfl rfl ?_
    refine X.lcmp 3 (zi204 2) rfl rfl (fun z505 hz505 => ?_)
    refine X.iflt 17 6 (zi204 3) rfl rfl rfl (fun h506 => ?_) (fun h506 => ?_)
    · have h506c : a1 < 0 := by omega
      clear h506 hz505
      refine X.cut [] (zi204 17) rfl ?_
      refine X.iconst 18 (zi204 17) rfl rfl (by decide) ?_
      refine X.retz (zi204 18) rfl t204 (by omega) ?_
      show X (EE s) (d - 1) 241 9 [(0, zi a1)] [zi 0] m501 _
      refine X.retz (zi241 9) rfl t241 (by omega) ?_
      show X (EE s) d 240 11 [(0, zr 4 44), (1, zi a1), (2, zi a2), (3, zi a3)] [zi 0] m501 _
      refine X.ifeq 33 14 (zi240 11) rfl rfl rfl (fun h507 => ?_) (fun h507 => (by exfalso; omega))
      refine X.cut [] (zi240 33) rfl ?_
      refine X.iconst 34 (zi240 33) rfl rfl (by decide) ?_
      refine X.reti (zi240 34) rfl t240 ?_
      exact hQ (-1) m501 (by first | trivial | omega) (Eq.trans (zb_eq hFv503) (Eq.trans (if_pos h504) (Eq.trans (if_pos h506c) rfl))) (hJ502.up (by omega)) 
    · have h506c : ¬ a1 < 0 := by omega
      clear h506 hz505
      refine X.lload_n 7 (zi204 6) rfl rfl rfl ?_
      refine X.lload 9 (zi204 7) rfl rfl rfl ?_
      refine X.lcmp 10 (zi204 9) rfl rfl (fun z508 hz508 => ?_)
      refine X.ifgt 17 13 (zi204 10) rfl rfl rfl (fun h509 => ?_) (fun h509 => ?_)
      · have h509c : ¬ a1 ≤ 7 := by omega
        clear h509 hz508
        refine X.cut [] (zi204 17) rfl ?_
        refine X.iconst 18 (zi204 17) rfl rfl (by decide) ?_
        refine X.retz (zi204 18) rfl t204 (by omega) ?_
        show X (EE s) (d - 1) 241 9 [(0, zi a1)] [zi 0] m501 _
        refine X.retz (zi241 9) rfl t241 (by omega) ?_
        show X (EE s) d 240 11 [(0, zr 4 44), (1, zi a1), (2, zi a2), (3, zi a3)] [zi 0] m501 _
        refine X.ifeq 33 14 (zi240 11) rfl rfl rfl (fun h510 => ?_) (fun h510 => (by exfalso; omega))
        refine X.cut [] (zi240 33) rfl ?_
        refine X.iconst 34 (zi240 33) rfl rfl (by decide) ?_
        refine X.reti (zi240 34) rfl t240 ?_
        exact hQ (-1) m501 (by first | trivial | omega) (Eq.trans (zb_eq hFv503) (Eq.trans (if_pos h504) (Eq.trans (if_neg h506c) (Eq.trans (if_neg h509c) rfl)))) (hJ502.up (by omega)) 
      · have h509c : a1 ≤ 7 := by omega
        clear h509 hz508
        refine X.iconst 14 (zi204 13) rfl rfl (by decide) ?_
        refine X.goto 18 (zi204 14) rfl rfl ?_
        refine X.cut [] (zi204 18) rfl ?_
        refine X.retz (zi204 18) rfl t204 (by omega) ?_
        show X (EE s) (d - 1) 241 9 [(0, zi a1)] [zi 1] m501 _
        refine X.retz (zi241 9) rfl t241 (by omega) ?_
        show X (EE s) d 240 11 [(0, zr 4 44), (1, zi a1), (2, zi a2), (3, zi a3)] [zi 1] m501 _
        refine X.ifeq 33 14 (zi240 11) rfl rfl rfl (fun h511 => (by exfalso; omega)) (fun h511 => ?_)
        refine X.iload_n 15 (zi240 14) rfl rfl rfl ?_
        refine X.i2l 16 (zi240 15) rfl rfl ?_
        refine X.lconst (y := 0) 17 (zi240 16) rfl rfl rfl ?_
        refine X.ldc2 20 (zi240 17) rfl rfl (by decide) ?_
        refine X.calls 23 [zl a2, zl 0, zl 86399] [] [(0, zl a2), (2, zl 0), (4, zl 86399)] (zi240 20) (by decide) rfl rfl (by omega) rfl rfl t204 (Nat.le_of_ble_eq_true rfl) (Nat.le_of_ble_eq_true rfl) rfl ?_
        refine X.lload_n 1 (zi204 0) rfl rfl rfl ?_
        refine X.lload_n 2 (zi204 1) rfl rfl rfl ?_
        refine X.lcmp 3 (zi204 2) rfl rfl (fun z512 hz512 => ?_)
        refine X.iflt 17 6 (zi204 3) rfl rfl rfl (fun h513 => ?_) (fun h513 => ?_)
        · have h513c : a2 < 0 := by omega
          clear h513 hz512
          refine X.cut [] (zi204 17) rfl ?_
          refine X.iconst 18 (zi204 17) rfl rfl (by decide) ?_
          refine X.retz (zi204 18) rfl t204 (by omega) ?_
          show X (EE s) d 240 23 [(0, zr 4 44), (1, zi a1), (2, zi a2), (3, zi a3)] [zi 0] m501 _
          refine X.ifeq 33 26 (zi240 23) rfl rfl rfl (fun h514 => ?_) (fun h514 => (by exfalso; omega))
          refine X.cut [] (zi240 33) rfl ?_
          refine X.iconst 34 (zi240 33) rfl rfl (by decide) ?_
          refine X.reti (zi240 34) rfl t240 ?_
          exact hQ (-1) m501 (by first | trivial | omega) (Eq.trans (zb_eq hFv503) (Eq.trans (if_pos h504) (Eq.trans (if_neg h506c) (Eq.trans (if_pos h509c) (Eq.trans (if_pos h513c) rfl))))) (hJ502.up (by omega)) 
        · have h513c : ¬ a2 < 0 := by omega
          clear h513 hz512
          refine X.lload_n 7 (zi204 6) rfl rfl rfl ?_
          refine X.lload 9 (zi204 7) rfl rfl rfl ?_
          refine X.lcmp 10 (zi204 9) rfl rfl (fun z515 hz515 => ?_)
          refine X.ifgt 17 13 (zi204 10) rfl rfl rfl (fun h516 => ?_) (fun h516 => ?_)
          · have h516c : ¬ a2 ≤ 86399 := by omega
            clear h516 hz515
            refine X.cut [] (zi204 17) rfl ?_
            refine X.iconst 18 (zi204 17) rfl rfl (by decide) ?_
            refine X.retz (zi204 18) rfl t204 (by omega) ?_
            show X (EE s) d 240 23 [(0, zr 4 44), (1, zi a1), (2, zi a2), (3, zi a3)] [zi 0] m501 _
            refine X.ifeq 33 26 (zi240 23) rfl rfl rfl (fun h517 => ?_) (fun h517 => (by exfalso; omega))
            refine X.cut [] (zi240 33) rfl ?_
            refine X.iconst 34 (zi240 33) rfl rfl (by decide) ?_
            refine X.reti (zi240 34) rfl t240 ?_
            exact hQ (-1) m501 (by first | trivial | omega) (Eq.trans (zb_eq hFv503) (Eq.trans (if_pos h504) (Eq.trans (if_neg h506c) (Eq.trans (if_pos h509c) (Eq.trans (if_neg h513c) (Eq.trans (if_neg h516c) rfl)))))) (hJ502.up (by omega)) 
          · have h516c : a2 ≤ 86399 := by omega
            clear h516 hz515
            refine X.iconst 14 (zi204 13) rfl rfl (by decide) ?_
            refine X.goto 18 (zi204 14) rfl rfl ?_
            refine X.cut [] (zi204 18) rfl ?_
            refine X.retz (zi204 18) rfl t204 (by omega) ?_
            show X (EE s) d 240 23 [(0, zr 4 44), (1, zi a1), (2, zi a2), (3, zi a3)] [zi 1] m501 _
            refine X.ifeq 33 26 (zi240 23) rfl rfl rfl (fun h518 => (by exfalso; omega)) (fun h518 => ?_)
            refine X.iload_n 27 (zi240 26) rfl rfl rfl ?_
            refine X.calls 30 [zi a3] [] [(0, zi a3)] (zi240 27) (by decide) rfl rfl (by omega) rfl rfl t242 (Nat.le_of_ble_eq_true rfl) (Nat.le_of_ble_eq_true rfl) rfl ?_
            refine X.iload_n 1 (zi242 0) rfl rfl rfl ?_
            refine X.i2l 2 (zi242 1) rfl rfl ?_
            refine X.lconst (y := 0) 3 (zi242 2) rfl rfl rfl ?_
            refine X.ldc2 6 (zi242 3) rfl rfl (by decide) ?_
            refine X.calls 9 [zl a3, zl 0, zl 3] [] [(0, zl a3), (2, zl 0), (4, zl 3)] (zi242 6) (by decide) rfl rfl (by omega) rfl rfl t204 (Nat.le_of_ble_eq_true rfl) (Nat.le_of_ble_eq_true rfl) rfl ?_
            refine X.lload_n 1 (zi204 0) rfl rfl rfl ?_
            refine X.lload_n 2 (zi204 1) rfl rfl rfl ?_
            refine X.lcmp 3 (zi204 2) rfl rfl (fun z519 hz519 => ?_)
            refine X.iflt 17 6 (zi204 3) rfl rfl rfl (fun h520 => ?_) (fun h520 => ?_)
            · have h520c : a3 < 0 := by omega
              clear h520 hz519
              refine X.cut [] (zi204 17) rfl ?_
              refine X.iconst 18 (zi204 17) rfl rfl (by decide) ?_
              refine X.retz (zi204 18) rfl t204 (by omega) ?_
              show X (EE s) (d - 1) 242 9 [(0, zi a3)] [zi 0] m501 _
              refine X.retz (zi242 9) rfl t242 (by omega) ?_
              show X (EE s) d 240 30 [(0, zr 4 44), (1, zi a1), (2, zi a2), (3, zi a3)] [zi 0] m501 _
              refine X.ifne 35 33 (zi240 30) rfl rfl rfl (fun h521 => (by exfalso; omega)) (fun h521 => ?_)
              refine X.cut [] (zi240 33) rfl ?_
              refine X.iconst 34 (zi240 33) rfl rfl (by decide) ?_
              refine X.reti (zi240 34) rfl t240 ?_
              exact hQ (-1) m501 (by first | trivial | omega) (Eq.trans (zb_eq hFv503) (Eq.trans (if_pos h504) (Eq.trans (if_neg h506c) (Eq.trans (if_pos h509c) (Eq.trans (if_neg h513c) (Eq.trans (if_pos h516c) (Eq.trans (if_pos h520c) rfl))))))) (hJ502.up (by omega)) 
            · have h520c : ¬ a3 < 0 := by omega
              clear h520 hz519
              refine X.lload_n 7 (zi204 6) rfl rfl rfl ?_
              refine X.lload 9 (zi204 7) rfl rfl rfl ?_
              refine X.lcmp 10 (zi204 9) rfl rfl (fun z522 hz522 => ?_)
              refine X.ifgt 17 13 (zi204 10) rfl rfl rfl (fun h523 => ?_) (fun h523 => ?_)
              · have h523c : ¬ a3 ≤ 3 := by omega
                clear h523 hz522
                refine X.cut [] (zi204 17) rfl ?_
                refine X.iconst 18 (zi204 17) rfl rfl (by decide) ?_
                refine X.retz (zi204 18) rfl t204 (by omega) ?_
                show X (EE s) (d - 1) 242 9 [(0, zi a3)] [zi 0] m501 _
                refine X.retz (zi242 9) rfl t242 (by omega) ?_
                show X (EE s) d 240 30 [(0, zr 4 44), (1, zi a1), (2, zi a2), (3, zi a3)] [zi 0] m501 _
                refine X.ifne 35 33 (zi240 30) rfl rfl rfl (fun h524 => (by exfalso; omega)) (fun h524 => ?_)
                refine X.cut [] (zi240 33) rfl ?_
                refine X.iconst 34 (zi240 33) rfl rfl (by decide) ?_
                refine X.reti (zi240 34) rfl t240 ?_
                exact hQ (-1) m501 (by first | trivial | omega) (Eq.trans (zb_eq hFv503) (Eq.trans (if_pos h504) (Eq.trans (if_neg h506c) (Eq.trans (if_pos h509c) (Eq.trans (if_neg h513c) (Eq.trans (if_pos h516c) (Eq.trans (if_neg h520c) (Eq.trans (if_neg h523c) rfl)))))))) (hJ502.up (by omega)) 
              · have h523c : a3 ≤ 3 := by omega
                clear h523 hz522
                refine X.iconst 14 (zi204 13) rfl rfl (by decide) ?_
                refine X.goto 18 (zi204 14) rfl rfl ?_
                refine X.cut [] (zi204 18) rfl ?_
                refine X.retz (zi204 18) rfl t204 (by omega) ?_
                show X (EE s) (d - 1) 242 9 [(0, zi a3)] [zi 1] m501 _
                refine X.retz (zi242 9) rfl t242 (by omega) ?_
                show X (EE s) d 240 30 [(0, zr 4 44), (1, zi a1), (2, zi a2), (3, zi a3)] [zi 1] m501 _
                refine X.ifne 35 33 (zi240 30) rfl rfl rfl (fun h525 => ?_) (fun h525 => (by exfalso; omega))
                refine X.aload_n 36 (zi240 35) rfl rfl rfl ?_
                refine X.iload_n 37 (zi240 36) rfl rfl rfl ?_
                refine X.iload_n 38 (zi240 37) rfl rfl rfl ?_
                refine X.iload_n 39 (zi240 38) rfl rfl rfl ?_
                refine X.callv 42 [zi a1, zi a2, zi a3] [] [(0, zr 4 44), (1, zi a1), (2, zi a2), (3, zi a3)] (zi240 39) rfl (by decide) rfl rfl (by omega) rfl rfl (by decide) rfl t243 (Nat.le_of_ble_eq_true rfl) (Nat.le_of_ble_eq_true rfl) rfl ?_
                refine c243_1 (B := B)  a1 a2 a3 (by omega) (hJ502.up (by omega)) (by omega) (by omega) (by omega) (by omega) hf21 hg4 (fun v528 m526 hv528 hFv528 hJ527 hqv528_0 hqv528_1 => ?_)
                show X (EE s) d 240 42 [(0, zr 4 44), (1, zi a1), (2, zi a2), (3, zi a3)] [zi v528] m526 _
                refine X.reti (zi240 42) rfl t240 ?_
                exact hQ v528 m526 (by first | trivial | omega) (Eq.trans (zb_eq hFv503) (Eq.trans (if_pos h504) (Eq.trans (if_neg h506c) (Eq.trans (if_pos h509c) (Eq.trans (if_neg h513c) (Eq.trans (if_pos h516c) (Eq.trans (if_neg h520c) (Eq.trans (if_pos h523c) (Eq.trans (zb_eq hFv528) rfl))))))))) (hJ527.up (by omega)) 
-- WorkMeter$Calendar.dropSwitches
noncomputable def f84_1 (g0 : Nat) (a1 : Int) (m : zM) : Int × zM :=
  zs (z_upd m g0 12 a1 0) fun m502 =>
  ((m g0 12 a1), m502)
-- WorkMeter$Calendar.dropSwitches
theorem c84_1 {s : Nat × (Nat → Int32)} {S : zS} {m0 m : zM} {B : Int} {d : Nat} {Q : Option zV → zM → Prop} (g0 : Nat) (a1 : Int) (hd : 13 ≤ d) (hJ : J S m0 B m) (hB : B + 0 ≤ 1000000000) (ha1 : 0 ≤ a1 ∧ a1 ≤ 7) (hf1 : ¬ S.1 1) (hgg0 : ¬ S.2.1 g0) (hQ : ∀ (v : Int) m', (0 ≤ v ∧ v ≤ 6) → f84_1 g0 a1 m = (v, m') → J S m0 (B) m' → Q (some (zi v)) m') : X (EE s) d 84 0 [(0, zr g0 11), (1, zi a1)] [] m Q := by
  refine X.aload_n 1 (zi84 0) rfl rfl rfl ?_
  refine X.getR 4 (zi84 1) rfl rfl (by decide) rfl rfl ?_
  refine X.iload_n 5 (zi84 4) rfl rfl rfl ?_
  refine X.iald 6 (zi84 5) rfl rfl (by decide) rfl (by omega) ?_
  have h501 := r12_0 hJ g0 (i := a1) (by omega)
  refine X.istore_n 7 [(0, zr g0 11), (1, zi a1), (2, zi (m g0 12 a1))] (zi84 6) rfl rfl rfl ?_
  refine X.aload_n 8 (zi84 7) rfl rfl rfl ?_
  refine X.getR 11 (zi84 8) rfl rfl (by decide) rfl rfl ?_
  refine X.iload_n 12 (zi84 11) rfl rfl rfl ?_
  refine X.iconst 13 (zi84 12) rfl rfl (by decide) ?_
  refine X.iast' 14 (zi84 13) rfl rfl (by decide) rfl (by omega) (fun hrm502 m502 hm502 => ?_)
  have hJ503 := w12_0 hJ hm502 (by omega) (by omega) hf1 hgg0
  refine X.iload_n 15 (zi84 14) rfl rfl rfl ?_
  refine X.reti (zi84 15) rfl t84 ?_
  exact hQ (m g0 12 a1) m502 (by first | trivial | omega) (Eq.trans (zs_eq hm502) rfl) (hJ503.up (by omega)) 
-- WorkMeter.wipe
noncomputable def f83_1 (a1 : Int) (m : zM) : Int × zM :=
  zb (f17_1 0 m) fun v503 m501 =>
  if v503 = 0 then
  (if a1 < 0 then
  (((-1), m501))
  else
  (if 8 ≤ a1 then
  (((-1), m501))
  else
  (zb (f84_1 0 a1 m501) fun v512 m510 =>
  (v512, m510))))
  else
  (((-1), m501))
-- WorkMeter.wipe
theorem c83_1 {s : Nat × (Nat → Int32)} {S : zS} {m0 m : zM} {B : Int} {d : Nat} {Q : Option zV → zM → Prop} (a1 : Int) (hd : 14 ≤ d) (hJ : J S m0 B m) (hB : B + 0 ≤ 1000000000) (ha1 : (-2147483648) ≤ a1 ∧ a1 ≤ 2147483647) (hf1 : ¬ S.1 1) (hf4 : ¬ S.1 4) (hg0 : ¬ S.2.1 0) (hQ : ∀ (v : Int) m', ((-1) ≤ v ∧ v ≤ 6) → f83_1 a1 m = (v, m') → J S m0 (B) m' → Q (some (zi v)) m') : X (EE s) d 83 0 [(0, zr 4 40), (1, zi a1)] [] m Q := by
  refine X.aload_n 1 (zi83 0) rfl rfl rfl ?_
  refine X.getF 4 (zi83 1) rfl rfl (by decide) rfl rfl ?_
  refine X.getR 7 (zi83 4) rfl rfl (by decide) rfl rfl ?_
  refine X.callv 10 [] [] [(0, zr 0 39)] (zi83 7) rfl (by decide) rfl rfl (by omega) rfl rfl (by decide) rfl t17 (Nat.le_of_ble_eq_true rfl) (Nat.le_of_ble_eq_true rfl) rfl ?_
  refine c17_1 (B := B) 0  (by omega) (hJ.up (by omega)) (by omega)  hf4 hg0 (fun v503 m501 hv503 hFv503 hJ502 => ?_)
  show X (EE s) d 83 10 [(0, zr 4 40), (1, zi a1)] [zi v503] m501 _
  refine X.ifne 20 13 (zi83 10) rfl rfl rfl (fun h504 => ?_) (fun h504 => ?_)
  · refine X.cut [] (zi83 20) rfl ?_
    refine X.iconst 21 (zi83 20) rfl rfl (by decide) ?_
    refine X.reti (zi83 21) rfl t83 ?_
    exact hQ (-1) m501 (by first | trivial | omega) (Eq.trans (zb_eq hFv503) (Eq.trans (if_neg h504) rfl)) (hJ502.up (by omega)) 
  · refine X.iload_n 14 (zi83 13) rfl rfl rfl ?_
    refine X.calls 17 [zi a1] [] [(0, zi a1)] (zi83 14) (by decide) rfl rfl (by omega) rfl rfl t79 (Nat.le_of_ble_eq_true rfl) (Nat.le_of_ble_eq_true rfl) rfl ?_
    refine X.iload_n 1 (zi79 0) rfl rfl rfl ?_
    refine X.iflt 14 4 (zi79 1) rfl rfl rfl (fun h505 => ?_) (fun h505 => ?_)
    · refine X.cut [] (zi79 14) rfl ?_
      refine X.iconst 15 (zi79 14) rfl rfl (by decide) ?_
      refine X.retz (zi79 15) rfl t79 (by omega) ?_
      show X (EE s) d 83 17 [(0, zr 4 40), (1, zi a1)] [zi 0] m501 _
      refine X.ifne 22 20 (zi83 17) rfl rfl rfl (fun h506 => (by exfalso; omega)) (fun h506 => ?_)
      refine X.cut [] (zi83 20) rfl ?_
      refine X.iconst 21 (zi83 20) rfl rfl (by decide) ?_
      refine X.reti (zi83 21) rfl t83 ?_
      exact hQ (-1) m501 (by first | trivial | omega) (Eq.trans (zb_eq hFv503) (Eq.trans (if_pos h504) (Eq.trans (if_pos h505) rfl))) (hJ502.up (by omega)) 
    · refine X.iload_n 5 (zi79 4) rfl rfl rfl ?_
      refine X.bipush 7 (zi79 5) rfl rfl (by decide) ?_
      refine X.icmpge 14 10 (zi79 7) rfl rfl rfl (fun h507 => ?_) (fun h507 => ?_)
      · refine X.cut [] (zi79 14) rfl ?_
        refine X.iconst 15 (zi79 14) rfl rfl (by decide) ?_
        refine X.retz (zi79 15) rfl t79 (by omega) ?_
        show X (EE s) d 83 17 [(0, zr 4 40), (1, zi a1)] [zi 0] m501 _
        refine X.ifne 22 20 (zi83 17) rfl rfl rfl (fun h508 => (by exfalso; omega)) (fun h508 => ?_)
        refine X.cut [] (zi83 20) rfl ?_
        refine X.iconst 21 (zi83 20) rfl rfl (by decide) ?_
        refine X.reti (zi83 21) rfl t83 ?_
        exact hQ (-1) m501 (by first | trivial | omega) (Eq.trans (zb_eq hFv503) (Eq.trans (if_pos h504) (Eq.trans (if_neg h505) (Eq.trans (if_pos h507) rfl)))) (hJ502.up (by omega)) 
      · refine X.iconst 11 (zi79 10) rfl rfl (by decide) ?_
        refine X.goto 15 (zi79 11) rfl rfl ?_
        refine X.cut [] (zi79 15) rfl ?_
        refine X.retz (zi79 15) rfl t79 (by omega) ?_
        show X (EE s) d 83 17 [(0, zr 4 40), (1, zi a1)] [zi 1] m501 _
        refine X.ifne 22 20 (zi83 17) rfl rfl rfl (fun h509 => ?_) (fun h509 => (by exfalso; omega))
        refine X.aload_n 23 (zi83 22) rfl rfl rfl ?_
        refine X.getF 26 (zi83 23) rfl rfl (by decide) rfl rfl ?_
        refine X.getR 29 (zi83 26) rfl rfl (by decide) rfl rfl ?_
        refine X.iload_n 30 (zi83 29) rfl rfl rfl ?_
        refine X.callv 33 [zi a1] [] [(0, zr 0 11), (1, zi a1)] (zi83 30) rfl (by decide) rfl rfl (by omega) rfl rfl (by decide) rfl t84 (Nat.le_of_ble_eq_true rfl) (Nat.le_of_ble_eq_true rfl) rfl ?_
        refine c84_1 (B := B) 0 a1 (by omega) (hJ502.up (by omega)) (by omega) (by omega) hf1 hg0 (fun v512 m510 hv512 hFv512 hJ511 => ?_)
        show X (EE s) d 83 33 [(0, zr 4 40), (1, zi a1)] [zi v512] m510 _
        refine X.reti (zi83 33) rfl t83 ?_
        exact hQ v512 m510 (by first | trivial | omega) (Eq.trans (zb_eq hFv503) (Eq.trans (if_pos h504) (Eq.trans (if_neg h505) (Eq.trans (if_neg h507) (Eq.trans (zb_eq hFv512) rfl))))) (hJ511.up (by omega)) 
-- WorkMeterModel.wipe
noncomputable def f244_1 (a1 : Int) (m : zM) : Int × zM :=
  zb (f203_1 m) fun v503 m501 =>
  if v503 = 0 then
  (if a1 < 0 then
  (((-1), m501))
  else
  (if a1 ≤ 7 then
  (zs (z_upd m501 4 45 (287 + a1) 0) fun m513 =>
  ((m501 4 45 (287 + a1)), m513))
  else
  (((-1), m501))))
  else
  (((-1), m501))
-- WorkMeterModel.wipe
theorem c244_1 {s : Nat × (Nat → Int32)} {S : zS} {m0 m : zM} {B : Int} {d : Nat} {Q : Option zV → zM → Prop} (a1 : Int) (hd : 14 ≤ d) (hJ : J S m0 B m) (hB : B + 0 ≤ 1000000000) (ha1 : (-2147483648) ≤ a1 ∧ a1 ≤ 2147483647) (hf21 : ¬ S.1 21) (hf24 : ¬ S.1 24) (hg4 : ¬ S.2.1 4) (hQ : ∀ (v : Int) m', ((-1) ≤ v ∧ v ≤ 6) → f244_1 a1 m = (v, m') → J S m0 (B) m' → Q (some (zi v)) m') : X (EE s) d 244 0 [(0, zr 4 44), (1, zi a1)] [] m Q := by
  refine X.aload_n 1 (zi244 0) rfl rfl rfl ?_
  refine X.callv 4 [] [] [(0, zr 4 44)] (zi244 1) rfl (by decide) rfl rfl (by omega) rfl rfl (by decide) rfl t203 (Nat.le_of_ble_eq_true rfl) (Nat.le_of_ble_eq_true rfl) rfl ?_
  refine c203_1 (B := B)   (by omega) (hJ.up (by omega)) (by omega)  hf24 hg4 (fun v503 m501 hv503 hFv503 hJ502 => ?_)
  show X (EE s) d 244 4 [(0, zr 4 44), (1, zi a1)] [zi v503] m501 _
  refine X.ifne 14 7 (zi244 4) rfl rfl rfl (fun h504 => ?_) (fun h504 => ?_)
  · refine X.cut [] (zi244 14) rfl ?_
    refine X.iconst 15 (zi244 14) rfl rfl (by decide) ?_
    refine X.reti (zi244 15) rfl t244 ?_
    exact hQ (-1) m501 (by first | trivial | omega) (Eq.trans (zb_eq hFv503) (Eq.trans (if_neg h504) rfl)) (hJ502.up (by omega)) 
  · refine X.iload_n 8 (zi244 7) rfl rfl rfl ?_
    refine X.calls 11 [zi a1] [] [(0, zi a1)] (zi244 8) (by decide) rfl rfl (by omega) rfl rfl t241 (Nat.le_of_ble_eq_true rfl) (Nat.le_of_ble_eq_true rfl) rfl ?_
    refine X.iload_n 1 (zi241 0) rfl rfl rfl ?_
    refine X.i2l 2 (zi241 1) rfl rfl ?_
    refine X.lconst (y := 0) 3 (zi241 2) rfl rfl rfl ?_
    refine X.ldc2 6 (zi241 3) rfl rfl (by decide) ?_
    refine X.calls 9 [zl a1, zl 0, zl 7] [] [(0, zl a1), (2, zl 0), (4, zl 7)] (zi241 6) (by decide) rfl rfl (by omega) rfl rfl t204 (Nat.le_of_ble_eq_true rfl) (Nat.le_of_ble_eq_true rfl) rfl ?_
    refine X.lload_n 1 (zi204 0) rfl rfl rfl ?_
    refine X.lload_n 2 (zi204 1) rfl rfl rfl ?_
    refine X.lcmp 3 (zi204 2) rfl rfl (fun z505 hz505 => ?_)
    refine X.iflt 17 6 (zi204 3) rfl rfl rfl (fun h506 => ?_) (fun h506 => ?_)
    · have h506c : a1 < 0 := by omega
      clear h506 hz505
      refine X.cut [] (zi204 17) rfl ?_
      refine X.iconst 18 (zi204 17) rfl rfl (by decide) ?_
      refine X.retz (zi204 18) rfl t204 (by omega) ?_
      show X (EE s) (d - 1) 241 9 [(0, zi a1)] [zi 0] m501 _
      refine X.retz (zi241 9) rfl t241 (by omega) ?_
      show X (EE s) d 244 11 [(0, zr 4 44), (1, zi a1)] [zi 0] m501 _
      refine X.ifne 16 14 (zi244 11) rfl rfl rfl (fun h507 => (by exfalso; omega)) (fun h507 => ?_)
      refine X.cut [] (zi244 14) rfl ?_
      refine X.iconst 15 (zi244 14) rfl rfl (by decide) ?_
      refine X.reti (zi244 15) rfl t244 ?_
      exact hQ (-1) m501 (by first | trivial | omega) (Eq.trans (zb_eq hFv503) (Eq.trans (if_pos h504) (Eq.trans (if_pos h506c) rfl))) (hJ502.up (by omega)) 
    · have h506c : ¬ a1 < 0 := by omega
      clear h506 hz505
      refine X.lload_n 7 (zi204 6) rfl rfl rfl ?_
      refine X.lload 9 (zi204 7) rfl rfl rfl ?_
      refine X.lcmp 10 (zi204 9) rfl rfl (fun z508 hz508 => ?_)
      refine X.ifgt 17 13 (zi204 10) rfl rfl rfl (fun h509 => ?_) (fun h509 => ?_)
      · have h509c : ¬ a1 ≤ 7 := by omega
        clear h509 hz508
        refine X.cut [] (zi204 17) rfl ?_
        refine X.iconst 18 (zi204 17) rfl rfl (by decide) ?_
        refine X.retz (zi204 18) rfl t204 (by omega) ?_
        show X (EE s) (d - 1) 241 9 [(0, zi a1)] [zi 0] m501 _
        refine X.retz (zi241 9) rfl t241 (by omega) ?_
        show X (EE s) d 244 11 [(0, zr 4 44), (1, zi a1)] [zi 0] m501 _
        refine X.ifne 16 14 (zi244 11) rfl rfl rfl (fun h510 => (by exfalso; omega)) (fun h510 => ?_)
        refine X.cut [] (zi244 14) rfl ?_
        refine X.iconst 15 (zi244 14) rfl rfl (by decide) ?_
        refine X.reti (zi244 15) rfl t244 ?_
        exact hQ (-1) m501 (by first | trivial | omega) (Eq.trans (zb_eq hFv503) (Eq.trans (if_pos h504) (Eq.trans (if_neg h506c) (Eq.trans (if_neg h509c) rfl)))) (hJ502.up (by omega)) 
      · have h509c : a1 ≤ 7 := by omega
        clear h509 hz508
        refine X.iconst 14 (zi204 13) rfl rfl (by decide) ?_
        refine X.goto 18 (zi204 14) rfl rfl ?_
        refine X.cut [] (zi204 18) rfl ?_
        refine X.retz (zi204 18) rfl t204 (by omega) ?_
        show X (EE s) (d - 1) 241 9 [(0, zi a1)] [zi 1] m501 _
        refine X.retz (zi241 9) rfl t241 (by omega) ?_
        show X (EE s) d 244 11 [(0, zr 4 44), (1, zi a1)] [zi 1] m501 _
        refine X.ifne 16 14 (zi244 11) rfl rfl rfl (fun h511 => ?_) (fun h511 => (by exfalso; omega))
        refine X.aload_n 17 (zi244 16) rfl rfl rfl ?_
        refine X.getF 20 (zi244 17) rfl rfl (by decide) rfl rfl ?_
        refine X.sipush 23 (zi244 20) rfl rfl (by decide) ?_
        refine X.iload_n 24 (zi244 23) rfl rfl rfl ?_
        refine X.iadd 25 (zi244 24) rfl rfl (by omega) ?_
        refine X.lald 26 (zi244 25) rfl rfl (by decide) rfl (by omega) ?_
        have h512 := r45_287 hJ502 4 (i := (287 + a1)) (by omega)
        refine X.l2i 27 (zi244 26) rfl rfl (by omega) ?_
        refine X.istore_n 28 [(0, zr 4 44), (1, zi a1), (2, zi (m501 4 45 (287 + a1)))] (zi244 27) rfl rfl rfl ?_
        refine X.aload_n 29 (zi244 28) rfl rfl rfl ?_
        refine X.getF 32 (zi244 29) rfl rfl (by decide) rfl rfl ?_
        refine X.sipush 35 (zi244 32) rfl rfl (by decide) ?_
        refine X.iload_n 36 (zi244 35) rfl rfl rfl ?_
        refine X.iadd 37 (zi244 36) rfl rfl (by omega) ?_
        refine X.lconst (y := 0) 38 (zi244 37) rfl rfl rfl ?_
        refine X.last' 39 (zi244 38) rfl rfl (by decide) rfl (by omega) (fun hrm513 m513 hm513 => ?_)
        have hJ514 := w45_287 hJ502 hm513 (by omega) (by omega) hf21 hg4
        refine X.iload_n 40 (zi244 39) rfl rfl rfl ?_
        refine X.reti (zi244 40) rfl t244 ?_
        exact hQ (m501 4 45 (287 + a1)) m513 (by first | trivial | omega) (Eq.trans (zb_eq hFv503) (Eq.trans (if_pos h504) (Eq.trans (if_neg h506c) (Eq.trans (if_pos h509c) (Eq.trans (zs_eq hm513) rfl))))) (hJ514.up (by omega)) 
-- WorkMeter$CalendarText.putBytes
noncomputable def f87_1 (a1 : Int) (m : zM) : zM :=
  if 300 ≤ (m 4 41 3) then
  (m)
  else
  (zn (zushr a1 24) fun z504 =>
  zn (zand z504 255) fun z505 =>
  zs (z_upd m 4 42 (m 4 41 3) z505) fun m506 =>
  zs (z_upd m506 4 41 3 ((m506 4 41 3) + 1)) fun m509 =>
  if 300 ≤ (m509 4 41 3) then
  (m509)
  else
  (zn (zushr a1 (24 + (-8))) fun z513 =>
  zn (zand z513 255) fun z514 =>
  zs (z_upd m509 4 42 (m509 4 41 3) z514) fun m515 =>
  zs (z_upd m515 4 41 3 ((m515 4 41 3) + 1)) fun m518 =>
  if 300 ≤ (m518 4 41 3) then
  (m518)
  else
  (zn (zushr a1 ((24 + (-8)) + (-8))) fun z522 =>
  zn (zand z522 255) fun z523 =>
  zs (z_upd m518 4 42 (m518 4 41 3) z523) fun m524 =>
  zs (z_upd m524 4 41 3 ((m524 4 41 3) + 1)) fun m527 =>
  if 300 ≤ (m527 4 41 3) then
  (m527)
  else
  (zn (zushr a1 (((24 + (-8)) + (-8)) + (-8))) fun z531 =>
  zn (zand z531 255) fun z532 =>
  zs (z_upd m527 4 42 (m527 4 41 3) z532) fun m533 =>
  zs (z_upd m533 4 41 3 ((m533 4 41 3) + 1)) fun m536 =>
  m536))))
-- WorkMeter$CalendarText.putBytes
theorem c87_1 {s : Nat × (Nat → Int32)} {S : zS} {m0 m : zM} {B : Int} {d : Nat} {Q : Option zV → zM → Prop} (a1 : Int) (hd : 13 ≤ d) (hJ : J S m0 B m) (hB : B + 0 ≤ 1000000000) (ha1 : (-2147483648) ≤ a1 ∧ a1 ≤ 2147483647) (hp0 : m 4 41 3 ≤ 296) (hf15 : ¬ S.1 15) (hg4 : ¬ S.2.1 4) (hQ : ∀ m', f87_1 a1 m = m' → J S m0 (B) m' → (m' 4 41 3 = m 4 41 3 + 4) → Q none m') : X (EE s) d 87 0 [(0, zr 4 41), (1, zi a1)] [] m Q := by
  refine X.bipush 2 (zi87 0) rfl rfl (by decide) ?_
  refine X.istore_n 3 [(0, zr 4 41), (1, zi a1), (2, zi 24)] (zi87 2) rfl rfl rfl ?_
  refine X.iload_n 4 (zi87 3) rfl rfl rfl ?_
  refine X.iflt 49 7 (zi87 4) rfl rfl rfl (fun h501 => (by exfalso; omega)) (fun h501 => ?_)
  refine X.aload_n 8 (zi87 7) rfl rfl rfl ?_
  refine X.getI 11 3 (zi87 8) rfl rfl (by decide) rfl rfl rfl ?_
  have h502 := r41_3 hJ 4
  refine X.sipush 14 (zi87 11) rfl rfl (by decide) ?_
  refine X.icmpge 49 17 (zi87 14) rfl rfl rfl (fun h503 => ?_) (fun h503 => ?_)
  · refine X.cut [] (zi87 49) rfl ?_
    refine X.retv (zi87 49) rfl t87 ?_
    exact hQ  m  (Eq.trans (if_pos h503) rfl) (hJ.up (by omega)) (by omega)
  · refine X.aload_n 18 (zi87 17) rfl rfl rfl ?_
    refine X.getF 21 (zi87 18) rfl rfl (by decide) rfl rfl ?_
    refine X.aload_n 22 (zi87 21) rfl rfl rfl ?_
    refine X.getI 25 3 (zi87 22) rfl rfl (by decide) rfl rfl rfl ?_
    refine X.iload_n 26 (zi87 25) rfl rfl rfl ?_
    refine X.iload_n 27 (zi87 26) rfl rfl rfl ?_
    refine X.iiE 28 .iushr (fun x y => (x.toUInt32 >>> (y.toUInt32 &&& Int32.toUInt32 31)).toInt32) (zi87 27) rfl rfl rfl (fun _ _ => rfl) (fun z504 ez504 hz504 => ?_)
    refine X.sipush 31 (zi87 28) rfl rfl (by decide) ?_
    refine X.andE 32 255 (zi87 31) rfl rfl (by decide) (.inl rfl) (fun z505 ez505 hz505 => ?_)
    refine X.iast' 33 (zi87 32) rfl rfl (by decide) rfl (by omega) (fun hrm506 m506 hm506 => ?_)
    have hJ507 := w42_0 hJ hm506 (by omega) (by omega) hf15 hg4
    have wtm506_0 : m506 4 41 3 = m 4 41 3 := by rw [hm506]; exact z_upd_o _ _ rfl
    refine X.aload_n 34 (zi87 33) rfl rfl rfl ?_
    refine X.dup 35 (zi87 34) rfl rfl rfl ?_
    refine X.getI 38 3 (zi87 35) rfl rfl (by decide) rfl rfl rfl ?_
    have h508 := r41_3 hJ507 4
    refine X.iconst 39 (zi87 38) rfl rfl (by decide) ?_
    refine X.iadd 40 (zi87 39) rfl rfl (by omega) ?_
    refine X.putI' 43 3 (zi87 40) rfl rfl (by decide) rfl rfl rfl (fun hrm509 m509 hm509 => ?_)
    have hJ510 := w41_3 hJ507 hm509 (by omega) hf15 hg4
    have em509 : m509 4 41 3 = ((m506 4 41 3) + 1) := by rw [hm509]; exact z_upd_same _ _ _ _ _
    refine X.iinc 46 [(0, zr 4 41), (1, zi a1), (2, zi (24 + (-8)))] (zi87 43) rfl rfl rfl (by omega) rfl ?_
    refine X.goto 3 (zi87 46) rfl rfl ?_
    refine X.iload_n 4 (zi87 3) rfl rfl rfl ?_
    refine X.iflt 49 7 (zi87 4) rfl rfl rfl (fun h511 => (by exfalso; omega)) (fun h511 => ?_)
    refine X.aload_n 8 (zi87 7) rfl rfl rfl ?_
    refine X.getI 11 3 (zi87 8) rfl rfl (by decide) rfl rfl rfl ?_
    refine X.sipush 14 (zi87 11) rfl rfl (by decide) ?_
    refine X.icmpge 49 17 (zi87 14) rfl rfl rfl (fun h512 => ?_) (fun h512 => ?_)
    · refine X.cut [] (zi87 49) rfl ?_
      refine X.retv (zi87 49) rfl t87 ?_
      exact hQ  m509  (Eq.trans (if_neg h503) (Eq.trans (zn_eq ez504) (Eq.trans (zn_eq ez505) (Eq.trans (zs_eq hm506) (Eq.trans (zs_eq hm509) (Eq.trans (if_pos h512) rfl)))))) (hJ510.up (by omega)) (by omega)
    · refine X.aload_n 18 (zi87 17) rfl rfl rfl ?_
      refine X.getF 21 (zi87 18) rfl rfl (by decide) rfl rfl ?_
      refine X.aload_n 22 (zi87 21) rfl rfl rfl ?_
      refine X.getI 25 3 (zi87 22) rfl rfl (by decide) rfl rfl rfl ?_
      refine X.iload_n 26 (zi87 25) rfl rfl rfl ?_
      refine X.iload_n 27 (zi87 26) rfl rfl rfl ?_
      refine X.iiE 28 .iushr (fun x y => (x.toUInt32 >>> (y.toUInt32 &&& Int32.toUInt32 31)).toInt32) (zi87 27) rfl rfl rfl (fun _ _ => rfl) (fun z513 ez513 hz513 => ?_)
      refine X.sipush 31 (zi87 28) rfl rfl (by decide) ?_
      refine X.andE 32 255 (zi87 31) rfl rfl (by decide) (.inl rfl) (fun z514 ez514 hz514 => ?_)
      refine X.iast' 33 (zi87 32) rfl rfl (by decide) rfl (by omega) (fun hrm515 m515 hm515 => ?_)
      have hJ516 := w42_0 hJ510 hm515 (by omega) (by omega) hf15 hg4
      have wtm515_0 : m515 4 41 3 = m509 4 41 3 := by rw [hm515]; exact z_upd_o _ _ rfl
      refine X.aload_n 34 (zi87 33) rfl rfl rfl ?_
      refine X.dup 35 (zi87 34) rfl rfl rfl ?_
      refine X.getI 38 3 (zi87 35) rfl rfl (by decide) rfl rfl rfl ?_
      have h517 := r41_3 hJ516 4
      refine X.iconst 39 (zi87 38) rfl rfl (by decide) ?_
      refine X.iadd 40 (zi87 39) rfl rfl (by omega) ?_
      refine X.putI' 43 3 (zi87 40) rfl rfl (by decide) rfl rfl rfl (fun hrm518 m518 hm518 => ?_)
      have hJ519 := w41_3 hJ516 hm518 (by omega) hf15 hg4
      have em518 : m518 4 41 3 = ((m515 4 41 3) + 1) := by rw [hm518]; exact z_upd_same _ _ _ _ _
      refine X.iinc 46 [(0, zr 4 41), (1, zi a1), (2, zi ((24 + (-8)) + (-8)))] (zi87 43) rfl rfl rfl (by omega) rfl ?_
      refine X.goto 3 (zi87 46) rfl rfl ?_
      refine X.iload_n 4 (zi87 3) rfl rfl rfl ?_
      refine X.iflt 49 7 (zi87 4) rfl rfl rfl (fun h520 => (by exfalso; omega)) (fun h520 => ?_)
      refine X.aload_n 8 (zi87 7) rfl rfl rfl ?_
      refine X.getI 11 3 (zi87 8) rfl rfl (by decide) rfl rfl rfl ?_
      refine X.sipush 14 (zi87 11) rfl rfl (by decide) ?_
      refine X.icmpge 49 17 (zi87 14) rfl rfl rfl (fun h521 => ?_) (fun h521 => ?_)
      · refine X.cut [] (zi87 49) rfl ?_
        refine X.retv (zi87 49) rfl t87 ?_
        exact hQ  m518  (Eq.trans (if_neg h503) (Eq.trans (zn_eq ez504) (Eq.trans (zn_eq ez505) (Eq.trans (zs_eq hm506) (Eq.trans (zs_eq hm509) (Eq.trans (if_neg h512) (Eq.trans (zn_eq ez513) (Eq.trans (zn_eq ez514) (Eq.trans (zs_eq hm515) (Eq.trans (zs_eq hm518) (Eq.trans (if_pos h521) rfl))))))))))) (hJ519.up (by omega)) (by omega)
      · refine X.aload_n 18 (zi87 17) rfl rfl rfl ?_
        refine X.getF 21 (zi87 18) rfl rfl (by decide) rfl rfl ?_
        refine X.aload_n 22 (zi87 21) rfl rfl rfl ?_
        refine X.getI 25 3 (zi87 22) rfl rfl (by decide) rfl rfl rfl ?_
        refine X.iload_n 26 (zi87 25) rfl rfl rfl ?_
        refine X.iload_n 27 (zi87 26) rfl rfl rfl ?_
        refine X.iiE 28 .iushr (fun x y => (x.toUInt32 >>> (y.toUInt32 &&& Int32.toUInt32 31)).toInt32) (zi87 27) rfl rfl rfl (fun _ _ => rfl) (fun z522 ez522 hz522 => ?_)
        refine X.sipush 31 (zi87 28) rfl rfl (by decide) ?_
        refine X.andE 32 255 (zi87 31) rfl rfl (by decide) (.inl rfl) (fun z523 ez523 hz523 => ?_)
        refine X.iast' 33 (zi87 32) rfl rfl (by decide) rfl (by omega) (fun hrm524 m524 hm524 => ?_)
        have hJ525 := w42_0 hJ519 hm524 (by omega) (by omega) hf15 hg4
        have wtm524_0 : m524 4 41 3 = m518 4 41 3 := by rw [hm524]; exact z_upd_o _ _ rfl
        refine X.aload_n 34 (zi87 33) rfl rfl rfl ?_
        refine X.dup 35 (zi87 34) rfl rfl rfl ?_
        refine X.getI 38 3 (zi87 35) rfl rfl (by decide) rfl rfl rfl ?_
        have h526 := r41_3 hJ525 4
        refine X.iconst 39 (zi87 38) rfl rfl (by decide) ?_
        refine X.iadd 40 (zi87 39) rfl rfl (by omega) ?_
        refine X.putI' 43 3 (zi87 40) rfl rfl (by decide) rfl rfl rfl (fun hrm527 m527 hm527 => ?_)
        have hJ528 := w41_3 hJ525 hm527 (by omega) hf15 hg4
        have em527 : m527 4 41 3 = ((m524 4 41 3) + 1) := by rw [hm527]; exact z_upd_same _ _ _ _ _
        refine X.iinc 46 [(0, zr 4 41), (1, zi a1), (2, zi (((24 + (-8)) + (-8)) + (-8)))] (zi87 43) rfl rfl rfl (by omega) rfl ?_
        refine X.goto 3 (zi87 46) rfl rfl ?_
        refine X.iload_n 4 (zi87 3) rfl rfl rfl ?_
        refine X.iflt 49 7 (zi87 4) rfl rfl rfl (fun h529 => (by exfalso; omega)) (fun h529 => ?_)
        refine X.aload_n 8 (zi87 7) rfl rfl rfl ?_
        refine X.getI 11 3 (zi87 8) rfl rfl (by decide) rfl rfl rfl ?_
        refine X.sipush 14 (zi87 11) rfl rfl (by decide) ?_
        refine X.icmpge 49 17 (zi87 14) rfl rfl rfl (fun h530 => ?_) (fun h530 => ?_)
        · refine X.cut [] (zi87 49) rfl ?_
          refine X.retv (zi87 49) rfl t87 ?_
          exact hQ  m527  (Eq.trans (if_neg h503) (Eq.trans (zn_eq ez504) (Eq.trans (zn_eq ez505) (Eq.trans (zs_eq hm506) (Eq.trans (zs_eq hm509) (Eq.trans (if_neg h512) (Eq.trans (zn_eq ez513) (Eq.trans (zn_eq ez514) (Eq.trans (zs_eq hm515) (Eq.trans (zs_eq hm518) (Eq.trans (if_neg h521) (Eq.trans (zn_eq ez522) (Eq.trans (zn_eq ez523) (Eq.trans (zs_eq hm524) (Eq.trans (zs_eq hm527) (Eq.trans (if_pos h530) rfl)))))))))))))))) (hJ528.up (by omega)) (by omega)
        · refine X.aload_n 18 (zi87 17) rfl rfl rfl ?_
          refine X.getF 21 (zi87 18) rfl rfl (by decide) rfl rfl ?_
          refine X.aload_n 22 (zi87 21) rfl rfl rfl ?_
          refine X.getI 25 3 (zi87 22) rfl rfl (by decide) rfl rfl rfl ?_
          refine X.iload_n 26 (zi87 25) rfl rfl rfl ?_
          refine X.iload_n 27 (zi87 26) rfl rfl rfl ?_
          refine X.iiE 28 .iushr (fun x y => (x.toUInt32 >>> (y.toUInt32 &&& Int32.toUInt32 31)).toInt32) (zi87 27) rfl rfl rfl (fun _ _ => rfl) (fun z531 ez531 hz531 => ?_)
          refine X.sipush 31 (zi87 28) rfl rfl (by decide) ?_
          refine X.andE 32 255 (zi87 31) rfl rfl (by decide) (.inl rfl) (fun z532 ez532 hz532 => ?_)
          refine X.iast' 33 (zi87 32) rfl rfl (by decide) rfl (by omega) (fun hrm533 m533 hm533 => ?_)
          have hJ534 := w42_0 hJ528 hm533 (by omega) (by omega) hf15 hg4
          have wtm533_0 : m533 4 41 3 = m527 4 41 3 := by rw [hm533]; exact z_upd_o _ _ rfl
          refine X.aload_n 34 (zi87 33) rfl rfl rfl ?_
          refine X.dup 35 (zi87 34) rfl rfl rfl ?_
          refine X.getI 38 3 (zi87 35) rfl rfl (by decide) rfl rfl rfl ?_
          have h535 := r41_3 hJ534 4
          refine X.iconst 39 (zi87 38) rfl rfl (by decide) ?_
          refine X.iadd 40 (zi87 39) rfl rfl (by omega) ?_
          refine X.putI' 43 3 (zi87 40) rfl rfl (by decide) rfl rfl rfl (fun hrm536 m536 hm536 => ?_)
          have hJ537 := w41_3 hJ534 hm536 (by omega) hf15 hg4
          have em536 : m536 4 41 3 = ((m533 4 41 3) + 1) := by rw [hm536]; exact z_upd_same _ _ _ _ _
          refine X.iinc 46 [(0, zr 4 41), (1, zi a1), (2, zi ((((24 + (-8)) + (-8)) + (-8)) + (-8)))] (zi87 43) rfl rfl rfl (by omega) rfl ?_
          refine X.goto 3 (zi87 46) rfl rfl ?_
          refine X.iload_n 4 (zi87 3) rfl rfl rfl ?_
          refine X.iflt 49 7 (zi87 4) rfl rfl rfl (fun h538 => ?_) (fun h538 => (by exfalso; omega))
          refine X.cut [] (zi87 49) rfl ?_
          refine X.retv (zi87 49) rfl t87 ?_
          exact hQ  m536  (Eq.trans (if_neg h503) (Eq.trans (zn_eq ez504) (Eq.trans (zn_eq ez505) (Eq.trans (zs_eq hm506) (Eq.trans (zs_eq hm509) (Eq.trans (if_neg h512) (Eq.trans (zn_eq ez513) (Eq.trans (zn_eq ez514) (Eq.trans (zs_eq hm515) (Eq.trans (zs_eq hm518) (Eq.trans (if_neg h521) (Eq.trans (zn_eq ez522) (Eq.trans (zn_eq ez523) (Eq.trans (zs_eq hm524) (Eq.trans (zs_eq hm527) (Eq.trans (if_neg h530) (Eq.trans (zn_eq ez531) (Eq.trans (zn_eq ez532) (Eq.trans (zs_eq hm533) (Eq.trans (zs_eq hm536) rfl)))))))))))))))))))) (hJ537.up (by omega)) (by omega)
-- WorkMeter.feed
noncomputable def f85_1 (a1 a2 a3 a4 a5 : Int) (m : zM) : Int × zM :=
  if 300 < ((m 4 41 3) + 20) then
  (((-1), m))
  else
  (zs (f87_1 a1 m) fun m505 =>
  zs (f87_1 a2 m505) fun m508 =>
  zs (f87_1 a3 m508) fun m511 =>
  zs (f87_1 a4 m511) fun m514 =>
  zs (f87_1 a5 m514) fun m517 =>
  ((m517 4 41 3), m517))
-- WorkMeter.feed
theorem c85_1 {s : Nat × (Nat → Int32)} {S : zS} {m0 m : zM} {B : Int} {d : Nat} {Q : Option zV → zM → Prop} (a1 a2 a3 a4 a5 : Int) (hd : 14 ≤ d) (hJ : J S m0 B m) (hB : B + 0 ≤ 1000000000) (ha1 : (-2147483648) ≤ a1 ∧ a1 ≤ 2147483647) (ha2 : (-2147483648) ≤ a2 ∧ a2 ≤ 2147483647) (ha3 : (-2147483648) ≤ a3 ∧ a3 ≤ 2147483647) (ha4 : (-2147483648) ≤ a4 ∧ a4 ≤ 2147483647) (ha5 : (-2147483648) ≤ a5 ∧ a5 ≤ 2147483647) (hf15 : ¬ S.1 15) (hg4 : ¬ S.2.1 4) (hQ : ∀ (v : Int) m', ((-1) ≤ v ∧ v ≤ 300) → f85_1 a1 a2 a3 a4 a5 m = (v, m') → J S m0 (B) m' → Q (some (zi v)) m') : X (EE s) d 85 0 [(0, zr 4 40), (1, zi a1), (2, zi a2), (3, zi a3), (4, zi a4), (5, zi a5)] [] m Q := by
  refine X.aload_n 1 (zi85 0) rfl rfl rfl ?_
  refine X.getF 4 (zi85 1) rfl rfl (by decide) rfl rfl ?_
  refine X.callv 7 [] [] [(0, zr 4 41)] (zi85 4) rfl (by decide) rfl rfl (by omega) rfl rfl (by decide) rfl t86 (Nat.le_of_ble_eq_true rfl) (Nat.le_of_ble_eq_true rfl) rfl ?_
  refine X.aload_n 1 (zi86 0) rfl rfl rfl ?_
  refine X.getI 4 3 (zi86 1) rfl rfl (by decide) rfl rfl rfl ?_
  have h501 := r41_3 hJ 4
  refine X.bipush 6 (zi86 4) rfl rfl (by decide) ?_
  refine X.iadd 7 (zi86 6) rfl rfl (by omega) ?_
  refine X.sipush 10 (zi86 7) rfl rfl (by decide) ?_
  refine X.icmpgt 17 13 (zi86 10) rfl rfl rfl (fun h502 => ?_) (fun h502 => ?_)
  · refine X.cut [] (zi86 17) rfl ?_
    refine X.iconst 18 (zi86 17) rfl rfl (by decide) ?_
    refine X.retz (zi86 18) rfl t86 (by omega) ?_
    show X (EE s) d 85 7 [(0, zr 4 40), (1, zi a1), (2, zi a2), (3, zi a3), (4, zi a4), (5, zi a5)] [zi 0] m _
    refine X.ifne 12 10 (zi85 7) rfl rfl rfl (fun h503 => (by exfalso; omega)) (fun h503 => ?_)
    refine X.iconst 11 (zi85 10) rfl rfl (by decide) ?_
    refine X.reti (zi85 11) rfl t85 ?_
    exact hQ (-1) m (by first | trivial | omega) (Eq.trans (if_pos h502) rfl) (hJ.up (by omega)) 
  · refine X.iconst 14 (zi86 13) rfl rfl (by decide) ?_
    refine X.goto 18 (zi86 14) rfl rfl ?_
    refine X.cut [] (zi86 18) rfl ?_
    refine X.retz (zi86 18) rfl t86 (by omega) ?_
    show X (EE s) d 85 7 [(0, zr 4 40), (1, zi a1), (2, zi a2), (3, zi a3), (4, zi a4), (5, zi a5)] [zi 1] m _
    refine X.ifne 12 10 (zi85 7) rfl rfl rfl (fun h504 => ?_) (fun h504 => (by exfalso; omega))
    refine X.aload_n 13 (zi85 12) rfl rfl rfl ?_
    refine X.getF 16 (zi85 13) rfl rfl (by decide) rfl rfl ?_
    refine X.iload_n 17 (zi85 16) rfl rfl rfl ?_
    refine X.callv 20 [zi a1] [] [(0, zr 4 41), (1, zi a1)] (zi85 17) rfl (by decide) rfl rfl (by omega) rfl rfl (by decide) rfl t87 (Nat.le_of_ble_eq_true rfl) (Nat.le_of_ble_eq_true rfl) rfl ?_
    refine c87_1 (B := B)  a1 (by omega) (hJ.up (by omega)) (by omega) (by omega) (by omega) hf15 hg4 (fun m505 hFv507 hJ506 hqv507_0 => ?_)
    show X (EE s) d 85 20 [(0, zr 4 40), (1, zi a1), (2, zi a2), (3, zi a3), (4, zi a4), (5, zi a5)] [] m505 _
    refine X.aload_n 21 (zi85 20) rfl rfl rfl ?_
    refine X.getF 24 (zi85 21) rfl rfl (by decide) rfl rfl ?_
    refine X.iload_n 25 (zi85 24) rfl rfl rfl ?_
    refine X.callv 28 [zi a2] [] [(0, zr 4 41), (1, zi a2)] (zi85 25) rfl (by decide) rfl rfl (by omega) rfl rfl (by decide) rfl t87 (Nat.le_of_ble_eq_true rfl) (Nat.le_of_ble_eq_true rfl) rfl ?_
    refine c87_1 (B := B)  a2 (by omega) (hJ506.up (by omega)) (by omega) (by omega) (by omega) hf15 hg4 (fun m508 hFv510 hJ509 hqv510_0 => ?_)
    show X (EE s) d 85 28 [(0, zr 4 40), (1, zi a1), (2, zi a2), (3, zi a3), (4, zi a4), (5, zi a5)] [] m508 _
    refine X.aload_n 29 (zi85 28) rfl rfl rfl ?_
    refine X.getF 32 (zi85 29) rfl rfl (by decide) rfl rfl ?_
    refine X.iload_n 33 (zi85 32) rfl rfl rfl ?_
    refine X.callv 36 [zi a3] [] [(0, zr 4 41), (1, zi a3)] (zi85 33) rfl (by decide) rfl rfl (by omega) rfl rfl (by decide) rfl t87 (Nat.le_of_ble_eq_true rfl) (Nat.le_of_ble_eq_true rfl) rfl ?_
    refine c87_1 (B := B)  a3 (by omega) (hJ509.up (by omega)) (by omega) (by omega) (by omega) hf15 hg4 (fun m511 hFv513 hJ512 hqv513_0 => ?_)
    show X (EE s) d 85 36 [(0, zr 4 40), (1, zi a1), (2, zi a2), (3, zi a3), (4, zi a4), (5, zi a5)] [] m511 _
    refine X.aload_n 37 (zi85 36) rfl rfl rfl ?_
    refine X.getF 40 (zi85 37) rfl rfl (by decide) rfl rfl ?_
    refine X.iload 42 (zi85 40) rfl rfl rfl ?_
    refine X.callv 45 [zi a4] [] [(0, zr 4 41), (1, zi a4)] (zi85 42) rfl (by decide) rfl rfl (by omega) rfl rfl (by decide) rfl t87 (Nat.le_of_ble_eq_true rfl) (Nat.le_of_ble_eq_true rfl) rfl ?_
    refine c87_1 (B := B)  a4 (by omega) (hJ512.up (by omega)) (by omega) (by omega) (by omega) hf15 hg4 (fun m514 hFv516 hJ515 hqv516_0 => ?_)
    show X (EE s) d 85 45 [(0, zr 4 40), (1, zi a1), (2, zi a2), (3, zi a3), (4, zi a4), (5, zi a5)] [] m514 _
    refine X.aload_n 46 (zi85 45) rfl rfl rfl ?_
    refine X.getF 49 (zi85 46) rfl rfl (by decide) rfl rfl ?_
    refine X.iload 51 (zi85 49) rfl rfl rfl ?_
    refine X.callv 54 [zi a5] [] [(0, zr 4 41), (1, zi a5)] (zi85 51) rfl (by decide) rfl rfl (by omega) rfl rfl (by decide) rfl t87 (Nat.le_of_ble_eq_true rfl) (Nat.le_of_ble_eq_true rfl) rfl ?_
    refine c87_1 (B := B)  a5 (by omega) (hJ515.up (by omega)) (by omega) (by omega) (by omega) hf15 hg4 (fun m517 hFv519 hJ518 hqv519_0 => ?_)
    show X (EE s) d 85 54 [(0, zr 4 40), (1, zi a1), (2, zi a2), (3, zi a3), (4, zi a4), (5, zi a5)] [] m517 _
    refine X.aload_n 55 (zi85 54) rfl rfl rfl ?_
    refine X.getF 58 (zi85 55) rfl rfl (by decide) rfl rfl ?_
    refine X.getI 61 3 (zi85 58) rfl rfl (by decide) rfl rfl rfl ?_
    have h520 := r41_3 hJ518 4
    refine X.reti (zi85 61) rfl t85 ?_
    exact hQ (m517 4 41 3) m517 (by first | trivial | omega) (Eq.trans (if_neg h502) (Eq.trans (zs_eq hFv507.symm) (Eq.trans (zs_eq hFv510.symm) (Eq.trans (zs_eq hFv513.symm) (Eq.trans (zs_eq hFv516.symm) (Eq.trans (zs_eq hFv519.symm) rfl)))))) (hJ518.up (by omega)) 
-- WorkMeterModel.comes
noncomputable def f257_1 (a1 : Int) (m : zM) : zM :=
  zn (zushr a1 24) fun z503 =>
  zn (w8 z503) fun z504 =>
  zs (z_upd m 4 48 (m 4 44 5) z504) fun m505 =>
  zs (z_upd m505 4 44 5 ((m505 4 44 5) + 1)) fun m508 =>
  zn (zushr a1 (24 + (-8))) fun z511 =>
  zn (w8 z511) fun z512 =>
  zs (z_upd m508 4 48 (m508 4 44 5) z512) fun m513 =>
  zs (z_upd m513 4 44 5 ((m513 4 44 5) + 1)) fun m516 =>
  zn (zushr a1 ((24 + (-8)) + (-8))) fun z519 =>
  zn (w8 z519) fun z520 =>
  zs (z_upd m516 4 48 (m516 4 44 5) z520) fun m521 =>
  zs (z_upd m521 4 44 5 ((m521 4 44 5) + 1)) fun m524 =>
  zn (zushr a1 (((24 + (-8)) + (-8)) + (-8))) fun z527 =>
  zn (w8 z527) fun z528 =>
  zs (z_upd m524 4 48 (m524 4 44 5) z528) fun m529 =>
  zs (z_upd m529 4 44 5 ((m529 4 44 5) + 1)) fun m532 =>
  m532
-- WorkMeterModel.comes
theorem c257_1 {s : Nat × (Nat → Int32)} {S : zS} {m0 m : zM} {B : Int} {d : Nat} {Q : Option zV → zM → Prop} (a1 : Int) (hd : 13 ≤ d) (hJ : J S m0 B m) (hB : B + 0 ≤ 1000000000) (ha1 : (-2147483648) ≤ a1 ∧ a1 ≤ 2147483647) (hp0 : m 4 44 5 ≤ 296) (hf35 : ¬ S.1 35) (hg4 : ¬ S.2.1 4) (hQ : ∀ m', f257_1 a1 m = m' → J S m0 (B) m' → (m' 4 44 5 = m 4 44 5 + 4) → Q none m') : X (EE s) d 257 0 [(0, zr 4 44), (1, zi a1)] [] m Q := by
  refine X.bipush 2 (zi257 0) rfl rfl (by decide) ?_
  refine X.istore_n 3 [(0, zr 4 44), (1, zi a1), (2, zi 24)] (zi257 2) rfl rfl rfl ?_
  refine X.iload_n 4 (zi257 3) rfl rfl rfl ?_
  refine X.iflt 36 7 (zi257 4) rfl rfl rfl (fun h501 => (by exfalso; omega)) (fun h501 => ?_)
  refine X.aload_n 8 (zi257 7) rfl rfl rfl ?_
  refine X.getF 11 (zi257 8) rfl rfl (by decide) rfl rfl ?_
  refine X.aload_n 12 (zi257 11) rfl rfl rfl ?_
  refine X.getI 15 5 (zi257 12) rfl rfl (by decide) rfl rfl rfl ?_
  have h502 := r44_5 hJ 4
  refine X.iload_n 16 (zi257 15) rfl rfl rfl ?_
  refine X.iload_n 17 (zi257 16) rfl rfl rfl ?_
  refine X.iiE 18 .iushr (fun x y => (x.toUInt32 >>> (y.toUInt32 &&& Int32.toUInt32 31)).toInt32) (zi257 17) rfl rfl rfl (fun _ _ => rfl) (fun z503 ez503 hz503 => ?_)
  refine X.i2bE 19 (zi257 18) rfl rfl (fun z504 ez504 hz504 => ?_)
  refine X.bast' 20 (zi257 19) rfl rfl (by decide) rfl (by omega) (by omega) (fun hrm505 m505 hm505 => ?_)
  have hJ506 := w48_0 hJ hm505 (by omega) hrm505 hf35 hg4
  have wtm505_0 : m505 4 44 5 = m 4 44 5 := by rw [hm505]; exact z_upd_o _ _ rfl
  refine X.aload_n 21 (zi257 20) rfl rfl rfl ?_
  refine X.dup 22 (zi257 21) rfl rfl rfl ?_
  refine X.getI 25 5 (zi257 22) rfl rfl (by decide) rfl rfl rfl ?_
  have h507 := r44_5 hJ506 4
  refine X.iconst 26 (zi257 25) rfl rfl (by decide) ?_
  refine X.iadd 27 (zi257 26) rfl rfl (by omega) ?_
  refine X.putI' 30 5 (zi257 27) rfl rfl (by decide) rfl rfl rfl (fun hrm508 m508 hm508 => ?_)
  have hJ509 := w44_5 hJ506 hm508 (by omega) hf35 hg4
  have em508 : m508 4 44 5 = ((m505 4 44 5) + 1) := by rw [hm508]; exact z_upd_same _ _ _ _ _
  refine X.iinc 33 [(0, zr 4 44), (1, zi a1), (2, zi (24 + (-8)))] (zi257 30) rfl rfl rfl (by omega) rfl ?_
  refine X.goto 3 (zi257 33) rfl rfl ?_
  refine X.iload_n 4 (zi257 3) rfl rfl rfl ?_
  refine X.iflt 36 7 (zi257 4) rfl rfl rfl (fun h510 => (by exfalso; omega)) (fun h510 => ?_)
  refine X.aload_n 8 (zi257 7) rfl rfl rfl ?_
  refine X.getF 11 (zi257 8) rfl rfl (by decide) rfl rfl ?_
  refine X.aload_n 12 (zi257 11) rfl rfl rfl ?_
  refine X.getI 15 5 (zi257 12) rfl rfl (by decide) rfl rfl rfl ?_
  refine X.iload_n 16 (zi257 15) rfl rfl rfl ?_
  refine X.iload_n 17 (zi257 16) rfl rfl rfl ?_
  refine X.iiE 18 .iushr (fun x y => (x.toUInt32 >>> (y.toUInt32 &&& Int32.toUInt32 31)).toInt32) (zi257 17) rfl rfl rfl (fun _ _ => rfl) (fun z511 ez511 hz511 => ?_)
  refine X.i2bE 19 (zi257 18) rfl rfl (fun z512 ez512 hz512 => ?_)
  refine X.bast' 20 (zi257 19) rfl rfl (by decide) rfl (by omega) (by omega) (fun hrm513 m513 hm513 => ?_)
  have hJ514 := w48_0 hJ509 hm513 (by omega) hrm513 hf35 hg4
  have wtm513_0 : m513 4 44 5 = m508 4 44 5 := by rw [hm513]; exact z_upd_o _ _ rfl
  refine X.aload_n 21 (zi257 20) rfl rfl rfl ?_
  refine X.dup 22 (zi257 21) rfl rfl rfl ?_
  refine X.getI 25 5 (zi257 22) rfl rfl (by decide) rfl rfl rfl ?_
  have h515 := r44_5 hJ514 4
  refine X.iconst 26 (zi257 25) rfl rfl (by decide) ?_
  refine X.iadd 27 (zi257 26) rfl rfl (by omega) ?_
  refine X.putI' 30 5 (zi257 27) rfl rfl (by decide) rfl rfl rfl (fun hrm516 m516 hm516 => ?_)
  have hJ517 := w44_5 hJ514 hm516 (by omega) hf35 hg4
  have em516 : m516 4 44 5 = ((m513 4 44 5) + 1) := by rw [hm516]; exact z_upd_same _ _ _ _ _
  refine X.iinc 33 [(0, zr 4 44), (1, zi a1), (2, zi ((24 + (-8)) + (-8)))] (zi257 30) rfl rfl rfl (by omega) rfl ?_
  refine X.goto 3 (zi257 33) rfl rfl ?_
  refine X.iload_n 4 (zi257 3) rfl rfl rfl ?_
  refine X.iflt 36 7 (zi257 4) rfl rfl rfl (fun h518 => (by exfalso; omega)) (fun h518 => ?_)
  refine X.aload_n 8 (zi257 7) rfl rfl rfl ?_
  refine X.getF 11 (zi257 8) rfl rfl (by decide) rfl rfl ?_
  refine X.aload_n 12 (zi257 11) rfl rfl rfl ?_
  refine X.getI 15 5 (zi257 12) rfl rfl (by decide) rfl rfl rfl ?_
  refine X.iload_n 16 (zi257 15) rfl rfl rfl ?_
  refine X.iload_n 17 (zi257 16) rfl rfl rfl ?_
  refine X.iiE 18 .iushr (fun x y => (x.toUInt32 >>> (y.toUInt32 &&& Int32.toUInt32 31)).toInt32) (zi257 17) rfl rfl rfl (fun _ _ => rfl) (fun z519 ez519 hz519 => ?_)
  refine X.i2bE 19 (zi257 18) rfl rfl (fun z520 ez520 hz520 => ?_)
  refine X.bast' 20 (zi257 19) rfl rfl (by decide) rfl (by omega) (by omega) (fun hrm521 m521 hm521 => ?_)
  have hJ522 := w48_0 hJ517 hm521 (by omega) hrm521 hf35 hg4
  have wtm521_0 : m521 4 44 5 = m516 4 44 5 := by rw [hm521]; exact z_upd_o _ _ rfl
  refine X.aload_n 21 (zi257 20) rfl rfl rfl ?_
  refine X.dup 22 (zi257 21) rfl rfl rfl ?_
  refine X.getI 25 5 (zi257 22) rfl rfl (by decide) rfl rfl rfl ?_
  have h523 := r44_5 hJ522 4
  refine X.iconst 26 (zi257 25) rfl rfl (by decide) ?_
  refine X.iadd 27 (zi257 26) rfl rfl (by omega) ?_
  refine X.putI' 30 5 (zi257 27) rfl rfl (by decide) rfl rfl rfl (fun hrm524 m524 hm524 => ?_)
  have hJ525 := w44_5 hJ522 hm524 (by omega) hf35 hg4
  have em524 : m524 4 44 5 = ((m521 4 44 5) + 1) := by rw [hm524]; exact z_upd_same _ _ _ _ _
  refine X.iinc 33 [(0, zr 4 44), (1, zi a1), (2, zi (((24 + (-8)) + (-8)) + (-8)))] (zi257 30) rfl rfl rfl (by omega) rfl ?_
  refine X.goto 3 (zi257 33) rfl rfl ?_
  refine X.iload_n 4 (zi257 3) rfl rfl rfl ?_
  refine X.iflt 36 7 (zi257 4) rfl rfl rfl (fun h526 => (by exfalso; omega)) (fun h526 => ?_)
  refine X.aload_n 8 (zi257 7) rfl rfl rfl ?_
  refine X.getF 11 (zi257 8) rfl rfl (by decide) rfl rfl ?_
  refine X.aload_n 12 (zi257 11) rfl rfl rfl ?_
  refine X.getI 15 5 (zi257 12) rfl rfl (by decide) rfl rfl rfl ?_
  refine X.iload_n 16 (zi257 15) rfl rfl rfl ?_
  refine X.iload_n 17 (zi257 16) rfl rfl rfl ?_
  refine X.iiE 18 .iushr (fun x y => (x.toUInt32 >>> (y.toUInt32 &&& Int32.toUInt32 31)).toInt32) (zi257 17) rfl rfl rfl (fun _ _ => rfl) (fun z527 ez527 hz527 => ?_)
  refine X.i2bE 19 (zi257 18) rfl rfl (fun z528 ez528 hz528 => ?_)
  refine X.bast' 20 (zi257 19) rfl rfl (by decide) rfl (by omega) (by omega) (fun hrm529 m529 hm529 => ?_)
  have hJ530 := w48_0 hJ525 hm529 (by omega) hrm529 hf35 hg4
  have wtm529_0 : m529 4 44 5 = m524 4 44 5 := by rw [hm529]; exact z_upd_o _ _ rfl
  refine X.aload_n 21 (zi257 20) rfl rfl rfl ?_
  refine X.dup 22 (zi257 21) rfl rfl rfl ?_
  refine X.getI 25 5 (zi257 22) rfl rfl (by decide) rfl rfl rfl ?_
  have h531 := r44_5 hJ530 4
  refine X.iconst 26 (zi257 25) rfl rfl (by decide) ?_
  refine X.iadd 27 (zi257 26) rfl rfl (by omega) ?_
  refine X.putI' 30 5 (zi257 27) rfl rfl (by decide) rfl rfl rfl (fun hrm532 m532 hm532 => ?_)
  have hJ533 := w44_5 hJ530 hm532 (by omega) hf35 hg4
  have em532 : m532 4 44 5 = ((m529 4 44 5) + 1) := by rw [hm532]; exact z_upd_same _ _ _ _ _
  refine X.iinc 33 [(0, zr 4 44), (1, zi a1), (2, zi ((((24 + (-8)) + (-8)) + (-8)) + (-8)))] (zi257 30) rfl rfl rfl (by omega) rfl ?_
  refine X.goto 3 (zi257 33) rfl rfl ?_
  refine X.iload_n 4 (zi257 3) rfl rfl rfl ?_
  refine X.iflt 36 7 (zi257 4) rfl rfl rfl (fun h534 => ?_) (fun h534 => (by exfalso; omega))
  refine X.cut [] (zi257 36) rfl ?_
  refine X.retv (zi257 36) rfl t257 ?_
  exact hQ  m532  (Eq.trans (zn_eq ez503) (Eq.trans (zn_eq ez504) (Eq.trans (zs_eq hm505) (Eq.trans (zs_eq hm508) (Eq.trans (zn_eq ez511) (Eq.trans (zn_eq ez512) (Eq.trans (zs_eq hm513) (Eq.trans (zs_eq hm516) (Eq.trans (zn_eq ez519) (Eq.trans (zn_eq ez520) (Eq.trans (zs_eq hm521) (Eq.trans (zs_eq hm524) (Eq.trans (zn_eq ez527) (Eq.trans (zn_eq ez528) (Eq.trans (zs_eq hm529) (Eq.trans (zs_eq hm532) rfl)))))))))))))))) (hJ533.up (by omega)) (by omega)
-- WorkMeterModel.feed
noncomputable def f256_1 (a1 a2 a3 a4 a5 : Int) (m : zM) : Int × zM :=
  if ((m 4 44 5) + 20) ≤ 300 then
  (zs (f257_1 a1 m) fun m503 =>
  zs (f257_1 a2 m503) fun m506 =>
  zs (f257_1 a3 m506) fun m509 =>
  zs (f257_1 a4 m509) fun m512 =>
  zs (f257_1 a5 m512) fun m515 =>
  ((m515 4 44 5), m515))
  else
  (((-1), m))
-- WorkMeterModel.feed
theorem c256_1 {s : Nat × (Nat → Int32)} {S : zS} {m0 m : zM} {B : Int} {d : Nat} {Q : Option zV → zM → Prop} (a1 a2 a3 a4 a5 : Int) (hd : 14 ≤ d) (hJ : J S m0 B m) (hB : B + 0 ≤ 1000000000) (ha1 : (-2147483648) ≤ a1 ∧ a1 ≤ 2147483647) (ha2 : (-2147483648) ≤ a2 ∧ a2 ≤ 2147483647) (ha3 : (-2147483648) ≤ a3 ∧ a3 ≤ 2147483647) (ha4 : (-2147483648) ≤ a4 ∧ a4 ≤ 2147483647) (ha5 : (-2147483648) ≤ a5 ∧ a5 ≤ 2147483647) (hf35 : ¬ S.1 35) (hg4 : ¬ S.2.1 4) (hQ : ∀ (v : Int) m', ((-1) ≤ v ∧ v ≤ 300) → f256_1 a1 a2 a3 a4 a5 m = (v, m') → J S m0 (B) m' → Q (some (zi v)) m') : X (EE s) d 256 0 [(0, zr 4 44), (1, zi a1), (2, zi a2), (3, zi a3), (4, zi a4), (5, zi a5)] [] m Q := by
  refine X.aload_n 1 (zi256 0) rfl rfl rfl ?_
  refine X.getI 4 5 (zi256 1) rfl rfl (by decide) rfl rfl rfl ?_
  have h501 := r44_5 hJ 4
  refine X.bipush 6 (zi256 4) rfl rfl (by decide) ?_
  refine X.iadd 7 (zi256 6) rfl rfl (by omega) ?_
  refine X.sipush 10 (zi256 7) rfl rfl (by decide) ?_
  refine X.icmple 15 13 (zi256 10) rfl rfl rfl (fun h502 => ?_) (fun h502 => ?_)
  · refine X.aload_n 16 (zi256 15) rfl rfl rfl ?_
    refine X.iload_n 17 (zi256 16) rfl rfl rfl ?_
    refine X.callv 20 [zi a1] [] [(0, zr 4 44), (1, zi a1)] (zi256 17) rfl (by decide) rfl rfl (by omega) rfl rfl (by decide) rfl t257 (Nat.le_of_ble_eq_true rfl) (Nat.le_of_ble_eq_true rfl) rfl ?_
    refine c257_1 (B := B)  a1 (by omega) (hJ.up (by omega)) (by omega) (by omega) (by omega) hf35 hg4 (fun m503 hFv505 hJ504 hqv505_0 => ?_)
    show X (EE s) d 256 20 [(0, zr 4 44), (1, zi a1), (2, zi a2), (3, zi a3), (4, zi a4), (5, zi a5)] [] m503 _
    refine X.aload_n 21 (zi256 20) rfl rfl rfl ?_
    refine X.iload_n 22 (zi256 21) rfl rfl rfl ?_
    refine X.callv 25 [zi a2] [] [(0, zr 4 44), (1, zi a2)] (zi256 22) rfl (by decide) rfl rfl (by omega) rfl rfl (by decide) rfl t257 (Nat.le_of_ble_eq_true rfl) (Nat.le_of_ble_eq_true rfl) rfl ?_
    refine c257_1 (B := B)  a2 (by omega) (hJ504.up (by omega)) (by omega) (by omega) (by omega) hf35 hg4 (fun m506 hFv508 hJ507 hqv508_0 => ?_)
    show X (EE s) d 256 25 [(0, zr 4 44), (1, zi a1), (2, zi a2), (3, zi a3), (4, zi a4), (5, zi a5)] [] m506 _
    refine X.aload_n 26 (zi256 25) rfl rfl rfl ?_
    refine X.iload_n 27 (zi256 26) rfl rfl rfl ?_
    refine X.callv 30 [zi a3] [] [(0, zr 4 44), (1, zi a3)] (zi256 27) rfl (by decide) rfl rfl (by omega) rfl rfl (by decide) rfl t257 (Nat.le_of_ble_eq_true rfl) (Nat.le_of_ble_eq_true rfl) rfl ?_
    refine c257_1 (B := B)  a3 (by omega) (hJ507.up (by omega)) (by omega) (by omega) (by omega) hf35 hg4 (fun m509 hFv511 hJ510 hqv511_0 => ?_)
    show X (EE s) d 256 30 [(0, zr 4 44), (1, zi a1), (2, zi a2), (3, zi a3), (4, zi a4), (5, zi a5)] [] m509 _
    refine X.aload_n 31 (zi256 30) rfl rfl rfl ?_
    refine X.iload 33 (zi256 31) rfl rfl rfl ?_
    refine X.callv 36 [zi a4] [] [(0, zr 4 44), (1, zi a4)] (zi256 33) rfl (by decide) rfl rfl (by omega) rfl rfl (by decide) rfl t257 (Nat.le_of_ble_eq_true rfl) (Nat.le_of_ble_eq_true rfl) rfl ?_
    refine c257_1 (B := B)  a4 (by omega) (hJ510.up (by omega)) (by omega) (by omega) (by omega) hf35 hg4 (fun m512 hFv514 hJ513 hqv514_0 => ?_)
    show X (EE s) d 256 36 [(0, zr 4 44), (1, zi a1), (2, zi a2), (3, zi a3), (4, zi a4), (5, zi a5)] [] m512 _
    refine X.aload_n 37 (zi256 36) rfl rfl rfl ?_
    refine X.iload 39 (zi256 37) rfl rfl rfl ?_
    refine X.callv 42 [zi a5] [] [(0, zr 4 44), (1, zi a5)] (zi256 39) rfl (by decide) rfl rfl (by omega) rfl rfl (by decide) rfl t257 (Nat.le_of_ble_eq_true rfl) (Nat.le_of_ble_eq_true rfl) rfl ?_
    refine c257_1 (B := B)  a5 (by omega) (hJ513.up (by omega)) (by omega) (by omega) (by omega) hf35 hg4 (fun m515 hFv517 hJ516 hqv517_0 => ?_)
    show X (EE s) d 256 42 [(0, zr 4 44), (1, zi a1), (2, zi a2), (3, zi a3), (4, zi a4), (5, zi a5)] [] m515 _
    refine X.aload_n 43 (zi256 42) rfl rfl rfl ?_
    refine X.getI 46 5 (zi256 43) rfl rfl (by decide) rfl rfl rfl ?_
    have h518 := r44_5 hJ516 4
    refine X.reti (zi256 46) rfl t256 ?_
    exact hQ (m515 4 44 5) m515 (by first | trivial | omega) (Eq.trans (if_pos h502) (Eq.trans (zs_eq hFv505.symm) (Eq.trans (zs_eq hFv508.symm) (Eq.trans (zs_eq hFv511.symm) (Eq.trans (zs_eq hFv514.symm) (Eq.trans (zs_eq hFv517.symm) rfl)))))) (hJ516.up (by omega)) 
  · refine X.iconst 14 (zi256 13) rfl rfl (by decide) ?_
    refine X.reti (zi256 14) rfl t256 ?_
    exact hQ (-1) m (by first | trivial | omega) (Eq.trans (if_neg h502) rfl) (hJ.up (by omega)) 
-- WorkMeter$CalendarText.cutTo
noncomputable def f89_1 (a1 : Int) (m : zM) : Int × zM :=
  if a1 < 0 then
  ((0, m))
  else
  (if a1 ≤ (m 4 41 3) then
  (zs (z_upd m 4 41 3 a1) fun m504 =>
  (1, m504))
  else
  ((0, m)))
-- WorkMeter$CalendarText.cutTo
theorem c89_1 {s : Nat × (Nat → Int32)} {S : zS} {m0 m : zM} {B : Int} {d : Nat} {Q : Option zV → zM → Prop} (a1 : Int) (hd : 13 ≤ d) (hJ : J S m0 B m) (hB : B + 0 ≤ 1000000000) (ha1 : (-2147483648) ≤ a1 ∧ a1 ≤ 2147483647) (hf15 : ¬ S.1 15) (hg4 : ¬ S.2.1 4) (hQ : ∀ (v : Int) m', (0 ≤ v ∧ v ≤ 1) → f89_1 a1 m = (v, m') → J S m0 (B) m' → Q (some (zi v)) m') : X (EE s) d 89 0 [(0, zr 4 41), (1, zi a1)] [] m Q := by
  refine X.iload_n 1 (zi89 0) rfl rfl rfl ?_
  refine X.iflt 12 4 (zi89 1) rfl rfl rfl (fun h501 => ?_) (fun h501 => ?_)
  · refine X.cut [] (zi89 12) rfl ?_
    refine X.iconst 13 (zi89 12) rfl rfl (by decide) ?_
    refine X.retz (zi89 13) rfl t89 (by omega) ?_
    exact hQ 0 m (by first | trivial | omega) (Eq.trans (if_pos h501) rfl) (hJ.up (by omega)) 
  · refine X.iload_n 5 (zi89 4) rfl rfl rfl ?_
    refine X.aload_n 6 (zi89 5) rfl rfl rfl ?_
    refine X.getI 9 3 (zi89 6) rfl rfl (by decide) rfl rfl rfl ?_
    have h502 := r41_3 hJ 4
    refine X.icmple 14 12 (zi89 9) rfl rfl rfl (fun h503 => ?_) (fun h503 => ?_)
    · refine X.aload_n 15 (zi89 14) rfl rfl rfl ?_
      refine X.iload_n 16 (zi89 15) rfl rfl rfl ?_
      refine X.putI' 19 3 (zi89 16) rfl rfl (by decide) rfl rfl rfl (fun hrm504 m504 hm504 => ?_)
      have hJ505 := w41_3 hJ hm504 (by omega) hf15 hg4
      have em504 : m504 4 41 3 = a1 := by rw [hm504]; exact z_upd_same _ _ _ _ _
      refine X.iconst 20 (zi89 19) rfl rfl (by decide) ?_
      refine X.retz (zi89 20) rfl t89 (by omega) ?_
      exact hQ 1 m504 (by first | trivial | omega) (Eq.trans (if_neg h501) (Eq.trans (if_pos h503) (Eq.trans (zs_eq hm504) rfl))) (hJ505.up (by omega)) 
    · refine X.cut [] (zi89 12) rfl ?_
      refine X.iconst 13 (zi89 12) rfl rfl (by decide) ?_
      refine X.retz (zi89 13) rfl t89 (by omega) ?_
      exact hQ 0 m (by first | trivial | omega) (Eq.trans (if_neg h501) (Eq.trans (if_neg h503) rfl)) (hJ.up (by omega)) 
-- WorkMeter.end
noncomputable def f88_1 (a1 : Int) (m : zM) : Int × zM :=
  zb (f89_1 a1 m) fun v503 m501 =>
  (v503, m501)
end
section
-- WorkMeter.end
theorem c88_1 {s : Nat × (Nat → Int32)} {S : zS} {m0 m : zM} {B : Int} {d : Nat} {Q : Option zV → zM → Prop} (a1 : Int) (hd : 14 ≤ d) (hJ : J S m0 B m) (hB : B + 0 ≤ 1000000000) (ha1 : (-2147483648) ≤ a1 ∧ a1 ≤ 2147483647) (hf15 : ¬ S.1 15) (hg4 : ¬ S.2.1 4) (hQ : ∀ (v : Int) m', (0 ≤ v ∧ v ≤ 1) → f88_1 a1 m = (v, m') → J S m0 (B) m' → Q (some (zi v)) m') : X (EE s) d 88 0 [(0, zr 4 40), (1, zi a1)] [] m Q := by
  refine X.aload_n 1 (zi88 0) rfl rfl rfl ?_
  refine X.getF 4 (zi88 1) rfl rfl (by decide) rfl rfl ?_
  refine X.iload_n 5 (zi88 4) rfl rfl rfl ?_
  refine X.callv 8 [zi a1] [] [(0, zr 4 41), (1, zi a1)] (zi88 5) rfl (by decide) rfl rfl (by omega) rfl rfl (by decide) rfl t89 (Nat.le_of_ble_eq_true rfl) (Nat.le_of_ble_eq_true rfl) rfl ?_
  refine c89_1 (B := B)  a1 (by omega) (hJ.up (by omega)) (by omega) (by omega) hf15 hg4 (fun v503 m501 hv503 hFv503 hJ502 => ?_)
  show X (EE s) d 88 8 [(0, zr 4 40), (1, zi a1)] [zi v503] m501 _
  refine X.retz (zi88 8) rfl t88 (by omega) ?_
  exact hQ v503 m501 (by first | trivial | omega) (Eq.trans (zb_eq hFv503) rfl) (hJ502.up (by omega)) 
-- WorkMeterModel.end
noncomputable def f258_1 (a1 : Int) (m : zM) : Int × zM :=
  if a1 < 0 then
  ((0, m))
  else
  (if a1 ≤ (m 4 44 5) then
  (zs (z_upd m 4 44 5 a1) fun m509 =>
  (1, m509))
  else
  ((0, m)))
-- WorkMeterModel.end
theorem c258_1 {s : Nat × (Nat → Int32)} {S : zS} {m0 m : zM} {B : Int} {d : Nat} {Q : Option zV → zM → Prop} (a1 : Int) (hd : 13 ≤ d) (hJ : J S m0 B m) (hB : B + 0 ≤ 1000000000) (ha1 : (-2147483648) ≤ a1 ∧ a1 ≤ 2147483647) (hf35 : ¬ S.1 35) (hg4 : ¬ S.2.1 4) (hQ : ∀ (v : Int) m', (0 ≤ v ∧ v ≤ 1) → f258_1 a1 m = (v, m') → J S m0 (B) m' → Q (some (zi v)) m') : X (EE s) d 258 0 [(0, zr 4 44), (1, zi a1)] [] m Q := by
  refine X.iload_n 1 (zi258 0) rfl rfl rfl ?_
  refine X.i2l 2 (zi258 1) rfl rfl ?_
  refine X.lconst (y := 0) 3 (zi258 2) rfl rfl rfl ?_
  refine X.aload_n 4 (zi258 3) rfl rfl rfl ?_
  refine X.getI 7 5 (zi258 4) rfl rfl (by decide) rfl rfl rfl ?_
  have h501 := r44_5 hJ 4
  refine X.i2l 8 (zi258 7) rfl rfl ?_
  refine X.calls 11 [zl a1, zl 0, zl (m 4 44 5)] [] [(0, zl a1), (2, zl 0), (4, zl (m 4 44 5))] (zi258 8) (by decide) rfl rfl (by omega) rfl rfl t204 (Nat.le_of_ble_eq_true rfl) (Nat.le_of_ble_eq_true rfl) rfl ?_
  refine X.lload_n 1 (zi204 0) rfl rfl rfl ?_
  refine X.lload_n 2 (zi204 1) rfl rfl rfl ?_
  refine X.lcmp 3 (zi204 2) rfl rfl (fun z502 hz502 => ?_)
  refine X.iflt 17 6 (zi204 3) rfl rfl rfl (fun h503 => ?_) (fun h503 => ?_)
  · have h503c : a1 < 0 := by omega
    clear h503 hz502
    refine X.cut [] (zi204 17) rfl ?_
    refine X.iconst 18 (zi204 17) rfl rfl (by decide) ?_
    refine X.retz (zi204 18) rfl t204 (by omega) ?_
    show X (EE s) d 258 11 [(0, zr 4 44), (1, zi a1)] [zi 0] m _
    refine X.ifne 16 14 (zi258 11) rfl rfl rfl (fun h504 => (by exfalso; omega)) (fun h504 => ?_)
    refine X.iconst 15 (zi258 14) rfl rfl (by decide) ?_
    refine X.retz (zi258 15) rfl t258 (by omega) ?_
    exact hQ 0 m (by first | trivial | omega) (Eq.trans (if_pos h503c) rfl) (hJ.up (by omega)) 
  · have h503c : ¬ a1 < 0 := by omega
    clear h503 hz502
    refine X.lload_n 7 (zi204 6) rfl rfl rfl ?_
    refine X.lload 9 (zi204 7) rfl rfl rfl ?_
    refine X.lcmp 10 (zi204 9) rfl rfl (fun z505 hz505 => ?_)
    refine X.ifgt 17 13 (zi204 10) rfl rfl rfl (fun h506 => ?_) (fun h506 => ?_)
    · have h506c : ¬ a1 ≤ (m 4 44 5) := by omega
      clear h506 hz505
      refine X.cut [] (zi204 17) rfl ?_
      refine X.iconst 18 (zi204 17) rfl rfl (by decide) ?_
      refine X.retz (zi204 18) rfl t204 (by omega) ?_
      show X (EE s) d 258 11 [(0, zr 4 44), (1, zi a1)] [zi 0] m _
      refine X.ifne 16 14 (zi258 11) rfl rfl rfl (fun h507 => (by exfalso; omega)) (fun h507 => ?_)
      refine X.iconst 15 (zi258 14) rfl rfl (by decide) ?_
      refine X.retz (zi258 15) rfl t258 (by omega) ?_
      exact hQ 0 m (by first | trivial | omega) (Eq.trans (if_neg h503c) (Eq.trans (if_neg h506c) rfl)) (hJ.up (by omega)) 
    · have h506c : a1 ≤ (m 4 44 5) := by omega
      clear h506 hz505
      refine X.iconst 14 (zi204 13) rfl rfl (by decide) ?_
      refine X.goto 18 (zi204 14) rfl rfl ?_
      refine X.cut [] (zi204 18) rfl ?_
      refine X.retz (zi204 18) rfl t204 (by omega) ?_
      show X (EE s) d 258 11 [(0, zr 4 44), (1, zi a1)] [zi 1] m _
      refine X.ifne 16 14 (zi258 11) rfl rfl rfl (fun h508 => ?_) (fun h508 => (by exfalso; omega))
      refine X.aload_n 17 (zi258 16) rfl rfl rfl ?_
      refine X.iload_n 18 (zi258 17) rfl rfl rfl ?_
      refine X.putI' 21 5 (zi258 18) rfl rfl (by decide) rfl rfl rfl (fun hrm509 m509 hm509 => ?_)
      have hJ510 := w44_5 hJ hm509 (by omega) hf35 hg4
      have em509 : m509 4 44 5 = a1 := by rw [hm509]; exact z_upd_same _ _ _ _ _
      refine X.iconst 22 (zi258 21) rfl rfl (by decide) ?_
      refine X.retz (zi258 22) rfl t258 (by omega) ?_
      exact hQ 1 m509 (by first | trivial | omega) (Eq.trans (if_neg h503c) (Eq.trans (if_pos h506c) (Eq.trans (zs_eq hm509) rfl))) (hJ510.up (by omega)) 
noncomputable def fl5_5_1_b (self : Int → zM → zM) (k20 : zM → zM) (g0 : Nat) (y1 y3 : Int) (y2 : Int) (m : zM) : zM :=
  if y3 ≤ y2 then
  (k20 m)
  else
  (zs (z_upd m g0 12 y2 y1) fun m505 =>
  self (y2 + 1) m505)
noncomputable def fl5_5_1 (k20 : zM → zM) (g0 : Nat) (y1 y3 : Int) : Nat → Int → zM → zM
  | 0 => fun y2 m => m
  | n + 1 => fl5_5_1_b (fl5_5_1 k20 g0 y1 y3 n) k20 g0 y1 y3
theorem l5_5_1 {s : Nat × (Nat → Int32)} {S : zS} {m0 : zM} {d : Nat} {Q : Option zV → zM → Prop} {R0 : zM} {k20 : zM → zM} (g0 : Nat) (y1 y3 : Int) (BE : Int) (hE : BE ≤ 1000000000) (hd : 13 ≤ d) (hy1 : 0 ≤ y1 ∧ y1 ≤ 0) (hy3 : 8 ≤ y3 ∧ y3 ≤ 8) (hf1 : ¬ S.1 1) (hgg0 : ¬ S.2.1 g0)
    (K20 : ∀ (m' : zM) (B' : Int), J S m0 B' m' → B' ≤ BE → R0 = k20 m' → X (EE s) d 5 20 [] [] m' Q) :
    ∀ (n : Nat) (y2 : Int) (m : zM) (B : Int), J S m0 B m → B + 0 * (n : Int) ≤ BE → (0 ≤ y2 ∧ y2 ≤ 8) → 8 - y2 < (n : Int) → R0 = fl5_5_1 k20 g0 y1 y3 n y2 m → X (EE s) d 5 5 [(0, zr g0 12), (1, zi y1), (2, zi y2), (3, zi y3)] [] m Q := by
  intro n
  induction n with
  | zero =>
    intro y2 m B hJ hB hy2 hn hR
    exfalso
    omega
  | succ n ih =>
    intro y2 m B hJ hB hy2 hn hR
    replace hR : R0 = fl5_5_1_b (fl5_5_1 k20 g0 y1 y3 n) k20 g0 y1 y3 y2 m := hR
    refine X.iload_n 6 (zi5 5) rfl rfl rfl ?_
    refine X.iload_n 7 (zi5 6) rfl rfl rfl ?_
    refine X.icmpge 20 10 (zi5 7) rfl rfl rfl (fun h504 => ?_) (fun h504 => ?_)
    · refine X.cut [] (zi5 20) rfl ?_
      exact K20  m (B) (hJ.up (by omega)) (by omega)  (Eq.trans hR (Eq.trans (if_pos h504) rfl))
    · refine X.aload_n 11 (zi5 10) rfl rfl rfl ?_
      refine X.iload_n 12 (zi5 11) rfl rfl rfl ?_
      refine X.iload_n 13 (zi5 12) rfl rfl rfl ?_
      refine X.iast' 14 (zi5 13) rfl rfl (by decide) rfl (by omega) (fun hrm505 m505 hm505 => ?_)
      have hJ506 := w12_0 hJ hm505 (by omega) (by omega) hf1 hgg0
      refine X.iinc 17 [(0, zr g0 12), (1, zi y1), (2, zi (y2 + 1)), (3, zi y3)] (zi5 14) rfl rfl rfl (by omega) rfl ?_
      refine X.goto 5 (zi5 17) rfl rfl ?_
      exact ih (y2 + 1) m505 (B) (hJ506.up (by omega)) (by omega) (by omega) (by omega) (Eq.trans hR (Eq.trans (if_neg h504) (Eq.trans (zs_eq hm505) rfl)))
-- java/util/Arrays.fill
noncomputable def f5_1 (g0 : Nat) (a1 : Int) (m : zM) : zM :=
  fl5_5_1 (fun m501 =>
  m501) g0 a1 8 (zfu 9) 0 m
-- java/util/Arrays.fill
theorem c5_1 {s : Nat × (Nat → Int32)} {S : zS} {m0 m : zM} {B : Int} {d : Nat} {Q : Option zV → zM → Prop} (g0 : Nat) (a1 : Int) (hd : 13 ≤ d) (hJ : J S m0 B m) (hB : B + 0 ≤ 1000000000) (ha1 : 0 ≤ a1 ∧ a1 ≤ 0) (hf1 : ¬ S.1 1) (hgg0 : ¬ S.2.1 g0) (hQ : ∀ m', f5_1 g0 a1 m = m' → J S m0 (B) m' → Q none m') : X (EE s) d 5 0 [(0, zr g0 12), (1, zi a1)] [] m Q := by
  refine X.iconst 1 (zi5 0) rfl rfl (by decide) ?_
  refine X.istore_n 2 [(0, zr g0 12), (1, zi a1), (2, zi 0)] (zi5 1) rfl rfl rfl ?_
  refine X.aload_n 3 (zi5 2) rfl rfl rfl ?_
  refine X.alen 4 (zi5 3) rfl rfl (by decide) rfl ?_
  show X (EE s) d 5 4 [(0, zr g0 12), (1, zi a1), (2, zi 0)] [zi 8] m _
  refine X.istore_n 5 [(0, zr g0 12), (1, zi a1), (2, zi 0), (3, zi 8)] (zi5 4) rfl rfl rfl ?_
  have hz9 := zfu_eq 9
  refine l5_5_1 (s := s) (d := d) (R0 := (f5_1 g0 a1 m)) g0 a1 8  (BE := B + 0) (by omega) (by omega) (by omega) (by omega) hf1 hgg0 (fun  m501 B502 hJ503 hBB502 hR504 => ?_) (zfu 9) 0 m (B) (hJ.up (by omega)) (by omega) (by omega) (by omega) rfl
  refine X.retv (zi5 20) rfl t5 ?_
  exact hQ  m501  (Eq.trans hR504 rfl) (hJ503.up (by omega)) 
noncomputable def fl5_5_2_b (self : Int → zM → zM) (k20 : zM → zM) (g0 : Nat) (y1 y3 : Int) (y2 : Int) (m : zM) : zM :=
  if y3 ≤ y2 then
  (k20 m)
  else
  (zs (z_upd m g0 15 y2 y1) fun m505 =>
  self (y2 + 1) m505)
noncomputable def fl5_5_2 (k20 : zM → zM) (g0 : Nat) (y1 y3 : Int) : Nat → Int → zM → zM
  | 0 => fun y2 m => m
  | n + 1 => fl5_5_2_b (fl5_5_2 k20 g0 y1 y3 n) k20 g0 y1 y3
theorem l5_5_2 {s : Nat × (Nat → Int32)} {S : zS} {m0 : zM} {d : Nat} {Q : Option zV → zM → Prop} {R0 : zM} {k20 : zM → zM} (g0 : Nat) (y1 y3 : Int) (BE : Int) (hE : BE ≤ 1000000000) (hd : 13 ≤ d) (hy1 : (-1) ≤ y1 ∧ y1 ≤ (-1)) (hy3 : 4 ≤ y3 ∧ y3 ≤ 4) (hf1 : ¬ S.1 1) (hgg0 : ¬ S.2.1 g0)
    (K20 : ∀ (m' : zM) (B' : Int), J S m0 B' m' → B' ≤ BE → R0 = k20 m' → X (EE s) d 5 20 [] [] m' Q) :
    ∀ (n : Nat) (y2 : Int) (m : zM) (B : Int), J S m0 B m → B + 0 * (n : Int) ≤ BE → (0 ≤ y2 ∧ y2 ≤ 4) → 4 - y2 < (n : Int) → R0 = fl5_5_2 k20 g0 y1 y3 n y2 m → X (EE s) d 5 5 [(0, zr g0 15), (1, zi y1), (2, zi y2), (3, zi y3)] [] m Q := by
  intro n
  induction n with
  | zero =>
    intro y2 m B hJ hB hy2 hn hR
    exfalso
    omega
  | succ n ih =>
    intro y2 m B hJ hB hy2 hn hR
    replace hR : R0 = fl5_5_2_b (fl5_5_2 k20 g0 y1 y3 n) k20 g0 y1 y3 y2 m := hR
    refine X.iload_n 6 (zi5 5) rfl rfl rfl ?_
    refine X.iload_n 7 (zi5 6) rfl rfl rfl ?_
    refine X.icmpge 20 10 (zi5 7) rfl rfl rfl (fun h504 => ?_) (fun h504 => ?_)
    · refine X.cut [] (zi5 20) rfl ?_
      exact K20  m (B) (hJ.up (by omega)) (by omega)  (Eq.trans hR (Eq.trans (if_pos h504) rfl))
    · refine X.aload_n 11 (zi5 10) rfl rfl rfl ?_
      refine X.iload_n 12 (zi5 11) rfl rfl rfl ?_
      refine X.iload_n 13 (zi5 12) rfl rfl rfl ?_
      refine X.iast' 14 (zi5 13) rfl rfl (by decide) rfl (by omega) (fun hrm505 m505 hm505 => ?_)
      have hJ506 := w15_0 hJ hm505 (by omega) (by omega) hf1 hgg0
      refine X.iinc 17 [(0, zr g0 15), (1, zi y1), (2, zi (y2 + 1)), (3, zi y3)] (zi5 14) rfl rfl rfl (by omega) rfl ?_
      refine X.goto 5 (zi5 17) rfl rfl ?_
      exact ih (y2 + 1) m505 (B) (hJ506.up (by omega)) (by omega) (by omega) (by omega) (Eq.trans hR (Eq.trans (if_neg h504) (Eq.trans (zs_eq hm505) rfl)))
-- java/util/Arrays.fill
noncomputable def f5_2 (g0 : Nat) (a1 : Int) (m : zM) : zM :=
  fl5_5_2 (fun m501 =>
  m501) g0 a1 4 (zfu 5) 0 m
-- java/util/Arrays.fill
theorem c5_2 {s : Nat × (Nat → Int32)} {S : zS} {m0 m : zM} {B : Int} {d : Nat} {Q : Option zV → zM → Prop} (g0 : Nat) (a1 : Int) (hd : 13 ≤ d) (hJ : J S m0 B m) (hB : B + 0 ≤ 1000000000) (ha1 : (-1) ≤ a1 ∧ a1 ≤ (-1)) (hf1 : ¬ S.1 1) (hgg0 : ¬ S.2.1 g0) (hQ : ∀ m', f5_2 g0 a1 m = m' → J S m0 (B) m' → Q none m') : X (EE s) d 5 0 [(0, zr g0 15), (1, zi a1)] [] m Q := by
  refine X.iconst 1 (zi5 0) rfl rfl (by decide) ?_
  refine X.istore_n 2 [(0, zr g0 15), (1, zi a1), (2, zi 0)] (zi5 1) rfl rfl rfl ?_
  refine X.aload_n 3 (zi5 2) rfl rfl rfl ?_
  refine X.alen 4 (zi5 3) rfl rfl (by decide) rfl ?_
  show X (EE s) d 5 4 [(0, zr g0 15), (1, zi a1), (2, zi 0)] [zi 4] m _
  refine X.istore_n 5 [(0, zr g0 15), (1, zi a1), (2, zi 0), (3, zi 4)] (zi5 4) rfl rfl rfl ?_
  have hz5 := zfu_eq 5
  refine l5_5_2 (s := s) (d := d) (R0 := (f5_2 g0 a1 m)) g0 a1 4  (BE := B + 0) (by omega) (by omega) (by omega) (by omega) hf1 hgg0 (fun  m501 B502 hJ503 hBB502 hR504 => ?_) (zfu 5) 0 m (B) (hJ.up (by omega)) (by omega) (by omega) (by omega) rfl
  refine X.retv (zi5 20) rfl t5 ?_
  exact hQ  m501  (Eq.trans hR504 rfl) (hJ503.up (by omega)) 
noncomputable def fl5_5_3_b (self : Int → zM → zM) (k20 : zM → zM) (g0 : Nat) (y1 y3 : Int) (y2 : Int) (m : zM) : zM :=
  if y3 ≤ y2 then
  (k20 m)
  else
  (zs (z_upd m g0 16 y2 y1) fun m505 =>
  self (y2 + 1) m505)
noncomputable def fl5_5_3 (k20 : zM → zM) (g0 : Nat) (y1 y3 : Int) : Nat → Int → zM → zM
  | 0 => fun y2 m => m
  | n + 1 => fl5_5_3_b (fl5_5_3 k20 g0 y1 y3 n) k20 g0 y1 y3
theorem l5_5_3 {s : Nat × (Nat → Int32)} {S : zS} {m0 : zM} {d : Nat} {Q : Option zV → zM → Prop} {R0 : zM} {k20 : zM → zM} (g0 : Nat) (y1 y3 : Int) (BE : Int) (hE : BE ≤ 1000000000) (hd : 13 ≤ d) (hy1 : 0 ≤ y1 ∧ y1 ≤ 0) (hy3 : 28 ≤ y3 ∧ y3 ≤ 28) (hf1 : ¬ S.1 1) (hgg0 : ¬ S.2.1 g0)
    (K20 : ∀ (m' : zM) (B' : Int), J S m0 B' m' → B' ≤ BE → R0 = k20 m' → X (EE s) d 5 20 [] [] m' Q) :
    ∀ (n : Nat) (y2 : Int) (m : zM) (B : Int), J S m0 B m → B + 0 * (n : Int) ≤ BE → (0 ≤ y2 ∧ y2 ≤ 28) → 28 - y2 < (n : Int) → R0 = fl5_5_3 k20 g0 y1 y3 n y2 m → X (EE s) d 5 5 [(0, zr g0 16), (1, zi y1), (2, zi y2), (3, zi y3)] [] m Q := by
  intro n
  induction n with
  | zero =>
    intro y2 m B hJ hB hy2 hn hR
    exfalso
    omega
  | succ n ih =>
    intro y2 m B hJ hB hy2 hn hR
    replace hR : R0 = fl5_5_3_b (fl5_5_3 k20 g0 y1 y3 n) k20 g0 y1 y3 y2 m := hR
    refine X.iload_n 6 (zi5 5) rfl rfl rfl ?_
    refine X.iload_n 7 (zi5 6) rfl rfl rfl ?_
    refine X.icmpge 20 10 (zi5 7) rfl rfl rfl (fun h504 => ?_) (fun h504 => ?_)
    · refine X.cut [] (zi5 20) rfl ?_
      exact K20  m (B) (hJ.up (by omega)) (by omega)  (Eq.trans hR (Eq.trans (if_pos h504) rfl))
    · refine X.aload_n 11 (zi5 10) rfl rfl rfl ?_
      refine X.iload_n 12 (zi5 11) rfl rfl rfl ?_
      refine X.iload_n 13 (zi5 12) rfl rfl rfl ?_
      refine X.iast' 14 (zi5 13) rfl rfl (by decide) rfl (by omega) (fun hrm505 m505 hm505 => ?_)
      have hJ506 := w16_0 hJ hm505 (by omega) (by omega) hf1 hgg0
      refine X.iinc 17 [(0, zr g0 16), (1, zi y1), (2, zi (y2 + 1)), (3, zi y3)] (zi5 14) rfl rfl rfl (by omega) rfl ?_
      refine X.goto 5 (zi5 17) rfl rfl ?_
      exact ih (y2 + 1) m505 (B) (hJ506.up (by omega)) (by omega) (by omega) (by omega) (Eq.trans hR (Eq.trans (if_neg h504) (Eq.trans (zs_eq hm505) rfl)))
-- java/util/Arrays.fill
noncomputable def f5_3 (g0 : Nat) (a1 : Int) (m : zM) : zM :=
  fl5_5_3 (fun m501 =>
  m501) g0 a1 28 (zfu 29) 0 m
-- java/util/Arrays.fill
theorem c5_3 {s : Nat × (Nat → Int32)} {S : zS} {m0 m : zM} {B : Int} {d : Nat} {Q : Option zV → zM → Prop} (g0 : Nat) (a1 : Int) (hd : 13 ≤ d) (hJ : J S m0 B m) (hB : B + 0 ≤ 1000000000) (ha1 : 0 ≤ a1 ∧ a1 ≤ 0) (hf1 : ¬ S.1 1) (hgg0 : ¬ S.2.1 g0) (hQ : ∀ m', f5_3 g0 a1 m = m' → J S m0 (B) m' → Q none m') : X (EE s) d 5 0 [(0, zr g0 16), (1, zi a1)] [] m Q := by
  refine X.iconst 1 (zi5 0) rfl rfl (by decide) ?_
  refine X.istore_n 2 [(0, zr g0 16), (1, zi a1), (2, zi 0)] (zi5 1) rfl rfl rfl ?_
  refine X.aload_n 3 (zi5 2) rfl rfl rfl ?_
  refine X.alen 4 (zi5 3) rfl rfl (by decide) rfl ?_
  show X (EE s) d 5 4 [(0, zr g0 16), (1, zi a1), (2, zi 0)] [zi 28] m _
  refine X.istore_n 5 [(0, zr g0 16), (1, zi a1), (2, zi 0), (3, zi 28)] (zi5 4) rfl rfl rfl ?_
  have hz29 := zfu_eq 29
  refine l5_5_3 (s := s) (d := d) (R0 := (f5_3 g0 a1 m)) g0 a1 28  (BE := B + 0) (by omega) (by omega) (by omega) (by omega) hf1 hgg0 (fun  m501 B502 hJ503 hBB502 hR504 => ?_) (zfu 29) 0 m (B) (hJ.up (by omega)) (by omega) (by omega) (by omega) rfl
  refine X.retv (zi5 20) rfl t5 ?_
  exact hQ  m501  (Eq.trans hR504 rfl) (hJ503.up (by omega)) 
-- WorkMeter$Calendar.clearAll
noncomputable def f4_1 (g0 : Nat) (m : zM) : zM :=
  zs (f5_1 g0 0 m) fun m501 =>
  zs (f5_2 g0 (-1) m501) fun m504 =>
  zs (z_upd m504 g0 15 0 0) fun m507 =>
  zs (f5_3 g0 0 m507) fun m509 =>
  zs (z_upd m509 g0 11 7 0) fun m512 =>
  m512
-- WorkMeter$Calendar.clearAll
theorem c4_1 {s : Nat × (Nat → Int32)} {S : zS} {m0 m : zM} {B : Int} {d : Nat} {Q : Option zV → zM → Prop} (g0 : Nat) (hd : 14 ≤ d) (hJ : J S m0 B m) (hB : B + 0 ≤ 1000000000) (hf1 : ¬ S.1 1) (hgg0 : ¬ S.2.1 g0) (hQ : ∀ m', f4_1 g0 m = m' → J S m0 (B) m' → Q none m') : X (EE s) d 4 0 [(0, zr g0 11)] [] m Q := by
  refine X.aload_n 1 (zi4 0) rfl rfl rfl ?_
  refine X.getR 4 (zi4 1) rfl rfl (by decide) rfl rfl ?_
  refine X.iconst 5 (zi4 4) rfl rfl (by decide) ?_
  refine X.calls 8 [zr g0 12, zi 0] [] [(0, zr g0 12), (1, zi 0)] (zi4 5) (by decide) rfl rfl (by omega) rfl rfl t5 (Nat.le_of_ble_eq_true rfl) (Nat.le_of_ble_eq_true rfl) rfl ?_
  refine c5_1 (B := B) g0 0 (by omega) (hJ.up (by omega)) (by omega) (by omega) hf1 hgg0 (fun m501 hFv503 hJ502 => ?_)
  show X (EE s) d 4 8 [(0, zr g0 11)] [] m501 _
  refine X.aload_n 9 (zi4 8) rfl rfl rfl ?_
  refine X.getR 12 (zi4 9) rfl rfl (by decide) rfl rfl ?_
  refine X.iconst 13 (zi4 12) rfl rfl (by decide) ?_
  refine X.calls 16 [zr g0 15, zi (-1)] [] [(0, zr g0 15), (1, zi (-1))] (zi4 13) (by decide) rfl rfl (by omega) rfl rfl t5 (Nat.le_of_ble_eq_true rfl) (Nat.le_of_ble_eq_true rfl) rfl ?_
  refine c5_2 (B := B) g0 (-1) (by omega) (hJ502.up (by omega)) (by omega) (by omega) hf1 hgg0 (fun m504 hFv506 hJ505 => ?_)
  show X (EE s) d 4 16 [(0, zr g0 11)] [] m504 _
  refine X.aload_n 17 (zi4 16) rfl rfl rfl ?_
  refine X.getR 20 (zi4 17) rfl rfl (by decide) rfl rfl ?_
  refine X.iconst 21 (zi4 20) rfl rfl (by decide) ?_
  refine X.iconst 22 (zi4 21) rfl rfl (by decide) ?_
  refine X.iast' 23 (zi4 22) rfl rfl (by decide) rfl (by omega) (fun hrm507 m507 hm507 => ?_)
  have hJ508 := w15_0 hJ505 hm507 (by omega) (by omega) hf1 hgg0
  refine X.aload_n 24 (zi4 23) rfl rfl rfl ?_
  refine X.getR 27 (zi4 24) rfl rfl (by decide) rfl rfl ?_
  refine X.iconst 28 (zi4 27) rfl rfl (by decide) ?_
  refine X.calls 31 [zr g0 16, zi 0] [] [(0, zr g0 16), (1, zi 0)] (zi4 28) (by decide) rfl rfl (by omega) rfl rfl t5 (Nat.le_of_ble_eq_true rfl) (Nat.le_of_ble_eq_true rfl) rfl ?_
  refine c5_3 (B := B) g0 0 (by omega) (hJ508.up (by omega)) (by omega) (by omega) hf1 hgg0 (fun m509 hFv511 hJ510 => ?_)
  show X (EE s) d 4 31 [(0, zr g0 11)] [] m509 _
  refine X.aload_n 32 (zi4 31) rfl rfl rfl ?_
  refine X.iconst 33 (zi4 32) rfl rfl (by decide) ?_
  refine X.putI' 36 7 (zi4 33) rfl rfl (by decide) rfl rfl rfl (fun hrm512 m512 hm512 => ?_)
  have hJ513 := w11_7 hJ510 hm512 (by omega) hf1 hgg0
  have em512 : m512 g0 11 7 = 0 := by rw [hm512]; exact z_upd_same _ _ _ _ _
  refine X.retv (zi4 36) rfl t4 ?_
  exact hQ  m512  (Eq.trans (zs_eq hFv503.symm) (Eq.trans (zs_eq hFv506.symm) (Eq.trans (zs_eq hm507) (Eq.trans (zs_eq hFv511.symm) (Eq.trans (zs_eq hm512) rfl))))) (hJ513.up (by omega)) 
noncomputable def fl93_0_1_b (self : zM → zM) (k38 : zM → zM) (m : zM) : zM :=
  if (m 4 41 3) ≤ (m 4 41 7) then
  (k38 m)
  else
  (if (m 4 42 (m 4 41 7)) = 32 then
  (zs (z_upd m 4 41 7 ((m 4 41 7) + 1)) fun m513 =>
  self m513)
  else
  (k38 m))
noncomputable def fl93_0_1 (k38 : zM → zM) : Nat → zM → zM
  | 0 => fun m => m
  | n + 1 => fl93_0_1_b (fl93_0_1 k38 n) k38
theorem l93_0_1 {s : Nat × (Nat → Int32)} {S : zS} {m0 : zM} {d : Nat} {Q : Option zV → zM → Prop} {R0 : zM} {k38 : zM → zM} (BE : Int) (hE : BE ≤ 1000000000) (hd : 13 ≤ d) (hf19 : ¬ S.1 19) (hg4 : ¬ S.2.1 4)
    (K38 : ∀ (m' : zM) (B' : Int), J S m0 B' m' → B' ≤ BE → R0 = k38 m' → X (EE s) d 93 38 [] [] m' Q) :
    ∀ (n : Nat) (m : zM) (B : Int), J S m0 B m → B + 0 * (n : Int) ≤ BE → 300 - m 4 41 7 < (n : Int) → R0 = fl93_0_1 k38 n m → X (EE s) d 93 0 [(0, zr 4 41)] [] m Q := by
  intro n
  induction n with
  | zero =>
    intro  m B hJ hB  hn hR
    have zf0 := r41_7 hJ 4
    exfalso
    omega
  | succ n ih =>
    intro  m B hJ hB  hn hR
    replace hR : R0 = fl93_0_1_b (fl93_0_1 k38 n) k38 m := hR
    refine X.aload_n 1 (zi93 0) rfl rfl rfl ?_
    refine X.getI 4 7 (zi93 1) rfl rfl (by decide) rfl rfl rfl ?_
    have h508 := r41_7 hJ 4
    refine X.aload_n 5 (zi93 4) rfl rfl rfl ?_
    refine X.getI 8 3 (zi93 5) rfl rfl (by decide) rfl rfl rfl ?_
    have h509 := r41_3 hJ 4
    refine X.icmpge 38 11 (zi93 8) rfl rfl rfl (fun h510 => ?_) (fun h510 => ?_)
    · refine X.cut [] (zi93 38) rfl ?_
      exact K38  m (B) (hJ.up (by omega)) (by omega)  (Eq.trans hR (Eq.trans (if_pos h510) rfl))
    · refine X.aload_n 12 (zi93 11) rfl rfl rfl ?_
      refine X.getF 15 (zi93 12) rfl rfl (by decide) rfl rfl ?_
      refine X.aload_n 16 (zi93 15) rfl rfl rfl ?_
      refine X.getI 19 7 (zi93 16) rfl rfl (by decide) rfl rfl rfl ?_
      refine X.iald 20 (zi93 19) rfl rfl (by decide) rfl (by omega) ?_
      have h511 := r42_0 hJ 4 (i := (m 4 41 7)) (by omega)
      refine X.bipush 22 (zi93 20) rfl rfl (by decide) ?_
      refine X.icmpne 38 25 (zi93 22) rfl rfl rfl (fun h512 => ?_) (fun h512 => ?_)
      · refine X.cut [] (zi93 38) rfl ?_
        exact K38  m (B) (hJ.up (by omega)) (by omega)  (Eq.trans hR (Eq.trans (if_neg h510) (Eq.trans (if_neg h512) rfl)))
      · refine X.aload_n 26 (zi93 25) rfl rfl rfl ?_
        refine X.dup 27 (zi93 26) rfl rfl rfl ?_
        refine X.getI 30 7 (zi93 27) rfl rfl (by decide) rfl rfl rfl ?_
        refine X.iconst 31 (zi93 30) rfl rfl (by decide) ?_
        refine X.iadd 32 (zi93 31) rfl rfl (by omega) ?_
        refine X.putI' 35 7 (zi93 32) rfl rfl (by decide) rfl rfl rfl (fun hrm513 m513 hm513 => ?_)
        have hJ514 := w41_7 hJ hm513 (by omega) hf19 hg4
        have em513 : m513 4 41 7 = ((m 4 41 7) + 1) := by rw [hm513]; exact z_upd_same _ _ _ _ _
        refine X.goto 0 (zi93 35) rfl rfl ?_
        exact ih  m513 (B) (hJ514.up (by omega)) (by omega)  (by omega) (Eq.trans hR (Eq.trans (if_neg h510) (Eq.trans (if_pos h512) (Eq.trans (zs_eq hm513) rfl))))
-- WorkMeter$CalendarText.skipBlanks
noncomputable def f93_1 (m : zM) : zM :=
  fl93_0_1 (fun m501 =>
  m501) (zfu 301) m
-- WorkMeter$CalendarText.skipBlanks
theorem c93_1 {s : Nat × (Nat → Int32)} {S : zS} {m0 m : zM} {B : Int} {d : Nat} {Q : Option zV → zM → Prop} (hd : 13 ≤ d) (hJ : J S m0 B m) (hB : B + 0 ≤ 1000000000) (hf19 : ¬ S.1 19) (hg4 : ¬ S.2.1 4) (hQ : ∀ m', f93_1 m = m' → J S m0 (B) m' → Q none m') : X (EE s) d 93 0 [(0, zr 4 41)] [] m Q := by
  have hz301 := zfu_eq 301
  have zf505 := r41_7 hJ 4
  refine l93_0_1 (s := s) (d := d) (R0 := (f93_1 m))    (BE := B + 0) (by omega) (by omega) hf19 hg4 (fun  m501 B502 hJ503 hBB502 hR504 => ?_) (zfu 301)  m (B) (hJ.up (by omega)) (by omega)  (by omega) rfl
  refine X.retv (zi93 38) rfl t93 ?_
  exact hQ  m501  (Eq.trans hR504 rfl) (hJ503.up (by omega)) 
noncomputable def fl95_5_1_b (self : Int → Int) (k41 : Int → Int) (m : zM) (y1 : Int) : Int :=
  if (m 4 41 3) ≤ y1 then
  (k41 y1)
  else
  (if (m 4 42 y1) < 97 then
  (k41 y1)
  else
  (if 122 < (m 4 42 y1) then
  (k41 y1)
  else
  (self (y1 + 1))))
noncomputable def fl95_5_1 (k41 : Int → Int) (m : zM) : Nat → Int → Int
  | 0 => fun y1 => 0
  | n + 1 => fl95_5_1_b (fl95_5_1 k41 m n) k41 m
theorem l95_5_1 {s : Nat × (Nat → Int32)} {S : zS} {m0 : zM} {m : zM} {B : Int} {d : Nat} {Q : Option zV → zM → Prop} {R0 : Int} {k41 : Int → Int} (hd : 13 ≤ d) (hJ : J S m0 B m) (hB9 : B ≤ 1000000000)
    (K41 : ∀ (x1 : Int) , (0 ≤ x1 ∧ x1 ≤ 300) → R0 = k41 x1 → X (EE s) d 95 41 [(0, zr 4 41), (1, zi x1)] [] m Q) :
    ∀ (n : Nat) (y1 : Int) , (0 ≤ y1 ∧ y1 ≤ 300) → 300 - y1 < (n : Int) → R0 = fl95_5_1 k41 m n y1 → X (EE s) d 95 5 [(0, zr 4 41), (1, zi y1)] [] m Q := by
  intro n
  induction n with
  | zero =>
    intro y1 hy1 hn hR
    exfalso
    omega
  | succ n ih =>
    intro y1 hy1 hn hR
    replace hR : R0 = fl95_5_1_b (fl95_5_1 k41 m n) k41 m y1 := hR
    refine X.iload_n 6 (zi95 5) rfl rfl rfl ?_
    refine X.aload_n 7 (zi95 6) rfl rfl rfl ?_
    refine X.getI 10 3 (zi95 7) rfl rfl (by decide) rfl rfl rfl ?_
    have h507 := r41_3 hJ 4
    refine X.icmpge 41 13 (zi95 10) rfl rfl rfl (fun h508 => ?_) (fun h508 => ?_)
    · exact K41 y1 (by first | trivial | omega) (Eq.trans hR (Eq.trans (if_pos h508) rfl))
    · refine X.aload_n 14 (zi95 13) rfl rfl rfl ?_
      refine X.getF 17 (zi95 14) rfl rfl (by decide) rfl rfl ?_
      refine X.iload_n 18 (zi95 17) rfl rfl rfl ?_
      refine X.iald 19 (zi95 18) rfl rfl (by decide) rfl (by omega) ?_
      have h509 := r42_0 hJ 4 (i := y1) (by omega)
      refine X.bipush 21 (zi95 19) rfl rfl (by decide) ?_
      refine X.icmplt 41 24 (zi95 21) rfl rfl rfl (fun h510 => ?_) (fun h510 => ?_)
      · exact K41 y1 (by first | trivial | omega) (Eq.trans hR (Eq.trans (if_neg h508) (Eq.trans (if_pos h510) rfl)))
      · refine X.aload_n 25 (zi95 24) rfl rfl rfl ?_
        refine X.getF 28 (zi95 25) rfl rfl (by decide) rfl rfl ?_
        refine X.iload_n 29 (zi95 28) rfl rfl rfl ?_
        refine X.iald 30 (zi95 29) rfl rfl (by decide) rfl (by omega) ?_
        refine X.bipush 32 (zi95 30) rfl rfl (by decide) ?_
        refine X.icmpgt 41 35 (zi95 32) rfl rfl rfl (fun h511 => ?_) (fun h511 => ?_)
        · exact K41 y1 (by first | trivial | omega) (Eq.trans hR (Eq.trans (if_neg h508) (Eq.trans (if_neg h510) (Eq.trans (if_pos h511) rfl))))
        · refine X.iinc 38 [(0, zr 4 41), (1, zi (y1 + 1))] (zi95 35) rfl rfl rfl (by omega) rfl ?_
          refine X.goto 5 (zi95 38) rfl rfl ?_
          exact ih (y1 + 1) (by omega) (by omega) (Eq.trans hR (Eq.trans (if_neg h508) (Eq.trans (if_neg h510) (Eq.trans (if_neg h511) rfl))))
-- WorkMeter$CalendarText.lettersHere
noncomputable def f95_1 (m : zM) : Int :=
  fl95_5_1 (fun y502 =>
  (y502 - (m 4 41 7))) m (zfu 301) (m 4 41 7)
-- WorkMeter$CalendarText.lettersHere
theorem c95_1 {s : Nat × (Nat → Int32)} {S : zS} {m0 m : zM} {B : Int} {d : Nat} {Q : Option zV → zM → Prop} (hd : 13 ≤ d) (hJ : J S m0 B m) (hB : B + 0 ≤ 1000000000) (hQ : ∀ (v : Int), ((-300) ≤ v ∧ v ≤ 300) → f95_1 m = v → Q (some (zi v)) m) : X (EE s) d 95 0 [(0, zr 4 41)] [] m Q := by
  refine X.aload_n 1 (zi95 0) rfl rfl rfl ?_
  refine X.getI 4 7 (zi95 1) rfl rfl (by decide) rfl rfl rfl ?_
  have h501 := r41_7 hJ 4
  refine X.istore_n 5 [(0, zr 4 41), (1, zi (m 4 41 7))] (zi95 4) rfl rfl rfl ?_
  have hz301 := zfu_eq 301
  refine l95_5_1 (s := s) (m := m) (B := B) (d := d) (R0 := (f95_1 m))    (by omega) (hJ.up (by omega)) (by omega) (fun y502 hby502 hR506 => ?_) (zfu 301) (m 4 41 7) (by omega) (by omega) rfl
  refine X.iload_n 42 (zi95 41) rfl rfl rfl ?_
  refine X.aload_n 43 (zi95 42) rfl rfl rfl ?_
  refine X.getI 46 7 (zi95 43) rfl rfl (by decide) rfl rfl rfl ?_
  refine X.isub 47 (zi95 46) rfl rfl (by omega) ?_
  refine X.reti (zi95 47) rfl t95 ?_
  exact hQ (y502 - (m 4 41 7)) (by first | trivial | omega) (Eq.trans hR506 rfl) 
noncomputable def fl96_25_1_b (self : Int → Int) (k49 : Int → Int) (k57 : Int) (y2 : Int) (m : zM) (y3 : Int) : Int :=
  if y2 ≤ y3 then
  (k57)
  else
  (zn (zch 4 y3) fun z509 =>
  if (m 4 42 ((m 4 41 7) + y3)) = z509 then
  (self (y3 + 1))
  else
  (k49 y3))
noncomputable def fl96_25_1 (k49 : Int → Int) (k57 : Int) (y2 : Int) (m : zM) : Nat → Int → Int
  | 0 => fun y3 => 0
  | n + 1 => fl96_25_1_b (fl96_25_1 k49 k57 y2 m n) k49 k57 y2 m
theorem l96_25_1 {s : Nat × (Nat → Int32)} {S : zS} {m0 : zM} {m : zM} {B : Int} {d : Nat} {Q : Option zV → zM → Prop} {R0 : Int} {k49 : Int → Int} {k57 : Int} (y2 : Int) (hd : 13 ≤ d) (hJ : J S m0 B m) (hB9 : B ≤ 1000000000) (hy2 : 5 ≤ y2 ∧ y2 ≤ 5)
    (K49 : ∀ (x3 : Int) , (0 ≤ x3 ∧ x3 ≤ 4) → (m 4 41 7 + y2 ≤ 300) → R0 = k49 x3 → X (EE s) d 96 49 [(0, zr 4 41), (1, zr 99 4), (2, zi y2), (3, zi x3)] [] m Q)
    (K57 : (m 4 41 7 + y2 ≤ 300) → R0 = k57 → X (EE s) d 96 57 [] [] m Q) :
    ∀ (n : Nat) (y3 : Int) , (0 ≤ y3 ∧ y3 ≤ 5) → (m 4 41 7 + y2 ≤ 300) → 5 - y3 < (n : Int) → R0 = fl96_25_1 k49 k57 y2 m n y3 → X (EE s) d 96 25 [(0, zr 4 41), (1, zr 99 4), (2, zi y2), (3, zi y3)] [] m Q := by
  intro n
  induction n with
  | zero =>
    intro y3 hy3 hr0 hn hR
    exfalso
    omega
  | succ n ih =>
    intro y3 hy3 hr0 hn hR
    replace hR : R0 = fl96_25_1_b (fl96_25_1 k49 k57 y2 m n) k49 k57 y2 m y3 := hR
    refine X.iload_n 26 (zi96 25) rfl rfl rfl ?_
    refine X.iload_n 27 (zi96 26) rfl rfl rfl ?_
    refine X.icmpge 57 30 (zi96 27) rfl rfl rfl (fun h506 => ?_) (fun h506 => ?_)
    · refine X.cut [] (zi96 57) rfl ?_
      exact K57  (by omega) (Eq.trans hR (Eq.trans (if_pos h506) rfl))
    · refine X.aload_n 31 (zi96 30) rfl rfl rfl ?_
      refine X.getF 34 (zi96 31) rfl rfl (by decide) rfl rfl ?_
      refine X.aload_n 35 (zi96 34) rfl rfl rfl ?_
      refine X.getI 38 7 (zi96 35) rfl rfl (by decide) rfl rfl rfl ?_
      have h507 := r41_7 hJ 4
      refine X.iload_n 39 (zi96 38) rfl rfl rfl ?_
      refine X.iadd 40 (zi96 39) rfl rfl (by omega) ?_
      refine X.iald 41 (zi96 40) rfl rfl (by decide) rfl (by omega) ?_
      have h508 := r42_0 hJ 4 (i := ((m 4 41 7) + y3)) (by omega)
      refine X.aload_n 42 (zi96 41) rfl rfl rfl ?_
      refine X.iload_n 43 (zi96 42) rfl rfl rfl ?_
      refine X.schar 46 (zi96 43) rfl rfl (by omega) (Nat.le_of_ble_eq_true rfl) (by decide) (by show 0 ≤ _ ∧ _ < (5 : Int); omega) ?_
      obtain ⟨z509, ez509⟩ : ∃ z, z = zch 4 y3 := ⟨_, rfl⟩
      show X (EE s) d 96 46 [(0, zr 4 41), (1, zr 99 4), (2, zi y2), (3, zi y3)] [zi (zch 4 y3), zi (m 4 42 ((m 4 41 7) + y3))] m _
      rw [← ez509]
      refine X.icmpeq 51 49 (zi96 46) rfl rfl rfl (fun h510 => ?_) (fun h510 => ?_)
      · refine X.iinc 54 [(0, zr 4 41), (1, zr 99 4), (2, zi y2), (3, zi (y3 + 1))] (zi96 51) rfl rfl rfl (by omega) rfl ?_
        refine X.goto 25 (zi96 54) rfl rfl ?_
        exact ih (y3 + 1) (by omega) (by omega) (by omega) (Eq.trans hR (Eq.trans (if_neg h506) (Eq.trans (zn_eq ez509) (Eq.trans (if_pos h510) rfl))))
      · exact K49 y3 (by first | trivial | omega) (by omega) (Eq.trans hR (Eq.trans (if_neg h506) (Eq.trans (zn_eq ez509) (Eq.trans (if_neg h510) rfl))))
-- WorkMeter$CalendarText.spells
noncomputable def f96_1 (a2 : Int) (m : zM) : Int :=
  if a2 = 5 then
  (if ((m 4 41 7) + a2) ≤ (m 4 41 3) then
  (fl96_25_1 (fun y505 =>
  0) (1) a2 m (zfu 6) 0)
  else
  (0))
  else
  (0)
-- WorkMeter$CalendarText.spells
theorem c96_1 {s : Nat × (Nat → Int32)} {S : zS} {m0 m : zM} {B : Int} {d : Nat} {Q : Option zV → zM → Prop} (a2 : Int) (hd : 13 ≤ d) (hJ : J S m0 B m) (hB : B + 0 ≤ 1000000000) (ha2 : (-300) ≤ a2 ∧ a2 ≤ 300) (hQ : ∀ (v : Int), (0 ≤ v ∧ v ≤ 1) → f96_1 a2 m = v → (v = 1 → m 4 41 7 + 5 ≤ 300) → Q (some (zi v)) m) : X (EE s) d 96 0 [(0, zr 4 41), (1, zr 99 4), (2, zi a2)] [] m Q := by
  have f0 := r41_3 hJ 4
  refine X.iload_n 1 (zi96 0) rfl rfl rfl ?_
  refine X.aload_n 2 (zi96 1) rfl rfl rfl ?_
  refine X.slen 5 (zi96 2) rfl rfl (by omega) (Nat.le_of_ble_eq_true rfl) (by decide) (show (5 : Nat) < 2147483648 by decide) ?_
  show X (EE s) d 96 5 [(0, zr 4 41), (1, zr 99 4), (2, zi a2)] [zi 5, zi a2] m _
  refine X.icmpne 21 8 (zi96 5) rfl rfl rfl (fun h501 => ?_) (fun h501 => ?_)
  · refine X.cut [] (zi96 21) rfl ?_
    refine X.iconst 22 (zi96 21) rfl rfl (by decide) ?_
    refine X.retz (zi96 22) rfl t96 (by omega) ?_
    exact hQ 0 (by first | trivial | omega) (Eq.trans (if_neg h501) rfl) (by omega)
  · refine X.aload_n 9 (zi96 8) rfl rfl rfl ?_
    refine X.getI 12 7 (zi96 9) rfl rfl (by decide) rfl rfl rfl ?_
    have h502 := r41_7 hJ 4
    refine X.iload_n 13 (zi96 12) rfl rfl rfl ?_
    refine X.iadd 14 (zi96 13) rfl rfl (by omega) ?_
    refine X.aload_n 15 (zi96 14) rfl rfl rfl ?_
    refine X.getI 18 3 (zi96 15) rfl rfl (by decide) rfl rfl rfl ?_
    have h503 := r41_3 hJ 4
    refine X.icmple 23 21 (zi96 18) rfl rfl rfl (fun h504 => ?_) (fun h504 => ?_)
    · refine X.iconst 24 (zi96 23) rfl rfl (by decide) ?_
      refine X.istore_n 25 [(0, zr 4 41), (1, zr 99 4), (2, zi a2), (3, zi 0)] (zi96 24) rfl rfl rfl ?_
      have hz6 := zfu_eq 6
      refine l96_25_1 (s := s) (m := m) (B := B) (d := d) (R0 := (f96_1 a2 m))  a2  (by omega) (hJ.up (by omega)) (by omega) (by omega) (fun y505 hby505 hrlm506_0 hR509 => ?_) (fun  hrlm510_0 hR513 => ?_) (zfu 6) 0 (by omega) (by omega) (by omega) (Eq.trans (if_pos h501) (Eq.trans (if_pos h504) rfl))
      · refine X.iconst 50 (zi96 49) rfl rfl (by decide) ?_
        refine X.retz (zi96 50) rfl t96 (by omega) ?_
        exact hQ 0 (by first | trivial | omega) (Eq.trans hR509 rfl) (by omega)
      · refine X.iconst 58 (zi96 57) rfl rfl (by decide) ?_
        refine X.retz (zi96 58) rfl t96 (by omega) ?_
        exact hQ 1 (by first | trivial | omega) (Eq.trans hR513 rfl) (by omega)
    · refine X.cut [] (zi96 21) rfl ?_
      refine X.iconst 22 (zi96 21) rfl rfl (by decide) ?_
      refine X.retz (zi96 22) rfl t96 (by omega) ?_
      exact hQ 0 (by first | trivial | omega) (Eq.trans (if_pos h501) (Eq.trans (if_neg h504) rfl)) (by omega)
noncomputable def fl96_25_2_b (self : Int → Int) (k49 : Int → Int) (k57 : Int) (y2 : Int) (m : zM) (y3 : Int) : Int :=
  if y2 ≤ y3 then
  (k57)
  else
  (zn (zch 5 y3) fun z509 =>
  if (m 4 42 ((m 4 41 7) + y3)) = z509 then
  (self (y3 + 1))
  else
  (k49 y3))
noncomputable def fl96_25_2 (k49 : Int → Int) (k57 : Int) (y2 : Int) (m : zM) : Nat → Int → Int
  | 0 => fun y3 => 0
  | n + 1 => fl96_25_2_b (fl96_25_2 k49 k57 y2 m n) k49 k57 y2 m
theorem l96_25_2 {s : Nat × (Nat → Int32)} {S : zS} {m0 : zM} {m : zM} {B : Int} {d : Nat} {Q : Option zV → zM → Prop} {R0 : Int} {k49 : Int → Int} {k57 : Int} (y2 : Int) (hd : 13 ≤ d) (hJ : J S m0 B m) (hB9 : B ≤ 1000000000) (hy2 : 6 ≤ y2 ∧ y2 ≤ 6)
    (K49 : ∀ (x3 : Int) , (0 ≤ x3 ∧ x3 ≤ 5) → (m 4 41 7 + y2 ≤ 300) → R0 = k49 x3 → X (EE s) d 96 49 [(0, zr 4 41), (1, zr 99 5), (2, zi y2), (3, zi x3)] [] m Q)
    (K57 : (m 4 41 7 + y2 ≤ 300) → R0 = k57 → X (EE s) d 96 57 [] [] m Q) :
    ∀ (n : Nat) (y3 : Int) , (0 ≤ y3 ∧ y3 ≤ 6) → (m 4 41 7 + y2 ≤ 300) → 6 - y3 < (n : Int) → R0 = fl96_25_2 k49 k57 y2 m n y3 → X (EE s) d 96 25 [(0, zr 4 41), (1, zr 99 5), (2, zi y2), (3, zi y3)] [] m Q := by
  intro n
  induction n with
  | zero =>
    intro y3 hy3 hr0 hn hR
    exfalso
    omega
  | succ n ih =>
    intro y3 hy3 hr0 hn hR
    replace hR : R0 = fl96_25_2_b (fl96_25_2 k49 k57 y2 m n) k49 k57 y2 m y3 := hR
    refine X.iload_n 26 (zi96 25) rfl rfl rfl ?_
    refine X.iload_n 27 (zi96 26) rfl rfl rfl ?_
    refine X.icmpge 57 30 (zi96 27) rfl rfl rfl (fun h506 => ?_) (fun h506 => ?_)
    · refine X.cut [] (zi96 57) rfl ?_
      exact K57  (by omega) (Eq.trans hR (Eq.trans (if_pos h506) rfl))
    · refine X.aload_n 31 (zi96 30) rfl rfl rfl ?_
      refine X.getF 34 (zi96 31) rfl rfl (by decide) rfl rfl ?_
      refine X.aload_n 35 (zi96 34) rfl rfl rfl ?_
      refine X.getI 38 7 (zi96 35) rfl rfl (by decide) rfl rfl rfl ?_
      have h507 := r41_7 hJ 4
      refine X.iload_n 39 (zi96 38) rfl rfl rfl ?_
      refine X.iadd 40 (zi96 39) rfl rfl (by omega) ?_
      refine X.iald 41 (zi96 40) rfl rfl (by decide) rfl (by omega) ?_
      have h508 := r42_0 hJ 4 (i := ((m 4 41 7) + y3)) (by omega)
      refine X.aload_n 42 (zi96 41) rfl rfl rfl ?_
      refine X.iload_n 43 (zi96 42) rfl rfl rfl ?_
      refine X.schar 46 (zi96 43) rfl rfl (by omega) (Nat.le_of_ble_eq_true rfl) (by decide) (by show 0 ≤ _ ∧ _ < (6 : Int); omega) ?_
      obtain ⟨z509, ez509⟩ : ∃ z, z = zch 5 y3 := ⟨_, rfl⟩
      show X (EE s) d 96 46 [(0, zr 4 41), (1, zr 99 5), (2, zi y2), (3, zi y3)] [zi (zch 5 y3), zi (m 4 42 ((m 4 41 7) + y3))] m _
      rw [← ez509]
      refine X.icmpeq 51 49 (zi96 46) rfl rfl rfl (fun h510 => ?_) (fun h510 => ?_)
      · refine X.iinc 54 [(0, zr 4 41), (1, zr 99 5), (2, zi y2), (3, zi (y3 + 1))] (zi96 51) rfl rfl rfl (by omega) rfl ?_
        refine X.goto 25 (zi96 54) rfl rfl ?_
        exact ih (y3 + 1) (by omega) (by omega) (by omega) (Eq.trans hR (Eq.trans (if_neg h506) (Eq.trans (zn_eq ez509) (Eq.trans (if_pos h510) rfl))))
      · exact K49 y3 (by first | trivial | omega) (by omega) (Eq.trans hR (Eq.trans (if_neg h506) (Eq.trans (zn_eq ez509) (Eq.trans (if_neg h510) rfl))))
-- WorkMeter$CalendarText.spells
noncomputable def f96_2 (a2 : Int) (m : zM) : Int :=
  if a2 = 6 then
  (if ((m 4 41 7) + a2) ≤ (m 4 41 3) then
  (fl96_25_2 (fun y505 =>
  0) (1) a2 m (zfu 7) 0)
  else
  (0))
  else
  (0)
-- WorkMeter$CalendarText.spells
theorem c96_2 {s : Nat × (Nat → Int32)} {S : zS} {m0 m : zM} {B : Int} {d : Nat} {Q : Option zV → zM → Prop} (a2 : Int) (hd : 13 ≤ d) (hJ : J S m0 B m) (hB : B + 0 ≤ 1000000000) (ha2 : (-300) ≤ a2 ∧ a2 ≤ 300) (hQ : ∀ (v : Int), (0 ≤ v ∧ v ≤ 1) → f96_2 a2 m = v → (v = 1 → m 4 41 7 + 6 ≤ 300) → Q (some (zi v)) m) : X (EE s) d 96 0 [(0, zr 4 41), (1, zr 99 5), (2, zi a2)] [] m Q := by
  have f0 := r41_3 hJ 4
  refine X.iload_n 1 (zi96 0) rfl rfl rfl ?_
  refine X.aload_n 2 (zi96 1) rfl rfl rfl ?_
  refine X.slen 5 (zi96 2) rfl rfl (by omega) (Nat.le_of_ble_eq_true rfl) (by decide) (show (6 : Nat) < 2147483648 by decide) ?_
  show X (EE s) d 96 5 [(0, zr 4 41), (1, zr 99 5), (2, zi a2)] [zi 6, zi a2] m _
  refine X.icmpne 21 8 (zi96 5) rfl rfl rfl (fun h501 => ?_) (fun h501 => ?_)
  · refine X.cut [] (zi96 21) rfl ?_
    refine X.iconst 22 (zi96 21) rfl rfl (by decide) ?_
    refine X.retz (zi96 22) rfl t96 (by omega) ?_
    exact hQ 0 (by first | trivial | omega) (Eq.trans (if_neg h501) rfl) (by omega)
  · refine X.aload_n 9 (zi96 8) rfl rfl rfl ?_
    refine X.getI 12 7 (zi96 9) rfl rfl (by decide) rfl rfl rfl ?_
    have h502 := r41_7 hJ 4
    refine X.iload_n 13 (zi96 12) rfl rfl rfl ?_
    refine X.iadd 14 (zi96 13) rfl rfl (by omega) ?_
    refine X.aload_n 15 (zi96 14) rfl rfl rfl ?_
    refine X.getI 18 3 (zi96 15) rfl rfl (by decide) rfl rfl rfl ?_
    have h503 := r41_3 hJ 4
    refine X.icmple 23 21 (zi96 18) rfl rfl rfl (fun h504 => ?_) (fun h504 => ?_)
    · refine X.iconst 24 (zi96 23) rfl rfl (by decide) ?_
      refine X.istore_n 25 [(0, zr 4 41), (1, zr 99 5), (2, zi a2), (3, zi 0)] (zi96 24) rfl rfl rfl ?_
      have hz7 := zfu_eq 7
      refine l96_25_2 (s := s) (m := m) (B := B) (d := d) (R0 := (f96_2 a2 m))  a2  (by omega) (hJ.up (by omega)) (by omega) (by omega) (fun y505 hby505 hrlm506_0 hR509 => ?_) (fun  hrlm510_0 hR513 => ?_) (zfu 7) 0 (by omega) (by omega) (by omega) (Eq.trans (if_pos h501) (Eq.trans (if_pos h504) rfl))
      · refine X.iconst 50 (zi96 49) rfl rfl (by decide) ?_
        refine X.retz (zi96 50) rfl t96 (by omega) ?_
        exact hQ 0 (by first | trivial | omega) (Eq.trans hR509 rfl) (by omega)
      · refine X.iconst 58 (zi96 57) rfl rfl (by decide) ?_
        refine X.retz (zi96 58) rfl t96 (by omega) ?_
        exact hQ 1 (by first | trivial | omega) (Eq.trans hR513 rfl) (by omega)
    · refine X.cut [] (zi96 21) rfl ?_
      refine X.iconst 22 (zi96 21) rfl rfl (by decide) ?_
      refine X.retz (zi96 22) rfl t96 (by omega) ?_
      exact hQ 0 (by first | trivial | omega) (Eq.trans (if_pos h501) (Eq.trans (if_neg h504) rfl)) (by omega)
noncomputable def fl96_25_3_b (self : Int → Int) (k49 : Int → Int) (k57 : Int) (y2 : Int) (m : zM) (y3 : Int) : Int :=
  if y2 ≤ y3 then
  (k57)
  else
  (zn (zch 6 y3) fun z509 =>
  if (m 4 42 ((m 4 41 7) + y3)) = z509 then
  (self (y3 + 1))
  else
  (k49 y3))
noncomputable def fl96_25_3 (k49 : Int → Int) (k57 : Int) (y2 : Int) (m : zM) : Nat → Int → Int
  | 0 => fun y3 => 0
  | n + 1 => fl96_25_3_b (fl96_25_3 k49 k57 y2 m n) k49 k57 y2 m
theorem l96_25_3 {s : Nat × (Nat → Int32)} {S : zS} {m0 : zM} {m : zM} {B : Int} {d : Nat} {Q : Option zV → zM → Prop} {R0 : Int} {k49 : Int → Int} {k57 : Int} (y2 : Int) (hd : 13 ≤ d) (hJ : J S m0 B m) (hB9 : B ≤ 1000000000) (hy2 : 7 ≤ y2 ∧ y2 ≤ 7)
    (K49 : ∀ (x3 : Int) , (0 ≤ x3 ∧ x3 ≤ 6) → (m 4 41 7 + y2 ≤ 300) → R0 = k49 x3 → X (EE s) d 96 49 [(0, zr 4 41), (1, zr 99 6), (2, zi y2), (3, zi x3)] [] m Q)
    (K57 : (m 4 41 7 + y2 ≤ 300) → R0 = k57 → X (EE s) d 96 57 [] [] m Q) :
    ∀ (n : Nat) (y3 : Int) , (0 ≤ y3 ∧ y3 ≤ 7) → (m 4 41 7 + y2 ≤ 300) → 7 - y3 < (n : Int) → R0 = fl96_25_3 k49 k57 y2 m n y3 → X (EE s) d 96 25 [(0, zr 4 41), (1, zr 99 6), (2, zi y2), (3, zi y3)] [] m Q := by
  intro n
  induction n with
  | zero =>
    intro y3 hy3 hr0 hn hR
    exfalso
    omega
  | succ n ih =>
    intro y3 hy3 hr0 hn hR
    replace hR : R0 = fl96_25_3_b (fl96_25_3 k49 k57 y2 m n) k49 k57 y2 m y3 := hR
    refine X.iload_n 26 (zi96 25) rfl rfl rfl ?_
    refine X.iload_n 27 (zi96 26) rfl rfl rfl ?_
    refine X.icmpge 57 30 (zi96 27) rfl rfl rfl (fun h506 => ?_) (fun h506 => ?_)
    · refine X.cut [] (zi96 57) rfl ?_
      exact K57  (by omega) (Eq.trans hR (Eq.trans (if_pos h506) rfl))
    · refine X.aload_n 31 (zi96 30) rfl rfl rfl ?_
      refine X.getF 34 (zi96 31) rfl rfl (by decide) rfl rfl ?_
      refine X.aload_n 35 (zi96 34) rfl rfl rfl ?_
      refine X.getI 38 7 (zi96 35) rfl rfl (by decide) rfl rfl rfl ?_
      have h507 := r41_7 hJ 4
      refine X.iload_n 39 (zi96 38) rfl rfl rfl ?_
      refine X.iadd 40 (zi96 39) rfl rfl (by omega) ?_
      refine X.iald 41 (zi96 40) rfl rfl (by decide) rfl (by omega) ?_
      have h508 := r42_0 hJ 4 (i := ((m 4 41 7) + y3)) (by omega)
      refine X.aload_n 42 (zi96 41) rfl rfl rfl ?_
      refine X.iload_n 43 (zi96 42) rfl rfl rfl ?_
      refine X.schar 46 (zi96 43) rfl rfl (by omega) (Nat.le_of_ble_eq_true rfl) (by decide) (by show 0 ≤ _ ∧ _ < (7 : Int); omega) ?_
      obtain ⟨z509, ez509⟩ : ∃ z, z = zch 6 y3 := ⟨_, rfl⟩
      show X (EE s) d 96 46 [(0, zr 4 41), (1, zr 99 6), (2, zi y2), (3, zi y3)] [zi (zch 6 y3), zi (m 4 42 ((m 4 41 7) + y3))] m _
      rw [← ez509]
      refine X.icmpeq 51 49 (zi96 46) rfl rfl rfl (fun h510 => ?_) (fun h510 => ?_)
      · refine X.iinc 54 [(0, zr 4 41), (1, zr 99 6), (2, zi y2), (3, zi (y3 + 1))] (zi96 51) rfl rfl rfl (by omega) rfl ?_
        refine X.goto 25 (zi96 54) rfl rfl ?_
        exact ih (y3 + 1) (by omega) (by omega) (by omega) (Eq.trans hR (Eq.trans (if_neg h506) (Eq.trans (zn_eq ez509) (Eq.trans (if_pos h510) rfl))))
      · exact K49 y3 (by first | trivial | omega) (by omega) (Eq.trans hR (Eq.trans (if_neg h506) (Eq.trans (zn_eq ez509) (Eq.trans (if_neg h510) rfl))))
-- WorkMeter$CalendarText.spells
noncomputable def f96_3 (a2 : Int) (m : zM) : Int :=
  if a2 = 7 then
  (if ((m 4 41 7) + a2) ≤ (m 4 41 3) then
  (fl96_25_3 (fun y505 =>
  0) (1) a2 m (zfu 8) 0)
  else
  (0))
  else
  (0)
-- WorkMeter$CalendarText.spells
theorem c96_3 {s : Nat × (Nat → Int32)} {S : zS} {m0 m : zM} {B : Int} {d : Nat} {Q : Option zV → zM → Prop} (a2 : Int) (hd : 13 ≤ d) (hJ : J S m0 B m) (hB : B + 0 ≤ 1000000000) (ha2 : (-300) ≤ a2 ∧ a2 ≤ 300) (hQ : ∀ (v : Int), (0 ≤ v ∧ v ≤ 1) → f96_3 a2 m = v → (v = 1 → m 4 41 7 + 7 ≤ 300) → Q (some (zi v)) m) : X (EE s) d 96 0 [(0, zr 4 41), (1, zr 99 6), (2, zi a2)] [] m Q := by
  have f0 := r41_3 hJ 4
  refine X.iload_n 1 (zi96 0) rfl rfl rfl ?_
  refine X.aload_n 2 (zi96 1) rfl rfl rfl ?_
  refine X.slen 5 (zi96 2) rfl rfl (by omega) (Nat.le_of_ble_eq_true rfl) (by decide) (show (7 : Nat) < 2147483648 by decide) ?_
  show X (EE s) d 96 5 [(0, zr 4 41), (1, zr 99 6), (2, zi a2)] [zi 7, zi a2] m _
  refine X.icmpne 21 8 (zi96 5) rfl rfl rfl (fun h501 => ?_) (fun h501 => ?_)
  · refine X.cut [] (zi96 21) rfl ?_
    refine X.iconst 22 (zi96 21) rfl rfl (by decide) ?_
    refine X.retz (zi96 22) rfl t96 (by omega) ?_
    exact hQ 0 (by first | trivial | omega) (Eq.trans (if_neg h501) rfl) (by omega)
  · refine X.aload_n 9 (zi96 8) rfl rfl rfl ?_
    refine X.getI 12 7 (zi96 9) rfl rfl (by decide) rfl rfl rfl ?_
    have h502 := r41_7 hJ 4
    refine X.iload_n 13 (zi96 12) rfl rfl rfl ?_
    refine X.iadd 14 (zi96 13) rfl rfl (by omega) ?_
    refine X.aload_n 15 (zi96 14) rfl rfl rfl ?_
    refine X.getI 18 3 (zi96 15) rfl rfl (by decide) rfl rfl rfl ?_
    have h503 := r41_3 hJ 4
    refine X.icmple 23 21 (zi96 18) rfl rfl rfl (fun h504 => ?_) (fun h504 => ?_)
    · refine X.iconst 24 (zi96 23) rfl rfl (by decide) ?_
      refine X.istore_n 25 [(0, zr 4 41), (1, zr 99 6), (2, zi a2), (3, zi 0)] (zi96 24) rfl rfl rfl ?_
      have hz8 := zfu_eq 8
      refine l96_25_3 (s := s) (m := m) (B := B) (d := d) (R0 := (f96_3 a2 m))  a2  (by omega) (hJ.up (by omega)) (by omega) (by omega) (fun y505 hby505 hrlm506_0 hR509 => ?_) (fun  hrlm510_0 hR513 => ?_) (zfu 8) 0 (by omega) (by omega) (by omega) (Eq.trans (if_pos h501) (Eq.trans (if_pos h504) rfl))
      · refine X.iconst 50 (zi96 49) rfl rfl (by decide) ?_
        refine X.retz (zi96 50) rfl t96 (by omega) ?_
        exact hQ 0 (by first | trivial | omega) (Eq.trans hR509 rfl) (by omega)
      · refine X.iconst 58 (zi96 57) rfl rfl (by decide) ?_
        refine X.retz (zi96 58) rfl t96 (by omega) ?_
        exact hQ 1 (by first | trivial | omega) (Eq.trans hR513 rfl) (by omega)
    · refine X.cut [] (zi96 21) rfl ?_
      refine X.iconst 22 (zi96 21) rfl rfl (by decide) ?_
      refine X.retz (zi96 22) rfl t96 (by omega) ?_
      exact hQ 0 (by first | trivial | omega) (Eq.trans (if_pos h501) (Eq.trans (if_neg h504) rfl)) (by omega)
noncomputable def fl96_25_4_b (self : Int → Int) (k49 : Int → Int) (k57 : Int) (y2 : Int) (m : zM) (y3 : Int) : Int :=
  if y2 ≤ y3 then
  (k57)
  else
  (zn (zch 7 y3) fun z509 =>
  if (m 4 42 ((m 4 41 7) + y3)) = z509 then
  (self (y3 + 1))
  else
  (k49 y3))
noncomputable def fl96_25_4 (k49 : Int → Int) (k57 : Int) (y2 : Int) (m : zM) : Nat → Int → Int
  | 0 => fun y3 => 0
  | n + 1 => fl96_25_4_b (fl96_25_4 k49 k57 y2 m n) k49 k57 y2 m
theorem l96_25_4 {s : Nat × (Nat → Int32)} {S : zS} {m0 : zM} {m : zM} {B : Int} {d : Nat} {Q : Option zV → zM → Prop} {R0 : Int} {k49 : Int → Int} {k57 : Int} (y2 : Int) (hd : 13 ≤ d) (hJ : J S m0 B m) (hB9 : B ≤ 1000000000) (hy2 : 5 ≤ y2 ∧ y2 ≤ 5)
    (K49 : ∀ (x3 : Int) , (0 ≤ x3 ∧ x3 ≤ 4) → (m 4 41 7 + y2 ≤ 300) → R0 = k49 x3 → X (EE s) d 96 49 [(0, zr 4 41), (1, zr 99 7), (2, zi y2), (3, zi x3)] [] m Q)
    (K57 : (m 4 41 7 + y2 ≤ 300) → R0 = k57 → X (EE s) d 96 57 [] [] m Q) :
    ∀ (n : Nat) (y3 : Int) , (0 ≤ y3 ∧ y3 ≤ 5) → (m 4 41 7 + y2 ≤ 300) → 5 - y3 < (n : Int) → R0 = fl96_25_4 k49 k57 y2 m n y3 → X (EE s) d 96 25 [(0, zr 4 41), (1, zr 99 7), (2, zi y2), (3, zi y3)] [] m Q := by
  intro n
  induction n with
  | zero =>
    intro y3 hy3 hr0 hn hR
    exfalso
    omega
  | succ n ih =>
    intro y3 hy3 hr0 hn hR
    replace hR : R0 = fl96_25_4_b (fl96_25_4 k49 k57 y2 m n) k49 k57 y2 m y3 := hR
    refine X.iload_n 26 (zi96 25) rfl rfl rfl ?_
    refine X.iload_n 27 (zi96 26) rfl rfl rfl ?_
    refine X.icmpge 57 30 (zi96 27) rfl rfl rfl (fun h506 => ?_) (fun h506 => ?_)
    · refine X.cut [] (zi96 57) rfl ?_
      exact K57  (by omega) (Eq.trans hR (Eq.trans (if_pos h506) rfl))
    · refine X.aload_n 31 (zi96 30) rfl rfl rfl ?_
      refine X.getF 34 (zi96 31) rfl rfl (by decide) rfl rfl ?_
      refine X.aload_n 35 (zi96 34) rfl rfl rfl ?_
      refine X.getI 38 7 (zi96 35) rfl rfl (by decide) rfl rfl rfl ?_
      have h507 := r41_7 hJ 4
      refine X.iload_n 39 (zi96 38) rfl rfl rfl ?_
      refine X.iadd 40 (zi96 39) rfl rfl (by omega) ?_
      refine X.iald 41 (zi96 40) rfl rfl (by decide) rfl (by omega) ?_
      have h508 := r42_0 hJ 4 (i := ((m 4 41 7) + y3)) (by omega)
      refine X.aload_n 42 (zi96 41) rfl rfl rfl ?_
      refine X.iload_n 43 (zi96 42) rfl rfl rfl ?_
      refine X.schar 46 (zi96 43) rfl rfl (by omega) (Nat.le_of_ble_eq_true rfl) (by decide) (by show 0 ≤ _ ∧ _ < (5 : Int); omega) ?_
      obtain ⟨z509, ez509⟩ : ∃ z, z = zch 7 y3 := ⟨_, rfl⟩
      show X (EE s) d 96 46 [(0, zr 4 41), (1, zr 99 7), (2, zi y2), (3, zi y3)] [zi (zch 7 y3), zi (m 4 42 ((m 4 41 7) + y3))] m _
      rw [← ez509]
      refine X.icmpeq 51 49 (zi96 46) rfl rfl rfl (fun h510 => ?_) (fun h510 => ?_)
      · refine X.iinc 54 [(0, zr 4 41), (1, zr 99 7), (2, zi y2), (3, zi (y3 + 1))] (zi96 51) rfl rfl rfl (by omega) rfl ?_
        refine X.goto 25 (zi96 54) rfl rfl ?_
        exact ih (y3 + 1) (by omega) (by omega) (by omega) (Eq.trans hR (Eq.trans (if_neg h506) (Eq.trans (zn_eq ez509) (Eq.trans (if_pos h510) rfl))))
      · exact K49 y3 (by first | trivial | omega) (by omega) (Eq.trans hR (Eq.trans (if_neg h506) (Eq.trans (zn_eq ez509) (Eq.trans (if_neg h510) rfl))))
-- WorkMeter$CalendarText.spells
noncomputable def f96_4 (a2 : Int) (m : zM) : Int :=
  if a2 = 5 then
  (if ((m 4 41 7) + a2) ≤ (m 4 41 3) then
  (fl96_25_4 (fun y505 =>
  0) (1) a2 m (zfu 6) 0)
  else
  (0))
  else
  (0)
-- WorkMeter$CalendarText.spells
theorem c96_4 {s : Nat × (Nat → Int32)} {S : zS} {m0 m : zM} {B : Int} {d : Nat} {Q : Option zV → zM → Prop} (a2 : Int) (hd : 13 ≤ d) (hJ : J S m0 B m) (hB : B + 0 ≤ 1000000000) (ha2 : (-300) ≤ a2 ∧ a2 ≤ 300) (hQ : ∀ (v : Int), (0 ≤ v ∧ v ≤ 1) → f96_4 a2 m = v → (v = 1 → m 4 41 7 + 5 ≤ 300) → Q (some (zi v)) m) : X (EE s) d 96 0 [(0, zr 4 41), (1, zr 99 7), (2, zi a2)] [] m Q := by
  have f0 := r41_3 hJ 4
  refine X.iload_n 1 (zi96 0) rfl rfl rfl ?_
  refine X.aload_n 2 (zi96 1) rfl rfl rfl ?_
  refine X.slen 5 (zi96 2) rfl rfl (by omega) (Nat.le_of_ble_eq_true rfl) (by decide) (show (5 : Nat) < 2147483648 by decide) ?_
  show X (EE s) d 96 5 [(0, zr 4 41), (1, zr 99 7), (2, zi a2)] [zi 5, zi a2] m _
  refine X.icmpne 21 8 (zi96 5) rfl rfl rfl (fun h501 => ?_) (fun h501 => ?_)
  · refine X.cut [] (zi96 21) rfl ?_
    refine X.iconst 22 (zi96 21) rfl rfl (by decide) ?_
    refine X.retz (zi96 22) rfl t96 (by omega) ?_
    exact hQ 0 (by first | trivial | omega) (Eq.trans (if_neg h501) rfl) (by omega)
  · refine X.aload_n 9 (zi96 8) rfl rfl rfl ?_
    refine X.getI 12 7 (zi96 9) rfl rfl (by decide) rfl rfl rfl ?_
    have h502 := r41_7 hJ 4
    refine X.iload_n 13 (zi96 12) rfl rfl rfl ?_
    refine X.iadd 14 (zi96 13) rfl rfl (by omega) ?_
    refine X.aload_n 15 (zi96 14) rfl rfl rfl ?_
    refine X.getI 18 3 (zi96 15) rfl rfl (by decide) rfl rfl rfl ?_
    have h503 := r41_3 hJ 4
    refine X.icmple 23 21 (zi96 18) rfl rfl rfl (fun h504 => ?_) (fun h504 => ?_)
    · refine X.iconst 24 (zi96 23) rfl rfl (by decide) ?_
      refine X.istore_n 25 [(0, zr 4 41), (1, zr 99 7), (2, zi a2), (3, zi 0)] (zi96 24) rfl rfl rfl ?_
      have hz6 := zfu_eq 6
      refine l96_25_4 (s := s) (m := m) (B := B) (d := d) (R0 := (f96_4 a2 m))  a2  (by omega) (hJ.up (by omega)) (by omega) (by omega) (fun y505 hby505 hrlm506_0 hR509 => ?_) (fun  hrlm510_0 hR513 => ?_) (zfu 6) 0 (by omega) (by omega) (by omega) (Eq.trans (if_pos h501) (Eq.trans (if_pos h504) rfl))
      · refine X.iconst 50 (zi96 49) rfl rfl (by decide) ?_
        refine X.retz (zi96 50) rfl t96 (by omega) ?_
        exact hQ 0 (by first | trivial | omega) (Eq.trans hR509 rfl) (by omega)
      · refine X.iconst 58 (zi96 57) rfl rfl (by decide) ?_
        refine X.retz (zi96 58) rfl t96 (by omega) ?_
        exact hQ 1 (by first | trivial | omega) (Eq.trans hR513 rfl) (by omega)
    · refine X.cut [] (zi96 21) rfl ?_
      refine X.iconst 22 (zi96 21) rfl rfl (by decide) ?_
      refine X.retz (zi96 22) rfl t96 (by omega) ?_
      exact hQ 0 (by first | trivial | omega) (Eq.trans (if_pos h501) (Eq.trans (if_neg h504) rfl)) (by omega)
-- WorkMeter$CalendarText.fail
noncomputable def f102_1 (a1 a2 : Int) (m : zM) : Int × zM :=
  zs (z_upd m 4 41 4 a1) fun m501 =>
  zs (z_upd m501 4 41 5 a2) fun m503 =>
  (0, m503)
-- WorkMeter$CalendarText.fail
theorem c102_1 {s : Nat × (Nat → Int32)} {S : zS} {m0 m : zM} {B : Int} {d : Nat} {Q : Option zV → zM → Prop} (a1 a2 : Int) (hd : 13 ≤ d) (hJ : J S m0 B m) (hB : B + 0 ≤ 1000000000) (ha1 : 1 ≤ a1 ∧ a1 ≤ 1) (ha2 : 0 ≤ a2 ∧ a2 ≤ 300) (hf16 : ¬ S.1 16) (hg4 : ¬ S.2.1 4) (hQ : ∀ (v : Int) m', (0 ≤ v ∧ v ≤ 0) → f102_1 a1 a2 m = (v, m') → J S m0 (B) m' → Q (some (zi v)) m') : X (EE s) d 102 0 [(0, zr 4 41), (1, zi a1), (2, zi a2)] [] m Q := by
  refine X.aload_n 1 (zi102 0) rfl rfl rfl ?_
  refine X.iload_n 2 (zi102 1) rfl rfl rfl ?_
  refine X.putI' 5 4 (zi102 2) rfl rfl (by decide) rfl rfl rfl (fun hrm501 m501 hm501 => ?_)
  have hJ502 := w41_4 hJ hm501 (by omega) hrm501 hf16 hg4
  refine X.aload_n 6 (zi102 5) rfl rfl rfl ?_
  refine X.iload_n 7 (zi102 6) rfl rfl rfl ?_
  refine X.putI' 10 5 (zi102 7) rfl rfl (by decide) rfl rfl rfl (fun hrm503 m503 hm503 => ?_)
  have hJ504 := w41_4 hJ502 hm503 (by omega) hrm503 hf16 hg4
  refine X.iconst 11 (zi102 10) rfl rfl (by decide) ?_
  refine X.retz (zi102 11) rfl t102 (by omega) ?_
  exact hQ 0 m503 (by first | trivial | omega) (Eq.trans (zs_eq hm501) (Eq.trans (zs_eq hm503) rfl)) (hJ504.up (by omega)) 
noncomputable def fl100_14_1_b (self : Int → zM → Int × zM) (k76 : Int → zM → Int × zM) (y1 : Int) (y2 : Int) (m : zM) : Int × zM :=
  if (m 4 41 3) ≤ (m 4 41 7) then
  (k76 y2 m)
  else
  (if (m 4 42 (m 4 41 7)) < 48 then
  (k76 y2 m)
  else
  (if 57 < (m 4 42 (m 4 41 7)) then
  (k76 y2 m)
  else
  (zs (z_upd m 4 41 7 ((m 4 41 7) + 1)) fun m521 =>
  self (min (((y2 * 10) + (m 4 42 (m 4 41 7))) - 48) 1000000) m521)))
noncomputable def fl100_14_1 (k76 : Int → zM → Int × zM) (y1 : Int) : Nat → Int → zM → Int × zM
  | 0 => fun y2 m => (0, m)
  | n + 1 => fl100_14_1_b (fl100_14_1 k76 y1 n) k76 y1
theorem l100_14_1 {s : Nat × (Nat → Int32)} {S : zS} {m0 : zM} {d : Nat} {Q : Option zV → zM → Prop} {R0 : Int × zM} {k76 : Int → zM → Int × zM} (y1 : Int) (BE : Int) (hE : BE ≤ 1000000000) (hd : 13 ≤ d) (hy1 : 0 ≤ y1 ∧ y1 ≤ 1000) (hf19 : ¬ S.1 19) (hg4 : ¬ S.2.1 4)
    (K76 : ∀ (x2 : Int) (m' : zM) (B' : Int), J S m0 B' m' → B' ≤ BE → (0 ≤ x2 ∧ x2 ≤ 1000000) → R0 = k76 x2 m' → X (EE s) d 100 76 [(0, zr 4 41), (1, zi y1), (2, zi x2)] [] m' Q) :
    ∀ (n : Nat) (y2 : Int) (m : zM) (B : Int), J S m0 B m → B + 0 * (n : Int) ≤ BE → (0 ≤ y2 ∧ y2 ≤ 1000000) → 300 - m 4 41 7 < (n : Int) → R0 = fl100_14_1 k76 y1 n y2 m → X (EE s) d 100 14 [(0, zr 4 41), (1, zi y1), (2, zi y2)] [] m Q := by
  intro n
  induction n with
  | zero =>
    intro y2 m B hJ hB hy2 hn hR
    have zf0 := r41_7 hJ 4
    exfalso
    omega
  | succ n ih =>
    intro y2 m B hJ hB hy2 hn hR
    replace hR : R0 = fl100_14_1_b (fl100_14_1 k76 y1 n) k76 y1 y2 m := hR
    refine X.aload_n 15 (zi100 14) rfl rfl rfl ?_
    refine X.getI 18 7 (zi100 15) rfl rfl (by decide) rfl rfl rfl ?_
    have h512 := r41_7 hJ 4
    refine X.aload_n 19 (zi100 18) rfl rfl rfl ?_
    refine X.getI 22 3 (zi100 19) rfl rfl (by decide) rfl rfl rfl ?_
    have h513 := r41_3 hJ 4
    refine X.icmpge 76 25 (zi100 22) rfl rfl rfl (fun h514 => ?_) (fun h514 => ?_)
    · exact K76 y2 m (B) (hJ.up (by omega)) (by omega) (by first | trivial | omega) (Eq.trans hR (Eq.trans (if_pos h514) rfl))
    · refine X.aload_n 26 (zi100 25) rfl rfl rfl ?_
      refine X.getF 29 (zi100 26) rfl rfl (by decide) rfl rfl ?_
      refine X.aload_n 30 (zi100 29) rfl rfl rfl ?_
      refine X.getI 33 7 (zi100 30) rfl rfl (by decide) rfl rfl rfl ?_
      refine X.iald 34 (zi100 33) rfl rfl (by decide) rfl (by omega) ?_
      have h515 := r42_0 hJ 4 (i := (m 4 41 7)) (by omega)
      refine X.calls 37 [zi (m 4 42 (m 4 41 7))] [] [(0, zi (m 4 42 (m 4 41 7)))] (zi100 34) (by decide) rfl rfl (by omega) rfl rfl t101 (Nat.le_of_ble_eq_true rfl) (Nat.le_of_ble_eq_true rfl) rfl ?_
      refine X.iload_n 1 (zi101 0) rfl rfl rfl ?_
      refine X.bipush 3 (zi101 1) rfl rfl (by decide) ?_
      refine X.icmplt 16 6 (zi101 3) rfl rfl rfl (fun h516 => ?_) (fun h516 => ?_)
      · refine X.cut [] (zi101 16) rfl ?_
        refine X.iconst 17 (zi101 16) rfl rfl (by decide) ?_
        refine X.retz (zi101 17) rfl t101 (by omega) ?_
        show X (EE s) d 100 37 [(0, zr 4 41), (1, zi y1), (2, zi y2)] [zi 0] m _
        refine X.ifeq 76 40 (zi100 37) rfl rfl rfl (fun h517 => ?_) (fun h517 => (by exfalso; omega))
        exact K76 y2 m (B) (hJ.up (by omega)) (by omega) (by first | trivial | omega) (Eq.trans hR (Eq.trans (if_neg h514) (Eq.trans (if_pos h516) rfl)))
      · refine X.iload_n 7 (zi101 6) rfl rfl rfl ?_
        refine X.bipush 9 (zi101 7) rfl rfl (by decide) ?_
        refine X.icmpgt 16 12 (zi101 9) rfl rfl rfl (fun h518 => ?_) (fun h518 => ?_)
        · refine X.cut [] (zi101 16) rfl ?_
          refine X.iconst 17 (zi101 16) rfl rfl (by decide) ?_
          refine X.retz (zi101 17) rfl t101 (by omega) ?_
          show X (EE s) d 100 37 [(0, zr 4 41), (1, zi y1), (2, zi y2)] [zi 0] m _
          refine X.ifeq 76 40 (zi100 37) rfl rfl rfl (fun h519 => ?_) (fun h519 => (by exfalso; omega))
          exact K76 y2 m (B) (hJ.up (by omega)) (by omega) (by first | trivial | omega) (Eq.trans hR (Eq.trans (if_neg h514) (Eq.trans (if_neg h516) (Eq.trans (if_pos h518) rfl))))
        · refine X.iconst 13 (zi101 12) rfl rfl (by decide) ?_
          refine X.goto 17 (zi101 13) rfl rfl ?_
          refine X.cut [] (zi101 17) rfl ?_
          refine X.retz (zi101 17) rfl t101 (by omega) ?_
          show X (EE s) d 100 37 [(0, zr 4 41), (1, zi y1), (2, zi y2)] [zi 1] m _
          refine X.ifeq 76 40 (zi100 37) rfl rfl rfl (fun h520 => (by exfalso; omega)) (fun h520 => ?_)
          refine X.iload_n 41 (zi100 40) rfl rfl rfl ?_
          refine X.bipush 43 (zi100 41) rfl rfl (by decide) ?_
          refine X.imul 44 (zi100 43) rfl rfl (by omega) ?_
          refine X.aload_n 45 (zi100 44) rfl rfl rfl ?_
          refine X.getF 48 (zi100 45) rfl rfl (by decide) rfl rfl ?_
          refine X.aload_n 49 (zi100 48) rfl rfl rfl ?_
          refine X.getI 52 7 (zi100 49) rfl rfl (by decide) rfl rfl rfl ?_
          refine X.iald 53 (zi100 52) rfl rfl (by decide) rfl (by omega) ?_
          refine X.iadd 54 (zi100 53) rfl rfl (by omega) ?_
          refine X.bipush 56 (zi100 54) rfl rfl (by decide) ?_
          refine X.isub 57 (zi100 56) rfl rfl (by omega) ?_
          refine X.ldc 59 (zi100 57) rfl rfl (by decide) ?_
          refine X.minI 62 (zi100 59) rfl rfl (by omega) (Nat.le_of_ble_eq_true rfl) ?_
          refine X.istore_n 63 [(0, zr 4 41), (1, zi y1), (2, zi (min (((y2 * 10) + (m 4 42 (m 4 41 7))) - 48) 1000000))] (zi100 62) rfl rfl rfl ?_
          refine X.aload_n 64 (zi100 63) rfl rfl rfl ?_
          refine X.dup 65 (zi100 64) rfl rfl rfl ?_
          refine X.getI 68 7 (zi100 65) rfl rfl (by decide) rfl rfl rfl ?_
          refine X.iconst 69 (zi100 68) rfl rfl (by decide) ?_
          refine X.iadd 70 (zi100 69) rfl rfl (by omega) ?_
          refine X.putI' 73 7 (zi100 70) rfl rfl (by decide) rfl rfl rfl (fun hrm521 m521 hm521 => ?_)
          have hJ522 := w41_7 hJ hm521 (by omega) hf19 hg4
          have em521 : m521 4 41 7 = ((m 4 41 7) + 1) := by rw [hm521]; exact z_upd_same _ _ _ _ _
          refine X.goto 14 (zi100 73) rfl rfl ?_
          exact ih (min (((y2 * 10) + (m 4 42 (m 4 41 7))) - 48) 1000000) m521 (B) (hJ522.up (by omega)) (by omega) (by omega) (by omega) (Eq.trans hR (Eq.trans (if_neg h514) (Eq.trans (if_neg h516) (Eq.trans (if_neg h518) (Eq.trans (zs_eq hm521) rfl)))))
-- WorkMeter$CalendarText.fail
theorem c102_2 {s : Nat × (Nat → Int32)} {S : zS} {m0 m : zM} {B : Int} {d : Nat} {Q : Option zV → zM → Prop} (a1 a2 : Int) (hd : 13 ≤ d) (hJ : J S m0 B m) (hB : B + 0 ≤ 1000000000) (ha1 : 2 ≤ a1 ∧ a1 ≤ 2) (ha2 : (-2147483648) ≤ a2 ∧ a2 ≤ 2147483647) (hf16 : ¬ S.1 16) (hg4 : ¬ S.2.1 4) (hQ : ∀ (v : Int) m', (0 ≤ v ∧ v ≤ 0) → f102_1 a1 a2 m = (v, m') → J S m0 (B) m' → Q (some (zi v)) m') : X (EE s) d 102 0 [(0, zr 4 41), (1, zi a1), (2, zi a2)] [] m Q := by
  refine X.aload_n 1 (zi102 0) rfl rfl rfl ?_
  refine X.iload_n 2 (zi102 1) rfl rfl rfl ?_
  refine X.putI' 5 4 (zi102 2) rfl rfl (by decide) rfl rfl rfl (fun hrm501 m501 hm501 => ?_)
  have hJ502 := w41_4 hJ hm501 (by omega) hrm501 hf16 hg4
  refine X.aload_n 6 (zi102 5) rfl rfl rfl ?_
  refine X.iload_n 7 (zi102 6) rfl rfl rfl ?_
  refine X.putI' 10 5 (zi102 7) rfl rfl (by decide) rfl rfl rfl (fun hrm503 m503 hm503 => ?_)
  have hJ504 := w41_4 hJ502 hm503 (by omega) hrm503 hf16 hg4
  refine X.iconst 11 (zi102 10) rfl rfl (by decide) ?_
  refine X.retz (zi102 11) rfl t102 (by omega) ?_
  exact hQ 0 m503 (by first | trivial | omega) (Eq.trans (zs_eq hm501) (Eq.trans (zs_eq hm503) rfl)) (hJ504.up (by omega)) 
-- WorkMeter$CalendarText.readNumber
noncomputable def f100_1 (a1 : Int) (m : zM) : Int × zM :=
  zs (f93_1 m) fun m501 =>
  zs (z_upd m501 4 41 8 (m501 4 41 7)) fun m505 =>
  fl100_14_1 (fun y507 m508 =>
  if (m508 4 41 7) = (m508 4 41 8) then
  (zb (f102_1 1 (m508 4 41 8) m508) fun v522 m520 =>
  ((-1), m520))
  else
  (if y507 ≤ a1 then
  ((y507, m508))
  else
  (zb (f102_1 2 (m508 4 41 8) m508) fun v519 m517 =>
  ((-1), m517)))) a1 (zfu 301) 0 m505
-- WorkMeter$CalendarText.readNumber
theorem c100_1 {s : Nat × (Nat → Int32)} {S : zS} {m0 m : zM} {B : Int} {d : Nat} {Q : Option zV → zM → Prop} (a1 : Int) (hd : 14 ≤ d) (hJ : J S m0 B m) (hB : B + 0 ≤ 1000000000) (ha1 : 0 ≤ a1 ∧ a1 ≤ 1000) (hf16 : ¬ S.1 16) (hf19 : ¬ S.1 19) (hg4 : ¬ S.2.1 4) (hQ : ∀ (v : Int) m', ((-1) ≤ v ∧ v ≤ 1000) → f100_1 a1 m = (v, m') → J S m0 (B) m' → (v ≤ a1) → Q (some (zi v)) m') : X (EE s) d 100 0 [(0, zr 4 41), (1, zi a1)] [] m Q := by
  refine X.aload_n 1 (zi100 0) rfl rfl rfl ?_
  refine X.callv 4 [] [] [(0, zr 4 41)] (zi100 1) rfl (by decide) rfl rfl (by omega) rfl rfl (by decide) rfl t93 (Nat.le_of_ble_eq_true rfl) (Nat.le_of_ble_eq_true rfl) rfl ?_
  refine c93_1 (B := B)   (by omega) (hJ.up (by omega)) (by omega)  hf19 hg4 (fun m501 hFv503 hJ502 => ?_)
  show X (EE s) d 100 4 [(0, zr 4 41), (1, zi a1)] [] m501 _
  refine X.aload_n 5 (zi100 4) rfl rfl rfl ?_
  refine X.aload_n 6 (zi100 5) rfl rfl rfl ?_
  refine X.getI 9 7 (zi100 6) rfl rfl (by decide) rfl rfl rfl ?_
  have h504 := r41_7 hJ502 4
  refine X.putI' 12 8 (zi100 9) rfl rfl (by decide) rfl rfl rfl (fun hrm505 m505 hm505 => ?_)
  have hJ506 := w41_8 hJ502 hm505 (by omega) hrm505 hf19 hg4
  refine X.iconst 13 (zi100 12) rfl rfl (by decide) ?_
  refine X.istore_n 14 [(0, zr 4 41), (1, zi a1), (2, zi 0)] (zi100 13) rfl rfl rfl ?_
  have hz301 := zfu_eq 301
  have zf512 := r41_7 hJ506 4
  refine l100_14_1 (s := s) (d := d) (R0 := (f100_1 a1 m))  a1  (BE := B + 0) (by omega) (by omega) (by omega) hf19 hg4 (fun y507 m508 B509 hJ510 hBB509 hby507 hR511 => ?_) (zfu 301) 0 m505 (B) (hJ506.up (by omega)) (by omega) (by omega) (by omega) (Eq.trans (zs_eq hFv503.symm) (Eq.trans (zs_eq hm505) rfl))
  refine X.aload_n 77 (zi100 76) rfl rfl rfl ?_
  refine X.getI 80 7 (zi100 77) rfl rfl (by decide) rfl rfl rfl ?_
  have h513 := r41_7 hJ510 4
  refine X.aload_n 81 (zi100 80) rfl rfl rfl ?_
  refine X.getIr 84 8 (zi100 81) rfl rfl (by decide) rfl rfl rfl (fun h514 => ?_)
  refine X.icmpne 99 87 (zi100 84) rfl rfl rfl (fun h515 => ?_) (fun h515 => ?_)
  · refine X.iload_n 100 (zi100 99) rfl rfl rfl ?_
    refine X.iload_n 101 (zi100 100) rfl rfl rfl ?_
    refine X.icmple 116 104 (zi100 101) rfl rfl rfl (fun h516 => ?_) (fun h516 => ?_)
    · refine X.cut [(2, zi y507)] (zi100 116) rfl ?_
      refine X.iload_n 117 (zi100 116) rfl rfl rfl ?_
      refine X.reti (zi100 117) rfl t100 ?_
      exact hQ y507 m508 (by first | trivial | omega) (Eq.trans hR511 (Eq.trans (if_neg h515) (Eq.trans (if_pos h516) rfl))) (hJ510.up (by omega)) (by omega)
    · refine X.aload_n 105 (zi100 104) rfl rfl rfl ?_
      refine X.iconst 106 (zi100 105) rfl rfl (by decide) ?_
      refine X.aload_n 107 (zi100 106) rfl rfl rfl ?_
      refine X.getI 110 8 (zi100 107) rfl rfl (by decide) rfl rfl rfl ?_
      refine X.callv 113 [zi 2, zi (m508 4 41 8)] [] [(0, zr 4 41), (1, zi 2), (2, zi (m508 4 41 8))] (zi100 110) rfl (by decide) rfl rfl (by omega) rfl rfl (by decide) rfl t102 (Nat.le_of_ble_eq_true rfl) (Nat.le_of_ble_eq_true rfl) rfl ?_
      refine c102_2 (B := B509)  2 (m508 4 41 8) (by omega) (hJ510.up (by omega)) (by omega) (by omega) (by omega) hf16 hg4 (fun v519 m517 hv519 hFv519 hJ518 => ?_)
      show X (EE s) d 100 113 [(0, zr 4 41), (1, zi a1), (2, zi y507)] [zi v519] m517 _
      refine X.pop 114 (zi100 113) rfl rfl rfl ?_
      refine X.iconst 115 (zi100 114) rfl rfl (by decide) ?_
      refine X.reti (zi100 115) rfl t100 ?_
      exact hQ (-1) m517 (by first | trivial | omega) (Eq.trans hR511 (Eq.trans (if_neg h515) (Eq.trans (if_neg h516) (Eq.trans (zb_eq hFv519) rfl)))) (hJ518.up (by omega)) (by omega)
  · refine X.aload_n 88 (zi100 87) rfl rfl rfl ?_
    refine X.iconst 89 (zi100 88) rfl rfl (by decide) ?_
    refine X.aload_n 90 (zi100 89) rfl rfl rfl ?_
    refine X.getI 93 8 (zi100 90) rfl rfl (by decide) rfl rfl rfl ?_
    refine X.callv 96 [zi 1, zi (m508 4 41 8)] [] [(0, zr 4 41), (1, zi 1), (2, zi (m508 4 41 8))] (zi100 93) rfl (by decide) rfl rfl (by omega) rfl rfl (by decide) rfl t102 (Nat.le_of_ble_eq_true rfl) (Nat.le_of_ble_eq_true rfl) rfl ?_
    refine c102_1 (B := B509)  1 (m508 4 41 8) (by omega) (hJ510.up (by omega)) (by omega) (by omega) (by omega) hf16 hg4 (fun v522 m520 hv522 hFv522 hJ521 => ?_)
    show X (EE s) d 100 96 [(0, zr 4 41), (1, zi a1), (2, zi y507)] [zi v522] m520 _
    refine X.pop 97 (zi100 96) rfl rfl rfl ?_
    refine X.iconst 98 (zi100 97) rfl rfl (by decide) ?_
    refine X.reti (zi100 98) rfl t100 ?_
    exact hQ (-1) m520 (by first | trivial | omega) (Eq.trans hR511 (Eq.trans (if_pos h515) (Eq.trans (zb_eq hFv522) rfl))) (hJ521.up (by omega)) (by omega)
noncomputable def fl110_25_1_b (self : Int → zM → Int × zM) (k42 : Int → Int → zM → Int × zM) (k57 : zM → Int × zM) (y1 : Int) (m : zM) : Int × zM :=
  if 4 ≤ y1 then
  (k57 m)
  else
  (zb (f100_1 100 m) fun v511 m509 =>
  if v511 = (-1) then
  (k42 y1 v511 m509)
  else
  (zs (z_upd m509 4 43 y1 v511) fun m513 =>
  self (y1 + 1) m513))
noncomputable def fl110_25_1 (k42 : Int → Int → zM → Int × zM) (k57 : zM → Int × zM) : Nat → Int → zM → Int × zM
  | 0 => fun y1 m => (0, m)
  | n + 1 => fl110_25_1_b (fl110_25_1 k42 k57 n) k42 k57
theorem l110_25_1 {s : Nat × (Nat → Int32)} {S : zS} {m0 : zM} {d : Nat} {Q : Option zV → zM → Prop} {R0 : Int × zM} {k42 : Int → Int → zM → Int × zM} {k57 : zM → Int × zM} (BE : Int) (hE : BE ≤ 1000000000) (hd : 15 ≤ d) (hf16 : ¬ S.1 16) (hf19 : ¬ S.1 19) (hg4 : ¬ S.2.1 4)
    (K42 : ∀ (x1 x2 : Int) (m' : zM) (B' : Int), J S m0 B' m' → B' ≤ BE → (0 ≤ x1 ∧ x1 ≤ 3) → ((-1) ≤ x2 ∧ x2 ≤ (-1)) → R0 = k42 x1 x2 m' → X (EE s) d 110 42 [(0, zr 4 41), (1, zi x1), (2, zi x2)] [] m' Q)
    (K57 : ∀ (m' : zM) (B' : Int), J S m0 B' m' → B' ≤ BE → R0 = k57 m' → X (EE s) d 110 57 [(0, zr 4 41)] [] m' Q) :
    ∀ (n : Nat) (y1 : Int) (m : zM) (B : Int), J S m0 B m → B + 0 * (n : Int) ≤ BE → (0 ≤ y1 ∧ y1 ≤ 4) → 4 - y1 < (n : Int) → R0 = fl110_25_1 k42 k57 n y1 m → X (EE s) d 110 25 [(0, zr 4 41), (1, zi y1)] [] m Q := by
  intro n
  induction n with
  | zero =>
    intro y1 m B hJ hB hy1 hn hR
    exfalso
    omega
  | succ n ih =>
    intro y1 m B hJ hB hy1 hn hR
    replace hR : R0 = fl110_25_1_b (fl110_25_1 k42 k57 n) k42 k57 y1 m := hR
    refine X.iload_n 26 (zi110 25) rfl rfl rfl ?_
    refine X.iconst 27 (zi110 26) rfl rfl (by decide) ?_
    refine X.icmpge 57 30 (zi110 27) rfl rfl rfl (fun h508 => ?_) (fun h508 => ?_)
    · refine X.cut [(0, zr 4 41)] (zi110 57) rfl ?_
      exact K57  m (B) (hJ.up (by omega)) (by omega)  (Eq.trans hR (Eq.trans (if_pos h508) rfl))
    · refine X.aload_n 31 (zi110 30) rfl rfl rfl ?_
      refine X.bipush 33 (zi110 31) rfl rfl (by decide) ?_
      refine X.callv 36 [zi 100] [] [(0, zr 4 41), (1, zi 100)] (zi110 33) rfl (by decide) rfl rfl (by omega) rfl rfl (by decide) rfl t100 (Nat.le_of_ble_eq_true rfl) (Nat.le_of_ble_eq_true rfl) rfl ?_
      refine c100_1 (B := B)  100 (by omega) (hJ.up (by omega)) (by omega) (by omega) hf16 hf19 hg4 (fun v511 m509 hv511 hFv511 hJ510 hqv511_0 => ?_)
      show X (EE s) d 110 36 [(0, zr 4 41), (1, zi y1)] [zi v511] m509 _
      refine X.istore_n 37 [(0, zr 4 41), (1, zi y1), (2, zi v511)] (zi110 36) rfl rfl rfl ?_
      refine X.iload_n 38 (zi110 37) rfl rfl rfl ?_
      refine X.iconst 39 (zi110 38) rfl rfl (by decide) ?_
      refine X.icmpne 44 42 (zi110 39) rfl rfl rfl (fun h512 => ?_) (fun h512 => ?_)
      · refine X.aload_n 45 (zi110 44) rfl rfl rfl ?_
        refine X.getF 48 (zi110 45) rfl rfl (by decide) rfl rfl ?_
        refine X.iload_n 49 (zi110 48) rfl rfl rfl ?_
        refine X.iload_n 50 (zi110 49) rfl rfl rfl ?_
        refine X.iast' 51 (zi110 50) rfl rfl (by decide) rfl (by omega) (fun hrm513 m513 hm513 => ?_)
        have hJ514 := w43_0 hJ510 hm513 (by omega) (by omega) hf19 hg4
        refine X.iinc 54 [(0, zr 4 41), (1, zi (y1 + 1)), (2, zi v511)] (zi110 51) rfl rfl rfl (by omega) rfl ?_
        refine X.goto 25 (zi110 54) rfl rfl ?_
        refine X.cut [(0, zr 4 41), (1, zi (y1 + 1))] (zi110 25) rfl ?_
        exact ih (y1 + 1) m513 (B) (hJ514.up (by omega)) (by omega) (by omega) (by omega) (Eq.trans hR (Eq.trans (if_neg h508) (Eq.trans (zb_eq hFv511) (Eq.trans (if_neg h512) (Eq.trans (zs_eq hm513) rfl)))))
      · exact K42 y1 v511 m509 (B) (hJ510.up (by omega)) (by omega) (by first | trivial | omega) (by first | trivial | omega) (Eq.trans hR (Eq.trans (if_neg h508) (Eq.trans (zb_eq hFv511) (Eq.trans (if_pos h512) rfl))))
-- WorkMeter$CalendarText.fail
theorem c102_3 {s : Nat × (Nat → Int32)} {S : zS} {m0 m : zM} {B : Int} {d : Nat} {Q : Option zV → zM → Prop} (a1 a2 : Int) (hd : 13 ≤ d) (hJ : J S m0 B m) (hB : B + 0 ≤ 1000000000) (ha1 : 3 ≤ a1 ∧ a1 ≤ 3) (ha2 : 0 ≤ a2 ∧ a2 ≤ 300) (hf16 : ¬ S.1 16) (hg4 : ¬ S.2.1 4) (hQ : ∀ (v : Int) m', (0 ≤ v ∧ v ≤ 0) → f102_1 a1 a2 m = (v, m') → J S m0 (B) m' → Q (some (zi v)) m') : X (EE s) d 102 0 [(0, zr 4 41), (1, zi a1), (2, zi a2)] [] m Q := by
  refine X.aload_n 1 (zi102 0) rfl rfl rfl ?_
  refine X.iload_n 2 (zi102 1) rfl rfl rfl ?_
  refine X.putI' 5 4 (zi102 2) rfl rfl (by decide) rfl rfl rfl (fun hrm501 m501 hm501 => ?_)
  have hJ502 := w41_4 hJ hm501 (by omega) hrm501 hf16 hg4
  refine X.aload_n 6 (zi102 5) rfl rfl rfl ?_
  refine X.iload_n 7 (zi102 6) rfl rfl rfl ?_
  refine X.putI' 10 5 (zi102 7) rfl rfl (by decide) rfl rfl rfl (fun hrm503 m503 hm503 => ?_)
  have hJ504 := w41_4 hJ502 hm503 (by omega) hrm503 hf16 hg4
  refine X.iconst 11 (zi102 10) rfl rfl (by decide) ?_
  refine X.retz (zi102 11) rfl t102 (by omega) ?_
  exact hQ 0 m503 (by first | trivial | omega) (Eq.trans (zs_eq hm501) (Eq.trans (zs_eq hm503) rfl)) (hJ504.up (by omega)) 
-- WorkMeter$CalendarText.readPrices
noncomputable def f110_1 (m : zM) : Int × zM :=
  if (m 4 41 6) = 0 then
  (zs (z_upd m 4 41 7 ((m 4 41 7) + 5)) fun m504 =>
  fl110_25_1 (fun y506 y507 m508 =>
  (0, m508)) (fun m512 =>
  zs (z_upd m512 4 41 6 1) fun m516 =>
  (1, m516)) (zfu 5) 0 m504)
  else
  (zb (f102_1 3 (m 4 41 7) m) fun v521 m519 =>
  (v521, m519))
-- WorkMeter$CalendarText.readPrices
theorem c110_1 {s : Nat × (Nat → Int32)} {S : zS} {m0 m : zM} {B : Int} {d : Nat} {Q : Option zV → zM → Prop} (hd : 15 ≤ d) (hJ : J S m0 B m) (hB : B + 0 ≤ 1000000000) (hp0 : m 4 41 7 + 5 ≤ 300) (hf16 : ¬ S.1 16) (hf19 : ¬ S.1 19) (hg4 : ¬ S.2.1 4) (hQ : ∀ (v : Int) m', (0 ≤ v ∧ v ≤ 1) → f110_1 m = (v, m') → J S m0 (B) m' → Q (some (zi v)) m') : X (EE s) d 110 0 [(0, zr 4 41)] [] m Q := by
  refine X.aload_n 1 (zi110 0) rfl rfl rfl ?_
  refine X.getZ 4 6 (zi110 1) rfl rfl (by decide) rfl rfl rfl (fun h501 => ?_)
  refine X.ifeq 17 7 (zi110 4) rfl rfl rfl (fun h502 => ?_) (fun h502 => ?_)
  · refine X.aload_n 18 (zi110 17) rfl rfl rfl ?_
    refine X.ldcS 20 (zi110 18) rfl rfl (by decide) ?_
    refine X.callv 23 [zr 99 7] [] [(0, zr 4 41), (1, zr 99 7)] (zi110 20) rfl (by decide) rfl rfl (by omega) rfl rfl (by decide) rfl t98 (Nat.le_of_ble_eq_true rfl) (Nat.le_of_ble_eq_true rfl) rfl ?_
    refine X.aload_n 1 (zi98 0) rfl rfl rfl ?_
    refine X.dup 2 (zi98 1) rfl rfl rfl ?_
    refine X.getI 5 7 (zi98 2) rfl rfl (by decide) rfl rfl rfl ?_
    have h503 := r41_7 hJ 4
    refine X.aload_n 6 (zi98 5) rfl rfl rfl ?_
    refine X.slen 9 (zi98 6) rfl rfl (by omega) (Nat.le_of_ble_eq_true rfl) (by decide) (show (5 : Nat) < 2147483648 by decide) ?_
    show X (EE s) (d - 1) 98 9 [(0, zr 4 41), (1, zr 99 7)] [zi 5, zi (m 4 41 7), zr 4 41] m _
    refine X.iadd 10 (zi98 9) rfl rfl (by omega) ?_
    refine X.putI' 13 7 (zi98 10) rfl rfl (by decide) rfl rfl rfl (fun hrm504 m504 hm504 => ?_)
    have hJ505 := w41_7 hJ hm504 (by omega) hf19 hg4
    have em504 : m504 4 41 7 = ((m 4 41 7) + 5) := by rw [hm504]; exact z_upd_same _ _ _ _ _
    refine X.retv (zi98 13) rfl t98 ?_
    show X (EE s) d 110 23 [(0, zr 4 41)] [] m504 _
    refine X.iconst 24 (zi110 23) rfl rfl (by decide) ?_
    refine X.istore_n 25 [(0, zr 4 41), (1, zi 0)] (zi110 24) rfl rfl rfl ?_
    have hz5 := zfu_eq 5
    refine l110_25_1 (s := s) (d := d) (R0 := (f110_1 m))    (BE := B + 0) (by omega) (by omega) hf16 hf19 hg4 (fun y506 y507 m508 B509 hJ510 hBB509 hby506 hby507 hR511 => ?_) (fun  m512 B513 hJ514 hBB513 hR515 => ?_) (zfu 5) 0 m504 (B) (hJ505.up (by omega)) (by omega) (by omega) (by omega) (Eq.trans (if_pos h502) (Eq.trans (zs_eq hm504) rfl))
    · refine X.iconst 43 (zi110 42) rfl rfl (by decide) ?_
      refine X.retz (zi110 43) rfl t110 (by omega) ?_
      exact hQ 0 m508 (by first | trivial | omega) (Eq.trans hR511 rfl) (hJ510.up (by omega)) 
    · refine X.aload_n 58 (zi110 57) rfl rfl rfl ?_
      refine X.iconst 59 (zi110 58) rfl rfl (by decide) ?_
      refine X.putZ' 62 6 (zi110 59) rfl rfl (by decide) rfl rfl rfl (by omega) (fun hrm516 m516 hm516 => ?_)
      have hJ517 := w41_6 hJ514 hm516 (by omega) hf19 hg4
      refine X.iconst 63 (zi110 62) rfl rfl (by decide) ?_
      refine X.retz (zi110 63) rfl t110 (by omega) ?_
      exact hQ 1 m516 (by first | trivial | omega) (Eq.trans hR515 (Eq.trans (zs_eq hm516) rfl)) (hJ517.up (by omega)) 
  · refine X.aload_n 8 (zi110 7) rfl rfl rfl ?_
    refine X.iconst 9 (zi110 8) rfl rfl (by decide) ?_
    refine X.aload_n 10 (zi110 9) rfl rfl rfl ?_
    refine X.getI 13 7 (zi110 10) rfl rfl (by decide) rfl rfl rfl ?_
    have h518 := r41_7 hJ 4
    refine X.callv 16 [zi 3, zi (m 4 41 7)] [] [(0, zr 4 41), (1, zi 3), (2, zi (m 4 41 7))] (zi110 13) rfl (by decide) rfl rfl (by omega) rfl rfl (by decide) rfl t102 (Nat.le_of_ble_eq_true rfl) (Nat.le_of_ble_eq_true rfl) rfl ?_
    refine c102_3 (B := B)  3 (m 4 41 7) (by omega) (hJ.up (by omega)) (by omega) (by omega) (by omega) hf16 hg4 (fun v521 m519 hv521 hFv521 hJ520 => ?_)
    show X (EE s) d 110 16 [(0, zr 4 41)] [zi v521] m519 _
    refine X.retz (zi110 16) rfl t110 (by omega) ?_
    exact hQ v521 m519 (by first | trivial | omega) (Eq.trans (if_neg h502) (Eq.trans (zb_eq hFv521) rfl)) (hJ520.up (by omega)) 
-- WorkMeter$Calendar.isSpecial
noncomputable def f108_1 (g0 : Nat) (a1 : Int) (m : zM) : Int :=
  zn (f29_1 g0 a1 m) fun v503 =>
  zn (if v503 = (-1) then
  (0)
  else
  (1)) fun v505 =>
  v505
-- WorkMeter$Calendar.isSpecial
theorem c108_1 {s : Nat × (Nat → Int32)} {S : zS} {m0 m : zM} {B : Int} {d : Nat} {Q : Option zV → zM → Prop} (g0 : Nat) (a1 : Int) (hd : 14 ≤ d) (hJ : J S m0 B m) (hB : B + 0 ≤ 1000000000) (ha1 : 0 ≤ a1 ∧ a1 ≤ 364) (hQ : ∀ (v : Int), (0 ≤ v ∧ v ≤ 1) → f108_1 g0 a1 m = v → Q (some (zi v)) m) : X (EE s) d 108 0 [(0, zr g0 11), (1, zi a1)] [] m Q := by
  refine X.aload_n 1 (zi108 0) rfl rfl rfl ?_
  refine X.iload_n 2 (zi108 1) rfl rfl rfl ?_
  refine X.callv 5 [zi a1] [] [(0, zr g0 11), (1, zi a1)] (zi108 2) rfl (by decide) rfl rfl (by omega) rfl rfl (by decide) rfl t29 (Nat.le_of_ble_eq_true rfl) (Nat.le_of_ble_eq_true rfl) rfl ?_
  refine c29_1 (B := B) g0 a1 (by omega) (hJ.up (by omega)) (by omega) (by omega) (fun v503 hv503 hFv503 hqv503_0 => ?_)
  show X (EE s) d 108 5 [(0, zr g0 11), (1, zi a1)] [zi v503] m _
  refine X.iconst 6 (zi108 5) rfl rfl (by decide) ?_
  have hK508 : ∀ (v : Int) , (0 ≤ v ∧ v ≤ 1) → (if v503 = (-1) then
      (0)
      else
      (1)) = v → X (EE s) d 108 14 [] [zi v] m Q := by
    intro v505 hv505 hT509
    refine X.retz (zi108 14) rfl t108 (by omega) ?_
    exact hQ v505 (by first | trivial | omega) (Eq.trans (zn_eq hFv503.symm) (Eq.trans (zn_eq hT509.symm) rfl)) 
  refine X.icmpeq 13 9 (zi108 6) rfl rfl rfl (fun h504 => ?_) (fun h504 => ?_)
  · refine X.cut [] (zi108 13) rfl ?_
    refine X.iconst 14 (zi108 13) rfl rfl (by decide) ?_
    exact hK508 0 (by first | trivial | omega) (Eq.trans (if_pos h504) rfl)
  · refine X.iconst 10 (zi108 9) rfl rfl (by decide) ?_
    refine X.goto 14 (zi108 10) rfl rfl ?_
    refine X.cut [] (zi108 14) rfl ?_
    exact hK508 1 (by first | trivial | omega) (Eq.trans (if_neg h504) rfl)
-- WorkMeter$Calendar.putSpecial
noncomputable def f109_1 (g0 : Nat) (a1 a2 : Int) (m : zM) : Int × zM :=
  zn (f29_1 g0 a1 m) fun v503 =>
  if v503 = (-1) then
  (if (m g0 11 7) < 16 then
  (zs (z_upd m g0 11 7 ((m g0 11 7) + 1)) fun m511 =>
  zs (z_upd m511 g0 17 (m g0 11 7) a1) fun m513 =>
  zs (z_upd m513 g0 18 (m g0 11 7) a2) fun m515 =>
  (1, m515))
  else
  ((0, m)))
  else
  (zs (z_upd m g0 17 v503 a1) fun m505 =>
  zs (z_upd m505 g0 18 v503 a2) fun m507 =>
  (1, m507))
-- WorkMeter$Calendar.putSpecial
theorem c109_1 {s : Nat × (Nat → Int32)} {S : zS} {m0 m : zM} {B : Int} {d : Nat} {Q : Option zV → zM → Prop} (g0 : Nat) (a1 a2 : Int) (hd : 14 ≤ d) (hJ : J S m0 B m) (hB : B + 0 ≤ 1000000000) (ha1 : 0 ≤ a1 ∧ a1 ≤ 364) (ha2 : 0 ≤ a2 ∧ a2 ≤ 7) (hf1 : ¬ S.1 1) (hgg0 : ¬ S.2.1 g0) (hQ : ∀ (v : Int) m', (0 ≤ v ∧ v ≤ 1) → f109_1 g0 a1 a2 m = (v, m') → J S m0 (B) m' → Q (some (zi v)) m') : X (EE s) d 109 0 [(0, zr g0 11), (1, zi a1), (2, zi a2)] [] m Q := by
  refine X.aload_n 1 (zi109 0) rfl rfl rfl ?_
  refine X.iload_n 2 (zi109 1) rfl rfl rfl ?_
  refine X.callv 5 [zi a1] [] [(0, zr g0 11), (1, zi a1)] (zi109 2) rfl (by decide) rfl rfl (by omega) rfl rfl (by decide) rfl t29 (Nat.le_of_ble_eq_true rfl) (Nat.le_of_ble_eq_true rfl) rfl ?_
  refine c29_1 (B := B) g0 a1 (by omega) (hJ.up (by omega)) (by omega) (by omega) (fun v503 hv503 hFv503 hqv503_0 => ?_)
  show X (EE s) d 109 5 [(0, zr g0 11), (1, zi a1), (2, zi a2)] [zi v503] m _
  refine X.istore_n 6 [(0, zr g0 11), (1, zi a1), (2, zi a2), (3, zi v503)] (zi109 5) rfl rfl rfl ?_
  refine X.iload_n 7 (zi109 6) rfl rfl rfl ?_
  refine X.iconst 8 (zi109 7) rfl rfl (by decide) ?_
  refine X.icmpne 37 11 (zi109 8) rfl rfl rfl (fun h504 => ?_) (fun h504 => ?_)
  · refine X.aload_n 38 (zi109 37) rfl rfl rfl ?_
    refine X.getR 41 (zi109 38) rfl rfl (by decide) rfl rfl ?_
    refine X.iload_n 42 (zi109 41) rfl rfl rfl ?_
    refine X.iload_n 43 (zi109 42) rfl rfl rfl ?_
    refine X.iast' 44 (zi109 43) rfl rfl (by decide) rfl (by omega) (fun hrm505 m505 hm505 => ?_)
    have hJ506 := w17_0 hJ hm505 (by omega) (by omega) hf1 hgg0
    refine X.aload_n 45 (zi109 44) rfl rfl rfl ?_
    refine X.getR 48 (zi109 45) rfl rfl (by decide) rfl rfl ?_
    refine X.iload_n 49 (zi109 48) rfl rfl rfl ?_
    refine X.iload_n 50 (zi109 49) rfl rfl rfl ?_
    refine X.iast' 51 (zi109 50) rfl rfl (by decide) rfl (by omega) (fun hrm507 m507 hm507 => ?_)
    have hJ508 := w18_0 hJ506 hm507 (by omega) (by omega) hf1 hgg0
    refine X.iconst 52 (zi109 51) rfl rfl (by decide) ?_
    refine X.retz (zi109 52) rfl t109 (by omega) ?_
    exact hQ 1 m507 (by first | trivial | omega) (Eq.trans (zn_eq hFv503.symm) (Eq.trans (if_neg h504) (Eq.trans (zs_eq hm505) (Eq.trans (zs_eq hm507) rfl)))) (hJ508.up (by omega)) 
  · refine X.aload_n 12 (zi109 11) rfl rfl rfl ?_
    refine X.getI 15 7 (zi109 12) rfl rfl (by decide) rfl rfl rfl ?_
    have h509 := r11_7 hJ g0
    refine X.bipush 17 (zi109 15) rfl rfl (by decide) ?_
    refine X.icmplt 22 20 (zi109 17) rfl rfl rfl (fun h510 => ?_) (fun h510 => ?_)
    · refine X.cut [(0, zr g0 11), (1, zi a1), (2, zi a2)] (zi109 22) rfl ?_
      refine X.aload_n 23 (zi109 22) rfl rfl rfl ?_
      refine X.getI 26 7 (zi109 23) rfl rfl (by decide) rfl rfl rfl ?_
      refine X.istore_n 27 [(0, zr g0 11), (1, zi a1), (2, zi a2), (3, zi (m g0 11 7))] (zi109 26) rfl rfl rfl ?_
      refine X.aload_n 28 (zi109 27) rfl rfl rfl ?_
      refine X.dup 29 (zi109 28) rfl rfl rfl ?_
      refine X.getI 32 7 (zi109 29) rfl rfl (by decide) rfl rfl rfl ?_
      refine X.iconst 33 (zi109 32) rfl rfl (by decide) ?_
      refine X.iadd 34 (zi109 33) rfl rfl (by omega) ?_
      refine X.putI' 37 7 (zi109 34) rfl rfl (by decide) rfl rfl rfl (fun hrm511 m511 hm511 => ?_)
      have hJ512 := w11_7 hJ hm511 (by omega) hf1 hgg0
      have em511 : m511 g0 11 7 = ((m g0 11 7) + 1) := by rw [hm511]; exact z_upd_same _ _ _ _ _
      refine X.aload_n 38 (zi109 37) rfl rfl rfl ?_
      refine X.getR 41 (zi109 38) rfl rfl (by decide) rfl rfl ?_
      refine X.iload_n 42 (zi109 41) rfl rfl rfl ?_
      refine X.iload_n 43 (zi109 42) rfl rfl rfl ?_
      refine X.iast' 44 (zi109 43) rfl rfl (by decide) rfl (by omega) (fun hrm513 m513 hm513 => ?_)
      have hJ514 := w17_0 hJ512 hm513 (by omega) (by omega) hf1 hgg0
      refine X.aload_n 45 (zi109 44) rfl rfl rfl ?_
      refine X.getR 48 (zi109 45) rfl rfl (by decide) rfl rfl ?_
      refine X.iload_n 49 (zi109 48) rfl rfl rfl ?_
      refine X.iload_n 50 (zi109 49) rfl rfl rfl ?_
      refine X.iast' 51 (zi109 50) rfl rfl (by decide) rfl (by omega) (fun hrm515 m515 hm515 => ?_)
      have hJ516 := w18_0 hJ514 hm515 (by omega) (by omega) hf1 hgg0
      refine X.iconst 52 (zi109 51) rfl rfl (by decide) ?_
      refine X.retz (zi109 52) rfl t109 (by omega) ?_
      exact hQ 1 m515 (by first | trivial | omega) (Eq.trans (zn_eq hFv503.symm) (Eq.trans (if_pos h504) (Eq.trans (if_pos h510) (Eq.trans (zs_eq hm511) (Eq.trans (zs_eq hm513) (Eq.trans (zs_eq hm515) rfl)))))) (hJ516.up (by omega)) 
    · refine X.iconst 21 (zi109 20) rfl rfl (by decide) ?_
      refine X.retz (zi109 21) rfl t109 (by omega) ?_
      exact hQ 0 m (by first | trivial | omega) (Eq.trans (zn_eq hFv503.symm) (Eq.trans (if_pos h504) (Eq.trans (if_neg h510) rfl))) (hJ.up (by omega)) 
-- WorkMeter$CalendarText.fail
theorem c102_4 {s : Nat × (Nat → Int32)} {S : zS} {m0 m : zM} {B : Int} {d : Nat} {Q : Option zV → zM → Prop} (a1 a2 : Int) (hd : 13 ≤ d) (hJ : J S m0 B m) (hB : B + 0 ≤ 1000000000) (ha1 : 3 ≤ a1 ∧ a1 ≤ 3) (ha2 : (-2147483648) ≤ a2 ∧ a2 ≤ 2147483647) (hf16 : ¬ S.1 16) (hg4 : ¬ S.2.1 4) (hQ : ∀ (v : Int) m', (0 ≤ v ∧ v ≤ 0) → f102_1 a1 a2 m = (v, m') → J S m0 (B) m' → Q (some (zi v)) m') : X (EE s) d 102 0 [(0, zr 4 41), (1, zi a1), (2, zi a2)] [] m Q := by
  refine X.aload_n 1 (zi102 0) rfl rfl rfl ?_
  refine X.iload_n 2 (zi102 1) rfl rfl rfl ?_
  refine X.putI' 5 4 (zi102 2) rfl rfl (by decide) rfl rfl rfl (fun hrm501 m501 hm501 => ?_)
  have hJ502 := w41_4 hJ hm501 (by omega) hrm501 hf16 hg4
  refine X.aload_n 6 (zi102 5) rfl rfl rfl ?_
  refine X.iload_n 7 (zi102 6) rfl rfl rfl ?_
  refine X.putI' 10 5 (zi102 7) rfl rfl (by decide) rfl rfl rfl (fun hrm503 m503 hm503 => ?_)
  have hJ504 := w41_4 hJ502 hm503 (by omega) hrm503 hf16 hg4
  refine X.iconst 11 (zi102 10) rfl rfl (by decide) ?_
  refine X.retz (zi102 11) rfl t102 (by omega) ?_
  exact hQ 0 m503 (by first | trivial | omega) (Eq.trans (zs_eq hm501) (Eq.trans (zs_eq hm503) rfl)) (hJ504.up (by omega)) 
-- WorkMeter$CalendarText.fail
theorem c102_5 {s : Nat × (Nat → Int32)} {S : zS} {m0 m : zM} {B : Int} {d : Nat} {Q : Option zV → zM → Prop} (a1 a2 : Int) (hd : 13 ≤ d) (hJ : J S m0 B m) (hB : B + 0 ≤ 1000000000) (ha1 : 4 ≤ a1 ∧ a1 ≤ 4) (ha2 : 0 ≤ a2 ∧ a2 ≤ 300) (hf16 : ¬ S.1 16) (hg4 : ¬ S.2.1 4) (hQ : ∀ (v : Int) m', (0 ≤ v ∧ v ≤ 0) → f102_1 a1 a2 m = (v, m') → J S m0 (B) m' → Q (some (zi v)) m') : X (EE s) d 102 0 [(0, zr 4 41), (1, zi a1), (2, zi a2)] [] m Q := by
  refine X.aload_n 1 (zi102 0) rfl rfl rfl ?_
  refine X.iload_n 2 (zi102 1) rfl rfl rfl ?_
  refine X.putI' 5 4 (zi102 2) rfl rfl (by decide) rfl rfl rfl (fun hrm501 m501 hm501 => ?_)
  have hJ502 := w41_4 hJ hm501 (by omega) hrm501 hf16 hg4
  refine X.aload_n 6 (zi102 5) rfl rfl rfl ?_
  refine X.iload_n 7 (zi102 6) rfl rfl rfl ?_
  refine X.putI' 10 5 (zi102 7) rfl rfl (by decide) rfl rfl rfl (fun hrm503 m503 hm503 => ?_)
  have hJ504 := w41_4 hJ502 hm503 (by omega) hrm503 hf16 hg4
  refine X.iconst 11 (zi102 10) rfl rfl (by decide) ?_
  refine X.retz (zi102 11) rfl t102 (by omega) ?_
  exact hQ 0 m503 (by first | trivial | omega) (Eq.trans (zs_eq hm501) (Eq.trans (zs_eq hm503) rfl)) (hJ504.up (by omega)) 
-- WorkMeter$CalendarText.readSpecial
noncomputable def f107_1 (m : zM) : Int × zM :=
  if (m 3 11 7) < 16 then
  (zs (z_upd m 4 41 7 ((m 4 41 7) + 7)) fun m504 =>
  zb (f100_1 364 m504) fun v508 m506 =>
  if v508 = (-1) then
  ((0, m506))
  else
  (zn (f108_1 3 v508 m506) fun v512 =>
  if v512 = 0 then
  (zb (f100_1 7 m506) fun v516 m514 =>
  zb (if v516 = (-1) then
  ((0, m514))
  else
  (zb (f109_1 3 v508 v516 m514) fun v520 m518 =>
  if v520 = 0 then
  ((0, m518))
  else
  ((1, m518)))) fun v522 m523 =>
  (v522, m523))
  else
  (zb (f102_1 3 (m506 4 41 8) m506) fun v530 m528 =>
  (v530, m528))))
  else
  (zb (f102_1 4 (m 4 41 7) m) fun v534 m532 =>
  (v534, m532))
-- WorkMeter$CalendarText.readSpecial
theorem c107_1 {s : Nat × (Nat → Int32)} {S : zS} {m0 m : zM} {B : Int} {d : Nat} {Q : Option zV → zM → Prop} (hd : 15 ≤ d) (hJ : J S m0 B m) (hB : B + 0 ≤ 1000000000) (hp0 : m 4 41 7 + 7 ≤ 300) (hf1 : ¬ S.1 1) (hf16 : ¬ S.1 16) (hf19 : ¬ S.1 19) (hg3 : ¬ S.2.1 3) (hg4 : ¬ S.2.1 4) (hQ : ∀ (v : Int) m', (0 ≤ v ∧ v ≤ 1) → f107_1 m = (v, m') → J S m0 (B) m' → Q (some (zi v)) m') : X (EE s) d 107 0 [(0, zr 4 41)] [] m Q := by
  refine X.aload_n 1 (zi107 0) rfl rfl rfl ?_
  refine X.getF 4 (zi107 1) rfl rfl (by decide) rfl rfl ?_
  refine X.getI 7 7 (zi107 4) rfl rfl (by decide) rfl rfl rfl ?_
  have h501 := r11_7 hJ 3
  refine X.bipush 9 (zi107 7) rfl rfl (by decide) ?_
  refine X.icmplt 22 12 (zi107 9) rfl rfl rfl (fun h502 => ?_) (fun h502 => ?_)
  · refine X.aload_n 23 (zi107 22) rfl rfl rfl ?_
    refine X.ldcS 25 (zi107 23) rfl rfl (by decide) ?_
    refine X.callv 28 [zr 99 6] [] [(0, zr 4 41), (1, zr 99 6)] (zi107 25) rfl (by decide) rfl rfl (by omega) rfl rfl (by decide) rfl t98 (Nat.le_of_ble_eq_true rfl) (Nat.le_of_ble_eq_true rfl) rfl ?_
    refine X.aload_n 1 (zi98 0) rfl rfl rfl ?_
    refine X.dup 2 (zi98 1) rfl rfl rfl ?_
    refine X.getI 5 7 (zi98 2) rfl rfl (by decide) rfl rfl rfl ?_
    have h503 := r41_7 hJ 4
    refine X.aload_n 6 (zi98 5) rfl rfl rfl ?_
    refine X.slen 9 (zi98 6) rfl rfl (by omega) (Nat.le_of_ble_eq_true rfl) (by decide) (show (7 : Nat) < 2147483648 by decide) ?_
    show X (EE s) (d - 1) 98 9 [(0, zr 4 41), (1, zr 99 6)] [zi 7, zi (m 4 41 7), zr 4 41] m _
    refine X.iadd 10 (zi98 9) rfl rfl (by omega) ?_
    refine X.putI' 13 7 (zi98 10) rfl rfl (by decide) rfl rfl rfl (fun hrm504 m504 hm504 => ?_)
    have hJ505 := w41_7 hJ hm504 (by omega) hf19 hg4
    have em504 : m504 4 41 7 = ((m 4 41 7) + 7) := by rw [hm504]; exact z_upd_same _ _ _ _ _
    refine X.retv (zi98 13) rfl t98 ?_
    show X (EE s) d 107 28 [(0, zr 4 41)] [] m504 _
    refine X.aload_n 29 (zi107 28) rfl rfl rfl ?_
    refine X.sipush 32 (zi107 29) rfl rfl (by decide) ?_
    refine X.callv 35 [zi 364] [] [(0, zr 4 41), (1, zi 364)] (zi107 32) rfl (by decide) rfl rfl (by omega) rfl rfl (by decide) rfl t100 (Nat.le_of_ble_eq_true rfl) (Nat.le_of_ble_eq_true rfl) rfl ?_
    refine c100_1 (B := B)  364 (by omega) (hJ505.up (by omega)) (by omega) (by omega) hf16 hf19 hg4 (fun v508 m506 hv508 hFv508 hJ507 hqv508_0 => ?_)
    show X (EE s) d 107 35 [(0, zr 4 41)] [zi v508] m506 _
    refine X.istore_n 36 [(0, zr 4 41), (1, zi v508)] (zi107 35) rfl rfl rfl ?_
    refine X.iload_n 37 (zi107 36) rfl rfl rfl ?_
    refine X.iconst 38 (zi107 37) rfl rfl (by decide) ?_
    refine X.icmpne 43 41 (zi107 38) rfl rfl rfl (fun h509 => ?_) (fun h509 => ?_)
    · refine X.aload_n 44 (zi107 43) rfl rfl rfl ?_
      refine X.getF 47 (zi107 44) rfl rfl (by decide) rfl rfl ?_
      refine X.iload_n 48 (zi107 47) rfl rfl rfl ?_
      refine X.callv 51 [zi v508] [] [(0, zr 3 11), (1, zi v508)] (zi107 48) rfl (by decide) rfl rfl (by omega) rfl rfl (by decide) rfl t108 (Nat.le_of_ble_eq_true rfl) (Nat.le_of_ble_eq_true rfl) rfl ?_
      refine c108_1 (B := B) 3 v508 (by omega) (hJ507.up (by omega)) (by omega) (by omega) (fun v512 hv512 hFv512 => ?_)
      show X (EE s) d 107 51 [(0, zr 4 41), (1, zi v508)] [zi v512] m506 _
      refine X.ifeq 64 54 (zi107 51) rfl rfl rfl (fun h513 => ?_) (fun h513 => ?_)
      · refine X.aload_n 65 (zi107 64) rfl rfl rfl ?_
        refine X.bipush 67 (zi107 65) rfl rfl (by decide) ?_
        refine X.callv 70 [zi 7] [] [(0, zr 4 41), (1, zi 7)] (zi107 67) rfl (by decide) rfl rfl (by omega) rfl rfl (by decide) rfl t100 (Nat.le_of_ble_eq_true rfl) (Nat.le_of_ble_eq_true rfl) rfl ?_
        refine c100_1 (B := B)  7 (by omega) (hJ507.up (by omega)) (by omega) (by omega) hf16 hf19 hg4 (fun v516 m514 hv516 hFv516 hJ515 hqv516_0 => ?_)
        show X (EE s) d 107 70 [(0, zr 4 41), (1, zi v508)] [zi v516] m514 _
        refine X.istore_n 71 [(0, zr 4 41), (1, zi v508), (2, zi v516)] (zi107 70) rfl rfl rfl ?_
        refine X.iload_n 72 (zi107 71) rfl rfl rfl ?_
        refine X.iconst 73 (zi107 72) rfl rfl (by decide) ?_
        have hK525 : ∀ (v : Int) (m' : zM), (0 ≤ v ∧ v ≤ 1) → (if v516 = (-1) then
            ((0, m514))
            else
            (zb (f109_1 3 v508 v516 m514) fun v520 m518 =>
            if v520 = 0 then
            ((0, m518))
            else
            ((1, m518)))) = (v, m') → J S m0 (B) m' → X (EE s) d 107 93 [] [zi v] m' Q := by
          intro v522 m523 hv522 hT526 hJ524
          refine X.retz (zi107 93) rfl t107 (by omega) ?_
          exact hQ v522 m523 (by first | trivial | omega) (Eq.trans (if_pos h502) (Eq.trans (zs_eq hm504) (Eq.trans (zb_eq hFv508) (Eq.trans (if_neg h509) (Eq.trans (zn_eq hFv512.symm) (Eq.trans (if_pos h513) (Eq.trans (zb_eq hFv516) (Eq.trans (zb_eq hT526) rfl)))))))) (hJ524.up (by omega)) 
        refine X.icmpeq 92 76 (zi107 73) rfl rfl rfl (fun h517 => ?_) (fun h517 => ?_)
        · refine X.cut [] (zi107 92) rfl ?_
          refine X.iconst 93 (zi107 92) rfl rfl (by decide) ?_
          exact hK525 0 m514 (by first | trivial | omega) (Eq.trans (if_pos h517) rfl) (hJ515.up (by omega))
        · refine X.aload_n 77 (zi107 76) rfl rfl rfl ?_
          refine X.getF 80 (zi107 77) rfl rfl (by decide) rfl rfl ?_
          refine X.iload_n 81 (zi107 80) rfl rfl rfl ?_
          refine X.iload_n 82 (zi107 81) rfl rfl rfl ?_
          refine X.callv 85 [zi v508, zi v516] [] [(0, zr 3 11), (1, zi v508), (2, zi v516)] (zi107 82) rfl (by decide) rfl rfl (by omega) rfl rfl (by decide) rfl t109 (Nat.le_of_ble_eq_true rfl) (Nat.le_of_ble_eq_true rfl) rfl ?_
          refine c109_1 (B := B) 3 v508 v516 (by omega) (hJ515.up (by omega)) (by omega) (by omega) (by omega) hf1 hg3 (fun v520 m518 hv520 hFv520 hJ519 => ?_)
          show X (EE s) d 107 85 [(0, zr 4 41), (1, zi v508), (2, zi v516)] [zi v520] m518 _
          refine X.ifeq 92 88 (zi107 85) rfl rfl rfl (fun h521 => ?_) (fun h521 => ?_)
          · refine X.cut [] (zi107 92) rfl ?_
            refine X.iconst 93 (zi107 92) rfl rfl (by decide) ?_
            exact hK525 0 m518 (by first | trivial | omega) (Eq.trans (if_neg h517) (Eq.trans (zb_eq hFv520) (Eq.trans (if_pos h521) rfl))) (hJ519.up (by omega))
          · refine X.iconst 89 (zi107 88) rfl rfl (by decide) ?_
            refine X.goto 93 (zi107 89) rfl rfl ?_
            refine X.cut [] (zi107 93) rfl ?_
            exact hK525 1 m518 (by first | trivial | omega) (Eq.trans (if_neg h517) (Eq.trans (zb_eq hFv520) (Eq.trans (if_neg h521) rfl))) (hJ519.up (by omega))
      · refine X.aload_n 55 (zi107 54) rfl rfl rfl ?_
        refine X.iconst 56 (zi107 55) rfl rfl (by decide) ?_
        refine X.aload_n 57 (zi107 56) rfl rfl rfl ?_
        refine X.getIr 60 8 (zi107 57) rfl rfl (by decide) rfl rfl rfl (fun h527 => ?_)
        refine X.callv 63 [zi 3, zi (m506 4 41 8)] [] [(0, zr 4 41), (1, zi 3), (2, zi (m506 4 41 8))] (zi107 60) rfl (by decide) rfl rfl (by omega) rfl rfl (by decide) rfl t102 (Nat.le_of_ble_eq_true rfl) (Nat.le_of_ble_eq_true rfl) rfl ?_
        refine c102_4 (B := B)  3 (m506 4 41 8) (by omega) (hJ507.up (by omega)) (by omega) (by omega) (by omega) hf16 hg4 (fun v530 m528 hv530 hFv530 hJ529 => ?_)
        show X (EE s) d 107 63 [(0, zr 4 41), (1, zi v508)] [zi v530] m528 _
        refine X.retz (zi107 63) rfl t107 (by omega) ?_
        exact hQ v530 m528 (by first | trivial | omega) (Eq.trans (if_pos h502) (Eq.trans (zs_eq hm504) (Eq.trans (zb_eq hFv508) (Eq.trans (if_neg h509) (Eq.trans (zn_eq hFv512.symm) (Eq.trans (if_neg h513) (Eq.trans (zb_eq hFv530) rfl))))))) (hJ529.up (by omega)) 
    · refine X.iconst 42 (zi107 41) rfl rfl (by decide) ?_
      refine X.retz (zi107 42) rfl t107 (by omega) ?_
      exact hQ 0 m506 (by first | trivial | omega) (Eq.trans (if_pos h502) (Eq.trans (zs_eq hm504) (Eq.trans (zb_eq hFv508) (Eq.trans (if_pos h509) rfl)))) (hJ507.up (by omega)) 
  · refine X.aload_n 13 (zi107 12) rfl rfl rfl ?_
    refine X.iconst 14 (zi107 13) rfl rfl (by decide) ?_
    refine X.aload_n 15 (zi107 14) rfl rfl rfl ?_
    refine X.getI 18 7 (zi107 15) rfl rfl (by decide) rfl rfl rfl ?_
    have h531 := r41_7 hJ 4
    refine X.callv 21 [zi 4, zi (m 4 41 7)] [] [(0, zr 4 41), (1, zi 4), (2, zi (m 4 41 7))] (zi107 18) rfl (by decide) rfl rfl (by omega) rfl rfl (by decide) rfl t102 (Nat.le_of_ble_eq_true rfl) (Nat.le_of_ble_eq_true rfl) rfl ?_
    refine c102_5 (B := B)  4 (m 4 41 7) (by omega) (hJ.up (by omega)) (by omega) (by omega) (by omega) hf16 hg4 (fun v534 m532 hv534 hFv534 hJ533 => ?_)
    show X (EE s) d 107 21 [(0, zr 4 41)] [zi v534] m532 _
    refine X.retz (zi107 21) rfl t107 (by omega) ?_
    exact hQ v534 m532 (by first | trivial | omega) (Eq.trans (if_neg h502) (Eq.trans (zb_eq hFv534) rfl)) (hJ533.up (by omega)) 
-- WorkMeter$CalendarText.readNewNumber
noncomputable def f99_1 (a1 a2 : Int) (m : zM) : Int × zM :=
  zb (f100_1 a1 m) fun v503 m501 =>
  if v503 = (-1) then
  ((v503, m501))
  else
  (zn (zshr a2 v503) fun z505 =>
  zn (zand z505 1) fun z506 =>
  if z506 = 1 then
  (zb (f102_1 3 (m501 4 41 8) m501) fun v511 m509 =>
  ((-1), m509))
  else
  ((v503, m501)))
-- WorkMeter$CalendarText.readNewNumber
theorem c99_1 {s : Nat × (Nat → Int32)} {S : zS} {m0 m : zM} {B : Int} {d : Nat} {Q : Option zV → zM → Prop} (a1 a2 : Int) (hd : 15 ≤ d) (hJ : J S m0 B m) (hB : B + 0 ≤ 1000000000) (ha1 : 0 ≤ a1 ∧ a1 ≤ 1000) (ha2 : (-2147483648) ≤ a2 ∧ a2 ≤ 2147483647) (hf16 : ¬ S.1 16) (hf19 : ¬ S.1 19) (hg4 : ¬ S.2.1 4) (hQ : ∀ (v : Int) m', ((-1) ≤ v ∧ v ≤ 1000) → f99_1 a1 a2 m = (v, m') → J S m0 (B) m' → (v ≤ a1) → Q (some (zi v)) m') : X (EE s) d 99 0 [(0, zr 4 41), (1, zi a1), (2, zi a2)] [] m Q := by
  refine X.aload_n 1 (zi99 0) rfl rfl rfl ?_
  refine X.iload_n 2 (zi99 1) rfl rfl rfl ?_
  refine X.callv 5 [zi a1] [] [(0, zr 4 41), (1, zi a1)] (zi99 2) rfl (by decide) rfl rfl (by omega) rfl rfl (by decide) rfl t100 (Nat.le_of_ble_eq_true rfl) (Nat.le_of_ble_eq_true rfl) rfl ?_
  refine c100_1 (B := B)  a1 (by omega) (hJ.up (by omega)) (by omega) (by omega) hf16 hf19 hg4 (fun v503 m501 hv503 hFv503 hJ502 hqv503_0 => ?_)
  show X (EE s) d 99 5 [(0, zr 4 41), (1, zi a1), (2, zi a2)] [zi v503] m501 _
  refine X.istore_n 6 [(0, zr 4 41), (1, zi a1), (2, zi a2), (3, zi v503)] (zi99 5) rfl rfl rfl ?_
  refine X.iload_n 7 (zi99 6) rfl rfl rfl ?_
  refine X.iconst 8 (zi99 7) rfl rfl (by decide) ?_
  refine X.icmpeq 32 11 (zi99 8) rfl rfl rfl (fun h504 => ?_) (fun h504 => ?_)
  · refine X.cut [(3, zi v503)] (zi99 32) rfl ?_
    refine X.iload_n 33 (zi99 32) rfl rfl rfl ?_
    refine X.reti (zi99 33) rfl t99 ?_
    exact hQ v503 m501 (by first | trivial | omega) (Eq.trans (zb_eq hFv503) (Eq.trans (if_pos h504) rfl)) (hJ502.up (by omega)) (by omega)
  · refine X.iload_n 12 (zi99 11) rfl rfl rfl ?_
    refine X.iload_n 13 (zi99 12) rfl rfl rfl ?_
    refine X.iiE 14 .ishr (fun x y => x >>> (y &&& 31)) (zi99 13) rfl rfl rfl (fun _ _ => rfl) (fun z505 ez505 hz505 => ?_)
    refine X.iconst 15 (zi99 14) rfl rfl (by decide) ?_
    refine X.andE 16 1 (zi99 15) rfl rfl (by decide) (.inl rfl) (fun z506 ez506 hz506 => ?_)
    refine X.iconst 17 (zi99 16) rfl rfl (by decide) ?_
    refine X.icmpne 32 20 (zi99 17) rfl rfl rfl (fun h507 => ?_) (fun h507 => ?_)
    · refine X.cut [(3, zi v503)] (zi99 32) rfl ?_
      refine X.iload_n 33 (zi99 32) rfl rfl rfl ?_
      refine X.reti (zi99 33) rfl t99 ?_
      exact hQ v503 m501 (by first | trivial | omega) (Eq.trans (zb_eq hFv503) (Eq.trans (if_neg h504) (Eq.trans (zn_eq ez505) (Eq.trans (zn_eq ez506) (Eq.trans (if_neg h507) rfl))))) (hJ502.up (by omega)) (by omega)
    · refine X.aload_n 21 (zi99 20) rfl rfl rfl ?_
      refine X.iconst 22 (zi99 21) rfl rfl (by decide) ?_
      refine X.aload_n 23 (zi99 22) rfl rfl rfl ?_
      refine X.getIr 26 8 (zi99 23) rfl rfl (by decide) rfl rfl rfl (fun h508 => ?_)
      refine X.callv 29 [zi 3, zi (m501 4 41 8)] [] [(0, zr 4 41), (1, zi 3), (2, zi (m501 4 41 8))] (zi99 26) rfl (by decide) rfl rfl (by omega) rfl rfl (by decide) rfl t102 (Nat.le_of_ble_eq_true rfl) (Nat.le_of_ble_eq_true rfl) rfl ?_
      refine c102_4 (B := B)  3 (m501 4 41 8) (by omega) (hJ502.up (by omega)) (by omega) (by omega) (by omega) hf16 hg4 (fun v511 m509 hv511 hFv511 hJ510 => ?_)
      show X (EE s) d 99 29 [(0, zr 4 41), (1, zi a1), (2, zi a2), (3, zi v503)] [zi v511] m509 _
      refine X.pop 30 (zi99 29) rfl rfl rfl ?_
      refine X.iconst 31 (zi99 30) rfl rfl (by decide) ?_
      refine X.reti (zi99 31) rfl t99 ?_
      exact hQ (-1) m509 (by first | trivial | omega) (Eq.trans (zb_eq hFv503) (Eq.trans (if_neg h504) (Eq.trans (zn_eq ez505) (Eq.trans (zn_eq ez506) (Eq.trans (if_pos h507) (Eq.trans (zb_eq hFv511) rfl)))))) (hJ510.up (by omega)) (by omega)
noncomputable def fl106_62_1_b (self : Int → zM → Int × zM) (k82 : Int → Int → zM → Int × zM) (k106 : zM → Int × zM) (y1 : Int) (y3 : Int) (m : zM) : Int × zM :=
  if 7 ≤ y3 then
  (k106 m)
  else
  (zb (f100_1 7 m) fun v511 m509 =>
  if v511 = (-1) then
  (k82 y3 v511 m509)
  else
  (zs (z_upd m509 3 16 ((y1 * 7) + y3) v511) fun m513 =>
  self (y3 + 1) m513))
noncomputable def fl106_62_1 (k82 : Int → Int → zM → Int × zM) (k106 : zM → Int × zM) (y1 : Int) : Nat → Int → zM → Int × zM
  | 0 => fun y3 m => (0, m)
  | n + 1 => fl106_62_1_b (fl106_62_1 k82 k106 y1 n) k82 k106 y1
theorem l106_62_1 {s : Nat × (Nat → Int32)} {S : zS} {m0 : zM} {d : Nat} {Q : Option zV → zM → Prop} {R0 : Int × zM} {k82 : Int → Int → zM → Int × zM} {k106 : zM → Int × zM} (y1 : Int) (BE : Int) (hE : BE ≤ 1000000000) (hd : 15 ≤ d) (hy1 : 0 ≤ y1 ∧ y1 ≤ 3) (hf1 : ¬ S.1 1) (hf16 : ¬ S.1 16) (hf19 : ¬ S.1 19) (hg3 : ¬ S.2.1 3) (hg4 : ¬ S.2.1 4)
    (K82 : ∀ (x3 x4 : Int) (m' : zM) (B' : Int), J S m0 B' m' → B' ≤ BE → (0 ≤ x3 ∧ x3 ≤ 6) → ((-1) ≤ x4 ∧ x4 ≤ (-1)) → R0 = k82 x3 x4 m' → X (EE s) d 106 82 [(0, zr 4 41), (1, zi y1), (3, zi x3), (4, zi x4)] [] m' Q)
    (K106 : ∀ (m' : zM) (B' : Int), J S m0 B' m' → B' ≤ BE → R0 = k106 m' → X (EE s) d 106 106 [] [] m' Q) :
    ∀ (n : Nat) (y3 : Int) (m : zM) (B : Int), J S m0 B m → B + 0 * (n : Int) ≤ BE → (0 ≤ y3 ∧ y3 ≤ 7) → 7 - y3 < (n : Int) → R0 = fl106_62_1 k82 k106 y1 n y3 m → X (EE s) d 106 62 [(0, zr 4 41), (1, zi y1), (3, zi y3)] [] m Q := by
  intro n
  induction n with
  | zero =>
    intro y3 m B hJ hB hy3 hn hR
    exfalso
    omega
  | succ n ih =>
    intro y3 m B hJ hB hy3 hn hR
    replace hR : R0 = fl106_62_1_b (fl106_62_1 k82 k106 y1 n) k82 k106 y1 y3 m := hR
    refine X.iload_n 63 (zi106 62) rfl rfl rfl ?_
    refine X.bipush 65 (zi106 63) rfl rfl (by decide) ?_
    refine X.icmpge 106 68 (zi106 65) rfl rfl rfl (fun h508 => ?_) (fun h508 => ?_)
    · refine X.cut [] (zi106 106) rfl ?_
      exact K106  m (B) (hJ.up (by omega)) (by omega)  (Eq.trans hR (Eq.trans (if_pos h508) rfl))
    · refine X.aload_n 69 (zi106 68) rfl rfl rfl ?_
      refine X.bipush 71 (zi106 69) rfl rfl (by decide) ?_
      refine X.callv 74 [zi 7] [] [(0, zr 4 41), (1, zi 7)] (zi106 71) rfl (by decide) rfl rfl (by omega) rfl rfl (by decide) rfl t100 (Nat.le_of_ble_eq_true rfl) (Nat.le_of_ble_eq_true rfl) rfl ?_
      refine c100_1 (B := B)  7 (by omega) (hJ.up (by omega)) (by omega) (by omega) hf16 hf19 hg4 (fun v511 m509 hv511 hFv511 hJ510 hqv511_0 => ?_)
      show X (EE s) d 106 74 [(0, zr 4 41), (1, zi y1), (3, zi y3)] [zi v511] m509 _
      refine X.istore 76 [(0, zr 4 41), (1, zi y1), (3, zi y3), (4, zi v511)] (zi106 74) rfl rfl rfl ?_
      refine X.iload 78 (zi106 76) rfl rfl rfl ?_
      refine X.iconst 79 (zi106 78) rfl rfl (by decide) ?_
      refine X.icmpne 84 82 (zi106 79) rfl rfl rfl (fun h512 => ?_) (fun h512 => ?_)
      · refine X.aload_n 85 (zi106 84) rfl rfl rfl ?_
        refine X.getF 88 (zi106 85) rfl rfl (by decide) rfl rfl ?_
        refine X.getR 91 (zi106 88) rfl rfl (by decide) rfl rfl ?_
        refine X.iload_n 92 (zi106 91) rfl rfl rfl ?_
        refine X.bipush 94 (zi106 92) rfl rfl (by decide) ?_
        refine X.imul 95 (zi106 94) rfl rfl (by omega) ?_
        refine X.iload_n 96 (zi106 95) rfl rfl rfl ?_
        refine X.iadd 97 (zi106 96) rfl rfl (by omega) ?_
        refine X.iload 99 (zi106 97) rfl rfl rfl ?_
        refine X.iast' 100 (zi106 99) rfl rfl (by decide) rfl (by omega) (fun hrm513 m513 hm513 => ?_)
        have hJ514 := w16_0 hJ510 hm513 (by omega) (by omega) hf1 hg3
        refine X.iinc 103 [(0, zr 4 41), (1, zi y1), (3, zi (y3 + 1)), (4, zi v511)] (zi106 100) rfl rfl rfl (by omega) rfl ?_
        refine X.goto 62 (zi106 103) rfl rfl ?_
        refine X.cut [(0, zr 4 41), (1, zi y1), (3, zi (y3 + 1))] (zi106 62) rfl ?_
        exact ih (y3 + 1) m513 (B) (hJ514.up (by omega)) (by omega) (by omega) (by omega) (Eq.trans hR (Eq.trans (if_neg h508) (Eq.trans (zb_eq hFv511) (Eq.trans (if_neg h512) (Eq.trans (zs_eq hm513) rfl)))))
      · exact K82 y3 v511 m509 (B) (hJ510.up (by omega)) (by omega) (by first | trivial | omega) (by first | trivial | omega) (Eq.trans hR (Eq.trans (if_neg h508) (Eq.trans (zb_eq hFv511) (Eq.trans (if_pos h512) rfl))))
-- WorkMeter$CalendarText.readSeason
noncomputable def f106_1 (m : zM) : Int × zM :=
  zs (z_upd m 4 41 7 ((m 4 41 7) + 6)) fun m502 =>
  zb (f99_1 3 (m502 4 41 10) m502) fun v507 m505 =>
  if v507 = (-1) then
  ((0, m505))
  else
  (zn (zshl 1 v507) fun z510 =>
  zn (zor (m505 4 41 10) z510) fun z511 =>
  zs (z_upd m505 4 41 10 z511) fun m512 =>
  zb (f100_1 364 m512) fun v516 m514 =>
  if v516 = (-1) then
  ((0, m514))
  else
  (zs (z_upd m514 3 15 v507 v516) fun m518 =>
  fl106_62_1 (fun y520 y521 m522 =>
  (0, m522)) (fun m526 =>
  (1, m526)) v507 (zfu 8) 0 m518))
end
