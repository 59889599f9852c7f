section
-- WorkMeterModel.seen
theorem c303_1 {s : Nat × (Nat → Int32)} {S : zS} {m0 m : zM} {B : Int} {d : Nat} {Q : Option zV → zM → Prop} (a1 : Int) (hd : 14 ≤ d) (hJ : J S m0 B m) (hB : B + 0 ≤ 1000000000) (ha1 : 0 ≤ a1 ∧ a1 ≤ 6) (hQ : ∀ (v : Int), (True) → f303_1 a1 m = v → Q (some (zl v)) m) : X (EE s) d 303 0 [(0, zr 4 44), (1, zi a1)] [] m Q := by
  refine X.iload_n 1 (zi303 0) rfl rfl rfl ?_
  by_cases h501 : a1 = 0
  · refine X.tsIn 40 0 (zi303 1) rfl (by omega) rfl rfl ?_
    refine X.cut [(0, zr 4 44)] (zi303 40) rfl ?_
    refine X.aload_n 41 (zi303 40) rfl rfl rfl ?_
    refine X.getF 44 (zi303 41) rfl rfl (by decide) rfl rfl ?_
    refine X.bipush 46 (zi303 44) rfl rfl (by decide) ?_
    refine X.lald 47 (zi303 46) rfl rfl (by decide) rfl (by omega) ?_
    refine X.aload_n 48 (zi303 47) rfl rfl rfl ?_
    refine X.getF 51 (zi303 48) rfl rfl (by decide) rfl rfl ?_
    refine X.iconst 52 (zi303 51) rfl rfl (by decide) ?_
    refine X.lald 53 (zi303 52) rfl rfl (by decide) rfl (by omega) ?_
    have h502 := r45_5 hJ 4
    refine X.ldivW 54 (zi303 53) rfl rfl (by omega) (fun z503 ez503 hz503 => ?_)
    refine X.retl (zi303 54) rfl t303 ?_
    exact hQ z503 (by first | trivial | omega) (Eq.trans (if_pos h501) (Eq.trans (zn_eq ez503) rfl)) 
  by_cases h504 : a1 = 1
  · refine X.tsIn 55 1 (zi303 1) rfl (by omega) rfl rfl ?_
    refine X.cut [(0, zr 4 44)] (zi303 55) rfl ?_
    refine X.aload_n 56 (zi303 55) rfl rfl rfl ?_
    refine X.getF 59 (zi303 56) rfl rfl (by decide) rfl rfl ?_
    refine X.bipush 61 (zi303 59) rfl rfl (by decide) ?_
    refine X.lald 62 (zi303 61) rfl rfl (by decide) rfl (by omega) ?_
    refine X.aload_n 63 (zi303 62) rfl rfl rfl ?_
    refine X.getF 66 (zi303 63) rfl rfl (by decide) rfl rfl ?_
    refine X.iconst 67 (zi303 66) rfl rfl (by decide) ?_
    refine X.lald 68 (zi303 67) rfl rfl (by decide) rfl (by omega) ?_
    have h505 := r45_5 hJ 4
    refine X.ldivW 69 (zi303 68) rfl rfl (by omega) (fun z506 ez506 hz506 => ?_)
    refine X.retl (zi303 69) rfl t303 ?_
    exact hQ z506 (by first | trivial | omega) (Eq.trans (if_neg h501) (Eq.trans (if_pos h504) (Eq.trans (zn_eq ez506) rfl))) 
  by_cases h507 : a1 = 2
  · refine X.tsIn 70 2 (zi303 1) rfl (by omega) rfl rfl ?_
    refine X.cut [(0, zr 4 44)] (zi303 70) rfl ?_
    refine X.aload_n 71 (zi303 70) rfl rfl rfl ?_
    refine X.getF 74 (zi303 71) rfl rfl (by decide) rfl rfl ?_
    refine X.bipush 76 (zi303 74) rfl rfl (by decide) ?_
    refine X.lald 77 (zi303 76) rfl rfl (by decide) rfl (by omega) ?_
    refine X.retl (zi303 77) rfl t303 ?_
    exact hQ (m 4 45 10) (by first | trivial | omega) (Eq.trans (if_neg h501) (Eq.trans (if_neg h504) (Eq.trans (if_pos h507) rfl))) 
  by_cases h508 : a1 = 3
  · refine X.tsIn 78 3 (zi303 1) rfl (by omega) rfl rfl ?_
    refine X.cut [(0, zr 4 44)] (zi303 78) rfl ?_
    refine X.aload_n 79 (zi303 78) rfl rfl rfl ?_
    refine X.callv 82 [] [] [(0, zr 4 44)] (zi303 79) rfl (by decide) rfl rfl (by omega) rfl rfl (by decide) rfl t304 (Nat.le_of_ble_eq_true rfl) (Nat.le_of_ble_eq_true rfl) rfl ?_
    refine c304_1 (B := B)   (by omega) (hJ.up (by omega)) (by omega)  (fun v511 hv511 hFv511 => ?_)
    show X (EE s) d 303 82 [(0, zr 4 44)] [zl v511] m _
    refine X.retl (zi303 82) rfl t303 ?_
    exact hQ v511 (by first | trivial | omega) (Eq.trans (if_neg h501) (Eq.trans (if_neg h504) (Eq.trans (if_neg h507) (Eq.trans (if_pos h508) (Eq.trans (zn_eq hFv511.symm) rfl))))) 
  by_cases h512 : a1 = 4
  · refine X.tsIn 83 4 (zi303 1) rfl (by omega) rfl rfl ?_
    refine X.cut [(0, zr 4 44)] (zi303 83) rfl ?_
    refine X.aload_n 84 (zi303 83) rfl rfl rfl ?_
    refine X.callv 87 [] [] [(0, zr 4 44)] (zi303 84) rfl (by decide) rfl rfl (by omega) rfl rfl (by decide) rfl t231 (Nat.le_of_ble_eq_true rfl) (Nat.le_of_ble_eq_true rfl) rfl ?_
    refine c231_1 (B := B)   (by omega) (hJ.up (by omega)) (by omega)  (fun v515 hv515 hFv515 => ?_)
    show X (EE s) d 303 87 [(0, zr 4 44)] [zl v515] m _
    refine X.retl (zi303 87) rfl t303 ?_
    exact hQ v515 (by first | trivial | omega) (Eq.trans (if_neg h501) (Eq.trans (if_neg h504) (Eq.trans (if_neg h507) (Eq.trans (if_neg h508) (Eq.trans (if_pos h512) (Eq.trans (zn_eq hFv515.symm) rfl)))))) 
  by_cases h516 : a1 = 5
  · refine X.tsIn 88 5 (zi303 1) rfl (by omega) rfl rfl ?_
    refine X.cut [(0, zr 4 44)] (zi303 88) rfl ?_
    refine X.aload_n 89 (zi303 88) rfl rfl rfl ?_
    refine X.getF 92 (zi303 89) rfl rfl (by decide) rfl rfl ?_
    refine X.bipush 94 (zi303 92) rfl rfl (by decide) ?_
    refine X.lald 95 (zi303 94) rfl rfl (by decide) rfl (by omega) ?_
    have h517 := r45_12 hJ 4
    refine X.retl (zi303 95) rfl t303 ?_
    exact hQ (m 4 45 12) (by first | trivial | omega) (Eq.trans (if_neg h501) (Eq.trans (if_neg h504) (Eq.trans (if_neg h507) (Eq.trans (if_neg h508) (Eq.trans (if_neg h512) (Eq.trans (if_pos h516) rfl)))))) 
  refine X.tsOut 96 (zi303 1) rfl (by omega) rfl ?_
  refine X.cut [(0, zr 4 44)] (zi303 96) rfl ?_
  refine X.aload_n 97 (zi303 96) rfl rfl rfl ?_
  refine X.getF 100 (zi303 97) rfl rfl (by decide) rfl rfl ?_
  refine X.iconst 101 (zi303 100) rfl rfl (by decide) ?_
  refine X.lald 102 (zi303 101) rfl rfl (by decide) rfl (by omega) ?_
  have h518 := r45_0 hJ 4
  refine X.retl (zi303 102) rfl t303 ?_
  exact hQ (m 4 45 0) (by first | trivial | omega) (Eq.trans (if_neg h501) (Eq.trans (if_neg h504) (Eq.trans (if_neg h507) (Eq.trans (if_neg h508) (Eq.trans (if_neg h512) (Eq.trans (if_neg h516) rfl)))))) 
-- WorkMeterModel.would
noncomputable def f302_1 (a1 a2 : Int) (m : zM) : Int × zM :=
  if a1 < 1 then
  (((-10000000000), m))
  else
  (if a1 ≤ 900 then
  (if a2 < 0 then
  (((-10000000000), m))
  else
  (if a2 ≤ 6 then
  (zs (z_cpy m 4 46 4 45 0 0 1619) fun m515 =>
  fl302_41_1 (fun m518 =>
  zn (f303_1 a2 m518) fun v524 =>
  zs (z_cpy m518 4 45 4 46 0 0 1619) fun m525 =>
  (v524, m525)) a1 a2 (zfu 901) 0 m515)
  else
  (((-10000000000), m))))
  else
  (((-10000000000), m)))
-- WorkMeterModel.would
theorem c302_1 {s : Nat × (Nat → Int32)} {S : zS} {m0 m : zM} {B : Int} {d : Nat} {Q : Option zV → zM → Prop} (a1 a2 : Int) (hd : 20 ≤ d) (hJ : J S m0 B m) (hB : B + 9911 ≤ 1000000000) (ha1 : (-2147483648) ≤ a1 ∧ a1 ≤ 2147483647) (ha2 : (-2147483648) ≤ a2 ∧ a2 ≤ 2147483647) (hf21 : ¬ S.1 21) (hf22 : ¬ S.1 22) (hf23 : ¬ S.1 23) (hf24 : ¬ S.1 24) (hf25 : ¬ S.1 25) (hf26 : ¬ S.1 26) (hf27 : ¬ S.1 27) (hf28 : ¬ S.1 28) (hf29 : ¬ S.1 29) (hf30 : ¬ S.1 30) (hf31 : ¬ S.1 31) (hf32 : ¬ S.1 32) (hf33 : ¬ S.1 33) (hf38 : ¬ S.1 38) (hg4 : ¬ S.2.1 4) (hQ : ∀ (v : Int) m', (True) → f302_1 a1 a2 m = (v, m') → J S m0 (B + 9911) m' → Q (some (zl v)) m') : X (EE s) d 302 0 [(0, zr 4 44), (1, zi a1), (2, zi a2)] [] m Q := by
  refine X.iload_n 1 (zi302 0) rfl rfl rfl ?_
  refine X.i2l 2 (zi302 1) rfl rfl ?_
  refine X.lconst (y := 1) 3 (zi302 2) rfl rfl rfl ?_
  refine X.ldc2 6 (zi302 3) rfl rfl (by decide) ?_
  refine X.calls 9 [zl a1, zl 1, zl 900] [] [(0, zl a1), (2, zl 1), (4, zl 900)] (zi302 6) (by decide) rfl rfl (by omega) rfl rfl t204 (Nat.le_of_ble_eq_true rfl) (Nat.le_of_ble_eq_true rfl) rfl ?_
  refine X.lload_n 1 (zi204 0) rfl rfl rfl ?_
  refine X.lload_n 2 (zi204 1) rfl rfl rfl ?_
  refine X.lcmp 3 (zi204 2) rfl rfl (fun z501 hz501 => ?_)
  refine X.iflt 17 6 (zi204 3) rfl rfl rfl (fun h502 => ?_) (fun h502 => ?_)
  · have h502c : a1 < 1 := by omega
    clear h502 hz501
    refine X.cut [] (zi204 17) rfl ?_
    refine X.iconst 18 (zi204 17) rfl rfl (by decide) ?_
    refine X.retz (zi204 18) rfl t204 (by omega) ?_
    show X (EE s) d 302 9 [(0, zr 4 44), (1, zi a1), (2, zi a2)] [zi 0] m _
    refine X.ifeq 24 12 (zi302 9) rfl rfl rfl (fun h503 => ?_) (fun h503 => (by exfalso; omega))
    refine X.cut [] (zi302 24) rfl ?_
    refine X.ldc2 27 (zi302 24) rfl rfl (by decide) ?_
    refine X.retl (zi302 27) rfl t302 ?_
    exact hQ (-10000000000) m (by first | trivial | omega) (Eq.trans (if_pos h502c) rfl) (hJ.up (by omega)) 
  · have h502c : ¬ a1 < 1 := by omega
    clear h502 hz501
    refine X.lload_n 7 (zi204 6) rfl rfl rfl ?_
    refine X.lload 9 (zi204 7) rfl rfl rfl ?_
    refine X.lcmp 10 (zi204 9) rfl rfl (fun z504 hz504 => ?_)
    refine X.ifgt 17 13 (zi204 10) rfl rfl rfl (fun h505 => ?_) (fun h505 => ?_)
    · have h505c : ¬ a1 ≤ 900 := by omega
      clear h505 hz504
      refine X.cut [] (zi204 17) rfl ?_
      refine X.iconst 18 (zi204 17) rfl rfl (by decide) ?_
      refine X.retz (zi204 18) rfl t204 (by omega) ?_
      show X (EE s) d 302 9 [(0, zr 4 44), (1, zi a1), (2, zi a2)] [zi 0] m _
      refine X.ifeq 24 12 (zi302 9) rfl rfl rfl (fun h506 => ?_) (fun h506 => (by exfalso; omega))
      refine X.cut [] (zi302 24) rfl ?_
      refine X.ldc2 27 (zi302 24) rfl rfl (by decide) ?_
      refine X.retl (zi302 27) rfl t302 ?_
      exact hQ (-10000000000) m (by first | trivial | omega) (Eq.trans (if_neg h502c) (Eq.trans (if_neg h505c) rfl)) (hJ.up (by omega)) 
    · have h505c : a1 ≤ 900 := by omega
      clear h505 hz504
      refine X.iconst 14 (zi204 13) rfl rfl (by decide) ?_
      refine X.goto 18 (zi204 14) rfl rfl ?_
      refine X.cut [] (zi204 18) rfl ?_
      refine X.retz (zi204 18) rfl t204 (by omega) ?_
      show X (EE s) d 302 9 [(0, zr 4 44), (1, zi a1), (2, zi a2)] [zi 1] m _
      refine X.ifeq 24 12 (zi302 9) rfl rfl rfl (fun h507 => (by exfalso; omega)) (fun h507 => ?_)
      refine X.iload_n 13 (zi302 12) rfl rfl rfl ?_
      refine X.i2l 14 (zi302 13) rfl rfl ?_
      refine X.lconst (y := 0) 15 (zi302 14) rfl rfl rfl ?_
      refine X.ldc2 18 (zi302 15) rfl rfl (by decide) ?_
      refine X.calls 21 [zl a2, zl 0, zl 6] [] [(0, zl a2), (2, zl 0), (4, zl 6)] (zi302 18) (by decide) rfl rfl (by omega) rfl rfl t204 (Nat.le_of_ble_eq_true rfl) (Nat.le_of_ble_eq_true rfl) rfl ?_
      refine X.lload_n 1 (zi204 0) rfl rfl rfl ?_
      refine X.lload_n 2 (zi204 1) rfl rfl rfl ?_
      refine X.lcmp 3 (zi204 2) rfl rfl (fun z508 hz508 => ?_)
      refine X.iflt 17 6 (zi204 3) rfl rfl rfl (fun h509 => ?_) (fun h509 => ?_)
      · have h509c : a2 < 0 := by omega
        clear h509 hz508
        refine X.cut [] (zi204 17) rfl ?_
        refine X.iconst 18 (zi204 17) rfl rfl (by decide) ?_
        refine X.retz (zi204 18) rfl t204 (by omega) ?_
        show X (EE s) d 302 21 [(0, zr 4 44), (1, zi a1), (2, zi a2)] [zi 0] m _
        refine X.ifne 28 24 (zi302 21) rfl rfl rfl (fun h510 => (by exfalso; omega)) (fun h510 => ?_)
        refine X.cut [] (zi302 24) rfl ?_
        refine X.ldc2 27 (zi302 24) rfl rfl (by decide) ?_
        refine X.retl (zi302 27) rfl t302 ?_
        exact hQ (-10000000000) m (by first | trivial | omega) (Eq.trans (if_neg h502c) (Eq.trans (if_pos h505c) (Eq.trans (if_pos h509c) rfl))) (hJ.up (by omega)) 
      · have h509c : ¬ a2 < 0 := by omega
        clear h509 hz508
        refine X.lload_n 7 (zi204 6) rfl rfl rfl ?_
        refine X.lload 9 (zi204 7) rfl rfl rfl ?_
        refine X.lcmp 10 (zi204 9) rfl rfl (fun z511 hz511 => ?_)
        refine X.ifgt 17 13 (zi204 10) rfl rfl rfl (fun h512 => ?_) (fun h512 => ?_)
        · have h512c : ¬ a2 ≤ 6 := by omega
          clear h512 hz511
          refine X.cut [] (zi204 17) rfl ?_
          refine X.iconst 18 (zi204 17) rfl rfl (by decide) ?_
          refine X.retz (zi204 18) rfl t204 (by omega) ?_
          show X (EE s) d 302 21 [(0, zr 4 44), (1, zi a1), (2, zi a2)] [zi 0] m _
          refine X.ifne 28 24 (zi302 21) rfl rfl rfl (fun h513 => (by exfalso; omega)) (fun h513 => ?_)
          refine X.cut [] (zi302 24) rfl ?_
          refine X.ldc2 27 (zi302 24) rfl rfl (by decide) ?_
          refine X.retl (zi302 27) rfl t302 ?_
          exact hQ (-10000000000) m (by first | trivial | omega) (Eq.trans (if_neg h502c) (Eq.trans (if_pos h505c) (Eq.trans (if_neg h509c) (Eq.trans (if_neg h512c) rfl)))) (hJ.up (by omega)) 
        · have h512c : a2 ≤ 6 := by omega
          clear h512 hz511
          refine X.iconst 14 (zi204 13) rfl rfl (by decide) ?_
          refine X.goto 18 (zi204 14) rfl rfl ?_
          refine X.cut [] (zi204 18) rfl ?_
          refine X.retz (zi204 18) rfl t204 (by omega) ?_
          show X (EE s) d 302 21 [(0, zr 4 44), (1, zi a1), (2, zi a2)] [zi 1] m _
          refine X.ifne 28 24 (zi302 21) rfl rfl rfl (fun h514 => ?_) (fun h514 => (by exfalso; omega))
          refine X.aload_n 29 (zi302 28) rfl rfl rfl ?_
          refine X.getF 32 (zi302 29) rfl rfl (by decide) rfl rfl ?_
          refine X.aload_n 33 (zi302 32) rfl rfl rfl ?_
          refine X.getF 36 (zi302 33) rfl rfl (by decide) rfl rfl ?_
          refine X.calls 39 [zr 4 45, zr 4 46] [] [(0, zr 4 45), (1, zr 4 46)] (zi302 36) (by decide) rfl rfl (by omega) rfl rfl t261 (Nat.le_of_ble_eq_true rfl) (Nat.le_of_ble_eq_true rfl) rfl ?_
          refine c_cq_45_46 (S := S) (B := B) (by omega) (hJ)  hf38 hg4 (fun m515 hFv517 hJ516 => ?_)
          have wcm515 : m515 4 44 3 = m 4 44 3 := by rw [hFv517]; exact z_cpy_o rfl
          show X (EE s) d 302 39 [(0, zr 4 44), (1, zi a1), (2, zi a2)] [] m515 _
          refine X.iconst 40 (zi302 39) rfl rfl (by decide) ?_
          refine X.istore_n 41 [(0, zr 4 44), (1, zi a1), (2, zi a2), (3, zi 0)] (zi302 40) rfl rfl rfl ?_
          have hz901 := zfu_eq 901
          refine l302_41_1 (s := s) (d := d) (R0 := (f302_1 a1 a2 m)) (S := (S.1, S.2.1, True, S.2.2.2))  a1 a2  (BE := B + 9911) (by omega) (by omega) (by omega) (by omega) hf26 hf27 hf28 hf29 hf30 hf31 hf32 hf33 hg4 (fun  m518 B519 hJ520 hBB519 hR521 => ?_) (zfu 901) 0 m515 (B) (hJ516.up (by omega)) (by omega) (by omega) (by omega) (Eq.trans (if_neg h502c) (Eq.trans (if_pos h505c) (Eq.trans (if_neg h509c) (Eq.trans (if_pos h512c) (Eq.trans (zs_eq hFv517) rfl)))))
          refine X.aload_n 57 (zi302 56) rfl rfl rfl ?_
          refine X.iload_n 58 (zi302 57) rfl rfl rfl ?_
          refine X.callv 61 [zi a2] [] [(0, zr 4 44), (1, zi a2)] (zi302 58) rfl (by decide) rfl rfl (by omega) rfl rfl (by decide) rfl t303 (Nat.le_of_ble_eq_true rfl) (Nat.le_of_ble_eq_true rfl) rfl ?_
          refine c303_1 (S := (S.1, S.2.1, True, S.2.2.2)) (B := B519)  a2 (by omega) (hJ520.up (by omega)) (by omega) (by omega) (fun v524 hv524 hFv524 => ?_)
          show X (EE s) d 302 61 [(0, zr 4 44), (2, zi a2)] [zl v524] m518 _
          refine X.lstore_n 62 [(0, zr 4 44), (2, zi a2), (3, zl v524)] (zi302 61) rfl rfl rfl ?_
          refine X.aload_n 63 (zi302 62) rfl rfl rfl ?_
          refine X.getF 66 (zi302 63) rfl rfl (by decide) rfl rfl ?_
          refine X.aload_n 67 (zi302 66) rfl rfl rfl ?_
          refine X.getF 70 (zi302 67) rfl rfl (by decide) rfl rfl ?_
          refine X.calls 73 [zr 4 46, zr 4 45] [] [(0, zr 4 46), (1, zr 4 45)] (zi302 70) (by decide) rfl rfl (by omega) rfl rfl t261 (Nat.le_of_ble_eq_true rfl) (Nat.le_of_ble_eq_true rfl) rfl ?_
          refine c_cq_46_45 (S := (S.1, S.2.1, True, S.2.2.2)) (B := B519) (by omega) (hJ520) trivial hf21 hf22 hf23 hf24 hf25 hf26 hf27 hf28 hf29 hf30 hf31 hf32 hf33 hg4 (fun m525 hFv527 hJ526 => ?_)
          have wcm525 : m525 4 44 3 = m518 4 44 3 := by rw [hFv527]; exact z_cpy_o rfl
          show X (EE s) d 302 73 [(0, zr 4 44), (2, zi a2), (3, zl v524)] [] m525 _
          refine X.lload_n 74 (zi302 73) rfl rfl rfl ?_
          refine X.retl (zi302 74) rfl t302 ?_
          exact hQ v524 m525 (by first | trivial | omega) (Eq.trans hR521 (Eq.trans (zn_eq hFv524.symm) (Eq.trans (zs_eq hFv527) rfl))) ((J.wk (p' := S.2.2.1) (q' := S.2.2.2) hJ526 (fun h => by first | trivial | exact h) (fun h => by first | trivial | exact h)).up (by omega)) 
noncomputable def fl182_14_1_b (self : Int → Int → Int → Int) (k73 : Int → Int) (g0 g3 : Nat) (y2 y4 : Int) (m : zM) (y5 y6 y8 : Int) : Int :=
  if y2 ≤ y8 then
  (k73 y6)
  else
  (if y4 ≤ y5 then
  (k73 y6)
  else
  (zn (f37_1 g0 y5 m) fun v556 =>
  zn (f27_1 g0 y5 m) fun v559 =>
  zn (((m g3 10 (6 + v559)) * ((min v556 y4) - y5))) fun z561 =>
  zn (w64 (y6 + z561)) fun z562 =>
  self (min v556 y4) z562 (y8 + 1)))
noncomputable def fl182_14_1 (k73 : Int → Int) (g0 g3 : Nat) (y2 y4 : Int) (m : zM) : Nat → Int → Int → Int → Int
  | 0 => fun y5 y6 y8 => 0
  | n + 1 => fl182_14_1_b (fl182_14_1 k73 g0 g3 y2 y4 m n) k73 g0 g3 y2 y4 m
theorem l182_14_1 {s : Nat × (Nat → Int32)} {S : zS} {m0 : zM} {m : zM} {B : Int} {d : Nat} {Q : Option zV → zM → Prop} {R0 : Int} {k73 : Int → Int} (g0 g3 : Nat) (y2 y4 : Int) (hd : 16 ≤ d) (hJ : J S m0 B m) (hB9 : B ≤ 1000000000) (hy2 : 1 ≤ y2 ∧ y2 ≤ 100000) (hy4 : 1 ≤ y4 ∧ y4 ≤ 2000100000)
    (K73 : ∀ (x6 : Int) , (True) → R0 = k73 x6 → X (EE s) d 182 73 [(6, zl x6)] [] m Q) :
    ∀ (n : Nat) (y5 y6 y8 : Int) , (0 ≤ y5 ∧ y5 ≤ 2000100000) → (0 ≤ y8 ∧ y8 ≤ 100000) → 100000 - y8 < (n : Int) → R0 = fl182_14_1 k73 g0 g3 y2 y4 m n y5 y6 y8 → X (EE s) d 182 14 [(0, zr g0 11), (2, zi y2), (3, zr g3 9), (4, zi y4), (5, zi y5), (6, zl y6), (8, zi y8)] [] m Q := by
  intro n
  induction n with
  | zero =>
    intro y5 y6 y8 hy5 hy8 hn hR
    exfalso
    omega
  | succ n ih =>
    intro y5 y6 y8 hy5 hy8 hn hR
    replace hR : R0 = fl182_14_1_b (fl182_14_1 k73 g0 g3 y2 y4 m n) k73 g0 g3 y2 y4 m y5 y6 y8 := hR
    refine X.iload 16 (zi182 14) rfl rfl rfl ?_
    refine X.iload_n 17 (zi182 16) rfl rfl rfl ?_
    refine X.icmpge 73 20 (zi182 17) rfl rfl rfl (fun h552 => ?_) (fun h552 => ?_)
    · refine X.cut [(6, zl y6)] (zi182 73) rfl ?_
      exact K73 y6 (by first | trivial | omega) (Eq.trans hR (Eq.trans (if_pos h552) rfl))
    · refine X.iload 22 (zi182 20) rfl rfl rfl ?_
      refine X.iload 24 (zi182 22) rfl rfl rfl ?_
      refine X.icmpge 73 27 (zi182 24) rfl rfl rfl (fun h553 => ?_) (fun h553 => ?_)
      · refine X.cut [(6, zl y6)] (zi182 73) rfl ?_
        exact K73 y6 (by first | trivial | omega) (Eq.trans hR (Eq.trans (if_neg h552) (Eq.trans (if_pos h553) rfl)))
      · refine X.aload_n 28 (zi182 27) rfl rfl rfl ?_
        refine X.iload 30 (zi182 28) rfl rfl rfl ?_
        refine X.callv 33 [zi y5] [] [(0, zr g0 11), (1, zi y5)] (zi182 30) rfl (by decide) rfl rfl (by omega) rfl rfl (by decide) rfl t37 (Nat.le_of_ble_eq_true rfl) (Nat.le_of_ble_eq_true rfl) rfl ?_
        refine c37_1 (B := B) g0 y5 (by omega) (hJ.up (by omega)) (by omega) (by omega) (fun v556 hv556 hFv556 hqv556_0 => ?_)
        show X (EE s) d 182 33 [(0, zr g0 11), (2, zi y2), (3, zr g3 9), (4, zi y4), (5, zi y5), (6, zl y6), (8, zi y8)] [zi v556] m _
        refine X.iload 35 (zi182 33) rfl rfl rfl ?_
        refine X.minI 38 (zi182 35) rfl rfl (by omega) (Nat.le_of_ble_eq_true rfl) ?_
        refine X.istore 40 [(0, zr g0 11), (2, zi y2), (3, zr g3 9), (4, zi y4), (5, zi y5), (6, zl y6), (8, zi y8), (9, zi (min v556 y4))] (zi182 38) rfl rfl rfl ?_
        refine X.lload 42 (zi182 40) rfl rfl rfl ?_
        refine X.aload_n 43 (zi182 42) rfl rfl rfl ?_
        refine X.aload_n 44 (zi182 43) rfl rfl rfl ?_
        refine X.iload 46 (zi182 44) rfl rfl rfl ?_
        refine X.callv 49 [zi y5] [zr g3 9, zl y6] [(0, zr g0 11), (1, zi y5)] (zi182 46) rfl (by decide) rfl rfl (by omega) rfl rfl (by decide) rfl t27 (Nat.le_of_ble_eq_true rfl) (Nat.le_of_ble_eq_true rfl) rfl ?_
        refine c27_1 (B := B) g0 y5 (by omega) (hJ.up (by omega)) (by omega) (by omega) (fun v559 hv559 hFv559 => ?_)
        show X (EE s) d 182 49 [(0, zr g0 11), (2, zi y2), (3, zr g3 9), (4, zi y4), (5, zi y5), (6, zl y6), (8, zi y8), (9, zi (min v556 y4))] [zi v559, zr g3 9, zl y6] m _
        refine X.callv 52 [zi v559] [zl y6] [(0, zr g3 9), (1, zi v559)] (zi182 49) rfl (by decide) rfl rfl (by omega) rfl rfl (by decide) rfl t43 (Nat.le_of_ble_eq_true rfl) (Nat.le_of_ble_eq_true rfl) rfl ?_
        refine X.aload_n 1 (zi43 0) rfl rfl rfl ?_
        refine X.getR 4 (zi43 1) rfl rfl (by decide) rfl rfl ?_
        refine X.bipush 6 (zi43 4) rfl rfl (by decide) ?_
        refine X.iload_n 7 (zi43 6) rfl rfl rfl ?_
        refine X.iadd 8 (zi43 7) rfl rfl (by omega) ?_
        refine X.iald 9 (zi43 8) rfl rfl (by decide) rfl (by omega) ?_
        have h560 := r10_6 hJ g3 (i := (6 + v559)) (by omega)
        refine X.reti (zi43 9) rfl t43 ?_
        show X (EE s) d 182 52 [(0, zr g0 11), (2, zi y2), (3, zr g3 9), (4, zi y4), (5, zi y5), (6, zl y6), (8, zi y8), (9, zi (min v556 y4))] [zi (m g3 10 (6 + v559)), zl y6] m _
        refine X.i2l 53 (zi182 52) rfl rfl ?_
        refine X.iload 55 (zi182 53) rfl rfl rfl ?_
        refine X.iload 57 (zi182 55) rfl rfl rfl ?_
        refine X.isub 58 (zi182 57) rfl rfl (by omega) ?_
        refine X.i2l 59 (zi182 58) rfl rfl ?_
        have hz561 := z_mulr (a := 0) (b := 1000000) (c := (-2000099999)) (e := 2000100000) (x := (m g3 10 (6 + v559))) (y := ((min v556 y4) - y5)) (by omega) (by omega)
        refine X.lmul 60 (zi182 59) rfl rfl (z_in3 hz561 (by decide) (by decide)) ?_
        obtain ⟨z561, ez561⟩ : ∃ z, z = ((m g3 10 (6 + v559)) * ((min v556 y4) - y5)) := ⟨_, rfl⟩
        rw [← ez561] at hz561 ⊢
        have gz561 : (-2000099999000000) ≤ z561 ∧ z561 ≤ 2000100000000000 := z_in3 hz561 (by decide) (by decide)
        clear hz561
        refine X.laddW 61 (zi182 60) rfl rfl (fun z562 ez562 hz562 => ?_)
        refine X.lstore 63 [(0, zr g0 11), (2, zi y2), (3, zr g3 9), (4, zi y4), (5, zi y5), (6, zl z562), (8, zi y8), (9, zi (min v556 y4))] (zi182 61) rfl rfl rfl ?_
        refine X.iload 65 (zi182 63) rfl rfl rfl ?_
        refine X.istore 67 [(0, zr g0 11), (2, zi y2), (3, zr g3 9), (4, zi y4), (5, zi (min v556 y4)), (6, zl z562), (8, zi y8), (9, zi (min v556 y4))] (zi182 65) rfl rfl rfl ?_
        refine X.iinc 70 [(0, zr g0 11), (2, zi y2), (3, zr g3 9), (4, zi y4), (5, zi (min v556 y4)), (6, zl z562), (8, zi (y8 + 1)), (9, zi (min v556 y4))] (zi182 67) rfl rfl rfl (by omega) rfl ?_
        refine X.goto 14 (zi182 70) rfl rfl ?_
        refine X.cut [(0, zr g0 11), (2, zi y2), (3, zr g3 9), (4, zi y4), (5, zi (min v556 y4)), (6, zl z562), (8, zi (y8 + 1))] (zi182 14) rfl ?_
        exact ih (min v556 y4) z562 (y8 + 1) (by omega) (by omega) (by omega) (Eq.trans hR (Eq.trans (if_neg h552) (Eq.trans (if_neg h553) (Eq.trans (zn_eq hFv556.symm) (Eq.trans (zn_eq hFv559.symm) (Eq.trans (zn_eq ez561) (Eq.trans (zn_eq ez562) rfl)))))))
-- WorkMeter$Calendar.costOf
noncomputable def f182_1 (g0 g3 : Nat) (a1 a2 : Int) (m : zM) : Int :=
  fl182_14_1 (fun y501 =>
  y501) g0 g3 a2 (a1 + a2) m (zfu 100001) a1 0 0
-- WorkMeter$Calendar.costOf
theorem c182_1 {s : Nat × (Nat → Int32)} {S : zS} {m0 m : zM} {B : Int} {d : Nat} {Q : Option zV → zM → Prop} (g0 g3 : Nat) (a1 a2 : Int) (hd : 16 ≤ d) (hJ : J S m0 B m) (hB : B + 0 ≤ 1000000000) (ha1 : 0 ≤ a1 ∧ a1 ≤ 2000000000) (ha2 : 1 ≤ a2 ∧ a2 ≤ 100000) (hQ : ∀ (v : Int), (True) → f182_1 g0 g3 a1 a2 m = v → Q (some (zl v)) m) : X (EE s) d 182 0 [(0, zr g0 11), (1, zi a1), (2, zi a2), (3, zr g3 9)] [] m Q := by
  refine X.iload_n 1 (zi182 0) rfl rfl rfl ?_
  refine X.iload_n 2 (zi182 1) rfl rfl rfl ?_
  refine X.iadd 3 (zi182 2) rfl rfl (by omega) ?_
  refine X.istore 5 [(0, zr g0 11), (1, zi a1), (2, zi a2), (3, zr g3 9), (4, zi (a1 + a2))] (zi182 3) rfl rfl rfl ?_
  refine X.iload_n 6 (zi182 5) rfl rfl rfl ?_
  refine X.istore 8 [(0, zr g0 11), (1, zi a1), (2, zi a2), (3, zr g3 9), (4, zi (a1 + a2)), (5, zi a1)] (zi182 6) rfl rfl rfl ?_
  refine X.lconst (y := 0) 9 (zi182 8) rfl rfl rfl ?_
  refine X.lstore 11 [(0, zr g0 11), (1, zi a1), (2, zi a2), (3, zr g3 9), (4, zi (a1 + a2)), (5, zi a1), (6, zl 0)] (zi182 9) rfl rfl rfl ?_
  refine X.iconst 12 (zi182 11) rfl rfl (by decide) ?_
  refine X.istore 14 [(0, zr g0 11), (1, zi a1), (2, zi a2), (3, zr g3 9), (4, zi (a1 + a2)), (5, zi a1), (6, zl 0), (8, zi 0)] (zi182 12) rfl rfl rfl ?_
  refine X.cut [(0, zr g0 11), (2, zi a2), (3, zr g3 9), (4, zi (a1 + a2)), (5, zi a1), (6, zl 0), (8, zi 0)] (zi182 14) rfl ?_
  have hz100001 := zfu_eq 100001
  refine l182_14_1 (s := s) (m := m) (B := B) (d := d) (R0 := (f182_1 g0 g3 a1 a2 m)) g0 g3 a2 (a1 + a2)  (by omega) (hJ.up (by omega)) (by omega) (by omega) (by omega) (fun y501 hby501 hR505 => ?_) (zfu 100001) a1 0 0 (by omega) (by omega) (by omega) rfl
  refine X.lload 75 (zi182 73) rfl rfl rfl ?_
  refine X.retl (zi182 75) rfl t182 ?_
  exact hQ y501 (by first | trivial | omega) (Eq.trans hR505 rfl) 
-- WorkMeter.cost
noncomputable def f181_1 (a1 : Int) (m : zM) : Int :=
  if a1 < 1 then
  ((-1))
  else
  (if 100000 < a1 then
  ((-1))
  else
  (if (((m 0 8 9) + a1) - 1) ≤ 2000000000 then
  (zn (f182_1 0 0 (m 0 8 9) a1 m) fun v507 =>
  v507)
  else
  ((-1))))
-- WorkMeter.cost
theorem c181_1 {s : Nat × (Nat → Int32)} {S : zS} {m0 m : zM} {B : Int} {d : Nat} {Q : Option zV → zM → Prop} (a1 : Int) (hd : 17 ≤ d) (hJ : J S m0 B m) (hB : B + 0 ≤ 1000000000) (ha1 : (-2147483648) ≤ a1 ∧ a1 ≤ 2147483647) (hQ : ∀ (v : Int), (True) → f181_1 a1 m = v → Q (some (zl v)) m) : X (EE s) d 181 0 [(0, zr 4 40), (1, zi a1)] [] m Q := by
  refine X.iload_n 1 (zi181 0) rfl rfl rfl ?_
  refine X.iconst 2 (zi181 1) rfl rfl (by decide) ?_
  refine X.icmplt 27 5 (zi181 2) rfl rfl rfl (fun h501 => ?_) (fun h501 => ?_)
  · refine X.cut [] (zi181 27) rfl ?_
    refine X.ldc2 30 (zi181 27) rfl rfl (by decide) ?_
    refine X.retl (zi181 30) rfl t181 ?_
    exact hQ (-1) (by first | trivial | omega) (Eq.trans (if_pos h501) rfl) 
  · refine X.iload_n 6 (zi181 5) rfl rfl rfl ?_
    refine X.ldc 8 (zi181 6) rfl rfl (by decide) ?_
    refine X.icmpgt 27 11 (zi181 8) rfl rfl rfl (fun h502 => ?_) (fun h502 => ?_)
    · refine X.cut [] (zi181 27) rfl ?_
      refine X.ldc2 30 (zi181 27) rfl rfl (by decide) ?_
      refine X.retl (zi181 30) rfl t181 ?_
      exact hQ (-1) (by first | trivial | omega) (Eq.trans (if_neg h501) (Eq.trans (if_pos h502) rfl)) 
    · refine X.aload_n 12 (zi181 11) rfl rfl rfl ?_
      refine X.getF 15 (zi181 12) rfl rfl (by decide) rfl rfl ?_
      refine X.getI 18 9 (zi181 15) rfl rfl (by decide) rfl rfl rfl ?_
      have h503 := r8_9 hJ 0
      refine X.iload_n 19 (zi181 18) rfl rfl rfl ?_
      refine X.iadd 20 (zi181 19) rfl rfl (by omega) ?_
      refine X.iconst 21 (zi181 20) rfl rfl (by decide) ?_
      refine X.isub 22 (zi181 21) rfl rfl (by omega) ?_
      refine X.ldc 24 (zi181 22) rfl rfl (by decide) ?_
      refine X.icmple 31 27 (zi181 24) rfl rfl rfl (fun h504 => ?_) (fun h504 => ?_)
      · refine X.aload_n 32 (zi181 31) rfl rfl rfl ?_
        refine X.getF 35 (zi181 32) rfl rfl (by decide) rfl rfl ?_
        refine X.getR 38 (zi181 35) rfl rfl (by decide) rfl rfl ?_
        refine X.aload_n 39 (zi181 38) rfl rfl rfl ?_
        refine X.getF 42 (zi181 39) rfl rfl (by decide) rfl rfl ?_
        refine X.getI 45 9 (zi181 42) rfl rfl (by decide) rfl rfl rfl ?_
        refine X.iload_n 46 (zi181 45) rfl rfl rfl ?_
        refine X.aload_n 47 (zi181 46) rfl rfl rfl ?_
        refine X.getF 50 (zi181 47) rfl rfl (by decide) rfl rfl ?_
        refine X.getR 53 (zi181 50) rfl rfl (by decide) rfl rfl ?_
        refine X.callv 56 [zi (m 0 8 9), zi a1, zr 0 9] [] [(0, zr 0 11), (1, zi (m 0 8 9)), (2, zi a1), (3, zr 0 9)] (zi181 53) rfl (by decide) rfl rfl (by omega) rfl rfl (by decide) rfl t182 (Nat.le_of_ble_eq_true rfl) (Nat.le_of_ble_eq_true rfl) rfl ?_
        refine c182_1 (B := B) 0 0 (m 0 8 9) a1 (by omega) (hJ.up (by omega)) (by omega) (by omega) (by omega) (fun v507 hv507 hFv507 => ?_)
        show X (EE s) d 181 56 [(0, zr 4 40), (1, zi a1)] [zl v507] m _
        refine X.retl (zi181 56) rfl t181 ?_
        exact hQ v507 (by first | trivial | omega) (Eq.trans (if_neg h501) (Eq.trans (if_neg h502) (Eq.trans (if_pos h504) (Eq.trans (zn_eq hFv507.symm) rfl)))) 
      · refine X.cut [] (zi181 27) rfl ?_
        refine X.ldc2 30 (zi181 27) rfl rfl (by decide) ?_
        refine X.retl (zi181 30) rfl t181 ?_
        exact hQ (-1) (by first | trivial | omega) (Eq.trans (if_neg h501) (Eq.trans (if_neg h502) (Eq.trans (if_neg h504) rfl))) 
noncomputable def fl307_19_1_b (self : Int → Int → Int → Int → Int) (k185 : Int → Int) (y2 y3 y4 : Int) (m : zM) (y5 y7 y8 y9 : Int) : Int :=
  if y9 ≤ (m 4 45 (287 + y4)) then
  (zn (if y9 < (m 4 45 (287 + y4)) then
  ((m 4 45 ((295 + (6 * y4)) + y9)))
  else
  (86400)) fun v700 =>
  zn (if y8 ≤ y2 then
  (y2)
  else
  (y8)) fun v706 =>
  zn (if y3 ≤ v700 then
  (y3)
  else
  (v700)) fun v712 =>
  zn (if v712 ≤ v706 then
  (y5)
  else
  (zn (((v712 - v706) * (m 4 45 (28 + y7)))) fun z719 =>
  zn (w64 (y5 + z719)) fun z720 =>
  z720)) fun v721 =>
  zn (if y9 < (m 4 45 (287 + y4)) then
  ((m 4 45 ((343 + (6 * y4)) + y9)))
  else
  (y7)) fun v729 =>
  self v721 v729 v700 (y9 + 1))
  else
  (k185 y5)
noncomputable def fl307_19_1 (k185 : Int → Int) (y2 y3 y4 : Int) (m : zM) : Nat → Int → Int → Int → Int → Int
  | 0 => fun y5 y7 y8 y9 => 0
  | n + 1 => fl307_19_1_b (fl307_19_1 k185 y2 y3 y4 m n) k185 y2 y3 y4 m
theorem l307_19_1 {s : Nat × (Nat → Int32)} {S : zS} {m0 : zM} {m : zM} {B : Int} {d : Nat} {Q : Option zV → zM → Prop} {R0 : Int} {k185 : Int → Int} (y2 y3 y4 : Int) (hd : 13 ≤ d) (hJ : J S m0 B m) (hB9 : B ≤ 1000000000) (hy2 : 0 ≤ y2 ∧ y2 ≤ 86399) (hy3 : 1 ≤ y3 ∧ y3 ≤ 86400) (hy4 : 0 ≤ y4 ∧ y4 ≤ 7)
    (K185 : ∀ (x5 : Int) , (True) → R0 = k185 x5 → X (EE s) d 307 185 [(5, zl x5)] [] m Q) :
    ∀ (n : Nat) (y5 y7 y8 y9 : Int) , (0 ≤ y7 ∧ y7 ≤ 3) → (0 ≤ y8 ∧ y8 ≤ 86400) → (0 ≤ y9 ∧ y9 ≤ 7) → 7 - y9 < (n : Int) → R0 = fl307_19_1 k185 y2 y3 y4 m n y5 y7 y8 y9 → X (EE s) d 307 19 [(0, zr 4 44), (2, zi y2), (3, zi y3), (4, zi y4), (5, zl y5), (7, zi y7), (8, zi y8), (9, zi y9)] [] m Q := by
  intro n
  induction n with
  | zero =>
    intro y5 y7 y8 y9 hy7 hy8 hy9 hn hR
    exfalso
    omega
  | succ n ih =>
    intro y5 y7 y8 y9 hy7 hy8 hy9 hn hR
    replace hR : R0 = fl307_19_1_b (fl307_19_1 k185 y2 y3 y4 m n) k185 y2 y3 y4 m y5 y7 y8 y9 := hR
    refine X.iload 21 (zi307 19) rfl rfl rfl ?_
    refine X.i2l 22 (zi307 21) rfl rfl ?_
    refine X.aload_n 23 (zi307 22) rfl rfl rfl ?_
    refine X.getF 26 (zi307 23) rfl rfl (by decide) rfl rfl ?_
    refine X.sipush 29 (zi307 26) rfl rfl (by decide) ?_
    refine X.iload 31 (zi307 29) rfl rfl rfl ?_
    refine X.iadd 32 (zi307 31) rfl rfl (by omega) ?_
    refine X.lald 33 (zi307 32) rfl rfl (by decide) rfl (by omega) ?_
    have h694 := r45_287 hJ 4 (i := (287 + y4)) (by omega)
    refine X.lcmp 34 (zi307 33) rfl rfl (fun z695 hz695 => ?_)
    refine X.ifgt 185 37 (zi307 34) rfl rfl rfl (fun h696 => ?_) (fun h696 => ?_)
    · have h696c : ¬ y9 ≤ (m 4 45 (287 + y4)) := by omega
      clear h696 hz695
      refine X.cut [(5, zl y5)] (zi307 185) rfl ?_
      exact K185 y5 (by first | trivial | omega) (Eq.trans hR (Eq.trans (if_neg h696c) rfl))
    · have h696c : y9 ≤ (m 4 45 (287 + y4)) := by omega
      clear h696 hz695
      refine X.iload 39 (zi307 37) rfl rfl rfl ?_
      refine X.i2l 40 (zi307 39) rfl rfl ?_
      refine X.aload_n 41 (zi307 40) rfl rfl rfl ?_
      refine X.getF 44 (zi307 41) rfl rfl (by decide) rfl rfl ?_
      refine X.sipush 47 (zi307 44) rfl rfl (by decide) ?_
      refine X.iload 49 (zi307 47) rfl rfl rfl ?_
      refine X.iadd 50 (zi307 49) rfl rfl (by omega) ?_
      refine X.lald 51 (zi307 50) rfl rfl (by decide) rfl (by omega) ?_
      refine X.lcmp 52 (zi307 51) rfl rfl (fun z697 hz697 => ?_)
      have hK703 : ∀ (v : Int) , (0 ≤ v ∧ v ≤ 86400) → (if y9 < (m 4 45 (287 + y4)) then
          ((m 4 45 ((295 + (6 * y4)) + y9)))
          else
          (86400)) = v → X (EE s) d 307 78 [(0, zr 4 44), (2, zi y2), (3, zi y3), (4, zi y4), (5, zl y5), (7, zi y7), (8, zi y8), (9, zi y9)] [zi v] m Q := by
        intro v700 hv700 hT704
        refine X.istore 80 [(0, zr 4 44), (2, zi y2), (3, zi y3), (4, zi y4), (5, zl y5), (7, zi y7), (8, zi y8), (9, zi y9), (10, zi v700)] (zi307 78) rfl rfl rfl ?_
        refine X.iload 82 (zi307 80) rfl rfl rfl ?_
        refine X.iload_n 83 (zi307 82) rfl rfl rfl ?_
        have hK709 : ∀ (v : Int) , (0 ≤ v ∧ v ≤ 86400) → (if y8 ≤ y2 then
            (y2)
            else
            (y8)) = v → X (EE s) d 307 92 [(0, zr 4 44), (2, zi y2), (3, zi y3), (4, zi y4), (5, zl y5), (7, zi y7), (9, zi y9), (10, zi v700)] [zi v] m Q := by
          intro v706 hv706 hT710
          refine X.istore 94 [(0, zr 4 44), (2, zi y2), (3, zi y3), (4, zi y4), (5, zl y5), (7, zi y7), (9, zi y9), (10, zi v700), (11, zi v706)] (zi307 92) rfl rfl rfl ?_
          refine X.iload 96 (zi307 94) rfl rfl rfl ?_
          refine X.iload_n 97 (zi307 96) rfl rfl rfl ?_
          have hK715 : ∀ (v : Int) , (0 ≤ v ∧ v ≤ 86400) → (if y3 ≤ v700 then
              (y3)
              else
              (v700)) = v → X (EE s) d 307 106 [(0, zr 4 44), (2, zi y2), (3, zi y3), (4, zi y4), (5, zl y5), (7, zi y7), (9, zi y9), (10, zi v700), (11, zi v706)] [zi v] m Q := by
            intro v712 hv712 hT716
            refine X.istore 108 [(0, zr 4 44), (2, zi y2), (3, zi y3), (4, zi y4), (5, zl y5), (7, zi y7), (9, zi y9), (10, zi v700), (11, zi v706), (12, zi v712)] (zi307 106) rfl rfl rfl ?_
            refine X.iload 110 (zi307 108) rfl rfl rfl ?_
            refine X.iload 112 (zi307 110) rfl rfl rfl ?_
            have hK724 : ∀ (v : Int) , (True) → (if v712 ≤ v706 then
                (y5)
                else
                (zn (((v712 - v706) * (m 4 45 (28 + y7)))) fun z719 =>
                zn (w64 (y5 + z719)) fun z720 =>
                z720)) = v → X (EE s) d 307 137 [(0, zr 4 44), (2, zi y2), (3, zi y3), (4, zi y4), (5, zl v), (7, zi y7), (9, zi y9), (10, zi v700)] [] m Q := by
              intro v721 hv721 hT725
              refine X.iload 139 (zi307 137) rfl rfl rfl ?_
              refine X.istore 141 [(0, zr 4 44), (2, zi y2), (3, zi y3), (4, zi y4), (5, zl v721), (7, zi y7), (8, zi v700), (9, zi y9), (10, zi v700)] (zi307 139) rfl rfl rfl ?_
              refine X.iload 143 (zi307 141) rfl rfl rfl ?_
              refine X.i2l 144 (zi307 143) rfl rfl ?_
              refine X.aload_n 145 (zi307 144) rfl rfl rfl ?_
              refine X.getF 148 (zi307 145) rfl rfl (by decide) rfl rfl ?_
              refine X.sipush 151 (zi307 148) rfl rfl (by decide) ?_
              refine X.iload 153 (zi307 151) rfl rfl rfl ?_
              refine X.iadd 154 (zi307 153) rfl rfl (by omega) ?_
              refine X.lald 155 (zi307 154) rfl rfl (by decide) rfl (by omega) ?_
              refine X.lcmp 156 (zi307 155) rfl rfl (fun z726 hz726 => ?_)
              have hK732 : ∀ (v : Int) , (0 ≤ v ∧ v ≤ 3) → (if y9 < (m 4 45 (287 + y4)) then
                  ((m 4 45 ((343 + (6 * y4)) + y9)))
                  else
                  (y7)) = v → X (EE s) d 307 179 [(0, zr 4 44), (2, zi y2), (3, zi y3), (4, zi y4), (5, zl v721), (7, zi v), (8, zi v700), (9, zi y9)] [] m Q := by
                intro v729 hv729 hT733
                refine X.iinc 182 [(0, zr 4 44), (2, zi y2), (3, zi y3), (4, zi y4), (5, zl v721), (7, zi v729), (8, zi v700), (9, zi (y9 + 1))] (zi307 179) rfl rfl rfl (by omega) rfl ?_
                refine X.goto 19 (zi307 182) rfl rfl ?_
                exact ih v721 v729 v700 (y9 + 1) (by omega) (by omega) (by omega) (by omega) (Eq.trans hR (Eq.trans (if_pos h696c) (Eq.trans (zn_eq hT704.symm) (Eq.trans (zn_eq hT710.symm) (Eq.trans (zn_eq hT716.symm) (Eq.trans (zn_eq hT725.symm) (Eq.trans (zn_eq hT733.symm) rfl)))))))
              refine X.ifge 179 159 (zi307 156) rfl rfl rfl (fun h727 => ?_) (fun h727 => ?_)
              · have h727c : ¬ y9 < (m 4 45 (287 + y4)) := by omega
                clear h727 hz726
                refine X.cut [(0, zr 4 44), (2, zi y2), (3, zi y3), (4, zi y4), (5, zl v721), (7, zi y7), (8, zi v700), (9, zi y9)] (zi307 179) rfl ?_
                exact hK732 y7 (by first | trivial | omega) (Eq.trans (if_neg h727c) rfl)
              · have h727c : y9 < (m 4 45 (287 + y4)) := by omega
                clear h727 hz726
                refine X.aload_n 160 (zi307 159) rfl rfl rfl ?_
                refine X.getF 163 (zi307 160) rfl rfl (by decide) rfl rfl ?_
                refine X.sipush 166 (zi307 163) rfl rfl (by decide) ?_
                refine X.bipush 168 (zi307 166) rfl rfl (by decide) ?_
                refine X.iload 170 (zi307 168) rfl rfl rfl ?_
                refine X.imul 171 (zi307 170) rfl rfl (by omega) ?_
                refine X.iadd 172 (zi307 171) rfl rfl (by omega) ?_
                refine X.iload 174 (zi307 172) rfl rfl rfl ?_
                refine X.iadd 175 (zi307 174) rfl rfl (by omega) ?_
                refine X.lald 176 (zi307 175) rfl rfl (by decide) rfl (by omega) ?_
                have h728 := r45_343 hJ 4 (i := ((343 + (6 * y4)) + y9)) (by omega)
                refine X.l2i 177 (zi307 176) rfl rfl (by omega) ?_
                refine X.istore 179 [(0, zr 4 44), (2, zi y2), (3, zi y3), (4, zi y4), (5, zl v721), (7, zi (m 4 45 ((343 + (6 * y4)) + y9))), (8, zi v700), (9, zi y9), (10, zi v700)] (zi307 177) rfl rfl rfl ?_
                refine X.cut [(0, zr 4 44), (2, zi y2), (3, zi y3), (4, zi y4), (5, zl v721), (7, zi (m 4 45 ((343 + (6 * y4)) + y9))), (8, zi v700), (9, zi y9)] (zi307 179) rfl ?_
                exact hK732 (m 4 45 ((343 + (6 * y4)) + y9)) (by first | trivial | omega) (Eq.trans (if_pos h727c) rfl)
            refine X.icmple 137 115 (zi307 112) rfl rfl rfl (fun h717 => ?_) (fun h717 => ?_)
            · refine X.cut [(0, zr 4 44), (2, zi y2), (3, zi y3), (4, zi y4), (5, zl y5), (7, zi y7), (9, zi y9), (10, zi v700)] (zi307 137) rfl ?_
              exact hK724 y5 (by first | trivial | omega) (Eq.trans (if_pos h717) rfl)
            · refine X.lload 117 (zi307 115) rfl rfl rfl ?_
              refine X.iload 119 (zi307 117) rfl rfl rfl ?_
              refine X.iload 121 (zi307 119) rfl rfl rfl ?_
              refine X.isub 122 (zi307 121) rfl rfl (by omega) ?_
              refine X.i2l 123 (zi307 122) rfl rfl ?_
              refine X.aload_n 124 (zi307 123) rfl rfl rfl ?_
              refine X.getF 127 (zi307 124) rfl rfl (by decide) rfl rfl ?_
              refine X.bipush 129 (zi307 127) rfl rfl (by decide) ?_
              refine X.iload 131 (zi307 129) rfl rfl rfl ?_
              refine X.iadd 132 (zi307 131) rfl rfl (by omega) ?_
              refine X.lald 133 (zi307 132) rfl rfl (by decide) rfl (by omega) ?_
              have h718 := r45_28 hJ 4 (i := (28 + y7)) (by omega)
              have hz719 := z_mulr (a := (-86398)) (b := 86400) (c := 0) (e := 100) (x := (v712 - v706)) (y := (m 4 45 (28 + y7))) (by omega) (by omega)
              refine X.lmul 134 (zi307 133) rfl rfl (z_in3 hz719 (by decide) (by decide)) ?_
              obtain ⟨z719, ez719⟩ : ∃ z, z = ((v712 - v706) * (m 4 45 (28 + y7))) := ⟨_, rfl⟩
              rw [← ez719] at hz719 ⊢
              have gz719 : (-8639800) ≤ z719 ∧ z719 ≤ 8640000 := z_in3 hz719 (by decide) (by decide)
              clear hz719
              refine X.laddW 135 (zi307 134) rfl rfl (fun z720 ez720 hz720 => ?_)
              refine X.lstore 137 [(0, zr 4 44), (2, zi y2), (3, zi y3), (4, zi y4), (5, zl z720), (7, zi y7), (9, zi y9), (10, zi v700), (11, zi v706), (12, zi v712)] (zi307 135) rfl rfl rfl ?_
              refine X.cut [(0, zr 4 44), (2, zi y2), (3, zi y3), (4, zi y4), (5, zl z720), (7, zi y7), (9, zi y9), (10, zi v700)] (zi307 137) rfl ?_
              exact hK724 z720 (by first | trivial | omega) (Eq.trans (if_neg h717) (Eq.trans (zn_eq ez719) (Eq.trans (zn_eq ez720) rfl)))
          refine X.icmpge 105 100 (zi307 97) rfl rfl rfl (fun h711 => ?_) (fun h711 => ?_)
          · refine X.iload_n 106 (zi307 105) rfl rfl rfl ?_
            exact hK715 y3 (by first | trivial | omega) (Eq.trans (if_pos h711) rfl)
          · refine X.iload 102 (zi307 100) rfl rfl rfl ?_
            refine X.goto 106 (zi307 102) rfl rfl ?_
            exact hK715 v700 (by first | trivial | omega) (Eq.trans (if_neg h711) rfl)
        refine X.icmple 91 86 (zi307 83) rfl rfl rfl (fun h705 => ?_) (fun h705 => ?_)
        · refine X.cut [(0, zr 4 44), (2, zi y2), (3, zi y3), (4, zi y4), (5, zl y5), (7, zi y7), (9, zi y9), (10, zi v700)] (zi307 91) rfl ?_
          refine X.iload_n 92 (zi307 91) rfl rfl rfl ?_
          exact hK709 y2 (by first | trivial | omega) (Eq.trans (if_pos h705) rfl)
        · refine X.iload 88 (zi307 86) rfl rfl rfl ?_
          refine X.goto 92 (zi307 88) rfl rfl ?_
          refine X.cut [(0, zr 4 44), (2, zi y2), (3, zi y3), (4, zi y4), (5, zl y5), (7, zi y7), (9, zi y9), (10, zi v700)] (zi307 92) rfl ?_
          exact hK709 y8 (by first | trivial | omega) (Eq.trans (if_neg h705) rfl)
      refine X.ifge 76 55 (zi307 52) rfl rfl rfl (fun h698 => ?_) (fun h698 => ?_)
      · have h698c : ¬ y9 < (m 4 45 (287 + y4)) := by omega
        clear h698 hz697
        refine X.ldc 78 (zi307 76) rfl rfl (by decide) ?_
        exact hK703 86400 (by first | trivial | omega) (Eq.trans (if_neg h698c) rfl)
      · have h698c : y9 < (m 4 45 (287 + y4)) := by omega
        clear h698 hz697
        refine X.aload_n 56 (zi307 55) rfl rfl rfl ?_
        refine X.getF 59 (zi307 56) rfl rfl (by decide) rfl rfl ?_
        refine X.sipush 62 (zi307 59) rfl rfl (by decide) ?_
        refine X.bipush 64 (zi307 62) rfl rfl (by decide) ?_
        refine X.iload 66 (zi307 64) rfl rfl rfl ?_
        refine X.imul 67 (zi307 66) rfl rfl (by omega) ?_
        refine X.iadd 68 (zi307 67) rfl rfl (by omega) ?_
        refine X.iload 70 (zi307 68) rfl rfl rfl ?_
        refine X.iadd 71 (zi307 70) rfl rfl (by omega) ?_
        refine X.lald 72 (zi307 71) rfl rfl (by decide) rfl (by omega) ?_
        have h699 := r45_295 hJ 4 (i := ((295 + (6 * y4)) + y9)) (by omega)
        refine X.l2i 73 (zi307 72) rfl rfl (by omega) ?_
        refine X.goto 78 (zi307 73) rfl rfl ?_
        exact hK703 (m 4 45 ((295 + (6 * y4)) + y9)) (by first | trivial | omega) (Eq.trans (if_pos h698c) rfl)
-- WorkMeterModel.costOfDay
noncomputable def f307_1 (a1 a2 a3 : Int) (m : zM) : Int :=
  zn (f218_1 a1 m) fun v503 =>
  fl307_19_1 (fun y504 =>
  y504) a2 a3 v503 m (zfu 8) 0 0 0 0
-- WorkMeterModel.costOfDay
theorem c307_1 {s : Nat × (Nat → Int32)} {S : zS} {m0 m : zM} {B : Int} {d : Nat} {Q : Option zV → zM → Prop} (a1 a2 a3 : Int) (hd : 15 ≤ d) (hJ : J S m0 B m) (hB : B + 0 ≤ 1000000000) (ha1 : 0 ≤ a1 ∧ a1 ≤ 23150) (ha2 : 0 ≤ a2 ∧ a2 ≤ 86399) (ha3 : 1 ≤ a3 ∧ a3 ≤ 86400) (hQ : ∀ (v : Int), (True) → f307_1 a1 a2 a3 m = v → Q (some (zl v)) m) : X (EE s) d 307 0 [(0, zr 4 44), (1, zi a1), (2, zi a2), (3, zi a3)] [] m Q := by
  refine X.aload_n 1 (zi307 0) rfl rfl rfl ?_
  refine X.iload_n 2 (zi307 1) rfl rfl rfl ?_
  refine X.callv 5 [zi a1] [] [(0, zr 4 44), (1, zi a1)] (zi307 2) rfl (by decide) rfl rfl (by omega) rfl rfl (by decide) rfl t218 (Nat.le_of_ble_eq_true rfl) (Nat.le_of_ble_eq_true rfl) rfl ?_
  refine c218_1 (B := B)  a1 (by omega) (hJ.up (by omega)) (by omega) (by omega) (fun v503 hv503 hFv503 => ?_)
  show X (EE s) d 307 5 [(0, zr 4 44), (1, zi a1), (2, zi a2), (3, zi a3)] [zi v503] m _
  refine X.istore 7 [(0, zr 4 44), (1, zi a1), (2, zi a2), (3, zi a3), (4, zi v503)] (zi307 5) rfl rfl rfl ?_
  refine X.lconst (y := 0) 8 (zi307 7) rfl rfl rfl ?_
  refine X.lstore 10 [(0, zr 4 44), (1, zi a1), (2, zi a2), (3, zi a3), (4, zi v503), (5, zl 0)] (zi307 8) rfl rfl rfl ?_
  refine X.iconst 11 (zi307 10) rfl rfl (by decide) ?_
  refine X.istore 13 [(0, zr 4 44), (1, zi a1), (2, zi a2), (3, zi a3), (4, zi v503), (5, zl 0), (7, zi 0)] (zi307 11) rfl rfl rfl ?_
  refine X.iconst 14 (zi307 13) rfl rfl (by decide) ?_
  refine X.istore 16 [(0, zr 4 44), (1, zi a1), (2, zi a2), (3, zi a3), (4, zi v503), (5, zl 0), (7, zi 0), (8, zi 0)] (zi307 14) rfl rfl rfl ?_
  refine X.iconst 17 (zi307 16) rfl rfl (by decide) ?_
  refine X.istore 19 [(0, zr 4 44), (1, zi a1), (2, zi a2), (3, zi a3), (4, zi v503), (5, zl 0), (7, zi 0), (8, zi 0), (9, zi 0)] (zi307 17) rfl rfl rfl ?_
  refine X.cut [(0, zr 4 44), (2, zi a2), (3, zi a3), (4, zi v503), (5, zl 0), (7, zi 0), (8, zi 0), (9, zi 0)] (zi307 19) rfl ?_
  have hz8 := zfu_eq 8
  refine l307_19_1 (s := s) (m := m) (B := B) (d := d) (R0 := (f307_1 a1 a2 a3 m))  a2 a3 v503  (by omega) (hJ.up (by omega)) (by omega) (by omega) (by omega) (by omega) (fun y504 hby504 hR508 => ?_) (zfu 8) 0 0 0 0 (by omega) (by omega) (by omega) (by omega) (Eq.trans (zn_eq hFv503.symm) rfl)
  refine X.lload 187 (zi307 185) rfl rfl rfl ?_
  refine X.retl (zi307 187) rfl t307 ?_
  exact hQ y504 (by first | trivial | omega) (Eq.trans hR508 rfl) 
-- WorkMeterModel.costOfDay
theorem c307_2 {s : Nat × (Nat → Int32)} {S : zS} {m0 m : zM} {B : Int} {d : Nat} {Q : Option zV → zM → Prop} (a1 a2 a3 : Int) (hd : 15 ≤ d) (hJ : J S m0 B m) (hB : B + 0 ≤ 1000000000) (ha1 : 0 ≤ a1 ∧ a1 ≤ 23150) (ha2 : 0 ≤ a2 ∧ a2 ≤ 86399) (ha3 : 1 ≤ a3 ∧ a3 ≤ 86400) (hQ : ∀ (v : Int), (True) → f307_1 a1 a2 a3 m = v → Q (some (zl v)) m) : X (EE s) d 307 0 [(0, zr 4 44), (1, zi a1), (2, zi a2), (3, zi a3)] [] m Q := by
  refine X.aload_n 1 (zi307 0) rfl rfl rfl ?_
  refine X.iload_n 2 (zi307 1) rfl rfl rfl ?_
  refine X.callv 5 [zi a1] [] [(0, zr 4 44), (1, zi a1)] (zi307 2) rfl (by decide) rfl rfl (by omega) rfl rfl (by decide) rfl t218 (Nat.le_of_ble_eq_true rfl) (Nat.le_of_ble_eq_true rfl) rfl ?_
  refine c218_1 (B := B)  a1 (by omega) (hJ.up (by omega)) (by omega) (by omega) (fun v503 hv503 hFv503 => ?_)
  show X (EE s) d 307 5 [(0, zr 4 44), (1, zi a1), (2, zi a2), (3, zi a3)] [zi v503] m _
  refine X.istore 7 [(0, zr 4 44), (1, zi a1), (2, zi a2), (3, zi a3), (4, zi v503)] (zi307 5) rfl rfl rfl ?_
  refine X.lconst (y := 0) 8 (zi307 7) rfl rfl rfl ?_
  refine X.lstore 10 [(0, zr 4 44), (1, zi a1), (2, zi a2), (3, zi a3), (4, zi v503), (5, zl 0)] (zi307 8) rfl rfl rfl ?_
  refine X.iconst 11 (zi307 10) rfl rfl (by decide) ?_
  refine X.istore 13 [(0, zr 4 44), (1, zi a1), (2, zi a2), (3, zi a3), (4, zi v503), (5, zl 0), (7, zi 0)] (zi307 11) rfl rfl rfl ?_
  refine X.iconst 14 (zi307 13) rfl rfl (by decide) ?_
  refine X.istore 16 [(0, zr 4 44), (1, zi a1), (2, zi a2), (3, zi a3), (4, zi v503), (5, zl 0), (7, zi 0), (8, zi 0)] (zi307 14) rfl rfl rfl ?_
  refine X.iconst 17 (zi307 16) rfl rfl (by decide) ?_
  refine X.istore 19 [(0, zr 4 44), (1, zi a1), (2, zi a2), (3, zi a3), (4, zi v503), (5, zl 0), (7, zi 0), (8, zi 0), (9, zi 0)] (zi307 17) rfl rfl rfl ?_
  refine X.cut [(0, zr 4 44), (2, zi a2), (3, zi a3), (4, zi v503), (5, zl 0), (7, zi 0), (8, zi 0), (9, zi 0)] (zi307 19) rfl ?_
  have hz8 := zfu_eq 8
  refine l307_19_1 (s := s) (m := m) (B := B) (d := d) (R0 := (f307_1 a1 a2 a3 m))  a2 a3 v503  (by omega) (hJ.up (by omega)) (by omega) (by omega) (by omega) (by omega) (fun y504 hby504 hR508 => ?_) (zfu 8) 0 0 0 0 (by omega) (by omega) (by omega) (by omega) (Eq.trans (zn_eq hFv503.symm) rfl)
  refine X.lload 187 (zi307 185) rfl rfl rfl ?_
  refine X.retl (zi307 187) rfl t307 ?_
  exact hQ y504 (by first | trivial | omega) (Eq.trans hR508 rfl) 
-- WorkMeterModel.costOfDay
theorem c307_3 {s : Nat × (Nat → Int32)} {S : zS} {m0 m : zM} {B : Int} {d : Nat} {Q : Option zV → zM → Prop} (a1 a2 a3 : Int) (hd : 15 ≤ d) (hJ : J S m0 B m) (hB : B + 0 ≤ 1000000000) (ha1 : 0 ≤ a1 ∧ a1 ≤ 23150) (ha2 : 0 ≤ a2 ∧ a2 ≤ 86399) (ha3 : 1 ≤ a3 ∧ a3 ≤ 86400) (hQ : ∀ (v : Int), (True) → f307_1 a1 a2 a3 m = v → Q (some (zl v)) m) : X (EE s) d 307 0 [(0, zr 4 44), (1, zi a1), (2, zi a2), (3, zi a3)] [] m Q := by
  refine X.aload_n 1 (zi307 0) rfl rfl rfl ?_
  refine X.iload_n 2 (zi307 1) rfl rfl rfl ?_
  refine X.callv 5 [zi a1] [] [(0, zr 4 44), (1, zi a1)] (zi307 2) rfl (by decide) rfl rfl (by omega) rfl rfl (by decide) rfl t218 (Nat.le_of_ble_eq_true rfl) (Nat.le_of_ble_eq_true rfl) rfl ?_
  refine c218_1 (B := B)  a1 (by omega) (hJ.up (by omega)) (by omega) (by omega) (fun v503 hv503 hFv503 => ?_)
  show X (EE s) d 307 5 [(0, zr 4 44), (1, zi a1), (2, zi a2), (3, zi a3)] [zi v503] m _
  refine X.istore 7 [(0, zr 4 44), (1, zi a1), (2, zi a2), (3, zi a3), (4, zi v503)] (zi307 5) rfl rfl rfl ?_
  refine X.lconst (y := 0) 8 (zi307 7) rfl rfl rfl ?_
  refine X.lstore 10 [(0, zr 4 44), (1, zi a1), (2, zi a2), (3, zi a3), (4, zi v503), (5, zl 0)] (zi307 8) rfl rfl rfl ?_
  refine X.iconst 11 (zi307 10) rfl rfl (by decide) ?_
  refine X.istore 13 [(0, zr 4 44), (1, zi a1), (2, zi a2), (3, zi a3), (4, zi v503), (5, zl 0), (7, zi 0)] (zi307 11) rfl rfl rfl ?_
  refine X.iconst 14 (zi307 13) rfl rfl (by decide) ?_
  refine X.istore 16 [(0, zr 4 44), (1, zi a1), (2, zi a2), (3, zi a3), (4, zi v503), (5, zl 0), (7, zi 0), (8, zi 0)] (zi307 14) rfl rfl rfl ?_
  refine X.iconst 17 (zi307 16) rfl rfl (by decide) ?_
  refine X.istore 19 [(0, zr 4 44), (1, zi a1), (2, zi a2), (3, zi a3), (4, zi v503), (5, zl 0), (7, zi 0), (8, zi 0), (9, zi 0)] (zi307 17) rfl rfl rfl ?_
  refine X.cut [(0, zr 4 44), (2, zi a2), (3, zi a3), (4, zi v503), (5, zl 0), (7, zi 0), (8, zi 0), (9, zi 0)] (zi307 19) rfl ?_
  have hz8 := zfu_eq 8
  refine l307_19_1 (s := s) (m := m) (B := B) (d := d) (R0 := (f307_1 a1 a2 a3 m))  a2 a3 v503  (by omega) (hJ.up (by omega)) (by omega) (by omega) (by omega) (by omega) (fun y504 hby504 hR508 => ?_) (zfu 8) 0 0 0 0 (by omega) (by omega) (by omega) (by omega) (Eq.trans (zn_eq hFv503.symm) rfl)
  refine X.lload 187 (zi307 185) rfl rfl rfl ?_
  refine X.retl (zi307 187) rfl t307 ?_
  exact hQ y504 (by first | trivial | omega) (Eq.trans hR508 rfl) 
noncomputable def fl306_5_1_b (self : Int → Int → Int) (k79 : Int → Int) (y1 y2 : Int) (m : zM) (y3 y5 : Int) : Int :=
  if (y1 + y2) ≤ y5 then
  (k79 y3)
  else
  (zn (if 86400 ≤ ((y1 + y2) - ((y5 / 86400) * 86400)) then
  (86400)
  else
  (((y1 + y2) - ((y5 / 86400) * 86400)))) fun v525 =>
  zn (f307_1 (y5 / 86400) (y5 % 86400) v525 m) fun v532 =>
  zn (w64 (y3 + v532)) fun z533 =>
  self z533 (((y5 / 86400) * 86400) + v525))
noncomputable def fl306_5_1 (k79 : Int → Int) (y1 y2 : Int) (m : zM) : Nat → Int → Int → Int
  | 0 => fun y3 y5 => 0
  | n + 1 => fl306_5_1_b (fl306_5_1 k79 y1 y2 m n) k79 y1 y2 m
theorem l306_5_1 {s : Nat × (Nat → Int32)} {S : zS} {m0 : zM} {m : zM} {B : Int} {d : Nat} {Q : Option zV → zM → Prop} {R0 : Int} {k79 : Int → Int} (y1 y2 : Int) (hd : 16 ≤ d) (hJ : J S m0 B m) (hB9 : B ≤ 1000000000) (hy1 : 0 ≤ y1 ∧ y1 ≤ 2000000000) (hy2 : 1 ≤ y2 ∧ y2 ≤ 100000)
    (K79 : ∀ (x3 : Int) , (True) → R0 = k79 x3 → X (EE s) d 306 79 [(3, zl x3)] [] m Q) :
    ∀ (n : Nat) (y3 y5 : Int) , (0 ≤ y5 ∧ y5 ≤ 2000186000) → (y5 ≤ y1 + y2) → y1 + y2 - y5 < (n : Int) → R0 = fl306_5_1 k79 y1 y2 m n y3 y5 → X (EE s) d 306 5 [(0, zr 4 44), (1, zi y1), (2, zi y2), (3, zl y3), (5, zi y5)] [] m Q := by
  intro n
  induction n with
  | zero =>
    intro y3 y5 hy5 hr0 hn hR
    exfalso
    omega
  | succ n ih =>
    intro y3 y5 hy5 hr0 hn hR
    replace hR : R0 = fl306_5_1_b (fl306_5_1 k79 y1 y2 m n) k79 y1 y2 m y3 y5 := hR
    refine X.iload 7 (zi306 5) rfl rfl rfl ?_
    refine X.iload_n 8 (zi306 7) rfl rfl rfl ?_
    refine X.iload_n 9 (zi306 8) rfl rfl rfl ?_
    refine X.iadd 10 (zi306 9) rfl rfl (by omega) ?_
    refine X.icmpge 79 13 (zi306 10) rfl rfl rfl (fun h523 => ?_) (fun h523 => ?_)
    · refine X.cut [(3, zl y3)] (zi306 79) rfl ?_
      exact K79 y3 (by first | trivial | omega) (Eq.trans hR (Eq.trans (if_pos h523) rfl))
    · refine X.iload 15 (zi306 13) rfl rfl rfl ?_
      refine X.ldc 17 (zi306 15) rfl rfl (by decide) ?_
      refine X.idiv 18 (zi306 17) rfl rfl (by omega) ?_
      refine X.istore 20 [(0, zr 4 44), (1, zi y1), (2, zi y2), (3, zl y3), (5, zi y5), (6, zi (y5 / 86400))] (zi306 18) rfl rfl rfl ?_
      refine X.iload_n 21 (zi306 20) rfl rfl rfl ?_
      refine X.iload_n 22 (zi306 21) rfl rfl rfl ?_
      refine X.iadd 23 (zi306 22) rfl rfl (by omega) ?_
      refine X.iload 25 (zi306 23) rfl rfl rfl ?_
      refine X.ldc 27 (zi306 25) rfl rfl (by decide) ?_
      refine X.imul 28 (zi306 27) rfl rfl (by omega) ?_
      refine X.isub 29 (zi306 28) rfl rfl (by omega) ?_
      refine X.ldc 31 (zi306 29) rfl rfl (by decide) ?_
      have hK528 : ∀ (v : Int) , ((-2000073599) ≤ v ∧ v ≤ 86400) → (if 86400 ≤ ((y1 + y2) - ((y5 / 86400) * 86400)) then
          (86400)
          else
          (((y1 + y2) - ((y5 / 86400) * 86400)))) = v → X (EE s) d 306 48 [(0, zr 4 44), (1, zi y1), (2, zi y2), (3, zl y3), (5, zi y5), (6, zi (y5 / 86400))] [zi v] m Q := by
        intro v525 hv525 hT529
        refine X.istore 50 [(0, zr 4 44), (1, zi y1), (2, zi y2), (3, zl y3), (5, zi y5), (6, zi (y5 / 86400)), (7, zi v525)] (zi306 48) rfl rfl rfl ?_
        refine X.lload_n 51 (zi306 50) rfl rfl rfl ?_
        refine X.aload_n 52 (zi306 51) rfl rfl rfl ?_
        refine X.iload 54 (zi306 52) rfl rfl rfl ?_
        refine X.iload 56 (zi306 54) rfl rfl rfl ?_
        refine X.ldc 58 (zi306 56) rfl rfl (by decide) ?_
        refine X.irem 59 (zi306 58) rfl rfl (by omega) ?_
        refine X.iload 61 (zi306 59) rfl rfl rfl ?_
        refine X.callv 64 [zi (y5 / 86400), zi (y5 % 86400), zi v525] [zl y3] [(0, zr 4 44), (1, zi (y5 / 86400)), (2, zi (y5 % 86400)), (3, zi v525)] (zi306 61) rfl (by decide) rfl rfl (by omega) rfl rfl (by decide) rfl t307 (Nat.le_of_ble_eq_true rfl) (Nat.le_of_ble_eq_true rfl) rfl ?_
        refine c307_3 (B := B)  (y5 / 86400) (y5 % 86400) v525 (by omega) (hJ.up (by omega)) (by omega) (by omega) (by omega) (by omega) (fun v532 hv532 hFv532 => ?_)
        show X (EE s) d 306 64 [(0, zr 4 44), (1, zi y1), (2, zi y2), (3, zl y3), (5, zi y5), (6, zi (y5 / 86400)), (7, zi v525)] [zl v532, zl y3] m _
        refine X.laddW 65 (zi306 64) rfl rfl (fun z533 ez533 hz533 => ?_)
        refine X.lstore_n 66 [(0, zr 4 44), (1, zi y1), (2, zi y2), (3, zl z533), (5, zi y5), (6, zi (y5 / 86400)), (7, zi v525)] (zi306 65) rfl rfl rfl ?_
        refine X.iload 68 (zi306 66) rfl rfl rfl ?_
        refine X.ldc 70 (zi306 68) rfl rfl (by decide) ?_
        refine X.imul 71 (zi306 70) rfl rfl (by omega) ?_
        refine X.iload 73 (zi306 71) rfl rfl rfl ?_
        refine X.iadd 74 (zi306 73) rfl rfl (by omega) ?_
        refine X.istore 76 [(0, zr 4 44), (1, zi y1), (2, zi y2), (3, zl z533), (5, zi (((y5 / 86400) * 86400) + v525)), (6, zi (y5 / 86400)), (7, zi v525)] (zi306 74) rfl rfl rfl ?_
        refine X.goto 5 (zi306 76) rfl rfl ?_
        refine X.cut [(0, zr 4 44), (1, zi y1), (2, zi y2), (3, zl z533), (5, zi (((y5 / 86400) * 86400) + v525))] (zi306 5) rfl ?_
        exact ih z533 (((y5 / 86400) * 86400) + v525) (by omega) (by omega) (by omega) (Eq.trans hR (Eq.trans (if_neg h523) (Eq.trans (zn_eq hT529.symm) (Eq.trans (zn_eq hFv532.symm) (Eq.trans (zn_eq ez533) rfl)))))
      refine X.icmpge 46 34 (zi306 31) rfl rfl rfl (fun h524 => ?_) (fun h524 => ?_)
      · refine X.ldc 48 (zi306 46) rfl rfl (by decide) ?_
        exact hK528 86400 (by first | trivial | omega) (Eq.trans (if_pos h524) rfl)
      · refine X.iload_n 35 (zi306 34) rfl rfl rfl ?_
        refine X.iload_n 36 (zi306 35) rfl rfl rfl ?_
        refine X.iadd 37 (zi306 36) rfl rfl (by omega) ?_
        refine X.iload 39 (zi306 37) rfl rfl rfl ?_
        refine X.ldc 41 (zi306 39) rfl rfl (by decide) ?_
        refine X.imul 42 (zi306 41) rfl rfl (by omega) ?_
        refine X.isub 43 (zi306 42) rfl rfl (by omega) ?_
        refine X.goto 48 (zi306 43) rfl rfl ?_
        exact hK528 ((y1 + y2) - ((y5 / 86400) * 86400)) (by first | trivial | omega) (Eq.trans (if_neg h524) rfl)
-- WorkMeterModel.costFrom
noncomputable def f306_1 (a1 a2 : Int) (m : zM) : Int :=
  fl306_5_1 (fun y501 =>
  y501) a1 a2 m (zfu 100001) 0 a1
-- WorkMeterModel.costFrom
theorem c306_1 {s : Nat × (Nat → Int32)} {S : zS} {m0 m : zM} {B : Int} {d : Nat} {Q : Option zV → zM → Prop} (a1 a2 : Int) (hd : 16 ≤ d) (hJ : J S m0 B m) (hB : B + 0 ≤ 1000000000) (ha1 : 0 ≤ a1 ∧ a1 ≤ 2000000000) (ha2 : 1 ≤ a2 ∧ a2 ≤ 100000) (hQ : ∀ (v : Int), (True) → f306_1 a1 a2 m = v → Q (some (zl v)) m) : X (EE s) d 306 0 [(0, zr 4 44), (1, zi a1), (2, zi a2)] [] m Q := by
  refine X.lconst (y := 0) 1 (zi306 0) rfl rfl rfl ?_
  refine X.lstore_n 2 [(0, zr 4 44), (1, zi a1), (2, zi a2), (3, zl 0)] (zi306 1) rfl rfl rfl ?_
  refine X.iload_n 3 (zi306 2) rfl rfl rfl ?_
  refine X.istore 5 [(0, zr 4 44), (1, zi a1), (2, zi a2), (3, zl 0), (5, zi a1)] (zi306 3) rfl rfl rfl ?_
  have hz100001 := zfu_eq 100001
  refine l306_5_1 (s := s) (m := m) (B := B) (d := d) (R0 := (f306_1 a1 a2 m))  a1 a2  (by omega) (hJ.up (by omega)) (by omega) (by omega) (by omega) (fun y501 hby501 hR505 => ?_) (zfu 100001) 0 a1 (by omega) (by omega) (by omega) rfl
  refine X.lload_n 80 (zi306 79) rfl rfl rfl ?_
  refine X.retl (zi306 80) rfl t306 ?_
  exact hQ y501 (by first | trivial | omega) (Eq.trans hR505 rfl) 
-- WorkMeterModel.cost
noncomputable def f305_1 (a1 : Int) (m : zM) : Int :=
  if a1 < 1 then
  ((-1))
  else
  (if a1 ≤ 100000 then
  (zn (if ((m 4 45 0) + a1) ≤ 2000000000 then
  (zn (f306_1 (m 4 45 0) a1 m) fun v513 =>
  v513)
  else
  ((-1))) fun v514 =>
  v514)
  else
  ((-1)))
-- WorkMeterModel.cost
theorem c305_1 {s : Nat × (Nat → Int32)} {S : zS} {m0 m : zM} {B : Int} {d : Nat} {Q : Option zV → zM → Prop} (a1 : Int) (hd : 17 ≤ d) (hJ : J S m0 B m) (hB : B + 0 ≤ 1000000000) (ha1 : (-2147483648) ≤ a1 ∧ a1 ≤ 2147483647) (hQ : ∀ (v : Int), (True) → f305_1 a1 m = v → Q (some (zl v)) m) : X (EE s) d 305 0 [(0, zr 4 44), (1, zi a1)] [] m Q := by
  refine X.iload_n 1 (zi305 0) rfl rfl rfl ?_
  refine X.i2l 2 (zi305 1) rfl rfl ?_
  refine X.lconst (y := 1) 3 (zi305 2) rfl rfl rfl ?_
  refine X.ldc2 6 (zi305 3) rfl rfl (by decide) ?_
  refine X.calls 9 [zl a1, zl 1, zl 100000] [] [(0, zl a1), (2, zl 1), (4, zl 100000)] (zi305 6) (by decide) rfl rfl (by omega) rfl rfl t204 (Nat.le_of_ble_eq_true rfl) (Nat.le_of_ble_eq_true rfl) rfl ?_
  refine X.lload_n 1 (zi204 0) rfl rfl rfl ?_
  refine X.lload_n 2 (zi204 1) rfl rfl rfl ?_
  refine X.lcmp 3 (zi204 2) rfl rfl (fun z501 hz501 => ?_)
  refine X.iflt 17 6 (zi204 3) rfl rfl rfl (fun h502 => ?_) (fun h502 => ?_)
  · have h502c : a1 < 1 := by omega
    clear h502 hz501
    refine X.cut [] (zi204 17) rfl ?_
    refine X.iconst 18 (zi204 17) rfl rfl (by decide) ?_
    refine X.retz (zi204 18) rfl t204 (by omega) ?_
    show X (EE s) d 305 9 [(0, zr 4 44), (1, zi a1)] [zi 0] m _
    refine X.ifeq 43 12 (zi305 9) rfl rfl rfl (fun h503 => ?_) (fun h503 => (by exfalso; omega))
    refine X.cut [] (zi305 43) rfl ?_
    refine X.ldc2 46 (zi305 43) rfl rfl (by decide) ?_
    refine X.retl (zi305 46) rfl t305 ?_
    exact hQ (-1) (by first | trivial | omega) (Eq.trans (if_pos h502c) rfl) 
  · have h502c : ¬ a1 < 1 := by omega
    clear h502 hz501
    refine X.lload_n 7 (zi204 6) rfl rfl rfl ?_
    refine X.lload 9 (zi204 7) rfl rfl rfl ?_
    refine X.lcmp 10 (zi204 9) rfl rfl (fun z504 hz504 => ?_)
    refine X.ifgt 17 13 (zi204 10) rfl rfl rfl (fun h505 => ?_) (fun h505 => ?_)
    · have h505c : ¬ a1 ≤ 100000 := by omega
      clear h505 hz504
      refine X.cut [] (zi204 17) rfl ?_
      refine X.iconst 18 (zi204 17) rfl rfl (by decide) ?_
      refine X.retz (zi204 18) rfl t204 (by omega) ?_
      show X (EE s) d 305 9 [(0, zr 4 44), (1, zi a1)] [zi 0] m _
      refine X.ifeq 43 12 (zi305 9) rfl rfl rfl (fun h506 => ?_) (fun h506 => (by exfalso; omega))
      refine X.cut [] (zi305 43) rfl ?_
      refine X.ldc2 46 (zi305 43) rfl rfl (by decide) ?_
      refine X.retl (zi305 46) rfl t305 ?_
      exact hQ (-1) (by first | trivial | omega) (Eq.trans (if_neg h502c) (Eq.trans (if_neg h505c) rfl)) 
    · have h505c : a1 ≤ 100000 := by omega
      clear h505 hz504
      refine X.iconst 14 (zi204 13) rfl rfl (by decide) ?_
      refine X.goto 18 (zi204 14) rfl rfl ?_
      refine X.cut [] (zi204 18) rfl ?_
      refine X.retz (zi204 18) rfl t204 (by omega) ?_
      show X (EE s) d 305 9 [(0, zr 4 44), (1, zi a1)] [zi 1] m _
      refine X.ifeq 43 12 (zi305 9) rfl rfl rfl (fun h507 => (by exfalso; omega)) (fun h507 => ?_)
      refine X.aload_n 13 (zi305 12) rfl rfl rfl ?_
      refine X.getF 16 (zi305 13) rfl rfl (by decide) rfl rfl ?_
      refine X.iconst 17 (zi305 16) rfl rfl (by decide) ?_
      refine X.lald 18 (zi305 17) rfl rfl (by decide) rfl (by omega) ?_
      have h508 := r45_0 hJ 4
      refine X.iload_n 19 (zi305 18) rfl rfl rfl ?_
      refine X.i2l 20 (zi305 19) rfl rfl ?_
      refine X.ladd 21 (zi305 20) rfl rfl (by omega) ?_
      refine X.ldc2 24 (zi305 21) rfl rfl (by decide) ?_
      refine X.lcmp 25 (zi305 24) rfl rfl (fun z509 hz509 => ?_)
      have hK517 : ∀ (v : Int) , (True) → (if ((m 4 45 0) + a1) ≤ 2000000000 then
          (zn (f306_1 (m 4 45 0) a1 m) fun v513 =>
          v513)
          else
          ((-1))) = v → X (EE s) d 305 46 [] [zl v] m Q := by
        intro v514 hv514 hT518
        refine X.retl (zi305 46) rfl t305 ?_
        exact hQ v514 (by first | trivial | omega) (Eq.trans (if_neg h502c) (Eq.trans (if_pos h505c) (Eq.trans (zn_eq hT518.symm) rfl))) 
      refine X.ifgt 43 28 (zi305 25) rfl rfl rfl (fun h510 => ?_) (fun h510 => ?_)
      · have h510c : ¬ ((m 4 45 0) + a1) ≤ 2000000000 := by omega
        clear h510 hz509
        refine X.cut [] (zi305 43) rfl ?_
        refine X.ldc2 46 (zi305 43) rfl rfl (by decide) ?_
        exact hK517 (-1) (by first | trivial | omega) (Eq.trans (if_neg h510c) rfl)
      · have h510c : ((m 4 45 0) + a1) ≤ 2000000000 := by omega
        clear h510 hz509
        refine X.aload_n 29 (zi305 28) rfl rfl rfl ?_
        refine X.aload_n 30 (zi305 29) rfl rfl rfl ?_
        refine X.getF 33 (zi305 30) rfl rfl (by decide) rfl rfl ?_
        refine X.iconst 34 (zi305 33) rfl rfl (by decide) ?_
        refine X.lald 35 (zi305 34) rfl rfl (by decide) rfl (by omega) ?_
        refine X.l2i 36 (zi305 35) rfl rfl (by omega) ?_
        refine X.iload_n 37 (zi305 36) rfl rfl rfl ?_
        refine X.callv 40 [zi (m 4 45 0), zi a1] [] [(0, zr 4 44), (1, zi (m 4 45 0)), (2, zi a1)] (zi305 37) rfl (by decide) rfl rfl (by omega) rfl rfl (by decide) rfl t306 (Nat.le_of_ble_eq_true rfl) (Nat.le_of_ble_eq_true rfl) rfl ?_
        refine c306_1 (B := B)  (m 4 45 0) a1 (by omega) (hJ.up (by omega)) (by omega) (by omega) (by omega) (fun v513 hv513 hFv513 => ?_)
        show X (EE s) d 305 40 [(0, zr 4 44), (1, zi a1)] [zl v513] m _
        refine X.goto 46 (zi305 40) rfl rfl ?_
        refine X.cut [] (zi305 46) rfl ?_
        exact hK517 v513 (by first | trivial | omega) (Eq.trans (if_pos h510c) (Eq.trans (zn_eq hFv513.symm) rfl))
theorem l182_14_2 {s : Nat × (Nat → Int32)} {S : zS} {m0 : zM} {m : zM} {B : Int} {d : Nat} {Q : Option zV → zM → Prop} {R0 : Int} {k73 : Int → Int} (g0 g3 : Nat) (y2 y4 : Int) (hd : 16 ≤ d) (hJ : J S m0 B m) (hB9 : B ≤ 1000000000) (hy2 : 1 ≤ y2 ∧ y2 ≤ 100000) (hy4 : 901 ≤ y4 ∧ y4 ≤ 2000185500)
    (K73 : ∀ (x6 : Int) , (True) → R0 = k73 x6 → X (EE s) d 182 73 [(6, zl x6)] [] m Q) :
    ∀ (n : Nat) (y5 y6 y8 : Int) , (0 ≤ y5 ∧ y5 ≤ 2000185500) → (0 ≤ y8 ∧ y8 ≤ 100000) → 100000 - y8 < (n : Int) → R0 = fl182_14_1 k73 g0 g3 y2 y4 m n y5 y6 y8 → X (EE s) d 182 14 [(0, zr g0 11), (2, zi y2), (3, zr g3 9), (4, zi y4), (5, zi y5), (6, zl y6), (8, zi y8)] [] m Q := by
  intro n
  induction n with
  | zero =>
    intro y5 y6 y8 hy5 hy8 hn hR
    exfalso
    omega
  | succ n ih =>
    intro y5 y6 y8 hy5 hy8 hn hR
    replace hR : R0 = fl182_14_1_b (fl182_14_1 k73 g0 g3 y2 y4 m n) k73 g0 g3 y2 y4 m y5 y6 y8 := hR
    refine X.iload 16 (zi182 14) rfl rfl rfl ?_
    refine X.iload_n 17 (zi182 16) rfl rfl rfl ?_
    refine X.icmpge 73 20 (zi182 17) rfl rfl rfl (fun h552 => ?_) (fun h552 => ?_)
    · refine X.cut [(6, zl y6)] (zi182 73) rfl ?_
      exact K73 y6 (by first | trivial | omega) (Eq.trans hR (Eq.trans (if_pos h552) rfl))
    · refine X.iload 22 (zi182 20) rfl rfl rfl ?_
      refine X.iload 24 (zi182 22) rfl rfl rfl ?_
      refine X.icmpge 73 27 (zi182 24) rfl rfl rfl (fun h553 => ?_) (fun h553 => ?_)
      · refine X.cut [(6, zl y6)] (zi182 73) rfl ?_
        exact K73 y6 (by first | trivial | omega) (Eq.trans hR (Eq.trans (if_neg h552) (Eq.trans (if_pos h553) rfl)))
      · refine X.aload_n 28 (zi182 27) rfl rfl rfl ?_
        refine X.iload 30 (zi182 28) rfl rfl rfl ?_
        refine X.callv 33 [zi y5] [] [(0, zr g0 11), (1, zi y5)] (zi182 30) rfl (by decide) rfl rfl (by omega) rfl rfl (by decide) rfl t37 (Nat.le_of_ble_eq_true rfl) (Nat.le_of_ble_eq_true rfl) rfl ?_
        refine c37_1 (B := B) g0 y5 (by omega) (hJ.up (by omega)) (by omega) (by omega) (fun v556 hv556 hFv556 hqv556_0 => ?_)
        show X (EE s) d 182 33 [(0, zr g0 11), (2, zi y2), (3, zr g3 9), (4, zi y4), (5, zi y5), (6, zl y6), (8, zi y8)] [zi v556] m _
        refine X.iload 35 (zi182 33) rfl rfl rfl ?_
        refine X.minI 38 (zi182 35) rfl rfl (by omega) (Nat.le_of_ble_eq_true rfl) ?_
        refine X.istore 40 [(0, zr g0 11), (2, zi y2), (3, zr g3 9), (4, zi y4), (5, zi y5), (6, zl y6), (8, zi y8), (9, zi (min v556 y4))] (zi182 38) rfl rfl rfl ?_
        refine X.lload 42 (zi182 40) rfl rfl rfl ?_
        refine X.aload_n 43 (zi182 42) rfl rfl rfl ?_
        refine X.aload_n 44 (zi182 43) rfl rfl rfl ?_
        refine X.iload 46 (zi182 44) rfl rfl rfl ?_
        refine X.callv 49 [zi y5] [zr g3 9, zl y6] [(0, zr g0 11), (1, zi y5)] (zi182 46) rfl (by decide) rfl rfl (by omega) rfl rfl (by decide) rfl t27 (Nat.le_of_ble_eq_true rfl) (Nat.le_of_ble_eq_true rfl) rfl ?_
        refine c27_1 (B := B) g0 y5 (by omega) (hJ.up (by omega)) (by omega) (by omega) (fun v559 hv559 hFv559 => ?_)
        show X (EE s) d 182 49 [(0, zr g0 11), (2, zi y2), (3, zr g3 9), (4, zi y4), (5, zi y5), (6, zl y6), (8, zi y8), (9, zi (min v556 y4))] [zi v559, zr g3 9, zl y6] m _
        refine X.callv 52 [zi v559] [zl y6] [(0, zr g3 9), (1, zi v559)] (zi182 49) rfl (by decide) rfl rfl (by omega) rfl rfl (by decide) rfl t43 (Nat.le_of_ble_eq_true rfl) (Nat.le_of_ble_eq_true rfl) rfl ?_
        refine X.aload_n 1 (zi43 0) rfl rfl rfl ?_
        refine X.getR 4 (zi43 1) rfl rfl (by decide) rfl rfl ?_
        refine X.bipush 6 (zi43 4) rfl rfl (by decide) ?_
        refine X.iload_n 7 (zi43 6) rfl rfl rfl ?_
        refine X.iadd 8 (zi43 7) rfl rfl (by omega) ?_
        refine X.iald 9 (zi43 8) rfl rfl (by decide) rfl (by omega) ?_
        have h560 := r10_6 hJ g3 (i := (6 + v559)) (by omega)
        refine X.reti (zi43 9) rfl t43 ?_
        show X (EE s) d 182 52 [(0, zr g0 11), (2, zi y2), (3, zr g3 9), (4, zi y4), (5, zi y5), (6, zl y6), (8, zi y8), (9, zi (min v556 y4))] [zi (m g3 10 (6 + v559)), zl y6] m _
        refine X.i2l 53 (zi182 52) rfl rfl ?_
        refine X.iload 55 (zi182 53) rfl rfl rfl ?_
        refine X.iload 57 (zi182 55) rfl rfl rfl ?_
        refine X.isub 58 (zi182 57) rfl rfl (by omega) ?_
        refine X.i2l 59 (zi182 58) rfl rfl ?_
        have hz561 := z_mulr (a := 0) (b := 1000000) (c := (-2000185499)) (e := 2000185500) (x := (m g3 10 (6 + v559))) (y := ((min v556 y4) - y5)) (by omega) (by omega)
        refine X.lmul 60 (zi182 59) rfl rfl (z_in3 hz561 (by decide) (by decide)) ?_
        obtain ⟨z561, ez561⟩ : ∃ z, z = ((m g3 10 (6 + v559)) * ((min v556 y4) - y5)) := ⟨_, rfl⟩
        rw [← ez561] at hz561 ⊢
        have gz561 : (-2000185499000000) ≤ z561 ∧ z561 ≤ 2000185500000000 := z_in3 hz561 (by decide) (by decide)
        clear hz561
        refine X.laddW 61 (zi182 60) rfl rfl (fun z562 ez562 hz562 => ?_)
        refine X.lstore 63 [(0, zr g0 11), (2, zi y2), (3, zr g3 9), (4, zi y4), (5, zi y5), (6, zl z562), (8, zi y8), (9, zi (min v556 y4))] (zi182 61) rfl rfl rfl ?_
        refine X.iload 65 (zi182 63) rfl rfl rfl ?_
        refine X.istore 67 [(0, zr g0 11), (2, zi y2), (3, zr g3 9), (4, zi y4), (5, zi (min v556 y4)), (6, zl z562), (8, zi y8), (9, zi (min v556 y4))] (zi182 65) rfl rfl rfl ?_
        refine X.iinc 70 [(0, zr g0 11), (2, zi y2), (3, zr g3 9), (4, zi y4), (5, zi (min v556 y4)), (6, zl z562), (8, zi (y8 + 1)), (9, zi (min v556 y4))] (zi182 67) rfl rfl rfl (by omega) rfl ?_
        refine X.goto 14 (zi182 70) rfl rfl ?_
        refine X.cut [(0, zr g0 11), (2, zi y2), (3, zr g3 9), (4, zi y4), (5, zi (min v556 y4)), (6, zl z562), (8, zi (y8 + 1))] (zi182 14) rfl ?_
        exact ih (min v556 y4) z562 (y8 + 1) (by omega) (by omega) (by omega) (Eq.trans hR (Eq.trans (if_neg h552) (Eq.trans (if_neg h553) (Eq.trans (zn_eq hFv556.symm) (Eq.trans (zn_eq hFv559.symm) (Eq.trans (zn_eq ez561) (Eq.trans (zn_eq ez562) rfl)))))))
-- WorkMeter$Calendar.costOf
theorem c182_2 {s : Nat × (Nat → Int32)} {S : zS} {m0 m : zM} {B : Int} {d : Nat} {Q : Option zV → zM → Prop} (g0 g3 : Nat) (a1 a2 : Int) (hd : 16 ≤ d) (hJ : J S m0 B m) (hB : B + 0 ≤ 1000000000) (ha1 : 900 ≤ a1 ∧ a1 ≤ 2000085500) (ha2 : 1 ≤ a2 ∧ a2 ≤ 100000) (hQ : ∀ (v : Int), (True) → f182_1 g0 g3 a1 a2 m = v → Q (some (zl v)) m) : X (EE s) d 182 0 [(0, zr g0 11), (1, zi a1), (2, zi a2), (3, zr g3 9)] [] m Q := by
  refine X.iload_n 1 (zi182 0) rfl rfl rfl ?_
  refine X.iload_n 2 (zi182 1) rfl rfl rfl ?_
  refine X.iadd 3 (zi182 2) rfl rfl (by omega) ?_
  refine X.istore 5 [(0, zr g0 11), (1, zi a1), (2, zi a2), (3, zr g3 9), (4, zi (a1 + a2))] (zi182 3) rfl rfl rfl ?_
  refine X.iload_n 6 (zi182 5) rfl rfl rfl ?_
  refine X.istore 8 [(0, zr g0 11), (1, zi a1), (2, zi a2), (3, zr g3 9), (4, zi (a1 + a2)), (5, zi a1)] (zi182 6) rfl rfl rfl ?_
  refine X.lconst (y := 0) 9 (zi182 8) rfl rfl rfl ?_
  refine X.lstore 11 [(0, zr g0 11), (1, zi a1), (2, zi a2), (3, zr g3 9), (4, zi (a1 + a2)), (5, zi a1), (6, zl 0)] (zi182 9) rfl rfl rfl ?_
  refine X.iconst 12 (zi182 11) rfl rfl (by decide) ?_
  refine X.istore 14 [(0, zr g0 11), (1, zi a1), (2, zi a2), (3, zr g3 9), (4, zi (a1 + a2)), (5, zi a1), (6, zl 0), (8, zi 0)] (zi182 12) rfl rfl rfl ?_
  refine X.cut [(0, zr g0 11), (2, zi a2), (3, zr g3 9), (4, zi (a1 + a2)), (5, zi a1), (6, zl 0), (8, zi 0)] (zi182 14) rfl ?_
  have hz100001 := zfu_eq 100001
  refine l182_14_2 (s := s) (m := m) (B := B) (d := d) (R0 := (f182_1 g0 g3 a1 a2 m)) g0 g3 a2 (a1 + a2)  (by omega) (hJ.up (by omega)) (by omega) (by omega) (by omega) (fun y501 hby501 hR505 => ?_) (zfu 100001) a1 0 0 (by omega) (by omega) (by omega) rfl
  refine X.lload 75 (zi182 73) rfl rfl rfl ?_
  refine X.retl (zi182 75) rfl t182 ?_
  exact hQ y501 (by first | trivial | omega) (Eq.trans hR505 rfl) 
noncomputable def fl183_80_1_b (self : Int → Int → Int → Int) (k146 : Int → Int → Int) (y1 y2 : Int) (m : zM) (y3 y4 y6 : Int) : Int :=
  if 96 ≤ y6 then
  (k146 y3 y4)
  else
  (zn (f182_1 0 0 ((m 0 8 9) + (y6 * 900)) y1 m) fun v519 =>
  if v519 < y4 then
  (self ((m 0 8 9) + (y6 * 900)) v519 (y6 + 1))
  else
  (self y3 y4 (y6 + 1)))
noncomputable def fl183_80_1 (k146 : Int → Int → Int) (y1 y2 : Int) (m : zM) : Nat → Int → Int → Int → Int
  | 0 => fun y3 y4 y6 => 0
  | n + 1 => fl183_80_1_b (fl183_80_1 k146 y1 y2 m n) k146 y1 y2 m
theorem l183_80_1 {s : Nat × (Nat → Int32)} {S : zS} {m0 : zM} {m : zM} {B : Int} {d : Nat} {Q : Option zV → zM → Prop} {R0 : Int} {k146 : Int → Int → Int} (y1 y2 : Int) (hd : 17 ≤ d) (hJ : J S m0 B m) (hB9 : B ≤ 1000000000) (hy1 : 1 ≤ y1 ∧ y1 ≤ 100000) (hy2 : 0 ≤ y2 ∧ y2 ≤ 1)
    (K146 : ∀ (x3 x4 : Int) , (0 ≤ x3 ∧ x3 ≤ 2000085500) → (True) → R0 = k146 x3 x4 → X (EE s) d 183 146 [(2, zi y2), (3, zi x3), (4, zl x4)] [] m Q) :
    ∀ (n : Nat) (y3 y4 y6 : Int) , (0 ≤ y3 ∧ y3 ≤ 2000085500) → (1 ≤ y6 ∧ y6 ≤ 96) → 96 - y6 < (n : Int) → R0 = fl183_80_1 k146 y1 y2 m n y3 y4 y6 → X (EE s) d 183 80 [(0, zr 4 40), (1, zi y1), (2, zi y2), (3, zi y3), (4, zl y4), (6, zi y6)] [] m Q := by
  intro n
  induction n with
  | zero =>
    intro y3 y4 y6 hy3 hy6 hn hR
    exfalso
    omega
  | succ n ih =>
    intro y3 y4 y6 hy3 hy6 hn hR
    replace hR : R0 = fl183_80_1_b (fl183_80_1 k146 y1 y2 m n) k146 y1 y2 m y3 y4 y6 := hR
    refine X.iload 82 (zi183 80) rfl rfl rfl ?_
    refine X.bipush 84 (zi183 82) rfl rfl (by decide) ?_
    refine X.icmpge 146 87 (zi183 84) rfl rfl rfl (fun h515 => ?_) (fun h515 => ?_)
    · refine X.cut [(2, zi y2), (3, zi y3), (4, zl y4)] (zi183 146) rfl ?_
      exact K146 y3 y4 (by first | trivial | omega) (by first | trivial | omega) (Eq.trans hR (Eq.trans (if_pos h515) rfl))
    · refine X.aload_n 88 (zi183 87) rfl rfl rfl ?_
      refine X.getF 91 (zi183 88) rfl rfl (by decide) rfl rfl ?_
      refine X.getI 94 9 (zi183 91) rfl rfl (by decide) rfl rfl rfl ?_
      have h516 := r8_9 hJ 0
      refine X.iload 96 (zi183 94) rfl rfl rfl ?_
      refine X.sipush 99 (zi183 96) rfl rfl (by decide) ?_
      refine X.imul 100 (zi183 99) rfl rfl (by omega) ?_
      refine X.iadd 101 (zi183 100) rfl rfl (by omega) ?_
      refine X.istore 103 [(0, zr 4 40), (1, zi y1), (2, zi y2), (3, zi y3), (4, zl y4), (6, zi y6), (7, zi ((m 0 8 9) + (y6 * 900)))] (zi183 101) rfl rfl rfl ?_
      refine X.aload_n 104 (zi183 103) rfl rfl rfl ?_
      refine X.getF 107 (zi183 104) rfl rfl (by decide) rfl rfl ?_
      refine X.getR 110 (zi183 107) rfl rfl (by decide) rfl rfl ?_
      refine X.iload 112 (zi183 110) rfl rfl rfl ?_
      refine X.iload_n 113 (zi183 112) rfl rfl rfl ?_
      refine X.aload_n 114 (zi183 113) rfl rfl rfl ?_
      refine X.getF 117 (zi183 114) rfl rfl (by decide) rfl rfl ?_
      refine X.getR 120 (zi183 117) rfl rfl (by decide) rfl rfl ?_
      refine X.callv 123 [zi ((m 0 8 9) + (y6 * 900)), zi y1, zr 0 9] [] [(0, zr 0 11), (1, zi ((m 0 8 9) + (y6 * 900))), (2, zi y1), (3, zr 0 9)] (zi183 120) rfl (by decide) rfl rfl (by omega) rfl rfl (by decide) rfl t182 (Nat.le_of_ble_eq_true rfl) (Nat.le_of_ble_eq_true rfl) rfl ?_
      refine c182_2 (B := B) 0 0 ((m 0 8 9) + (y6 * 900)) y1 (by omega) (hJ.up (by omega)) (by omega) (by omega) (by omega) (fun v519 hv519 hFv519 => ?_)
      show X (EE s) d 183 123 [(0, zr 4 40), (1, zi y1), (2, zi y2), (3, zi y3), (4, zl y4), (6, zi y6), (7, zi ((m 0 8 9) + (y6 * 900)))] [zl v519] m _
      refine X.lstore 125 [(0, zr 4 40), (1, zi y1), (2, zi y2), (3, zi y3), (4, zl y4), (6, zi y6), (7, zi ((m 0 8 9) + (y6 * 900))), (8, zl v519)] (zi183 123) rfl rfl rfl ?_
      refine X.lload 127 (zi183 125) rfl rfl rfl ?_
      refine X.lload 129 (zi183 127) rfl rfl rfl ?_
      refine X.lcmp 130 (zi183 129) rfl rfl (fun z520 hz520 => ?_)
      refine X.ifge 140 133 (zi183 130) rfl rfl rfl (fun h521 => ?_) (fun h521 => ?_)
      · have h521c : ¬ v519 < y4 := by omega
        clear h521 hz520
        refine X.cut [(0, zr 4 40), (1, zi y1), (2, zi y2), (3, zi y3), (4, zl y4), (6, zi y6)] (zi183 140) rfl ?_
        refine X.iinc 143 [(0, zr 4 40), (1, zi y1), (2, zi y2), (3, zi y3), (4, zl y4), (6, zi (y6 + 1))] (zi183 140) rfl rfl rfl (by omega) rfl ?_
        refine X.goto 80 (zi183 143) rfl rfl ?_
        exact ih y3 y4 (y6 + 1) (by omega) (by omega) (by omega) (Eq.trans hR (Eq.trans (if_neg h515) (Eq.trans (zn_eq hFv519.symm) (Eq.trans (if_neg h521c) rfl))))
      · have h521c : v519 < y4 := by omega
        clear h521 hz520
        refine X.lload 135 (zi183 133) rfl rfl rfl ?_
        refine X.lstore 137 [(0, zr 4 40), (1, zi y1), (2, zi y2), (3, zi y3), (4, zl v519), (6, zi y6), (7, zi ((m 0 8 9) + (y6 * 900))), (8, zl v519)] (zi183 135) rfl rfl rfl ?_
        refine X.iload 139 (zi183 137) rfl rfl rfl ?_
        refine X.istore_n 140 [(0, zr 4 40), (1, zi y1), (2, zi y2), (3, zi ((m 0 8 9) + (y6 * 900))), (4, zl v519), (6, zi y6), (7, zi ((m 0 8 9) + (y6 * 900))), (8, zl v519)] (zi183 139) rfl rfl rfl ?_
        refine X.cut [(0, zr 4 40), (1, zi y1), (2, zi y2), (3, zi ((m 0 8 9) + (y6 * 900))), (4, zl v519), (6, zi y6)] (zi183 140) rfl ?_
        refine X.iinc 143 [(0, zr 4 40), (1, zi y1), (2, zi y2), (3, zi ((m 0 8 9) + (y6 * 900))), (4, zl v519), (6, zi (y6 + 1))] (zi183 140) rfl rfl rfl (by omega) rfl ?_
        refine X.goto 80 (zi183 143) rfl rfl ?_
        exact ih ((m 0 8 9) + (y6 * 900)) v519 (y6 + 1) (by omega) (by omega) (by omega) (Eq.trans hR (Eq.trans (if_neg h515) (Eq.trans (zn_eq hFv519.symm) (Eq.trans (if_pos h521c) rfl))))
-- WorkMeter.cheapest
noncomputable def f183_1 (a1 a2 : Int) (m : zM) : Int :=
  if a1 < 1 then
  ((-1))
  else
  (if 100000 < a1 then
  ((-1))
  else
  (if a2 < 0 then
  ((-1))
  else
  (if a2 ≤ 1 then
  (if ((((m 0 8 9) + 85500) + a1) - 1) ≤ 2000000000 then
  (zn (f182_1 0 0 (m 0 8 9) a1 m) fun v509 =>
  fl183_80_1 (fun y510 y511 =>
  zn (if a2 = 0 then
  (y510)
  else
  (y511)) fun v517 =>
  v517) a1 a2 m (zfu 96) (m 0 8 9) v509 1)
  else
  ((-1)))
  else
  ((-1)))))
-- WorkMeter.cheapest
theorem c183_1 {s : Nat × (Nat → Int32)} {S : zS} {m0 m : zM} {B : Int} {d : Nat} {Q : Option zV → zM → Prop} (a1 a2 : Int) (hd : 17 ≤ d) (hJ : J S m0 B m) (hB : B + 0 ≤ 1000000000) (ha1 : (-2147483648) ≤ a1 ∧ a1 ≤ 2147483647) (ha2 : (-2147483648) ≤ a2 ∧ a2 ≤ 2147483647) (hQ : ∀ (v : Int), (True) → f183_1 a1 a2 m = v → Q (some (zl v)) m) : X (EE s) d 183 0 [(0, zr 4 40), (1, zi a1), (2, zi a2)] [] m Q := by
  refine X.iload_n 1 (zi183 0) rfl rfl rfl ?_
  refine X.iconst 2 (zi183 1) rfl rfl (by decide) ?_
  refine X.icmplt 20 5 (zi183 2) rfl rfl rfl (fun h501 => ?_) (fun h501 => ?_)
  · refine X.cut [] (zi183 20) rfl ?_
    refine X.ldc2 23 (zi183 20) rfl rfl (by decide) ?_
    refine X.retl (zi183 23) rfl t183 ?_
    exact hQ (-1) (by first | trivial | omega) (Eq.trans (if_pos h501) rfl) 
  · refine X.iload_n 6 (zi183 5) rfl rfl rfl ?_
    refine X.ldc 8 (zi183 6) rfl rfl (by decide) ?_
    refine X.icmpgt 20 11 (zi183 8) rfl rfl rfl (fun h502 => ?_) (fun h502 => ?_)
    · refine X.cut [] (zi183 20) rfl ?_
      refine X.ldc2 23 (zi183 20) rfl rfl (by decide) ?_
      refine X.retl (zi183 23) rfl t183 ?_
      exact hQ (-1) (by first | trivial | omega) (Eq.trans (if_neg h501) (Eq.trans (if_pos h502) rfl)) 
    · refine X.iload_n 12 (zi183 11) rfl rfl rfl ?_
      refine X.iflt 20 15 (zi183 12) rfl rfl rfl (fun h503 => ?_) (fun h503 => ?_)
      · refine X.cut [] (zi183 20) rfl ?_
        refine X.ldc2 23 (zi183 20) rfl rfl (by decide) ?_
        refine X.retl (zi183 23) rfl t183 ?_
        exact hQ (-1) (by first | trivial | omega) (Eq.trans (if_neg h501) (Eq.trans (if_neg h502) (Eq.trans (if_pos h503) rfl))) 
      · refine X.iload_n 16 (zi183 15) rfl rfl rfl ?_
        refine X.iconst 17 (zi183 16) rfl rfl (by decide) ?_
        refine X.icmple 24 20 (zi183 17) rfl rfl rfl (fun h504 => ?_) (fun h504 => ?_)
        · refine X.aload_n 25 (zi183 24) rfl rfl rfl ?_
          refine X.getF 28 (zi183 25) rfl rfl (by decide) rfl rfl ?_
          refine X.getI 31 9 (zi183 28) rfl rfl (by decide) rfl rfl rfl ?_
          have h505 := r8_9 hJ 0
          refine X.ldcw 34 (zi183 31) rfl rfl (by decide) ?_
          refine X.iadd 35 (zi183 34) rfl rfl (by omega) ?_
          refine X.iload_n 36 (zi183 35) rfl rfl rfl ?_
          refine X.iadd 37 (zi183 36) rfl rfl (by omega) ?_
          refine X.iconst 38 (zi183 37) rfl rfl (by decide) ?_
          refine X.isub 39 (zi183 38) rfl rfl (by omega) ?_
          refine X.ldc 41 (zi183 39) rfl rfl (by decide) ?_
          refine X.icmple 48 44 (zi183 41) rfl rfl rfl (fun h506 => ?_) (fun h506 => ?_)
          · refine X.aload_n 49 (zi183 48) rfl rfl rfl ?_
            refine X.getF 52 (zi183 49) rfl rfl (by decide) rfl rfl ?_
            refine X.getI 55 9 (zi183 52) rfl rfl (by decide) rfl rfl rfl ?_
            refine X.istore_n 56 [(0, zr 4 40), (1, zi a1), (2, zi a2), (3, zi (m 0 8 9))] (zi183 55) rfl rfl rfl ?_
            refine X.aload_n 57 (zi183 56) rfl rfl rfl ?_
            refine X.getF 60 (zi183 57) rfl rfl (by decide) rfl rfl ?_
            refine X.getR 63 (zi183 60) rfl rfl (by decide) rfl rfl ?_
            refine X.iload_n 64 (zi183 63) rfl rfl rfl ?_
            refine X.iload_n 65 (zi183 64) rfl rfl rfl ?_
            refine X.aload_n 66 (zi183 65) rfl rfl rfl ?_
            refine X.getF 69 (zi183 66) rfl rfl (by decide) rfl rfl ?_
            refine X.getR 72 (zi183 69) rfl rfl (by decide) rfl rfl ?_
            refine X.callv 75 [zi (m 0 8 9), zi a1, zr 0 9] [] [(0, zr 0 11), (1, zi (m 0 8 9)), (2, zi a1), (3, zr 0 9)] (zi183 72) rfl (by decide) rfl rfl (by omega) rfl rfl (by decide) rfl t182 (Nat.le_of_ble_eq_true rfl) (Nat.le_of_ble_eq_true rfl) rfl ?_
            refine c182_1 (B := B) 0 0 (m 0 8 9) a1 (by omega) (hJ.up (by omega)) (by omega) (by omega) (by omega) (fun v509 hv509 hFv509 => ?_)
            show X (EE s) d 183 75 [(0, zr 4 40), (1, zi a1), (2, zi a2), (3, zi (m 0 8 9))] [zl v509] m _
            refine X.lstore 77 [(0, zr 4 40), (1, zi a1), (2, zi a2), (3, zi (m 0 8 9)), (4, zl v509)] (zi183 75) rfl rfl rfl ?_
            refine X.iconst 78 (zi183 77) rfl rfl (by decide) ?_
            refine X.istore 80 [(0, zr 4 40), (1, zi a1), (2, zi a2), (3, zi (m 0 8 9)), (4, zl v509), (6, zi 1)] (zi183 78) rfl rfl rfl ?_
            have hz96 := zfu_eq 96
            refine l183_80_1 (s := s) (m := m) (B := B) (d := d) (R0 := (f183_1 a1 a2 m))  a1 a2  (by omega) (hJ.up (by omega)) (by omega) (by omega) (by omega) (fun y510 y511 hby510 hby511 hR515 => ?_) (zfu 96) (m 0 8 9) v509 1 (by omega) (by omega) (by omega) (Eq.trans (if_neg h501) (Eq.trans (if_neg h502) (Eq.trans (if_neg h503) (Eq.trans (if_pos h504) (Eq.trans (if_pos h506) (Eq.trans (zn_eq hFv509.symm) rfl))))))
            refine X.iload_n 147 (zi183 146) rfl rfl rfl ?_
            have hK520 : ∀ (v : Int) , (True) → (if a2 = 0 then
                (y510)
                else
                (y511)) = v → X (EE s) d 183 157 [] [zl v] m Q := by
              intro v517 hv517 hT521
              refine X.retl (zi183 157) rfl t183 ?_
              exact hQ v517 (by first | trivial | omega) (Eq.trans hR515 (Eq.trans (zn_eq hT521.symm) rfl)) 
            refine X.ifne 155 150 (zi183 147) rfl rfl rfl (fun h516 => ?_) (fun h516 => ?_)
            · refine X.cut [(4, zl y511)] (zi183 155) rfl ?_
              refine X.lload 157 (zi183 155) rfl rfl rfl ?_
              refine X.cut [] (zi183 157) rfl ?_
              exact hK520 y511 (by first | trivial | omega) (Eq.trans (if_neg h516) rfl)
            · refine X.iload_n 151 (zi183 150) rfl rfl rfl ?_
              refine X.i2l 152 (zi183 151) rfl rfl ?_
              refine X.goto 157 (zi183 152) rfl rfl ?_
              refine X.cut [] (zi183 157) rfl ?_
              exact hK520 y510 (by first | trivial | omega) (Eq.trans (if_pos h516) rfl)
          · refine X.ldc2 47 (zi183 44) rfl rfl (by decide) ?_
            refine X.retl (zi183 47) rfl t183 ?_
            exact hQ (-1) (by first | trivial | omega) (Eq.trans (if_neg h501) (Eq.trans (if_neg h502) (Eq.trans (if_neg h503) (Eq.trans (if_pos h504) (Eq.trans (if_neg h506) rfl))))) 
        · refine X.cut [] (zi183 20) rfl ?_
          refine X.ldc2 23 (zi183 20) rfl rfl (by decide) ?_
          refine X.retl (zi183 23) rfl t183 ?_
          exact hQ (-1) (by first | trivial | omega) (Eq.trans (if_neg h501) (Eq.trans (if_neg h502) (Eq.trans (if_neg h503) (Eq.trans (if_neg h504) rfl)))) 
-- WorkMeterModel.costOfDay
theorem c307_4 {s : Nat × (Nat → Int32)} {S : zS} {m0 m : zM} {B : Int} {d : Nat} {Q : Option zV → zM → Prop} (a1 a2 a3 : Int) (hd : 15 ≤ d) (hJ : J S m0 B m) (hB : B + 0 ≤ 1000000000) (ha1 : 0 ≤ a1 ∧ a1 ≤ 23150) (ha2 : 0 ≤ a2 ∧ a2 ≤ 86399) (ha3 : 1 ≤ a3 ∧ a3 ≤ 86400) (hQ : ∀ (v : Int), (True) → f307_1 a1 a2 a3 m = v → Q (some (zl v)) m) : X (EE s) d 307 0 [(0, zr 4 44), (1, zi a1), (2, zi a2), (3, zi a3)] [] m Q := by
  refine X.aload_n 1 (zi307 0) rfl rfl rfl ?_
  refine X.iload_n 2 (zi307 1) rfl rfl rfl ?_
  refine X.callv 5 [zi a1] [] [(0, zr 4 44), (1, zi a1)] (zi307 2) rfl (by decide) rfl rfl (by omega) rfl rfl (by decide) rfl t218 (Nat.le_of_ble_eq_true rfl) (Nat.le_of_ble_eq_true rfl) rfl ?_
  refine c218_1 (B := B)  a1 (by omega) (hJ.up (by omega)) (by omega) (by omega) (fun v503 hv503 hFv503 => ?_)
  show X (EE s) d 307 5 [(0, zr 4 44), (1, zi a1), (2, zi a2), (3, zi a3)] [zi v503] m _
  refine X.istore 7 [(0, zr 4 44), (1, zi a1), (2, zi a2), (3, zi a3), (4, zi v503)] (zi307 5) rfl rfl rfl ?_
  refine X.lconst (y := 0) 8 (zi307 7) rfl rfl rfl ?_
  refine X.lstore 10 [(0, zr 4 44), (1, zi a1), (2, zi a2), (3, zi a3), (4, zi v503), (5, zl 0)] (zi307 8) rfl rfl rfl ?_
  refine X.iconst 11 (zi307 10) rfl rfl (by decide) ?_
  refine X.istore 13 [(0, zr 4 44), (1, zi a1), (2, zi a2), (3, zi a3), (4, zi v503), (5, zl 0), (7, zi 0)] (zi307 11) rfl rfl rfl ?_
  refine X.iconst 14 (zi307 13) rfl rfl (by decide) ?_
  refine X.istore 16 [(0, zr 4 44), (1, zi a1), (2, zi a2), (3, zi a3), (4, zi v503), (5, zl 0), (7, zi 0), (8, zi 0)] (zi307 14) rfl rfl rfl ?_
  refine X.iconst 17 (zi307 16) rfl rfl (by decide) ?_
  refine X.istore 19 [(0, zr 4 44), (1, zi a1), (2, zi a2), (3, zi a3), (4, zi v503), (5, zl 0), (7, zi 0), (8, zi 0), (9, zi 0)] (zi307 17) rfl rfl rfl ?_
  refine X.cut [(0, zr 4 44), (2, zi a2), (3, zi a3), (4, zi v503), (5, zl 0), (7, zi 0), (8, zi 0), (9, zi 0)] (zi307 19) rfl ?_
  have hz8 := zfu_eq 8
  refine l307_19_1 (s := s) (m := m) (B := B) (d := d) (R0 := (f307_1 a1 a2 a3 m))  a2 a3 v503  (by omega) (hJ.up (by omega)) (by omega) (by omega) (by omega) (by omega) (fun y504 hby504 hR508 => ?_) (zfu 8) 0 0 0 0 (by omega) (by omega) (by omega) (by omega) (Eq.trans (zn_eq hFv503.symm) rfl)
  refine X.lload 187 (zi307 185) rfl rfl rfl ?_
  refine X.retl (zi307 187) rfl t307 ?_
  exact hQ y504 (by first | trivial | omega) (Eq.trans hR508 rfl) 
-- WorkMeterModel.costOfDay
theorem c307_5 {s : Nat × (Nat → Int32)} {S : zS} {m0 m : zM} {B : Int} {d : Nat} {Q : Option zV → zM → Prop} (a1 a2 a3 : Int) (hd : 15 ≤ d) (hJ : J S m0 B m) (hB : B + 0 ≤ 1000000000) (ha1 : 0 ≤ a1 ∧ a1 ≤ 23150) (ha2 : 0 ≤ a2 ∧ a2 ≤ 86399) (ha3 : 1 ≤ a3 ∧ a3 ≤ 86400) (hQ : ∀ (v : Int), (True) → f307_1 a1 a2 a3 m = v → Q (some (zl v)) m) : X (EE s) d 307 0 [(0, zr 4 44), (1, zi a1), (2, zi a2), (3, zi a3)] [] m Q := by
  refine X.aload_n 1 (zi307 0) rfl rfl rfl ?_
  refine X.iload_n 2 (zi307 1) rfl rfl rfl ?_
  refine X.callv 5 [zi a1] [] [(0, zr 4 44), (1, zi a1)] (zi307 2) rfl (by decide) rfl rfl (by omega) rfl rfl (by decide) rfl t218 (Nat.le_of_ble_eq_true rfl) (Nat.le_of_ble_eq_true rfl) rfl ?_
  refine c218_1 (B := B)  a1 (by omega) (hJ.up (by omega)) (by omega) (by omega) (fun v503 hv503 hFv503 => ?_)
  show X (EE s) d 307 5 [(0, zr 4 44), (1, zi a1), (2, zi a2), (3, zi a3)] [zi v503] m _
  refine X.istore 7 [(0, zr 4 44), (1, zi a1), (2, zi a2), (3, zi a3), (4, zi v503)] (zi307 5) rfl rfl rfl ?_
  refine X.lconst (y := 0) 8 (zi307 7) rfl rfl rfl ?_
  refine X.lstore 10 [(0, zr 4 44), (1, zi a1), (2, zi a2), (3, zi a3), (4, zi v503), (5, zl 0)] (zi307 8) rfl rfl rfl ?_
  refine X.iconst 11 (zi307 10) rfl rfl (by decide) ?_
  refine X.istore 13 [(0, zr 4 44), (1, zi a1), (2, zi a2), (3, zi a3), (4, zi v503), (5, zl 0), (7, zi 0)] (zi307 11) rfl rfl rfl ?_
  refine X.iconst 14 (zi307 13) rfl rfl (by decide) ?_
  refine X.istore 16 [(0, zr 4 44), (1, zi a1), (2, zi a2), (3, zi a3), (4, zi v503), (5, zl 0), (7, zi 0), (8, zi 0)] (zi307 14) rfl rfl rfl ?_
  refine X.iconst 17 (zi307 16) rfl rfl (by decide) ?_
  refine X.istore 19 [(0, zr 4 44), (1, zi a1), (2, zi a2), (3, zi a3), (4, zi v503), (5, zl 0), (7, zi 0), (8, zi 0), (9, zi 0)] (zi307 17) rfl rfl rfl ?_
  refine X.cut [(0, zr 4 44), (2, zi a2), (3, zi a3), (4, zi v503), (5, zl 0), (7, zi 0), (8, zi 0), (9, zi 0)] (zi307 19) rfl ?_
  have hz8 := zfu_eq 8
  refine l307_19_1 (s := s) (m := m) (B := B) (d := d) (R0 := (f307_1 a1 a2 a3 m))  a2 a3 v503  (by omega) (hJ.up (by omega)) (by omega) (by omega) (by omega) (by omega) (fun y504 hby504 hR508 => ?_) (zfu 8) 0 0 0 0 (by omega) (by omega) (by omega) (by omega) (Eq.trans (zn_eq hFv503.symm) rfl)
  refine X.lload 187 (zi307 185) rfl rfl rfl ?_
  refine X.retl (zi307 187) rfl t307 ?_
  exact hQ y504 (by first | trivial | omega) (Eq.trans hR508 rfl) 
-- WorkMeterModel.costOfDay
theorem c307_6 {s : Nat × (Nat → Int32)} {S : zS} {m0 m : zM} {B : Int} {d : Nat} {Q : Option zV → zM → Prop} (a1 a2 a3 : Int) (hd : 15 ≤ d) (hJ : J S m0 B m) (hB : B + 0 ≤ 1000000000) (ha1 : 0 ≤ a1 ∧ a1 ≤ 23150) (ha2 : 0 ≤ a2 ∧ a2 ≤ 86399) (ha3 : 1 ≤ a3 ∧ a3 ≤ 86400) (hQ : ∀ (v : Int), (True) → f307_1 a1 a2 a3 m = v → Q (some (zl v)) m) : X (EE s) d 307 0 [(0, zr 4 44), (1, zi a1), (2, zi a2), (3, zi a3)] [] m Q := by
  refine X.aload_n 1 (zi307 0) rfl rfl rfl ?_
  refine X.iload_n 2 (zi307 1) rfl rfl rfl ?_
  refine X.callv 5 [zi a1] [] [(0, zr 4 44), (1, zi a1)] (zi307 2) rfl (by decide) rfl rfl (by omega) rfl rfl (by decide) rfl t218 (Nat.le_of_ble_eq_true rfl) (Nat.le_of_ble_eq_true rfl) rfl ?_
  refine c218_1 (B := B)  a1 (by omega) (hJ.up (by omega)) (by omega) (by omega) (fun v503 hv503 hFv503 => ?_)
  show X (EE s) d 307 5 [(0, zr 4 44), (1, zi a1), (2, zi a2), (3, zi a3)] [zi v503] m _
  refine X.istore 7 [(0, zr 4 44), (1, zi a1), (2, zi a2), (3, zi a3), (4, zi v503)] (zi307 5) rfl rfl rfl ?_
  refine X.lconst (y := 0) 8 (zi307 7) rfl rfl rfl ?_
  refine X.lstore 10 [(0, zr 4 44), (1, zi a1), (2, zi a2), (3, zi a3), (4, zi v503), (5, zl 0)] (zi307 8) rfl rfl rfl ?_
  refine X.iconst 11 (zi307 10) rfl rfl (by decide) ?_
  refine X.istore 13 [(0, zr 4 44), (1, zi a1), (2, zi a2), (3, zi a3), (4, zi v503), (5, zl 0), (7, zi 0)] (zi307 11) rfl rfl rfl ?_
  refine X.iconst 14 (zi307 13) rfl rfl (by decide) ?_
  refine X.istore 16 [(0, zr 4 44), (1, zi a1), (2, zi a2), (3, zi a3), (4, zi v503), (5, zl 0), (7, zi 0), (8, zi 0)] (zi307 14) rfl rfl rfl ?_
  refine X.iconst 17 (zi307 16) rfl rfl (by decide) ?_
  refine X.istore 19 [(0, zr 4 44), (1, zi a1), (2, zi a2), (3, zi a3), (4, zi v503), (5, zl 0), (7, zi 0), (8, zi 0), (9, zi 0)] (zi307 17) rfl rfl rfl ?_
  refine X.cut [(0, zr 4 44), (2, zi a2), (3, zi a3), (4, zi v503), (5, zl 0), (7, zi 0), (8, zi 0), (9, zi 0)] (zi307 19) rfl ?_
  have hz8 := zfu_eq 8
  refine l307_19_1 (s := s) (m := m) (B := B) (d := d) (R0 := (f307_1 a1 a2 a3 m))  a2 a3 v503  (by omega) (hJ.up (by omega)) (by omega) (by omega) (by omega) (by omega) (fun y504 hby504 hR508 => ?_) (zfu 8) 0 0 0 0 (by omega) (by omega) (by omega) (by omega) (Eq.trans (zn_eq hFv503.symm) rfl)
  refine X.lload 187 (zi307 185) rfl rfl rfl ?_
  refine X.retl (zi307 187) rfl t307 ?_
  exact hQ y504 (by first | trivial | omega) (Eq.trans hR508 rfl) 
theorem l306_5_2 {s : Nat × (Nat → Int32)} {S : zS} {m0 : zM} {m : zM} {B : Int} {d : Nat} {Q : Option zV → zM → Prop} {R0 : Int} {k79 : Int → Int} (y1 y2 : Int) (hd : 16 ≤ d) (hJ : J S m0 B m) (hB9 : B ≤ 1000000000) (hy1 : 900 ≤ y1 ∧ y1 ≤ 2000085500) (hy2 : 1 ≤ y2 ∧ y2 ≤ 100000)
    (K79 : ∀ (x3 : Int) , (True) → R0 = k79 x3 → X (EE s) d 306 79 [(3, zl x3)] [] m Q) :
    ∀ (n : Nat) (y3 y5 : Int) , (0 ≤ y5 ∧ y5 ≤ 2000186000) → (y5 ≤ y1 + y2) → y1 + y2 - y5 < (n : Int) → R0 = fl306_5_1 k79 y1 y2 m n y3 y5 → X (EE s) d 306 5 [(0, zr 4 44), (1, zi y1), (2, zi y2), (3, zl y3), (5, zi y5)] [] m Q := by
  intro n
  induction n with
  | zero =>
    intro y3 y5 hy5 hr0 hn hR
    exfalso
    omega
  | succ n ih =>
    intro y3 y5 hy5 hr0 hn hR
    replace hR : R0 = fl306_5_1_b (fl306_5_1 k79 y1 y2 m n) k79 y1 y2 m y3 y5 := hR
    refine X.iload 7 (zi306 5) rfl rfl rfl ?_
    refine X.iload_n 8 (zi306 7) rfl rfl rfl ?_
    refine X.iload_n 9 (zi306 8) rfl rfl rfl ?_
    refine X.iadd 10 (zi306 9) rfl rfl (by omega) ?_
    refine X.icmpge 79 13 (zi306 10) rfl rfl rfl (fun h523 => ?_) (fun h523 => ?_)
    · refine X.cut [(3, zl y3)] (zi306 79) rfl ?_
      exact K79 y3 (by first | trivial | omega) (Eq.trans hR (Eq.trans (if_pos h523) rfl))
    · refine X.iload 15 (zi306 13) rfl rfl rfl ?_
      refine X.ldc 17 (zi306 15) rfl rfl (by decide) ?_
      refine X.idiv 18 (zi306 17) rfl rfl (by omega) ?_
      refine X.istore 20 [(0, zr 4 44), (1, zi y1), (2, zi y2), (3, zl y3), (5, zi y5), (6, zi (y5 / 86400))] (zi306 18) rfl rfl rfl ?_
      refine X.iload_n 21 (zi306 20) rfl rfl rfl ?_
      refine X.iload_n 22 (zi306 21) rfl rfl rfl ?_
      refine X.iadd 23 (zi306 22) rfl rfl (by omega) ?_
      refine X.iload 25 (zi306 23) rfl rfl rfl ?_
      refine X.ldc 27 (zi306 25) rfl rfl (by decide) ?_
      refine X.imul 28 (zi306 27) rfl rfl (by omega) ?_
      refine X.isub 29 (zi306 28) rfl rfl (by omega) ?_
      refine X.ldc 31 (zi306 29) rfl rfl (by decide) ?_
      have hK528 : ∀ (v : Int) , ((-2000159099) ≤ v ∧ v ≤ 86400) → (if 86400 ≤ ((y1 + y2) - ((y5 / 86400) * 86400)) then
          (86400)
          else
          (((y1 + y2) - ((y5 / 86400) * 86400)))) = v → X (EE s) d 306 48 [(0, zr 4 44), (1, zi y1), (2, zi y2), (3, zl y3), (5, zi y5), (6, zi (y5 / 86400))] [zi v] m Q := by
        intro v525 hv525 hT529
        refine X.istore 50 [(0, zr 4 44), (1, zi y1), (2, zi y2), (3, zl y3), (5, zi y5), (6, zi (y5 / 86400)), (7, zi v525)] (zi306 48) rfl rfl rfl ?_
        refine X.lload_n 51 (zi306 50) rfl rfl rfl ?_
        refine X.aload_n 52 (zi306 51) rfl rfl rfl ?_
        refine X.iload 54 (zi306 52) rfl rfl rfl ?_
        refine X.iload 56 (zi306 54) rfl rfl rfl ?_
        refine X.ldc 58 (zi306 56) rfl rfl (by decide) ?_
        refine X.irem 59 (zi306 58) rfl rfl (by omega) ?_
        refine X.iload 61 (zi306 59) rfl rfl rfl ?_
        refine X.callv 64 [zi (y5 / 86400), zi (y5 % 86400), zi v525] [zl y3] [(0, zr 4 44), (1, zi (y5 / 86400)), (2, zi (y5 % 86400)), (3, zi v525)] (zi306 61) rfl (by decide) rfl rfl (by omega) rfl rfl (by decide) rfl t307 (Nat.le_of_ble_eq_true rfl) (Nat.le_of_ble_eq_true rfl) rfl ?_
        refine c307_6 (B := B)  (y5 / 86400) (y5 % 86400) v525 (by omega) (hJ.up (by omega)) (by omega) (by omega) (by omega) (by omega) (fun v532 hv532 hFv532 => ?_)
        show X (EE s) d 306 64 [(0, zr 4 44), (1, zi y1), (2, zi y2), (3, zl y3), (5, zi y5), (6, zi (y5 / 86400)), (7, zi v525)] [zl v532, zl y3] m _
        refine X.laddW 65 (zi306 64) rfl rfl (fun z533 ez533 hz533 => ?_)
        refine X.lstore_n 66 [(0, zr 4 44), (1, zi y1), (2, zi y2), (3, zl z533), (5, zi y5), (6, zi (y5 / 86400)), (7, zi v525)] (zi306 65) rfl rfl rfl ?_
        refine X.iload 68 (zi306 66) rfl rfl rfl ?_
        refine X.ldc 70 (zi306 68) rfl rfl (by decide) ?_
        refine X.imul 71 (zi306 70) rfl rfl (by omega) ?_
        refine X.iload 73 (zi306 71) rfl rfl rfl ?_
        refine X.iadd 74 (zi306 73) rfl rfl (by omega) ?_
        refine X.istore 76 [(0, zr 4 44), (1, zi y1), (2, zi y2), (3, zl z533), (5, zi (((y5 / 86400) * 86400) + v525)), (6, zi (y5 / 86400)), (7, zi v525)] (zi306 74) rfl rfl rfl ?_
        refine X.goto 5 (zi306 76) rfl rfl ?_
        refine X.cut [(0, zr 4 44), (1, zi y1), (2, zi y2), (3, zl z533), (5, zi (((y5 / 86400) * 86400) + v525))] (zi306 5) rfl ?_
        exact ih z533 (((y5 / 86400) * 86400) + v525) (by omega) (by omega) (by omega) (Eq.trans hR (Eq.trans (if_neg h523) (Eq.trans (zn_eq hT529.symm) (Eq.trans (zn_eq hFv532.symm) (Eq.trans (zn_eq ez533) rfl)))))
      refine X.icmpge 46 34 (zi306 31) rfl rfl rfl (fun h524 => ?_) (fun h524 => ?_)
      · refine X.ldc 48 (zi306 46) rfl rfl (by decide) ?_
        exact hK528 86400 (by first | trivial | omega) (Eq.trans (if_pos h524) rfl)
      · refine X.iload_n 35 (zi306 34) rfl rfl rfl ?_
        refine X.iload_n 36 (zi306 35) rfl rfl rfl ?_
        refine X.iadd 37 (zi306 36) rfl rfl (by omega) ?_
        refine X.iload 39 (zi306 37) rfl rfl rfl ?_
        refine X.ldc 41 (zi306 39) rfl rfl (by decide) ?_
        refine X.imul 42 (zi306 41) rfl rfl (by omega) ?_
        refine X.isub 43 (zi306 42) rfl rfl (by omega) ?_
        refine X.goto 48 (zi306 43) rfl rfl ?_
        exact hK528 ((y1 + y2) - ((y5 / 86400) * 86400)) (by first | trivial | omega) (Eq.trans (if_neg h524) rfl)
-- WorkMeterModel.costFrom
theorem c306_2 {s : Nat × (Nat → Int32)} {S : zS} {m0 m : zM} {B : Int} {d : Nat} {Q : Option zV → zM → Prop} (a1 a2 : Int) (hd : 16 ≤ d) (hJ : J S m0 B m) (hB : B + 0 ≤ 1000000000) (ha1 : 900 ≤ a1 ∧ a1 ≤ 2000085500) (ha2 : 1 ≤ a2 ∧ a2 ≤ 100000) (hQ : ∀ (v : Int), (True) → f306_1 a1 a2 m = v → Q (some (zl v)) m) : X (EE s) d 306 0 [(0, zr 4 44), (1, zi a1), (2, zi a2)] [] m Q := by
  refine X.lconst (y := 0) 1 (zi306 0) rfl rfl rfl ?_
  refine X.lstore_n 2 [(0, zr 4 44), (1, zi a1), (2, zi a2), (3, zl 0)] (zi306 1) rfl rfl rfl ?_
  refine X.iload_n 3 (zi306 2) rfl rfl rfl ?_
  refine X.istore 5 [(0, zr 4 44), (1, zi a1), (2, zi a2), (3, zl 0), (5, zi a1)] (zi306 3) rfl rfl rfl ?_
  have hz100001 := zfu_eq 100001
  refine l306_5_2 (s := s) (m := m) (B := B) (d := d) (R0 := (f306_1 a1 a2 m))  a1 a2  (by omega) (hJ.up (by omega)) (by omega) (by omega) (by omega) (fun y501 hby501 hR505 => ?_) (zfu 100001) 0 a1 (by omega) (by omega) (by omega) rfl
  refine X.lload_n 80 (zi306 79) rfl rfl rfl ?_
  refine X.retl (zi306 80) rfl t306 ?_
  exact hQ y501 (by first | trivial | omega) (Eq.trans hR505 rfl) 
-- WorkMeterModel.costOfDay
theorem c307_7 {s : Nat × (Nat → Int32)} {S : zS} {m0 m : zM} {B : Int} {d : Nat} {Q : Option zV → zM → Prop} (a1 a2 a3 : Int) (hd : 15 ≤ d) (hJ : J S m0 B m) (hB : B + 0 ≤ 1000000000) (ha1 : 0 ≤ a1 ∧ a1 ≤ 23150) (ha2 : 0 ≤ a2 ∧ a2 ≤ 86399) (ha3 : 1 ≤ a3 ∧ a3 ≤ 86400) (hQ : ∀ (v : Int), (True) → f307_1 a1 a2 a3 m = v → Q (some (zl v)) m) : X (EE s) d 307 0 [(0, zr 4 44), (1, zi a1), (2, zi a2), (3, zi a3)] [] m Q := by
  refine X.aload_n 1 (zi307 0) rfl rfl rfl ?_
  refine X.iload_n 2 (zi307 1) rfl rfl rfl ?_
  refine X.callv 5 [zi a1] [] [(0, zr 4 44), (1, zi a1)] (zi307 2) rfl (by decide) rfl rfl (by omega) rfl rfl (by decide) rfl t218 (Nat.le_of_ble_eq_true rfl) (Nat.le_of_ble_eq_true rfl) rfl ?_
  refine c218_1 (B := B)  a1 (by omega) (hJ.up (by omega)) (by omega) (by omega) (fun v503 hv503 hFv503 => ?_)
  show X (EE s) d 307 5 [(0, zr 4 44), (1, zi a1), (2, zi a2), (3, zi a3)] [zi v503] m _
  refine X.istore 7 [(0, zr 4 44), (1, zi a1), (2, zi a2), (3, zi a3), (4, zi v503)] (zi307 5) rfl rfl rfl ?_
  refine X.lconst (y := 0) 8 (zi307 7) rfl rfl rfl ?_
  refine X.lstore 10 [(0, zr 4 44), (1, zi a1), (2, zi a2), (3, zi a3), (4, zi v503), (5, zl 0)] (zi307 8) rfl rfl rfl ?_
  refine X.iconst 11 (zi307 10) rfl rfl (by decide) ?_
  refine X.istore 13 [(0, zr 4 44), (1, zi a1), (2, zi a2), (3, zi a3), (4, zi v503), (5, zl 0), (7, zi 0)] (zi307 11) rfl rfl rfl ?_
  refine X.iconst 14 (zi307 13) rfl rfl (by decide) ?_
  refine X.istore 16 [(0, zr 4 44), (1, zi a1), (2, zi a2), (3, zi a3), (4, zi v503), (5, zl 0), (7, zi 0), (8, zi 0)] (zi307 14) rfl rfl rfl ?_
  refine X.iconst 17 (zi307 16) rfl rfl (by decide) ?_
  refine X.istore 19 [(0, zr 4 44), (1, zi a1), (2, zi a2), (3, zi a3), (4, zi v503), (5, zl 0), (7, zi 0), (8, zi 0), (9, zi 0)] (zi307 17) rfl rfl rfl ?_
  refine X.cut [(0, zr 4 44), (2, zi a2), (3, zi a3), (4, zi v503), (5, zl 0), (7, zi 0), (8, zi 0), (9, zi 0)] (zi307 19) rfl ?_
  have hz8 := zfu_eq 8
  refine l307_19_1 (s := s) (m := m) (B := B) (d := d) (R0 := (f307_1 a1 a2 a3 m))  a2 a3 v503  (by omega) (hJ.up (by omega)) (by omega) (by omega) (by omega) (by omega) (fun y504 hby504 hR508 => ?_) (zfu 8) 0 0 0 0 (by omega) (by omega) (by omega) (by omega) (Eq.trans (zn_eq hFv503.symm) rfl)
  refine X.lload 187 (zi307 185) rfl rfl rfl ?_
  refine X.retl (zi307 187) rfl t307 ?_
  exact hQ y504 (by first | trivial | omega) (Eq.trans hR508 rfl) 
-- WorkMeterModel.costOfDay
theorem c307_8 {s : Nat × (Nat → Int32)} {S : zS} {m0 m : zM} {B : Int} {d : Nat} {Q : Option zV → zM → Prop} (a1 a2 a3 : Int) (hd : 15 ≤ d) (hJ : J S m0 B m) (hB : B + 0 ≤ 1000000000) (ha1 : 0 ≤ a1 ∧ a1 ≤ 23150) (ha2 : 0 ≤ a2 ∧ a2 ≤ 86399) (ha3 : 1 ≤ a3 ∧ a3 ≤ 86400) (hQ : ∀ (v : Int), (True) → f307_1 a1 a2 a3 m = v → Q (some (zl v)) m) : X (EE s) d 307 0 [(0, zr 4 44), (1, zi a1), (2, zi a2), (3, zi a3)] [] m Q := by
  refine X.aload_n 1 (zi307 0) rfl rfl rfl ?_
  refine X.iload_n 2 (zi307 1) rfl rfl rfl ?_
  refine X.callv 5 [zi a1] [] [(0, zr 4 44), (1, zi a1)] (zi307 2) rfl (by decide) rfl rfl (by omega) rfl rfl (by decide) rfl t218 (Nat.le_of_ble_eq_true rfl) (Nat.le_of_ble_eq_true rfl) rfl ?_
  refine c218_1 (B := B)  a1 (by omega) (hJ.up (by omega)) (by omega) (by omega) (fun v503 hv503 hFv503 => ?_)
  show X (EE s) d 307 5 [(0, zr 4 44), (1, zi a1), (2, zi a2), (3, zi a3)] [zi v503] m _
  refine X.istore 7 [(0, zr 4 44), (1, zi a1), (2, zi a2), (3, zi a3), (4, zi v503)] (zi307 5) rfl rfl rfl ?_
  refine X.lconst (y := 0) 8 (zi307 7) rfl rfl rfl ?_
  refine X.lstore 10 [(0, zr 4 44), (1, zi a1), (2, zi a2), (3, zi a3), (4, zi v503), (5, zl 0)] (zi307 8) rfl rfl rfl ?_
  refine X.iconst 11 (zi307 10) rfl rfl (by decide) ?_
  refine X.istore 13 [(0, zr 4 44), (1, zi a1), (2, zi a2), (3, zi a3), (4, zi v503), (5, zl 0), (7, zi 0)] (zi307 11) rfl rfl rfl ?_
  refine X.iconst 14 (zi307 13) rfl rfl (by decide) ?_
  refine X.istore 16 [(0, zr 4 44), (1, zi a1), (2, zi a2), (3, zi a3), (4, zi v503), (5, zl 0), (7, zi 0), (8, zi 0)] (zi307 14) rfl rfl rfl ?_
  refine X.iconst 17 (zi307 16) rfl rfl (by decide) ?_
  refine X.istore 19 [(0, zr 4 44), (1, zi a1), (2, zi a2), (3, zi a3), (4, zi v503), (5, zl 0), (7, zi 0), (8, zi 0), (9, zi 0)] (zi307 17) rfl rfl rfl ?_
  refine X.cut [(0, zr 4 44), (2, zi a2), (3, zi a3), (4, zi v503), (5, zl 0), (7, zi 0), (8, zi 0), (9, zi 0)] (zi307 19) rfl ?_
  have hz8 := zfu_eq 8
  refine l307_19_1 (s := s) (m := m) (B := B) (d := d) (R0 := (f307_1 a1 a2 a3 m))  a2 a3 v503  (by omega) (hJ.up (by omega)) (by omega) (by omega) (by omega) (by omega) (fun y504 hby504 hR508 => ?_) (zfu 8) 0 0 0 0 (by omega) (by omega) (by omega) (by omega) (Eq.trans (zn_eq hFv503.symm) rfl)
  refine X.lload 187 (zi307 185) rfl rfl rfl ?_
  refine X.retl (zi307 187) rfl t307 ?_
  exact hQ y504 (by first | trivial | omega) (Eq.trans hR508 rfl) 
-- WorkMeterModel.costOfDay
theorem c307_9 {s : Nat × (Nat → Int32)} {S : zS} {m0 m : zM} {B : Int} {d : Nat} {Q : Option zV → zM → Prop} (a1 a2 a3 : Int) (hd : 15 ≤ d) (hJ : J S m0 B m) (hB : B + 0 ≤ 1000000000) (ha1 : 0 ≤ a1 ∧ a1 ≤ 23150) (ha2 : 0 ≤ a2 ∧ a2 ≤ 86399) (ha3 : 1 ≤ a3 ∧ a3 ≤ 86400) (hQ : ∀ (v : Int), (True) → f307_1 a1 a2 a3 m = v → Q (some (zl v)) m) : X (EE s) d 307 0 [(0, zr 4 44), (1, zi a1), (2, zi a2), (3, zi a3)] [] m Q := by
  refine X.aload_n 1 (zi307 0) rfl rfl rfl ?_
  refine X.iload_n 2 (zi307 1) rfl rfl rfl ?_
  refine X.callv 5 [zi a1] [] [(0, zr 4 44), (1, zi a1)] (zi307 2) rfl (by decide) rfl rfl (by omega) rfl rfl (by decide) rfl t218 (Nat.le_of_ble_eq_true rfl) (Nat.le_of_ble_eq_true rfl) rfl ?_
  refine c218_1 (B := B)  a1 (by omega) (hJ.up (by omega)) (by omega) (by omega) (fun v503 hv503 hFv503 => ?_)
  show X (EE s) d 307 5 [(0, zr 4 44), (1, zi a1), (2, zi a2), (3, zi a3)] [zi v503] m _
  refine X.istore 7 [(0, zr 4 44), (1, zi a1), (2, zi a2), (3, zi a3), (4, zi v503)] (zi307 5) rfl rfl rfl ?_
  refine X.lconst (y := 0) 8 (zi307 7) rfl rfl rfl ?_
  refine X.lstore 10 [(0, zr 4 44), (1, zi a1), (2, zi a2), (3, zi a3), (4, zi v503), (5, zl 0)] (zi307 8) rfl rfl rfl ?_
  refine X.iconst 11 (zi307 10) rfl rfl (by decide) ?_
  refine X.istore 13 [(0, zr 4 44), (1, zi a1), (2, zi a2), (3, zi a3), (4, zi v503), (5, zl 0), (7, zi 0)] (zi307 11) rfl rfl rfl ?_
  refine X.iconst 14 (zi307 13) rfl rfl (by decide) ?_
  refine X.istore 16 [(0, zr 4 44), (1, zi a1), (2, zi a2), (3, zi a3), (4, zi v503), (5, zl 0), (7, zi 0), (8, zi 0)] (zi307 14) rfl rfl rfl ?_
  refine X.iconst 17 (zi307 16) rfl rfl (by decide) ?_
  refine X.istore 19 [(0, zr 4 44), (1, zi a1), (2, zi a2), (3, zi a3), (4, zi v503), (5, zl 0), (7, zi 0), (8, zi 0), (9, zi 0)] (zi307 17) rfl rfl rfl ?_
  refine X.cut [(0, zr 4 44), (2, zi a2), (3, zi a3), (4, zi v503), (5, zl 0), (7, zi 0), (8, zi 0), (9, zi 0)] (zi307 19) rfl ?_
  have hz8 := zfu_eq 8
  refine l307_19_1 (s := s) (m := m) (B := B) (d := d) (R0 := (f307_1 a1 a2 a3 m))  a2 a3 v503  (by omega) (hJ.up (by omega)) (by omega) (by omega) (by omega) (by omega) (fun y504 hby504 hR508 => ?_) (zfu 8) 0 0 0 0 (by omega) (by omega) (by omega) (by omega) (Eq.trans (zn_eq hFv503.symm) rfl)
  refine X.lload 187 (zi307 185) rfl rfl rfl ?_
  refine X.retl (zi307 187) rfl t307 ?_
  exact hQ y504 (by first | trivial | omega) (Eq.trans hR508 rfl) 
theorem l306_5_3 {s : Nat × (Nat → Int32)} {S : zS} {m0 : zM} {m : zM} {B : Int} {d : Nat} {Q : Option zV → zM → Prop} {R0 : Int} {k79 : Int → Int} (y1 y2 : Int) (hd : 16 ≤ d) (hJ : J S m0 B m) (hB9 : B ≤ 1000000000) (hy1 : 0 ≤ y1 ∧ y1 ≤ 2000085500) (hy2 : 1 ≤ y2 ∧ y2 ≤ 100000)
    (K79 : ∀ (x3 : Int) , (True) → R0 = k79 x3 → X (EE s) d 306 79 [(3, zl x3)] [] m Q) :
    ∀ (n : Nat) (y3 y5 : Int) , (0 ≤ y5 ∧ y5 ≤ 2000186000) → (y5 ≤ y1 + y2) → y1 + y2 - y5 < (n : Int) → R0 = fl306_5_1 k79 y1 y2 m n y3 y5 → X (EE s) d 306 5 [(0, zr 4 44), (1, zi y1), (2, zi y2), (3, zl y3), (5, zi y5)] [] m Q := by
  intro n
  induction n with
  | zero =>
    intro y3 y5 hy5 hr0 hn hR
    exfalso
    omega
  | succ n ih =>
    intro y3 y5 hy5 hr0 hn hR
    replace hR : R0 = fl306_5_1_b (fl306_5_1 k79 y1 y2 m n) k79 y1 y2 m y3 y5 := hR
    refine X.iload 7 (zi306 5) rfl rfl rfl ?_
    refine X.iload_n 8 (zi306 7) rfl rfl rfl ?_
    refine X.iload_n 9 (zi306 8) rfl rfl rfl ?_
    refine X.iadd 10 (zi306 9) rfl rfl (by omega) ?_
    refine X.icmpge 79 13 (zi306 10) rfl rfl rfl (fun h523 => ?_) (fun h523 => ?_)
    · refine X.cut [(3, zl y3)] (zi306 79) rfl ?_
      exact K79 y3 (by first | trivial | omega) (Eq.trans hR (Eq.trans (if_pos h523) rfl))
    · refine X.iload 15 (zi306 13) rfl rfl rfl ?_
      refine X.ldc 17 (zi306 15) rfl rfl (by decide) ?_
      refine X.idiv 18 (zi306 17) rfl rfl (by omega) ?_
      refine X.istore 20 [(0, zr 4 44), (1, zi y1), (2, zi y2), (3, zl y3), (5, zi y5), (6, zi (y5 / 86400))] (zi306 18) rfl rfl rfl ?_
      refine X.iload_n 21 (zi306 20) rfl rfl rfl ?_
      refine X.iload_n 22 (zi306 21) rfl rfl rfl ?_
      refine X.iadd 23 (zi306 22) rfl rfl (by omega) ?_
      refine X.iload 25 (zi306 23) rfl rfl rfl ?_
      refine X.ldc 27 (zi306 25) rfl rfl (by decide) ?_
      refine X.imul 28 (zi306 27) rfl rfl (by omega) ?_
      refine X.isub 29 (zi306 28) rfl rfl (by omega) ?_
      refine X.ldc 31 (zi306 29) rfl rfl (by decide) ?_
      have hK528 : ∀ (v : Int) , ((-2000159999) ≤ v ∧ v ≤ 86400) → (if 86400 ≤ ((y1 + y2) - ((y5 / 86400) * 86400)) then
          (86400)
          else
          (((y1 + y2) - ((y5 / 86400) * 86400)))) = v → X (EE s) d 306 48 [(0, zr 4 44), (1, zi y1), (2, zi y2), (3, zl y3), (5, zi y5), (6, zi (y5 / 86400))] [zi v] m Q := by
        intro v525 hv525 hT529
        refine X.istore 50 [(0, zr 4 44), (1, zi y1), (2, zi y2), (3, zl y3), (5, zi y5), (6, zi (y5 / 86400)), (7, zi v525)] (zi306 48) rfl rfl rfl ?_
        refine X.lload_n 51 (zi306 50) rfl rfl rfl ?_
        refine X.aload_n 52 (zi306 51) rfl rfl rfl ?_
        refine X.iload 54 (zi306 52) rfl rfl rfl ?_
        refine X.iload 56 (zi306 54) rfl rfl rfl ?_
        refine X.ldc 58 (zi306 56) rfl rfl (by decide) ?_
        refine X.irem 59 (zi306 58) rfl rfl (by omega) ?_
        refine X.iload 61 (zi306 59) rfl rfl rfl ?_
        refine X.callv 64 [zi (y5 / 86400), zi (y5 % 86400), zi v525] [zl y3] [(0, zr 4 44), (1, zi (y5 / 86400)), (2, zi (y5 % 86400)), (3, zi v525)] (zi306 61) rfl (by decide) rfl rfl (by omega) rfl rfl (by decide) rfl t307 (Nat.le_of_ble_eq_true rfl) (Nat.le_of_ble_eq_true rfl) rfl ?_
        refine c307_9 (B := B)  (y5 / 86400) (y5 % 86400) v525 (by omega) (hJ.up (by omega)) (by omega) (by omega) (by omega) (by omega) (fun v532 hv532 hFv532 => ?_)
        show X (EE s) d 306 64 [(0, zr 4 44), (1, zi y1), (2, zi y2), (3, zl y3), (5, zi y5), (6, zi (y5 / 86400)), (7, zi v525)] [zl v532, zl y3] m _
        refine X.laddW 65 (zi306 64) rfl rfl (fun z533 ez533 hz533 => ?_)
        refine X.lstore_n 66 [(0, zr 4 44), (1, zi y1), (2, zi y2), (3, zl z533), (5, zi y5), (6, zi (y5 / 86400)), (7, zi v525)] (zi306 65) rfl rfl rfl ?_
        refine X.iload 68 (zi306 66) rfl rfl rfl ?_
        refine X.ldc 70 (zi306 68) rfl rfl (by decide) ?_
        refine X.imul 71 (zi306 70) rfl rfl (by omega) ?_
        refine X.iload 73 (zi306 71) rfl rfl rfl ?_
        refine X.iadd 74 (zi306 73) rfl rfl (by omega) ?_
        refine X.istore 76 [(0, zr 4 44), (1, zi y1), (2, zi y2), (3, zl z533), (5, zi (((y5 / 86400) * 86400) + v525)), (6, zi (y5 / 86400)), (7, zi v525)] (zi306 74) rfl rfl rfl ?_
        refine X.goto 5 (zi306 76) rfl rfl ?_
        refine X.cut [(0, zr 4 44), (1, zi y1), (2, zi y2), (3, zl z533), (5, zi (((y5 / 86400) * 86400) + v525))] (zi306 5) rfl ?_
        exact ih z533 (((y5 / 86400) * 86400) + v525) (by omega) (by omega) (by omega) (Eq.trans hR (Eq.trans (if_neg h523) (Eq.trans (zn_eq hT529.symm) (Eq.trans (zn_eq hFv532.symm) (Eq.trans (zn_eq ez533) rfl)))))
      refine X.icmpge 46 34 (zi306 31) rfl rfl rfl (fun h524 => ?_) (fun h524 => ?_)
      · refine X.ldc 48 (zi306 46) rfl rfl (by decide) ?_
        exact hK528 86400 (by first | trivial | omega) (Eq.trans (if_pos h524) rfl)
      · refine X.iload_n 35 (zi306 34) rfl rfl rfl ?_
        refine X.iload_n 36 (zi306 35) rfl rfl rfl ?_
        refine X.iadd 37 (zi306 36) rfl rfl (by omega) ?_
        refine X.iload 39 (zi306 37) rfl rfl rfl ?_
        refine X.ldc 41 (zi306 39) rfl rfl (by decide) ?_
        refine X.imul 42 (zi306 41) rfl rfl (by omega) ?_
        refine X.isub 43 (zi306 42) rfl rfl (by omega) ?_
        refine X.goto 48 (zi306 43) rfl rfl ?_
        exact hK528 ((y1 + y2) - ((y5 / 86400) * 86400)) (by first | trivial | omega) (Eq.trans (if_neg h524) rfl)
-- WorkMeterModel.costFrom
theorem c306_3 {s : Nat × (Nat → Int32)} {S : zS} {m0 m : zM} {B : Int} {d : Nat} {Q : Option zV → zM → Prop} (a1 a2 : Int) (hd : 16 ≤ d) (hJ : J S m0 B m) (hB : B + 0 ≤ 1000000000) (ha1 : 0 ≤ a1 ∧ a1 ≤ 2000085500) (ha2 : 1 ≤ a2 ∧ a2 ≤ 100000) (hQ : ∀ (v : Int), (True) → f306_1 a1 a2 m = v → Q (some (zl v)) m) : X (EE s) d 306 0 [(0, zr 4 44), (1, zi a1), (2, zi a2)] [] m Q := by
  refine X.lconst (y := 0) 1 (zi306 0) rfl rfl rfl ?_
  refine X.lstore_n 2 [(0, zr 4 44), (1, zi a1), (2, zi a2), (3, zl 0)] (zi306 1) rfl rfl rfl ?_
  refine X.iload_n 3 (zi306 2) rfl rfl rfl ?_
  refine X.istore 5 [(0, zr 4 44), (1, zi a1), (2, zi a2), (3, zl 0), (5, zi a1)] (zi306 3) rfl rfl rfl ?_
  have hz100001 := zfu_eq 100001
  refine l306_5_3 (s := s) (m := m) (B := B) (d := d) (R0 := (f306_1 a1 a2 m))  a1 a2  (by omega) (hJ.up (by omega)) (by omega) (by omega) (by omega) (fun y501 hby501 hR505 => ?_) (zfu 100001) 0 a1 (by omega) (by omega) (by omega) rfl
  refine X.lload_n 80 (zi306 79) rfl rfl rfl ?_
  refine X.retl (zi306 80) rfl t306 ?_
  exact hQ y501 (by first | trivial | omega) (Eq.trans hR505 rfl) 
noncomputable def fl308_57_1_b (self : Int → Int → Int) (k106 : Int → Int) (y1 y2 : Int) (m : zM) (y3 y4 : Int) : Int :=
  if 96 ≤ y4 then
  (k106 y3)
  else
  (zn (f306_1 ((m 4 45 0) + (900 * y4)) y1 m) fun v535 =>
  zn (f306_1 y3 y1 m) fun v538 =>
  zn (if v535 < v538 then
  (((m 4 45 0) + (900 * y4)))
  else
  (y3)) fun v541 =>
  self v541 (y4 + 1))
noncomputable def fl308_57_1 (k106 : Int → Int) (y1 y2 : Int) (m : zM) : Nat → Int → Int → Int
  | 0 => fun y3 y4 => 0
  | n + 1 => fl308_57_1_b (fl308_57_1 k106 y1 y2 m n) k106 y1 y2 m
theorem l308_57_1 {s : Nat × (Nat → Int32)} {S : zS} {m0 : zM} {m : zM} {B : Int} {d : Nat} {Q : Option zV → zM → Prop} {R0 : Int} {k106 : Int → Int} (y1 y2 : Int) (hd : 17 ≤ d) (hJ : J S m0 B m) (hB9 : B ≤ 1000000000) (hy1 : 1 ≤ y1 ∧ y1 ≤ 100000) (hy2 : 0 ≤ y2 ∧ y2 ≤ 1)
    (K106 : ∀ (x3 : Int) , (0 ≤ x3 ∧ x3 ≤ 2000085500) → R0 = k106 x3 → X (EE s) d 308 106 [(0, zr 4 44), (1, zi y1), (2, zi y2), (3, zi x3)] [] m Q) :
    ∀ (n : Nat) (y3 y4 : Int) , (0 ≤ y3 ∧ y3 ≤ 2000085500) → (1 ≤ y4 ∧ y4 ≤ 96) → 96 - y4 < (n : Int) → R0 = fl308_57_1 k106 y1 y2 m n y3 y4 → X (EE s) d 308 57 [(0, zr 4 44), (1, zi y1), (2, zi y2), (3, zi y3), (4, zi y4)] [] m Q := by
  intro n
  induction n with
  | zero =>
    intro y3 y4 hy3 hy4 hn hR
    exfalso
    omega
  | succ n ih =>
    intro y3 y4 hy3 hy4 hn hR
    replace hR : R0 = fl308_57_1_b (fl308_57_1 k106 y1 y2 m n) k106 y1 y2 m y3 y4 := hR
    refine X.iload 59 (zi308 57) rfl rfl rfl ?_
    refine X.bipush 61 (zi308 59) rfl rfl (by decide) ?_
    refine X.icmpge 106 64 (zi308 61) rfl rfl rfl (fun h531 => ?_) (fun h531 => ?_)
    · refine X.cut [(0, zr 4 44), (1, zi y1), (2, zi y2), (3, zi y3)] (zi308 106) rfl ?_
      exact K106 y3 (by first | trivial | omega) (Eq.trans hR (Eq.trans (if_pos h531) rfl))
    · refine X.aload_n 65 (zi308 64) rfl rfl rfl ?_
      refine X.getF 68 (zi308 65) rfl rfl (by decide) rfl rfl ?_
      refine X.iconst 69 (zi308 68) rfl rfl (by decide) ?_
      refine X.lald 70 (zi308 69) rfl rfl (by decide) rfl (by omega) ?_
      have h532 := r45_0 hJ 4
      refine X.l2i 71 (zi308 70) rfl rfl (by omega) ?_
      refine X.sipush 74 (zi308 71) rfl rfl (by decide) ?_
      refine X.iload 76 (zi308 74) rfl rfl rfl ?_
      refine X.imul 77 (zi308 76) rfl rfl (by omega) ?_
      refine X.iadd 78 (zi308 77) rfl rfl (by omega) ?_
      refine X.istore 80 [(0, zr 4 44), (1, zi y1), (2, zi y2), (3, zi y3), (4, zi y4), (5, zi ((m 4 45 0) + (900 * y4)))] (zi308 78) rfl rfl rfl ?_
      refine X.aload_n 81 (zi308 80) rfl rfl rfl ?_
      refine X.iload 83 (zi308 81) rfl rfl rfl ?_
      refine X.iload_n 84 (zi308 83) rfl rfl rfl ?_
      refine X.callv 87 [zi ((m 4 45 0) + (900 * y4)), zi y1] [] [(0, zr 4 44), (1, zi ((m 4 45 0) + (900 * y4))), (2, zi y1)] (zi308 84) rfl (by decide) rfl rfl (by omega) rfl rfl (by decide) rfl t306 (Nat.le_of_ble_eq_true rfl) (Nat.le_of_ble_eq_true rfl) rfl ?_
      refine c306_2 (B := B)  ((m 4 45 0) + (900 * y4)) y1 (by omega) (hJ.up (by omega)) (by omega) (by omega) (by omega) (fun v535 hv535 hFv535 => ?_)
      show X (EE s) d 308 87 [(0, zr 4 44), (1, zi y1), (2, zi y2), (3, zi y3), (4, zi y4), (5, zi ((m 4 45 0) + (900 * y4)))] [zl v535] m _
      refine X.aload_n 88 (zi308 87) rfl rfl rfl ?_
      refine X.iload_n 89 (zi308 88) rfl rfl rfl ?_
      refine X.iload_n 90 (zi308 89) rfl rfl rfl ?_
      refine X.callv 93 [zi y3, zi y1] [zl v535] [(0, zr 4 44), (1, zi y3), (2, zi y1)] (zi308 90) rfl (by decide) rfl rfl (by omega) rfl rfl (by decide) rfl t306 (Nat.le_of_ble_eq_true rfl) (Nat.le_of_ble_eq_true rfl) rfl ?_
      refine c306_3 (B := B)  y3 y1 (by omega) (hJ.up (by omega)) (by omega) (by omega) (by omega) (fun v538 hv538 hFv538 => ?_)
      show X (EE s) d 308 93 [(0, zr 4 44), (1, zi y1), (2, zi y2), (3, zi y3), (4, zi y4), (5, zi ((m 4 45 0) + (900 * y4)))] [zl v538, zl v535] m _
      refine X.lcmp 94 (zi308 93) rfl rfl (fun z539 hz539 => ?_)
      have hK544 : ∀ (v : Int) , (0 ≤ v ∧ v ≤ 2000085500) → (if v535 < v538 then
          (((m 4 45 0) + (900 * y4)))
          else
          (y3)) = v → X (EE s) d 308 100 [(0, zr 4 44), (1, zi y1), (2, zi y2), (3, zi v), (4, zi y4)] [] m Q := by
        intro v541 hv541 hT545
        refine X.iinc 103 [(0, zr 4 44), (1, zi y1), (2, zi y2), (3, zi v541), (4, zi (y4 + 1))] (zi308 100) rfl rfl rfl (by omega) rfl ?_
        refine X.goto 57 (zi308 103) rfl rfl ?_
        exact ih v541 (y4 + 1) (by omega) (by omega) (by omega) (Eq.trans hR (Eq.trans (if_neg h531) (Eq.trans (zn_eq hFv535.symm) (Eq.trans (zn_eq hFv538.symm) (Eq.trans (zn_eq hT545.symm) rfl)))))
      refine X.ifge 100 97 (zi308 94) rfl rfl rfl (fun h540 => ?_) (fun h540 => ?_)
      · have h540c : ¬ v535 < v538 := by omega
        clear h540 hz539
        refine X.cut [(0, zr 4 44), (1, zi y1), (2, zi y2), (3, zi y3), (4, zi y4)] (zi308 100) rfl ?_
        exact hK544 y3 (by first | trivial | omega) (Eq.trans (if_neg h540c) rfl)
      · have h540c : v535 < v538 := by omega
        clear h540 hz539
        refine X.iload 99 (zi308 97) rfl rfl rfl ?_
        refine X.istore_n 100 [(0, zr 4 44), (1, zi y1), (2, zi y2), (3, zi ((m 4 45 0) + (900 * y4))), (4, zi y4), (5, zi ((m 4 45 0) + (900 * y4)))] (zi308 99) rfl rfl rfl ?_
        refine X.cut [(0, zr 4 44), (1, zi y1), (2, zi y2), (3, zi ((m 4 45 0) + (900 * y4))), (4, zi y4)] (zi308 100) rfl ?_
        exact hK544 ((m 4 45 0) + (900 * y4)) (by first | trivial | omega) (Eq.trans (if_pos h540c) rfl)
end
section
-- WorkMeterModel.cheapest
noncomputable def f308_1 (a1 a2 : Int) (m : zM) : Int :=
  if a1 < 1 then
  ((-1))
  else
  (if a1 ≤ 100000 then
  (if (((m 4 45 0) + 85500) + a1) ≤ 2000000000 then
  (if a2 < 0 then
  ((-1))
  else
  (if a2 ≤ 1 then
  (fl308_57_1 (fun y518 =>
  zn (if a2 = 0 then
  (y518)
  else
  (zn (f306_1 y518 a1 m) fun v526 =>
  v526)) fun v527 =>
  v527) a1 a2 m (zfu 96) (m 4 45 0) 1)
  else
  ((-1))))
  else
  ((-1)))
  else
  ((-1)))
-- WorkMeterModel.cheapest
theorem c308_1 {s : Nat × (Nat → Int32)} {S : zS} {m0 m : zM} {B : Int} {d : Nat} {Q : Option zV → zM → Prop} (a1 a2 : Int) (hd : 17 ≤ d) (hJ : J S m0 B m) (hB : B + 0 ≤ 1000000000) (ha1 : (-2147483648) ≤ a1 ∧ a1 ≤ 2147483647) (ha2 : (-2147483648) ≤ a2 ∧ a2 ≤ 2147483647) (hQ : ∀ (v : Int), (True) → f308_1 a1 a2 m = v → Q (some (zl v)) m) : X (EE s) d 308 0 [(0, zr 4 44), (1, zi a1), (2, zi a2)] [] m Q := by
  refine X.iload_n 1 (zi308 0) rfl rfl rfl ?_
  refine X.i2l 2 (zi308 1) rfl rfl ?_
  refine X.lconst (y := 1) 3 (zi308 2) rfl rfl rfl ?_
  refine X.ldc2 6 (zi308 3) rfl rfl (by decide) ?_
  refine X.calls 9 [zl a1, zl 1, zl 100000] [] [(0, zl a1), (2, zl 1), (4, zl 100000)] (zi308 6) (by decide) rfl rfl (by omega) rfl rfl t204 (Nat.le_of_ble_eq_true rfl) (Nat.le_of_ble_eq_true rfl) rfl ?_
  refine X.lload_n 1 (zi204 0) rfl rfl rfl ?_
  refine X.lload_n 2 (zi204 1) rfl rfl rfl ?_
  refine X.lcmp 3 (zi204 2) rfl rfl (fun z501 hz501 => ?_)
  refine X.iflt 17 6 (zi204 3) rfl rfl rfl (fun h502 => ?_) (fun h502 => ?_)
  · have h502c : a1 < 1 := by omega
    clear h502 hz501
    refine X.cut [] (zi204 17) rfl ?_
    refine X.iconst 18 (zi204 17) rfl rfl (by decide) ?_
    refine X.retz (zi204 18) rfl t204 (by omega) ?_
    show X (EE s) d 308 9 [(0, zr 4 44), (1, zi a1), (2, zi a2)] [zi 0] m _
    refine X.ifeq 42 12 (zi308 9) rfl rfl rfl (fun h503 => ?_) (fun h503 => (by exfalso; omega))
    refine X.cut [] (zi308 42) rfl ?_
    refine X.ldc2 45 (zi308 42) rfl rfl (by decide) ?_
    refine X.retl (zi308 45) rfl t308 ?_
    exact hQ (-1) (by first | trivial | omega) (Eq.trans (if_pos h502c) rfl) 
  · have h502c : ¬ a1 < 1 := by omega
    clear h502 hz501
    refine X.lload_n 7 (zi204 6) rfl rfl rfl ?_
    refine X.lload 9 (zi204 7) rfl rfl rfl ?_
    refine X.lcmp 10 (zi204 9) rfl rfl (fun z504 hz504 => ?_)
    refine X.ifgt 17 13 (zi204 10) rfl rfl rfl (fun h505 => ?_) (fun h505 => ?_)
    · have h505c : ¬ a1 ≤ 100000 := by omega
      clear h505 hz504
      refine X.cut [] (zi204 17) rfl ?_
      refine X.iconst 18 (zi204 17) rfl rfl (by decide) ?_
      refine X.retz (zi204 18) rfl t204 (by omega) ?_
      show X (EE s) d 308 9 [(0, zr 4 44), (1, zi a1), (2, zi a2)] [zi 0] m _
      refine X.ifeq 42 12 (zi308 9) rfl rfl rfl (fun h506 => ?_) (fun h506 => (by exfalso; omega))
      refine X.cut [] (zi308 42) rfl ?_
      refine X.ldc2 45 (zi308 42) rfl rfl (by decide) ?_
      refine X.retl (zi308 45) rfl t308 ?_
      exact hQ (-1) (by first | trivial | omega) (Eq.trans (if_neg h502c) (Eq.trans (if_neg h505c) rfl)) 
    · have h505c : a1 ≤ 100000 := by omega
      clear h505 hz504
      refine X.iconst 14 (zi204 13) rfl rfl (by decide) ?_
      refine X.goto 18 (zi204 14) rfl rfl ?_
      refine X.cut [] (zi204 18) rfl ?_
      refine X.retz (zi204 18) rfl t204 (by omega) ?_
      show X (EE s) d 308 9 [(0, zr 4 44), (1, zi a1), (2, zi a2)] [zi 1] m _
      refine X.ifeq 42 12 (zi308 9) rfl rfl rfl (fun h507 => (by exfalso; omega)) (fun h507 => ?_)
      refine X.aload_n 13 (zi308 12) rfl rfl rfl ?_
      refine X.getF 16 (zi308 13) rfl rfl (by decide) rfl rfl ?_
      refine X.iconst 17 (zi308 16) rfl rfl (by decide) ?_
      refine X.lald 18 (zi308 17) rfl rfl (by decide) rfl (by omega) ?_
      have h508 := r45_0 hJ 4
      refine X.ldc2 21 (zi308 18) rfl rfl (by decide) ?_
      refine X.ladd 22 (zi308 21) rfl rfl (by omega) ?_
      refine X.iload_n 23 (zi308 22) rfl rfl rfl ?_
      refine X.i2l 24 (zi308 23) rfl rfl ?_
      refine X.ladd 25 (zi308 24) rfl rfl (by omega) ?_
      refine X.ldc2 28 (zi308 25) rfl rfl (by decide) ?_
      refine X.lcmp 29 (zi308 28) rfl rfl (fun z509 hz509 => ?_)
      refine X.ifgt 42 32 (zi308 29) rfl rfl rfl (fun h510 => ?_) (fun h510 => ?_)
      · have h510c : ¬ (((m 4 45 0) + 85500) + a1) ≤ 2000000000 := by omega
        clear h510 hz509
        refine X.cut [] (zi308 42) rfl ?_
        refine X.ldc2 45 (zi308 42) rfl rfl (by decide) ?_
        refine X.retl (zi308 45) rfl t308 ?_
        exact hQ (-1) (by first | trivial | omega) (Eq.trans (if_neg h502c) (Eq.trans (if_pos h505c) (Eq.trans (if_neg h510c) rfl))) 
      · have h510c : (((m 4 45 0) + 85500) + a1) ≤ 2000000000 := by omega
        clear h510 hz509
        refine X.iload_n 33 (zi308 32) rfl rfl rfl ?_
        refine X.i2l 34 (zi308 33) rfl rfl ?_
        refine X.lconst (y := 0) 35 (zi308 34) rfl rfl rfl ?_
        refine X.lconst (y := 1) 36 (zi308 35) rfl rfl rfl ?_
        refine X.calls 39 [zl a2, zl 0, zl 1] [] [(0, zl a2), (2, zl 0), (4, zl 1)] (zi308 36) (by decide) rfl rfl (by omega) rfl rfl t204 (Nat.le_of_ble_eq_true rfl) (Nat.le_of_ble_eq_true rfl) rfl ?_
        refine X.lload_n 1 (zi204 0) rfl rfl rfl ?_
        refine X.lload_n 2 (zi204 1) rfl rfl rfl ?_
        refine X.lcmp 3 (zi204 2) rfl rfl (fun z511 hz511 => ?_)
        refine X.iflt 17 6 (zi204 3) rfl rfl rfl (fun h512 => ?_) (fun h512 => ?_)
        · have h512c : a2 < 0 := by omega
          clear h512 hz511
          refine X.cut [] (zi204 17) rfl ?_
          refine X.iconst 18 (zi204 17) rfl rfl (by decide) ?_
          refine X.retz (zi204 18) rfl t204 (by omega) ?_
          show X (EE s) d 308 39 [(0, zr 4 44), (1, zi a1), (2, zi a2)] [zi 0] m _
          refine X.ifne 46 42 (zi308 39) rfl rfl rfl (fun h513 => (by exfalso; omega)) (fun h513 => ?_)
          refine X.cut [] (zi308 42) rfl ?_
          refine X.ldc2 45 (zi308 42) rfl rfl (by decide) ?_
          refine X.retl (zi308 45) rfl t308 ?_
          exact hQ (-1) (by first | trivial | omega) (Eq.trans (if_neg h502c) (Eq.trans (if_pos h505c) (Eq.trans (if_pos h510c) (Eq.trans (if_pos h512c) rfl)))) 
        · have h512c : ¬ a2 < 0 := by omega
          clear h512 hz511
          refine X.lload_n 7 (zi204 6) rfl rfl rfl ?_
          refine X.lload 9 (zi204 7) rfl rfl rfl ?_
          refine X.lcmp 10 (zi204 9) rfl rfl (fun z514 hz514 => ?_)
          refine X.ifgt 17 13 (zi204 10) rfl rfl rfl (fun h515 => ?_) (fun h515 => ?_)
          · have h515c : ¬ a2 ≤ 1 := by omega
            clear h515 hz514
            refine X.cut [] (zi204 17) rfl ?_
            refine X.iconst 18 (zi204 17) rfl rfl (by decide) ?_
            refine X.retz (zi204 18) rfl t204 (by omega) ?_
            show X (EE s) d 308 39 [(0, zr 4 44), (1, zi a1), (2, zi a2)] [zi 0] m _
            refine X.ifne 46 42 (zi308 39) rfl rfl rfl (fun h516 => (by exfalso; omega)) (fun h516 => ?_)
            refine X.cut [] (zi308 42) rfl ?_
            refine X.ldc2 45 (zi308 42) rfl rfl (by decide) ?_
            refine X.retl (zi308 45) rfl t308 ?_
            exact hQ (-1) (by first | trivial | omega) (Eq.trans (if_neg h502c) (Eq.trans (if_pos h505c) (Eq.trans (if_pos h510c) (Eq.trans (if_neg h512c) (Eq.trans (if_neg h515c) rfl))))) 
          · have h515c : a2 ≤ 1 := by omega
            clear h515 hz514
            refine X.iconst 14 (zi204 13) rfl rfl (by decide) ?_
            refine X.goto 18 (zi204 14) rfl rfl ?_
            refine X.cut [] (zi204 18) rfl ?_
            refine X.retz (zi204 18) rfl t204 (by omega) ?_
            show X (EE s) d 308 39 [(0, zr 4 44), (1, zi a1), (2, zi a2)] [zi 1] m _
            refine X.ifne 46 42 (zi308 39) rfl rfl rfl (fun h517 => ?_) (fun h517 => (by exfalso; omega))
            refine X.aload_n 47 (zi308 46) rfl rfl rfl ?_
            refine X.getF 50 (zi308 47) rfl rfl (by decide) rfl rfl ?_
            refine X.iconst 51 (zi308 50) rfl rfl (by decide) ?_
            refine X.lald 52 (zi308 51) rfl rfl (by decide) rfl (by omega) ?_
            refine X.l2i 53 (zi308 52) rfl rfl (by omega) ?_
            refine X.istore_n 54 [(0, zr 4 44), (1, zi a1), (2, zi a2), (3, zi (m 4 45 0))] (zi308 53) rfl rfl rfl ?_
            refine X.iconst 55 (zi308 54) rfl rfl (by decide) ?_
            refine X.istore 57 [(0, zr 4 44), (1, zi a1), (2, zi a2), (3, zi (m 4 45 0)), (4, zi 1)] (zi308 55) rfl rfl rfl ?_
            have hz96 := zfu_eq 96
            refine l308_57_1 (s := s) (m := m) (B := B) (d := d) (R0 := (f308_1 a1 a2 m))  a1 a2  (by omega) (hJ.up (by omega)) (by omega) (by omega) (by omega) (fun y518 hby518 hR522 => ?_) (zfu 96) (m 4 45 0) 1 (by omega) (by omega) (by omega) (Eq.trans (if_neg h502c) (Eq.trans (if_pos h505c) (Eq.trans (if_pos h510c) (Eq.trans (if_neg h512c) (Eq.trans (if_pos h515c) rfl)))))
            refine X.iload_n 107 (zi308 106) rfl rfl rfl ?_
            have hK530 : ∀ (v : Int) , (True) → (if a2 = 0 then
                (y518)
                else
                (zn (f306_1 y518 a1 m) fun v526 =>
                v526)) = v → X (EE s) d 308 121 [] [zl v] m Q := by
              intro v527 hv527 hT531
              refine X.retl (zi308 121) rfl t308 ?_
              exact hQ v527 (by first | trivial | omega) (Eq.trans hR522 (Eq.trans (zn_eq hT531.symm) rfl)) 
            refine X.ifne 115 110 (zi308 107) rfl rfl rfl (fun h523 => ?_) (fun h523 => ?_)
            · refine X.cut [(0, zr 4 44), (1, zi a1), (3, zi y518)] (zi308 115) rfl ?_
              refine X.aload_n 116 (zi308 115) rfl rfl rfl ?_
              refine X.iload_n 117 (zi308 116) rfl rfl rfl ?_
              refine X.iload_n 118 (zi308 117) rfl rfl rfl ?_
              refine X.callv 121 [zi y518, zi a1] [] [(0, zr 4 44), (1, zi y518), (2, zi a1)] (zi308 118) rfl (by decide) rfl rfl (by omega) rfl rfl (by decide) rfl t306 (Nat.le_of_ble_eq_true rfl) (Nat.le_of_ble_eq_true rfl) rfl ?_
              refine c306_3 (B := B)  y518 a1 (by omega) (hJ.up (by omega)) (by omega) (by omega) (by omega) (fun v526 hv526 hFv526 => ?_)
              show X (EE s) d 308 121 [(0, zr 4 44), (1, zi a1), (3, zi y518)] [zl v526] m _
              refine X.cut [] (zi308 121) rfl ?_
              exact hK530 v526 (by first | trivial | omega) (Eq.trans (if_neg h523) (Eq.trans (zn_eq hFv526.symm) rfl))
            · refine X.iload_n 111 (zi308 110) rfl rfl rfl ?_
              refine X.i2l 112 (zi308 111) rfl rfl ?_
              refine X.goto 121 (zi308 112) rfl rfl ?_
              refine X.cut [] (zi308 121) rfl ?_
              exact hK530 y518 (by first | trivial | omega) (Eq.trans (if_pos h523) rfl)
noncomputable def fl185_4_1_b (self : Int → Int → zM → Int × zM) (k31 : Int → Int → zM → Int × zM) (k39 : zM → Int × zM) (g0 : Nat) (y1 : Int) (y2 y3 : Int) (m : zM) : Int × zM :=
  if y1 ≤ y3 then
  (k39 m)
  else
  (if y1 ≤ y2 then
  (k39 m)
  else
  (zb (f26_1 g0 (y1 - y2) m) fun v512 m510 =>
  if (m510 g0 8 12) = 0 then
  (self (y2 + v512) (y3 + 1) m510)
  else
  (k31 (y2 + v512) y3 m510)))
noncomputable def fl185_4_1 (k31 : Int → Int → zM → Int × zM) (k39 : zM → Int × zM) (g0 : Nat) (y1 : Int) : Nat → Int → Int → zM → Int × zM
  | 0 => fun y2 y3 m => (0, m)
  | n + 1 => fl185_4_1_b (fl185_4_1 k31 k39 g0 y1 n) k31 k39 g0 y1
theorem l185_4_1 {s : Nat × (Nat → Int32)} {S : zS} {m0 : zM} {d : Nat} {Q : Option zV → zM → Prop} {R0 : Int × zM} {k31 : Int → Int → zM → Int × zM} {k39 : zM → Int × zM} (g0 : Nat) (y1 : Int) (BE : Int) (hE : BE ≤ 1000000000) (hd : 18 ≤ d) (hy1 : 3600 ≤ y1 ∧ y1 ≤ 3600) (hf6 : ¬ S.1 6) (hf7 : ¬ S.1 7) (hf8 : ¬ S.1 8) (hf9 : ¬ S.1 9) (hf10 : ¬ S.1 10) (hf11 : ¬ S.1 11) (hf12 : ¬ S.1 12) (hf13 : ¬ S.1 13) (hgg0 : ¬ S.2.1 g0)
    (K31 : ∀ (x2 x3 : Int) (m' : zM) (B' : Int), J S m0 B' m' → B' ≤ BE → (1 ≤ x2 ∧ x2 ≤ 7199) → (0 ≤ x3 ∧ x3 ≤ 3599) → (x2 ≤ y1) → R0 = k31 x2 x3 m' → X (EE s) d 185 31 [(0, zr g0 8), (1, zi y1), (2, zi x2), (3, zi x3)] [] m' Q)
    (K39 : ∀ (m' : zM) (B' : Int), J S m0 B' m' → B' ≤ BE → R0 = k39 m' → X (EE s) d 185 39 [] [] m' Q) :
    ∀ (n : Nat) (y2 y3 : Int) (m : zM) (B : Int), J S m0 B m → B + 8 * (n : Int) ≤ BE → (0 ≤ y2 ∧ y2 ≤ 3600) → (0 ≤ y3 ∧ y3 ≤ 3600) → (y2 ≤ y1) → 3600 - y3 < (n : Int) → R0 = fl185_4_1 k31 k39 g0 y1 n y2 y3 m → X (EE s) d 185 4 [(0, zr g0 8), (1, zi y1), (2, zi y2), (3, zi y3)] [] m Q := by
  intro n
  induction n with
  | zero =>
    intro y2 y3 m B hJ hB hy2 hy3 hr0 hn hR
    exfalso
    omega
  | succ n ih =>
    intro y2 y3 m B hJ hB hy2 hy3 hr0 hn hR
    replace hR : R0 = fl185_4_1_b (fl185_4_1 k31 k39 g0 y1 n) k31 k39 g0 y1 y2 y3 m := hR
    refine X.iload_n 5 (zi185 4) rfl rfl rfl ?_
    refine X.iload_n 6 (zi185 5) rfl rfl rfl ?_
    refine X.icmpge 39 9 (zi185 6) rfl rfl rfl (fun h508 => ?_) (fun h508 => ?_)
    · refine X.cut [] (zi185 39) rfl ?_
      exact K39  m (B) (hJ.up (by omega)) (by omega)  (Eq.trans hR (Eq.trans (if_pos h508) rfl))
    · refine X.iload_n 10 (zi185 9) rfl rfl rfl ?_
      refine X.iload_n 11 (zi185 10) rfl rfl rfl ?_
      refine X.icmpge 39 14 (zi185 11) rfl rfl rfl (fun h509 => ?_) (fun h509 => ?_)
      · refine X.cut [] (zi185 39) rfl ?_
        exact K39  m (B) (hJ.up (by omega)) (by omega)  (Eq.trans hR (Eq.trans (if_neg h508) (Eq.trans (if_pos h509) rfl)))
      · refine X.iload_n 15 (zi185 14) rfl rfl rfl ?_
        refine X.aload_n 16 (zi185 15) rfl rfl rfl ?_
        refine X.iload_n 17 (zi185 16) rfl rfl rfl ?_
        refine X.iload_n 18 (zi185 17) rfl rfl rfl ?_
        refine X.isub 19 (zi185 18) rfl rfl (by omega) ?_
        refine X.callv 22 [zi (y1 - y2)] [zi y2] [(0, zr g0 8), (1, zi (y1 - y2))] (zi185 19) rfl (by decide) rfl rfl (by omega) rfl rfl (by decide) rfl t26 (Nat.le_of_ble_eq_true rfl) (Nat.le_of_ble_eq_true rfl) rfl ?_
        refine c26_1 (B := B) g0 (y1 - y2) (by omega) (hJ.up (by omega)) (by omega) (by omega) (by omega) hf6 hf7 hf8 hf9 hf10 hf11 hf12 hf13 hgg0 (fun v512 m510 hv512 hFv512 hJ511 hqv512_0 hqv512_1 => ?_)
        show X (EE s) d 185 22 [(0, zr g0 8), (1, zi y1), (2, zi y2), (3, zi y3)] [zi v512, zi y2] m510 _
        refine X.iadd 23 (zi185 22) rfl rfl (by omega) ?_
        refine X.istore_n 24 [(0, zr g0 8), (1, zi y1), (2, zi (y2 + v512)), (3, zi y3)] (zi185 23) rfl rfl rfl ?_
        refine X.aload_n 25 (zi185 24) rfl rfl rfl ?_
        refine X.getZ 28 12 (zi185 25) rfl rfl (by decide) rfl rfl rfl (fun h513 => ?_)
        refine X.ifeq 33 31 (zi185 28) rfl rfl rfl (fun h514 => ?_) (fun h514 => ?_)
        · refine X.iinc 36 [(0, zr g0 8), (1, zi y1), (2, zi (y2 + v512)), (3, zi (y3 + 1))] (zi185 33) rfl rfl rfl (by omega) rfl ?_
          refine X.goto 4 (zi185 36) rfl rfl ?_
          exact ih (y2 + v512) (y3 + 1) m510 (B + 8) (hJ511.up (by omega)) (by omega) (by omega) (by omega) (by omega) (by omega) (Eq.trans hR (Eq.trans (if_neg h508) (Eq.trans (if_neg h509) (Eq.trans (zb_eq hFv512) (Eq.trans (if_pos h514) rfl)))))
        · exact K31 (y2 + v512) y3 m510 (B + 8) (hJ511.up (by omega)) (by omega) (by first | trivial | omega) (by first | trivial | omega) (by omega) (Eq.trans hR (Eq.trans (if_neg h508) (Eq.trans (if_neg h509) (Eq.trans (zb_eq hFv512) (Eq.trans (if_neg h514) rfl)))))
-- WorkMeter$Meter.secondsTillOpen
noncomputable def f185_1 (g0 : Nat) (a1 : Int) (m : zM) : Int × zM :=
  fl185_4_1 (fun y501 y502 m503 =>
  (y501, m503)) (fun m507 =>
  ((-1), m507)) g0 a1 (zfu 3601) 0 0 m
-- WorkMeter$Meter.secondsTillOpen
theorem c185_1 {s : Nat × (Nat → Int32)} {S : zS} {m0 m : zM} {B : Int} {d : Nat} {Q : Option zV → zM → Prop} (g0 : Nat) (a1 : Int) (hd : 18 ≤ d) (hJ : J S m0 B m) (hB : B + 28808 ≤ 1000000000) (ha1 : 3600 ≤ a1 ∧ a1 ≤ 3600) (hf6 : ¬ S.1 6) (hf7 : ¬ S.1 7) (hf8 : ¬ S.1 8) (hf9 : ¬ S.1 9) (hf10 : ¬ S.1 10) (hf11 : ¬ S.1 11) (hf12 : ¬ S.1 12) (hf13 : ¬ S.1 13) (hgg0 : ¬ S.2.1 g0) (hQ : ∀ (v : Int) m', ((-1) ≤ v ∧ v ≤ 7199) → f185_1 g0 a1 m = (v, m') → J S m0 (B + 28808) m' → Q (some (zi v)) m') : X (EE s) d 185 0 [(0, zr g0 8), (1, zi a1)] [] m Q := by
  refine X.iconst 1 (zi185 0) rfl rfl (by decide) ?_
  refine X.istore_n 2 [(0, zr g0 8), (1, zi a1), (2, zi 0)] (zi185 1) rfl rfl rfl ?_
  refine X.iconst 3 (zi185 2) rfl rfl (by decide) ?_
  refine X.istore_n 4 [(0, zr g0 8), (1, zi a1), (2, zi 0), (3, zi 0)] (zi185 3) rfl rfl rfl ?_
  have hz3601 := zfu_eq 3601
  refine l185_4_1 (s := s) (d := d) (R0 := (f185_1 g0 a1 m)) g0 a1  (BE := B + 28808) (by omega) (by omega) (by omega) hf6 hf7 hf8 hf9 hf10 hf11 hf12 hf13 hgg0 (fun y501 y502 m503 B504 hJ505 hBB504 hby501 hby502 hrlm503_0 hR506 => ?_) (fun  m507 B508 hJ509 hBB508 hR510 => ?_) (zfu 3601) 0 0 m (B) (hJ.up (by omega)) (by omega) (by omega) (by omega) (by omega) (by omega) rfl
  · refine X.iload_n 32 (zi185 31) rfl rfl rfl ?_
    refine X.reti (zi185 32) rfl t185 ?_
    exact hQ y501 m503 (by first | trivial | omega) (Eq.trans hR506 rfl) (hJ505.up (by omega)) 
  · refine X.iconst 40 (zi185 39) rfl rfl (by decide) ?_
    refine X.reti (zi185 40) rfl t185 ?_
    exact hQ (-1) m507 (by first | trivial | omega) (Eq.trans hR510 rfl) (hJ509.up (by omega)) 
-- WorkMeter.lasts
noncomputable def f184_1 (m : zM) : Int × zM :=
  if (m 0 8 12) = 0 then
  (if (m 0 8 11) = 0 then
  (((-1), m))
  else
  (zs (f171_1 2 0 m) fun m505 =>
  zb (f185_1 2 3600 m505) fun v510 m508 =>
  (v510, m508)))
  else
  ((0, m))
-- WorkMeter.lasts
theorem c184_1 {s : Nat × (Nat → Int32)} {S : zS} {m0 m : zM} {B : Int} {d : Nat} {Q : Option zV → zM → Prop} (hd : 19 ≤ d) (hJ : J S m0 B m) (hB : B + 28812 ≤ 1000000000) (hf1 : ¬ S.1 1) (hf2 : ¬ S.1 2) (hf3 : ¬ S.1 3) (hf4 : ¬ S.1 4) (hf5 : ¬ S.1 5) (hf6 : ¬ S.1 6) (hf7 : ¬ S.1 7) (hf8 : ¬ S.1 8) (hf9 : ¬ S.1 9) (hf10 : ¬ S.1 10) (hf11 : ¬ S.1 11) (hf12 : ¬ S.1 12) (hf13 : ¬ S.1 13) (hg2 : ¬ S.2.1 2) (hQ : ∀ (v : Int) m', ((-1) ≤ v ∧ v ≤ 7199) → f184_1 m = (v, m') → J S m0 (B + 28812) m' → Q (some (zi v)) m') : X (EE s) d 184 0 [(0, zr 4 40)] [] m Q := by
  refine X.aload_n 1 (zi184 0) rfl rfl rfl ?_
  refine X.getF 4 (zi184 1) rfl rfl (by decide) rfl rfl ?_
  refine X.getZ 7 12 (zi184 4) rfl rfl (by decide) rfl rfl rfl (fun h501 => ?_)
  refine X.ifeq 12 10 (zi184 7) rfl rfl rfl (fun h502 => ?_) (fun h502 => ?_)
  · refine X.aload_n 13 (zi184 12) rfl rfl rfl ?_
    refine X.getF 16 (zi184 13) rfl rfl (by decide) rfl rfl ?_
    refine X.getZ 19 11 (zi184 16) rfl rfl (by decide) rfl rfl rfl (fun h503 => ?_)
    refine X.ifne 24 22 (zi184 19) rfl rfl rfl (fun h504 => ?_) (fun h504 => ?_)
    · refine X.aload_n 25 (zi184 24) rfl rfl rfl ?_
      refine X.getF 28 (zi184 25) rfl rfl (by decide) rfl rfl ?_
      refine X.aload_n 29 (zi184 28) rfl rfl rfl ?_
      refine X.getF 32 (zi184 29) rfl rfl (by decide) rfl rfl ?_
      refine X.callv 35 [zr 0 8] [] [(0, zr 2 8), (1, zr 0 8)] (zi184 32) rfl (by decide) rfl rfl (by omega) rfl rfl (by decide) rfl t171 (Nat.le_of_ble_eq_true rfl) (Nat.le_of_ble_eq_true rfl) rfl ?_
      refine c171_1 (B := B) 2 0  (by omega) (hJ.up (by omega)) (by omega)  hf1 hf2 hf3 hf4 hf5 hf6 hf7 hf8 hf9 hf10 hf11 hf12 hf13 hg2 (fun m505 hFv507 hJ506 => ?_)
      show X (EE s) d 184 35 [(0, zr 4 40)] [] m505 _
      refine X.aload_n 36 (zi184 35) rfl rfl rfl ?_
      refine X.getF 39 (zi184 36) rfl rfl (by decide) rfl rfl ?_
      refine X.sipush 42 (zi184 39) rfl rfl (by decide) ?_
      refine X.callv 45 [zi 3600] [] [(0, zr 2 8), (1, zi 3600)] (zi184 42) rfl (by decide) rfl rfl (by omega) rfl rfl (by decide) rfl t185 (Nat.le_of_ble_eq_true rfl) (Nat.le_of_ble_eq_true rfl) rfl ?_
      refine c185_1 (B := B + 4) 2 3600 (by omega) (hJ506.up (by omega)) (by omega) (by omega) hf6 hf7 hf8 hf9 hf10 hf11 hf12 hf13 hg2 (fun v510 m508 hv510 hFv510 hJ509 => ?_)
      show X (EE s) d 184 45 [(0, zr 4 40)] [zi v510] m508 _
      refine X.reti (zi184 45) rfl t184 ?_
      exact hQ v510 m508 (by first | trivial | omega) (Eq.trans (if_pos h502) (Eq.trans (if_neg h504) (Eq.trans (zs_eq hFv507.symm) (Eq.trans (zb_eq hFv510) rfl)))) (hJ509.up (by omega)) 
    · refine X.iconst 23 (zi184 22) rfl rfl (by decide) ?_
      refine X.reti (zi184 23) rfl t184 ?_
      exact hQ (-1) m (by first | trivial | omega) (Eq.trans (if_pos h502) (Eq.trans (if_pos h504) rfl)) (hJ.up (by omega)) 
  · refine X.iconst 11 (zi184 10) rfl rfl (by decide) ?_
    refine X.reti (zi184 11) rfl t184 ?_
    exact hQ 0 m (by first | trivial | omega) (Eq.trans (if_neg h502) rfl) (hJ.up (by omega)) 
noncomputable def fl309_13_1_b (self : Int → zM → Int × zM) (k42 : Int → zM → Int × zM) (y1 : Int) (m : zM) : Int × zM :=
  if 3600 ≤ y1 then
  (k42 y1 m)
  else
  (if (m 4 45 12) = 0 then
  (zs (f208_1 m) fun m512 =>
  self (y1 + 1) m512)
  else
  (k42 y1 m))
noncomputable def fl309_13_1 (k42 : Int → zM → Int × zM) : Nat → Int → zM → Int × zM
  | 0 => fun y1 m => (0, m)
  | n + 1 => fl309_13_1_b (fl309_13_1 k42 n) k42
theorem l309_13_1 {s : Nat × (Nat → Int32)} {S : zS} {m0 : zM} {d : Nat} {Q : Option zV → zM → Prop} {R0 : Int × zM} {k42 : Int → zM → Int × zM} (BE : Int) (hE : BE ≤ 1000000000) (hd : 20 ≤ d) (hf26 : ¬ S.1 26) (hf27 : ¬ S.1 27) (hf28 : ¬ S.1 28) (hf29 : ¬ S.1 29) (hf30 : ¬ S.1 30) (hf31 : ¬ S.1 31) (hf32 : ¬ S.1 32) (hf33 : ¬ S.1 33) (hg4 : ¬ S.2.1 4)
    (K42 : ∀ (x1 : Int) (m' : zM) (B' : Int), J S m0 B' m' → B' ≤ BE → (0 ≤ x1 ∧ x1 ≤ 3600) → R0 = k42 x1 m' → X (EE s) d 309 42 [(0, zr 4 44), (1, zi x1)] [] m' Q) :
    ∀ (n : Nat) (y1 : Int) (m : zM) (B : Int), J S m0 B m → B + 11 * (n : Int) ≤ BE → (0 ≤ y1 ∧ y1 ≤ 3600) → 3600 - y1 < (n : Int) → R0 = fl309_13_1 k42 n y1 m → X (EE s) d 309 13 [(0, zr 4 44), (1, zi y1)] [] m Q := by
  intro n
  induction n with
  | zero =>
    intro y1 m B hJ hB hy1 hn hR
    exfalso
    omega
  | succ n ih =>
    intro y1 m B hJ hB hy1 hn hR
    replace hR : R0 = fl309_13_1_b (fl309_13_1 k42 n) k42 y1 m := hR
    refine X.iload_n 14 (zi309 13) rfl rfl rfl ?_
    refine X.sipush 17 (zi309 14) rfl rfl (by decide) ?_
    refine X.icmpge 42 20 (zi309 17) rfl rfl rfl (fun h508 => ?_) (fun h508 => ?_)
    · exact K42 y1 m (B) (hJ.up (by omega)) (by omega) (by first | trivial | omega) (Eq.trans hR (Eq.trans (if_pos h508) rfl))
    · refine X.aload_n 21 (zi309 20) rfl rfl rfl ?_
      refine X.getF 24 (zi309 21) rfl rfl (by decide) rfl rfl ?_
      refine X.bipush 26 (zi309 24) rfl rfl (by decide) ?_
      refine X.lald 27 (zi309 26) rfl rfl (by decide) rfl (by omega) ?_
      have h509 := r45_12 hJ 4
      refine X.lconst (y := 0) 28 (zi309 27) rfl rfl rfl ?_
      refine X.lcmp 29 (zi309 28) rfl rfl (fun z510 hz510 => ?_)
      refine X.ifne 42 32 (zi309 29) rfl rfl rfl (fun h511 => ?_) (fun h511 => ?_)
      · have h511c : ¬ (m 4 45 12) = 0 := by omega
        clear h511 hz510
        exact K42 y1 m (B) (hJ.up (by omega)) (by omega) (by first | trivial | omega) (Eq.trans hR (Eq.trans (if_neg h508) (Eq.trans (if_neg h511c) rfl)))
      · have h511c : (m 4 45 12) = 0 := by omega
        clear h511 hz510
        refine X.aload_n 33 (zi309 32) rfl rfl rfl ?_
        refine X.callv 36 [] [] [(0, zr 4 44)] (zi309 33) rfl (by decide) rfl rfl (by omega) rfl rfl (by decide) rfl t208 (Nat.le_of_ble_eq_true rfl) (Nat.le_of_ble_eq_true rfl) rfl ?_
        refine c208_1 (B := B)   (by omega) (hJ.up (by omega)) (by omega)  hf26 hf27 hf28 hf29 hf30 hf31 hf32 hf33 hg4 (fun m512 hFv514 hJ513 => ?_)
        show X (EE s) d 309 36 [(0, zr 4 44), (1, zi y1)] [] m512 _
        refine X.iinc 39 [(0, zr 4 44), (1, zi (y1 + 1))] (zi309 36) rfl rfl rfl (by omega) rfl ?_
        refine X.goto 13 (zi309 39) rfl rfl ?_
        exact ih (y1 + 1) m512 (B + 11) (hJ513.up (by omega)) (by omega) (by omega) (by omega) (Eq.trans hR (Eq.trans (if_neg h508) (Eq.trans (if_pos h511c) (Eq.trans (zs_eq hFv514.symm) rfl))))
-- WorkMeterModel.lasts
noncomputable def f309_1 (m : zM) : Int × zM :=
  zs (z_cpy m 4 46 4 45 0 0 1619) fun m501 =>
  fl309_13_1 (fun y504 m505 =>
  zn (if (m505 4 45 12) = 1 then
  (1)
  else
  (0)) fun v512 =>
  zs (z_cpy m505 4 45 4 46 0 0 1619) fun m517 =>
  zn (if v512 = 0 then
  ((-1))
  else
  (y504)) fun v521 =>
  (v521, m517)) (zfu 3601) 0 m501
-- WorkMeterModel.lasts
theorem c309_1 {s : Nat × (Nat → Int32)} {S : zS} {m0 m : zM} {B : Int} {d : Nat} {Q : Option zV → zM → Prop} (hd : 20 ≤ d) (hJ : J S m0 B m) (hB : B + 39611 ≤ 1000000000) (hf21 : ¬ S.1 21) (hf22 : ¬ S.1 22) (hf23 : ¬ S.1 23) (hf24 : ¬ S.1 24) (hf25 : ¬ S.1 25) (hf26 : ¬ S.1 26) (hf27 : ¬ S.1 27) (hf28 : ¬ S.1 28) (hf29 : ¬ S.1 29) (hf30 : ¬ S.1 30) (hf31 : ¬ S.1 31) (hf32 : ¬ S.1 32) (hf33 : ¬ S.1 33) (hf38 : ¬ S.1 38) (hg4 : ¬ S.2.1 4) (hQ : ∀ (v : Int) m', ((-1) ≤ v ∧ v ≤ 3600) → f309_1 m = (v, m') → J S m0 (B + 39611) m' → Q (some (zi v)) m') : X (EE s) d 309 0 [(0, zr 4 44)] [] m Q := by
  refine X.aload_n 1 (zi309 0) rfl rfl rfl ?_
  refine X.getF 4 (zi309 1) rfl rfl (by decide) rfl rfl ?_
  refine X.aload_n 5 (zi309 4) rfl rfl rfl ?_
  refine X.getF 8 (zi309 5) rfl rfl (by decide) rfl rfl ?_
  refine X.calls 11 [zr 4 45, zr 4 46] [] [(0, zr 4 45), (1, zr 4 46)] (zi309 8) (by decide) rfl rfl (by omega) rfl rfl t261 (Nat.le_of_ble_eq_true rfl) (Nat.le_of_ble_eq_true rfl) rfl ?_
  refine c_cq_45_46 (S := S) (B := B) (by omega) (hJ)  hf38 hg4 (fun m501 hFv503 hJ502 => ?_)
  have wcm501 : m501 4 44 3 = m 4 44 3 := by rw [hFv503]; exact z_cpy_o rfl
  show X (EE s) d 309 11 [(0, zr 4 44)] [] m501 _
  refine X.iconst 12 (zi309 11) rfl rfl (by decide) ?_
  refine X.istore_n 13 [(0, zr 4 44), (1, zi 0)] (zi309 12) rfl rfl rfl ?_
  have hz3601 := zfu_eq 3601
  refine l309_13_1 (s := s) (d := d) (R0 := (f309_1 m)) (S := (S.1, S.2.1, True, S.2.2.2))    (BE := B + 39611) (by omega) (by omega) hf26 hf27 hf28 hf29 hf30 hf31 hf32 hf33 hg4 (fun y504 m505 B506 hJ507 hBB506 hby504 hR508 => ?_) (zfu 3601) 0 m501 (B) (hJ502.up (by omega)) (by omega) (by omega) (by omega) (Eq.trans (zs_eq hFv503) rfl)
  refine X.aload_n 43 (zi309 42) rfl rfl rfl ?_
  refine X.getF 46 (zi309 43) rfl rfl (by decide) rfl rfl ?_
  refine X.bipush 48 (zi309 46) rfl rfl (by decide) ?_
  refine X.lald 49 (zi309 48) rfl rfl (by decide) rfl (by omega) ?_
  have h509 := r45_12 hJ507 4
  refine X.lconst (y := 1) 50 (zi309 49) rfl rfl rfl ?_
  refine X.lcmp 51 (zi309 50) rfl rfl (fun z510 hz510 => ?_)
  have hK515 : ∀ (v : Int) , (0 ≤ v ∧ v ≤ 1) → (if (m505 4 45 12) = 1 then
      (1)
      else
      (0)) = v → X (EE s) d 309 59 [(0, zr 4 44), (1, zi y504)] [zi v] m505 Q := by
    intro v512 hv512 hT516
    refine X.istore_n 60 [(0, zr 4 44), (1, zi y504), (2, zi v512)] (zi309 59) rfl rfl rfl ?_
    refine X.aload_n 61 (zi309 60) rfl rfl rfl ?_
    refine X.getF 64 (zi309 61) rfl rfl (by decide) rfl rfl ?_
    refine X.aload_n 65 (zi309 64) rfl rfl rfl ?_
    refine X.getF 68 (zi309 65) rfl rfl (by decide) rfl rfl ?_
    refine X.calls 71 [zr 4 46, zr 4 45] [] [(0, zr 4 46), (1, zr 4 45)] (zi309 68) (by decide) rfl rfl (by omega) rfl rfl t261 (Nat.le_of_ble_eq_true rfl) (Nat.le_of_ble_eq_true rfl) rfl ?_
    refine c_cq_46_45 (S := (S.1, S.2.1, True, S.2.2.2)) (B := B506) (by omega) (hJ507) trivial hf21 hf22 hf23 hf24 hf25 hf26 hf27 hf28 hf29 hf30 hf31 hf32 hf33 hg4 (fun m517 hFv519 hJ518 => ?_)
    have wcm517 : m517 4 44 3 = m505 4 44 3 := by rw [hFv519]; exact z_cpy_o rfl
    show X (EE s) d 309 71 [(0, zr 4 44), (1, zi y504), (2, zi v512)] [] m517 _
    refine X.iload_n 72 (zi309 71) rfl rfl rfl ?_
    have hK524 : ∀ (v : Int) , ((-1) ≤ v ∧ v ≤ 3600) → (if v512 = 0 then
        ((-1))
        else
        (y504)) = v → X (EE s) d 309 80 [] [zi v] m517 Q := by
      intro v521 hv521 hT525
      refine X.reti (zi309 80) rfl t309 ?_
      exact hQ v521 m517 (by first | trivial | omega) (Eq.trans hR508 (Eq.trans (zn_eq hT516.symm) (Eq.trans (zs_eq hFv519) (Eq.trans (zn_eq hT525.symm) rfl)))) ((J.wk (p' := S.2.2.1) (q' := S.2.2.2) hJ518 (fun h => by first | trivial | exact h) (fun h => by first | trivial | exact h)).up (by omega)) 
    refine X.ifeq 79 75 (zi309 72) rfl rfl rfl (fun h520 => ?_) (fun h520 => ?_)
    · refine X.cut [] (zi309 79) rfl ?_
      refine X.iconst 80 (zi309 79) rfl rfl (by decide) ?_
      exact hK524 (-1) (by first | trivial | omega) (Eq.trans (if_pos h520) rfl)
    · refine X.iload_n 76 (zi309 75) rfl rfl rfl ?_
      refine X.goto 80 (zi309 76) rfl rfl ?_
      refine X.cut [] (zi309 80) rfl ?_
      exact hK524 y504 (by first | trivial | omega) (Eq.trans (if_neg h520) rfl)
  refine X.ifne 58 54 (zi309 51) rfl rfl rfl (fun h511 => ?_) (fun h511 => ?_)
  · have h511c : ¬ (m505 4 45 12) = 1 := by omega
    clear h511 hz510
    refine X.iconst 59 (zi309 58) rfl rfl (by decide) ?_
    exact hK515 0 (by first | trivial | omega) (Eq.trans (if_neg h511c) rfl)
  · have h511c : (m505 4 45 12) = 1 := by omega
    clear h511 hz510
    refine X.iconst 55 (zi309 54) rfl rfl (by decide) ?_
    refine X.goto 59 (zi309 55) rfl rfl ?_
    exact hK515 1 (by first | trivial | omega) (Eq.trans (if_pos h511c) rfl)
-- WorkMeter.lost
noncomputable def f186_1 (a1 : Int) (m : zM) : Int :=
  zn (if a1 < 0 then
  ((-1))
  else
  (if 4 ≤ a1 then
  ((-1))
  else
  ((m 0 29 a1)))) fun v503 =>
  v503
-- WorkMeter.lost
theorem c186_1 {s : Nat × (Nat → Int32)} {S : zS} {m0 m : zM} {B : Int} {d : Nat} {Q : Option zV → zM → Prop} (a1 : Int) (hd : 13 ≤ d) (hJ : J S m0 B m) (hB : B + 0 ≤ 1000000000) (ha1 : (-2147483648) ≤ a1 ∧ a1 ≤ 2147483647) (hQ : ∀ (v : Int), (True) → f186_1 a1 m = v → Q (some (zl v)) m) : X (EE s) d 186 0 [(0, zr 4 40), (1, zi a1)] [] m Q := by
  refine X.iload_n 1 (zi186 0) rfl rfl rfl ?_
  have hK506 : ∀ (v : Int) , (True) → (if a1 < 0 then
      ((-1))
      else
      (if 4 ≤ a1 then
      ((-1))
      else
      ((m 0 29 a1)))) = v → X (EE s) d 186 27 [] [zl v] m Q := by
    intro v503 hv503 hT507
    refine X.retl (zi186 27) rfl t186 ?_
    exact hQ v503 (by first | trivial | omega) (Eq.trans (zn_eq hT507.symm) rfl) 
  refine X.iflt 24 4 (zi186 1) rfl rfl rfl (fun h501 => ?_) (fun h501 => ?_)
  · refine X.cut [] (zi186 24) rfl ?_
    refine X.ldc2 27 (zi186 24) rfl rfl (by decide) ?_
    exact hK506 (-1) (by first | trivial | omega) (Eq.trans (if_pos h501) rfl)
  · refine X.iload_n 5 (zi186 4) rfl rfl rfl ?_
    refine X.iconst 6 (zi186 5) rfl rfl (by decide) ?_
    refine X.icmpge 24 9 (zi186 6) rfl rfl rfl (fun h502 => ?_) (fun h502 => ?_)
    · refine X.cut [] (zi186 24) rfl ?_
      refine X.ldc2 27 (zi186 24) rfl rfl (by decide) ?_
      exact hK506 (-1) (by first | trivial | omega) (Eq.trans (if_neg h501) (Eq.trans (if_pos h502) rfl))
    · refine X.aload_n 10 (zi186 9) rfl rfl rfl ?_
      refine X.getF 13 (zi186 10) rfl rfl (by decide) rfl rfl ?_
      refine X.getR 16 (zi186 13) rfl rfl (by decide) rfl rfl ?_
      refine X.getR 19 (zi186 16) rfl rfl (by decide) rfl rfl ?_
      refine X.iload_n 20 (zi186 19) rfl rfl rfl ?_
      refine X.lald 21 (zi186 20) rfl rfl (by decide) rfl (by omega) ?_
      refine X.goto 27 (zi186 21) rfl rfl ?_
      refine X.cut [] (zi186 27) rfl ?_
      exact hK506 (m 0 29 a1) (by first | trivial | omega) (Eq.trans (if_neg h501) (Eq.trans (if_neg h502) rfl))
-- WorkMeterModel.lost
noncomputable def f310_1 (a1 : Int) (m : zM) : Int :=
  if a1 < 0 then
  ((-1))
  else
  (if a1 ≤ 3 then
  ((m 4 45 (1607 + a1)))
  else
  ((-1)))
-- WorkMeterModel.lost
theorem c310_1 {s : Nat × (Nat → Int32)} {S : zS} {m0 m : zM} {B : Int} {d : Nat} {Q : Option zV → zM → Prop} (a1 : Int) (hd : 13 ≤ d) (hJ : J S m0 B m) (hB : B + 0 ≤ 1000000000) (ha1 : (-2147483648) ≤ a1 ∧ a1 ≤ 2147483647) (hQ : ∀ (v : Int), (True) → f310_1 a1 m = v → Q (some (zl v)) m) : X (EE s) d 310 0 [(0, zr 4 44), (1, zi a1)] [] m Q := by
  refine X.iload_n 1 (zi310 0) rfl rfl rfl ?_
  refine X.i2l 2 (zi310 1) rfl rfl ?_
  refine X.lconst (y := 0) 3 (zi310 2) rfl rfl rfl ?_
  refine X.ldc2 6 (zi310 3) rfl rfl (by decide) ?_
  refine X.calls 9 [zl a1, zl 0, zl 3] [] [(0, zl a1), (2, zl 0), (4, zl 3)] (zi310 6) (by decide) rfl rfl (by omega) rfl rfl t204 (Nat.le_of_ble_eq_true rfl) (Nat.le_of_ble_eq_true rfl) rfl ?_
  refine X.lload_n 1 (zi204 0) rfl rfl rfl ?_
  refine X.lload_n 2 (zi204 1) rfl rfl rfl ?_
  refine X.lcmp 3 (zi204 2) rfl rfl (fun z501 hz501 => ?_)
  refine X.iflt 17 6 (zi204 3) rfl rfl rfl (fun h502 => ?_) (fun h502 => ?_)
  · have h502c : a1 < 0 := by omega
    clear h502 hz501
    refine X.cut [] (zi204 17) rfl ?_
    refine X.iconst 18 (zi204 17) rfl rfl (by decide) ?_
    refine X.retz (zi204 18) rfl t204 (by omega) ?_
    show X (EE s) d 310 9 [(0, zr 4 44), (1, zi a1)] [zi 0] m _
    refine X.ifeq 25 12 (zi310 9) rfl rfl rfl (fun h503 => ?_) (fun h503 => (by exfalso; omega))
    refine X.cut [] (zi310 25) rfl ?_
    refine X.ldc2 28 (zi310 25) rfl rfl (by decide) ?_
    refine X.retl (zi310 28) rfl t310 ?_
    exact hQ (-1) (by first | trivial | omega) (Eq.trans (if_pos h502c) rfl) 
  · have h502c : ¬ a1 < 0 := by omega
    clear h502 hz501
    refine X.lload_n 7 (zi204 6) rfl rfl rfl ?_
    refine X.lload 9 (zi204 7) rfl rfl rfl ?_
    refine X.lcmp 10 (zi204 9) rfl rfl (fun z504 hz504 => ?_)
    refine X.ifgt 17 13 (zi204 10) rfl rfl rfl (fun h505 => ?_) (fun h505 => ?_)
    · have h505c : ¬ a1 ≤ 3 := by omega
      clear h505 hz504
      refine X.cut [] (zi204 17) rfl ?_
      refine X.iconst 18 (zi204 17) rfl rfl (by decide) ?_
      refine X.retz (zi204 18) rfl t204 (by omega) ?_
      show X (EE s) d 310 9 [(0, zr 4 44), (1, zi a1)] [zi 0] m _
      refine X.ifeq 25 12 (zi310 9) rfl rfl rfl (fun h506 => ?_) (fun h506 => (by exfalso; omega))
      refine X.cut [] (zi310 25) rfl ?_
      refine X.ldc2 28 (zi310 25) rfl rfl (by decide) ?_
      refine X.retl (zi310 28) rfl t310 ?_
      exact hQ (-1) (by first | trivial | omega) (Eq.trans (if_neg h502c) (Eq.trans (if_neg h505c) rfl)) 
    · have h505c : a1 ≤ 3 := by omega
      clear h505 hz504
      refine X.iconst 14 (zi204 13) rfl rfl (by decide) ?_
      refine X.goto 18 (zi204 14) rfl rfl ?_
      refine X.cut [] (zi204 18) rfl ?_
      refine X.retz (zi204 18) rfl t204 (by omega) ?_
      show X (EE s) d 310 9 [(0, zr 4 44), (1, zi a1)] [zi 1] m _
      refine X.ifeq 25 12 (zi310 9) rfl rfl rfl (fun h507 => (by exfalso; omega)) (fun h507 => ?_)
      refine X.aload_n 13 (zi310 12) rfl rfl rfl ?_
      refine X.getF 16 (zi310 13) rfl rfl (by decide) rfl rfl ?_
      refine X.sipush 19 (zi310 16) rfl rfl (by decide) ?_
      refine X.iload_n 20 (zi310 19) rfl rfl rfl ?_
      refine X.iadd 21 (zi310 20) rfl rfl (by omega) ?_
      refine X.lald 22 (zi310 21) rfl rfl (by decide) rfl (by omega) ?_
      refine X.goto 28 (zi310 22) rfl rfl ?_
      refine X.cut [] (zi310 28) rfl ?_
      refine X.retl (zi310 28) rfl t310 ?_
      exact hQ (m 4 45 (1607 + a1)) (by first | trivial | omega) (Eq.trans (if_neg h502c) (Eq.trans (if_pos h505c) rfl)) 
noncomputable def fl188_16_1_b (self : Int → Int → Int → Int → Int) (k71 : Int → Int) (g0 : Nat) (y1 : Int) (m : zM) (y2 y4 y6 y7 : Int) : Int :=
  if (min (m g0 27 2) 64) < (y7 + y1) then
  (k71 y6)
  else
  (zn (w64 ((m g0 28 ((((((m g0 27 2) - 1) - ((y7 + y1) - 1)) % 64) * 6) + 1)) - (m g0 28 ((((((m g0 27 2) - 1) - (y7 - 1)) % 64) * 6) + 1)))) fun z516 =>
  zn (w64 (y2 + z516)) fun z517 =>
  if z517 ≤ y4 then
  (self z517 y4 y6 (y7 + 1))
  else
  (self z517 z517 y7 (y7 + 1)))
noncomputable def fl188_16_1 (k71 : Int → Int) (g0 : Nat) (y1 : Int) (m : zM) : Nat → Int → Int → Int → Int → Int
  | 0 => fun y2 y4 y6 y7 => 0
  | n + 1 => fl188_16_1_b (fl188_16_1 k71 g0 y1 m n) k71 g0 y1 m
theorem l188_16_1 {s : Nat × (Nat → Int32)} {S : zS} {m0 : zM} {m : zM} {B : Int} {d : Nat} {Q : Option zV → zM → Prop} {R0 : Int} {k71 : Int → Int} (g0 : Nat) (y1 : Int) (hd : 14 ≤ d) (hJ : J S m0 B m) (hB9 : B ≤ 1000000000) (hy1 : 1 ≤ y1 ∧ y1 ≤ 64)
    (K71 : ∀ (x6 : Int) , (0 ≤ x6 ∧ x6 ≤ 64) → (1 ≤ y1) → (x6 + y1 ≤ m g0 27 2) → (0 ≤ x6) → (x6 + y1 ≤ 64) → R0 = k71 x6 → X (EE s) d 188 71 [(6, zi x6)] [] m Q) :
    ∀ (n : Nat) (y2 y4 y6 y7 : Int) , (0 ≤ y6 ∧ y6 ≤ 64) → (1 ≤ y7 ∧ y7 ≤ 64) → (1 ≤ y1) → (y6 + y1 ≤ m g0 27 2) → (0 ≤ y6) → (y6 + y1 ≤ 64) → 64 - y7 < (n : Int) → R0 = fl188_16_1 k71 g0 y1 m n y2 y4 y6 y7 → X (EE s) d 188 16 [(0, zr g0 27), (1, zi y1), (2, zl y2), (4, zl y4), (6, zi y6), (7, zi y7)] [] m Q := by
  intro n
  induction n with
  | zero =>
    intro y2 y4 y6 y7 hy6 hy7 hr0 hr1 hr2 hr3 hn hR
    exfalso
    omega
  | succ n ih =>
    intro y2 y4 y6 y7 hy6 hy7 hr0 hr1 hr2 hr3 hn hR
    replace hR : R0 = fl188_16_1_b (fl188_16_1 k71 g0 y1 m n) k71 g0 y1 m y2 y4 y6 y7 := hR
    refine X.iload 18 (zi188 16) rfl rfl rfl ?_
    refine X.iload_n 19 (zi188 18) rfl rfl rfl ?_
    refine X.iadd 20 (zi188 19) rfl rfl (by omega) ?_
    refine X.aload_n 21 (zi188 20) rfl rfl rfl ?_
    refine X.callv 24 [] [zi (y7 + y1)] [(0, zr g0 27)] (zi188 21) rfl (by decide) rfl rfl (by omega) rfl rfl (by decide) rfl t66 (Nat.le_of_ble_eq_true rfl) (Nat.le_of_ble_eq_true rfl) rfl ?_
    refine X.aload_n 1 (zi66 0) rfl rfl rfl ?_
    refine X.getI 4 2 (zi66 1) rfl rfl (by decide) rfl rfl rfl ?_
    have h514 := r27_2 hJ g0
    refine X.bipush 6 (zi66 4) rfl rfl (by decide) ?_
    refine X.minI 9 (zi66 6) rfl rfl (by omega) (Nat.le_of_ble_eq_true rfl) ?_
    refine X.reti (zi66 9) rfl t66 ?_
    show X (EE s) d 188 24 [(0, zr g0 27), (1, zi y1), (2, zl y2), (4, zl y4), (6, zi y6), (7, zi y7)] [zi (min (m g0 27 2) 64), zi (y7 + y1)] m _
    refine X.icmpgt 71 27 (zi188 24) rfl rfl rfl (fun h515 => ?_) (fun h515 => ?_)
    · refine X.cut [(6, zi y6)] (zi188 71) rfl ?_
      exact K71 y6 (by first | trivial | omega) (by omega) (by omega) (by omega) (by omega) (Eq.trans hR (Eq.trans (if_pos h515) rfl))
    · refine X.lload_n 28 (zi188 27) rfl rfl rfl ?_
      refine X.aload_n 29 (zi188 28) rfl rfl rfl ?_
      refine X.iload 31 (zi188 29) rfl rfl rfl ?_
      refine X.iload_n 32 (zi188 31) rfl rfl rfl ?_
      refine X.iadd 33 (zi188 32) rfl rfl (by omega) ?_
      refine X.iconst 34 (zi188 33) rfl rfl (by decide) ?_
      refine X.isub 35 (zi188 34) rfl rfl (by omega) ?_
      refine X.iconst 36 (zi188 35) rfl rfl (by decide) ?_
      refine X.callv 39 [zi ((y7 + y1) - 1), zi 1] [zl y2] [(0, zr g0 27), (1, zi ((y7 + y1) - 1)), (2, zi 1)] (zi188 36) rfl (by decide) rfl rfl (by omega) rfl rfl (by decide) rfl t67 (Nat.le_of_ble_eq_true rfl) (Nat.le_of_ble_eq_true rfl) rfl ?_
      refine X.aload_n 1 (zi67 0) rfl rfl rfl ?_
      refine X.getR 4 (zi67 1) rfl rfl (by decide) rfl rfl ?_
      refine X.aload_n 5 (zi67 4) rfl rfl rfl ?_
      refine X.getI 8 2 (zi67 5) rfl rfl (by decide) rfl rfl rfl ?_
      refine X.iconst 9 (zi67 8) rfl rfl (by decide) ?_
      refine X.isub 10 (zi67 9) rfl rfl (by omega) ?_
      refine X.iload_n 11 (zi67 10) rfl rfl rfl ?_
      refine X.isub 12 (zi67 11) rfl rfl (by omega) ?_
      refine X.bipush 14 (zi67 12) rfl rfl (by decide) ?_
      refine X.irem 15 (zi67 14) rfl rfl (by omega) ?_
      refine X.bipush 17 (zi67 15) rfl rfl (by decide) ?_
      refine X.imul 18 (zi67 17) rfl rfl (by omega) ?_
      refine X.iload_n 19 (zi67 18) rfl rfl rfl ?_
      refine X.iadd 20 (zi67 19) rfl rfl (by omega) ?_
      refine X.lald 21 (zi67 20) rfl rfl (by decide) rfl (by omega) ?_
      refine X.retl (zi67 21) rfl t67 ?_
      show X (EE s) d 188 39 [(0, zr g0 27), (1, zi y1), (2, zl y2), (4, zl y4), (6, zi y6), (7, zi y7)] [zl (m g0 28 ((((((m g0 27 2) - 1) - ((y7 + y1) - 1)) % 64) * 6) + 1)), zl y2] m _
      refine X.aload_n 40 (zi188 39) rfl rfl rfl ?_
      refine X.iload 42 (zi188 40) rfl rfl rfl ?_
      refine X.iconst 43 (zi188 42) rfl rfl (by decide) ?_
      refine X.isub 44 (zi188 43) rfl rfl (by omega) ?_
      refine X.iconst 45 (zi188 44) rfl rfl (by decide) ?_
      refine X.callv 48 [zi (y7 - 1), zi 1] [zl (m g0 28 ((((((m g0 27 2) - 1) - ((y7 + y1) - 1)) % 64) * 6) + 1)), zl y2] [(0, zr g0 27), (1, zi (y7 - 1)), (2, zi 1)] (zi188 45) rfl (by decide) rfl rfl (by omega) rfl rfl (by decide) rfl t67 (Nat.le_of_ble_eq_true rfl) (Nat.le_of_ble_eq_true rfl) rfl ?_
      refine X.aload_n 1 (zi67 0) rfl rfl rfl ?_
      refine X.getR 4 (zi67 1) rfl rfl (by decide) rfl rfl ?_
      refine X.aload_n 5 (zi67 4) rfl rfl rfl ?_
      refine X.getI 8 2 (zi67 5) rfl rfl (by decide) rfl rfl rfl ?_
      refine X.iconst 9 (zi67 8) rfl rfl (by decide) ?_
      refine X.isub 10 (zi67 9) rfl rfl (by omega) ?_
      refine X.iload_n 11 (zi67 10) rfl rfl rfl ?_
      refine X.isub 12 (zi67 11) rfl rfl (by omega) ?_
      refine X.bipush 14 (zi67 12) rfl rfl (by decide) ?_
      refine X.irem 15 (zi67 14) rfl rfl (by omega) ?_
      refine X.bipush 17 (zi67 15) rfl rfl (by decide) ?_
      refine X.imul 18 (zi67 17) rfl rfl (by omega) ?_
      refine X.iload_n 19 (zi67 18) rfl rfl rfl ?_
      refine X.iadd 20 (zi67 19) rfl rfl (by omega) ?_
      refine X.lald 21 (zi67 20) rfl rfl (by decide) rfl (by omega) ?_
      refine X.retl (zi67 21) rfl t67 ?_
      show X (EE s) d 188 48 [(0, zr g0 27), (1, zi y1), (2, zl y2), (4, zl y4), (6, zi y6), (7, zi y7)] [zl (m g0 28 ((((((m g0 27 2) - 1) - (y7 - 1)) % 64) * 6) + 1)), zl (m g0 28 ((((((m g0 27 2) - 1) - ((y7 + y1) - 1)) % 64) * 6) + 1)), zl y2] m _
      refine X.lsubW 49 (zi188 48) rfl rfl (fun z516 ez516 hz516 => ?_)
      refine X.laddW 50 (zi188 49) rfl rfl (fun z517 ez517 hz517 => ?_)
      refine X.lstore_n 51 [(0, zr g0 27), (1, zi y1), (2, zl z517), (4, zl y4), (6, zi y6), (7, zi y7)] (zi188 50) rfl rfl rfl ?_
      refine X.lload_n 52 (zi188 51) rfl rfl rfl ?_
      refine X.lload 54 (zi188 52) rfl rfl rfl ?_
      refine X.lcmp 55 (zi188 54) rfl rfl (fun z518 hz518 => ?_)
      refine X.ifle 65 58 (zi188 55) rfl rfl rfl (fun h519 => ?_) (fun h519 => ?_)
      · have h519c : z517 ≤ y4 := by omega
        clear h519 hz518
        refine X.iinc 68 [(0, zr g0 27), (1, zi y1), (2, zl z517), (4, zl y4), (6, zi y6), (7, zi (y7 + 1))] (zi188 65) rfl rfl rfl (by omega) rfl ?_
        refine X.goto 16 (zi188 68) rfl rfl ?_
        exact ih z517 y4 y6 (y7 + 1) (by omega) (by omega) (by omega) (by omega) (by omega) (by omega) (by omega) (Eq.trans hR (Eq.trans (if_neg h515) (Eq.trans (zn_eq ez516) (Eq.trans (zn_eq ez517) (Eq.trans (if_pos h519c) rfl)))))
      · have h519c : ¬ z517 ≤ y4 := by omega
        clear h519 hz518
        refine X.lload_n 59 (zi188 58) rfl rfl rfl ?_
        refine X.lstore 61 [(0, zr g0 27), (1, zi y1), (2, zl z517), (4, zl z517), (6, zi y6), (7, zi y7)] (zi188 59) rfl rfl rfl ?_
        refine X.iload 63 (zi188 61) rfl rfl rfl ?_
        refine X.istore 65 [(0, zr g0 27), (1, zi y1), (2, zl z517), (4, zl z517), (6, zi y7), (7, zi y7)] (zi188 63) rfl rfl rfl ?_
        refine X.iinc 68 [(0, zr g0 27), (1, zi y1), (2, zl z517), (4, zl z517), (6, zi y7), (7, zi (y7 + 1))] (zi188 65) rfl rfl rfl (by omega) rfl ?_
        refine X.goto 16 (zi188 68) rfl rfl ?_
        exact ih z517 z517 y7 (y7 + 1) (by omega) (by omega) (by omega) (by omega) (by omega) (by omega) (by omega) (Eq.trans hR (Eq.trans (if_neg h515) (Eq.trans (zn_eq ez516) (Eq.trans (zn_eq ez517) (Eq.trans (if_neg h519c) rfl)))))
-- WorkMeter$Load.bestRun
noncomputable def f188_1 (g0 : Nat) (a1 : Int) (m : zM) : Int :=
  zn (f68_1 g0 0 a1 m) fun v503 =>
  fl188_16_1 (fun y504 =>
  y504) g0 a1 m (zfu 64) v503 v503 0 1
-- WorkMeter$Load.bestRun
theorem c188_1 {s : Nat × (Nat → Int32)} {S : zS} {m0 m : zM} {B : Int} {d : Nat} {Q : Option zV → zM → Prop} (g0 : Nat) (a1 : Int) (hd : 14 ≤ d) (hJ : J S m0 B m) (hB : B + 0 ≤ 1000000000) (ha1 : 1 ≤ a1 ∧ a1 ≤ 64) (hp0 : 1 ≤ a1) (hp1 : a1 ≤ m g0 27 2) (hp2 : a1 ≤ 64) (hQ : ∀ (v : Int), (0 ≤ v ∧ v ≤ 64) → f188_1 g0 a1 m = v → (v + a1 ≤ m g0 27 2) → (0 ≤ v) → (v + a1 ≤ 64) → Q (some (zi v)) m) : X (EE s) d 188 0 [(0, zr g0 27), (1, zi a1)] [] m Q := by
  refine X.aload_n 1 (zi188 0) rfl rfl rfl ?_
  refine X.iconst 2 (zi188 1) rfl rfl (by decide) ?_
  refine X.iload_n 3 (zi188 2) rfl rfl rfl ?_
  refine X.callv 6 [zi 0, zi a1] [] [(0, zr g0 27), (1, zi 0), (2, zi a1)] (zi188 3) rfl (by decide) rfl rfl (by omega) rfl rfl (by decide) rfl t68 (Nat.le_of_ble_eq_true rfl) (Nat.le_of_ble_eq_true rfl) rfl ?_
  refine c68_1 (B := B) g0 0 a1 (by omega) (hJ.up (by omega)) (by omega) (by omega) (by omega) (by omega) (by omega) (fun v503 hv503 hFv503 => ?_)
  show X (EE s) d 188 6 [(0, zr g0 27), (1, zi a1)] [zl v503] m _
  refine X.lstore_n 7 [(0, zr g0 27), (1, zi a1), (2, zl v503)] (zi188 6) rfl rfl rfl ?_
  refine X.lload_n 8 (zi188 7) rfl rfl rfl ?_
  refine X.lstore 10 [(0, zr g0 27), (1, zi a1), (2, zl v503), (4, zl v503)] (zi188 8) rfl rfl rfl ?_
  refine X.iconst 11 (zi188 10) rfl rfl (by decide) ?_
  refine X.istore 13 [(0, zr g0 27), (1, zi a1), (2, zl v503), (4, zl v503), (6, zi 0)] (zi188 11) rfl rfl rfl ?_
  refine X.iconst 14 (zi188 13) rfl rfl (by decide) ?_
  refine X.istore 16 [(0, zr g0 27), (1, zi a1), (2, zl v503), (4, zl v503), (6, zi 0), (7, zi 1)] (zi188 14) rfl rfl rfl ?_
  have hz64 := zfu_eq 64
  refine l188_16_1 (s := s) (m := m) (B := B) (d := d) (R0 := (f188_1 g0 a1 m)) g0 a1  (by omega) (hJ.up (by omega)) (by omega) (by omega) (fun y504 hby504 hrlm505_0 hrlm505_1 hrlm505_2 hrlm505_3 hR508 => ?_) (zfu 64) v503 v503 0 1 (by omega) (by omega) (by omega) (by omega) (by omega) (by omega) (by omega) (Eq.trans (zn_eq hFv503.symm) rfl)
  refine X.iload 73 (zi188 71) rfl rfl rfl ?_
  refine X.reti (zi188 73) rfl t188 ?_
  exact hQ y504 (by first | trivial | omega) (Eq.trans hR508 rfl) (by omega) (by omega) (by omega)
-- WorkMeter.best
noncomputable def f187_1 (a1 a2 : Int) (m : zM) : Int :=
  if a1 < 1 then
  ((-1))
  else
  (if (min (m 0 27 2) 64) < a1 then
  ((-1))
  else
  (if a2 < 0 then
  ((-1))
  else
  (if a2 ≤ 1 then
  (zn (f188_1 0 a1 m) fun v508 =>
  zn (if a2 = 0 then
  (zn (f68_1 0 v508 a1 m) fun v512 =>
  v512)
  else
  ((m 0 28 ((((((m 0 27 2) - 1) - v508) % 64) * 6) + 0)))) fun v513 =>
  v513)
  else
  ((-1)))))
-- WorkMeter.best
theorem c187_1 {s : Nat × (Nat → Int32)} {S : zS} {m0 m : zM} {B : Int} {d : Nat} {Q : Option zV → zM → Prop} (a1 a2 : Int) (hd : 15 ≤ d) (hJ : J S m0 B m) (hB : B + 0 ≤ 1000000000) (ha1 : (-2147483648) ≤ a1 ∧ a1 ≤ 2147483647) (ha2 : (-2147483648) ≤ a2 ∧ a2 ≤ 2147483647) (hQ : ∀ (v : Int), (True) → f187_1 a1 a2 m = v → Q (some (zl v)) m) : X (EE s) d 187 0 [(0, zr 4 40), (1, zi a1), (2, zi a2)] [] m Q := by
  refine X.iload_n 1 (zi187 0) rfl rfl rfl ?_
  refine X.iconst 2 (zi187 1) rfl rfl (by decide) ?_
  refine X.icmplt 28 5 (zi187 2) rfl rfl rfl (fun h501 => ?_) (fun h501 => ?_)
  · refine X.cut [] (zi187 28) rfl ?_
    refine X.ldc2 31 (zi187 28) rfl rfl (by decide) ?_
    refine X.retl (zi187 31) rfl t187 ?_
    exact hQ (-1) (by first | trivial | omega) (Eq.trans (if_pos h501) rfl) 
  · refine X.iload_n 6 (zi187 5) rfl rfl rfl ?_
    refine X.aload_n 7 (zi187 6) rfl rfl rfl ?_
    refine X.getF 10 (zi187 7) rfl rfl (by decide) rfl rfl ?_
    refine X.getR 13 (zi187 10) rfl rfl (by decide) rfl rfl ?_
    refine X.callv 16 [] [zi a1] [(0, zr 0 27)] (zi187 13) rfl (by decide) rfl rfl (by omega) rfl rfl (by decide) rfl t66 (Nat.le_of_ble_eq_true rfl) (Nat.le_of_ble_eq_true rfl) rfl ?_
    refine X.aload_n 1 (zi66 0) rfl rfl rfl ?_
    refine X.getI 4 2 (zi66 1) rfl rfl (by decide) rfl rfl rfl ?_
    have h502 := r27_2 hJ 0
    refine X.bipush 6 (zi66 4) rfl rfl (by decide) ?_
    refine X.minI 9 (zi66 6) rfl rfl (by omega) (Nat.le_of_ble_eq_true rfl) ?_
    refine X.reti (zi66 9) rfl t66 ?_
    show X (EE s) d 187 16 [(0, zr 4 40), (1, zi a1), (2, zi a2)] [zi (min (m 0 27 2) 64), zi a1] m _
    refine X.icmpgt 28 19 (zi187 16) rfl rfl rfl (fun h503 => ?_) (fun h503 => ?_)
    · refine X.cut [] (zi187 28) rfl ?_
      refine X.ldc2 31 (zi187 28) rfl rfl (by decide) ?_
      refine X.retl (zi187 31) rfl t187 ?_
      exact hQ (-1) (by first | trivial | omega) (Eq.trans (if_neg h501) (Eq.trans (if_pos h503) rfl)) 
    · refine X.iload_n 20 (zi187 19) rfl rfl rfl ?_
      refine X.iflt 28 23 (zi187 20) rfl rfl rfl (fun h504 => ?_) (fun h504 => ?_)
      · refine X.cut [] (zi187 28) rfl ?_
        refine X.ldc2 31 (zi187 28) rfl rfl (by decide) ?_
        refine X.retl (zi187 31) rfl t187 ?_
        exact hQ (-1) (by first | trivial | omega) (Eq.trans (if_neg h501) (Eq.trans (if_neg h503) (Eq.trans (if_pos h504) rfl))) 
      · refine X.iload_n 24 (zi187 23) rfl rfl rfl ?_
        refine X.iconst 25 (zi187 24) rfl rfl (by decide) ?_
        refine X.icmple 32 28 (zi187 25) rfl rfl rfl (fun h505 => ?_) (fun h505 => ?_)
        · refine X.aload_n 33 (zi187 32) rfl rfl rfl ?_
          refine X.getF 36 (zi187 33) rfl rfl (by decide) rfl rfl ?_
          refine X.getR 39 (zi187 36) rfl rfl (by decide) rfl rfl ?_
          refine X.iload_n 40 (zi187 39) rfl rfl rfl ?_
          refine X.callv 43 [zi a1] [] [(0, zr 0 27), (1, zi a1)] (zi187 40) rfl (by decide) rfl rfl (by omega) rfl rfl (by decide) rfl t188 (Nat.le_of_ble_eq_true rfl) (Nat.le_of_ble_eq_true rfl) rfl ?_
          refine c188_1 (B := B) 0 a1 (by omega) (hJ.up (by omega)) (by omega) (by omega) (by omega) (by omega) (by omega) (fun v508 hv508 hFv508 hqv508_0 hqv508_1 hqv508_2 => ?_)
          show X (EE s) d 187 43 [(0, zr 4 40), (1, zi a1), (2, zi a2)] [zi v508] m _
          refine X.istore_n 44 [(0, zr 4 40), (1, zi a1), (2, zi a2), (3, zi v508)] (zi187 43) rfl rfl rfl ?_
          refine X.iload_n 45 (zi187 44) rfl rfl rfl ?_
          have hK516 : ∀ (v : Int) , (True) → (if a2 = 0 then
              (zn (f68_1 0 v508 a1 m) fun v512 =>
              v512)
              else
              ((m 0 28 ((((((m 0 27 2) - 1) - v508) % 64) * 6) + 0)))) = v → X (EE s) d 187 75 [] [zl v] m Q := by
            intro v513 hv513 hT517
            refine X.retl (zi187 75) rfl t187 ?_
            exact hQ v513 (by first | trivial | omega) (Eq.trans (if_neg h501) (Eq.trans (if_neg h503) (Eq.trans (if_neg h504) (Eq.trans (if_pos h505) (Eq.trans (zn_eq hFv508.symm) (Eq.trans (zn_eq hT517.symm) rfl)))))) 
          refine X.ifne 63 48 (zi187 45) rfl rfl rfl (fun h509 => ?_) (fun h509 => ?_)
          · refine X.cut [(0, zr 4 40), (3, zi v508)] (zi187 63) rfl ?_
            refine X.aload_n 64 (zi187 63) rfl rfl rfl ?_
            refine X.getF 67 (zi187 64) rfl rfl (by decide) rfl rfl ?_
            refine X.getR 70 (zi187 67) rfl rfl (by decide) rfl rfl ?_
            refine X.iload_n 71 (zi187 70) rfl rfl rfl ?_
            refine X.iconst 72 (zi187 71) rfl rfl (by decide) ?_
            refine X.callv 75 [zi v508, zi 0] [] [(0, zr 0 27), (1, zi v508), (2, zi 0)] (zi187 72) rfl (by decide) rfl rfl (by omega) rfl rfl (by decide) rfl t67 (Nat.le_of_ble_eq_true rfl) (Nat.le_of_ble_eq_true rfl) rfl ?_
            refine X.aload_n 1 (zi67 0) rfl rfl rfl ?_
            refine X.getR 4 (zi67 1) rfl rfl (by decide) rfl rfl ?_
            refine X.aload_n 5 (zi67 4) rfl rfl rfl ?_
            refine X.getI 8 2 (zi67 5) rfl rfl (by decide) rfl rfl rfl ?_
            refine X.iconst 9 (zi67 8) rfl rfl (by decide) ?_
            refine X.isub 10 (zi67 9) rfl rfl (by omega) ?_
            refine X.iload_n 11 (zi67 10) rfl rfl rfl ?_
            refine X.isub 12 (zi67 11) rfl rfl (by omega) ?_
            refine X.bipush 14 (zi67 12) rfl rfl (by decide) ?_
            refine X.irem 15 (zi67 14) rfl rfl (by omega) ?_
            refine X.bipush 17 (zi67 15) rfl rfl (by decide) ?_
            refine X.imul 18 (zi67 17) rfl rfl (by omega) ?_
            refine X.iload_n 19 (zi67 18) rfl rfl rfl ?_
            refine X.iadd 20 (zi67 19) rfl rfl (by omega) ?_
            refine X.lald 21 (zi67 20) rfl rfl (by decide) rfl (by omega) ?_
            refine X.retl (zi67 21) rfl t67 ?_
            show X (EE s) d 187 75 [(0, zr 4 40), (3, zi v508)] [zl (m 0 28 ((((((m 0 27 2) - 1) - v508) % 64) * 6) + 0))] m _
            refine X.cut [] (zi187 75) rfl ?_
            exact hK516 (m 0 28 ((((((m 0 27 2) - 1) - v508) % 64) * 6) + 0)) (by first | trivial | omega) (Eq.trans (if_neg h509) rfl)
          · refine X.aload_n 49 (zi187 48) rfl rfl rfl ?_
            refine X.getF 52 (zi187 49) rfl rfl (by decide) rfl rfl ?_
            refine X.getR 55 (zi187 52) rfl rfl (by decide) rfl rfl ?_
            refine X.iload_n 56 (zi187 55) rfl rfl rfl ?_
            refine X.iload_n 57 (zi187 56) rfl rfl rfl ?_
            refine X.callv 60 [zi v508, zi a1] [] [(0, zr 0 27), (1, zi v508), (2, zi a1)] (zi187 57) rfl (by decide) rfl rfl (by omega) rfl rfl (by decide) rfl t68 (Nat.le_of_ble_eq_true rfl) (Nat.le_of_ble_eq_true rfl) rfl ?_
            refine c68_1 (B := B) 0 v508 a1 (by omega) (hJ.up (by omega)) (by omega) (by omega) (by omega) (by omega) (by omega) (fun v512 hv512 hFv512 => ?_)
            show X (EE s) d 187 60 [(0, zr 4 40), (1, zi a1), (2, zi a2), (3, zi v508)] [zl v512] m _
            refine X.goto 75 (zi187 60) rfl rfl ?_
            refine X.cut [] (zi187 75) rfl ?_
            exact hK516 v512 (by first | trivial | omega) (Eq.trans (if_pos h509) (Eq.trans (zn_eq hFv512.symm) rfl))
        · refine X.cut [] (zi187 28) rfl ?_
          refine X.ldc2 31 (zi187 28) rfl rfl (by decide) ?_
          refine X.retl (zi187 31) rfl t187 ?_
          exact hQ (-1) (by first | trivial | omega) (Eq.trans (if_neg h501) (Eq.trans (if_neg h503) (Eq.trans (if_neg h504) (Eq.trans (if_neg h505) rfl)))) 
-- WorkMeterModel.line
theorem c234_8 {s : Nat × (Nat → Int32)} {S : zS} {m0 m : zM} {B : Int} {d : Nat} {Q : Option zV → zM → Prop} (a1 a2 : Int) (hd : 13 ≤ d) (hJ : J S m0 B m) (hB : B + 0 ≤ 1000000000) (ha1 : 0 ≤ a1 ∧ a1 ≤ 127) (ha2 : 1 ≤ a2 ∧ a2 ≤ 1) (hQ : ∀ (v : Int), (True) → f234_1 a1 a2 m = v → Q (some (zl v)) m) : X (EE s) d 234 0 [(0, zr 4 44), (1, zi a1), (2, zi a2)] [] m Q := by
  refine X.aload_n 1 (zi234 0) rfl rfl rfl ?_
  refine X.getF 4 (zi234 1) rfl rfl (by decide) rfl rfl ?_
  refine X.sipush 7 (zi234 4) rfl rfl (by decide) ?_
  refine X.bipush 9 (zi234 7) rfl rfl (by decide) ?_
  refine X.iload_n 10 (zi234 9) rfl rfl rfl ?_
  refine X.imul 11 (zi234 10) rfl rfl (by omega) ?_
  refine X.iadd 12 (zi234 11) rfl rfl (by omega) ?_
  refine X.iload_n 13 (zi234 12) rfl rfl rfl ?_
  refine X.iadd 14 (zi234 13) rfl rfl (by omega) ?_
  refine X.lald 15 (zi234 14) rfl rfl (by decide) rfl (by omega) ?_
  refine X.retl (zi234 15) rfl t234 ?_
  exact hQ (m 4 45 ((788 + (6 * a1)) + a2)) (by first | trivial | omega) rfl 
noncomputable def fl311_55_1_b (self : Int → Int → Int) (k82 : Int → Int) (y1 y2 y3 y5 y6 : Int) (m : zM) (y7 y9 : Int) : Int :=
  if y1 ≤ y9 then
  (k82 y7)
  else
  (zn (f234_1 (y6 + y9) 1 m) fun v514 =>
  zn (w64 (y7 + v514)) fun z515 =>
  self z515 (y9 + 1))
noncomputable def fl311_55_1 (k82 : Int → Int) (y1 y2 y3 y5 y6 : Int) (m : zM) : Nat → Int → Int → Int
  | 0 => fun y7 y9 => 0
  | n + 1 => fl311_55_1_b (fl311_55_1 k82 y1 y2 y3 y5 y6 m n) k82 y1 y2 y3 y5 y6 m
theorem l311_55_1 {s : Nat × (Nat → Int32)} {S : zS} {m0 : zM} {m : zM} {B : Int} {d : Nat} {Q : Option zV → zM → Prop} {R0 : Int} {k82 : Int → Int} (y1 y2 y3 y5 y6 : Int) (hd : 14 ≤ d) (hJ : J S m0 B m) (hB9 : B ≤ 1000000000) (hy1 : 1 ≤ y1 ∧ y1 ≤ 64) (hy2 : 0 ≤ y2 ∧ y2 ≤ 1) (hy3 : (-1) ≤ y3 ∧ y3 ≤ (-1)) (hy5 : 0 ≤ y5 ∧ y5 ≤ 0) (hy6 : 0 ≤ y6 ∧ y6 ≤ 64)
    (K82 : ∀ (x7 : Int) , (True) → (y6 + y1 ≤ 64) → R0 = k82 x7 → X (EE s) d 311 82 [(0, zr 4 44), (1, zi y1), (2, zi y2), (3, zl y3), (5, zi y5), (6, zi y6), (7, zl x7)] [] m Q) :
    ∀ (n : Nat) (y7 y9 : Int) , (0 ≤ y9 ∧ y9 ≤ 64) → (y6 + y1 ≤ 64) → 64 - y9 < (n : Int) → R0 = fl311_55_1 k82 y1 y2 y3 y5 y6 m n y7 y9 → X (EE s) d 311 55 [(0, zr 4 44), (1, zi y1), (2, zi y2), (3, zl y3), (5, zi y5), (6, zi y6), (7, zl y7), (9, zi y9)] [] m Q := by
  intro n
  induction n with
  | zero =>
    intro y7 y9 hy9 hr0 hn hR
    exfalso
    omega
  | succ n ih =>
    intro y7 y9 hy9 hr0 hn hR
    replace hR : R0 = fl311_55_1_b (fl311_55_1 k82 y1 y2 y3 y5 y6 m n) k82 y1 y2 y3 y5 y6 m y7 y9 := hR
    refine X.iload 57 (zi311 55) rfl rfl rfl ?_
    refine X.iload_n 58 (zi311 57) rfl rfl rfl ?_
    refine X.icmpge 82 61 (zi311 58) rfl rfl rfl (fun h511 => ?_) (fun h511 => ?_)
    · refine X.cut [(0, zr 4 44), (1, zi y1), (2, zi y2), (3, zl y3), (5, zi y5), (6, zi y6), (7, zl y7)] (zi311 82) rfl ?_
      exact K82 y7 (by first | trivial | omega) (by omega) (Eq.trans hR (Eq.trans (if_pos h511) rfl))
    · refine X.lload 63 (zi311 61) rfl rfl rfl ?_
      refine X.aload_n 64 (zi311 63) rfl rfl rfl ?_
      refine X.iload 66 (zi311 64) rfl rfl rfl ?_
      refine X.iload 68 (zi311 66) rfl rfl rfl ?_
      refine X.iadd 69 (zi311 68) rfl rfl (by omega) ?_
      refine X.iconst 70 (zi311 69) rfl rfl (by decide) ?_
      refine X.callv 73 [zi (y6 + y9), zi 1] [zl y7] [(0, zr 4 44), (1, zi (y6 + y9)), (2, zi 1)] (zi311 70) rfl (by decide) rfl rfl (by omega) rfl rfl (by decide) rfl t234 (Nat.le_of_ble_eq_true rfl) (Nat.le_of_ble_eq_true rfl) rfl ?_
      refine c234_8 (B := B)  (y6 + y9) 1 (by omega) (hJ.up (by omega)) (by omega) (by omega) (by omega) (fun v514 hv514 hFv514 => ?_)
      show X (EE s) d 311 73 [(0, zr 4 44), (1, zi y1), (2, zi y2), (3, zl y3), (5, zi y5), (6, zi y6), (7, zl y7), (9, zi y9)] [zl v514, zl y7] m _
      refine X.laddW 74 (zi311 73) rfl rfl (fun z515 ez515 hz515 => ?_)
      refine X.lstore 76 [(0, zr 4 44), (1, zi y1), (2, zi y2), (3, zl y3), (5, zi y5), (6, zi y6), (7, zl z515), (9, zi y9)] (zi311 74) rfl rfl rfl ?_
      refine X.iinc 79 [(0, zr 4 44), (1, zi y1), (2, zi y2), (3, zl y3), (5, zi y5), (6, zi y6), (7, zl z515), (9, zi (y9 + 1))] (zi311 76) rfl rfl rfl (by omega) rfl ?_
      refine X.goto 55 (zi311 79) rfl rfl ?_
      exact ih z515 (y9 + 1) (by omega) (by omega) (by omega) (Eq.trans hR (Eq.trans (if_neg h511) (Eq.trans (zn_eq hFv514.symm) (Eq.trans (zn_eq ez515) rfl))))
theorem l311_55_2 {s : Nat × (Nat → Int32)} {S : zS} {m0 : zM} {m : zM} {B : Int} {d : Nat} {Q : Option zV → zM → Prop} {R0 : Int} {k82 : Int → Int} (y1 y2 y3 y5 y6 : Int) (hd : 14 ≤ d) (hJ : J S m0 B m) (hB9 : B ≤ 1000000000) (hy1 : 1 ≤ y1 ∧ y1 ≤ 64) (hy2 : 0 ≤ y2 ∧ y2 ≤ 1) (hy3 : (-1) ≤ y3) (hy5 : 0 ≤ y5 ∧ y5 ≤ 63) (hy6 : 0 ≤ y6 ∧ y6 ≤ 64)
    (K82 : ∀ (x7 : Int) , (True) → (y6 + y1 ≤ 64) → R0 = k82 x7 → X (EE s) d 311 82 [(0, zr 4 44), (1, zi y1), (2, zi y2), (3, zl y3), (5, zi y5), (6, zi y6), (7, zl x7)] [] m Q) :
    ∀ (n : Nat) (y7 y9 : Int) , (0 ≤ y9 ∧ y9 ≤ 64) → (y6 + y1 ≤ 64) → 64 - y9 < (n : Int) → R0 = fl311_55_1 k82 y1 y2 y3 y5 y6 m n y7 y9 → X (EE s) d 311 55 [(0, zr 4 44), (1, zi y1), (2, zi y2), (3, zl y3), (5, zi y5), (6, zi y6), (7, zl y7), (9, zi y9)] [] m Q := by
  intro n
  induction n with
  | zero =>
    intro y7 y9 hy9 hr0 hn hR
    exfalso
    omega
  | succ n ih =>
    intro y7 y9 hy9 hr0 hn hR
    replace hR : R0 = fl311_55_1_b (fl311_55_1 k82 y1 y2 y3 y5 y6 m n) k82 y1 y2 y3 y5 y6 m y7 y9 := hR
    refine X.iload 57 (zi311 55) rfl rfl rfl ?_
    refine X.iload_n 58 (zi311 57) rfl rfl rfl ?_
    refine X.icmpge 82 61 (zi311 58) rfl rfl rfl (fun h511 => ?_) (fun h511 => ?_)
    · refine X.cut [(0, zr 4 44), (1, zi y1), (2, zi y2), (3, zl y3), (5, zi y5), (6, zi y6), (7, zl y7)] (zi311 82) rfl ?_
      exact K82 y7 (by first | trivial | omega) (by omega) (Eq.trans hR (Eq.trans (if_pos h511) rfl))
    · refine X.lload 63 (zi311 61) rfl rfl rfl ?_
      refine X.aload_n 64 (zi311 63) rfl rfl rfl ?_
      refine X.iload 66 (zi311 64) rfl rfl rfl ?_
      refine X.iload 68 (zi311 66) rfl rfl rfl ?_
      refine X.iadd 69 (zi311 68) rfl rfl (by omega) ?_
      refine X.iconst 70 (zi311 69) rfl rfl (by decide) ?_
      refine X.callv 73 [zi (y6 + y9), zi 1] [zl y7] [(0, zr 4 44), (1, zi (y6 + y9)), (2, zi 1)] (zi311 70) rfl (by decide) rfl rfl (by omega) rfl rfl (by decide) rfl t234 (Nat.le_of_ble_eq_true rfl) (Nat.le_of_ble_eq_true rfl) rfl ?_
      refine c234_8 (B := B)  (y6 + y9) 1 (by omega) (hJ.up (by omega)) (by omega) (by omega) (by omega) (fun v514 hv514 hFv514 => ?_)
      show X (EE s) d 311 73 [(0, zr 4 44), (1, zi y1), (2, zi y2), (3, zl y3), (5, zi y5), (6, zi y6), (7, zl y7), (9, zi y9)] [zl v514, zl y7] m _
      refine X.laddW 74 (zi311 73) rfl rfl (fun z515 ez515 hz515 => ?_)
      refine X.lstore 76 [(0, zr 4 44), (1, zi y1), (2, zi y2), (3, zl y3), (5, zi y5), (6, zi y6), (7, zl z515), (9, zi y9)] (zi311 74) rfl rfl rfl ?_
      refine X.iinc 79 [(0, zr 4 44), (1, zi y1), (2, zi y2), (3, zl y3), (5, zi y5), (6, zi y6), (7, zl z515), (9, zi (y9 + 1))] (zi311 76) rfl rfl rfl (by omega) rfl ?_
      refine X.goto 55 (zi311 79) rfl rfl ?_
      exact ih z515 (y9 + 1) (by omega) (by omega) (by omega) (Eq.trans hR (Eq.trans (if_neg h511) (Eq.trans (zn_eq hFv514.symm) (Eq.trans (zn_eq ez515) rfl))))
theorem l311_55_3 {s : Nat × (Nat → Int32)} {S : zS} {m0 : zM} {m : zM} {B : Int} {d : Nat} {Q : Option zV → zM → Prop} {R0 : Int} {k82 : Int → Int} (y1 y2 y3 y5 y6 : Int) (hd : 14 ≤ d) (hJ : J S m0 B m) (hB9 : B ≤ 1000000000) (hy1 : 1 ≤ y1 ∧ y1 ≤ 64) (hy2 : 0 ≤ y2 ∧ y2 ≤ 1) (hy3 : (-1) ≤ y3) (hy5 : 0 ≤ y5 ∧ y5 ≤ 63) (hy6 : 0 ≤ y6 ∧ y6 ≤ 64)
    (K82 : ∀ (x7 : Int) , (True) → (y6 + y1 ≤ 64) → R0 = k82 x7 → X (EE s) d 311 82 [(0, zr 4 44), (1, zi y1), (2, zi y2), (3, zl y3), (5, zi y5), (6, zi y6), (7, zl x7)] [] m Q) :
    ∀ (n : Nat) (y7 y9 : Int) , (0 ≤ y9 ∧ y9 ≤ 64) → (y6 + y1 ≤ 64) → 64 - y9 < (n : Int) → R0 = fl311_55_1 k82 y1 y2 y3 y5 y6 m n y7 y9 → X (EE s) d 311 55 [(0, zr 4 44), (1, zi y1), (2, zi y2), (3, zl y3), (5, zi y5), (6, zi y6), (7, zl y7), (9, zi y9)] [] m Q := by
  intro n
  induction n with
  | zero =>
    intro y7 y9 hy9 hr0 hn hR
    exfalso
    omega
  | succ n ih =>
    intro y7 y9 hy9 hr0 hn hR
    replace hR : R0 = fl311_55_1_b (fl311_55_1 k82 y1 y2 y3 y5 y6 m n) k82 y1 y2 y3 y5 y6 m y7 y9 := hR
    refine X.iload 57 (zi311 55) rfl rfl rfl ?_
    refine X.iload_n 58 (zi311 57) rfl rfl rfl ?_
    refine X.icmpge 82 61 (zi311 58) rfl rfl rfl (fun h511 => ?_) (fun h511 => ?_)
    · refine X.cut [(0, zr 4 44), (1, zi y1), (2, zi y2), (3, zl y3), (5, zi y5), (6, zi y6), (7, zl y7)] (zi311 82) rfl ?_
      exact K82 y7 (by first | trivial | omega) (by omega) (Eq.trans hR (Eq.trans (if_pos h511) rfl))
    · refine X.lload 63 (zi311 61) rfl rfl rfl ?_
      refine X.aload_n 64 (zi311 63) rfl rfl rfl ?_
      refine X.iload 66 (zi311 64) rfl rfl rfl ?_
      refine X.iload 68 (zi311 66) rfl rfl rfl ?_
      refine X.iadd 69 (zi311 68) rfl rfl (by omega) ?_
      refine X.iconst 70 (zi311 69) rfl rfl (by decide) ?_
      refine X.callv 73 [zi (y6 + y9), zi 1] [zl y7] [(0, zr 4 44), (1, zi (y6 + y9)), (2, zi 1)] (zi311 70) rfl (by decide) rfl rfl (by omega) rfl rfl (by decide) rfl t234 (Nat.le_of_ble_eq_true rfl) (Nat.le_of_ble_eq_true rfl) rfl ?_
      refine c234_8 (B := B)  (y6 + y9) 1 (by omega) (hJ.up (by omega)) (by omega) (by omega) (by omega) (fun v514 hv514 hFv514 => ?_)
      show X (EE s) d 311 73 [(0, zr 4 44), (1, zi y1), (2, zi y2), (3, zl y3), (5, zi y5), (6, zi y6), (7, zl y7), (9, zi y9)] [zl v514, zl y7] m _
      refine X.laddW 74 (zi311 73) rfl rfl (fun z515 ez515 hz515 => ?_)
      refine X.lstore 76 [(0, zr 4 44), (1, zi y1), (2, zi y2), (3, zl y3), (5, zi y5), (6, zi y6), (7, zl z515), (9, zi y9)] (zi311 74) rfl rfl rfl ?_
      refine X.iinc 79 [(0, zr 4 44), (1, zi y1), (2, zi y2), (3, zl y3), (5, zi y5), (6, zi y6), (7, zl z515), (9, zi (y9 + 1))] (zi311 76) rfl rfl rfl (by omega) rfl ?_
      refine X.goto 55 (zi311 79) rfl rfl ?_
      exact ih z515 (y9 + 1) (by omega) (by omega) (by omega) (Eq.trans hR (Eq.trans (if_neg h511) (Eq.trans (zn_eq hFv514.symm) (Eq.trans (zn_eq ez515) rfl))))
noncomputable def fl311_38_1_b (self : Int → Int → Int → Int) (k109 : Int → Int → Int) (y1 y2 : Int) (m : zM) (y3 y5 y6 : Int) : Int :=
  zn (f235_1 m) fun v528 =>
  if v528 < (y6 + y1) then
  (k109 y3 y5)
  else
  (fl311_55_1 (fun y530 =>
  if y530 < y3 then
  (self y3 y5 (y6 + 1))
  else
  (self y530 ((y6 + y1) - 1) (y6 + 1))) y1 y2 y3 y5 y6 m (zfu 65) 0 0)
noncomputable def fl311_38_1 (k109 : Int → Int → Int) (y1 y2 : Int) (m : zM) : Nat → Int → Int → Int → Int
  | 0 => fun y3 y5 y6 => 0
  | n + 1 => fl311_38_1_b (fl311_38_1 k109 y1 y2 m n) k109 y1 y2 m
theorem l311_38_1 {s : Nat × (Nat → Int32)} {S : zS} {m0 : zM} {m : zM} {B : Int} {d : Nat} {Q : Option zV → zM → Prop} {R0 : Int} {k109 : Int → Int → Int} (y1 y2 : Int) (hd : 14 ≤ d) (hJ : J S m0 B m) (hB9 : B ≤ 1000000000) (hy1 : 1 ≤ y1 ∧ y1 ≤ 64) (hy2 : 0 ≤ y2 ∧ y2 ≤ 1)
    (K109 : ∀ (x3 x5 : Int) , ((-1) ≤ x3) → (0 ≤ x5 ∧ x5 ≤ 63) → R0 = k109 x3 x5 → X (EE s) d 311 109 [(0, zr 4 44), (2, zi y2), (3, zl x3), (5, zi x5)] [] m Q) :
    ∀ (n : Nat) (y3 y5 y6 : Int) , ((-1) ≤ y3) → (0 ≤ y5 ∧ y5 ≤ 63) → (0 ≤ y6 ∧ y6 ≤ 64) → 64 - y6 < (n : Int) → R0 = fl311_38_1 k109 y1 y2 m n y3 y5 y6 → X (EE s) d 311 38 [(0, zr 4 44), (1, zi y1), (2, zi y2), (3, zl y3), (5, zi y5), (6, zi y6)] [] m Q := by
  intro n
  induction n with
  | zero =>
    intro y3 y5 y6 hy3 hy5 hy6 hn hR
    exfalso
    omega
  | succ n ih =>
    intro y3 y5 y6 hy3 hy5 hy6 hn hR
    replace hR : R0 = fl311_38_1_b (fl311_38_1 k109 y1 y2 m n) k109 y1 y2 m y3 y5 y6 := hR
    refine X.iload 40 (zi311 38) rfl rfl rfl ?_
    refine X.iload_n 41 (zi311 40) rfl rfl rfl ?_
    refine X.iadd 42 (zi311 41) rfl rfl (by omega) ?_
    refine X.aload_n 43 (zi311 42) rfl rfl rfl ?_
    refine X.callv 46 [] [zi (y6 + y1)] [(0, zr 4 44)] (zi311 43) rfl (by decide) rfl rfl (by omega) rfl rfl (by decide) rfl t235 (Nat.le_of_ble_eq_true rfl) (Nat.le_of_ble_eq_true rfl) rfl ?_
    refine c235_1 (B := B)   (by omega) (hJ.up (by omega)) (by omega)  (fun v528 hv528 hFv528 => ?_)
    show X (EE s) d 311 46 [(0, zr 4 44), (1, zi y1), (2, zi y2), (3, zl y3), (5, zi y5), (6, zi y6)] [zi v528, zi (y6 + y1)] m _
    refine X.icmpgt 109 49 (zi311 46) rfl rfl rfl (fun h529 => ?_) (fun h529 => ?_)
    · refine X.cut [(0, zr 4 44), (2, zi y2), (3, zl y3), (5, zi y5)] (zi311 109) rfl ?_
      exact K109 y3 y5 (by first | trivial | omega) (by first | trivial | omega) (Eq.trans hR (Eq.trans (zn_eq hFv528.symm) (Eq.trans (if_pos h529) rfl)))
    · refine X.lconst (y := 0) 50 (zi311 49) rfl rfl rfl ?_
      refine X.lstore 52 [(0, zr 4 44), (1, zi y1), (2, zi y2), (3, zl y3), (5, zi y5), (6, zi y6), (7, zl 0)] (zi311 50) rfl rfl rfl ?_
      refine X.iconst 53 (zi311 52) rfl rfl (by decide) ?_
      refine X.istore 55 [(0, zr 4 44), (1, zi y1), (2, zi y2), (3, zl y3), (5, zi y5), (6, zi y6), (7, zl 0), (9, zi 0)] (zi311 53) rfl rfl rfl ?_
      have hz65 := zfu_eq 65
      refine l311_55_3 (s := s) (m := m) (B := B) (d := d)  y1 y2 y3 y5 y6  (by omega) (hJ.up (by omega)) (by omega) (by omega) (by omega) (by omega) (by omega) (by omega) (fun y530 hby530 hrlm531_0 hR534 => ?_) (zfu 65) 0 0 (by omega) (by omega) (by omega) (Eq.trans hR (Eq.trans (zn_eq hFv528.symm) (Eq.trans (if_neg h529) rfl)))
      refine X.lload 84 (zi311 82) rfl rfl rfl ?_
      refine X.lload_n 85 (zi311 84) rfl rfl rfl ?_
      refine X.lcmp 86 (zi311 85) rfl rfl (fun z535 hz535 => ?_)
      refine X.ifge 92 89 (zi311 86) rfl rfl rfl (fun h536 => ?_) (fun h536 => ?_)
      · have h536c : ¬ y530 < y3 := by omega
        clear h536 hz535
        refine X.cut [(0, zr 4 44), (1, zi y1), (2, zi y2), (6, zi y6), (7, zl y530)] (zi311 92) rfl ?_
        refine X.lload 94 (zi311 92) rfl rfl rfl ?_
        refine X.lstore_n 95 [(0, zr 4 44), (1, zi y1), (2, zi y2), (3, zl y530), (6, zi y6), (7, zl y530)] (zi311 94) rfl rfl rfl ?_
        refine X.iload 97 (zi311 95) rfl rfl rfl ?_
        refine X.iload_n 98 (zi311 97) rfl rfl rfl ?_
        refine X.iadd 99 (zi311 98) rfl rfl (by omega) ?_
        refine X.iconst 100 (zi311 99) rfl rfl (by decide) ?_
        refine X.isub 101 (zi311 100) rfl rfl (by omega) ?_
        refine X.istore 103 [(0, zr 4 44), (1, zi y1), (2, zi y2), (3, zl y530), (5, zi ((y6 + y1) - 1)), (6, zi y6), (7, zl y530)] (zi311 101) rfl rfl rfl ?_
        refine X.cut [(0, zr 4 44), (1, zi y1), (2, zi y2), (3, zl y530), (5, zi ((y6 + y1) - 1)), (6, zi y6)] (zi311 103) rfl ?_
        refine X.iinc 106 [(0, zr 4 44), (1, zi y1), (2, zi y2), (3, zl y530), (5, zi ((y6 + y1) - 1)), (6, zi (y6 + 1))] (zi311 103) rfl rfl rfl (by omega) rfl ?_
        refine X.goto 38 (zi311 106) rfl rfl ?_
        exact ih y530 ((y6 + y1) - 1) (y6 + 1) (by omega) (by omega) (by omega) (by omega) (Eq.trans hR534 (Eq.trans (if_neg h536c) rfl))
      · have h536c : y530 < y3 := by omega
        clear h536 hz535
        refine X.goto 103 (zi311 89) rfl rfl ?_
        refine X.cut [(0, zr 4 44), (1, zi y1), (2, zi y2), (3, zl y3), (5, zi y5), (6, zi y6)] (zi311 103) rfl ?_
        refine X.iinc 106 [(0, zr 4 44), (1, zi y1), (2, zi y2), (3, zl y3), (5, zi y5), (6, zi (y6 + 1))] (zi311 103) rfl rfl rfl (by omega) rfl ?_
        refine X.goto 38 (zi311 106) rfl rfl ?_
        exact ih y3 y5 (y6 + 1) (by omega) (by omega) (by omega) (by omega) (Eq.trans hR534 (Eq.trans (if_pos h536c) rfl))
-- WorkMeterModel.best
noncomputable def f311_1 (a1 a2 : Int) (m : zM) : Int :=
  zn (f235_1 m) fun v503 =>
  if a1 < 1 then
  ((-1))
  else
  (if a1 ≤ v503 then
  (if a2 < 0 then
  ((-1))
  else
  (if a2 ≤ 1 then
  (fl311_38_1 (fun y518 y519 =>
  zn (if a2 = 0 then
  (y518)
  else
  (zn (f234_1 y519 0 m) fun v527 =>
  v527)) fun v528 =>
  v528) a1 a2 m (zfu 65) (-1) 0 0)
  else
  ((-1))))
  else
  ((-1)))
-- WorkMeterModel.best
theorem c311_1 {s : Nat × (Nat → Int32)} {S : zS} {m0 m : zM} {B : Int} {d : Nat} {Q : Option zV → zM → Prop} (a1 a2 : Int) (hd : 14 ≤ d) (hJ : J S m0 B m) (hB : B + 0 ≤ 1000000000) (ha1 : (-2147483648) ≤ a1 ∧ a1 ≤ 2147483647) (ha2 : (-2147483648) ≤ a2 ∧ a2 ≤ 2147483647) (hQ : ∀ (v : Int), (True) → f311_1 a1 a2 m = v → Q (some (zl v)) m) : X (EE s) d 311 0 [(0, zr 4 44), (1, zi a1), (2, zi a2)] [] m Q := by
  refine X.iload_n 1 (zi311 0) rfl rfl rfl ?_
  refine X.i2l 2 (zi311 1) rfl rfl ?_
  refine X.lconst (y := 1) 3 (zi311 2) rfl rfl rfl ?_
  refine X.aload_n 4 (zi311 3) rfl rfl rfl ?_
  refine X.callv 7 [] [zl 1, zl a1] [(0, zr 4 44)] (zi311 4) rfl (by decide) rfl rfl (by omega) rfl rfl (by decide) rfl t235 (Nat.le_of_ble_eq_true rfl) (Nat.le_of_ble_eq_true rfl) rfl ?_
  refine c235_1 (B := B)   (by omega) (hJ.up (by omega)) (by omega)  (fun v503 hv503 hFv503 => ?_)
  show X (EE s) d 311 7 [(0, zr 4 44), (1, zi a1), (2, zi a2)] [zi v503, zl 1, zl a1] m _
  refine X.i2l 8 (zi311 7) rfl rfl ?_
  refine X.calls 11 [zl a1, zl 1, zl v503] [] [(0, zl a1), (2, zl 1), (4, zl v503)] (zi311 8) (by decide) rfl rfl (by omega) rfl rfl t204 (Nat.le_of_ble_eq_true rfl) (Nat.le_of_ble_eq_true rfl) rfl ?_
  refine X.lload_n 1 (zi204 0) rfl rfl rfl ?_
  refine X.lload_n 2 (zi204 1) rfl rfl rfl ?_
  refine X.lcmp 3 (zi204 2) rfl rfl (fun z504 hz504 => ?_)
  refine X.iflt 17 6 (zi204 3) rfl rfl rfl (fun h505 => ?_) (fun h505 => ?_)
  · have h505c : a1 < 1 := by omega
    clear h505 hz504
    refine X.cut [] (zi204 17) rfl ?_
    refine X.iconst 18 (zi204 17) rfl rfl (by decide) ?_
    refine X.retz (zi204 18) rfl t204 (by omega) ?_
    show X (EE s) d 311 11 [(0, zr 4 44), (1, zi a1), (2, zi a2)] [zi 0] m _
    refine X.ifeq 24 14 (zi311 11) rfl rfl rfl (fun h506 => ?_) (fun h506 => (by exfalso; omega))
    refine X.cut [] (zi311 24) rfl ?_
    refine X.ldc2 27 (zi311 24) rfl rfl (by decide) ?_
    refine X.retl (zi311 27) rfl t311 ?_
    exact hQ (-1) (by first | trivial | omega) (Eq.trans (zn_eq hFv503.symm) (Eq.trans (if_pos h505c) rfl)) 
  · have h505c : ¬ a1 < 1 := by omega
    clear h505 hz504
    refine X.lload_n 7 (zi204 6) rfl rfl rfl ?_
    refine X.lload 9 (zi204 7) rfl rfl rfl ?_
    refine X.lcmp 10 (zi204 9) rfl rfl (fun z507 hz507 => ?_)
    refine X.ifgt 17 13 (zi204 10) rfl rfl rfl (fun h508 => ?_) (fun h508 => ?_)
    · have h508c : ¬ a1 ≤ v503 := by omega
      clear h508 hz507
      refine X.cut [] (zi204 17) rfl ?_
      refine X.iconst 18 (zi204 17) rfl rfl (by decide) ?_
      refine X.retz (zi204 18) rfl t204 (by omega) ?_
      show X (EE s) d 311 11 [(0, zr 4 44), (1, zi a1), (2, zi a2)] [zi 0] m _
      refine X.ifeq 24 14 (zi311 11) rfl rfl rfl (fun h509 => ?_) (fun h509 => (by exfalso; omega))
      refine X.cut [] (zi311 24) rfl ?_
      refine X.ldc2 27 (zi311 24) rfl rfl (by decide) ?_
      refine X.retl (zi311 27) rfl t311 ?_
      exact hQ (-1) (by first | trivial | omega) (Eq.trans (zn_eq hFv503.symm) (Eq.trans (if_neg h505c) (Eq.trans (if_neg h508c) rfl))) 
    · have h508c : a1 ≤ v503 := by omega
      clear h508 hz507
      refine X.iconst 14 (zi204 13) rfl rfl (by decide) ?_
      refine X.goto 18 (zi204 14) rfl rfl ?_
      refine X.cut [] (zi204 18) rfl ?_
      refine X.retz (zi204 18) rfl t204 (by omega) ?_
      show X (EE s) d 311 11 [(0, zr 4 44), (1, zi a1), (2, zi a2)] [zi 1] m _
      refine X.ifeq 24 14 (zi311 11) rfl rfl rfl (fun h510 => (by exfalso; omega)) (fun h510 => ?_)
      refine X.iload_n 15 (zi311 14) rfl rfl rfl ?_
      refine X.i2l 16 (zi311 15) rfl rfl ?_
      refine X.lconst (y := 0) 17 (zi311 16) rfl rfl rfl ?_
      refine X.lconst (y := 1) 18 (zi311 17) rfl rfl rfl ?_
      refine X.calls 21 [zl a2, zl 0, zl 1] [] [(0, zl a2), (2, zl 0), (4, zl 1)] (zi311 18) (by decide) rfl rfl (by omega) rfl rfl t204 (Nat.le_of_ble_eq_true rfl) (Nat.le_of_ble_eq_true rfl) rfl ?_
      refine X.lload_n 1 (zi204 0) rfl rfl rfl ?_
      refine X.lload_n 2 (zi204 1) rfl rfl rfl ?_
      refine X.lcmp 3 (zi204 2) rfl rfl (fun z511 hz511 => ?_)
      refine X.iflt 17 6 (zi204 3) rfl rfl rfl (fun h512 => ?_) (fun h512 => ?_)
      · have h512c : a2 < 0 := by omega
        clear h512 hz511
        refine X.cut [] (zi204 17) rfl ?_
        refine X.iconst 18 (zi204 17) rfl rfl (by decide) ?_
        refine X.retz (zi204 18) rfl t204 (by omega) ?_
        show X (EE s) d 311 21 [(0, zr 4 44), (1, zi a1), (2, zi a2)] [zi 0] m _
        refine X.ifne 28 24 (zi311 21) rfl rfl rfl (fun h513 => (by exfalso; omega)) (fun h513 => ?_)
        refine X.cut [] (zi311 24) rfl ?_
        refine X.ldc2 27 (zi311 24) rfl rfl (by decide) ?_
        refine X.retl (zi311 27) rfl t311 ?_
        exact hQ (-1) (by first | trivial | omega) (Eq.trans (zn_eq hFv503.symm) (Eq.trans (if_neg h505c) (Eq.trans (if_pos h508c) (Eq.trans (if_pos h512c) rfl)))) 
      · have h512c : ¬ a2 < 0 := by omega
        clear h512 hz511
        refine X.lload_n 7 (zi204 6) rfl rfl rfl ?_
        refine X.lload 9 (zi204 7) rfl rfl rfl ?_
        refine X.lcmp 10 (zi204 9) rfl rfl (fun z514 hz514 => ?_)
        refine X.ifgt 17 13 (zi204 10) rfl rfl rfl (fun h515 => ?_) (fun h515 => ?_)
        · have h515c : ¬ a2 ≤ 1 := by omega
          clear h515 hz514
          refine X.cut [] (zi204 17) rfl ?_
          refine X.iconst 18 (zi204 17) rfl rfl (by decide) ?_
          refine X.retz (zi204 18) rfl t204 (by omega) ?_
          show X (EE s) d 311 21 [(0, zr 4 44), (1, zi a1), (2, zi a2)] [zi 0] m _
          refine X.ifne 28 24 (zi311 21) rfl rfl rfl (fun h516 => (by exfalso; omega)) (fun h516 => ?_)
          refine X.cut [] (zi311 24) rfl ?_
          refine X.ldc2 27 (zi311 24) rfl rfl (by decide) ?_
          refine X.retl (zi311 27) rfl t311 ?_
          exact hQ (-1) (by first | trivial | omega) (Eq.trans (zn_eq hFv503.symm) (Eq.trans (if_neg h505c) (Eq.trans (if_pos h508c) (Eq.trans (if_neg h512c) (Eq.trans (if_neg h515c) rfl))))) 
        · have h515c : a2 ≤ 1 := by omega
          clear h515 hz514
          refine X.iconst 14 (zi204 13) rfl rfl (by decide) ?_
          refine X.goto 18 (zi204 14) rfl rfl ?_
          refine X.cut [] (zi204 18) rfl ?_
          refine X.retz (zi204 18) rfl t204 (by omega) ?_
          show X (EE s) d 311 21 [(0, zr 4 44), (1, zi a1), (2, zi a2)] [zi 1] m _
          refine X.ifne 28 24 (zi311 21) rfl rfl rfl (fun h517 => ?_) (fun h517 => (by exfalso; omega))
          refine X.ldc2 31 (zi311 28) rfl rfl (by decide) ?_
          refine X.lstore_n 32 [(0, zr 4 44), (1, zi a1), (2, zi a2), (3, zl (-1))] (zi311 31) rfl rfl rfl ?_
          refine X.iconst 33 (zi311 32) rfl rfl (by decide) ?_
          refine X.istore 35 [(0, zr 4 44), (1, zi a1), (2, zi a2), (3, zl (-1)), (5, zi 0)] (zi311 33) rfl rfl rfl ?_
          refine X.iconst 36 (zi311 35) rfl rfl (by decide) ?_
          refine X.istore 38 [(0, zr 4 44), (1, zi a1), (2, zi a2), (3, zl (-1)), (5, zi 0), (6, zi 0)] (zi311 36) rfl rfl rfl ?_
          have hz65 := zfu_eq 65
          refine l311_38_1 (s := s) (m := m) (B := B) (d := d) (R0 := (f311_1 a1 a2 m))  a1 a2  (by omega) (hJ.up (by omega)) (by omega) (by omega) (by omega) (fun y518 y519 hby518 hby519 hR523 => ?_) (zfu 65) (-1) 0 0 (by omega) (by omega) (by omega) (by omega) (Eq.trans (zn_eq hFv503.symm) (Eq.trans (if_neg h505c) (Eq.trans (if_pos h508c) (Eq.trans (if_neg h512c) (Eq.trans (if_pos h515c) rfl)))))
          refine X.iload_n 110 (zi311 109) rfl rfl rfl ?_
          have hK531 : ∀ (v : Int) , (True) → (if a2 = 0 then
              (y518)
              else
              (zn (f234_1 y519 0 m) fun v527 =>
              v527)) = v → X (EE s) d 311 124 [] [zl v] m Q := by
            intro v528 hv528 hT532
            refine X.retl (zi311 124) rfl t311 ?_
            exact hQ v528 (by first | trivial | omega) (Eq.trans hR523 (Eq.trans (zn_eq hT532.symm) rfl)) 
          refine X.ifne 117 113 (zi311 110) rfl rfl rfl (fun h524 => ?_) (fun h524 => ?_)
          · refine X.cut [(0, zr 4 44), (5, zi y519)] (zi311 117) rfl ?_
            refine X.aload_n 118 (zi311 117) rfl rfl rfl ?_
            refine X.iload 120 (zi311 118) rfl rfl rfl ?_
            refine X.iconst 121 (zi311 120) rfl rfl (by decide) ?_
            refine X.callv 124 [zi y519, zi 0] [] [(0, zr 4 44), (1, zi y519), (2, zi 0)] (zi311 121) rfl (by decide) rfl rfl (by omega) rfl rfl (by decide) rfl t234 (Nat.le_of_ble_eq_true rfl) (Nat.le_of_ble_eq_true rfl) rfl ?_
            refine c234_3 (B := B)  y519 0 (by omega) (hJ.up (by omega)) (by omega) (by omega) (by omega) (fun v527 hv527 hFv527 => ?_)
            show X (EE s) d 311 124 [(0, zr 4 44), (5, zi y519)] [zl v527] m _
            refine X.cut [] (zi311 124) rfl ?_
            exact hK531 v527 (by first | trivial | omega) (Eq.trans (if_neg h524) (Eq.trans (zn_eq hFv527.symm) rfl))
          · refine X.lload_n 114 (zi311 113) rfl rfl rfl ?_
            refine X.goto 124 (zi311 114) rfl rfl ?_
            refine X.cut [] (zi311 124) rfl ?_
            exact hK531 y518 (by first | trivial | omega) (Eq.trans (if_pos h524) rfl)
noncomputable def fl189_17_1_b (self : Int → Int → Int) (k77 : Int → Int) (y1 y2 y5 : Int) (m : zM) (y3 y6 : Int) : Int :=
  if y5 ≤ y6 then
  (k77 y3)
  else
  (zn (if (m 0 28 ((((((m 0 27 2) - 1) - y6) % 64) * 6) + 0)) ≤ y1 then
  (y3)
  else
  (if (m 0 28 ((((((m 0 27 2) - 1) - y6) % 64) * 6) + 0)) ≤ y2 then
  (zn (w64 (y3 + (m 0 28 ((((((m 0 27 2) - 1) - y6) % 64) * 6) + 1)))) fun z531 =>
  z531)
  else
  (y3))) fun v532 =>
  self v532 (y6 + 1))
noncomputable def fl189_17_1 (k77 : Int → Int) (y1 y2 y5 : Int) (m : zM) : Nat → Int → Int → Int
  | 0 => fun y3 y6 => 0
  | n + 1 => fl189_17_1_b (fl189_17_1 k77 y1 y2 y5 m n) k77 y1 y2 y5 m
theorem l189_17_1 {s : Nat × (Nat → Int32)} {S : zS} {m0 : zM} {m : zM} {B : Int} {d : Nat} {Q : Option zV → zM → Prop} {R0 : Int} {k77 : Int → Int} (y1 y2 y5 : Int) (hd : 13 ≤ d) (hJ : J S m0 B m) (hB9 : B ≤ 1000000000) (hy1 : (-2147483648) ≤ y1 ∧ y1 ≤ 2147483647) (hy2 : (-2147483648) ≤ y2 ∧ y2 ≤ 2147483647) (hy5 : 0 ≤ y5 ∧ y5 ≤ 64)
    (K77 : ∀ (x3 : Int) , (True) → (y5 ≤ m 0 27 2) → R0 = k77 x3 → X (EE s) d 189 77 [(3, zl x3)] [] m Q) :
    ∀ (n : Nat) (y3 y6 : Int) , (0 ≤ y6 ∧ y6 ≤ 64) → (y5 ≤ m 0 27 2) → 64 - y6 < (n : Int) → R0 = fl189_17_1 k77 y1 y2 y5 m n y3 y6 → X (EE s) d 189 17 [(0, zr 4 40), (1, zi y1), (2, zi y2), (3, zl y3), (5, zi y5), (6, zi y6)] [] m Q := by
  intro n
  induction n with
  | zero =>
    intro y3 y6 hy6 hr0 hn hR
    exfalso
    omega
  | succ n ih =>
    intro y3 y6 hy6 hr0 hn hR
    replace hR : R0 = fl189_17_1_b (fl189_17_1 k77 y1 y2 y5 m n) k77 y1 y2 y5 m y3 y6 := hR
    refine X.iload 19 (zi189 17) rfl rfl rfl ?_
    refine X.iload 21 (zi189 19) rfl rfl rfl ?_
    refine X.icmpge 77 24 (zi189 21) rfl rfl rfl (fun h525 => ?_) (fun h525 => ?_)
    · refine X.cut [(3, zl y3)] (zi189 77) rfl ?_
      exact K77 y3 (by first | trivial | omega) (by omega) (Eq.trans hR (Eq.trans (if_pos h525) rfl))
    · refine X.aload_n 25 (zi189 24) rfl rfl rfl ?_
      refine X.getF 28 (zi189 25) rfl rfl (by decide) rfl rfl ?_
      refine X.getR 31 (zi189 28) rfl rfl (by decide) rfl rfl ?_
      refine X.iload 33 (zi189 31) rfl rfl rfl ?_
      refine X.iconst 34 (zi189 33) rfl rfl (by decide) ?_
      refine X.callv 37 [zi y6, zi 0] [] [(0, zr 0 27), (1, zi y6), (2, zi 0)] (zi189 34) rfl (by decide) rfl rfl (by omega) rfl rfl (by decide) rfl t67 (Nat.le_of_ble_eq_true rfl) (Nat.le_of_ble_eq_true rfl) rfl ?_
      refine X.aload_n 1 (zi67 0) rfl rfl rfl ?_
      refine X.getR 4 (zi67 1) rfl rfl (by decide) rfl rfl ?_
      refine X.aload_n 5 (zi67 4) rfl rfl rfl ?_
      refine X.getI 8 2 (zi67 5) rfl rfl (by decide) rfl rfl rfl ?_
      have h526 := r27_2 hJ 0
      refine X.iconst 9 (zi67 8) rfl rfl (by decide) ?_
      refine X.isub 10 (zi67 9) rfl rfl (by omega) ?_
      refine X.iload_n 11 (zi67 10) rfl rfl rfl ?_
      refine X.isub 12 (zi67 11) rfl rfl (by omega) ?_
      refine X.bipush 14 (zi67 12) rfl rfl (by decide) ?_
      refine X.irem 15 (zi67 14) rfl rfl (by omega) ?_
      refine X.bipush 17 (zi67 15) rfl rfl (by decide) ?_
      refine X.imul 18 (zi67 17) rfl rfl (by omega) ?_
      refine X.iload_n 19 (zi67 18) rfl rfl rfl ?_
      refine X.iadd 20 (zi67 19) rfl rfl (by omega) ?_
      refine X.lald 21 (zi67 20) rfl rfl (by decide) rfl (by omega) ?_
      refine X.retl (zi67 21) rfl t67 ?_
      show X (EE s) d 189 37 [(0, zr 4 40), (1, zi y1), (2, zi y2), (3, zl y3), (5, zi y5), (6, zi y6)] [zl (m 0 28 ((((((m 0 27 2) - 1) - y6) % 64) * 6) + 0))] m _
      refine X.lstore 39 [(0, zr 4 40), (1, zi y1), (2, zi y2), (3, zl y3), (5, zi y5), (6, zi y6), (7, zl (m 0 28 ((((((m 0 27 2) - 1) - y6) % 64) * 6) + 0)))] (zi189 37) rfl rfl rfl ?_
      refine X.lload 41 (zi189 39) rfl rfl rfl ?_
      refine X.iload_n 42 (zi189 41) rfl rfl rfl ?_
      refine X.i2l 43 (zi189 42) rfl rfl ?_
      refine X.lcmp 44 (zi189 43) rfl rfl (fun z527 hz527 => ?_)
      have hK535 : ∀ (v : Int) , (True) → (if (m 0 28 ((((((m 0 27 2) - 1) - y6) % 64) * 6) + 0)) ≤ y1 then
          (y3)
          else
          (if (m 0 28 ((((((m 0 27 2) - 1) - y6) % 64) * 6) + 0)) ≤ y2 then
          (zn (w64 (y3 + (m 0 28 ((((((m 0 27 2) - 1) - y6) % 64) * 6) + 1)))) fun z531 =>
          z531)
          else
          (y3))) = v → X (EE s) d 189 71 [(0, zr 4 40), (1, zi y1), (2, zi y2), (3, zl v), (5, zi y5), (6, zi y6)] [] m Q := by
        intro v532 hv532 hT536
        refine X.iinc 74 [(0, zr 4 40), (1, zi y1), (2, zi y2), (3, zl v532), (5, zi y5), (6, zi (y6 + 1))] (zi189 71) rfl rfl rfl (by omega) rfl ?_
        refine X.goto 17 (zi189 74) rfl rfl ?_
        exact ih v532 (y6 + 1) (by omega) (by omega) (by omega) (Eq.trans hR (Eq.trans (if_neg h525) (Eq.trans (zn_eq hT536.symm) rfl)))
      refine X.ifle 71 47 (zi189 44) rfl rfl rfl (fun h528 => ?_) (fun h528 => ?_)
      · have h528c : (m 0 28 ((((((m 0 27 2) - 1) - y6) % 64) * 6) + 0)) ≤ y1 := by omega
        clear h528 hz527
        refine X.cut [(0, zr 4 40), (1, zi y1), (2, zi y2), (3, zl y3), (5, zi y5), (6, zi y6)] (zi189 71) rfl ?_
        exact hK535 y3 (by first | trivial | omega) (Eq.trans (if_pos h528c) rfl)
      · have h528c : ¬ (m 0 28 ((((((m 0 27 2) - 1) - y6) % 64) * 6) + 0)) ≤ y1 := by omega
        clear h528 hz527
        refine X.lload 49 (zi189 47) rfl rfl rfl ?_
        refine X.iload_n 50 (zi189 49) rfl rfl rfl ?_
        refine X.i2l 51 (zi189 50) rfl rfl ?_
        refine X.lcmp 52 (zi189 51) rfl rfl (fun z529 hz529 => ?_)
        refine X.ifgt 71 55 (zi189 52) rfl rfl rfl (fun h530 => ?_) (fun h530 => ?_)
        · have h530c : ¬ (m 0 28 ((((((m 0 27 2) - 1) - y6) % 64) * 6) + 0)) ≤ y2 := by omega
          clear h530 hz529
          refine X.cut [(0, zr 4 40), (1, zi y1), (2, zi y2), (3, zl y3), (5, zi y5), (6, zi y6)] (zi189 71) rfl ?_
          exact hK535 y3 (by first | trivial | omega) (Eq.trans (if_neg h528c) (Eq.trans (if_neg h530c) rfl))
        · have h530c : (m 0 28 ((((((m 0 27 2) - 1) - y6) % 64) * 6) + 0)) ≤ y2 := by omega
          clear h530 hz529
          refine X.lload_n 56 (zi189 55) rfl rfl rfl ?_
          refine X.aload_n 57 (zi189 56) rfl rfl rfl ?_
          refine X.getF 60 (zi189 57) rfl rfl (by decide) rfl rfl ?_
          refine X.getR 63 (zi189 60) rfl rfl (by decide) rfl rfl ?_
          refine X.iload 65 (zi189 63) rfl rfl rfl ?_
          refine X.iconst 66 (zi189 65) rfl rfl (by decide) ?_
          refine X.callv 69 [zi y6, zi 1] [zl y3] [(0, zr 0 27), (1, zi y6), (2, zi 1)] (zi189 66) rfl (by decide) rfl rfl (by omega) rfl rfl (by decide) rfl t67 (Nat.le_of_ble_eq_true rfl) (Nat.le_of_ble_eq_true rfl) rfl ?_
          refine X.aload_n 1 (zi67 0) rfl rfl rfl ?_
          refine X.getR 4 (zi67 1) rfl rfl (by decide) rfl rfl ?_
          refine X.aload_n 5 (zi67 4) rfl rfl rfl ?_
          refine X.getI 8 2 (zi67 5) rfl rfl (by decide) rfl rfl rfl ?_
          refine X.iconst 9 (zi67 8) rfl rfl (by decide) ?_
          refine X.isub 10 (zi67 9) rfl rfl (by omega) ?_
          refine X.iload_n 11 (zi67 10) rfl rfl rfl ?_
          refine X.isub 12 (zi67 11) rfl rfl (by omega) ?_
          refine X.bipush 14 (zi67 12) rfl rfl (by decide) ?_
          refine X.irem 15 (zi67 14) rfl rfl (by omega) ?_
          refine X.bipush 17 (zi67 15) rfl rfl (by decide) ?_
          refine X.imul 18 (zi67 17) rfl rfl (by omega) ?_
          refine X.iload_n 19 (zi67 18) rfl rfl rfl ?_
          refine X.iadd 20 (zi67 19) rfl rfl (by omega) ?_
          refine X.lald 21 (zi67 20) rfl rfl (by decide) rfl (by omega) ?_
          refine X.retl (zi67 21) rfl t67 ?_
          show X (EE s) d 189 69 [(0, zr 4 40), (1, zi y1), (2, zi y2), (3, zl y3), (5, zi y5), (6, zi y6), (7, zl (m 0 28 ((((((m 0 27 2) - 1) - y6) % 64) * 6) + 0)))] [zl (m 0 28 ((((((m 0 27 2) - 1) - y6) % 64) * 6) + 1)), zl y3] m _
          refine X.laddW 70 (zi189 69) rfl rfl (fun z531 ez531 hz531 => ?_)
          refine X.lstore_n 71 [(0, zr 4 40), (1, zi y1), (2, zi y2), (3, zl z531), (5, zi y5), (6, zi y6), (7, zl (m 0 28 ((((((m 0 27 2) - 1) - y6) % 64) * 6) + 0)))] (zi189 70) rfl rfl rfl ?_
          refine X.cut [(0, zr 4 40), (1, zi y1), (2, zi y2), (3, zl z531), (5, zi y5), (6, zi y6)] (zi189 71) rfl ?_
          exact hK535 z531 (by first | trivial | omega) (Eq.trans (if_neg h528c) (Eq.trans (if_pos h530c) (Eq.trans (zn_eq ez531) rfl)))
-- WorkMeter.between
noncomputable def f189_1 (a1 a2 : Int) (m : zM) : Int :=
  fl189_17_1 (fun y502 =>
  y502) a1 a2 (min (m 0 27 2) 64) m (zfu 65) 0 0
-- WorkMeter.between
theorem c189_1 {s : Nat × (Nat → Int32)} {S : zS} {m0 m : zM} {B : Int} {d : Nat} {Q : Option zV → zM → Prop} (a1 a2 : Int) (hd : 14 ≤ d) (hJ : J S m0 B m) (hB : B + 0 ≤ 1000000000) (ha1 : (-2147483648) ≤ a1 ∧ a1 ≤ 2147483647) (ha2 : (-2147483648) ≤ a2 ∧ a2 ≤ 2147483647) (hQ : ∀ (v : Int), (True) → f189_1 a1 a2 m = v → Q (some (zl v)) m) : X (EE s) d 189 0 [(0, zr 4 40), (1, zi a1), (2, zi a2)] [] m Q := by
  refine X.lconst (y := 0) 1 (zi189 0) rfl rfl rfl ?_
  refine X.lstore_n 2 [(0, zr 4 40), (1, zi a1), (2, zi a2), (3, zl 0)] (zi189 1) rfl rfl rfl ?_
  refine X.aload_n 3 (zi189 2) rfl rfl rfl ?_
  refine X.getF 6 (zi189 3) rfl rfl (by decide) rfl rfl ?_
  refine X.getR 9 (zi189 6) rfl rfl (by decide) rfl rfl ?_
  refine X.callv 12 [] [] [(0, zr 0 27)] (zi189 9) rfl (by decide) rfl rfl (by omega) rfl rfl (by decide) rfl t66 (Nat.le_of_ble_eq_true rfl) (Nat.le_of_ble_eq_true rfl) rfl ?_
  refine X.aload_n 1 (zi66 0) rfl rfl rfl ?_
  refine X.getI 4 2 (zi66 1) rfl rfl (by decide) rfl rfl rfl ?_
  have h501 := r27_2 hJ 0
  refine X.bipush 6 (zi66 4) rfl rfl (by decide) ?_
  refine X.minI 9 (zi66 6) rfl rfl (by omega) (Nat.le_of_ble_eq_true rfl) ?_
  refine X.reti (zi66 9) rfl t66 ?_
  show X (EE s) d 189 12 [(0, zr 4 40), (1, zi a1), (2, zi a2), (3, zl 0)] [zi (min (m 0 27 2) 64)] m _
  refine X.istore 14 [(0, zr 4 40), (1, zi a1), (2, zi a2), (3, zl 0), (5, zi (min (m 0 27 2) 64))] (zi189 12) rfl rfl rfl ?_
  refine X.iconst 15 (zi189 14) rfl rfl (by decide) ?_
  refine X.istore 17 [(0, zr 4 40), (1, zi a1), (2, zi a2), (3, zl 0), (5, zi (min (m 0 27 2) 64)), (6, zi 0)] (zi189 15) rfl rfl rfl ?_
  have hz65 := zfu_eq 65
  refine l189_17_1 (s := s) (m := m) (B := B) (d := d) (R0 := (f189_1 a1 a2 m))  a1 a2 (min (m 0 27 2) 64)  (by omega) (hJ.up (by omega)) (by omega) (by omega) (by omega) (by omega) (fun y502 hby502 hrlm503_0 hR506 => ?_) (zfu 65) 0 0 (by omega) (by omega) (by omega) rfl
  refine X.lload_n 78 (zi189 77) rfl rfl rfl ?_
  refine X.retl (zi189 78) rfl t189 ?_
  exact hQ y502 (by first | trivial | omega) (Eq.trans hR506 rfl) 
noncomputable def fl312_5_1_b (self : Int → Int → Int) (k60 : Int → Int) (y1 y2 : Int) (m : zM) (y3 y5 : Int) : Int :=
  zn (f235_1 m) fun v552 =>
  if v552 ≤ y5 then
  (k60 y3)
  else
  (zn (f234_1 y5 0 m) fun v556 =>
  zn (if v556 ≤ y1 then
  (0)
  else
  (zn (f234_1 y5 0 m) fun v561 =>
  if v561 ≤ y2 then
  (zn (f234_1 y5 1 m) fun v566 =>
  v566)
  else
  (0))) fun v567 =>
  zn (w64 (y3 + v567)) fun z572 =>
  self z572 (y5 + 1))
noncomputable def fl312_5_1 (k60 : Int → Int) (y1 y2 : Int) (m : zM) : Nat → Int → Int → Int
  | 0 => fun y3 y5 => 0
  | n + 1 => fl312_5_1_b (fl312_5_1 k60 y1 y2 m n) k60 y1 y2 m
theorem l312_5_1 {s : Nat × (Nat → Int32)} {S : zS} {m0 : zM} {m : zM} {B : Int} {d : Nat} {Q : Option zV → zM → Prop} {R0 : Int} {k60 : Int → Int} (y1 y2 : Int) (hd : 14 ≤ d) (hJ : J S m0 B m) (hB9 : B ≤ 1000000000) (hy1 : (-2147483648) ≤ y1 ∧ y1 ≤ 2147483647) (hy2 : (-2147483648) ≤ y2 ∧ y2 ≤ 2147483647)
    (K60 : ∀ (x3 : Int) , (True) → R0 = k60 x3 → X (EE s) d 312 60 [(3, zl x3)] [] m Q) :
    ∀ (n : Nat) (y3 y5 : Int) , (0 ≤ y5 ∧ y5 ≤ 64) → 64 - y5 < (n : Int) → R0 = fl312_5_1 k60 y1 y2 m n y3 y5 → X (EE s) d 312 5 [(0, zr 4 44), (1, zi y1), (2, zi y2), (3, zl y3), (5, zi y5)] [] m Q := by
  intro n
  induction n with
  | zero =>
    intro y3 y5 hy5 hn hR
    exfalso
    omega
  | succ n ih =>
    intro y3 y5 hy5 hn hR
    replace hR : R0 = fl312_5_1_b (fl312_5_1 k60 y1 y2 m n) k60 y1 y2 m y3 y5 := hR
    refine X.iload 7 (zi312 5) rfl rfl rfl ?_
    refine X.aload_n 8 (zi312 7) rfl rfl rfl ?_
    refine X.callv 11 [] [zi y5] [(0, zr 4 44)] (zi312 8) rfl (by decide) rfl rfl (by omega) rfl rfl (by decide) rfl t235 (Nat.le_of_ble_eq_true rfl) (Nat.le_of_ble_eq_true rfl) rfl ?_
    refine c235_1 (B := B)   (by omega) (hJ.up (by omega)) (by omega)  (fun v552 hv552 hFv552 => ?_)
    show X (EE s) d 312 11 [(0, zr 4 44), (1, zi y1), (2, zi y2), (3, zl y3), (5, zi y5)] [zi v552, zi y5] m _
    refine X.icmpge 60 14 (zi312 11) rfl rfl rfl (fun h553 => ?_) (fun h553 => ?_)
    · refine X.cut [(3, zl y3)] (zi312 60) rfl ?_
      exact K60 y3 (by first | trivial | omega) (Eq.trans hR (Eq.trans (zn_eq hFv552.symm) (Eq.trans (if_pos h553) rfl)))
    · refine X.lload_n 15 (zi312 14) rfl rfl rfl ?_
      refine X.aload_n 16 (zi312 15) rfl rfl rfl ?_
      refine X.iload 18 (zi312 16) rfl rfl rfl ?_
      refine X.iconst 19 (zi312 18) rfl rfl (by decide) ?_
      refine X.callv 22 [zi y5, zi 0] [zl y3] [(0, zr 4 44), (1, zi y5), (2, zi 0)] (zi312 19) rfl (by decide) rfl rfl (by omega) rfl rfl (by decide) rfl t234 (Nat.le_of_ble_eq_true rfl) (Nat.le_of_ble_eq_true rfl) rfl ?_
      refine c234_3 (B := B)  y5 0 (by omega) (hJ.up (by omega)) (by omega) (by omega) (by omega) (fun v556 hv556 hFv556 => ?_)
      show X (EE s) d 312 22 [(0, zr 4 44), (1, zi y1), (2, zi y2), (3, zl y3), (5, zi y5)] [zl v556, zl y3] m _
      refine X.iload_n 23 (zi312 22) rfl rfl rfl ?_
      refine X.i2l 24 (zi312 23) rfl rfl ?_
      refine X.lcmp 25 (zi312 24) rfl rfl (fun z557 hz557 => ?_)
      have hK570 : ∀ (v : Int) , (True) → (if v556 ≤ y1 then
          (0)
          else
          (zn (f234_1 y5 0 m) fun v561 =>
          if v561 ≤ y2 then
          (zn (f234_1 y5 1 m) fun v566 =>
          v566)
          else
          (0))) = v → X (EE s) d 312 52 [(0, zr 4 44), (1, zi y1), (2, zi y2), (5, zi y5)] [zl v, zl y3] m Q := by
        intro v567 hv567 hT571
        refine X.laddW 53 (zi312 52) rfl rfl (fun z572 ez572 hz572 => ?_)
        refine X.lstore_n 54 [(0, zr 4 44), (1, zi y1), (2, zi y2), (3, zl z572), (5, zi y5)] (zi312 53) rfl rfl rfl ?_
        refine X.iinc 57 [(0, zr 4 44), (1, zi y1), (2, zi y2), (3, zl z572), (5, zi (y5 + 1))] (zi312 54) rfl rfl rfl (by omega) rfl ?_
        refine X.goto 5 (zi312 57) rfl rfl ?_
        exact ih z572 (y5 + 1) (by omega) (by omega) (Eq.trans hR (Eq.trans (zn_eq hFv552.symm) (Eq.trans (if_neg h553) (Eq.trans (zn_eq hFv556.symm) (Eq.trans (zn_eq hT571.symm) (Eq.trans (zn_eq ez572) rfl))))))
      refine X.ifle 51 28 (zi312 25) rfl rfl rfl (fun h558 => ?_) (fun h558 => ?_)
      · have h558c : v556 ≤ y1 := by omega
        clear h558 hz557
        refine X.cut [(0, zr 4 44), (1, zi y1), (2, zi y2), (5, zi y5)] (zi312 51) rfl ?_
        refine X.lconst (y := 0) 52 (zi312 51) rfl rfl rfl ?_
        exact hK570 0 (by first | trivial | omega) (Eq.trans (if_pos h558c) rfl)
      · have h558c : ¬ v556 ≤ y1 := by omega
        clear h558 hz557
        refine X.aload_n 29 (zi312 28) rfl rfl rfl ?_
        refine X.iload 31 (zi312 29) rfl rfl rfl ?_
        refine X.iconst 32 (zi312 31) rfl rfl (by decide) ?_
        refine X.callv 35 [zi y5, zi 0] [zl y3] [(0, zr 4 44), (1, zi y5), (2, zi 0)] (zi312 32) rfl (by decide) rfl rfl (by omega) rfl rfl (by decide) rfl t234 (Nat.le_of_ble_eq_true rfl) (Nat.le_of_ble_eq_true rfl) rfl ?_
        refine c234_3 (B := B)  y5 0 (by omega) (hJ.up (by omega)) (by omega) (by omega) (by omega) (fun v561 hv561 hFv561 => ?_)
        show X (EE s) d 312 35 [(0, zr 4 44), (1, zi y1), (2, zi y2), (3, zl y3), (5, zi y5)] [zl v561, zl y3] m _
        refine X.iload_n 36 (zi312 35) rfl rfl rfl ?_
        refine X.i2l 37 (zi312 36) rfl rfl ?_
        refine X.lcmp 38 (zi312 37) rfl rfl (fun z562 hz562 => ?_)
        refine X.ifgt 51 41 (zi312 38) rfl rfl rfl (fun h563 => ?_) (fun h563 => ?_)
        · have h563c : ¬ v561 ≤ y2 := by omega
          clear h563 hz562
          refine X.cut [(0, zr 4 44), (1, zi y1), (2, zi y2), (5, zi y5)] (zi312 51) rfl ?_
          refine X.lconst (y := 0) 52 (zi312 51) rfl rfl rfl ?_
          exact hK570 0 (by first | trivial | omega) (Eq.trans (if_neg h558c) (Eq.trans (zn_eq hFv561.symm) (Eq.trans (if_neg h563c) rfl)))
        · have h563c : v561 ≤ y2 := by omega
          clear h563 hz562
          refine X.aload_n 42 (zi312 41) rfl rfl rfl ?_
          refine X.iload 44 (zi312 42) rfl rfl rfl ?_
          refine X.iconst 45 (zi312 44) rfl rfl (by decide) ?_
          refine X.callv 48 [zi y5, zi 1] [zl y3] [(0, zr 4 44), (1, zi y5), (2, zi 1)] (zi312 45) rfl (by decide) rfl rfl (by omega) rfl rfl (by decide) rfl t234 (Nat.le_of_ble_eq_true rfl) (Nat.le_of_ble_eq_true rfl) rfl ?_
          refine c234_2 (B := B)  y5 1 (by omega) (hJ.up (by omega)) (by omega) (by omega) (by omega) (fun v566 hv566 hFv566 => ?_)
          show X (EE s) d 312 48 [(0, zr 4 44), (1, zi y1), (2, zi y2), (3, zl y3), (5, zi y5)] [zl v566, zl y3] m _
          refine X.goto 52 (zi312 48) rfl rfl ?_
          refine X.cut [(0, zr 4 44), (1, zi y1), (2, zi y2), (5, zi y5)] (zi312 52) rfl ?_
          exact hK570 v566 (by first | trivial | omega) (Eq.trans (if_neg h558c) (Eq.trans (zn_eq hFv561.symm) (Eq.trans (if_pos h563c) (Eq.trans (zn_eq hFv566.symm) rfl))))
-- WorkMeterModel.between
noncomputable def f312_1 (a1 a2 : Int) (m : zM) : Int :=
  fl312_5_1 (fun y501 =>
  y501) a1 a2 m (zfu 65) 0 0
-- WorkMeterModel.between
theorem c312_1 {s : Nat × (Nat → Int32)} {S : zS} {m0 m : zM} {B : Int} {d : Nat} {Q : Option zV → zM → Prop} (a1 a2 : Int) (hd : 14 ≤ d) (hJ : J S m0 B m) (hB : B + 0 ≤ 1000000000) (ha1 : (-2147483648) ≤ a1 ∧ a1 ≤ 2147483647) (ha2 : (-2147483648) ≤ a2 ∧ a2 ≤ 2147483647) (hQ : ∀ (v : Int), (True) → f312_1 a1 a2 m = v → Q (some (zl v)) m) : X (EE s) d 312 0 [(0, zr 4 44), (1, zi a1), (2, zi a2)] [] m Q := by
  refine X.lconst (y := 0) 1 (zi312 0) rfl rfl rfl ?_
  refine X.lstore_n 2 [(0, zr 4 44), (1, zi a1), (2, zi a2), (3, zl 0)] (zi312 1) rfl rfl rfl ?_
  refine X.iconst 3 (zi312 2) rfl rfl (by decide) ?_
  refine X.istore 5 [(0, zr 4 44), (1, zi a1), (2, zi a2), (3, zl 0), (5, zi 0)] (zi312 3) rfl rfl rfl ?_
  have hz65 := zfu_eq 65
  refine l312_5_1 (s := s) (m := m) (B := B) (d := d) (R0 := (f312_1 a1 a2 m))  a1 a2  (by omega) (hJ.up (by omega)) (by omega) (by omega) (by omega) (fun y501 hby501 hR505 => ?_) (zfu 65) 0 0 (by omega) (by omega) rfl
  refine X.lload_n 61 (zi312 60) rfl rfl rfl ?_
  refine X.retl (zi312 61) rfl t312 ?_
  exact hQ y501 (by first | trivial | omega) (Eq.trans hR505 rfl) 
-- WorkMeter.log
noncomputable def f190_1 (a1 a2 : Int) (m : zM) : Int :=
  if a1 < 0 then
  ((-1))
  else
  (if (min (m 0 37 1) 40) ≤ a1 then
  ((-1))
  else
  (if a2 < 0 then
  ((-1))
  else
  (if a2 < 3 then
  ((m 0 38 ((((((m 0 37 1) - 1) - a1) % 40) * 3) + a2)))
  else
  ((-1)))))
-- WorkMeter.log
theorem c190_1 {s : Nat × (Nat → Int32)} {S : zS} {m0 m : zM} {B : Int} {d : Nat} {Q : Option zV → zM → Prop} (a1 a2 : Int) (hd : 14 ≤ d) (hJ : J S m0 B m) (hB : B + 0 ≤ 1000000000) (ha1 : (-2147483648) ≤ a1 ∧ a1 ≤ 2147483647) (ha2 : (-2147483648) ≤ a2 ∧ a2 ≤ 2147483647) (hQ : ∀ (v : Int), ((-2147483648) ≤ v ∧ v ≤ 2147483647) → f190_1 a1 a2 m = v → Q (some (zi v)) m) : X (EE s) d 190 0 [(0, zr 4 40), (1, zi a1), (2, zi a2)] [] m Q := by
  refine X.iload_n 1 (zi190 0) rfl rfl rfl ?_
  refine X.iflt 27 4 (zi190 1) rfl rfl rfl (fun h501 => ?_) (fun h501 => ?_)
  · refine X.cut [] (zi190 27) rfl ?_
    refine X.iconst 28 (zi190 27) rfl rfl (by decide) ?_
    refine X.reti (zi190 28) rfl t190 ?_
    exact hQ (-1) (by first | trivial | omega) (Eq.trans (if_pos h501) rfl) 
  · refine X.iload_n 5 (zi190 4) rfl rfl rfl ?_
    refine X.aload_n 6 (zi190 5) rfl rfl rfl ?_
    refine X.getF 9 (zi190 6) rfl rfl (by decide) rfl rfl ?_
    refine X.getR 12 (zi190 9) rfl rfl (by decide) rfl rfl ?_
    refine X.callv 15 [] [zi a1] [(0, zr 0 37)] (zi190 12) rfl (by decide) rfl rfl (by omega) rfl rfl (by decide) rfl t191 (Nat.le_of_ble_eq_true rfl) (Nat.le_of_ble_eq_true rfl) rfl ?_
    refine X.aload_n 1 (zi191 0) rfl rfl rfl ?_
    refine X.getI 4 1 (zi191 1) rfl rfl (by decide) rfl rfl rfl ?_
    have h502 := r37_1 hJ 0
    refine X.bipush 6 (zi191 4) rfl rfl (by decide) ?_
    refine X.minI 9 (zi191 6) rfl rfl (by omega) (Nat.le_of_ble_eq_true rfl) ?_
    refine X.reti (zi191 9) rfl t191 ?_
    show X (EE s) d 190 15 [(0, zr 4 40), (1, zi a1), (2, zi a2)] [zi (min (m 0 37 1) 40), zi a1] m _
    refine X.icmpge 27 18 (zi190 15) rfl rfl rfl (fun h503 => ?_) (fun h503 => ?_)
    · refine X.cut [] (zi190 27) rfl ?_
      refine X.iconst 28 (zi190 27) rfl rfl (by decide) ?_
      refine X.reti (zi190 28) rfl t190 ?_
      exact hQ (-1) (by first | trivial | omega) (Eq.trans (if_neg h501) (Eq.trans (if_pos h503) rfl)) 
    · refine X.iload_n 19 (zi190 18) rfl rfl rfl ?_
      refine X.iflt 27 22 (zi190 19) rfl rfl rfl (fun h504 => ?_) (fun h504 => ?_)
      · refine X.cut [] (zi190 27) rfl ?_
        refine X.iconst 28 (zi190 27) rfl rfl (by decide) ?_
        refine X.reti (zi190 28) rfl t190 ?_
        exact hQ (-1) (by first | trivial | omega) (Eq.trans (if_neg h501) (Eq.trans (if_neg h503) (Eq.trans (if_pos h504) rfl))) 
      · refine X.iload_n 23 (zi190 22) rfl rfl rfl ?_
        refine X.iconst 24 (zi190 23) rfl rfl (by decide) ?_
        refine X.icmplt 29 27 (zi190 24) rfl rfl rfl (fun h505 => ?_) (fun h505 => ?_)
        · refine X.aload_n 30 (zi190 29) rfl rfl rfl ?_
          refine X.getF 33 (zi190 30) rfl rfl (by decide) rfl rfl ?_
          refine X.getR 36 (zi190 33) rfl rfl (by decide) rfl rfl ?_
          refine X.iload_n 37 (zi190 36) rfl rfl rfl ?_
          refine X.iload_n 38 (zi190 37) rfl rfl rfl ?_
          refine X.callv 41 [zi a1, zi a2] [] [(0, zr 0 37), (1, zi a1), (2, zi a2)] (zi190 38) rfl (by decide) rfl rfl (by omega) rfl rfl (by decide) rfl t192 (Nat.le_of_ble_eq_true rfl) (Nat.le_of_ble_eq_true rfl) rfl ?_
          refine X.aload_n 1 (zi192 0) rfl rfl rfl ?_
          refine X.getR 4 (zi192 1) rfl rfl (by decide) rfl rfl ?_
          refine X.aload_n 5 (zi192 4) rfl rfl rfl ?_
          refine X.getI 8 1 (zi192 5) rfl rfl (by decide) rfl rfl rfl ?_
          refine X.iconst 9 (zi192 8) rfl rfl (by decide) ?_
          refine X.isub 10 (zi192 9) rfl rfl (by omega) ?_
          refine X.iload_n 11 (zi192 10) rfl rfl rfl ?_
          refine X.isub 12 (zi192 11) rfl rfl (by omega) ?_
          refine X.bipush 14 (zi192 12) rfl rfl (by decide) ?_
          refine X.irem 15 (zi192 14) rfl rfl (by omega) ?_
          refine X.iconst 16 (zi192 15) rfl rfl (by decide) ?_
          refine X.imul 17 (zi192 16) rfl rfl (by omega) ?_
          refine X.iload_n 18 (zi192 17) rfl rfl rfl ?_
          refine X.iadd 19 (zi192 18) rfl rfl (by omega) ?_
          refine X.ialdr 20 (zi192 19) rfl rfl (by decide) rfl (by omega) (fun h506 => ?_)
          refine X.reti (zi192 20) rfl t192 ?_
          show X (EE s) d 190 41 [(0, zr 4 40), (1, zi a1), (2, zi a2)] [zi (m 0 38 ((((((m 0 37 1) - 1) - a1) % 40) * 3) + a2))] m _
          refine X.reti (zi190 41) rfl t190 ?_
          exact hQ (m 0 38 ((((((m 0 37 1) - 1) - a1) % 40) * 3) + a2)) (by first | trivial | omega) (Eq.trans (if_neg h501) (Eq.trans (if_neg h503) (Eq.trans (if_neg h504) (Eq.trans (if_pos h505) rfl)))) 
        · refine X.cut [] (zi190 27) rfl ?_
          refine X.iconst 28 (zi190 27) rfl rfl (by decide) ?_
          refine X.reti (zi190 28) rfl t190 ?_
          exact hQ (-1) (by first | trivial | omega) (Eq.trans (if_neg h501) (Eq.trans (if_neg h503) (Eq.trans (if_neg h504) (Eq.trans (if_neg h505) rfl)))) 
-- WorkMeterModel.log
noncomputable def f313_1 (a1 a2 : Int) (m : zM) : Int :=
  zn (if (m 4 45 16) < 40 then
  ((m 4 45 16))
  else
  (40)) fun v504 =>
  if a1 < 0 then
  ((-1))
  else
  (if a1 ≤ (v504 - 1) then
  (if a2 < 0 then
  ((-1))
  else
  (if a2 ≤ 2 then
  (zn (w32 (m 4 45 ((1487 + (3 * ((v504 - 1) - a1))) + a2))) fun z523 =>
  z523)
  else
  ((-1))))
  else
  ((-1)))
end
