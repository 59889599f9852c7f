section
-- WorkMeterModel.seen
theorem c303_1 {s : Nat × (Nat → Int32)} {S : zS} {m0 m : zM} {B : Int} {d : Nat} {Q : Option zV → zM → Prop} (a1 : Int) (hd : 14 ≤ d) (hJ : J S m0 B m) (hB : B + 0 ≤ 1000000000) (ha1 : 0 ≤ a1 ∧ a1 ≤ 6) (hQ : ∀ (v : Int), (True) → f303_1 a1 m = v → Q (some (zl v)) m) : X (EE s) d 303 0 [(0, zr 4 44), (1, zi a1)] [] m Q := by
  refine X.iload_n 1 i303_0 rfl rfl rfl ?_
  by_cases h501 : a1 = 0
  · refine X.tsIn 40 0 i303_1 rfl (by omega) rfl rfl ?_
    refine X.cut [(0, zr 4 44)] i303_40 rfl ?_
    refine X.aload_n 41 i303_40 rfl rfl rfl ?_
    refine X.getF 44 i303_41 rfl rfl (by decide) rfl rfl ?_
    refine X.bipush 46 i303_44 rfl rfl (by decide) ?_
    refine X.lald 47 i303_46 rfl rfl (by decide) rfl (by omega) ?_
    refine X.aload_n 48 i303_47 rfl rfl rfl ?_
    refine X.getF 51 i303_48 rfl rfl (by decide) rfl rfl ?_
    refine X.iconst 52 i303_51 rfl rfl (by decide) ?_
    refine X.lald 53 i303_52 rfl rfl (by decide) rfl (by omega) ?_
    have h502 := r45_5 hJ 4
    refine X.ldivW 54 i303_53 rfl rfl (by omega) (fun z503 ez503 hz503 => ?_)
    refine X.retl i303_54 rfl t303 ?_
    exact hQ z503 (by first | trivial | omega) (Eq.trans (if_pos h501) (Eq.trans (zn_eq ez503) rfl)) 
  by_cases h504 : a1 = 1
  · refine X.tsIn 55 1 i303_1 rfl (by omega) rfl rfl ?_
    refine X.cut [(0, zr 4 44)] i303_55 rfl ?_
    refine X.aload_n 56 i303_55 rfl rfl rfl ?_
    refine X.getF 59 i303_56 rfl rfl (by decide) rfl rfl ?_
    refine X.bipush 61 i303_59 rfl rfl (by decide) ?_
    refine X.lald 62 i303_61 rfl rfl (by decide) rfl (by omega) ?_
    refine X.aload_n 63 i303_62 rfl rfl rfl ?_
    refine X.getF 66 i303_63 rfl rfl (by decide) rfl rfl ?_
    refine X.iconst 67 i303_66 rfl rfl (by decide) ?_
    refine X.lald 68 i303_67 rfl rfl (by decide) rfl (by omega) ?_
    have h505 := r45_5 hJ 4
    refine X.ldivW 69 i303_68 rfl rfl (by omega) (fun z506 ez506 hz506 => ?_)
    refine X.retl i303_69 rfl t303 ?_
    exact hQ z506 (by first | trivial | omega) (Eq.trans (if_neg h501) (Eq.trans (if_pos h504) (Eq.trans (zn_eq ez506) rfl))) 
  by_cases h507 : a1 = 2
  · refine X.tsIn 70 2 i303_1 rfl (by omega) rfl rfl ?_
    refine X.cut [(0, zr 4 44)] i303_70 rfl ?_
    refine X.aload_n 71 i303_70 rfl rfl rfl ?_
    refine X.getF 74 i303_71 rfl rfl (by decide) rfl rfl ?_
    refine X.bipush 76 i303_74 rfl rfl (by decide) ?_
    refine X.lald 77 i303_76 rfl rfl (by decide) rfl (by omega) ?_
    refine X.retl i303_77 rfl t303 ?_
    exact hQ (m 4 45 10) (by first | trivial | omega) (Eq.trans (if_neg h501) (Eq.trans (if_neg h504) (Eq.trans (if_pos h507) rfl))) 
  by_cases h508 : a1 = 3
  · refine X.tsIn 78 3 i303_1 rfl (by omega) rfl rfl ?_
    refine X.cut [(0, zr 4 44)] i303_78 rfl ?_
    refine X.aload_n 79 i303_78 rfl rfl rfl ?_
    refine X.callv 82 [] [] [(0, zr 4 44)] i303_79 rfl (by decide) rfl rfl (by omega) rfl rfl (by decide) rfl t304 (Nat.le_of_ble_eq_true rfl) (Nat.le_of_ble_eq_true rfl) rfl ?_
    refine c304_1 (B := B)   (by omega) (hJ.up (by omega)) (by omega)  (fun v511 hv511 hFv511 => ?_)
    show X (EE s) d 303 82 [(0, zr 4 44)] [zl v511] m _
    refine X.retl i303_82 rfl t303 ?_
    exact hQ v511 (by first | trivial | omega) (Eq.trans (if_neg h501) (Eq.trans (if_neg h504) (Eq.trans (if_neg h507) (Eq.trans (if_pos h508) (Eq.trans (zn_eq hFv511.symm) rfl))))) 
  by_cases h512 : a1 = 4
  · refine X.tsIn 83 4 i303_1 rfl (by omega) rfl rfl ?_
    refine X.cut [(0, zr 4 44)] i303_83 rfl ?_
    refine X.aload_n 84 i303_83 rfl rfl rfl ?_
    refine X.callv 87 [] [] [(0, zr 4 44)] i303_84 rfl (by decide) rfl rfl (by omega) rfl rfl (by decide) rfl t231 (Nat.le_of_ble_eq_true rfl) (Nat.le_of_ble_eq_true rfl) rfl ?_
    refine c231_1 (B := B)   (by omega) (hJ.up (by omega)) (by omega)  (fun v515 hv515 hFv515 => ?_)
    show X (EE s) d 303 87 [(0, zr 4 44)] [zl v515] m _
    refine X.retl i303_87 rfl t303 ?_
    exact hQ v515 (by first | trivial | omega) (Eq.trans (if_neg h501) (Eq.trans (if_neg h504) (Eq.trans (if_neg h507) (Eq.trans (if_neg h508) (Eq.trans (if_pos h512) (Eq.trans (zn_eq hFv515.symm) rfl)))))) 
  by_cases h516 : a1 = 5
  · refine X.tsIn 88 5 i303_1 rfl (by omega) rfl rfl ?_
    refine X.cut [(0, zr 4 44)] i303_88 rfl ?_
    refine X.aload_n 89 i303_88 rfl rfl rfl ?_
    refine X.getF 92 i303_89 rfl rfl (by decide) rfl rfl ?_
    refine X.bipush 94 i303_92 rfl rfl (by decide) ?_
    refine X.lald 95 i303_94 rfl rfl (by decide) rfl (by omega) ?_
    have h517 := r45_12 hJ 4
    refine X.retl i303_95 rfl t303 ?_
    exact hQ (m 4 45 12) (by first | trivial | omega) (Eq.trans (if_neg h501) (Eq.trans (if_neg h504) (Eq.trans (if_neg h507) (Eq.trans (if_neg h508) (Eq.trans (if_neg h512) (Eq.trans (if_pos h516) rfl)))))) 
  refine X.tsOut 96 i303_1 rfl (by omega) rfl ?_
  refine X.cut [(0, zr 4 44)] i303_96 rfl ?_
  refine X.aload_n 97 i303_96 rfl rfl rfl ?_
  refine X.getF 100 i303_97 rfl rfl (by decide) rfl rfl ?_
  refine X.iconst 101 i303_100 rfl rfl (by decide) ?_
  refine X.lald 102 i303_101 rfl rfl (by decide) rfl (by omega) ?_
  have h518 := r45_0 hJ 4
  refine X.retl i303_102 rfl t303 ?_
  exact hQ (m 4 45 0) (by first | trivial | omega) (Eq.trans (if_neg h501) (Eq.trans (if_neg h504) (Eq.trans (if_neg h507) (Eq.trans (if_neg h508) (Eq.trans (if_neg h512) (Eq.trans (if_neg h516) rfl)))))) 
-- WorkMeterModel.would
noncomputable def f302_1 (a1 a2 : Int) (m : zM) : Int × zM :=
  if a1 < 1 then
  (((-10000000000), m))
  else
  (if a1 ≤ 900 then
  (if a2 < 0 then
  (((-10000000000), m))
  else
  (if a2 ≤ 6 then
  (zs (z_cpy m 4 46 4 45 0 0 1619) fun m515 =>
  fl302_41_1 (fun m518 =>
  zn (f303_1 a2 m518) fun v524 =>
  zs (z_cpy m518 4 45 4 46 0 0 1619) fun m525 =>
  (v524, m525)) a1 a2 (zfu 901) 0 m515)
  else
  (((-10000000000), m))))
  else
  (((-10000000000), m)))
-- WorkMeterModel.would
theorem c302_1 {s : Nat × (Nat → Int32)} {S : zS} {m0 m : zM} {B : Int} {d : Nat} {Q : Option zV → zM → Prop} (a1 a2 : Int) (hd : 20 ≤ d) (hJ : J S m0 B m) (hB : B + 9911 ≤ 1000000000) (ha1 : (-2147483648) ≤ a1 ∧ a1 ≤ 2147483647) (ha2 : (-2147483648) ≤ a2 ∧ a2 ≤ 2147483647) (hf21 : ¬ S.1 21) (hf22 : ¬ S.1 22) (hf23 : ¬ S.1 23) (hf24 : ¬ S.1 24) (hf25 : ¬ S.1 25) (hf26 : ¬ S.1 26) (hf27 : ¬ S.1 27) (hf28 : ¬ S.1 28) (hf29 : ¬ S.1 29) (hf30 : ¬ S.1 30) (hf31 : ¬ S.1 31) (hf32 : ¬ S.1 32) (hf33 : ¬ S.1 33) (hf38 : ¬ S.1 38) (hg4 : ¬ S.2.1 4) (hQ : ∀ (v : Int) m', (True) → f302_1 a1 a2 m = (v, m') → J S m0 (B + 9911) m' → Q (some (zl v)) m') : X (EE s) d 302 0 [(0, zr 4 44), (1, zi a1), (2, zi a2)] [] m Q := by
  refine X.iload_n 1 i302_0 rfl rfl rfl ?_
  refine X.i2l 2 i302_1 rfl rfl ?_
  refine X.lconst (y := 1) 3 i302_2 rfl rfl rfl ?_
  refine X.ldc2 6 i302_3 rfl rfl (by decide) ?_
  refine X.calls 9 [zl a1, zl 1, zl 900] [] [(0, zl a1), (2, zl 1), (4, zl 900)] i302_6 (by decide) rfl rfl (by omega) rfl rfl t204 (Nat.le_of_ble_eq_true rfl) (Nat.le_of_ble_eq_true rfl) rfl ?_
  refine X.lload_n 1 i204_0 rfl rfl rfl ?_
  refine X.lload_n 2 i204_1 rfl rfl rfl ?_
  refine X.lcmp 3 i204_2 rfl rfl (fun z501 hz501 => ?_)
  refine X.iflt 17 6 i204_3 rfl rfl rfl (fun h502 => ?_) (fun h502 => ?_)
  · have h502c : a1 < 1 := by omega
    clear h502 hz501
    refine X.cut [] i204_17 rfl ?_
    refine X.iconst 18 i204_17 rfl rfl (by decide) ?_
    refine X.retz i204_18 rfl t204 (by omega) ?_
    show X (EE s) d 302 9 [(0, zr 4 44), (1, zi a1), (2, zi a2)] [zi 0] m _
    refine X.ifeq 24 12 i302_9 rfl rfl rfl (fun h503 => ?_) (fun h503 => (by exfalso; omega))
    refine X.cut [] i302_24 rfl ?_
    refine X.ldc2 27 i302_24 rfl rfl (by decide) ?_
    refine X.retl i302_27 rfl t302 ?_
    exact hQ (-10000000000) m (by first | trivial | omega) (Eq.trans (if_pos h502c) rfl) (hJ.up (by omega)) 
  · have h502c : ¬ a1 < 1 := by omega
    clear h502 hz501
    refine X.lload_n 7 i204_6 rfl rfl rfl ?_
    refine X.lload 9 i204_7 rfl rfl rfl ?_
    refine X.lcmp 10 i204_9 rfl rfl (fun z504 hz504 => ?_)
    refine X.ifgt 17 13 i204_10 rfl rfl rfl (fun h505 => ?_) (fun h505 => ?_)
    · have h505c : ¬ a1 ≤ 900 := by omega
      clear h505 hz504
      refine X.cut [] i204_17 rfl ?_
      refine X.iconst 18 i204_17 rfl rfl (by decide) ?_
      refine X.retz i204_18 rfl t204 (by omega) ?_
      show X (EE s) d 302 9 [(0, zr 4 44), (1, zi a1), (2, zi a2)] [zi 0] m _
      refine X.ifeq 24 12 i302_9 rfl rfl rfl (fun h506 => ?_) (fun h506 => (by exfalso; omega))
      refine X.cut [] i302_24 rfl ?_
      refine X.ldc2 27 i302_24 rfl rfl (by decide) ?_
      refine X.retl i302_27 rfl t302 ?_
      exact hQ (-10000000000) m (by first | trivial | omega) (Eq.trans (if_neg h502c) (Eq.trans (if_neg h505c) rfl)) (hJ.up (by omega)) 
    · have h505c : a1 ≤ 900 := by omega
      clear h505 hz504
      refine X.iconst 14 i204_13 rfl rfl (by decide) ?_
      refine X.goto 18 i204_14 rfl rfl ?_
      refine X.cut [] i204_18 rfl ?_
      refine X.retz i204_18 rfl t204 (by omega) ?_
      show X (EE s) d 302 9 [(0, zr 4 44), (1, zi a1), (2, zi a2)] [zi 1] m _
      refine X.ifeq 24 12 i302_9 rfl rfl rfl (fun h507 => (by exfalso; omega)) (fun h507 => ?_)
      refine X.iload_n 13 i302_12 rfl rfl rfl ?_
      refine X.i2l 14 i302_13 rfl rfl ?_
      refine X.lconst (y := 0) 15 i302_14 rfl rfl rfl ?_
      refine X.ldc2 18 i302_15 rfl rfl (by decide) ?_
      refine X.calls 21 [zl a2, zl 0, zl 6] [] [(0, zl a2), (2, zl 0), (4, zl 6)] i302_18 (by decide) rfl rfl (by omega) rfl rfl t204 (Nat.le_of_ble_eq_true rfl) (Nat.le_of_ble_eq_true rfl) rfl ?_
      refine X.lload_n 1 i204_0 rfl rfl rfl ?_
      refine X.lload_n 2 i204_1 rfl rfl rfl ?_
      refine X.lcmp 3 i204_2 rfl rfl (fun z508 hz508 => ?_)
      refine X.iflt 17 6 i204_3 rfl rfl rfl (fun h509 => ?_) (fun h509 => ?_)
      · have h509c : a2 < 0 := by omega
        clear h509 hz508
        refine X.cut [] i204_17 rfl ?_
        refine X.iconst 18 i204_17 rfl rfl (by decide) ?_
        refine X.retz i204_18 rfl t204 (by omega) ?_
        show X (EE s) d 302 21 [(0, zr 4 44), (1, zi a1), (2, zi a2)] [zi 0] m _
        refine X.ifne 28 24 i302_21 rfl rfl rfl (fun h510 => (by exfalso; omega)) (fun h510 => ?_)
        refine X.cut [] i302_24 rfl ?_
        refine X.ldc2 27 i302_24 rfl rfl (by decide) ?_
        refine X.retl i302_27 rfl t302 ?_
        exact hQ (-10000000000) m (by first | trivial | omega) (Eq.trans (if_neg h502c) (Eq.trans (if_pos h505c) (Eq.trans (if_pos h509c) rfl))) (hJ.up (by omega)) 
      · have h509c : ¬ a2 < 0 := by omega
        clear h509 hz508
        refine X.lload_n 7 i204_6 rfl rfl rfl ?_
        refine X.lload 9 i204_7 rfl rfl rfl ?_
        refine X.lcmp 10 i204_9 rfl rfl (fun z511 hz511 => ?_)
        refine X.ifgt 17 13 i204_10 rfl rfl rfl (fun h512 => ?_) (fun h512 => ?_)
        · have h512c : ¬ a2 ≤ 6 := by omega
          clear h512 hz511
          refine X.cut [] i204_17 rfl ?_
          refine X.iconst 18 i204_17 rfl rfl (by decide) ?_
          refine X.retz i204_18 rfl t204 (by omega) ?_
          show X (EE s) d 302 21 [(0, zr 4 44), (1, zi a1), (2, zi a2)] [zi 0] m _
          refine X.ifne 28 24 i302_21 rfl rfl rfl (fun h513 => (by exfalso; omega)) (fun h513 => ?_)
          refine X.cut [] i302_24 rfl ?_
          refine X.ldc2 27 i302_24 rfl rfl (by decide) ?_
          refine X.retl i302_27 rfl t302 ?_
          exact hQ (-10000000000) m (by first | trivial | omega) (Eq.trans (if_neg h502c) (Eq.trans (if_pos h505c) (Eq.trans (if_neg h509c) (Eq.trans (if_neg h512c) rfl)))) (hJ.up (by omega)) 
        · have h512c : a2 ≤ 6 := by omega
          clear h512 hz511
          refine X.iconst 14 i204_13 rfl rfl (by decide) ?_
          refine X.goto 18 i204_14 rfl rfl ?_
          refine X.cut [] i204_18 rfl ?_
          refine X.retz i204_18 rfl t204 (by omega) ?_
          show X (EE s) d 302 21 [(0, zr 4 44), (1, zi a1), (2, zi a2)] [zi 1] m _
          refine X.ifne 28 24 i302_21 rfl rfl rfl (fun h514 => ?_) (fun h514 => (by exfalso; omega))
          refine X.aload_n 29 i302_28 rfl rfl rfl ?_
          refine X.getF 32 i302_29 rfl rfl (by decide) rfl rfl ?_
          refine X.aload_n 33 i302_32 rfl rfl rfl ?_
          refine X.getF 36 i302_33 rfl rfl (by decide) rfl rfl ?_
          refine X.calls 39 [zr 4 45, zr 4 46] [] [(0, zr 4 45), (1, zr 4 46)] i302_36 (by decide) rfl rfl (by omega) rfl rfl t261 (Nat.le_of_ble_eq_true rfl) (Nat.le_of_ble_eq_true rfl) rfl ?_
          refine c_cq_45_46 (S := S) (B := B) (by omega) (hJ)  hf38 hg4 (fun m515 hFv517 hJ516 => ?_)
          have wcm515 : m515 4 44 3 = m 4 44 3 := by rw [hFv517]; exact z_cpy_o rfl
          show X (EE s) d 302 39 [(0, zr 4 44), (1, zi a1), (2, zi a2)] [] m515 _
          refine X.iconst 40 i302_39 rfl rfl (by decide) ?_
          refine X.istore_n 41 [(0, zr 4 44), (1, zi a1), (2, zi a2), (3, zi 0)] i302_40 rfl rfl rfl ?_
          have hz901 := zfu_eq 901
          refine l302_41_1 (s := s) (d := d) (R0 := (f302_1 a1 a2 m)) (S := (S.1, S.2.1, True, S.2.2.2))  a1 a2  (BE := B + 9911) (by omega) (by omega) (by omega) (by omega) hf26 hf27 hf28 hf29 hf30 hf31 hf32 hf33 hg4 (fun  m518 B519 hJ520 hBB519 hR521 => ?_) (zfu 901) 0 m515 (B) (hJ516.up (by omega)) (by omega) (by omega) (by omega) (Eq.trans (if_neg h502c) (Eq.trans (if_pos h505c) (Eq.trans (if_neg h509c) (Eq.trans (if_pos h512c) (Eq.trans (zs_eq hFv517) rfl)))))
          refine X.aload_n 57 i302_56 rfl rfl rfl ?_
          refine X.iload_n 58 i302_57 rfl rfl rfl ?_
          refine X.callv 61 [zi a2] [] [(0, zr 4 44), (1, zi a2)] i302_58 rfl (by decide) rfl rfl (by omega) rfl rfl (by decide) rfl t303 (Nat.le_of_ble_eq_true rfl) (Nat.le_of_ble_eq_true rfl) rfl ?_
          refine c303_1 (S := (S.1, S.2.1, True, S.2.2.2)) (B := B519)  a2 (by omega) (hJ520.up (by omega)) (by omega) (by omega) (fun v524 hv524 hFv524 => ?_)
          show X (EE s) d 302 61 [(0, zr 4 44), (2, zi a2)] [zl v524] m518 _
          refine X.lstore_n 62 [(0, zr 4 44), (2, zi a2), (3, zl v524)] i302_61 rfl rfl rfl ?_
          refine X.aload_n 63 i302_62 rfl rfl rfl ?_
          refine X.getF 66 i302_63 rfl rfl (by decide) rfl rfl ?_
          refine X.aload_n 67 i302_66 rfl rfl rfl ?_
          refine X.getF 70 i302_67 rfl rfl (by decide) rfl rfl ?_
          refine X.calls 73 [zr 4 46, zr 4 45] [] [(0, zr 4 46), (1, zr 4 45)] i302_70 (by decide) rfl rfl (by omega) rfl rfl t261 (Nat.le_of_ble_eq_true rfl) (Nat.le_of_ble_eq_true rfl) rfl ?_
          refine c_cq_46_45 (S := (S.1, S.2.1, True, S.2.2.2)) (B := B519) (by omega) (hJ520) trivial hf21 hf22 hf23 hf24 hf25 hf26 hf27 hf28 hf29 hf30 hf31 hf32 hf33 hg4 (fun m525 hFv527 hJ526 => ?_)
          have wcm525 : m525 4 44 3 = m518 4 44 3 := by rw [hFv527]; exact z_cpy_o rfl
          show X (EE s) d 302 73 [(0, zr 4 44), (2, zi a2), (3, zl v524)] [] m525 _
          refine X.lload_n 74 i302_73 rfl rfl rfl ?_
          refine X.retl i302_74 rfl t302 ?_
          exact hQ v524 m525 (by first | trivial | omega) (Eq.trans hR521 (Eq.trans (zn_eq hFv524.symm) (Eq.trans (zs_eq hFv527) rfl))) ((J.wk (p' := S.2.2.1) (q' := S.2.2.2) hJ526 (fun h => by first | trivial | exact h) (fun h => by first | trivial | exact h)).up (by omega)) 
noncomputable def fl182_14_1_b (self : Int → Int → Int → Int) (k73 : Int → Int) (g0 g3 : Nat) (y2 y4 : Int) (m : zM) (y5 y6 y8 : Int) : Int :=
  if y2 ≤ y8 then
  (k73 y6)
  else
  (if y4 ≤ y5 then
  (k73 y6)
  else
  (zn (f37_1 g0 y5 m) fun v556 =>
  zn (f27_1 g0 y5 m) fun v559 =>
  zn (((m g3 10 (6 + v559)) * ((min v556 y4) - y5))) fun z561 =>
  zn (w64 (y6 + z561)) fun z562 =>
  self (min v556 y4) z562 (y8 + 1)))
noncomputable def fl182_14_1 (k73 : Int → Int) (g0 g3 : Nat) (y2 y4 : Int) (m : zM) : Nat → Int → Int → Int → Int
  | 0 => fun y5 y6 y8 => 0
  | n + 1 => fl182_14_1_b (fl182_14_1 k73 g0 g3 y2 y4 m n) k73 g0 g3 y2 y4 m
theorem l182_14_1 {s : Nat × (Nat → Int32)} {S : zS} {m0 : zM} {m : zM} {B : Int} {d : Nat} {Q : Option zV → zM → Prop} {R0 : Int} {k73 : Int → Int} (g0 g3 : Nat) (y2 y4 : Int) (hd : 16 ≤ d) (hJ : J S m0 B m) (hB9 : B ≤ 1000000000) (hy2 : 1 ≤ y2 ∧ y2 ≤ 100000) (hy4 : 1 ≤ y4 ∧ y4 ≤ 2000100000)
    (K73 : ∀ (x6 : Int) , (True) → R0 = k73 x6 → X (EE s) d 182 73 [(6, zl x6)] [] m Q) :
    ∀ (n : Nat) (y5 y6 y8 : Int) , (0 ≤ y5 ∧ y5 ≤ 2000100000) → (0 ≤ y8 ∧ y8 ≤ 100000) → 100000 - y8 < (n : Int) → R0 = fl182_14_1 k73 g0 g3 y2 y4 m n y5 y6 y8 → X (EE s) d 182 14 [(0, zr g0 11), (2, zi y2), (3, zr g3 9), (4, zi y4), (5, zi y5), (6, zl y6), (8, zi y8)] [] m Q := by
  intro n
  induction n with
  | zero =>
    intro y5 y6 y8 hy5 hy8 hn hR
    exfalso
    omega
  | succ n ih =>
    intro y5 y6 y8 hy5 hy8 hn hR
    replace hR : R0 = fl182_14_1_b (fl182_14_1 k73 g0 g3 y2 y4 m n) k73 g0 g3 y2 y4 m y5 y6 y8 := hR
    refine X.iload 16 i182_14 rfl rfl rfl ?_
    refine X.iload_n 17 i182_16 rfl rfl rfl ?_
    refine X.icmpge 73 20 i182_17 rfl rfl rfl (fun h552 => ?_) (fun h552 => ?_)
    · refine X.cut [(6, zl y6)] i182_73 rfl ?_
      exact K73 y6 (by first | trivial | omega) (Eq.trans hR (Eq.trans (if_pos h552) rfl))
    · refine X.iload 22 i182_20 rfl rfl rfl ?_
      refine X.iload 24 i182_22 rfl rfl rfl ?_
      refine X.icmpge 73 27 i182_24 rfl rfl rfl (fun h553 => ?_) (fun h553 => ?_)
      · refine X.cut [(6, zl y6)] i182_73 rfl ?_
        exact K73 y6 (by first | trivial | omega) (Eq.trans hR (Eq.trans (if_neg h552) (Eq.trans (if_pos h553) rfl)))
      · refine X.aload_n 28 i182_27 rfl rfl rfl ?_
        refine X.iload 30 i182_28 rfl rfl rfl ?_
        refine X.callv 33 [zi y5] [] [(0, zr g0 11), (1, zi y5)] i182_30 rfl (by decide) rfl rfl (by omega) rfl rfl (by decide) rfl t37 (Nat.le_of_ble_eq_true rfl) (Nat.le_of_ble_eq_true rfl) rfl ?_
        refine c37_1 (B := B) g0 y5 (by omega) (hJ.up (by omega)) (by omega) (by omega) (fun v556 hv556 hFv556 hqv556_0 => ?_)
        show X (EE s) d 182 33 [(0, zr g0 11), (2, zi y2), (3, zr g3 9), (4, zi y4), (5, zi y5), (6, zl y6), (8, zi y8)] [zi v556] m _
        refine X.iload 35 i182_33 rfl rfl rfl ?_
        refine X.minI 38 i182_35 rfl rfl (by omega) (Nat.le_of_ble_eq_true rfl) ?_
        refine X.istore 40 [(0, zr g0 11), (2, zi y2), (3, zr g3 9), (4, zi y4), (5, zi y5), (6, zl y6), (8, zi y8), (9, zi (min v556 y4))] i182_38 rfl rfl rfl ?_
        refine X.lload 42 i182_40 rfl rfl rfl ?_
        refine X.aload_n 43 i182_42 rfl rfl rfl ?_
        refine X.aload_n 44 i182_43 rfl rfl rfl ?_
        refine X.iload 46 i182_44 rfl rfl rfl ?_
        refine X.callv 49 [zi y5] [zr g3 9, zl y6] [(0, zr g0 11), (1, zi y5)] i182_46 rfl (by decide) rfl rfl (by omega) rfl rfl (by decide) rfl t27 (Nat.le_of_ble_eq_true rfl) (Nat.le_of_ble_eq_true rfl) rfl ?_
        refine c27_1 (B := B) g0 y5 (by omega) (hJ.up (by omega)) (by omega) (by omega) (fun v559 hv559 hFv559 => ?_)
        show X (EE s) d 182 49 [(0, zr g0 11), (2, zi y2), (3, zr g3 9), (4, zi y4), (5, zi y5), (6, zl y6), (8, zi y8), (9, zi (min v556 y4))] [zi v559, zr g3 9, zl y6] m _
        refine X.callv 52 [zi v559] [zl y6] [(0, zr g3 9), (1, zi v559)] i182_49 rfl (by decide) rfl rfl (by omega) rfl rfl (by decide) rfl t43 (Nat.le_of_ble_eq_true rfl) (Nat.le_of_ble_eq_true rfl) rfl ?_
        refine X.aload_n 1 i43_0 rfl rfl rfl ?_
        refine X.getR 4 i43_1 rfl rfl (by decide) rfl rfl ?_
        refine X.bipush 6 i43_4 rfl rfl (by decide) ?_
        refine X.iload_n 7 i43_6 rfl rfl rfl ?_
        refine X.iadd 8 i43_7 rfl rfl (by omega) ?_
        refine X.iald 9 i43_8 rfl rfl (by decide) rfl (by omega) ?_
        have h560 := r10_6 hJ g3 (i := (6 + v559)) (by omega)
        refine X.reti i43_9 rfl t43 ?_
        show X (EE s) d 182 52 [(0, zr g0 11), (2, zi y2), (3, zr g3 9), (4, zi y4), (5, zi y5), (6, zl y6), (8, zi y8), (9, zi (min v556 y4))] [zi (m g3 10 (6 + v559)), zl y6] m _
        refine X.i2l 53 i182_52 rfl rfl ?_
        refine X.iload 55 i182_53 rfl rfl rfl ?_
        refine X.iload 57 i182_55 rfl rfl rfl ?_
        refine X.isub 58 i182_57 rfl rfl (by omega) ?_
        refine X.i2l 59 i182_58 rfl rfl ?_
        have hz561 := z_mulr (a := 0) (b := 1000000) (c := (-2000099999)) (e := 2000100000) (x := (m g3 10 (6 + v559))) (y := ((min v556 y4) - y5)) (by omega) (by omega)
        refine X.lmul 60 i182_59 rfl rfl (z_in3 hz561 (by decide) (by decide)) ?_
        obtain ⟨z561, ez561⟩ : ∃ z, z = ((m g3 10 (6 + v559)) * ((min v556 y4) - y5)) := ⟨_, rfl⟩
        rw [← ez561] at hz561 ⊢
        have gz561 : (-2000099999000000) ≤ z561 ∧ z561 ≤ 2000100000000000 := z_in3 hz561 (by decide) (by decide)
        clear hz561
        refine X.laddW 61 i182_60 rfl rfl (fun z562 ez562 hz562 => ?_)
        refine X.lstore 63 [(0, zr g0 11), (2, zi y2), (3, zr g3 9), (4, zi y4), (5, zi y5), (6, zl z562), (8, zi y8), (9, zi (min v556 y4))] i182_61 rfl rfl rfl ?_
        refine X.iload 65 i182_63 rfl rfl rfl ?_
        refine X.istore 67 [(0, zr g0 11), (2, zi y2), (3, zr g3 9), (4, zi y4), (5, zi (min v556 y4)), (6, zl z562), (8, zi y8), (9, zi (min v556 y4))] i182_65 rfl rfl rfl ?_
        refine X.iinc 70 [(0, zr g0 11), (2, zi y2), (3, zr g3 9), (4, zi y4), (5, zi (min v556 y4)), (6, zl z562), (8, zi (y8 + 1)), (9, zi (min v556 y4))] i182_67 rfl rfl rfl (by omega) rfl ?_
        refine X.goto 14 i182_70 rfl rfl ?_
        refine X.cut [(0, zr g0 11), (2, zi y2), (3, zr g3 9), (4, zi y4), (5, zi (min v556 y4)), (6, zl z562), (8, zi (y8 + 1))] i182_14 rfl ?_
        exact ih (min v556 y4) z562 (y8 + 1) (by omega) (by omega) (by omega) (Eq.trans hR (Eq.trans (if_neg h552) (Eq.trans (if_neg h553) (Eq.trans (zn_eq hFv556.symm) (Eq.trans (zn_eq hFv559.symm) (Eq.trans (zn_eq ez561) (Eq.trans (zn_eq ez562) rfl)))))))
-- WorkMeter$Calendar.costOf
noncomputable def f182_1 (g0 g3 : Nat) (a1 a2 : Int) (m : zM) : Int :=
  fl182_14_1 (fun y501 =>
  y501) g0 g3 a2 (a1 + a2) m (zfu 100001) a1 0 0
-- WorkMeter$Calendar.costOf
theorem c182_1 {s : Nat × (Nat → Int32)} {S : zS} {m0 m : zM} {B : Int} {d : Nat} {Q : Option zV → zM → Prop} (g0 g3 : Nat) (a1 a2 : Int) (hd : 16 ≤ d) (hJ : J S m0 B m) (hB : B + 0 ≤ 1000000000) (ha1 : 0 ≤ a1 ∧ a1 ≤ 2000000000) (ha2 : 1 ≤ a2 ∧ a2 ≤ 100000) (hQ : ∀ (v : Int), (True) → f182_1 g0 g3 a1 a2 m = v → Q (some (zl v)) m) : X (EE s) d 182 0 [(0, zr g0 11), (1, zi a1), (2, zi a2), (3, zr g3 9)] [] m Q := by
  refine X.iload_n 1 i182_0 rfl rfl rfl ?_
  refine X.iload_n 2 i182_1 rfl rfl rfl ?_
  refine X.iadd 3 i182_2 rfl rfl (by omega) ?_
  refine X.istore 5 [(0, zr g0 11), (1, zi a1), (2, zi a2), (3, zr g3 9), (4, zi (a1 + a2))] i182_3 rfl rfl rfl ?_
  refine X.iload_n 6 i182_5 rfl rfl rfl ?_
  refine X.istore 8 [(0, zr g0 11), (1, zi a1), (2, zi a2), (3, zr g3 9), (4, zi (a1 + a2)), (5, zi a1)] i182_6 rfl rfl rfl ?_
  refine X.lconst (y := 0) 9 i182_8 rfl rfl rfl ?_
  refine X.lstore 11 [(0, zr g0 11), (1, zi a1), (2, zi a2), (3, zr g3 9), (4, zi (a1 + a2)), (5, zi a1), (6, zl 0)] i182_9 rfl rfl rfl ?_
  refine X.iconst 12 i182_11 rfl rfl (by decide) ?_
  refine X.istore 14 [(0, zr g0 11), (1, zi a1), (2, zi a2), (3, zr g3 9), (4, zi (a1 + a2)), (5, zi a1), (6, zl 0), (8, zi 0)] i182_12 rfl rfl rfl ?_
  refine X.cut [(0, zr g0 11), (2, zi a2), (3, zr g3 9), (4, zi (a1 + a2)), (5, zi a1), (6, zl 0), (8, zi 0)] i182_14 rfl ?_
  have hz100001 := zfu_eq 100001
  refine l182_14_1 (s := s) (m := m) (B := B) (d := d) (R0 := (f182_1 g0 g3 a1 a2 m)) g0 g3 a2 (a1 + a2)  (by omega) (hJ.up (by omega)) (by omega) (by omega) (by omega) (fun y501 hby501 hR505 => ?_) (zfu 100001) a1 0 0 (by omega) (by omega) (by omega) rfl
  refine X.lload 75 i182_73 rfl rfl rfl ?_
  refine X.retl i182_75 rfl t182 ?_
  exact hQ y501 (by first | trivial | omega) (Eq.trans hR505 rfl) 
-- WorkMeter.cost
noncomputable def f181_1 (a1 : Int) (m : zM) : Int :=
  if a1 < 1 then
  ((-1))
  else
  (if 100000 < a1 then
  ((-1))
  else
  (if (((m 0 8 9) + a1) - 1) ≤ 2000000000 then
  (zn (f182_1 0 0 (m 0 8 9) a1 m) fun v507 =>
  v507)
  else
  ((-1))))
-- WorkMeter.cost
theorem c181_1 {s : Nat × (Nat → Int32)} {S : zS} {m0 m : zM} {B : Int} {d : Nat} {Q : Option zV → zM → Prop} (a1 : Int) (hd : 17 ≤ d) (hJ : J S m0 B m) (hB : B + 0 ≤ 1000000000) (ha1 : (-2147483648) ≤ a1 ∧ a1 ≤ 2147483647) (hQ : ∀ (v : Int), (True) → f181_1 a1 m = v → Q (some (zl v)) m) : X (EE s) d 181 0 [(0, zr 4 40), (1, zi a1)] [] m Q := by
  refine X.iload_n 1 i181_0 rfl rfl rfl ?_
  refine X.iconst 2 i181_1 rfl rfl (by decide) ?_
  refine X.icmplt 27 5 i181_2 rfl rfl rfl (fun h501 => ?_) (fun h501 => ?_)
  · refine X.cut [] i181_27 rfl ?_
    refine X.ldc2 30 i181_27 rfl rfl (by decide) ?_
    refine X.retl i181_30 rfl t181 ?_
    exact hQ (-1) (by first | trivial | omega) (Eq.trans (if_pos h501) rfl) 
  · refine X.iload_n 6 i181_5 rfl rfl rfl ?_
    refine X.ldc 8 i181_6 rfl rfl (by decide) ?_
    refine X.icmpgt 27 11 i181_8 rfl rfl rfl (fun h502 => ?_) (fun h502 => ?_)
    · refine X.cut [] i181_27 rfl ?_
      refine X.ldc2 30 i181_27 rfl rfl (by decide) ?_
      refine X.retl i181_30 rfl t181 ?_
      exact hQ (-1) (by first | trivial | omega) (Eq.trans (if_neg h501) (Eq.trans (if_pos h502) rfl)) 
    · refine X.aload_n 12 i181_11 rfl rfl rfl ?_
      refine X.getF 15 i181_12 rfl rfl (by decide) rfl rfl ?_
      refine X.getI 18 9 i181_15 rfl rfl (by decide) rfl rfl rfl ?_
      have h503 := r8_9 hJ 0
      refine X.iload_n 19 i181_18 rfl rfl rfl ?_
      refine X.iadd 20 i181_19 rfl rfl (by omega) ?_
      refine X.iconst 21 i181_20 rfl rfl (by decide) ?_
      refine X.isub 22 i181_21 rfl rfl (by omega) ?_
      refine X.ldc 24 i181_22 rfl rfl (by decide) ?_
      refine X.icmple 31 27 i181_24 rfl rfl rfl (fun h504 => ?_) (fun h504 => ?_)
      · refine X.aload_n 32 i181_31 rfl rfl rfl ?_
        refine X.getF 35 i181_32 rfl rfl (by decide) rfl rfl ?_
        refine X.getR 38 i181_35 rfl rfl (by decide) rfl rfl ?_
        refine X.aload_n 39 i181_38 rfl rfl rfl ?_
        refine X.getF 42 i181_39 rfl rfl (by decide) rfl rfl ?_
        refine X.getI 45 9 i181_42 rfl rfl (by decide) rfl rfl rfl ?_
        refine X.iload_n 46 i181_45 rfl rfl rfl ?_
        refine X.aload_n 47 i181_46 rfl rfl rfl ?_
        refine X.getF 50 i181_47 rfl rfl (by decide) rfl rfl ?_
        refine X.getR 53 i181_50 rfl rfl (by decide) rfl rfl ?_
        refine X.callv 56 [zi (m 0 8 9), zi a1, zr 0 9] [] [(0, zr 0 11), (1, zi (m 0 8 9)), (2, zi a1), (3, zr 0 9)] i181_53 rfl (by decide) rfl rfl (by omega) rfl rfl (by decide) rfl t182 (Nat.le_of_ble_eq_true rfl) (Nat.le_of_ble_eq_true rfl) rfl ?_
        refine c182_1 (B := B) 0 0 (m 0 8 9) a1 (by omega) (hJ.up (by omega)) (by omega) (by omega) (by omega) (fun v507 hv507 hFv507 => ?_)
        show X (EE s) d 181 56 [(0, zr 4 40), (1, zi a1)] [zl v507] m _
        refine X.retl i181_56 rfl t181 ?_
        exact hQ v507 (by first | trivial | omega) (Eq.trans (if_neg h501) (Eq.trans (if_neg h502) (Eq.trans (if_pos h504) (Eq.trans (zn_eq hFv507.symm) rfl)))) 
      · refine X.cut [] i181_27 rfl ?_
        refine X.ldc2 30 i181_27 rfl rfl (by decide) ?_
        refine X.retl i181_30 rfl t181 ?_
        exact hQ (-1) (by first | trivial | omega) (Eq.trans (if_neg h501) (Eq.trans (if_neg h502) (Eq.trans (if_neg h504) rfl))) 
noncomputable def fl307_19_1_b (self : Int → Int → Int → Int → Int) (k185 : Int → Int) (y2 y3 y4 : Int) (m : zM) (y5 y7 y8 y9 : Int) : Int :=
  if y9 ≤ (m 4 45 (287 + y4)) then
  (zn (if y9 < (m 4 45 (287 + y4)) then
  ((m 4 45 ((295 + (6 * y4)) + y9)))
  else
  (86400)) fun v700 =>
  zn (if y8 ≤ y2 then
  (y2)
  else
  (y8)) fun v706 =>
  zn (if y3 ≤ v700 then
  (y3)
  else
  (v700)) fun v712 =>
  zn (if v712 ≤ v706 then
  (y5)
  else
  (zn (((v712 - v706) * (m 4 45 (28 + y7)))) fun z719 =>
  zn (w64 (y5 + z719)) fun z720 =>
  z720)) fun v721 =>
  zn (if y9 < (m 4 45 (287 + y4)) then
  ((m 4 45 ((343 + (6 * y4)) + y9)))
  else
  (y7)) fun v729 =>
  self v721 v729 v700 (y9 + 1))
  else
  (k185 y5)
noncomputable def fl307_19_1 (k185 : Int → Int) (y2 y3 y4 : Int) (m : zM) : Nat → Int → Int → Int → Int → Int
  | 0 => fun y5 y7 y8 y9 => 0
  | n + 1 => fl307_19_1_b (fl307_19_1 k185 y2 y3 y4 m n) k185 y2 y3 y4 m
theorem l307_19_1 {s : Nat × (Nat → Int32)} {S : zS} {m0 : zM} {m : zM} {B : Int} {d : Nat} {Q : Option zV → zM → Prop} {R0 : Int} {k185 : Int → Int} (y2 y3 y4 : Int) (hd : 13 ≤ d) (hJ : J S m0 B m) (hB9 : B ≤ 1000000000) (hy2 : 0 ≤ y2 ∧ y2 ≤ 86399) (hy3 : 1 ≤ y3 ∧ y3 ≤ 86400) (hy4 : 0 ≤ y4 ∧ y4 ≤ 7)
    (K185 : ∀ (x5 : Int) , (True) → R0 = k185 x5 → X (EE s) d 307 185 [(5, zl x5)] [] m Q) :
    ∀ (n : Nat) (y5 y7 y8 y9 : Int) , (0 ≤ y7 ∧ y7 ≤ 3) → (0 ≤ y8 ∧ y8 ≤ 86400) → (0 ≤ y9 ∧ y9 ≤ 7) → 7 - y9 < (n : Int) → R0 = fl307_19_1 k185 y2 y3 y4 m n y5 y7 y8 y9 → X (EE s) d 307 19 [(0, zr 4 44), (2, zi y2), (3, zi y3), (4, zi y4), (5, zl y5), (7, zi y7), (8, zi y8), (9, zi y9)] [] m Q := by
  intro n
  induction n with
  | zero =>
    intro y5 y7 y8 y9 hy7 hy8 hy9 hn hR
    exfalso
    omega
  | succ n ih =>
    intro y5 y7 y8 y9 hy7 hy8 hy9 hn hR
    replace hR : R0 = fl307_19_1_b (fl307_19_1 k185 y2 y3 y4 m n) k185 y2 y3 y4 m y5 y7 y8 y9 := hR
    refine X.iload 21 i307_19 rfl rfl rfl ?_
    refine X.i2l 22 i307_21 rfl rfl ?_
    refine X.aload_n 23 i307_22 rfl rfl rfl ?_
    refine X.getF 26 i307_23 rfl rfl (by decide) rfl rfl ?_
    refine X.sipush 29 i307_26 rfl rfl (by decide) ?_
    refine X.iload 31 i307_29 rfl rfl rfl ?_
    refine X.iadd 32 i307_31 rfl rfl (by omega) ?_
    refine X.lald 33 i307_32 rfl rfl (by decide) rfl (by omega) ?_
    have h694 := r45_287 hJ 4 (i := (287 + y4)) (by omega)
    refine X.lcmp 34 i307_33 rfl rfl (fun z695 hz695 => ?_)
    refine X.ifgt 185 37 i307_34 rfl rfl rfl (fun h696 => ?_) (fun h696 => ?_)
    · have h696c : ¬ y9 ≤ (m 4 45 (287 + y4)) := by omega
      clear h696 hz695
      refine X.cut [(5, zl y5)] i307_185 rfl ?_
      exact K185 y5 (by first | trivial | omega) (Eq.trans hR (Eq.trans (if_neg h696c) rfl))
    · have h696c : y9 ≤ (m 4 45 (287 + y4)) := by omega
      clear h696 hz695
      refine X.iload 39 i307_37 rfl rfl rfl ?_
      refine X.i2l 40 i307_39 rfl rfl ?_
      refine X.aload_n 41 i307_40 rfl rfl rfl ?_
      refine X.getF 44 i307_41 rfl rfl (by decide) rfl rfl ?_
      refine X.sipush 47 i307_44 rfl rfl (by decide) ?_
      refine X.iload 49 i307_47 rfl rfl rfl ?_
      refine X.iadd 50 i307_49 rfl rfl (by omega) ?_
      refine X.lald 51 i307_50 rfl rfl (by decide) rfl (by omega) ?_
      refine X.lcmp 52 i307_51 rfl rfl (fun z697 hz697 => ?_)
      have hK703 : ∀ (v : Int) , (0 ≤ v ∧ v ≤ 86400) → (if y9 < (m 4 45 (287 + y4)) then
          ((m 4 45 ((295 + (6 * y4)) + y9)))
          else
          (86400)) = v → X (EE s) d 307 78 [(0, zr 4 44), (2, zi y2), (3, zi y3), (4, zi y4), (5, zl y5), (7, zi y7), (8, zi y8), (9, zi y9)] [zi v] m Q := by
        intro v700 hv700 hT704
        refine X.istore 80 [(0, zr 4 44), (2, zi y2), (3, zi y3), (4, zi y4), (5, zl y5), (7, zi y7), (8, zi y8), (9, zi y9), (10, zi v700)] i307_78 rfl rfl rfl ?_
        refine X.iload 82 i307_80 rfl rfl rfl ?_
        refine X.iload_n 83 i307_82 rfl rfl rfl ?_
        have hK709 : ∀ (v : Int) , (0 ≤ v ∧ v ≤ 86400) → (if y8 ≤ y2 then
            (y2)
            else
            (y8)) = v → X (EE s) d 307 92 [(0, zr 4 44), (2, zi y2), (3, zi y3), (4, zi y4), (5, zl y5), (7, zi y7), (9, zi y9), (10, zi v700)] [zi v] m Q := by
          intro v706 hv706 hT710
          refine X.istore 94 [(0, zr 4 44), (2, zi y2), (3, zi y3), (4, zi y4), (5, zl y5), (7, zi y7), (9, zi y9), (10, zi v700), (11, zi v706)] i307_92 rfl rfl rfl ?_
          refine X.iload 96 i307_94 rfl rfl rfl ?_
          refine X.iload_n 97 i307_96 rfl rfl rfl ?_
          have hK715 : ∀ (v : Int) , (0 ≤ v ∧ v ≤ 86400) → (if y3 ≤ v700 then
              (y3)
              else
              (v700)) = v → X (EE s) d 307 106 [(0, zr 4 44), (2, zi y2), (3, zi y3), (4, zi y4), (5, zl y5), (7, zi y7), (9, zi y9), (10, zi v700), (11, zi v706)] [zi v] m Q := by
            intro v712 hv712 hT716
            refine X.istore 108 [(0, zr 4 44), (2, zi y2), (3, zi y3), (4, zi y4), (5, zl y5), (7, zi y7), (9, zi y9), (10, zi v700), (11, zi v706), (12, zi v712)] i307_106 rfl rfl rfl ?_
            refine X.iload 110 i307_108 rfl rfl rfl ?_
            refine X.iload 112 i307_110 rfl rfl rfl ?_
            have hK724 : ∀ (v : Int) , (True) → (if v712 ≤ v706 then
                (y5)
                else
                (zn (((v712 - v706) * (m 4 45 (28 + y7)))) fun z719 =>
                zn (w64 (y5 + z719)) fun z720 =>
                z720)) = v → X (EE s) d 307 137 [(0, zr 4 44), (2, zi y2), (3, zi y3), (4, zi y4), (5, zl v), (7, zi y7), (9, zi y9), (10, zi v700)] [] m Q := by
              intro v721 hv721 hT725
              refine X.iload 139 i307_137 rfl rfl rfl ?_
              refine X.istore 141 [(0, zr 4 44), (2, zi y2), (3, zi y3), (4, zi y4), (5, zl v721), (7, zi y7), (8, zi v700), (9, zi y9), (10, zi v700)] i307_139 rfl rfl rfl ?_
              refine X.iload 143 i307_141 rfl rfl rfl ?_
              refine X.i2l 144 i307_143 rfl rfl ?_
              refine X.aload_n 145 i307_144 rfl rfl rfl ?_
              refine X.getF 148 i307_145 rfl rfl (by decide) rfl rfl ?_
              refine X.sipush 151 i307_148 rfl rfl (by decide) ?_
              refine X.iload 153 i307_151 rfl rfl rfl ?_
              refine X.iadd 154 i307_153 rfl rfl (by omega) ?_
              refine X.lald 155 i307_154 rfl rfl (by decide) rfl (by omega) ?_
              refine X.lcmp 156 i307_155 rfl rfl (fun z726 hz726 => ?_)
              have hK732 : ∀ (v : Int) , (0 ≤ v ∧ v ≤ 3) → (if y9 < (m 4 45 (287 + y4)) then
                  ((m 4 45 ((343 + (6 * y4)) + y9)))
                  else
                  (y7)) = v → X (EE s) d 307 179 [(0, zr 4 44), (2, zi y2), (3, zi y3), (4, zi y4), (5, zl v721), (7, zi v), (8, zi v700), (9, zi y9)] [] m Q := by
                intro v729 hv729 hT733
                refine X.iinc 182 [(0, zr 4 44), (2, zi y2), (3, zi y3), (4, zi y4), (5, zl v721), (7, zi v729), (8, zi v700), (9, zi (y9 + 1))] i307_179 rfl rfl rfl (by omega) rfl ?_
                refine X.goto 19 i307_182 rfl rfl ?_
                exact ih v721 v729 v700 (y9 + 1) (by omega) (by omega) (by omega) (by omega) (Eq.trans hR (Eq.trans (if_pos h696c) (Eq.trans (zn_eq hT704.symm) (Eq.trans (zn_eq hT710.symm) (Eq.trans (zn_eq hT716.symm) (Eq.trans (zn_eq hT725.symm) (Eq.trans (zn_eq hT733.symm) rfl)))))))
              refine X.ifge 179 159 i307_156 rfl rfl rfl (fun h727 => ?_) (fun h727 => ?_)
              · have h727c : ¬ y9 < (m 4 45 (287 + y4)) := by omega
                clear h727 hz726
                refine X.cut [(0, zr 4 44), (2, zi y2), (3, zi y3), (4, zi y4), (5, zl v721), (7, zi y7), (8, zi v700), (9, zi y9)] i307_179 rfl ?_
                exact hK732 y7 (by first | trivial | omega) (Eq.trans (if_neg h727c) rfl)
              · have h727c : y9 < (m 4 45 (287 + y4)) := by omega
                clear h727 hz726
                refine X.aload_n 160 i307_159 rfl rfl rfl ?_
                refine X.getF 163 i307_160 rfl rfl (by decide) rfl rfl ?_
                refine X.sipush 166 i307_163 rfl rfl (by decide) ?_
                refine X.bipush 168 i307_166 rfl rfl (by decide) ?_
                refine X.iload 170 i307_168 rfl rfl rfl ?_
                refine X.imul 171 i307_170 rfl rfl (by omega) ?_
                refine X.iadd 172 i307_171 rfl rfl (by omega) ?_
                refine X.iload 174 i307_172 rfl rfl rfl ?_
                refine X.iadd 175 i307_174 rfl rfl (by omega) ?_
                refine X.lald 176 i307_175 rfl rfl (by decide) rfl (by omega) ?_
                have h728 := r45_343 hJ 4 (i := ((343 + (6 * y4)) + y9)) (by omega)
                refine X.l2i 177 i307_176 rfl rfl (by omega) ?_
                refine X.istore 179 [(0, zr 4 44), (2, zi y2), (3, zi y3), (4, zi y4), (5, zl v721), (7, zi (m 4 45 ((343 + (6 * y4)) + y9))), (8, zi v700), (9, zi y9), (10, zi v700)] i307_177 rfl rfl rfl ?_
                refine X.cut [(0, zr 4 44), (2, zi y2), (3, zi y3), (4, zi y4), (5, zl v721), (7, zi (m 4 45 ((343 + (6 * y4)) + y9))), (8, zi v700), (9, zi y9)] i307_179 rfl ?_
                exact hK732 (m 4 45 ((343 + (6 * y4)) + y9)) (by first | trivial | omega) (Eq.trans (if_pos h727c) rfl)
            refine X.icmple 137 115 i307_112 rfl rfl rfl (fun h717 => ?_) (fun h717 => ?_)
            · refine X.cut [(0, zr 4 44), (2, zi y2), (3, zi y3), (4, zi y4), (5, zl y5), (7, zi y7), (9, zi y9), (10, zi v700)] i307_137 rfl ?_
              exact hK724 y5 (by first | trivial | omega) (Eq.trans (if_pos h717) rfl)
            · refine X.lload 117 i307_115 rfl rfl rfl ?_
              refine X.iload 119 i307_117 rfl rfl rfl ?_
              refine X.iload 121 i307_119 rfl rfl rfl ?_
              refine X.isub 122 i307_121 rfl rfl (by omega) ?_
              refine X.i2l 123 i307_122 rfl rfl ?_
              refine X.aload_n 124 i307_123 rfl rfl rfl ?_
              refine X.getF 127 i307_124 rfl rfl (by decide) rfl rfl ?_
              refine X.bipush 129 i307_127 rfl rfl (by decide) ?_
              refine X.iload 131 i307_129 rfl rfl rfl ?_
              refine X.iadd 132 i307_131 rfl rfl (by omega) ?_
              refine X.lald 133 i307_132 rfl rfl (by decide) rfl (by omega) ?_
              have h718 := r45_28 hJ 4 (i := (28 + y7)) (by omega)
              have hz719 := z_mulr (a := (-86398)) (b := 86400) (c := 0) (e := 100) (x := (v712 - v706)) (y := (m 4 45 (28 + y7))) (by omega) (by omega)
              refine X.lmul 134 i307_133 rfl rfl (z_in3 hz719 (by decide) (by decide)) ?_
              obtain ⟨z719, ez719⟩ : ∃ z, z = ((v712 - v706) * (m 4 45 (28 + y7))) := ⟨_, rfl⟩
              rw [← ez719] at hz719 ⊢
              have gz719 : (-8639800) ≤ z719 ∧ z719 ≤ 8640000 := z_in3 hz719 (by decide) (by decide)
              clear hz719
              refine X.laddW 135 i307_134 rfl rfl (fun z720 ez720 hz720 => ?_)
              refine X.lstore 137 [(0, zr 4 44), (2, zi y2), (3, zi y3), (4, zi y4), (5, zl z720), (7, zi y7), (9, zi y9), (10, zi v700), (11, zi v706), (12, zi v712)] i307_135 rfl rfl rfl ?_
              refine X.cut [(0, zr 4 44), (2, zi y2), (3, zi y3), (4, zi y4), (5, zl z720), (7, zi y7), (9, zi y9), (10, zi v700)] i307_137 rfl ?_
              exact hK724 z720 (by first | trivial | omega) (Eq.trans (if_neg h717) (Eq.trans (zn_eq ez719) (Eq.trans (zn_eq ez720) rfl)))
          refine X.icmpge 105 100 i307_97 rfl rfl rfl (fun h711 => ?_) (fun h711 => ?_)
          · refine X.iload_n 106 i307_105 rfl rfl rfl ?_
            exact hK715 y3 (by first | trivial | omega) (Eq.trans (if_pos h711) rfl)
          · refine X.iload 102 i307_100 rfl rfl rfl ?_
            refine X.goto 106 i307_102 rfl rfl ?_
            exact hK715 v700 (by first | trivial | omega) (Eq.trans (if_neg h711) rfl)
        refine X.icmple 91 86 i307_83 rfl rfl rfl (fun h705 => ?_) (fun h705 => ?_)
        · refine X.cut [(0, zr 4 44), (2, zi y2), (3, zi y3), (4, zi y4), (5, zl y5), (7, zi y7), (9, zi y9), (10, zi v700)] i307_91 rfl ?_
          refine X.iload_n 92 i307_91 rfl rfl rfl ?_
          exact hK709 y2 (by first | trivial | omega) (Eq.trans (if_pos h705) rfl)
        · refine X.iload 88 i307_86 rfl rfl rfl ?_
          refine X.goto 92 i307_88 rfl rfl ?_
          refine X.cut [(0, zr 4 44), (2, zi y2), (3, zi y3), (4, zi y4), (5, zl y5), (7, zi y7), (9, zi y9), (10, zi v700)] i307_92 rfl ?_
          exact hK709 y8 (by first | trivial | omega) (Eq.trans (if_neg h705) rfl)
      refine X.ifge 76 55 i307_52 rfl rfl rfl (fun h698 => ?_) (fun h698 => ?_)
      · have h698c : ¬ y9 < (m 4 45 (287 + y4)) := by omega
        clear h698 hz697
        refine X.ldc 78 i307_76 rfl rfl (by decide) ?_
        exact hK703 86400 (by first | trivial | omega) (Eq.trans (if_neg h698c) rfl)
      · have h698c : y9 < (m 4 45 (287 + y4)) := by omega
        clear h698 hz697
        refine X.aload_n 56 i307_55 rfl rfl rfl ?_
        refine X.getF 59 i307_56 rfl rfl (by decide) rfl rfl ?_
        refine X.sipush 62 i307_59 rfl rfl (by decide) ?_
        refine X.bipush 64 i307_62 rfl rfl (by decide) ?_
        refine X.iload 66 i307_64 rfl rfl rfl ?_
        refine X.imul 67 i307_66 rfl rfl (by omega) ?_
        refine X.iadd 68 i307_67 rfl rfl (by omega) ?_
        refine X.iload 70 i307_68 rfl rfl rfl ?_
        refine X.iadd 71 i307_70 rfl rfl (by omega) ?_
        refine X.lald 72 i307_71 rfl rfl (by decide) rfl (by omega) ?_
        have h699 := r45_295 hJ 4 (i := ((295 + (6 * y4)) + y9)) (by omega)
        refine X.l2i 73 i307_72 rfl rfl (by omega) ?_
        refine X.goto 78 i307_73 rfl rfl ?_
        exact hK703 (m 4 45 ((295 + (6 * y4)) + y9)) (by first | trivial | omega) (Eq.trans (if_pos h698c) rfl)
-- WorkMeterModel.costOfDay
noncomputable def f307_1 (a1 a2 a3 : Int) (m : zM) : Int :=
  zn (f218_1 a1 m) fun v503 =>
  fl307_19_1 (fun y504 =>
  y504) a2 a3 v503 m (zfu 8) 0 0 0 0
-- WorkMeterModel.costOfDay
theorem c307_1 {s : Nat × (Nat → Int32)} {S : zS} {m0 m : zM} {B : Int} {d : Nat} {Q : Option zV → zM → Prop} (a1 a2 a3 : Int) (hd : 15 ≤ d) (hJ : J S m0 B m) (hB : B + 0 ≤ 1000000000) (ha1 : 0 ≤ a1 ∧ a1 ≤ 23150) (ha2 : 0 ≤ a2 ∧ a2 ≤ 86399) (ha3 : 1 ≤ a3 ∧ a3 ≤ 86400) (hQ : ∀ (v : Int), (True) → f307_1 a1 a2 a3 m = v → Q (some (zl v)) m) : X (EE s) d 307 0 [(0, zr 4 44), (1, zi a1), (2, zi a2), (3, zi a3)] [] m Q := by
  refine X.aload_n 1 i307_0 rfl rfl rfl ?_
  refine X.iload_n 2 i307_1 rfl rfl rfl ?_
  refine X.callv 5 [zi a1] [] [(0, zr 4 44), (1, zi a1)] i307_2 rfl (by decide) rfl rfl (by omega) rfl rfl (by decide) rfl t218 (Nat.le_of_ble_eq_true rfl) (Nat.le_of_ble_eq_true rfl) rfl ?_
  refine c218_1 (B := B)  a1 (by omega) (hJ.up (by omega)) (by omega) (by omega) (fun v503 hv503 hFv503 => ?_)
  show X (EE s) d 307 5 [(0, zr 4 44), (1, zi a1), (2, zi a2), (3, zi a3)] [zi v503] m _
  refine X.istore 7 [(0, zr 4 44), (1, zi a1), (2, zi a2), (3, zi a3), (4, zi v503)] i307_5 rfl rfl rfl ?_
  refine X.lconst (y := 0) 8 i307_7 rfl rfl rfl ?_
  refine X.lstore 10 [(0, zr 4 44), (1, zi a1), (2, zi a2), (3, zi a3), (4, zi v503), (5, zl 0)] i307_8 rfl rfl rfl ?_
  refine X.iconst 11 i307_10 rfl rfl (by decide) ?_
  refine X.istore 13 [(0, zr 4 44), (1, zi a1), (2, zi a2), (3, zi a3), (4, zi v503), (5, zl 0), (7, zi 0)] i307_11 rfl rfl rfl ?_
  refine X.iconst 14 i307_13 rfl rfl (by decide) ?_
  refine X.istore 16 [(0, zr 4 44), (1, zi a1), (2, zi a2), (3, zi a3), (4, zi v503), (5, zl 0), (7, zi 0), (8, zi 0)] i307_14 rfl rfl rfl ?_
  refine X.iconst 17 i307_16 rfl rfl (by decide) ?_
  refine X.istore 19 [(0, zr 4 44), (1, zi a1), (2, zi a2), (3, zi a3), (4, zi v503), (5, zl 0), (7, zi 0), (8, zi 0), (9, zi 0)] i307_17 rfl rfl rfl ?_
  refine X.cut [(0, zr 4 44), (2, zi a2), (3, zi a3), (4, zi v503), (5, zl 0), (7, zi 0), (8, zi 0), (9, zi 0)] i307_19 rfl ?_
  have hz8 := zfu_eq 8
  refine l307_19_1 (s := s) (m := m) (B := B) (d := d) (R0 := (f307_1 a1 a2 a3 m))  a2 a3 v503  (by omega) (hJ.up (by omega)) (by omega) (by omega) (by omega) (by omega) (fun y504 hby504 hR508 => ?_) (zfu 8) 0 0 0 0 (by omega) (by omega) (by omega) (by omega) (Eq.trans (zn_eq hFv503.symm) rfl)
  refine X.lload 187 i307_185 rfl rfl rfl ?_
  refine X.retl i307_187 rfl t307 ?_
  exact hQ y504 (by first | trivial | omega) (Eq.trans hR508 rfl) 
-- WorkMeterModel.costOfDay
theorem c307_2 {s : Nat × (Nat → Int32)} {S : zS} {m0 m : zM} {B : Int} {d : Nat} {Q : Option zV → zM → Prop} (a1 a2 a3 : Int) (hd : 15 ≤ d) (hJ : J S m0 B m) (hB : B + 0 ≤ 1000000000) (ha1 : 0 ≤ a1 ∧ a1 ≤ 23150) (ha2 : 0 ≤ a2 ∧ a2 ≤ 86399) (ha3 : 1 ≤ a3 ∧ a3 ≤ 86400) (hQ : ∀ (v : Int), (True) → f307_1 a1 a2 a3 m = v → Q (some (zl v)) m) : X (EE s) d 307 0 [(0, zr 4 44), (1, zi a1), (2, zi a2), (3, zi a3)] [] m Q := by
  refine X.aload_n 1 i307_0 rfl rfl rfl ?_
  refine X.iload_n 2 i307_1 rfl rfl rfl ?_
  refine X.callv 5 [zi a1] [] [(0, zr 4 44), (1, zi a1)] i307_2 rfl (by decide) rfl rfl (by omega) rfl rfl (by decide) rfl t218 (Nat.le_of_ble_eq_true rfl) (Nat.le_of_ble_eq_true rfl) rfl ?_
  refine c218_1 (B := B)  a1 (by omega) (hJ.up (by omega)) (by omega) (by omega) (fun v503 hv503 hFv503 => ?_)
  show X (EE s) d 307 5 [(0, zr 4 44), (1, zi a1), (2, zi a2), (3, zi a3)] [zi v503] m _
  refine X.istore 7 [(0, zr 4 44), (1, zi a1), (2, zi a2), (3, zi a3), (4, zi v503)] i307_5 rfl rfl rfl ?_
  refine X.lconst (y := 0) 8 i307_7 rfl rfl rfl ?_
  refine X.lstore 10 [(0, zr 4 44), (1, zi a1), (2, zi a2), (3, zi a3), (4, zi v503), (5, zl 0)] i307_8 rfl rfl rfl ?_
  refine X.iconst 11 i307_10 rfl rfl (by decide) ?_
  refine X.istore 13 [(0, zr 4 44), (1, zi a1), (2, zi a2), (3, zi a3), (4, zi v503), (5, zl 0), (7, zi 0)] i307_11 rfl rfl rfl ?_
  refine X.iconst 14 i307_13 rfl rfl (by decide) ?_
  refine X.istore 16 [(0, zr 4 44), (1, zi a1), (2, zi a2), (3, zi a3), (4, zi v503), (5, zl 0), (7, zi 0), (8, zi 0)] i307_14 rfl rfl rfl ?_
  refine X.iconst 17 i307_16 rfl rfl (by decide) ?_
  refine X.istore 19 [(0, zr 4 44), (1, zi a1), (2, zi a2), (3, zi a3), (4, zi v503), (5, zl 0), (7, zi 0), (8, zi 0), (9, zi 0)] i307_17 rfl rfl rfl ?_
  refine X.cut [(0, zr 4 44), (2, zi a2), (3, zi a3), (4, zi v503), (5, zl 0), (7, zi 0), (8, zi 0), (9, zi 0)] i307_19 rfl ?_
  have hz8 := zfu_eq 8
  refine l307_19_1 (s := s) (m := m) (B := B) (d := d) (R0 := (f307_1 a1 a2 a3 m))  a2 a3 v503  (by omega) (hJ.up (by omega)) (by omega) (by omega) (by omega) (by omega) (fun y504 hby504 hR508 => ?_) (zfu 8) 0 0 0 0 (by omega) (by omega) (by omega) (by omega) (Eq.trans (zn_eq hFv503.symm) rfl)
  refine X.lload 187 i307_185 rfl rfl rfl ?_
  refine X.retl i307_187 rfl t307 ?_
  exact hQ y504 (by first | trivial | omega) (Eq.trans hR508 rfl) 
-- WorkMeterModel.costOfDay
theorem c307_3 {s : Nat × (Nat → Int32)} {S : zS} {m0 m : zM} {B : Int} {d : Nat} {Q : Option zV → zM → Prop} (a1 a2 a3 : Int) (hd : 15 ≤ d) (hJ : J S m0 B m) (hB : B + 0 ≤ 1000000000) (ha1 : 0 ≤ a1 ∧ a1 ≤ 23150) (ha2 : 0 ≤ a2 ∧ a2 ≤ 86399) (ha3 : 1 ≤ a3 ∧ a3 ≤ 86400) (hQ : ∀ (v : Int), (True) → f307_1 a1 a2 a3 m = v → Q (some (zl v)) m) : X (EE s) d 307 0 [(0, zr 4 44), (1, zi a1), (2, zi a2), (3, zi a3)] [] m Q := by
  refine X.aload_n 1 i307_0 rfl rfl rfl ?_
  refine X.iload_n 2 i307_1 rfl rfl rfl ?_
  refine X.callv 5 [zi a1] [] [(0, zr 4 44), (1, zi a1)] i307_2 rfl (by decide) rfl rfl (by omega) rfl rfl (by decide) rfl t218 (Nat.le_of_ble_eq_true rfl) (Nat.le_of_ble_eq_true rfl) rfl ?_
  refine c218_1 (B := B)  a1 (by omega) (hJ.up (by omega)) (by omega) (by omega) (fun v503 hv503 hFv503 => ?_)
  show X (EE s) d 307 5 [(0, zr 4 44), (1, zi a1), (2, zi a2), (3, zi a3)] [zi v503] m _
  refine X.istore 7 [(0, zr 4 44), (1, zi a1), (2, zi a2), (3, zi a3), (4, zi v503)] i307_5 rfl rfl rfl ?_
  refine X.lconst (y := 0) 8 i307_7 rfl rfl rfl ?_
  refine X.lstore 10 [(0, zr 4 44), (1, zi a1), (2, zi a2), (3, zi a3), (4, zi v503), (5, zl 0)] i307_8 rfl rfl rfl ?_
  refine X.iconst 11 i307_10 rfl rfl (by decide) ?_
  refine X.istore 13 [(0, zr 4 44), (1, zi a1), (2, zi a2), (3, zi a3), (4, zi v503), (5, zl 0), (7, zi 0)] i307_11 rfl rfl rfl ?_
  refine X.iconst 14 i307_13 rfl rfl (by decide) ?_
  refine X.istore 16 [(0, zr 4 44), (1, zi a1), (2, zi a2), (3, zi a3), (4, zi v503), (5, zl 0), (7, zi 0), (8, zi 0)] i307_14 rfl rfl rfl ?_
  refine X.iconst 17 i307_16 rfl rfl (by decide) ?_
  refine X.istore 19 [(0, zr 4 44), (1, zi a1), (2, zi a2), (3, zi a3), (4, zi v503), (5, zl 0), (7, zi 0), (8, zi 0), (9, zi 0)] i307_17 rfl rfl rfl ?_
  refine X.cut [(0, zr 4 44), (2, zi a2), (3, zi a3), (4, zi v503), (5, zl 0), (7, zi 0), (8, zi 0), (9, zi 0)] i307_19 rfl ?_
  have hz8 := zfu_eq 8
  refine l307_19_1 (s := s) (m := m) (B := B) (d := d) (R0 := (f307_1 a1 a2 a3 m))  a2 a3 v503  (by omega) (hJ.up (by omega)) (by omega) (by omega) (by omega) (by omega) (fun y504 hby504 hR508 => ?_) (zfu 8) 0 0 0 0 (by omega) (by omega) (by omega) (by omega) (Eq.trans (zn_eq hFv503.symm) rfl)
  refine X.lload 187 i307_185 rfl rfl rfl ?_
  refine X.retl i307_187 rfl t307 ?_
  exact hQ y504 (by first | trivial | omega) (Eq.trans hR508 rfl) 
noncomputable def fl306_5_1_b (self : Int → Int → Int) (k79 : Int → Int) (y1 y2 : Int) (m : zM) (y3 y5 : Int) : Int :=
  if (y1 + y2) ≤ y5 then
  (k79 y3)
  else
  (zn (if 86400 ≤ ((y1 + y2) - ((y5 / 86400) * 86400)) then
  (86400)
  else
  (((y1 + y2) - ((y5 / 86400) * 86400)))) fun v525 =>
  zn (f307_1 (y5 / 86400) (y5 % 86400) v525 m) fun v532 =>
  zn (w64 (y3 + v532)) fun z533 =>
  self z533 (((y5 / 86400) * 86400) + v525))
noncomputable def fl306_5_1 (k79 : Int → Int) (y1 y2 : Int) (m : zM) : Nat → Int → Int → Int
  | 0 => fun y3 y5 => 0
  | n + 1 => fl306_5_1_b (fl306_5_1 k79 y1 y2 m n) k79 y1 y2 m
theorem l306_5_1 {s : Nat × (Nat → Int32)} {S : zS} {m0 : zM} {m : zM} {B : Int} {d : Nat} {Q : Option zV → zM → Prop} {R0 : Int} {k79 : Int → Int} (y1 y2 : Int) (hd : 16 ≤ d) (hJ : J S m0 B m) (hB9 : B ≤ 1000000000) (hy1 : 0 ≤ y1 ∧ y1 ≤ 2000000000) (hy2 : 1 ≤ y2 ∧ y2 ≤ 100000)
    (K79 : ∀ (x3 : Int) , (True) → R0 = k79 x3 → X (EE s) d 306 79 [(3, zl x3)] [] m Q) :
    ∀ (n : Nat) (y3 y5 : Int) , (0 ≤ y5 ∧ y5 ≤ 2000186000) → (y5 ≤ y1 + y2) → y1 + y2 - y5 < (n : Int) → R0 = fl306_5_1 k79 y1 y2 m n y3 y5 → X (EE s) d 306 5 [(0, zr 4 44), (1, zi y1), (2, zi y2), (3, zl y3), (5, zi y5)] [] m Q := by
  intro n
  induction n with
  | zero =>
    intro y3 y5 hy5 hr0 hn hR
    exfalso
    omega
  | succ n ih =>
    intro y3 y5 hy5 hr0 hn hR
    replace hR : R0 = fl306_5_1_b (fl306_5_1 k79 y1 y2 m n) k79 y1 y2 m y3 y5 := hR
    refine X.iload 7 i306_5 rfl rfl rfl ?_
    refine X.iload_n 8 i306_7 rfl rfl rfl ?_
    refine X.iload_n 9 i306_8 rfl rfl rfl ?_
    refine X.iadd 10 i306_9 rfl rfl (by omega) ?_
    refine X.icmpge 79 13 i306_10 rfl rfl rfl (fun h523 => ?_) (fun h523 => ?_)
    · refine X.cut [(3, zl y3)] i306_79 rfl ?_
      exact K79 y3 (by first | trivial | omega) (Eq.trans hR (Eq.trans (if_pos h523) rfl))
    · refine X.iload 15 i306_13 rfl rfl rfl ?_
      refine X.ldc 17 i306_15 rfl rfl (by decide) ?_
      refine X.idiv 18 i306_17 rfl rfl (by omega) ?_
      refine X.istore 20 [(0, zr 4 44), (1, zi y1), (2, zi y2), (3, zl y3), (5, zi y5), (6, zi (y5 / 86400))] i306_18 rfl rfl rfl ?_
      refine X.iload_n 21 i306_20 rfl rfl rfl ?_
      refine X.iload_n 22 i306_21 rfl rfl rfl ?_
      refine X.iadd 23 i306_22 rfl rfl (by omega) ?_
      refine X.iload 25 i306_23 rfl rfl rfl ?_
      refine X.ldc 27 i306_25 rfl rfl (by decide) ?_
      refine X.imul 28 i306_27 rfl rfl (by omega) ?_
      refine X.isub 29 i306_28 rfl rfl (by omega) ?_
      refine X.ldc 31 i306_29 rfl rfl (by decide) ?_
      have hK528 : ∀ (v : Int) , ((-2000073599) ≤ v ∧ v ≤ 86400) → (if 86400 ≤ ((y1 + y2) - ((y5 / 86400) * 86400)) then
          (86400)
          else
          (((y1 + y2) - ((y5 / 86400) * 86400)))) = v → X (EE s) d 306 48 [(0, zr 4 44), (1, zi y1), (2, zi y2), (3, zl y3), (5, zi y5), (6, zi (y5 / 86400))] [zi v] m Q := by
        intro v525 hv525 hT529
        refine X.istore 50 [(0, zr 4 44), (1, zi y1), (2, zi y2), (3, zl y3), (5, zi y5), (6, zi (y5 / 86400)), (7, zi v525)] i306_48 rfl rfl rfl ?_
        refine X.lload_n 51 i306_50 rfl rfl rfl ?_
        refine X.aload_n 52 i306_51 rfl rfl rfl ?_
        refine X.iload 54 i306_52 rfl rfl rfl ?_
        refine X.iload 56 i306_54 rfl rfl rfl ?_
        refine X.ldc 58 i306_56 rfl rfl (by decide) ?_
        refine X.irem 59 i306_58 rfl rfl (by omega) ?_
        refine X.iload 61 i306_59 rfl rfl rfl ?_
        refine X.callv 64 [zi (y5 / 86400), zi (y5 % 86400), zi v525] [zl y3] [(0, zr 4 44), (1, zi (y5 / 86400)), (2, zi (y5 % 86400)), (3, zi v525)] i306_61 rfl (by decide) rfl rfl (by omega) rfl rfl (by decide) rfl t307 (Nat.le_of_ble_eq_true rfl) (Nat.le_of_ble_eq_true rfl) rfl ?_
        refine c307_3 (B := B)  (y5 / 86400) (y5 % 86400) v525 (by omega) (hJ.up (by omega)) (by omega) (by omega) (by omega) (by omega) (fun v532 hv532 hFv532 => ?_)
        show X (EE s) d 306 64 [(0, zr 4 44), (1, zi y1), (2, zi y2), (3, zl y3), (5, zi y5), (6, zi (y5 / 86400)), (7, zi v525)] [zl v532, zl y3] m _
        refine X.laddW 65 i306_64 rfl rfl (fun z533 ez533 hz533 => ?_)
        refine X.lstore_n 66 [(0, zr 4 44), (1, zi y1), (2, zi y2), (3, zl z533), (5, zi y5), (6, zi (y5 / 86400)), (7, zi v525)] i306_65 rfl rfl rfl ?_
        refine X.iload 68 i306_66 rfl rfl rfl ?_
        refine X.ldc 70 i306_68 rfl rfl (by decide) ?_
        refine X.imul 71 i306_70 rfl rfl (by omega) ?_
        refine X.iload 73 i306_71 rfl rfl rfl ?_
        refine X.iadd 74 i306_73 rfl rfl (by omega) ?_
        refine X.istore 76 [(0, zr 4 44), (1, zi y1), (2, zi y2), (3, zl z533), (5, zi (((y5 / 86400) * 86400) + v525)), (6, zi (y5 / 86400)), (7, zi v525)] i306_74 rfl rfl rfl ?_
        refine X.goto 5 i306_76 rfl rfl ?_
        refine X.cut [(0, zr 4 44), (1, zi y1), (2, zi y2), (3, zl z533), (5, zi (((y5 / 86400) * 86400) + v525))] i306_5 rfl ?_
        exact ih z533 (((y5 / 86400) * 86400) + v525) (by omega) (by omega) (by omega) (Eq.trans hR (Eq.trans (if_neg h523) (Eq.trans (zn_eq hT529.symm) (Eq.trans (zn_eq hFv532.symm) (Eq.trans (zn_eq ez533) rfl)))))
      refine X.icmpge 46 34 i306_31 rfl rfl rfl (fun h524 => ?_) (fun h524 => ?_)
      · refine X.ldc 48 i306_46 rfl rfl (by decide) ?_
        exact hK528 86400 (by first | trivial | omega) (Eq.trans (if_pos h524) rfl)
      · refine X.iload_n 35 i306_34 rfl rfl rfl ?_
        refine X.iload_n 36 i306_35 rfl rfl rfl ?_
        refine X.iadd 37 i306_36 rfl rfl (by omega) ?_
        refine X.iload 39 i306_37 rfl rfl rfl ?_
        refine X.ldc 41 i306_39 rfl rfl (by decide) ?_
        refine X.imul 42 i306_41 rfl rfl (by omega) ?_
        refine X.isub 43 i306_42 rfl rfl (by omega) ?_
        refine X.goto 48 i306_43 rfl rfl ?_
        exact hK528 ((y1 + y2) - ((y5 / 86400) * 86400)) (by first | trivial | omega) (Eq.trans (if_neg h524) rfl)
-- WorkMeterModel.costFrom
noncomputable def f306_1 (a1 a2 : Int) (m : zM) : Int :=
  fl306_5_1 (fun y501 =>
  y501) a1 a2 m (zfu 100001) 0 a1
-- WorkMeterModel.costFrom
theorem c306_1 {s : Nat × (Nat → Int32)} {S : zS} {m0 m : zM} {B : Int} {d : Nat} {Q : Option zV → zM → Prop} (a1 a2 : Int) (hd : 16 ≤ d) (hJ : J S m0 B m) (hB : B + 0 ≤ 1000000000) (ha1 : 0 ≤ a1 ∧ a1 ≤ 2000000000) (ha2 : 1 ≤ a2 ∧ a2 ≤ 100000) (hQ : ∀ (v : Int), (True) → f306_1 a1 a2 m = v → Q (some (zl v)) m) : X (EE s) d 306 0 [(0, zr 4 44), (1, zi a1), (2, zi a2)] [] m Q := by
  refine X.lconst (y := 0) 1 i306_0 rfl rfl rfl ?_
  refine X.lstore_n 2 [(0, zr 4 44), (1, zi a1), (2, zi a2), (3, zl 0)] i306_1 rfl rfl rfl ?_
  refine X.iload_n 3 i306_2 rfl rfl rfl ?_
  refine X.istore 5 [(0, zr 4 44), (1, zi a1), (2, zi a2), (3, zl 0), (5, zi a1)] i306_3 rfl rfl rfl ?_
  have hz100001 := zfu_eq 100001
  refine l306_5_1 (s := s) (m := m) (B := B) (d := d) (R0 := (f306_1 a1 a2 m))  a1 a2  (by omega) (hJ.up (by omega)) (by omega) (by omega) (by omega) (fun y501 hby501 hR505 => ?_) (zfu 100001) 0 a1 (by omega) (by omega) (by omega) rfl
  refine X.lload_n 80 i306_79 rfl rfl rfl ?_
  refine X.retl i306_80 rfl t306 ?_
  exact hQ y501 (by first | trivial | omega) (Eq.trans hR505 rfl) 
-- WorkMeterModel.cost
noncomputable def f305_1 (a1 : Int) (m : zM) : Int :=
  if a1 < 1 then
  ((-1))
  else
  (if a1 ≤ 100000 then
  (zn (if ((m 4 45 0) + a1) ≤ 2000000000 then
  (zn (f306_1 (m 4 45 0) a1 m) fun v513 =>
  v513)
  else
  ((-1))) fun v514 =>
  v514)
  else
  ((-1)))
-- WorkMeterModel.cost
theorem c305_1 {s : Nat × (Nat → Int32)} {S : zS} {m0 m : zM} {B : Int} {d : Nat} {Q : Option zV → zM → Prop} (a1 : Int) (hd : 17 ≤ d) (hJ : J S m0 B m) (hB : B + 0 ≤ 1000000000) (ha1 : (-2147483648) ≤ a1 ∧ a1 ≤ 2147483647) (hQ : ∀ (v : Int), (True) → f305_1 a1 m = v → Q (some (zl v)) m) : X (EE s) d 305 0 [(0, zr 4 44), (1, zi a1)] [] m Q := by
  refine X.iload_n 1 i305_0 rfl rfl rfl ?_
  refine X.i2l 2 i305_1 rfl rfl ?_
  refine X.lconst (y := 1) 3 i305_2 rfl rfl rfl ?_
  refine X.ldc2 6 i305_3 rfl rfl (by decide) ?_
  refine X.calls 9 [zl a1, zl 1, zl 100000] [] [(0, zl a1), (2, zl 1), (4, zl 100000)] i305_6 (by decide) rfl rfl (by omega) rfl rfl t204 (Nat.le_of_ble_eq_true rfl) (Nat.le_of_ble_eq_true rfl) rfl ?_
  refine X.lload_n 1 i204_0 rfl rfl rfl ?_
  refine X.lload_n 2 i204_1 rfl rfl rfl ?_
  refine X.lcmp 3 i204_2 rfl rfl (fun z501 hz501 => ?_)
  refine X.iflt 17 6 i204_3 rfl rfl rfl (fun h502 => ?_) (fun h502 => ?_)
  · have h502c : a1 < 1 := by omega
    clear h502 hz501
    refine X.cut [] i204_17 rfl ?_
    refine X.iconst 18 i204_17 rfl rfl (by decide) ?_
    refine X.retz i204_18 rfl t204 (by omega) ?_
    show X (EE s) d 305 9 [(0, zr 4 44), (1, zi a1)] [zi 0] m _
    refine X.ifeq 43 12 i305_9 rfl rfl rfl (fun h503 => ?_) (fun h503 => (by exfalso; omega))
    refine X.cut [] i305_43 rfl ?_
    refine X.ldc2 46 i305_43 rfl rfl (by decide) ?_
    refine X.retl i305_46 rfl t305 ?_
    exact hQ (-1) (by first | trivial | omega) (Eq.trans (if_pos h502c) rfl) 
  · have h502c : ¬ a1 < 1 := by omega
    clear h502 hz501
    refine X.lload_n 7 i204_6 rfl rfl rfl ?_
    refine X.lload 9 i204_7 rfl rfl rfl ?_
    refine X.lcmp 10 i204_9 rfl rfl (fun z504 hz504 => ?_)
    refine X.ifgt 17 13 i204_10 rfl rfl rfl (fun h505 => ?_) (fun h505 => ?_)
    · have h505c : ¬ a1 ≤ 100000 := by omega
      clear h505 hz504
      refine X.cut [] i204_17 rfl ?_
      refine X.iconst 18 i204_17 rfl rfl (by decide) ?_
      refine X.retz i204_18 rfl t204 (by omega) ?_
      show X (EE s) d 305 9 [(0, zr 4 44), (1, zi a1)] [zi 0] m _
      refine X.ifeq 43 12 i305_9 rfl rfl rfl (fun h506 => ?_) (fun h506 => (by exfalso; omega))
      refine X.cut [] i305_43 rfl ?_
      refine X.ldc2 46 i305_43 rfl rfl (by decide) ?_
      refine X.retl i305_46 rfl t305 ?_
      exact hQ (-1) (by first | trivial | omega) (Eq.trans (if_neg h502c) (Eq.trans (if_neg h505c) rfl)) 
    · have h505c : a1 ≤ 100000 := by omega
      clear h505 hz504
      refine X.iconst 14 i204_13 rfl rfl (by decide) ?_
      refine X.goto 18 i204_14 rfl rfl ?_
      refine X.cut [] i204_18 rfl ?_
      refine X.retz i204_18 rfl t204 (by omega) ?_
      show X (EE s) d 305 9 [(0, zr 4 44), (1, zi a1)] [zi 1] m _
      refine X.ifeq 43 12 i305_9 rfl rfl rfl (fun h507 => (by exfalso; omega)) (fun h507 => ?_)
      refine X.aload_n 13 i305_12 rfl rfl rfl ?_
      refine X.getF 16 i305_13 rfl rfl (by decide) rfl rfl ?_
      refine X.iconst 17 i305_16 rfl rfl (by decide) ?_
      refine X.lald 18 i305_17 rfl rfl (by decide) rfl (by omega) ?_
      have h508 := r45_0 hJ 4
      refine X.iload_n 19 i305_18 rfl rfl rfl ?_
      refine X.i2l 20 i305_19 rfl rfl ?_
      refine X.ladd 21 i305_20 rfl rfl (by omega) ?_
      refine X.ldc2 24 i305_21 rfl rfl (by decide) ?_
      refine X.lcmp 25 i305_24 rfl rfl (fun z509 hz509 => ?_)
      have hK517 : ∀ (v : Int) , (True) → (if ((m 4 45 0) + a1) ≤ 2000000000 then
          (zn (f306_1 (m 4 45 0) a1 m) fun v513 =>
          v513)
          else
          ((-1))) = v → X (EE s) d 305 46 [] [zl v] m Q := by
        intro v514 hv514 hT518
        refine X.retl i305_46 rfl t305 ?_
        exact hQ v514 (by first | trivial | omega) (Eq.trans (if_neg h502c) (Eq.trans (if_pos h505c) (Eq.trans (zn_eq hT518.symm) rfl))) 
      refine X.ifgt 43 28 i305_25 rfl rfl rfl (fun h510 => ?_) (fun h510 => ?_)
      · have h510c : ¬ ((m 4 45 0) + a1) ≤ 2000000000 := by omega
        clear h510 hz509
        refine X.cut [] i305_43 rfl ?_
        refine X.ldc2 46 i305_43 rfl rfl (by decide) ?_
        exact hK517 (-1) (by first | trivial | omega) (Eq.trans (if_neg h510c) rfl)
      · have h510c : ((m 4 45 0) + a1) ≤ 2000000000 := by omega
        clear h510 hz509
        refine X.aload_n 29 i305_28 rfl rfl rfl ?_
        refine X.aload_n 30 i305_29 rfl rfl rfl ?_
        refine X.getF 33 i305_30 rfl rfl (by decide) rfl rfl ?_
        refine X.iconst 34 i305_33 rfl rfl (by decide) ?_
        refine X.lald 35 i305_34 rfl rfl (by decide) rfl (by omega) ?_
        refine X.l2i 36 i305_35 rfl rfl (by omega) ?_
        refine X.iload_n 37 i305_36 rfl rfl rfl ?_
        refine X.callv 40 [zi (m 4 45 0), zi a1] [] [(0, zr 4 44), (1, zi (m 4 45 0)), (2, zi a1)] i305_37 rfl (by decide) rfl rfl (by omega) rfl rfl (by decide) rfl t306 (Nat.le_of_ble_eq_true rfl) (Nat.le_of_ble_eq_true rfl) rfl ?_
        refine c306_1 (B := B)  (m 4 45 0) a1 (by omega) (hJ.up (by omega)) (by omega) (by omega) (by omega) (fun v513 hv513 hFv513 => ?_)
        show X (EE s) d 305 40 [(0, zr 4 44), (1, zi a1)] [zl v513] m _
        refine X.goto 46 i305_40 rfl rfl ?_
        refine X.cut [] i305_46 rfl ?_
        exact hK517 v513 (by first | trivial | omega) (Eq.trans (if_pos h510c) (Eq.trans (zn_eq hFv513.symm) rfl))
theorem l182_14_2 {s : Nat × (Nat → Int32)} {S : zS} {m0 : zM} {m : zM} {B : Int} {d : Nat} {Q : Option zV → zM → Prop} {R0 : Int} {k73 : Int → Int} (g0 g3 : Nat) (y2 y4 : Int) (hd : 16 ≤ d) (hJ : J S m0 B m) (hB9 : B ≤ 1000000000) (hy2 : 1 ≤ y2 ∧ y2 ≤ 100000) (hy4 : 901 ≤ y4 ∧ y4 ≤ 2000185500)
    (K73 : ∀ (x6 : Int) , (True) → R0 = k73 x6 → X (EE s) d 182 73 [(6, zl x6)] [] m Q) :
    ∀ (n : Nat) (y5 y6 y8 : Int) , (0 ≤ y5 ∧ y5 ≤ 2000185500) → (0 ≤ y8 ∧ y8 ≤ 100000) → 100000 - y8 < (n : Int) → R0 = fl182_14_1 k73 g0 g3 y2 y4 m n y5 y6 y8 → X (EE s) d 182 14 [(0, zr g0 11), (2, zi y2), (3, zr g3 9), (4, zi y4), (5, zi y5), (6, zl y6), (8, zi y8)] [] m Q := by
  intro n
  induction n with
  | zero =>
    intro y5 y6 y8 hy5 hy8 hn hR
    exfalso
    omega
  | succ n ih =>
    intro y5 y6 y8 hy5 hy8 hn hR
    replace hR : R0 = fl182_14_1_b (fl182_14_1 k73 g0 g3 y2 y4 m n) k73 g0 g3 y2 y4 m y5 y6 y8 := hR
    refine X.iload 16 i182_14 rfl rfl rfl ?_
    refine X.iload_n 17 i182_16 rfl rfl rfl ?_
    refine X.icmpge 73 20 i182_17 rfl rfl rfl (fun h552 => ?_) (fun h552 => ?_)
    · refine X.cut [(6, zl y6)] i182_73 rfl ?_
      exact K73 y6 (by first | trivial | omega) (Eq.trans hR (Eq.trans (if_pos h552) rfl))
    · refine X.iload 22 i182_20 rfl rfl rfl ?_
      refine X.iload 24 i182_22 rfl rfl rfl ?_
      refine X.icmpge 73 27 i182_24 rfl rfl rfl (fun h553 => ?_) (fun h553 => ?_)
      · refine X.cut [(6, zl y6)] i182_73 rfl ?_
        exact K73 y6 (by first | trivial | omega) (Eq.trans hR (Eq.trans (if_neg h552) (Eq.trans (if_pos h553) rfl)))
      · refine X.aload_n 28 i182_27 rfl rfl rfl ?_
        refine X.iload 30 i182_28 rfl rfl rfl ?_
        refine X.callv 33 [zi y5] [] [(0, zr g0 11), (1, zi y5)] i182_30 rfl (by decide) rfl rfl (by omega) rfl rfl (by decide) rfl t37 (Nat.le_of_ble_eq_true rfl) (Nat.le_of_ble_eq_true rfl) rfl ?_
        refine c37_1 (B := B) g0 y5 (by omega) (hJ.up (by omega)) (by omega) (by omega) (fun v556 hv556 hFv556 hqv556_0 => ?_)
        show X (EE s) d 182 33 [(0, zr g0 11), (2, zi y2), (3, zr g3 9), (4, zi y4), (5, zi y5), (6, zl y6), (8, zi y8)] [zi v556] m _
        refine X.iload 35 i182_33 rfl rfl rfl ?_
        refine X.minI 38 i182_35 rfl rfl (by omega) (Nat.le_of_ble_eq_true rfl) ?_
        refine X.istore 40 [(0, zr g0 11), (2, zi y2), (3, zr g3 9), (4, zi y4), (5, zi y5), (6, zl y6), (8, zi y8), (9, zi (min v556 y4))] i182_38 rfl rfl rfl ?_
        refine X.lload 42 i182_40 rfl rfl rfl ?_
        refine X.aload_n 43 i182_42 rfl rfl rfl ?_
        refine X.aload_n 44 i182_43 rfl rfl rfl ?_
        refine X.iload 46 i182_44 rfl rfl rfl ?_
        refine X.callv 49 [zi y5] [zr g3 9, zl y6] [(0, zr g0 11), (1, zi y5)] i182_46 rfl (by decide) rfl rfl (by omega) rfl rfl (by decide) rfl t27 (Nat.le_of_ble_eq_true rfl) (Nat.le_of_ble_eq_true rfl) rfl ?_
        refine c27_1 (B := B) g0 y5 (by omega) (hJ.up (by omega)) (by omega) (by omega) (fun v559 hv559 hFv559 => ?_)
        show X (EE s) d 182 49 [(0, zr g0 11), (2, zi y2), (3, zr g3 9), (4, zi y4), (5, zi y5), (6, zl y6), (8, zi y8), (9, zi (min v556 y4))] [zi v559, zr g3 9, zl y6] m _
        refine X.callv 52 [zi v559] [zl y6] [(0, zr g3 9), (1, zi v559)] i182_49 rfl (by decide) rfl rfl (by omega) rfl rfl (by decide) rfl t43 (Nat.le_of_ble_eq_true rfl) (Nat.le_of_ble_eq_true rfl) rfl ?_
        refine X.aload_n 1 i43_0 rfl rfl rfl ?_
        refine X.getR 4 i43_1 rfl rfl (by decide) rfl rfl ?_
        refine X.bipush 6 i43_4 rfl rfl (by decide) ?_
        refine X.iload_n 7 i43_6 rfl rfl rfl ?_
        refine X.iadd 8 i43_7 rfl rfl (by omega) ?_
        refine X.iald 9 i43_8 rfl rfl (by decide) rfl (by omega) ?_
        have h560 := r10_6 hJ g3 (i := (6 + v559)) (by omega)
        refine X.reti i43_9 rfl t43 ?_
        show X (EE s) d 182 52 [(0, zr g0 11), (2, zi y2), (3, zr g3 9), (4, zi y4), (5, zi y5), (6, zl y6), (8, zi y8), (9, zi (min v556 y4))] [zi (m g3 10 (6 + v559)), zl y6] m _
        refine X.i2l 53 i182_52 rfl rfl ?_
        refine X.iload 55 i182_53 rfl rfl rfl ?_
        refine X.iload 57 i182_55 rfl rfl rfl ?_
        refine X.isub 58 i182_57 rfl rfl (by omega) ?_
        refine X.i2l 59 i182_58 rfl rfl ?_
        have hz561 := z_mulr (a := 0) (b := 1000000) (c := (-2000185499)) (e := 2000185500) (x := (m g3 10 (6 + v559))) (y := ((min v556 y4) - y5)) (by omega) (by omega)
        refine X.lmul 60 i182_59 rfl rfl (z_in3 hz561 (by decide) (by decide)) ?_
        obtain ⟨z561, ez561⟩ : ∃ z, z = ((m g3 10 (6 + v559)) * ((min v556 y4) - y5)) := ⟨_, rfl⟩
        rw [← ez561] at hz561 ⊢
        have gz561 : (-2000185499000000) ≤ z561 ∧ z561 ≤ 2000185500000000 := z_in3 hz561 (by decide) (by decide)
        clear hz561
        refine X.laddW 61 i182_60 rfl rfl (fun z562 ez562 hz562 => ?_)
        refine X.lstore 63 [(0, zr g0 11), (2, zi y2), (3, zr g3 9), (4, zi y4), (5, zi y5), (6, zl z562), (8, zi y8), (9, zi (min v556 y4))] i182_61 rfl rfl rfl ?_
        refine X.iload 65 i182_63 rfl rfl rfl ?_
        refine X.istore 67 [(0, zr g0 11), (2, zi y2), (3, zr g3 9), (4, zi y4), (5, zi (min v556 y4)), (6, zl z562), (8, zi y8), (9, zi (min v556 y4))] i182_65 rfl rfl rfl ?_
        refine X.iinc 70 [(0, zr g0 11), (2, zi y2), (3, zr g3 9), (4, zi y4), (5, zi (min v556 y4)), (6, zl z562), (8, zi (y8 + 1)), (9, zi (min v556 y4))] i182_67 rfl rfl rfl (by omega) rfl ?_
        refine X.goto 14 i182_70 rfl rfl ?_
        refine X.cut [(0, zr g0 11), (2, zi y2), (3, zr g3 9), (4, zi y4), (5, zi (min v556 y4)), (6, zl z562), (8, zi (y8 + 1))] i182_14 rfl ?_
        exact ih (min v556 y4) z562 (y8 + 1) (by omega) (by omega) (by omega) (Eq.trans hR (Eq.trans (if_neg h552) (Eq.trans (if_neg h553) (Eq.trans (zn_eq hFv556.symm) (Eq.trans (zn_eq hFv559.symm) (Eq.trans (zn_eq ez561) (Eq.trans (zn_eq ez562) rfl)))))))
-- WorkMeter$Calendar.costOf
theorem c182_2 {s : Nat × (Nat → Int32)} {S : zS} {m0 m : zM} {B : Int} {d : Nat} {Q : Option zV → zM → Prop} (g0 g3 : Nat) (a1 a2 : Int) (hd : 16 ≤ d) (hJ : J S m0 B m) (hB : B + 0 ≤ 1000000000) (ha1 : 900 ≤ a1 ∧ a1 ≤ 2000085500) (ha2 : 1 ≤ a2 ∧ a2 ≤ 100000) (hQ : ∀ (v : Int), (True) → f182_1 g0 g3 a1 a2 m = v → Q (some (zl v)) m) : X (EE s) d 182 0 [(0, zr g0 11), (1, zi a1), (2, zi a2), (3, zr g3 9)] [] m Q := by
  refine X.iload_n 1 i182_0 rfl rfl rfl ?_
  refine X.iload_n 2 i182_1 rfl rfl rfl ?_
  refine X.iadd 3 i182_2 rfl rfl (by omega) ?_
  refine X.istore 5 [(0, zr g0 11), (1, zi a1), (2, zi a2), (3, zr g3 9), (4, zi (a1 + a2))] i182_3 rfl rfl rfl ?_
  refine X.iload_n 6 i182_5 rfl rfl rfl ?_
  refine X.istore 8 [(0, zr g0 11), (1, zi a1), (2, zi a2), (3, zr g3 9), (4, zi (a1 + a2)), (5, zi a1)] i182_6 rfl rfl rfl ?_
  refine X.lconst (y := 0) 9 i182_8 rfl rfl rfl ?_
  refine X.lstore 11 [(0, zr g0 11), (1, zi a1), (2, zi a2), (3, zr g3 9), (4, zi (a1 + a2)), (5, zi a1), (6, zl 0)] i182_9 rfl rfl rfl ?_
  refine X.iconst 12 i182_11 rfl rfl (by decide) ?_
  refine X.istore 14 [(0, zr g0 11), (1, zi a1), (2, zi a2), (3, zr g3 9), (4, zi (a1 + a2)), (5, zi a1), (6, zl 0), (8, zi 0)] i182_12 rfl rfl rfl ?_
  refine X.cut [(0, zr g0 11), (2, zi a2), (3, zr g3 9), (4, zi (a1 + a2)), (5, zi a1), (6, zl 0), (8, zi 0)] i182_14 rfl ?_
  have hz100001 := zfu_eq 100001
  refine l182_14_2 (s := s) (m := m) (B := B) (d := d) (R0 := (f182_1 g0 g3 a1 a2 m)) g0 g3 a2 (a1 + a2)  (by omega) (hJ.up (by omega)) (by omega) (by omega) (by omega) (fun y501 hby501 hR505 => ?_) (zfu 100001) a1 0 0 (by omega) (by omega) (by omega) rfl
  refine X.lload 75 i182_73 rfl rfl rfl ?_
  refine X.retl i182_75 rfl t182 ?_
  exact hQ y501 (by first | trivial | omega) (Eq.trans hR505 rfl) 
noncomputable def fl183_80_1_b (self : Int → Int → Int → Int) (k146 : Int → Int → Int) (y1 y2 : Int) (m : zM) (y3 y4 y6 : Int) : Int :=
  if 96 ≤ y6 then
  (k146 y3 y4)
  else
  (zn (f182_1 0 0 ((m 0 8 9) + (y6 * 900)) y1 m) fun v519 =>
  if v519 < y4 then
  (self ((m 0 8 9) + (y6 * 900)) v519 (y6 + 1))
  else
  (self y3 y4 (y6 + 1)))
noncomputable def fl183_80_1 (k146 : Int → Int → Int) (y1 y2 : Int) (m : zM) : Nat → Int → Int → Int → Int
  | 0 => fun y3 y4 y6 => 0
  | n + 1 => fl183_80_1_b (fl183_80_1 k146 y1 y2 m n) k146 y1 y2 m
theorem l183_80_1 {s : Nat × (Nat → Int32)} {S : zS} {m0 : zM} {m : zM} {B : Int} {d : Nat} {Q : Option zV → zM → Prop} {R0 : Int} {k146 : Int → Int → Int} (y1 y2 : Int) (hd : 17 ≤ d) (hJ : J S m0 B m) (hB9 : B ≤ 1000000000) (hy1 : 1 ≤ y1 ∧ y1 ≤ 100000) (hy2 : 0 ≤ y2 ∧ y2 ≤ 1)
    (K146 : ∀ (x3 x4 : Int) , (0 ≤ x3 ∧ x3 ≤ 2000085500) → (True) → R0 = k146 x3 x4 → X (EE s) d 183 146 [(2, zi y2), (3, zi x3), (4, zl x4)] [] m Q) :
    ∀ (n : Nat) (y3 y4 y6 : Int) , (0 ≤ y3 ∧ y3 ≤ 2000085500) → (1 ≤ y6 ∧ y6 ≤ 96) → 96 - y6 < (n : Int) → R0 = fl183_80_1 k146 y1 y2 m n y3 y4 y6 → X (EE s) d 183 80 [(0, zr 4 40), (1, zi y1), (2, zi y2), (3, zi y3), (4, zl y4), (6, zi y6)] [] m Q := by
  intro n
  induction n with
  | zero =>
    intro y3 y4 y6 hy3 hy6 hn hR
    exfalso
    omega
  | succ n ih =>
    intro y3 y4 y6 hy3 hy6 hn hR
    replace hR : R0 = fl183_80_1_b (fl183_80_1 k146 y1 y2 m n) k146 y1 y2 m y3 y4 y6 := hR
    refine X.iload 82 i183_80 rfl rfl rfl ?_
    refine X.bipush 84 i183_82 rfl rfl (by decide) ?_
    refine X.icmpge 146 87 i183_84 rfl rfl rfl (fun h515 => ?_) (fun h515 => ?_)
    · refine X.cut [(2, zi y2), (3, zi y3), (4, zl y4)] i183_146 rfl ?_
      exact K146 y3 y4 (by first | trivial | omega) (by first | trivial | omega) (Eq.trans hR (Eq.trans (if_pos h515) rfl))
    · refine X.aload_n 88 i183_87 rfl rfl rfl ?_
      refine X.getF 91 i183_88 rfl rfl (by decide) rfl rfl ?_
      refine X.getI 94 9 i183_91 rfl rfl (by decide) rfl rfl rfl ?_
      have h516 := r8_9 hJ 0
      refine X.iload 96 i183_94 rfl rfl rfl ?_
      refine X.sipush 99 i183_96 rfl rfl (by decide) ?_
      refine X.imul 100 i183_99 rfl rfl (by omega) ?_
      refine X.iadd 101 i183_100 rfl rfl (by omega) ?_
      refine X.istore 103 [(0, zr 4 40), (1, zi y1), (2, zi y2), (3, zi y3), (4, zl y4), (6, zi y6), (7, zi ((m 0 8 9) + (y6 * 900)))] i183_101 rfl rfl rfl ?_
      refine X.aload_n 104 i183_103 rfl rfl rfl ?_
      refine X.getF 107 i183_104 rfl rfl (by decide) rfl rfl ?_
      refine X.getR 110 i183_107 rfl rfl (by decide) rfl rfl ?_
      refine X.iload 112 i183_110 rfl rfl rfl ?_
      refine X.iload_n 113 i183_112 rfl rfl rfl ?_
      refine X.aload_n 114 i183_113 rfl rfl rfl ?_
      refine X.getF 117 i183_114 rfl rfl (by decide) rfl rfl ?_
      refine X.getR 120 i183_117 rfl rfl (by decide) rfl rfl ?_
      refine X.callv 123 [zi ((m 0 8 9) + (y6 * 900)), zi y1, zr 0 9] [] [(0, zr 0 11), (1, zi ((m 0 8 9) + (y6 * 900))), (2, zi y1), (3, zr 0 9)] i183_120 rfl (by decide) rfl rfl (by omega) rfl rfl (by decide) rfl t182 (Nat.le_of_ble_eq_true rfl) (Nat.le_of_ble_eq_true rfl) rfl ?_
      refine c182_2 (B := B) 0 0 ((m 0 8 9) + (y6 * 900)) y1 (by omega) (hJ.up (by omega)) (by omega) (by omega) (by omega) (fun v519 hv519 hFv519 => ?_)
      show X (EE s) d 183 123 [(0, zr 4 40), (1, zi y1), (2, zi y2), (3, zi y3), (4, zl y4), (6, zi y6), (7, zi ((m 0 8 9) + (y6 * 900)))] [zl v519] m _
      refine X.lstore 125 [(0, zr 4 40), (1, zi y1), (2, zi y2), (3, zi y3), (4, zl y4), (6, zi y6), (7, zi ((m 0 8 9) + (y6 * 900))), (8, zl v519)] i183_123 rfl rfl rfl ?_
      refine X.lload 127 i183_125 rfl rfl rfl ?_
      refine X.lload 129 i183_127 rfl rfl rfl ?_
      refine X.lcmp 130 i183_129 rfl rfl (fun z520 hz520 => ?_)
      refine X.ifge 140 133 i183_130 rfl rfl rfl (fun h521 => ?_) (fun h521 => ?_)
      · have h521c : ¬ v519 < y4 := by omega
        clear h521 hz520
        refine X.cut [(0, zr 4 40), (1, zi y1), (2, zi y2), (3, zi y3), (4, zl y4), (6, zi y6)] i183_140 rfl ?_
        refine X.iinc 143 [(0, zr 4 40), (1, zi y1), (2, zi y2), (3, zi y3), (4, zl y4), (6, zi (y6 + 1))] i183_140 rfl rfl rfl (by omega) rfl ?_
        refine X.goto 80 i183_143 rfl rfl ?_
        exact ih y3 y4 (y6 + 1) (by omega) (by omega) (by omega) (Eq.trans hR (Eq.trans (if_neg h515) (Eq.trans (zn_eq hFv519.symm) (Eq.trans (if_neg h521c) rfl))))
      · have h521c : v519 < y4 := by omega
        clear h521 hz520
        refine X.lload 135 i183_133 rfl rfl rfl ?_
        refine X.lstore 137 [(0, zr 4 40), (1, zi y1), (2, zi y2), (3, zi y3), (4, zl v519), (6, zi y6), (7, zi ((m 0 8 9) + (y6 * 900))), (8, zl v519)] i183_135 rfl rfl rfl ?_
        refine X.iload 139 i183_137 rfl rfl rfl ?_
        refine X.istore_n 140 [(0, zr 4 40), (1, zi y1), (2, zi y2), (3, zi ((m 0 8 9) + (y6 * 900))), (4, zl v519), (6, zi y6), (7, zi ((m 0 8 9) + (y6 * 900))), (8, zl v519)] i183_139 rfl rfl rfl ?_
        refine X.cut [(0, zr 4 40), (1, zi y1), (2, zi y2), (3, zi ((m 0 8 9) + (y6 * 900))), (4, zl v519), (6, zi y6)] i183_140 rfl ?_
        refine X.iinc 143 [(0, zr 4 40), (1, zi y1), (2, zi y2), (3, zi ((m 0 8 9) + (y6 * 900))), (4, zl v519), (6, zi (y6 + 1))] i183_140 rfl rfl rfl (by omega) rfl ?_
        refine X.goto 80 i183_143 rfl rfl ?_
        exact ih ((m 0 8 9) + (y6 * 900)) v519 (y6 + 1) (by omega) (by omega) (by omega) (Eq.trans hR (Eq.trans (if_neg h515) (Eq.trans (zn_eq hFv519.symm) (Eq.trans (if_pos h521c) rfl))))
-- WorkMeter.cheapest
noncomputable def f183_1 (a1 a2 : Int) (m : zM) : Int :=
  if a1 < 1 then
  ((-1))
  else
  (if 100000 < a1 then
  ((-1))
  else
  (if a2 < 0 then
  ((-1))
  else
  (if a2 ≤ 1 then
  (if ((((m 0 8 9) + 85500) + a1) - 1) ≤ 2000000000 then
  (zn (f182_1 0 0 (m 0 8 9) a1 m) fun v509 =>
  fl183_80_1 (fun y510 y511 =>
  zn (if a2 = 0 then
  (y510)
  else
  (y511)) fun v517 =>
  v517) a1 a2 m (zfu 96) (m 0 8 9) v509 1)
  else
  ((-1)))
  else
  ((-1)))))
-- WorkMeter.cheapest
theorem c183_1 {s : Nat × (Nat → Int32)} {S : zS} {m0 m : zM} {B : Int} {d : Nat} {Q : Option zV → zM → Prop} (a1 a2 : Int) (hd : 17 ≤ d) (hJ : J S m0 B m) (hB : B + 0 ≤ 1000000000) (ha1 : (-2147483648) ≤ a1 ∧ a1 ≤ 2147483647) (ha2 : (-2147483648) ≤ a2 ∧ a2 ≤ 2147483647) (hQ : ∀ (v : Int), (True) → f183_1 a1 a2 m = v → Q (some (zl v)) m) : X (EE s) d 183 0 [(0, zr 4 40), (1, zi a1), (2, zi a2)] [] m Q := by
  refine X.iload_n 1 i183_0 rfl rfl rfl ?_
  refine X.iconst 2 i183_1 rfl rfl (by decide) ?_
  refine X.icmplt 20 5 i183_2 rfl rfl rfl (fun h501 => ?_) (fun h501 => ?_)
  · refine X.cut [] i183_20 rfl ?_
    refine X.ldc2 23 i183_20 rfl rfl (by decide) ?_
    refine X.retl i183_23 rfl t183 ?_
    exact hQ (-1) (by first | trivial | omega) (Eq.trans (if_pos h501) rfl) 
  · refine X.iload_n 6 i183_5 rfl rfl rfl ?_
    refine X.ldc 8 i183_6 rfl rfl (by decide) ?_
    refine X.icmpgt 20 11 i183_8 rfl rfl rfl (fun h502 => ?_) (fun h502 => ?_)
    · refine X.cut [] i183_20 rfl ?_
      refine X.ldc2 23 i183_20 rfl rfl (by decide) ?_
      refine X.retl i183_23 rfl t183 ?_
      exact hQ (-1) (by first | trivial | omega) (Eq.trans (if_neg h501) (Eq.trans (if_pos h502) rfl)) 
    · refine X.iload_n 12 i183_11 rfl rfl rfl ?_
      refine X.iflt 20 15 i183_12 rfl rfl rfl (fun h503 => ?_) (fun h503 => ?_)
      · refine X.cut [] i183_20 rfl ?_
        refine X.ldc2 23 i183_20 rfl rfl (by decide) ?_
        refine X.retl i183_23 rfl t183 ?_
        exact hQ (-1) (by first | trivial | omega) (Eq.trans (if_neg h501) (Eq.trans (if_neg h502) (Eq.trans (if_pos h503) rfl))) 
      · refine X.iload_n 16 i183_15 rfl rfl rfl ?_
        refine X.iconst 17 i183_16 rfl rfl (by decide) ?_
        refine X.icmple 24 20 i183_17 rfl rfl rfl (fun h504 => ?_) (fun h504 => ?_)
        · refine X.aload_n 25 i183_24 rfl rfl rfl ?_
          refine X.getF 28 i183_25 rfl rfl (by decide) rfl rfl ?_
          refine X.getI 31 9 i183_28 rfl rfl (by decide) rfl rfl rfl ?_
          have h505 := r8_9 hJ 0
          refine X.ldcw 34 i183_31 rfl rfl (by decide) ?_
          refine X.iadd 35 i183_34 rfl rfl (by omega) ?_
          refine X.iload_n 36 i183_35 rfl rfl rfl ?_
          refine X.iadd 37 i183_36 rfl rfl (by omega) ?_
          refine X.iconst 38 i183_37 rfl rfl (by decide) ?_
          refine X.isub 39 i183_38 rfl rfl (by omega) ?_
          refine X.ldc 41 i183_39 rfl rfl (by decide) ?_
          refine X.icmple 48 44 i183_41 rfl rfl rfl (fun h506 => ?_) (fun h506 => ?_)
          · refine X.aload_n 49 i183_48 rfl rfl rfl ?_
            refine X.getF 52 i183_49 rfl rfl (by decide) rfl rfl ?_
            refine X.getI 55 9 i183_52 rfl rfl (by decide) rfl rfl rfl ?_
            refine X.istore_n 56 [(0, zr 4 40), (1, zi a1), (2, zi a2), (3, zi (m 0 8 9))] i183_55 rfl rfl rfl ?_
            refine X.aload_n 57 i183_56 rfl rfl rfl ?_
            refine X.getF 60 i183_57 rfl rfl (by decide) rfl rfl ?_
            refine X.getR 63 i183_60 rfl rfl (by decide) rfl rfl ?_
            refine X.iload_n 64 i183_63 rfl rfl rfl ?_
            refine X.iload_n 65 i183_64 rfl rfl rfl ?_
            refine X.aload_n 66 i183_65 rfl rfl rfl ?_
            refine X.getF 69 i183_66 rfl rfl (by decide) rfl rfl ?_
            refine X.getR 72 i183_69 rfl rfl (by decide) rfl rfl ?_
            refine X.callv 75 [zi (m 0 8 9), zi a1, zr 0 9] [] [(0, zr 0 11), (1, zi (m 0 8 9)), (2, zi a1), (3, zr 0 9)] i183_72 rfl (by decide) rfl rfl (by omega) rfl rfl (by decide) rfl t182 (Nat.le_of_ble_eq_true rfl) (Nat.le_of_ble_eq_true rfl) rfl ?_
            refine c182_1 (B := B) 0 0 (m 0 8 9) a1 (by omega) (hJ.up (by omega)) (by omega) (by omega) (by omega) (fun v509 hv509 hFv509 => ?_)
            show X (EE s) d 183 75 [(0, zr 4 40), (1, zi a1), (2, zi a2), (3, zi (m 0 8 9))] [zl v509] m _
            refine X.lstore 77 [(0, zr 4 40), (1, zi a1), (2, zi a2), (3, zi (m 0 8 9)), (4, zl v509)] i183_75 rfl rfl rfl ?_
            refine X.iconst 78 i183_77 rfl rfl (by decide) ?_
            refine X.istore 80 [(0, zr 4 40), (1, zi a1), (2, zi a2), (3, zi (m 0 8 9)), (4, zl v509), (6, zi 1)] i183_78 rfl rfl rfl ?_
            have hz96 := zfu_eq 96
            refine l183_80_1 (s := s) (m := m) (B := B) (d := d) (R0 := (f183_1 a1 a2 m))  a1 a2  (by omega) (hJ.up (by omega)) (by omega) (by omega) (by omega) (fun y510 y511 hby510 hby511 hR515 => ?_) (zfu 96) (m 0 8 9) v509 1 (by omega) (by omega) (by omega) (Eq.trans (if_neg h501) (Eq.trans (if_neg h502) (Eq.trans (if_neg h503) (Eq.trans (if_pos h504) (Eq.trans (if_pos h506) (Eq.trans (zn_eq hFv509.symm) rfl))))))
            refine X.iload_n 147 i183_146 rfl rfl rfl ?_
            have hK520 : ∀ (v : Int) , (True) → (if a2 = 0 then
                (y510)
                else
                (y511)) = v → X (EE s) d 183 157 [] [zl v] m Q := by
              intro v517 hv517 hT521
              refine X.retl i183_157 rfl t183 ?_
              exact hQ v517 (by first | trivial | omega) (Eq.trans hR515 (Eq.trans (zn_eq hT521.symm) rfl)) 
            refine X.ifne 155 150 i183_147 rfl rfl rfl (fun h516 => ?_) (fun h516 => ?_)
            · refine X.cut [(4, zl y511)] i183_155 rfl ?_
              refine X.lload 157 i183_155 rfl rfl rfl ?_
              refine X.cut [] i183_157 rfl ?_
              exact hK520 y511 (by first | trivial | omega) (Eq.trans (if_neg h516) rfl)
            · refine X.iload_n 151 i183_150 rfl rfl rfl ?_
              refine X.i2l 152 i183_151 rfl rfl ?_
              refine X.goto 157 i183_152 rfl rfl ?_
              refine X.cut [] i183_157 rfl ?_
              exact hK520 y510 (by first | trivial | omega) (Eq.trans (if_pos h516) rfl)
          · refine X.ldc2 47 i183_44 rfl rfl (by decide) ?_
            refine X.retl i183_47 rfl t183 ?_
            exact hQ (-1) (by first | trivial | omega) (Eq.trans (if_neg h501) (Eq.trans (if_neg h502) (Eq.trans (if_neg h503) (Eq.trans (if_pos h504) (Eq.trans (if_neg h506) rfl))))) 
        · refine X.cut [] i183_20 rfl ?_
          refine X.ldc2 23 i183_20 rfl rfl (by decide) ?_
          refine X.retl i183_23 rfl t183 ?_
          exact hQ (-1) (by first | trivial | omega) (Eq.trans (if_neg h501) (Eq.trans (if_neg h502) (Eq.trans (if_neg h503) (Eq.trans (if_neg h504) rfl)))) 
-- WorkMeterModel.costOfDay
theorem c307_4 {s : Nat × (Nat → Int32)} {S : zS} {m0 m : zM} {B : Int} {d : Nat} {Q : Option zV → zM → Prop} (a1 a2 a3 : Int) (hd : 15 ≤ d) (hJ : J S m0 B m) (hB : B + 0 ≤ 1000000000) (ha1 : 0 ≤ a1 ∧ a1 ≤ 23150) (ha2 : 0 ≤ a2 ∧ a2 ≤ 86399) (ha3 : 1 ≤ a3 ∧ a3 ≤ 86400) (hQ : ∀ (v : Int), (True) → f307_1 a1 a2 a3 m = v → Q (some (zl v)) m) : X (EE s) d 307 0 [(0, zr 4 44), (1, zi a1), (2, zi a2), (3, zi a3)] [] m Q := by
  refine X.aload_n 1 i307_0 rfl rfl rfl ?_
  refine X.iload_n 2 i307_1 rfl rfl rfl ?_
  refine X.callv 5 [zi a1] [] [(0, zr 4 44), (1, zi a1)] i307_2 rfl (by decide) rfl rfl (by omega) rfl rfl (by decide) rfl t218 (Nat.le_of_ble_eq_true rfl) (Nat.le_of_ble_eq_true rfl) rfl ?_
  refine c218_1 (B := B)  a1 (by omega) (hJ.up (by omega)) (by omega) (by omega) (fun v503 hv503 hFv503 => ?_)
  show X (EE s) d 307 5 [(0, zr 4 44), (1, zi a1), (2, zi a2), (3, zi a3)] [zi v503] m _
  refine X.istore 7 [(0, zr 4 44), (1, zi a1), (2, zi a2), (3, zi a3), (4, zi v503)] i307_5 rfl rfl rfl ?_
  refine X.lconst (y := 0) 8 i307_7 rfl rfl rfl ?_
  refine X.lstore 10 [(0, zr 4 44), (1, zi a1), (2, zi a2), (3, zi a3), (4, zi v503), (5, zl 0)] i307_8 rfl rfl rfl ?_
  refine X.iconst 11 i307_10 rfl rfl (by decide) ?_
  refine X.istore 13 [(0, zr 4 44), (1, zi a1), (2, zi a2), (3, zi a3), (4, zi v503), (5, zl 0), (7, zi 0)] i307_11 rfl rfl rfl ?_
  refine X.iconst 14 i307_13 rfl rfl (by decide) ?_
  refine X.istore 16 [(0, zr 4 44), (1, zi a1), (2, zi a2), (3, zi a3), (4, zi v503), (5, zl 0), (7, zi 0), (8, zi 0)] i307_14 rfl rfl rfl ?_
  refine X.iconst 17 i307_16 rfl rfl (by decide) ?_
  refine X.istore 19 [(0, zr 4 44), (1, zi a1), (2, zi a2), (3, zi a3), (4, zi v503), (5, zl 0), (7, zi 0), (8, zi 0), (9, zi 0)] i307_17 rfl rfl rfl ?_
  refine X.cut [(0, zr 4 44), (2, zi a2), (3, zi a3), (4, zi v503), (5, zl 0), (7, zi 0), (8, zi 0), (9, zi 0)] i307_19 rfl ?_
  have hz8 := zfu_eq 8
  refine l307_19_1 (s := s) (m := m) (B := B) (d := d) (R0 := (f307_1 a1 a2 a3 m))  a2 a3 v503  (by omega) (hJ.up (by omega)) (by omega) (by omega) (by omega) (by omega) (fun y504 hby504 hR508 => ?_) (zfu 8) 0 0 0 0 (by omega) (by omega) (by omega) (by omega) (Eq.trans (zn_eq hFv503.symm) rfl)
  refine X.lload 187 i307_185 rfl rfl rfl ?_
  refine X.retl i307_187 rfl t307 ?_
  exact hQ y504 (by first | trivial | omega) (Eq.trans hR508 rfl) 
-- WorkMeterModel.costOfDay
theorem c307_5 {s : Nat × (Nat → Int32)} {S : zS} {m0 m : zM} {B : Int} {d : Nat} {Q : Option zV → zM → Prop} (a1 a2 a3 : Int) (hd : 15 ≤ d) (hJ : J S m0 B m) (hB : B + 0 ≤ 1000000000) (ha1 : 0 ≤ a1 ∧ a1 ≤ 23150) (ha2 : 0 ≤ a2 ∧ a2 ≤ 86399) (ha3 : 1 ≤ a3 ∧ a3 ≤ 86400) (hQ : ∀ (v : Int), (True) → f307_1 a1 a2 a3 m = v → Q (some (zl v)) m) : X (EE s) d 307 0 [(0, zr 4 44), (1, zi a1), (2, zi a2), (3, zi a3)] [] m Q := by
  refine X.aload_n 1 i307_0 rfl rfl rfl ?_
  refine X.iload_n 2 i307_1 rfl rfl rfl ?_
  refine X.callv 5 [zi a1] [] [(0, zr 4 44), (1, zi a1)] i307_2 rfl (by decide) rfl rfl (by omega) rfl rfl (by decide) rfl t218 (Nat.le_of_ble_eq_true rfl) (Nat.le_of_ble_eq_true rfl) rfl ?_
  refine c218_1 (B := B)  a1 (by omega) (hJ.up (by omega)) (by omega) (by omega) (fun v503 hv503 hFv503 => ?_)
  show X (EE s) d 307 5 [(0, zr 4 44), (1, zi a1), (2, zi a2), (3, zi a3)] [zi v503] m _
  refine X.istore 7 [(0, zr 4 44), (1, zi a1), (2, zi a2), (3, zi a3), (4, zi v503)] i307_5 rfl rfl rfl ?_
  refine X.lconst (y := 0) 8 i307_7 rfl rfl rfl ?_
  refine X.lstore 10 [(0, zr 4 44), (1, zi a1), (2, zi a2), (3, zi a3), (4, zi v503), (5, zl 0)] i307_8 rfl rfl rfl ?_
  refine X.iconst 11 i307_10 rfl rfl (by decide) ?_
  refine X.istore 13 [(0, zr 4 44), (1, zi a1), (2, zi a2), (3, zi a3), (4, zi v503), (5, zl 0), (7, zi 0)] i307_11 rfl rfl rfl ?_
  refine X.iconst 14 i307_13 rfl rfl (by decide) ?_
  refine X.istore 16 [(0, zr 4 44), (1, zi a1), (2, zi a2), (3, zi a3), (4, zi v503), (5, zl 0), (7, zi 0), (8, zi 0)] i307_14 rfl rfl rfl ?_
  refine X.iconst 17 i307_16 rfl rfl (by decide) ?_
  refine X.istore 19 [(0, zr 4 44), (1, zi a1), (2, zi a2), (3, zi a3), (4, zi v503), (5, zl 0), (7, zi 0), (8, zi 0), (9, zi 0)] i307_17 rfl rfl rfl ?_
  refine X.cut [(0, zr 4 44), (2, zi a2), (3, zi a3), (4, zi v503), (5, zl 0), (7, zi 0), (8, zi 0), (9, zi 0)] i307_19 rfl ?_
  have hz8 := zfu_eq 8
  refine l307_19_1 (s := s) (m := m) (B := B) (d := d) (R0 := (f307_1 a1 a2 a3 m))  a2 a3 v503  (by omega) (hJ.up (by omega)) (by omega) (by omega) (by omega) (by omega) (fun y504 hby504 hR508 => ?_) (zfu 8) 0 0 0 0 (by omega) (by omega) (by omega) (by omega) (Eq.trans (zn_eq hFv503.symm) rfl)
  refine X.lload 187 i307_185 rfl rfl rfl ?_
  refine X.retl i307_187 rfl t307 ?_
  exact hQ y504 (by first | trivial | omega) (Eq.trans hR508 rfl) 
-- WorkMeterModel.costOfDay
theorem c307_6 {s : Nat × (Nat → Int32)} {S : zS} {m0 m : zM} {B : Int} {d : Nat} {Q : Option zV → zM → Prop} (a1 a2 a3 : Int) (hd : 15 ≤ d) (hJ : J S m0 B m) (hB : B + 0 ≤ 1000000000) (ha1 : 0 ≤ a1 ∧ a1 ≤ 23150) (ha2 : 0 ≤ a2 ∧ a2 ≤ 86399) (ha3 : 1 ≤ a3 ∧ a3 ≤ 86400) (hQ : ∀ (v : Int), (True) → f307_1 a1 a2 a3 m = v → Q (some (zl v)) m) : X (EE s) d 307 0 [(0, zr 4 44), (1, zi a1), (2, zi a2), (3, zi a3)] [] m Q := by
  refine X.aload_n 1 i307_0 rfl rfl rfl ?_
  refine X.iload_n 2 i307_1 rfl rfl rfl ?_
  refine X.callv 5 [zi a1] [] [(0, zr 4 44), (1, zi a1)] i307_2 rfl (by decide) rfl rfl (by omega) rfl rfl (by decide) rfl t218 (Nat.le_of_ble_eq_true rfl) (Nat.le_of_ble_eq_true rfl) rfl ?_
  refine c218_1 (B := B)  a1 (by omega) (hJ.up (by omega)) (by omega) (by omega) (fun v503 hv503 hFv503 => ?_)
  show X (EE s) d 307 5 [(0, zr 4 44), (1, zi a1), (2, zi a2), (3, zi a3)] [zi v503] m _
  refine X.istore 7 [(0, zr 4 44), (1, zi a1), (2, zi a2), (3, zi a3), (4, zi v503)] i307_5 rfl rfl rfl ?_
  refine X.lconst (y := 0) 8 i307_7 rfl rfl rfl ?_
  refine X.lstore 10 [(0, zr 4 44), (1, zi a1), (2, zi a2), (3, zi a3), (4, zi v503), (5, zl 0)] i307_8 rfl rfl rfl ?_
  refine X.iconst 11 i307_10 rfl rfl (by decide) ?_
  refine X.istore 13 [(0, zr 4 44), (1, zi a1), (2, zi a2), (3, zi a3), (4, zi v503), (5, zl 0), (7, zi 0)] i307_11 rfl rfl rfl ?_
  refine X.iconst 14 i307_13 rfl rfl (by decide) ?_
  refine X.istore 16 [(0, zr 4 44), (1, zi a1), (2, zi a2), (3, zi a3), (4, zi v503), (5, zl 0), (7, zi 0), (8, zi 0)] i307_14 rfl rfl rfl ?_
  refine X.iconst 17 i307_16 rfl rfl (by decide) ?_
  refine X.istore 19 [(0, zr 4 44), (1, zi a1), (2, zi a2), (3, zi a3), (4, zi v503), (5, zl 0), (7, zi 0), (8, zi 0), (9, zi 0)] i307_17 rfl rfl rfl ?_
  refine X.cut [(0, zr 4 44), (2, zi a2), (3, zi a3), (4, zi v503), (5, zl 0), (7, zi 0), (8, zi 0), (9, zi 0)] i307_19 rfl ?_
  have hz8 := zfu_eq 8
  refine l307_19_1 (s := s) (m := m) (B := B) (d := d) (R0 := (f307_1 a1 a2 a3 m))  a2 a3 v503  (by omega) (hJ.up (by omega)) (by omega) (by omega) (by omega) (by omega) (fun y504 hby504 hR508 => ?_) (zfu 8) 0 0 0 0 (by omega) (by omega) (by omega) (by omega) (Eq.trans (zn_eq hFv503.symm) rfl)
  refine X.lload 187 i307_185 rfl rfl rfl ?_
  refine X.retl i307_187 rfl t307 ?_
  exact hQ y504 (by first | trivial | omega) (Eq.trans hR508 rfl) 
theorem l306_5_2 {s : Nat × (Nat → Int32)} {S : zS} {m0 : zM} {m : zM} {B : Int} {d : Nat} {Q : Option zV → zM → Prop} {R0 : Int} {k79 : Int → Int} (y1 y2 : Int) (hd : 16 ≤ d) (hJ : J S m0 B m) (hB9 : B ≤ 1000000000) (hy1 : 900 ≤ y1 ∧ y1 ≤ 2000085500) (hy2 : 1 ≤ y2 ∧ y2 ≤ 100000)
    (K79 : ∀ (x3 : Int) , (True) → R0 = k79 x3 → X (EE s) d 306 79 [(3, zl x3)] [] m Q) :
    ∀ (n : Nat) (y3 y5 : Int) , (0 ≤ y5 ∧ y5 ≤ 2000186000) → (y5 ≤ y1 + y2) → y1 + y2 - y5 < (n : Int) → R0 = fl306_5_1 k79 y1 y2 m n y3 y5 → X (EE s) d 306 5 [(0, zr 4 44), (1, zi y1), (2, zi y2), (3, zl y3), (5, zi y5)] [] m Q := by
  intro n
  induction n with
  | zero =>
    intro y3 y5 hy5 hr0 hn hR
    exfalso
    omega
  | succ n ih =>
    intro y3 y5 hy5 hr0 hn hR
    replace hR : R0 = fl306_5_1_b (fl306_5_1 k79 y1 y2 m n) k79 y1 y2 m y3 y5 := hR
    refine X.iload 7 i306_5 rfl rfl rfl ?_
    refine X.iload_n 8 i306_7 rfl rfl rfl ?_
    refine X.iload_n 9 i306_8 rfl rfl rfl ?_
    refine X.iadd 10 i306_9 rfl rfl (by omega) ?_
    refine X.icmpge 79 13 i306_10 rfl rfl rfl (fun h523 => ?_) (fun h523 => ?_)
    · refine X.cut [(3, zl y3)] i306_79 rfl ?_
      exact K79 y3 (by first | trivial | omega) (Eq.trans hR (Eq.trans (if_pos h523) rfl))
    · refine X.iload 15 i306_13 rfl rfl rfl ?_
      refine X.ldc 17 i306_15 rfl rfl (by decide) ?_
      refine X.idiv 18 i306_17 rfl rfl (by omega) ?_
      refine X.istore 20 [(0, zr 4 44), (1, zi y1), (2, zi y2), (3, zl y3), (5, zi y5), (6, zi (y5 / 86400))] i306_18 rfl rfl rfl ?_
      refine X.iload_n 21 i306_20 rfl rfl rfl ?_
      refine X.iload_n 22 i306_21 rfl rfl rfl ?_
      refine X.iadd 23 i306_22 rfl rfl (by omega) ?_
      refine X.iload 25 i306_23 rfl rfl rfl ?_
      refine X.ldc 27 i306_25 rfl rfl (by decide) ?_
      refine X.imul 28 i306_27 rfl rfl (by omega) ?_
      refine X.isub 29 i306_28 rfl rfl (by omega) ?_
      refine X.ldc 31 i306_29 rfl rfl (by decide) ?_
      have hK528 : ∀ (v : Int) , ((-2000159099) ≤ v ∧ v ≤ 86400) → (if 86400 ≤ ((y1 + y2) - ((y5 / 86400) * 86400)) then
          (86400)
          else
          (((y1 + y2) - ((y5 / 86400) * 86400)))) = v → X (EE s) d 306 48 [(0, zr 4 44), (1, zi y1), (2, zi y2), (3, zl y3), (5, zi y5), (6, zi (y5 / 86400))] [zi v] m Q := by
        intro v525 hv525 hT529
        refine X.istore 50 [(0, zr 4 44), (1, zi y1), (2, zi y2), (3, zl y3), (5, zi y5), (6, zi (y5 / 86400)), (7, zi v525)] i306_48 rfl rfl rfl ?_
        refine X.lload_n 51 i306_50 rfl rfl rfl ?_
        refine X.aload_n 52 i306_51 rfl rfl rfl ?_
        refine X.iload 54 i306_52 rfl rfl rfl ?_
        refine X.iload 56 i306_54 rfl rfl rfl ?_
        refine X.ldc 58 i306_56 rfl rfl (by decide) ?_
        refine X.irem 59 i306_58 rfl rfl (by omega) ?_
        refine X.iload 61 i306_59 rfl rfl rfl ?_
        refine X.callv 64 [zi (y5 / 86400), zi (y5 % 86400), zi v525] [zl y3] [(0, zr 4 44), (1, zi (y5 / 86400)), (2, zi (y5 % 86400)), (3, zi v525)] i306_61 rfl (by decide) rfl rfl (by omega) rfl rfl (by decide) rfl t307 (Nat.le_of_ble_eq_true rfl) (Nat.le_of_ble_eq_true rfl) rfl ?_
        refine c307_6 (B := B)  (y5 / 86400) (y5 % 86400) v525 (by omega) (hJ.up (by omega)) (by omega) (by omega) (by omega) (by omega) (fun v532 hv532 hFv532 => ?_)
        show X (EE s) d 306 64 [(0, zr 4 44), (1, zi y1), (2, zi y2), (3, zl y3), (5, zi y5), (6, zi (y5 / 86400)), (7, zi v525)] [zl v532, zl y3] m _
        refine X.laddW 65 i306_64 rfl rfl (fun z533 ez533 hz533 => ?_)
        refine X.lstore_n 66 [(0, zr 4 44), (1, zi y1), (2, zi y2), (3, zl z533), (5, zi y5), (6, zi (y5 / 86400)), (7, zi v525)] i306_65 rfl rfl rfl ?_
        refine X.iload 68 i306_66 rfl rfl rfl ?_
        refine X.ldc 70 i306_68 rfl rfl (by decide) ?_
        refine X.imul 71 i306_70 rfl rfl (by omega) ?_
        refine X.iload 73 i306_71 rfl rfl rfl ?_
        refine X.iadd 74 i306_73 rfl rfl (by omega) ?_
        refine X.istore 76 [(0, zr 4 44), (1, zi y1), (2, zi y2), (3, zl z533), (5, zi (((y5 / 86400) * 86400) + v525)), (6, zi (y5 / 86400)), (7, zi v525)] i306_74 rfl rfl rfl ?_
        refine X.goto 5 i306_76 rfl rfl ?_
        refine X.cut [(0, zr 4 44), (1, zi y1), (2, zi y2), (3, zl z533), (5, zi (((y5 / 86400) * 86400) + v525))] i306_5 rfl ?_
        exact ih z533 (((y5 / 86400) * 86400) + v525) (by omega) (by omega) (by omega) (Eq.trans hR (Eq.trans (if_neg h523) (Eq.trans (zn_eq hT529.symm) (Eq.trans (zn_eq hFv532.symm) (Eq.trans (zn_eq ez533) rfl)))))
      refine X.icmpge 46 34 i306_31 rfl rfl rfl (fun h524 => ?_) (fun h524 => ?_)
      · refine X.ldc 48 i306_46 rfl rfl (by decide) ?_
        exact hK528 86400 (by first | trivial | omega) (Eq.trans (if_pos h524) rfl)
      · refine X.iload_n 35 i306_34 rfl rfl rfl ?_
        refine X.iload_n 36 i306_35 rfl rfl rfl ?_
        refine X.iadd 37 i306_36 rfl rfl (by omega) ?_
        refine X.iload 39 i306_37 rfl rfl rfl ?_
        refine X.ldc 41 i306_39 rfl rfl (by decide) ?_
        refine X.imul 42 i306_41 rfl rfl (by omega) ?_
        refine X.isub 43 i306_42 rfl rfl (by omega) ?_
        refine X.goto 48 i306_43 rfl rfl ?_
        exact hK528 ((y1 + y2) - ((y5 / 86400) * 86400)) (by first | trivial | omega) (Eq.trans (if_neg h524) rfl)
-- WorkMeterModel.costFrom
theorem c306_2 {s : Nat × (Nat → Int32)} {S : zS} {m0 m : zM} {B : Int} {d : Nat} {Q : Option zV → zM → Prop} (a1 a2 : Int) (hd : 16 ≤ d) (hJ : J S m0 B m) (hB : B + 0 ≤ 1000000000) (ha1 : 900 ≤ a1 ∧ a1 ≤ 2000085500) (ha2 : 1 ≤ a2 ∧ a2 ≤ 100000) (hQ : ∀ (v : Int), (True) → f306_1 a1 a2 m = v → Q (some (zl v)) m) : X (EE s) d 306 0 [(0, zr 4 44), (1, zi a1), (2, zi a2)] [] m Q := by
  refine X.lconst (y := 0) 1 i306_0 rfl rfl rfl ?_
  refine X.lstore_n 2 [(0, zr 4 44), (1, zi a1), (2, zi a2), (3, zl 0)] i306_1 rfl rfl rfl ?_
  refine X.iload_n 3 i306_2 rfl rfl rfl ?_
  refine X.istore 5 [(0, zr 4 44), (1, zi a1), (2, zi a2), (3, zl 0), (5, zi a1)] i306_3 rfl rfl rfl ?_
  have hz100001 := zfu_eq 100001
  refine l306_5_2 (s := s) (m := m) (B := B) (d := d) (R0 := (f306_1 a1 a2 m))  a1 a2  (by omega) (hJ.up (by omega)) (by omega) (by omega) (by omega) (fun y501 hby501 hR505 => ?_) (zfu 100001) 0 a1 (by omega) (by omega) (by omega) rfl
  refine X.lload_n 80 i306_79 rfl rfl rfl ?_
  refine X.retl i306_80 rfl t306 ?_
  exact hQ y501 (by first | trivial | omega) (Eq.trans hR505 rfl) 
-- WorkMeterModel.costOfDay
theorem c307_7 {s : Nat × (Nat → Int32)} {S : zS} {m0 m : zM} {B : Int} {d : Nat} {Q : Option zV → zM → Prop} (a1 a2 a3 : Int) (hd : 15 ≤ d) (hJ : J S m0 B m) (hB : B + 0 ≤ 1000000000) (ha1 : 0 ≤ a1 ∧ a1 ≤ 23150) (ha2 : 0 ≤ a2 ∧ a2 ≤ 86399) (ha3 : 1 ≤ a3 ∧ a3 ≤ 86400) (hQ : ∀ (v : Int), (True) → f307_1 a1 a2 a3 m = v → Q (some (zl v)) m) : X (EE s) d 307 0 [(0, zr 4 44), (1, zi a1), (2, zi a2), (3, zi a3)] [] m Q := by
  refine X.aload_n 1 i307_0 rfl rfl rfl ?_
  refine X.iload_n 2 i307_1 rfl rfl rfl ?_
  refine X.callv 5 [zi a1] [] [(0, zr 4 44), (1, zi a1)] i307_2 rfl (by decide) rfl rfl (by omega) rfl rfl (by decide) rfl t218 (Nat.le_of_ble_eq_true rfl) (Nat.le_of_ble_eq_true rfl) rfl ?_
  refine c218_1 (B := B)  a1 (by omega) (hJ.up (by omega)) (by omega) (by omega) (fun v503 hv503 hFv503 => ?_)
  show X (EE s) d 307 5 [(0, zr 4 44), (1, zi a1), (2, zi a2), (3, zi a3)] [zi v503] m _
  refine X.istore 7 [(0, zr 4 44), (1, zi a1), (2, zi a2), (3, zi a3), (4, zi v503)] i307_5 rfl rfl rfl ?_
  refine X.lconst (y := 0) 8 i307_7 rfl rfl rfl ?_
  refine X.lstore 10 [(0, zr 4 44), (1, zi a1), (2, zi a2), (3, zi a3), (4, zi v503), (5, zl 0)] i307_8 rfl rfl rfl ?_
  refine X.iconst 11 i307_10 rfl rfl (by decide) ?_
  refine X.istore 13 [(0, zr 4 44), (1, zi a1), (2, zi a2), (3, zi a3), (4, zi v503), (5, zl 0), (7, zi 0)] i307_11 rfl rfl rfl ?_
  refine X.iconst 14 i307_13 rfl rfl (by decide) ?_
  refine X.istore 16 [(0, zr 4 44), (1, zi a1), (2, zi a2), (3, zi a3), (4, zi v503), (5, zl 0), (7, zi 0), (8, zi 0)] i307_14 rfl rfl rfl ?_
  refine X.iconst 17 i307_16 rfl rfl (by decide) ?_
  refine X.istore 19 [(0, zr 4 44), (1, zi a1), (2, zi a2), (3, zi a3), (4, zi v503), (5, zl 0), (7, zi 0), (8, zi 0), (9, zi 0)] i307_17 rfl rfl rfl ?_
  refine X.cut [(0, zr 4 44), (2, zi a2), (3, zi a3), (4, zi v503), (5, zl 0), (7, zi 0), (8, zi 0), (9, zi 0)] i307_19 rfl ?_
  have hz8 := zfu_eq 8
  refine l307_19_1 (s := s) (m := m) (B := B) (d := d) (R0 := (f307_1 a1 a2 a3 m))  a2 a3 v503  (by omega) (hJ.up (by omega)) (by omega) (by omega) (by omega) (by omega) (fun y504 hby504 hR508 => ?_) (zfu 8) 0 0 0 0 (by omega) (by omega) (by omega) (by omega) (Eq.trans (zn_eq hFv503.symm) rfl)
  refine X.lload 187 i307_185 rfl rfl rfl ?_
  refine X.retl i307_187 rfl t307 ?_
  exact hQ y504 (by first | trivial | omega) (Eq.trans hR508 rfl) 
-- WorkMeterModel.costOfDay
theorem c307_8 {s : Nat × (Nat → Int32)} {S : zS} {m0 m : zM} {B : Int} {d : Nat} {Q : Option zV → zM → Prop} (a1 a2 a3 : Int) (hd : 15 ≤ d) (hJ : J S m0 B m) (hB : B + 0 ≤ 1000000000) (ha1 : 0 ≤ a1 ∧ a1 ≤ 23150) (ha2 : 0 ≤ a2 ∧ a2 ≤ 86399) (ha3 : 1 ≤ a3 ∧ a3 ≤ 86400) (hQ : ∀ (v : Int), (True) → f307_1 a1 a2 a3 m = v → Q (some (zl v)) m) : X (EE s) d 307 0 [(0, zr 4 44), (1, zi a1), (2, zi a2), (3, zi a3)] [] m Q := by
  refine X.aload_n 1 i307_0 rfl rfl rfl ?_
  refine X.iload_n 2 i307_1 rfl rfl rfl ?_
  refine X.callv 5 [zi a1] [] [(0, zr 4 44), (1, zi a1)] i307_2 rfl (by decide) rfl rfl (by omega) rfl rfl (by decide) rfl t218 (Nat.le_of_ble_eq_true rfl) (Nat.le_of_ble_eq_true rfl) rfl ?_
  refine c218_1 (B := B)  a1 (by omega) (hJ.up (by omega)) (by omega) (by omega) (fun v503 hv503 hFv503 => ?_)
  show X (EE s) d 307 5 [(0, zr 4 44), (1, zi a1), (2, zi a2), (3, zi a3)] [zi v503] m _
  refine X.istore 7 [(0, zr 4 44), (1, zi a1), (2, zi a2), (3, zi a3), (4, zi v503)] i307_5 rfl rfl rfl ?_
  refine X.lconst (y := 0) 8 i307_7 rfl rfl rfl ?_
  refine X.lstore 10 [(0, zr 4 44), (1, zi a1), (2, zi a2), (3, zi a3), (4, zi v503), (5, zl 0)] i307_8 rfl rfl rfl ?_
  refine X.iconst 11 i307_10 rfl rfl (by decide) ?_
  refine X.istore 13 [(0, zr 4 44), (1, zi a1), (2, zi a2), (3, zi a3), (4, zi v503), (5, zl 0), (7, zi 0)] i307_11 rfl rfl rfl ?_
  refine X.iconst 14 i307_13 rfl rfl (by decide) ?_
  refine X.istore 16 [(0, zr 4 44), (1, zi a1), (2, zi a2), (3, zi a3), (4, zi v503), (5, zl 0), (7, zi 0), (8, zi 0)] i307_14 rfl rfl rfl ?_
  refine X.iconst 17 i307_16 rfl rfl (by decide) ?_
  refine X.istore 19 [(0, zr 4 44), (1, zi a1), (2, zi a2), (3, zi a3), (4, zi v503), (5, zl 0), (7, zi 0), (8, zi 0), (9, zi 0)] i307_17 rfl rfl rfl ?_
  refine X.cut [(0, zr 4 44), (2, zi a2), (3, zi a3), (4, zi v503), (5, zl 0), (7, zi 0), (8, zi 0), (9, zi 0)] i307_19 rfl ?_
  have hz8 := zfu_eq 8
  refine l307_19_1 (s := s) (m := m) (B := B) (d := d) (R0 := (f307_1 a1 a2 a3 m))  a2 a3 v503  (by omega) (hJ.up (by omega)) (by omega) (by omega) (by omega) (by omega) (fun y504 hby504 hR508 => ?_) (zfu 8) 0 0 0 0 (by omega) (by omega) (by omega) (by omega) (Eq.trans (zn_eq hFv503.symm) rfl)
  refine X.lload 187 i307_185 rfl rfl rfl ?_
  refine X.retl i307_187 rfl t307 ?_
  exact hQ y504 (by first | trivial | omega) (Eq.trans hR508 rfl) 
-- WorkMeterModel.costOfDay
theorem c307_9 {s : Nat × (Nat → Int32)} {S : zS} {m0 m : zM} {B : Int} {d : Nat} {Q : Option zV → zM → Prop} (a1 a2 a3 : Int) (hd : 15 ≤ d) (hJ : J S m0 B m) (hB : B + 0 ≤ 1000000000) (ha1 : 0 ≤ a1 ∧ a1 ≤ 23150) (ha2 : 0 ≤ a2 ∧ a2 ≤ 86399) (ha3 : 1 ≤ a3 ∧ a3 ≤ 86400) (hQ : ∀ (v : Int), (True) → f307_1 a1 a2 a3 m = v → Q (some (zl v)) m) : X (EE s) d 307 0 [(0, zr 4 44), (1, zi a1), (2, zi a2), (3, zi a3)] [] m Q := by
  refine X.aload_n 1 i307_0 rfl rfl rfl ?_
  refine X.iload_n 2 i307_1 rfl rfl rfl ?_
  refine X.callv 5 [zi a1] [] [(0, zr 4 44), (1, zi a1)] i307_2 rfl (by decide) rfl rfl (by omega) rfl rfl (by decide) rfl t218 (Nat.le_of_ble_eq_true rfl) (Nat.le_of_ble_eq_true rfl) rfl ?_
  refine c218_1 (B := B)  a1 (by omega) (hJ.up (by omega)) (by omega) (by omega) (fun v503 hv503 hFv503 => ?_)
  show X (EE s) d 307 5 [(0, zr 4 44), (1, zi a1), (2, zi a2), (3, zi a3)] [zi v503] m _
  refine X.istore 7 [(0, zr 4 44), (1, zi a1), (2, zi a2), (3, zi a3), (4, zi v503)] i307_5 rfl rfl rfl ?_
  refine X.lconst (y := 0) 8 i307_7 rfl rfl rfl ?_
  refine X.lstore 10 [(0, zr 4 44), (1, zi a1), (2, zi a2), (3, zi a3), (4, zi v503), (5, zl 0)] i307_8 rfl rfl rfl ?_
  refine X.iconst 11 i307_10 rfl rfl (by decide) ?_
  refine X.istore 13 [(0, zr 4 44), (1, zi a1), (2, zi a2), (3, zi a3), (4, zi v503), (5, zl 0), (7, zi 0)] i307_11 rfl rfl rfl ?_
  refine X.iconst 14 i307_13 rfl rfl (by decide) ?_
  refine X.istore 16 [(0, zr 4 44), (1, zi a1), (2, zi a2), (3, zi a3), (4, zi v503), (5, zl 0), (7, zi 0), (8, zi 0)] i307_14 rfl rfl rfl ?_
  refine X.iconst 17 i307_16 rfl rfl (by decide) ?_
  refine X.istore 19 [(0, zr 4 44), (1, zi a1), (2, zi a2), (3, zi a3), (4, zi v503), (5, zl 0), (7, zi 0), (8, zi 0), (9, zi 0)] i307_17 rfl rfl rfl ?_
  refine X.cut [(0, zr 4 44), (2, zi a2), (3, zi a3), (4, zi v503), (5, zl 0), (7, zi 0), (8, zi 0), (9, zi 0)] i307_19 rfl ?_
  have hz8 := zfu_eq 8
  refine l307_19_1 (s := s) (m := m) (B := B) (d := d) (R0 := (f307_1 a1 a2 a3 m))  a2 a3 v503  (by omega) (hJ.up (by omega)) (by omega) (by omega) (by omega) (by omega) (fun y504 hby504 hR508 => ?_) (zfu 8) 0 0 0 0 (by omega) (by omega) (by omega) (by omega) (Eq.trans (zn_eq hFv503.symm) rfl)
  refine X.lload 187 i307_185 rfl rfl rfl ?_
  refine X.retl i307_187 rfl t307 ?_
  exact hQ y504 (by first | trivial | omega) (Eq.trans hR508 rfl) 
theorem l306_5_3 {s : Nat × (Nat → Int32)} {S : zS} {m0 : zM} {m : zM} {B : Int} {d : Nat} {Q : Option zV → zM → Prop} {R0 : Int} {k79 : Int → Int} (y1 y2 : Int) (hd : 16 ≤ d) (hJ : J S m0 B m) (hB9 : B ≤ 1000000000) (hy1 : 0 ≤ y1 ∧ y1 ≤ 2000085500) (hy2 : 1 ≤ y2 ∧ y2 ≤ 100000)
    (K79 : ∀ (x3 : Int) , (True) → R0 = k79 x3 → X (EE s) d 306 79 [(3, zl x3)] [] m Q) :
    ∀ (n : Nat) (y3 y5 : Int) , (0 ≤ y5 ∧ y5 ≤ 2000186000) → (y5 ≤ y1 + y2) → y1 + y2 - y5 < (n : Int) → R0 = fl306_5_1 k79 y1 y2 m n y3 y5 → X (EE s) d 306 5 [(0, zr 4 44), (1, zi y1), (2, zi y2), (3, zl y3), (5, zi y5)] [] m Q := by
  intro n
  induction n with
  | zero =>
    intro y3 y5 hy5 hr0 hn hR
    exfalso
    omega
  | succ n ih =>
    intro y3 y5 hy5 hr0 hn hR
    replace hR : R0 = fl306_5_1_b (fl306_5_1 k79 y1 y2 m n) k79 y1 y2 m y3 y5 := hR
    refine X.iload 7 i306_5 rfl rfl rfl ?_
    refine X.iload_n 8 i306_7 rfl rfl rfl ?_
    refine X.iload_n 9 i306_8 rfl rfl rfl ?_
    refine X.iadd 10 i306_9 rfl rfl (by omega) ?_
    refine X.icmpge 79 13 i306_10 rfl rfl rfl (fun h523 => ?_) (fun h523 => ?_)
    · refine X.cut [(3, zl y3)] i306_79 rfl ?_
      exact K79 y3 (by first | trivial | omega) (Eq.trans hR (Eq.trans (if_pos h523) rfl))
    · refine X.iload 15 i306_13 rfl rfl rfl ?_
      refine X.ldc 17 i306_15 rfl rfl (by decide) ?_
      refine X.idiv 18 i306_17 rfl rfl (by omega) ?_
      refine X.istore 20 [(0, zr 4 44), (1, zi y1), (2, zi y2), (3, zl y3), (5, zi y5), (6, zi (y5 / 86400))] i306_18 rfl rfl rfl ?_
      refine X.iload_n 21 i306_20 rfl rfl rfl ?_
      refine X.iload_n 22 i306_21 rfl rfl rfl ?_
      refine X.iadd 23 i306_22 rfl rfl (by omega) ?_
      refine X.iload 25 i306_23 rfl rfl rfl ?_
      refine X.ldc 27 i306_25 rfl rfl (by decide) ?_
      refine X.imul 28 i306_27 rfl rfl (by omega) ?_
      refine X.isub 29 i306_28 rfl rfl (by omega) ?_
      refine X.ldc 31 i306_29 rfl rfl (by decide) ?_
      have hK528 : ∀ (v : Int) , ((-2000159999) ≤ v ∧ v ≤ 86400) → (if 86400 ≤ ((y1 + y2) - ((y5 / 86400) * 86400)) then
          (86400)
          else
          (((y1 + y2) - ((y5 / 86400) * 86400)))) = v → X (EE s) d 306 48 [(0, zr 4 44), (1, zi y1), (2, zi y2), (3, zl y3), (5, zi y5), (6, zi (y5 / 86400))] [zi v] m Q := by
        intro v525 hv525 hT529
        refine X.istore 50 [(0, zr 4 44), (1, zi y1), (2, zi y2), (3, zl y3), (5, zi y5), (6, zi (y5 / 86400)), (7, zi v525)] i306_48 rfl rfl rfl ?_
        refine X.lload_n 51 i306_50 rfl rfl rfl ?_
        refine X.aload_n 52 i306_51 rfl rfl rfl ?_
        refine X.iload 54 i306_52 rfl rfl rfl ?_
        refine X.iload 56 i306_54 rfl rfl rfl ?_
        refine X.ldc 58 i306_56 rfl rfl (by decide) ?_
        refine X.irem 59 i306_58 rfl rfl (by omega) ?_
        refine X.iload 61 i306_59 rfl rfl rfl ?_
        refine X.callv 64 [zi (y5 / 86400), zi (y5 % 86400), zi v525] [zl y3] [(0, zr 4 44), (1, zi (y5 / 86400)), (2, zi (y5 % 86400)), (3, zi v525)] i306_61 rfl (by decide) rfl rfl (by omega) rfl rfl (by decide) rfl t307 (Nat.le_of_ble_eq_true rfl) (Nat.le_of_ble_eq_true rfl) rfl ?_
        refine c307_9 (B := B)  (y5 / 86400) (y5 % 86400) v525 (by omega) (hJ.up (by omega)) (by omega) (by omega) (by omega) (by omega) (fun v532 hv532 hFv532 => ?_)
        show X (EE s) d 306 64 [(0, zr 4 44), (1, zi y1), (2, zi y2), (3, zl y3), (5, zi y5), (6, zi (y5 / 86400)), (7, zi v525)] [zl v532, zl y3] m _
        refine X.laddW 65 i306_64 rfl rfl (fun z533 ez533 hz533 => ?_)
        refine X.lstore_n 66 [(0, zr 4 44), (1, zi y1), (2, zi y2), (3, zl z533), (5, zi y5), (6, zi (y5 / 86400)), (7, zi v525)] i306_65 rfl rfl rfl ?_
        refine X.iload 68 i306_66 rfl rfl rfl ?_
        refine X.ldc 70 i306_68 rfl rfl (by decide) ?_
        refine X.imul 71 i306_70 rfl rfl (by omega) ?_
        refine X.iload 73 i306_71 rfl rfl rfl ?_
        refine X.iadd 74 i306_73 rfl rfl (by omega) ?_
        refine X.istore 76 [(0, zr 4 44), (1, zi y1), (2, zi y2), (3, zl z533), (5, zi (((y5 / 86400) * 86400) + v525)), (6, zi (y5 / 86400)), (7, zi v525)] i306_74 rfl rfl rfl ?_
        refine X.goto 5 i306_76 rfl rfl ?_
        refine X.cut [(0, zr 4 44), (1, zi y1), (2, zi y2), (3, zl z533), (5, zi (((y5 / 86400) * 86400) + v525))] i306_5 rfl ?_
        exact ih z533 (((y5 / 86400) * 86400) + v525) (by omega) (by omega) (by omega) (Eq.trans hR (Eq.trans (if_neg h523) (Eq.trans (zn_eq hT529.symm) (Eq.trans (zn_eq hFv532.symm) (Eq.trans (zn_eq ez533) rfl)))))
      refine X.icmpge 46 34 i306_31 rfl rfl rfl (fun h524 => ?_) (fun h524 => ?_)
      · refine X.ldc 48 i306_46 rfl rfl (by decide) ?_
        exact hK528 86400 (by first | trivial | omega) (Eq.trans (if_pos h524) rfl)
      · refine X.iload_n 35 i306_34 rfl rfl rfl ?_
        refine X.iload_n 36 i306_35 rfl rfl rfl ?_
        refine X.iadd 37 i306_36 rfl rfl (by omega) ?_
        refine X.iload 39 i306_37 rfl rfl rfl ?_
        refine X.ldc 41 i306_39 rfl rfl (by decide) ?_
        refine X.imul 42 i306_41 rfl rfl (by omega) ?_
        refine X.isub 43 i306_42 rfl rfl (by omega) ?_
        refine X.goto 48 i306_43 rfl rfl ?_
        exact hK528 ((y1 + y2) - ((y5 / 86400) * 86400)) (by first | trivial | omega) (Eq.trans (if_neg h524) rfl)
-- WorkMeterModel.costFrom
theorem c306_3 {s : Nat × (Nat → Int32)} {S : zS} {m0 m : zM} {B : Int} {d : Nat} {Q : Option zV → zM → Prop} (a1 a2 : Int) (hd : 16 ≤ d) (hJ : J S m0 B m) (hB : B + 0 ≤ 1000000000) (ha1 : 0 ≤ a1 ∧ a1 ≤ 2000085500) (ha2 : 1 ≤ a2 ∧ a2 ≤ 100000) (hQ : ∀ (v : Int), (True) → f306_1 a1 a2 m = v → Q (some (zl v)) m) : X (EE s) d 306 0 [(0, zr 4 44), (1, zi a1), (2, zi a2)] [] m Q := by
  refine X.lconst (y := 0) 1 i306_0 rfl rfl rfl ?_
  refine X.lstore_n 2 [(0, zr 4 44), (1, zi a1), (2, zi a2), (3, zl 0)] i306_1 rfl rfl rfl ?_
  refine X.iload_n 3 i306_2 rfl rfl rfl ?_
  refine X.istore 5 [(0, zr 4 44), (1, zi a1), (2, zi a2), (3, zl 0), (5, zi a1)] i306_3 rfl rfl rfl ?_
  have hz100001 := zfu_eq 100001
  refine l306_5_3 (s := s) (m := m) (B := B) (d := d) (R0 := (f306_1 a1 a2 m))  a1 a2  (by omega) (hJ.up (by omega)) (by omega) (by omega) (by omega) (fun y501 hby501 hR505 => ?_) (zfu 100001) 0 a1 (by omega) (by omega) (by omega) rfl
  refine X.lload_n 80 i306_79 rfl rfl rfl ?_
  refine X.retl i306_80 rfl t306 ?_
  exact hQ y501 (by first | trivial | omega) (Eq.trans hR505 rfl) 
noncomputable def fl308_57_1_b (self : Int → Int → Int) (k106 : Int → Int) (y1 y2 : Int) (m : zM) (y3 y4 : Int) : Int :=
  if 96 ≤ y4 then
  (k106 y3)
  else
  (zn (f306_1 ((m 4 45 0) + (900 * y4)) y1 m) fun v535 =>
  zn (f306_1 y3 y1 m) fun v538 =>
  zn (if v535 < v538 then
  (((m 4 45 0) + (900 * y4)))
  else
  (y3)) fun v541 =>
  self v541 (y4 + 1))
noncomputable def fl308_57_1 (k106 : Int → Int) (y1 y2 : Int) (m : zM) : Nat → Int → Int → Int
  | 0 => fun y3 y4 => 0
  | n + 1 => fl308_57_1_b (fl308_57_1 k106 y1 y2 m n) k106 y1 y2 m
theorem l308_57_1 {s : Nat × (Nat → Int32)} {S : zS} {m0 : zM} {m : zM} {B : Int} {d : Nat} {Q : Option zV → zM → Prop} {R0 : Int} {k106 : Int → Int} (y1 y2 : Int) (hd : 17 ≤ d) (hJ : J S m0 B m) (hB9 : B ≤ 1000000000) (hy1 : 1 ≤ y1 ∧ y1 ≤ 100000) (hy2 : 0 ≤ y2 ∧ y2 ≤ 1)
    (K106 : ∀ (x3 : Int) , (0 ≤ x3 ∧ x3 ≤ 2000085500) → R0 = k106 x3 → X (EE s) d 308 106 [(0, zr 4 44), (1, zi y1), (2, zi y2), (3, zi x3)] [] m Q) :
    ∀ (n : Nat) (y3 y4 : Int) , (0 ≤ y3 ∧ y3 ≤ 2000085500) → (1 ≤ y4 ∧ y4 ≤ 96) → 96 - y4 < (n : Int) → R0 = fl308_57_1 k106 y1 y2 m n y3 y4 → X (EE s) d 308 57 [(0, zr 4 44), (1, zi y1), (2, zi y2), (3, zi y3), (4, zi y4)] [] m Q := by
  intro n
  induction n with
  | zero =>
    intro y3 y4 hy3 hy4 hn hR
    exfalso
    omega
  | succ n ih =>
    intro y3 y4 hy3 hy4 hn hR
    replace hR : R0 = fl308_57_1_b (fl308_57_1 k106 y1 y2 m n) k106 y1 y2 m y3 y4 := hR
    refine X.iload 59 i308_57 rfl rfl rfl ?_
    refine X.bipush 61 i308_59 rfl rfl (by decide) ?_
    refine X.icmpge 106 64 i308_61 rfl rfl rfl (fun h531 => ?_) (fun h531 => ?_)
    · refine X.cut [(0, zr 4 44), (1, zi y1), (2, zi y2), (3, zi y3)] i308_106 rfl ?_
      exact K106 y3 (by first | trivial | omega) (Eq.trans hR (Eq.trans (if_pos h531) rfl))
    · refine X.aload_n 65 i308_64 rfl rfl rfl ?_
      refine X.getF 68 i308_65 rfl rfl (by decide) rfl rfl ?_
      refine X.iconst 69 i308_68 rfl rfl (by decide) ?_
      refine X.lald 70 i308_69 rfl rfl (by decide) rfl (by omega) ?_
      have h532 := r45_0 hJ 4
      refine X.l2i 71 i308_70 rfl rfl (by omega) ?_
      refine X.sipush 74 i308_71 rfl rfl (by decide) ?_
      refine X.iload 76 i308_74 rfl rfl rfl ?_
      refine X.imul 77 i308_76 rfl rfl (by omega) ?_
      refine X.iadd 78 i308_77 rfl rfl (by omega) ?_
      refine X.istore 80 [(0, zr 4 44), (1, zi y1), (2, zi y2), (3, zi y3), (4, zi y4), (5, zi ((m 4 45 0) + (900 * y4)))] i308_78 rfl rfl rfl ?_
      refine X.aload_n 81 i308_80 rfl rfl rfl ?_
      refine X.iload 83 i308_81 rfl rfl rfl ?_
      refine X.iload_n 84 i308_83 rfl rfl rfl ?_
      refine X.callv 87 [zi ((m 4 45 0) + (900 * y4)), zi y1] [] [(0, zr 4 44), (1, zi ((m 4 45 0) + (900 * y4))), (2, zi y1)] i308_84 rfl (by decide) rfl rfl (by omega) rfl rfl (by decide) rfl t306 (Nat.le_of_ble_eq_true rfl) (Nat.le_of_ble_eq_true rfl) rfl ?_
      refine c306_2 (B := B)  ((m 4 45 0) + (900 * y4)) y1 (by omega) (hJ.up (by omega)) (by omega) (by omega) (by omega) (fun v535 hv535 hFv535 => ?_)
      show X (EE s) d 308 87 [(0, zr 4 44), (1, zi y1), (2, zi y2), (3, zi y3), (4, zi y4), (5, zi ((m 4 45 0) + (900 * y4)))] [zl v535] m _
      refine X.aload_n 88 i308_87 rfl rfl rfl ?_
      refine X.iload_n 89 i308_88 rfl rfl rfl ?_
      refine X.iload_n 90 i308_89 rfl rfl rfl ?_
      refine X.callv 93 [zi y3, zi y1] [zl v535] [(0, zr 4 44), (1, zi y3), (2, zi y1)] i308_90 rfl (by decide) rfl rfl (by omega) rfl rfl (by decide) rfl t306 (Nat.le_of_ble_eq_true rfl) (Nat.le_of_ble_eq_true rfl) rfl ?_
      refine c306_3 (B := B)  y3 y1 (by omega) (hJ.up (by omega)) (by omega) (by omega) (by omega) (fun v538 hv538 hFv538 => ?_)
      show X (EE s) d 308 93 [(0, zr 4 44), (1, zi y1), (2, zi y2), (3, zi y3), (4, zi y4), (5, zi ((m 4 45 0) + (900 * y4)))] [zl v538, zl v535] m _
      refine X.lcmp 94 i308_93 rfl rfl (fun z539 hz539 => ?_)
      have hK544 : ∀ (v : Int) , (0 ≤ v ∧ v ≤ 2000085500) → (if v535 < v538 then
          (((m 4 45 0) + (900 * y4)))
          else
          (y3)) = v → X (EE s) d 308 100 [(0, zr 4 44), (1, zi y1), (2, zi y2), (3, zi v), (4, zi y4)] [] m Q := by
        intro v541 hv541 hT545
        refine X.iinc 103 [(0, zr 4 44), (1, zi y1), (2, zi y2), (3, zi v541), (4, zi (y4 + 1))] i308_100 rfl rfl rfl (by omega) rfl ?_
        refine X.goto 57 i308_103 rfl rfl ?_
        exact ih v541 (y4 + 1) (by omega) (by omega) (by omega) (Eq.trans hR (Eq.trans (if_neg h531) (Eq.trans (zn_eq hFv535.symm) (Eq.trans (zn_eq hFv538.symm) (Eq.trans (zn_eq hT545.symm) rfl)))))
      refine X.ifge 100 97 i308_94 rfl rfl rfl (fun h540 => ?_) (fun h540 => ?_)
      · have h540c : ¬ v535 < v538 := by omega
        clear h540 hz539
        refine X.cut [(0, zr 4 44), (1, zi y1), (2, zi y2), (3, zi y3), (4, zi y4)] i308_100 rfl ?_
        exact hK544 y3 (by first | trivial | omega) (Eq.trans (if_neg h540c) rfl)
      · have h540c : v535 < v538 := by omega
        clear h540 hz539
        refine X.iload 99 i308_97 rfl rfl rfl ?_
        refine X.istore_n 100 [(0, zr 4 44), (1, zi y1), (2, zi y2), (3, zi ((m 4 45 0) + (900 * y4))), (4, zi y4), (5, zi ((m 4 45 0) + (900 * y4)))] i308_99 rfl rfl rfl ?_
        refine X.cut [(0, zr 4 44), (1, zi y1), (2, zi y2), (3, zi ((m 4 45 0) + (900 * y4))), (4, zi y4)] i308_100 rfl ?_
        exact hK544 ((m 4 45 0) + (900 * y4)) (by first | trivial | omega) (Eq.trans (if_pos h540c) rfl)
end
section
-- WorkMeterModel.cheapest
noncomputable def f308_1 (a1 a2 : Int) (m : zM) : Int :=
  if a1 < 1 then
  ((-1))
  else
  (if a1 ≤ 100000 then
  (if (((m 4 45 0) + 85500) + a1) ≤ 2000000000 then
  (if a2 < 0 then
  ((-1))
  else
  (if a2 ≤ 1 then
  (fl308_57_1 (fun y518 =>
  zn (if a2 = 0 then
  (y518)
  else
  (zn (f306_1 y518 a1 m) fun v526 =>
  v526)) fun v527 =>
  v527) a1 a2 m (zfu 96) (m 4 45 0) 1)
  else
  ((-1))))
  else
  ((-1)))
  else
  ((-1)))
-- WorkMeterModel.cheapest
theorem c308_1 {s : Nat × (Nat → Int32)} {S : zS} {m0 m : zM} {B : Int} {d : Nat} {Q : Option zV → zM → Prop} (a1 a2 : Int) (hd : 17 ≤ d) (hJ : J S m0 B m) (hB : B + 0 ≤ 1000000000) (ha1 : (-2147483648) ≤ a1 ∧ a1 ≤ 2147483647) (ha2 : (-2147483648) ≤ a2 ∧ a2 ≤ 2147483647) (hQ : ∀ (v : Int), (True) → f308_1 a1 a2 m = v → Q (some (zl v)) m) : X (EE s) d 308 0 [(0, zr 4 44), (1, zi a1), (2, zi a2)] [] m Q := by
  refine X.iload_n 1 i308_0 rfl rfl rfl ?_
  refine X.i2l 2 i308_1 rfl rfl ?_
  refine X.lconst (y := 1) 3 i308_2 rfl rfl rfl ?_
  refine X.ldc2 6 i308_3 rfl rfl (by decide) ?_
  refine X.calls 9 [zl a1, zl 1, zl 100000] [] [(0, zl a1), (2, zl 1), (4, zl 100000)] i308_6 (by decide) rfl rfl (by omega) rfl rfl t204 (Nat.le_of_ble_eq_true rfl) (Nat.le_of_ble_eq_true rfl) rfl ?_
  refine X.lload_n 1 i204_0 rfl rfl rfl ?_
  refine X.lload_n 2 i204_1 rfl rfl rfl ?_
  refine X.lcmp 3 i204_2 rfl rfl (fun z501 hz501 => ?_)
  refine X.iflt 17 6 i204_3 rfl rfl rfl (fun h502 => ?_) (fun h502 => ?_)
  · have h502c : a1 < 1 := by omega
    clear h502 hz501
    refine X.cut [] i204_17 rfl ?_
    refine X.iconst 18 i204_17 rfl rfl (by decide) ?_
    refine X.retz i204_18 rfl t204 (by omega) ?_
    show X (EE s) d 308 9 [(0, zr 4 44), (1, zi a1), (2, zi a2)] [zi 0] m _
    refine X.ifeq 42 12 i308_9 rfl rfl rfl (fun h503 => ?_) (fun h503 => (by exfalso; omega))
    refine X.cut [] i308_42 rfl ?_
    refine X.ldc2 45 i308_42 rfl rfl (by decide) ?_
    refine X.retl i308_45 rfl t308 ?_
    exact hQ (-1) (by first | trivial | omega) (Eq.trans (if_pos h502c) rfl) 
  · have h502c : ¬ a1 < 1 := by omega
    clear h502 hz501
    refine X.lload_n 7 i204_6 rfl rfl rfl ?_
    refine X.lload 9 i204_7 rfl rfl rfl ?_
    refine X.lcmp 10 i204_9 rfl rfl (fun z504 hz504 => ?_)
    refine X.ifgt 17 13 i204_10 rfl rfl rfl (fun h505 => ?_) (fun h505 => ?_)
    · have h505c : ¬ a1 ≤ 100000 := by omega
      clear h505 hz504
      refine X.cut [] i204_17 rfl ?_
      refine X.iconst 18 i204_17 rfl rfl (by decide) ?_
      refine X.retz i204_18 rfl t204 (by omega) ?_
      show X (EE s) d 308 9 [(0, zr 4 44), (1, zi a1), (2, zi a2)] [zi 0] m _
      refine X.ifeq 42 12 i308_9 rfl rfl rfl (fun h506 => ?_) (fun h506 => (by exfalso; omega))
      refine X.cut [] i308_42 rfl ?_
      refine X.ldc2 45 i308_42 rfl rfl (by decide) ?_
      refine X.retl i308_45 rfl t308 ?_
      exact hQ (-1) (by first | trivial | omega) (Eq.trans (if_neg h502c) (Eq.trans (if_neg h505c) rfl)) 
    · have h505c : a1 ≤ 100000 := by omega
      clear h505 hz504
      refine X.iconst 14 i204_13 rfl rfl (by decide) ?_
      refine X.goto 18 i204_14 rfl rfl ?_
      refine X.cut [] i204_18 rfl ?_
      refine X.retz i204_18 rfl t204 (by omega) ?_
      show X (EE s) d 308 9 [(0, zr 4 44), (1, zi a1), (2, zi a2)] [zi 1] m _
      refine X.ifeq 42 12 i308_9 rfl rfl rfl (fun h507 => (by exfalso; omega)) (fun h507 => ?_)
      refine X.aload_n 13 i308_12 rfl rfl rfl ?_
      refine X.getF 16 i308_13 rfl rfl (by decide) rfl rfl ?_
      refine X.iconst 17 i308_16 rfl rfl (by decide) ?_
      refine X.lald 18 i308_17 rfl rfl (by decide) rfl (by omega) ?_
      have h508 := r45_0 hJ 4
      refine X.ldc2 21 i308_18 rfl rfl (by decide) ?_
      refine X.ladd 22 i308_21 rfl rfl (by omega) ?_
      refine X.iload_n 23 i308_22 rfl rfl rfl ?_
      refine X.i2l 24 i308_23 rfl rfl ?_
      refine X.ladd 25 i308_24 rfl rfl (by omega) ?_
      refine X.ldc2 28 i308_25 rfl rfl (by decide) ?_
      refine X.lcmp 29 i308_28 rfl rfl (fun z509 hz509 => ?_)
      refine X.ifgt 42 32 i308_29 rfl rfl rfl (fun h510 => ?_) (fun h510 => ?_)
      · have h510c : ¬ (((m 4 45 0) + 85500) + a1) ≤ 2000000000 := by omega
        clear h510 hz509
        refine X.cut [] i308_42 rfl ?_
        refine X.ldc2 45 i308_42 rfl rfl (by decide) ?_
        refine X.retl i308_45 rfl t308 ?_
        exact hQ (-1) (by first | trivial | omega) (Eq.trans (if_neg h502c) (Eq.trans (if_pos h505c) (Eq.trans (if_neg h510c) rfl))) 
      · have h510c : (((m 4 45 0) + 85500) + a1) ≤ 2000000000 := by omega
        clear h510 hz509
        refine X.iload_n 33 i308_32 rfl rfl rfl ?_
        refine X.i2l 34 i308_33 rfl rfl ?_
        refine X.lconst (y := 0) 35 i308_34 rfl rfl rfl ?_
        refine X.lconst (y := 1) 36 i308_35 rfl rfl rfl ?_
        refine X.calls 39 [zl a2, zl 0, zl 1] [] [(0, zl a2), (2, zl 0), (4, zl 1)] i308_36 (by decide) rfl rfl (by omega) rfl rfl t204 (Nat.le_of_ble_eq_true rfl) (Nat.le_of_ble_eq_true rfl) rfl ?_
        refine X.lload_n 1 i204_0 rfl rfl rfl ?_
        refine X.lload_n 2 i204_1 rfl rfl rfl ?_
        refine X.lcmp 3 i204_2 rfl rfl (fun z511 hz511 => ?_)
        refine X.iflt 17 6 i204_3 rfl rfl rfl (fun h512 => ?_) (fun h512 => ?_)
        · have h512c : a2 < 0 := by omega
          clear h512 hz511
          refine X.cut [] i204_17 rfl ?_
          refine X.iconst 18 i204_17 rfl rfl (by decide) ?_
          refine X.retz i204_18 rfl t204 (by omega) ?_
          show X (EE s) d 308 39 [(0, zr 4 44), (1, zi a1), (2, zi a2)] [zi 0] m _
          refine X.ifne 46 42 i308_39 rfl rfl rfl (fun h513 => (by exfalso; omega)) (fun h513 => ?_)
          refine X.cut [] i308_42 rfl ?_
          refine X.ldc2 45 i308_42 rfl rfl (by decide) ?_
          refine X.retl i308_45 rfl t308 ?_
          exact hQ (-1) (by first | trivial | omega) (Eq.trans (if_neg h502c) (Eq.trans (if_pos h505c) (Eq.trans (if_pos h510c) (Eq.trans (if_pos h512c) rfl)))) 
        · have h512c : ¬ a2 < 0 := by omega
          clear h512 hz511
          refine X.lload_n 7 i204_6 rfl rfl rfl ?_
          refine X.lload 9 i204_7 rfl rfl rfl ?_
          refine X.lcmp 10 i204_9 rfl rfl (fun z514 hz514 => ?_)
          refine X.ifgt 17 13 i204_10 rfl rfl rfl (fun h515 => ?_) (fun h515 => ?_)
          · have h515c : ¬ a2 ≤ 1 := by omega
            clear h515 hz514
            refine X.cut [] i204_17 rfl ?_
            refine X.iconst 18 i204_17 rfl rfl (by decide) ?_
            refine X.retz i204_18 rfl t204 (by omega) ?_
            show X (EE s) d 308 39 [(0, zr 4 44), (1, zi a1), (2, zi a2)] [zi 0] m _
            refine X.ifne 46 42 i308_39 rfl rfl rfl (fun h516 => (by exfalso; omega)) (fun h516 => ?_)
            refine X.cut [] i308_42 rfl ?_
            refine X.ldc2 45 i308_42 rfl rfl (by decide) ?_
            refine X.retl i308_45 rfl t308 ?_
            exact hQ (-1) (by first | trivial | omega) (Eq.trans (if_neg h502c) (Eq.trans (if_pos h505c) (Eq.trans (if_pos h510c) (Eq.trans (if_neg h512c) (Eq.trans (if_neg h515c) rfl))))) 
          · have h515c : a2 ≤ 1 := by omega
            clear h515 hz514
            refine X.iconst 14 i204_13 rfl rfl (by decide) ?_
            refine X.goto 18 i204_14 rfl rfl ?_
            refine X.cut [] i204_18 rfl ?_
            refine X.retz i204_18 rfl t204 (by omega) ?_
            show X (EE s) d 308 39 [(0, zr 4 44), (1, zi a1), (2, zi a2)] [zi 1] m _
            refine X.ifne 46 42 i308_39 rfl rfl rfl (fun h517 => ?_) (fun h517 => (by exfalso; omega))
            refine X.aload_n 47 i308_46 rfl rfl rfl ?_
            refine X.getF 50 i308_47 rfl rfl (by decide) rfl rfl ?_
            refine X.iconst 51 i308_50 rfl rfl (by decide) ?_
            refine X.lald 52 i308_51 rfl rfl (by decide) rfl (by omega) ?_
            refine X.l2i 53 i308_52 rfl rfl (by omega) ?_
            refine X.istore_n 54 [(0, zr 4 44), (1, zi a1), (2, zi a2), (3, zi (m 4 45 0))] i308_53 rfl rfl rfl ?_
            refine X.iconst 55 i308_54 rfl rfl (by decide) ?_
            refine X.istore 57 [(0, zr 4 44), (1, zi a1), (2, zi a2), (3, zi (m 4 45 0)), (4, zi 1)] i308_55 rfl rfl rfl ?_
            have hz96 := zfu_eq 96
            refine l308_57_1 (s := s) (m := m) (B := B) (d := d) (R0 := (f308_1 a1 a2 m))  a1 a2  (by omega) (hJ.up (by omega)) (by omega) (by omega) (by omega) (fun y518 hby518 hR522 => ?_) (zfu 96) (m 4 45 0) 1 (by omega) (by omega) (by omega) (Eq.trans (if_neg h502c) (Eq.trans (if_pos h505c) (Eq.trans (if_pos h510c) (Eq.trans (if_neg h512c) (Eq.trans (if_pos h515c) rfl)))))
            refine X.iload_n 107 i308_106 rfl rfl rfl ?_
            have hK530 : ∀ (v : Int) , (True) → (if a2 = 0 then
                (y518)
                else
                (zn (f306_1 y518 a1 m) fun v526 =>
                v526)) = v → X (EE s) d 308 121 [] [zl v] m Q := by
              intro v527 hv527 hT531
              refine X.retl i308_121 rfl t308 ?_
              exact hQ v527 (by first | trivial | omega) (Eq.trans hR522 (Eq.trans (zn_eq hT531.symm) rfl)) 
            refine X.ifne 115 110 i308_107 rfl rfl rfl (fun h523 => ?_) (fun h523 => ?_)
            · refine X.cut [(0, zr 4 44), (1, zi a1), (3, zi y518)] i308_115 rfl ?_
              refine X.aload_n 116 i308_115 rfl rfl rfl ?_
              refine X.iload_n 117 i308_116 rfl rfl rfl ?_
              refine X.iload_n 118 i308_117 rfl rfl rfl ?_
              refine X.callv 121 [zi y518, zi a1] [] [(0, zr 4 44), (1, zi y518), (2, zi a1)] i308_118 rfl (by decide) rfl rfl (by omega) rfl rfl (by decide) rfl t306 (Nat.le_of_ble_eq_true rfl) (Nat.le_of_ble_eq_true rfl) rfl ?_
              refine c306_3 (B := B)  y518 a1 (by omega) (hJ.up (by omega)) (by omega) (by omega) (by omega) (fun v526 hv526 hFv526 => ?_)
              show X (EE s) d 308 121 [(0, zr 4 44), (1, zi a1), (3, zi y518)] [zl v526] m _
              refine X.cut [] i308_121 rfl ?_
              exact hK530 v526 (by first | trivial | omega) (Eq.trans (if_neg h523) (Eq.trans (zn_eq hFv526.symm) rfl))
            · refine X.iload_n 111 i308_110 rfl rfl rfl ?_
              refine X.i2l 112 i308_111 rfl rfl ?_
              refine X.goto 121 i308_112 rfl rfl ?_
              refine X.cut [] i308_121 rfl ?_
              exact hK530 y518 (by first | trivial | omega) (Eq.trans (if_pos h523) rfl)
noncomputable def fl185_4_1_b (self : Int → Int → zM → Int × zM) (k31 : Int → Int → zM → Int × zM) (k39 : zM → Int × zM) (g0 : Nat) (y1 : Int) (y2 y3 : Int) (m : zM) : Int × zM :=
  if y1 ≤ y3 then
  (k39 m)
  else
  (if y1 ≤ y2 then
  (k39 m)
  else
  (zb (f26_1 g0 (y1 - y2) m) fun v512 m510 =>
  if (m510 g0 8 12) = 0 then
  (self (y2 + v512) (y3 + 1) m510)
  else
  (k31 (y2 + v512) y3 m510)))
noncomputable def fl185_4_1 (k31 : Int → Int → zM → Int × zM) (k39 : zM → Int × zM) (g0 : Nat) (y1 : Int) : Nat → Int → Int → zM → Int × zM
  | 0 => fun y2 y3 m => (0, m)
  | n + 1 => fl185_4_1_b (fl185_4_1 k31 k39 g0 y1 n) k31 k39 g0 y1
theorem l185_4_1 {s : Nat × (Nat → Int32)} {S : zS} {m0 : zM} {d : Nat} {Q : Option zV → zM → Prop} {R0 : Int × zM} {k31 : Int → Int → zM → Int × zM} {k39 : zM → Int × zM} (g0 : Nat) (y1 : Int) (BE : Int) (hE : BE ≤ 1000000000) (hd : 18 ≤ d) (hy1 : 3600 ≤ y1 ∧ y1 ≤ 3600) (hf6 : ¬ S.1 6) (hf7 : ¬ S.1 7) (hf8 : ¬ S.1 8) (hf9 : ¬ S.1 9) (hf10 : ¬ S.1 10) (hf11 : ¬ S.1 11) (hf12 : ¬ S.1 12) (hf13 : ¬ S.1 13) (hgg0 : ¬ S.2.1 g0)
    (K31 : ∀ (x2 x3 : Int) (m' : zM) (B' : Int), J S m0 B' m' → B' ≤ BE → (1 ≤ x2 ∧ x2 ≤ 7199) → (0 ≤ x3 ∧ x3 ≤ 3599) → (x2 ≤ y1) → R0 = k31 x2 x3 m' → X (EE s) d 185 31 [(0, zr g0 8), (1, zi y1), (2, zi x2), (3, zi x3)] [] m' Q)
    (K39 : ∀ (m' : zM) (B' : Int), J S m0 B' m' → B' ≤ BE → R0 = k39 m' → X (EE s) d 185 39 [] [] m' Q) :
    ∀ (n : Nat) (y2 y3 : Int) (m : zM) (B : Int), J S m0 B m → B + 8 * (n : Int) ≤ BE → (0 ≤ y2 ∧ y2 ≤ 3600) → (0 ≤ y3 ∧ y3 ≤ 3600) → (y2 ≤ y1) → 3600 - y3 < (n : Int) → R0 = fl185_4_1 k31 k39 g0 y1 n y2 y3 m → X (EE s) d 185 4 [(0, zr g0 8), (1, zi y1), (2, zi y2), (3, zi y3)] [] m Q := by
  intro n
  induction n with
  | zero =>
    intro y2 y3 m B hJ hB hy2 hy3 hr0 hn hR
    exfalso
    omega
  | succ n ih =>
    intro y2 y3 m B hJ hB hy2 hy3 hr0 hn hR
    replace hR : R0 = fl185_4_1_b (fl185_4_1 k31 k39 g0 y1 n) k31 k39 g0 y1 y2 y3 m := hR
    refine X.iload_n 5 i185_4 rfl rfl rfl ?_
    refine X.iload_n 6 i185_5 rfl rfl rfl ?_
    refine X.icmpge 39 9 i185_6 rfl rfl rfl (fun h508 => ?_) (fun h508 => ?_)
    · refine X.cut [] i185_39 rfl ?_
      exact K39  m (B) (hJ.up (by omega)) (by omega)  (Eq.trans hR (Eq.trans (if_pos h508) rfl))
    · refine X.iload_n 10 i185_9 rfl rfl rfl ?_
      refine X.iload_n 11 i185_10 rfl rfl rfl ?_
      refine X.icmpge 39 14 i185_11 rfl rfl rfl (fun h509 => ?_) (fun h509 => ?_)
      · refine X.cut [] i185_39 rfl ?_
        exact K39  m (B) (hJ.up (by omega)) (by omega)  (Eq.trans hR (Eq.trans (if_neg h508) (Eq.trans (if_pos h509) rfl)))
      · refine X.iload_n 15 i185_14 rfl rfl rfl ?_
        refine X.aload_n 16 i185_15 rfl rfl rfl ?_
        refine X.iload_n 17 i185_16 rfl rfl rfl ?_
        refine X.iload_n 18 i185_17 rfl rfl rfl ?_
        refine X.isub 19 i185_18 rfl rfl (by omega) ?_
        refine X.callv 22 [zi (y1 - y2)] [zi y2] [(0, zr g0 8), (1, zi (y1 - y2))] i185_19 rfl (by decide) rfl rfl (by omega) rfl rfl (by decide) rfl t26 (Nat.le_of_ble_eq_true rfl) (Nat.le_of_ble_eq_true rfl) rfl ?_
        refine c26_1 (B := B) g0 (y1 - y2) (by omega) (hJ.up (by omega)) (by omega) (by omega) (by omega) hf6 hf7 hf8 hf9 hf10 hf11 hf12 hf13 hgg0 (fun v512 m510 hv512 hFv512 hJ511 hqv512_0 hqv512_1 => ?_)
        show X (EE s) d 185 22 [(0, zr g0 8), (1, zi y1), (2, zi y2), (3, zi y3)] [zi v512, zi y2] m510 _
        refine X.iadd 23 i185_22 rfl rfl (by omega) ?_
        refine X.istore_n 24 [(0, zr g0 8), (1, zi y1), (2, zi (y2 + v512)), (3, zi y3)] i185_23 rfl rfl rfl ?_
        refine X.aload_n 25 i185_24 rfl rfl rfl ?_
        refine X.getZ 28 12 i185_25 rfl rfl (by decide) rfl rfl rfl (fun h513 => ?_)
        refine X.ifeq 33 31 i185_28 rfl rfl rfl (fun h514 => ?_) (fun h514 => ?_)
        · refine X.iinc 36 [(0, zr g0 8), (1, zi y1), (2, zi (y2 + v512)), (3, zi (y3 + 1))] i185_33 rfl rfl rfl (by omega) rfl ?_
          refine X.goto 4 i185_36 rfl rfl ?_
          exact ih (y2 + v512) (y3 + 1) m510 (B + 8) (hJ511.up (by omega)) (by omega) (by omega) (by omega) (by omega) (by omega) (Eq.trans hR (Eq.trans (if_neg h508) (Eq.trans (if_neg h509) (Eq.trans (zb_eq hFv512) (Eq.trans (if_pos h514) rfl)))))
        · exact K31 (y2 + v512) y3 m510 (B + 8) (hJ511.up (by omega)) (by omega) (by first | trivial | omega) (by first | trivial | omega) (by omega) (Eq.trans hR (Eq.trans (if_neg h508) (Eq.trans (if_neg h509) (Eq.trans (zb_eq hFv512) (Eq.trans (if_neg h514) rfl)))))
-- WorkMeter$Meter.secondsTillOpen
noncomputable def f185_1 (g0 : Nat) (a1 : Int) (m : zM) : Int × zM :=
  fl185_4_1 (fun y501 y502 m503 =>
  (y501, m503)) (fun m507 =>
  ((-1), m507)) g0 a1 (zfu 3601) 0 0 m
-- WorkMeter$Meter.secondsTillOpen
theorem c185_1 {s : Nat × (Nat → Int32)} {S : zS} {m0 m : zM} {B : Int} {d : Nat} {Q : Option zV → zM → Prop} (g0 : Nat) (a1 : Int) (hd : 18 ≤ d) (hJ : J S m0 B m) (hB : B + 28808 ≤ 1000000000) (ha1 : 3600 ≤ a1 ∧ a1 ≤ 3600) (hf6 : ¬ S.1 6) (hf7 : ¬ S.1 7) (hf8 : ¬ S.1 8) (hf9 : ¬ S.1 9) (hf10 : ¬ S.1 10) (hf11 : ¬ S.1 11) (hf12 : ¬ S.1 12) (hf13 : ¬ S.1 13) (hgg0 : ¬ S.2.1 g0) (hQ : ∀ (v : Int) m', ((-1) ≤ v ∧ v ≤ 7199) → f185_1 g0 a1 m = (v, m') → J S m0 (B + 28808) m' → Q (some (zi v)) m') : X (EE s) d 185 0 [(0, zr g0 8), (1, zi a1)] [] m Q := by
  refine X.iconst 1 i185_0 rfl rfl (by decide) ?_
  refine X.istore_n 2 [(0, zr g0 8), (1, zi a1), (2, zi 0)] i185_1 rfl rfl rfl ?_
  refine X.iconst 3 i185_2 rfl rfl (by decide) ?_
  refine X.istore_n 4 [(0, zr g0 8), (1, zi a1), (2, zi 0), (3, zi 0)] i185_3 rfl rfl rfl ?_
  have hz3601 := zfu_eq 3601
  refine l185_4_1 (s := s) (d := d) (R0 := (f185_1 g0 a1 m)) g0 a1  (BE := B + 28808) (by omega) (by omega) (by omega) hf6 hf7 hf8 hf9 hf10 hf11 hf12 hf13 hgg0 (fun y501 y502 m503 B504 hJ505 hBB504 hby501 hby502 hrlm503_0 hR506 => ?_) (fun  m507 B508 hJ509 hBB508 hR510 => ?_) (zfu 3601) 0 0 m (B) (hJ.up (by omega)) (by omega) (by omega) (by omega) (by omega) (by omega) rfl
  · refine X.iload_n 32 i185_31 rfl rfl rfl ?_
    refine X.reti i185_32 rfl t185 ?_
    exact hQ y501 m503 (by first | trivial | omega) (Eq.trans hR506 rfl) (hJ505.up (by omega)) 
  · refine X.iconst 40 i185_39 rfl rfl (by decide) ?_
    refine X.reti i185_40 rfl t185 ?_
    exact hQ (-1) m507 (by first | trivial | omega) (Eq.trans hR510 rfl) (hJ509.up (by omega)) 
-- WorkMeter.lasts
noncomputable def f184_1 (m : zM) : Int × zM :=
  if (m 0 8 12) = 0 then
  (if (m 0 8 11) = 0 then
  (((-1), m))
  else
  (zs (f171_1 2 0 m) fun m505 =>
  zb (f185_1 2 3600 m505) fun v510 m508 =>
  (v510, m508)))
  else
  ((0, m))
-- WorkMeter.lasts
theorem c184_1 {s : Nat × (Nat → Int32)} {S : zS} {m0 m : zM} {B : Int} {d : Nat} {Q : Option zV → zM → Prop} (hd : 19 ≤ d) (hJ : J S m0 B m) (hB : B + 28812 ≤ 1000000000) (hf1 : ¬ S.1 1) (hf2 : ¬ S.1 2) (hf3 : ¬ S.1 3) (hf4 : ¬ S.1 4) (hf5 : ¬ S.1 5) (hf6 : ¬ S.1 6) (hf7 : ¬ S.1 7) (hf8 : ¬ S.1 8) (hf9 : ¬ S.1 9) (hf10 : ¬ S.1 10) (hf11 : ¬ S.1 11) (hf12 : ¬ S.1 12) (hf13 : ¬ S.1 13) (hg2 : ¬ S.2.1 2) (hQ : ∀ (v : Int) m', ((-1) ≤ v ∧ v ≤ 7199) → f184_1 m = (v, m') → J S m0 (B + 28812) m' → Q (some (zi v)) m') : X (EE s) d 184 0 [(0, zr 4 40)] [] m Q := by
  refine X.aload_n 1 i184_0 rfl rfl rfl ?_
  refine X.getF 4 i184_1 rfl rfl (by decide) rfl rfl ?_
  refine X.getZ 7 12 i184_4 rfl rfl (by decide) rfl rfl rfl (fun h501 => ?_)
  refine X.ifeq 12 10 i184_7 rfl rfl rfl (fun h502 => ?_) (fun h502 => ?_)
  · refine X.aload_n 13 i184_12 rfl rfl rfl ?_
    refine X.getF 16 i184_13 rfl rfl (by decide) rfl rfl ?_
    refine X.getZ 19 11 i184_16 rfl rfl (by decide) rfl rfl rfl (fun h503 => ?_)
    refine X.ifne 24 22 i184_19 rfl rfl rfl (fun h504 => ?_) (fun h504 => ?_)
    · refine X.aload_n 25 i184_24 rfl rfl rfl ?_
      refine X.getF 28 i184_25 rfl rfl (by decide) rfl rfl ?_
      refine X.aload_n 29 i184_28 rfl rfl rfl ?_
      refine X.getF 32 i184_29 rfl rfl (by decide) rfl rfl ?_
      refine X.callv 35 [zr 0 8] [] [(0, zr 2 8), (1, zr 0 8)] i184_32 rfl (by decide) rfl rfl (by omega) rfl rfl (by decide) rfl t171 (Nat.le_of_ble_eq_true rfl) (Nat.le_of_ble_eq_true rfl) rfl ?_
      refine c171_1 (B := B) 2 0  (by omega) (hJ.up (by omega)) (by omega)  hf1 hf2 hf3 hf4 hf5 hf6 hf7 hf8 hf9 hf10 hf11 hf12 hf13 hg2 (fun m505 hFv507 hJ506 => ?_)
      show X (EE s) d 184 35 [(0, zr 4 40)] [] m505 _
      refine X.aload_n 36 i184_35 rfl rfl rfl ?_
      refine X.getF 39 i184_36 rfl rfl (by decide) rfl rfl ?_
      refine X.sipush 42 i184_39 rfl rfl (by decide) ?_
      refine X.callv 45 [zi 3600] [] [(0, zr 2 8), (1, zi 3600)] i184_42 rfl (by decide) rfl rfl (by omega) rfl rfl (by decide) rfl t185 (Nat.le_of_ble_eq_true rfl) (Nat.le_of_ble_eq_true rfl) rfl ?_
      refine c185_1 (B := B + 4) 2 3600 (by omega) (hJ506.up (by omega)) (by omega) (by omega) hf6 hf7 hf8 hf9 hf10 hf11 hf12 hf13 hg2 (fun v510 m508 hv510 hFv510 hJ509 => ?_)
      show X (EE s) d 184 45 [(0, zr 4 40)] [zi v510] m508 _
      refine X.reti i184_45 rfl t184 ?_
      exact hQ v510 m508 (by first | trivial | omega) (Eq.trans (if_pos h502) (Eq.trans (if_neg h504) (Eq.trans (zs_eq hFv507.symm) (Eq.trans (zb_eq hFv510) rfl)))) (hJ509.up (by omega)) 
    · refine X.iconst 23 i184_22 rfl rfl (by decide) ?_
      refine X.reti i184_23 rfl t184 ?_
      exact hQ (-1) m (by first | trivial | omega) (Eq.trans (if_pos h502) (Eq.trans (if_pos h504) rfl)) (hJ.up (by omega)) 
  · refine X.iconst 11 i184_10 rfl rfl (by decide) ?_
    refine X.reti i184_11 rfl t184 ?_
    exact hQ 0 m (by first | trivial | omega) (Eq.trans (if_neg h502) rfl) (hJ.up (by omega)) 
noncomputable def fl309_13_1_b (self : Int → zM → Int × zM) (k42 : Int → zM → Int × zM) (y1 : Int) (m : zM) : Int × zM :=
  if 3600 ≤ y1 then
  (k42 y1 m)
  else
  (if (m 4 45 12) = 0 then
  (zs (f208_1 m) fun m512 =>
  self (y1 + 1) m512)
  else
  (k42 y1 m))
noncomputable def fl309_13_1 (k42 : Int → zM → Int × zM) : Nat → Int → zM → Int × zM
  | 0 => fun y1 m => (0, m)
  | n + 1 => fl309_13_1_b (fl309_13_1 k42 n) k42
theorem l309_13_1 {s : Nat × (Nat → Int32)} {S : zS} {m0 : zM} {d : Nat} {Q : Option zV → zM → Prop} {R0 : Int × zM} {k42 : Int → zM → Int × zM} (BE : Int) (hE : BE ≤ 1000000000) (hd : 20 ≤ d) (hf26 : ¬ S.1 26) (hf27 : ¬ S.1 27) (hf28 : ¬ S.1 28) (hf29 : ¬ S.1 29) (hf30 : ¬ S.1 30) (hf31 : ¬ S.1 31) (hf32 : ¬ S.1 32) (hf33 : ¬ S.1 33) (hg4 : ¬ S.2.1 4)
    (K42 : ∀ (x1 : Int) (m' : zM) (B' : Int), J S m0 B' m' → B' ≤ BE → (0 ≤ x1 ∧ x1 ≤ 3600) → R0 = k42 x1 m' → X (EE s) d 309 42 [(0, zr 4 44), (1, zi x1)] [] m' Q) :
    ∀ (n : Nat) (y1 : Int) (m : zM) (B : Int), J S m0 B m → B + 11 * (n : Int) ≤ BE → (0 ≤ y1 ∧ y1 ≤ 3600) → 3600 - y1 < (n : Int) → R0 = fl309_13_1 k42 n y1 m → X (EE s) d 309 13 [(0, zr 4 44), (1, zi y1)] [] m Q := by
  intro n
  induction n with
  | zero =>
    intro y1 m B hJ hB hy1 hn hR
    exfalso
    omega
  | succ n ih =>
    intro y1 m B hJ hB hy1 hn hR
    replace hR : R0 = fl309_13_1_b (fl309_13_1 k42 n) k42 y1 m := hR
    refine X.iload_n 14 i309_13 rfl rfl rfl ?_
    refine X.sipush 17 i309_14 rfl rfl (by decide) ?_
    refine X.icmpge 42 20 i309_17 rfl rfl rfl (fun h508 => ?_) (fun h508 => ?_)
    · exact K42 y1 m (B) (hJ.up (by omega)) (by omega) (by first | trivial | omega) (Eq.trans hR (Eq.trans (if_pos h508) rfl))
    · refine X.aload_n 21 i309_20 rfl rfl rfl ?_
      refine X.getF 24 i309_21 rfl rfl (by decide) rfl rfl ?_
      refine X.bipush 26 i309_24 rfl rfl (by decide) ?_
      refine X.lald 27 i309_26 rfl rfl (by decide) rfl (by omega) ?_
      have h509 := r45_12 hJ 4
      refine X.lconst (y := 0) 28 i309_27 rfl rfl rfl ?_
      refine X.lcmp 29 i309_28 rfl rfl (fun z510 hz510 => ?_)
      refine X.ifne 42 32 i309_29 rfl rfl rfl (fun h511 => ?_) (fun h511 => ?_)
      · have h511c : ¬ (m 4 45 12) = 0 := by omega
        clear h511 hz510
        exact K42 y1 m (B) (hJ.up (by omega)) (by omega) (by first | trivial | omega) (Eq.trans hR (Eq.trans (if_neg h508) (Eq.trans (if_neg h511c) rfl)))
      · have h511c : (m 4 45 12) = 0 := by omega
        clear h511 hz510
        refine X.aload_n 33 i309_32 rfl rfl rfl ?_
        refine X.callv 36 [] [] [(0, zr 4 44)] i309_33 rfl (by decide) rfl rfl (by omega) rfl rfl (by decide) rfl t208 (Nat.le_of_ble_eq_true rfl) (Nat.le_of_ble_eq_true rfl) rfl ?_
        refine c208_1 (B := B)   (by omega) (hJ.up (by omega)) (by omega)  hf26 hf27 hf28 hf29 hf30 hf31 hf32 hf33 hg4 (fun m512 hFv514 hJ513 => ?_)
        show X (EE s) d 309 36 [(0, zr 4 44), (1, zi y1)] [] m512 _
        refine X.iinc 39 [(0, zr 4 44), (1, zi (y1 + 1))] i309_36 rfl rfl rfl (by omega) rfl ?_
        refine X.goto 13 i309_39 rfl rfl ?_
        exact ih (y1 + 1) m512 (B + 11) (hJ513.up (by omega)) (by omega) (by omega) (by omega) (Eq.trans hR (Eq.trans (if_neg h508) (Eq.trans (if_pos h511c) (Eq.trans (zs_eq hFv514.symm) rfl))))
-- WorkMeterModel.lasts
noncomputable def f309_1 (m : zM) : Int × zM :=
  zs (z_cpy m 4 46 4 45 0 0 1619) fun m501 =>
  fl309_13_1 (fun y504 m505 =>
  zn (if (m505 4 45 12) = 1 then
  (1)
  else
  (0)) fun v512 =>
  zs (z_cpy m505 4 45 4 46 0 0 1619) fun m517 =>
  zn (if v512 = 0 then
  ((-1))
  else
  (y504)) fun v521 =>
  (v521, m517)) (zfu 3601) 0 m501
-- WorkMeterModel.lasts
theorem c309_1 {s : Nat × (Nat → Int32)} {S : zS} {m0 m : zM} {B : Int} {d : Nat} {Q : Option zV → zM → Prop} (hd : 20 ≤ d) (hJ : J S m0 B m) (hB : B + 39611 ≤ 1000000000) (hf21 : ¬ S.1 21) (hf22 : ¬ S.1 22) (hf23 : ¬ S.1 23) (hf24 : ¬ S.1 24) (hf25 : ¬ S.1 25) (hf26 : ¬ S.1 26) (hf27 : ¬ S.1 27) (hf28 : ¬ S.1 28) (hf29 : ¬ S.1 29) (hf30 : ¬ S.1 30) (hf31 : ¬ S.1 31) (hf32 : ¬ S.1 32) (hf33 : ¬ S.1 33) (hf38 : ¬ S.1 38) (hg4 : ¬ S.2.1 4) (hQ : ∀ (v : Int) m', ((-1) ≤ v ∧ v ≤ 3600) → f309_1 m = (v, m') → J S m0 (B + 39611) m' → Q (some (zi v)) m') : X (EE s) d 309 0 [(0, zr 4 44)] [] m Q := by
  refine X.aload_n 1 i309_0 rfl rfl rfl ?_
  refine X.getF 4 i309_1 rfl rfl (by decide) rfl rfl ?_
  refine X.aload_n 5 i309_4 rfl rfl rfl ?_
  refine X.getF 8 i309_5 rfl rfl (by decide) rfl rfl ?_
  refine X.calls 11 [zr 4 45, zr 4 46] [] [(0, zr 4 45), (1, zr 4 46)] i309_8 (by decide) rfl rfl (by omega) rfl rfl t261 (Nat.le_of_ble_eq_true rfl) (Nat.le_of_ble_eq_true rfl) rfl ?_
  refine c_cq_45_46 (S := S) (B := B) (by omega) (hJ)  hf38 hg4 (fun m501 hFv503 hJ502 => ?_)
  have wcm501 : m501 4 44 3 = m 4 44 3 := by rw [hFv503]; exact z_cpy_o rfl
  show X (EE s) d 309 11 [(0, zr 4 44)] [] m501 _
  refine X.iconst 12 i309_11 rfl rfl (by decide) ?_
  refine X.istore_n 13 [(0, zr 4 44), (1, zi 0)] i309_12 rfl rfl rfl ?_
  have hz3601 := zfu_eq 3601
  refine l309_13_1 (s := s) (d := d) (R0 := (f309_1 m)) (S := (S.1, S.2.1, True, S.2.2.2))    (BE := B + 39611) (by omega) (by omega) hf26 hf27 hf28 hf29 hf30 hf31 hf32 hf33 hg4 (fun y504 m505 B506 hJ507 hBB506 hby504 hR508 => ?_) (zfu 3601) 0 m501 (B) (hJ502.up (by omega)) (by omega) (by omega) (by omega) (Eq.trans (zs_eq hFv503) rfl)
  refine X.aload_n 43 i309_42 rfl rfl rfl ?_
  refine X.getF 46 i309_43 rfl rfl (by decide) rfl rfl ?_
  refine X.bipush 48 i309_46 rfl rfl (by decide) ?_
  refine X.lald 49 i309_48 rfl rfl (by decide) rfl (by omega) ?_
  have h509 := r45_12 hJ507 4
  refine X.lconst (y := 1) 50 i309_49 rfl rfl rfl ?_
  refine X.lcmp 51 i309_50 rfl rfl (fun z510 hz510 => ?_)
  have hK515 : ∀ (v : Int) , (0 ≤ v ∧ v ≤ 1) → (if (m505 4 45 12) = 1 then
      (1)
      else
      (0)) = v → X (EE s) d 309 59 [(0, zr 4 44), (1, zi y504)] [zi v] m505 Q := by
    intro v512 hv512 hT516
    refine X.istore_n 60 [(0, zr 4 44), (1, zi y504), (2, zi v512)] i309_59 rfl rfl rfl ?_
    refine X.aload_n 61 i309_60 rfl rfl rfl ?_
    refine X.getF 64 i309_61 rfl rfl (by decide) rfl rfl ?_
    refine X.aload_n 65 i309_64 rfl rfl rfl ?_
    refine X.getF 68 i309_65 rfl rfl (by decide) rfl rfl ?_
    refine X.calls 71 [zr 4 46, zr 4 45] [] [(0, zr 4 46), (1, zr 4 45)] i309_68 (by decide) rfl rfl (by omega) rfl rfl t261 (Nat.le_of_ble_eq_true rfl) (Nat.le_of_ble_eq_true rfl) rfl ?_
    refine c_cq_46_45 (S := (S.1, S.2.1, True, S.2.2.2)) (B := B506) (by omega) (hJ507) trivial hf21 hf22 hf23 hf24 hf25 hf26 hf27 hf28 hf29 hf30 hf31 hf32 hf33 hg4 (fun m517 hFv519 hJ518 => ?_)
    have wcm517 : m517 4 44 3 = m505 4 44 3 := by rw [hFv519]; exact z_cpy_o rfl
    show X (EE s) d 309 71 [(0, zr 4 44), (1, zi y504), (2, zi v512)] [] m517 _
    refine X.iload_n 72 i309_71 rfl rfl rfl ?_
    have hK524 : ∀ (v : Int) , ((-1) ≤ v ∧ v ≤ 3600) → (if v512 = 0 then
        ((-1))
        else
        (y504)) = v → X (EE s) d 309 80 [] [zi v] m517 Q := by
      intro v521 hv521 hT525
      refine X.reti i309_80 rfl t309 ?_
      exact hQ v521 m517 (by first | trivial | omega) (Eq.trans hR508 (Eq.trans (zn_eq hT516.symm) (Eq.trans (zs_eq hFv519) (Eq.trans (zn_eq hT525.symm) rfl)))) ((J.wk (p' := S.2.2.1) (q' := S.2.2.2) hJ518 (fun h => by first | trivial | exact h) (fun h => by first | trivial | exact h)).up (by omega)) 
    refine X.ifeq 79 75 i309_72 rfl rfl rfl (fun h520 => ?_) (fun h520 => ?_)
    · refine X.cut [] i309_79 rfl ?_
      refine X.iconst 80 i309_79 rfl rfl (by decide) ?_
      exact hK524 (-1) (by first | trivial | omega) (Eq.trans (if_pos h520) rfl)
    · refine X.iload_n 76 i309_75 rfl rfl rfl ?_
      refine X.goto 80 i309_76 rfl rfl ?_
      refine X.cut [] i309_80 rfl ?_
      exact hK524 y504 (by first | trivial | omega) (Eq.trans (if_neg h520) rfl)
  refine X.ifne 58 54 i309_51 rfl rfl rfl (fun h511 => ?_) (fun h511 => ?_)
  · have h511c : ¬ (m505 4 45 12) = 1 := by omega
    clear h511 hz510
    refine X.iconst 59 i309_58 rfl rfl (by decide) ?_
    exact hK515 0 (by first | trivial | omega) (Eq.trans (if_neg h511c) rfl)
  · have h511c : (m505 4 45 12) = 1 := by omega
    clear h511 hz510
    refine X.iconst 55 i309_54 rfl rfl (by decide) ?_
    refine X.goto 59 i309_55 rfl rfl ?_
    exact hK515 1 (by first | trivial | omega) (Eq.trans (if_pos h511c) rfl)
-- WorkMeter.lost
noncomputable def f186_1 (a1 : Int) (m : zM) : Int :=
  zn (if a1 < 0 then
  ((-1))
  else
  (if 4 ≤ a1 then
  ((-1))
  else
  ((m 0 29 a1)))) fun v503 =>
  v503
-- WorkMeter.lost
theorem c186_1 {s : Nat × (Nat → Int32)} {S : zS} {m0 m : zM} {B : Int} {d : Nat} {Q : Option zV → zM → Prop} (a1 : Int) (hd : 13 ≤ d) (hJ : J S m0 B m) (hB : B + 0 ≤ 1000000000) (ha1 : (-2147483648) ≤ a1 ∧ a1 ≤ 2147483647) (hQ : ∀ (v : Int), (True) → f186_1 a1 m = v → Q (some (zl v)) m) : X (EE s) d 186 0 [(0, zr 4 40), (1, zi a1)] [] m Q := by
  refine X.iload_n 1 i186_0 rfl rfl rfl ?_
  have hK506 : ∀ (v : Int) , (True) → (if a1 < 0 then
      ((-1))
      else
      (if 4 ≤ a1 then
      ((-1))
      else
      ((m 0 29 a1)))) = v → X (EE s) d 186 27 [] [zl v] m Q := by
    intro v503 hv503 hT507
    refine X.retl i186_27 rfl t186 ?_
    exact hQ v503 (by first | trivial | omega) (Eq.trans (zn_eq hT507.symm) rfl) 
  refine X.iflt 24 4 i186_1 rfl rfl rfl (fun h501 => ?_) (fun h501 => ?_)
  · refine X.cut [] i186_24 rfl ?_
    refine X.ldc2 27 i186_24 rfl rfl (by decide) ?_
    exact hK506 (-1) (by first | trivial | omega) (Eq.trans (if_pos h501) rfl)
  · refine X.iload_n 5 i186_4 rfl rfl rfl ?_
    refine X.iconst 6 i186_5 rfl rfl (by decide) ?_
    refine X.icmpge 24 9 i186_6 rfl rfl rfl (fun h502 => ?_) (fun h502 => ?_)
    · refine X.cut [] i186_24 rfl ?_
      refine X.ldc2 27 i186_24 rfl rfl (by decide) ?_
      exact hK506 (-1) (by first | trivial | omega) (Eq.trans (if_neg h501) (Eq.trans (if_pos h502) rfl))
    · refine X.aload_n 10 i186_9 rfl rfl rfl ?_
      refine X.getF 13 i186_10 rfl rfl (by decide) rfl rfl ?_
      refine X.getR 16 i186_13 rfl rfl (by decide) rfl rfl ?_
      refine X.getR 19 i186_16 rfl rfl (by decide) rfl rfl ?_
      refine X.iload_n 20 i186_19 rfl rfl rfl ?_
      refine X.lald 21 i186_20 rfl rfl (by decide) rfl (by omega) ?_
      refine X.goto 27 i186_21 rfl rfl ?_
      refine X.cut [] i186_27 rfl ?_
      exact hK506 (m 0 29 a1) (by first | trivial | omega) (Eq.trans (if_neg h501) (Eq.trans (if_neg h502) rfl))
-- WorkMeterModel.lost
noncomputable def f310_1 (a1 : Int) (m : zM) : Int :=
  if a1 < 0 then
  ((-1))
  else
  (if a1 ≤ 3 then
  ((m 4 45 (1607 + a1)))
  else
  ((-1)))
-- WorkMeterModel.lost
theorem c310_1 {s : Nat × (Nat → Int32)} {S : zS} {m0 m : zM} {B : Int} {d : Nat} {Q : Option zV → zM → Prop} (a1 : Int) (hd : 13 ≤ d) (hJ : J S m0 B m) (hB : B + 0 ≤ 1000000000) (ha1 : (-2147483648) ≤ a1 ∧ a1 ≤ 2147483647) (hQ : ∀ (v : Int), (True) → f310_1 a1 m = v → Q (some (zl v)) m) : X (EE s) d 310 0 [(0, zr 4 44), (1, zi a1)] [] m Q := by
  refine X.iload_n 1 i310_0 rfl rfl rfl ?_
  refine X.i2l 2 i310_1 rfl rfl ?_
  refine X.lconst (y := 0) 3 i310_2 rfl rfl rfl ?_
  refine X.ldc2 6 i310_3 rfl rfl (by decide) ?_
  refine X.calls 9 [zl a1, zl 0, zl 3] [] [(0, zl a1), (2, zl 0), (4, zl 3)] i310_6 (by decide) rfl rfl (by omega) rfl rfl t204 (Nat.le_of_ble_eq_true rfl) (Nat.le_of_ble_eq_true rfl) rfl ?_
  refine X.lload_n 1 i204_0 rfl rfl rfl ?_
  refine X.lload_n 2 i204_1 rfl rfl rfl ?_
  refine X.lcmp 3 i204_2 rfl rfl (fun z501 hz501 => ?_)
  refine X.iflt 17 6 i204_3 rfl rfl rfl (fun h502 => ?_) (fun h502 => ?_)
  · have h502c : a1 < 0 := by omega
    clear h502 hz501
    refine X.cut [] i204_17 rfl ?_
    refine X.iconst 18 i204_17 rfl rfl (by decide) ?_
    refine X.retz i204_18 rfl t204 (by omega) ?_
    show X (EE s) d 310 9 [(0, zr 4 44), (1, zi a1)] [zi 0] m _
    refine X.ifeq 25 12 i310_9 rfl rfl rfl (fun h503 => ?_) (fun h503 => (by exfalso; omega))
    refine X.cut [] i310_25 rfl ?_
    refine X.ldc2 28 i310_25 rfl rfl (by decide) ?_
    refine X.retl i310_28 rfl t310 ?_
    exact hQ (-1) (by first | trivial | omega) (Eq.trans (if_pos h502c) rfl) 
  · have h502c : ¬ a1 < 0 := by omega
    clear h502 hz501
    refine X.lload_n 7 i204_6 rfl rfl rfl ?_
    refine X.lload 9 i204_7 rfl rfl rfl ?_
    refine X.lcmp 10 i204_9 rfl rfl (fun z504 hz504 => ?_)
    refine X.ifgt 17 13 i204_10 rfl rfl rfl (fun h505 => ?_) (fun h505 => ?_)
    · have h505c : ¬ a1 ≤ 3 := by omega
      clear h505 hz504
      refine X.cut [] i204_17 rfl ?_
      refine X.iconst 18 i204_17 rfl rfl (by decide) ?_
      refine X.retz i204_18 rfl t204 (by omega) ?_
      show X (EE s) d 310 9 [(0, zr 4 44), (1, zi a1)] [zi 0] m _
      refine X.ifeq 25 12 i310_9 rfl rfl rfl (fun h506 => ?_) (fun h506 => (by exfalso; omega))
      refine X.cut [] i310_25 rfl ?_
      refine X.ldc2 28 i310_25 rfl rfl (by decide) ?_
      refine X.retl i310_28 rfl t310 ?_
      exact hQ (-1) (by first | trivial | omega) (Eq.trans (if_neg h502c) (Eq.trans (if_neg h505c) rfl)) 
    · have h505c : a1 ≤ 3 := by omega
      clear h505 hz504
      refine X.iconst 14 i204_13 rfl rfl (by decide) ?_
      refine X.goto 18 i204_14 rfl rfl ?_
      refine X.cut [] i204_18 rfl ?_
      refine X.retz i204_18 rfl t204 (by omega) ?_
      show X (EE s) d 310 9 [(0, zr 4 44), (1, zi a1)] [zi 1] m _
      refine X.ifeq 25 12 i310_9 rfl rfl rfl (fun h507 => (by exfalso; omega)) (fun h507 => ?_)
      refine X.aload_n 13 i310_12 rfl rfl rfl ?_
      refine X.getF 16 i310_13 rfl rfl (by decide) rfl rfl ?_
      refine X.sipush 19 i310_16 rfl rfl (by decide) ?_
      refine X.iload_n 20 i310_19 rfl rfl rfl ?_
      refine X.iadd 21 i310_20 rfl rfl (by omega) ?_
      refine X.lald 22 i310_21 rfl rfl (by decide) rfl (by omega) ?_
      refine X.goto 28 i310_22 rfl rfl ?_
      refine X.cut [] i310_28 rfl ?_
      refine X.retl i310_28 rfl t310 ?_
      exact hQ (m 4 45 (1607 + a1)) (by first | trivial | omega) (Eq.trans (if_neg h502c) (Eq.trans (if_pos h505c) rfl)) 
noncomputable def fl188_16_1_b (self : Int → Int → Int → Int → Int) (k71 : Int → Int) (g0 : Nat) (y1 : Int) (m : zM) (y2 y4 y6 y7 : Int) : Int :=
  if (min (m g0 27 2) 64) < (y7 + y1) then
  (k71 y6)
  else
  (zn (w64 ((m g0 28 ((((((m g0 27 2) - 1) - ((y7 + y1) - 1)) % 64) * 6) + 1)) - (m g0 28 ((((((m g0 27 2) - 1) - (y7 - 1)) % 64) * 6) + 1)))) fun z516 =>
  zn (w64 (y2 + z516)) fun z517 =>
  if z517 ≤ y4 then
  (self z517 y4 y6 (y7 + 1))
  else
  (self z517 z517 y7 (y7 + 1)))
noncomputable def fl188_16_1 (k71 : Int → Int) (g0 : Nat) (y1 : Int) (m : zM) : Nat → Int → Int → Int → Int → Int
  | 0 => fun y2 y4 y6 y7 => 0
  | n + 1 => fl188_16_1_b (fl188_16_1 k71 g0 y1 m n) k71 g0 y1 m
theorem l188_16_1 {s : Nat × (Nat → Int32)} {S : zS} {m0 : zM} {m : zM} {B : Int} {d : Nat} {Q : Option zV → zM → Prop} {R0 : Int} {k71 : Int → Int} (g0 : Nat) (y1 : Int) (hd : 14 ≤ d) (hJ : J S m0 B m) (hB9 : B ≤ 1000000000) (hy1 : 1 ≤ y1 ∧ y1 ≤ 64)
    (K71 : ∀ (x6 : Int) , (0 ≤ x6 ∧ x6 ≤ 64) → (1 ≤ y1) → (x6 + y1 ≤ m g0 27 2) → (0 ≤ x6) → (x6 + y1 ≤ 64) → R0 = k71 x6 → X (EE s) d 188 71 [(6, zi x6)] [] m Q) :
    ∀ (n : Nat) (y2 y4 y6 y7 : Int) , (0 ≤ y6 ∧ y6 ≤ 64) → (1 ≤ y7 ∧ y7 ≤ 64) → (1 ≤ y1) → (y6 + y1 ≤ m g0 27 2) → (0 ≤ y6) → (y6 + y1 ≤ 64) → 64 - y7 < (n : Int) → R0 = fl188_16_1 k71 g0 y1 m n y2 y4 y6 y7 → X (EE s) d 188 16 [(0, zr g0 27), (1, zi y1), (2, zl y2), (4, zl y4), (6, zi y6), (7, zi y7)] [] m Q := by
  intro n
  induction n with
  | zero =>
    intro y2 y4 y6 y7 hy6 hy7 hr0 hr1 hr2 hr3 hn hR
    exfalso
    omega
  | succ n ih =>
    intro y2 y4 y6 y7 hy6 hy7 hr0 hr1 hr2 hr3 hn hR
    replace hR : R0 = fl188_16_1_b (fl188_16_1 k71 g0 y1 m n) k71 g0 y1 m y2 y4 y6 y7 := hR
    refine X.iload 18 i188_16 rfl rfl rfl ?_
    refine X.iload_n 19 i188_18 rfl rfl rfl ?_
    refine X.iadd 20 i188_19 rfl rfl (by omega) ?_
    refine X.aload_n 21 i188_20 rfl rfl rfl ?_
    refine X.callv 24 [] [zi (y7 + y1)] [(0, zr g0 27)] i188_21 rfl (by decide) rfl rfl (by omega) rfl rfl (by decide) rfl t66 (Nat.le_of_ble_eq_true rfl) (Nat.le_of_ble_eq_true rfl) rfl ?_
    refine X.aload_n 1 i66_0 rfl rfl rfl ?_
    refine X.getI 4 2 i66_1 rfl rfl (by decide) rfl rfl rfl ?_
    have h514 := r27_2 hJ g0
    refine X.bipush 6 i66_4 rfl rfl (by decide) ?_
    refine X.minI 9 i66_6 rfl rfl (by omega) (Nat.le_of_ble_eq_true rfl) ?_
    refine X.reti i66_9 rfl t66 ?_
    show X (EE s) d 188 24 [(0, zr g0 27), (1, zi y1), (2, zl y2), (4, zl y4), (6, zi y6), (7, zi y7)] [zi (min (m g0 27 2) 64), zi (y7 + y1)] m _
    refine X.icmpgt 71 27 i188_24 rfl rfl rfl (fun h515 => ?_) (fun h515 => ?_)
    · refine X.cut [(6, zi y6)] i188_71 rfl ?_
      exact K71 y6 (by first | trivial | omega) (by omega) (by omega) (by omega) (by omega) (Eq.trans hR (Eq.trans (if_pos h515) rfl))
    · refine X.lload_n 28 i188_27 rfl rfl rfl ?_
      refine X.aload_n 29 i188_28 rfl rfl rfl ?_
      refine X.iload 31 i188_29 rfl rfl rfl ?_
      refine X.iload_n 32 i188_31 rfl rfl rfl ?_
      refine X.iadd 33 i188_32 rfl rfl (by omega) ?_
      refine X.iconst 34 i188_33 rfl rfl (by decide) ?_
      refine X.isub 35 i188_34 rfl rfl (by omega) ?_
      refine X.iconst 36 i188_35 rfl rfl (by decide) ?_
      refine X.callv 39 [zi ((y7 + y1) - 1), zi 1] [zl y2] [(0, zr g0 27), (1, zi ((y7 + y1) - 1)), (2, zi 1)] i188_36 rfl (by decide) rfl rfl (by omega) rfl rfl (by decide) rfl t67 (Nat.le_of_ble_eq_true rfl) (Nat.le_of_ble_eq_true rfl) rfl ?_
      refine X.aload_n 1 i67_0 rfl rfl rfl ?_
      refine X.getR 4 i67_1 rfl rfl (by decide) rfl rfl ?_
      refine X.aload_n 5 i67_4 rfl rfl rfl ?_
      refine X.getI 8 2 i67_5 rfl rfl (by decide) rfl rfl rfl ?_
      refine X.iconst 9 i67_8 rfl rfl (by decide) ?_
      refine X.isub 10 i67_9 rfl rfl (by omega) ?_
      refine X.iload_n 11 i67_10 rfl rfl rfl ?_
      refine X.isub 12 i67_11 rfl rfl (by omega) ?_
      refine X.bipush 14 i67_12 rfl rfl (by decide) ?_
      refine X.irem 15 i67_14 rfl rfl (by omega) ?_
      refine X.bipush 17 i67_15 rfl rfl (by decide) ?_
      refine X.imul 18 i67_17 rfl rfl (by omega) ?_
      refine X.iload_n 19 i67_18 rfl rfl rfl ?_
      refine X.iadd 20 i67_19 rfl rfl (by omega) ?_
      refine X.lald 21 i67_20 rfl rfl (by decide) rfl (by omega) ?_
      refine X.retl i67_21 rfl t67 ?_
      show X (EE s) d 188 39 [(0, zr g0 27), (1, zi y1), (2, zl y2), (4, zl y4), (6, zi y6), (7, zi y7)] [zl (m g0 28 ((((((m g0 27 2) - 1) - ((y7 + y1) - 1)) % 64) * 6) + 1)), zl y2] m _
      refine X.aload_n 40 i188_39 rfl rfl rfl ?_
      refine X.iload 42 i188_40 rfl rfl rfl ?_
      refine X.iconst 43 i188_42 rfl rfl (by decide) ?_
      refine X.isub 44 i188_43 rfl rfl (by omega) ?_
      refine X.iconst 45 i188_44 rfl rfl (by decide) ?_
      refine X.callv 48 [zi (y7 - 1), zi 1] [zl (m g0 28 ((((((m g0 27 2) - 1) - ((y7 + y1) - 1)) % 64) * 6) + 1)), zl y2] [(0, zr g0 27), (1, zi (y7 - 1)), (2, zi 1)] i188_45 rfl (by decide) rfl rfl (by omega) rfl rfl (by decide) rfl t67 (Nat.le_of_ble_eq_true rfl) (Nat.le_of_ble_eq_true rfl) rfl ?_
      refine X.aload_n 1 i67_0 rfl rfl rfl ?_
      refine X.getR 4 i67_1 rfl rfl (by decide) rfl rfl ?_
      refine X.aload_n 5 i67_4 rfl rfl rfl ?_
      refine X.getI 8 2 i67_5 rfl rfl (by decide) rfl rfl rfl ?_
      refine X.iconst 9 i67_8 rfl rfl (by decide) ?_
      refine X.isub 10 i67_9 rfl rfl (by omega) ?_
      refine X.iload_n 11 i67_10 rfl rfl rfl ?_
      refine X.isub 12 i67_11 rfl rfl (by omega) ?_
      refine X.bipush 14 i67_12 rfl rfl (by decide) ?_
      refine X.irem 15 i67_14 rfl rfl (by omega) ?_
      refine X.bipush 17 i67_15 rfl rfl (by decide) ?_
      refine X.imul 18 i67_17 rfl rfl (by omega) ?_
      refine X.iload_n 19 i67_18 rfl rfl rfl ?_
      refine X.iadd 20 i67_19 rfl rfl (by omega) ?_
      refine X.lald 21 i67_20 rfl rfl (by decide) rfl (by omega) ?_
      refine X.retl i67_21 rfl t67 ?_
      show X (EE s) d 188 48 [(0, zr g0 27), (1, zi y1), (2, zl y2), (4, zl y4), (6, zi y6), (7, zi y7)] [zl (m g0 28 ((((((m g0 27 2) - 1) - (y7 - 1)) % 64) * 6) + 1)), zl (m g0 28 ((((((m g0 27 2) - 1) - ((y7 + y1) - 1)) % 64) * 6) + 1)), zl y2] m _
      refine X.lsubW 49 i188_48 rfl rfl (fun z516 ez516 hz516 => ?_)
      refine X.laddW 50 i188_49 rfl rfl (fun z517 ez517 hz517 => ?_)
      refine X.lstore_n 51 [(0, zr g0 27), (1, zi y1), (2, zl z517), (4, zl y4), (6, zi y6), (7, zi y7)] i188_50 rfl rfl rfl ?_
      refine X.lload_n 52 i188_51 rfl rfl rfl ?_
      refine X.lload 54 i188_52 rfl rfl rfl ?_
      refine X.lcmp 55 i188_54 rfl rfl (fun z518 hz518 => ?_)
      refine X.ifle 65 58 i188_55 rfl rfl rfl (fun h519 => ?_) (fun h519 => ?_)
      · have h519c : z517 ≤ y4 := by omega
        clear h519 hz518
        refine X.iinc 68 [(0, zr g0 27), (1, zi y1), (2, zl z517), (4, zl y4), (6, zi y6), (7, zi (y7 + 1))] i188_65 rfl rfl rfl (by omega) rfl ?_
        refine X.goto 16 i188_68 rfl rfl ?_
        exact ih z517 y4 y6 (y7 + 1) (by omega) (by omega) (by omega) (by omega) (by omega) (by omega) (by omega) (Eq.trans hR (Eq.trans (if_neg h515) (Eq.trans (zn_eq ez516) (Eq.trans (zn_eq ez517) (Eq.trans (if_pos h519c) rfl)))))
      · have h519c : ¬ z517 ≤ y4 := by omega
        clear h519 hz518
        refine X.lload_n 59 i188_58 rfl rfl rfl ?_
        refine X.lstore 61 [(0, zr g0 27), (1, zi y1), (2, zl z517), (4, zl z517), (6, zi y6), (7, zi y7)] i188_59 rfl rfl rfl ?_
        refine X.iload 63 i188_61 rfl rfl rfl ?_
        refine X.istore 65 [(0, zr g0 27), (1, zi y1), (2, zl z517), (4, zl z517), (6, zi y7), (7, zi y7)] i188_63 rfl rfl rfl ?_
        refine X.iinc 68 [(0, zr g0 27), (1, zi y1), (2, zl z517), (4, zl z517), (6, zi y7), (7, zi (y7 + 1))] i188_65 rfl rfl rfl (by omega) rfl ?_
        refine X.goto 16 i188_68 rfl rfl ?_
        exact ih z517 z517 y7 (y7 + 1) (by omega) (by omega) (by omega) (by omega) (by omega) (by omega) (by omega) (Eq.trans hR (Eq.trans (if_neg h515) (Eq.trans (zn_eq ez516) (Eq.trans (zn_eq ez517) (Eq.trans (if_neg h519c) rfl)))))
-- WorkMeter$Load.bestRun
noncomputable def f188_1 (g0 : Nat) (a1 : Int) (m : zM) : Int :=
  zn (f68_1 g0 0 a1 m) fun v503 =>
  fl188_16_1 (fun y504 =>
  y504) g0 a1 m (zfu 64) v503 v503 0 1
-- WorkMeter$Load.bestRun
theorem c188_1 {s : Nat × (Nat → Int32)} {S : zS} {m0 m : zM} {B : Int} {d : Nat} {Q : Option zV → zM → Prop} (g0 : Nat) (a1 : Int) (hd : 14 ≤ d) (hJ : J S m0 B m) (hB : B + 0 ≤ 1000000000) (ha1 : 1 ≤ a1 ∧ a1 ≤ 64) (hp0 : 1 ≤ a1) (hp1 : a1 ≤ m g0 27 2) (hp2 : a1 ≤ 64) (hQ : ∀ (v : Int), (0 ≤ v ∧ v ≤ 64) → f188_1 g0 a1 m = v → (v + a1 ≤ m g0 27 2) → (0 ≤ v) → (v + a1 ≤ 64) → Q (some (zi v)) m) : X (EE s) d 188 0 [(0, zr g0 27), (1, zi a1)] [] m Q := by
  refine X.aload_n 1 i188_0 rfl rfl rfl ?_
  refine X.iconst 2 i188_1 rfl rfl (by decide) ?_
  refine X.iload_n 3 i188_2 rfl rfl rfl ?_
  refine X.callv 6 [zi 0, zi a1] [] [(0, zr g0 27), (1, zi 0), (2, zi a1)] i188_3 rfl (by decide) rfl rfl (by omega) rfl rfl (by decide) rfl t68 (Nat.le_of_ble_eq_true rfl) (Nat.le_of_ble_eq_true rfl) rfl ?_
  refine c68_1 (B := B) g0 0 a1 (by omega) (hJ.up (by omega)) (by omega) (by omega) (by omega) (by omega) (by omega) (fun v503 hv503 hFv503 => ?_)
  show X (EE s) d 188 6 [(0, zr g0 27), (1, zi a1)] [zl v503] m _
  refine X.lstore_n 7 [(0, zr g0 27), (1, zi a1), (2, zl v503)] i188_6 rfl rfl rfl ?_
  refine X.lload_n 8 i188_7 rfl rfl rfl ?_
  refine X.lstore 10 [(0, zr g0 27), (1, zi a1), (2, zl v503), (4, zl v503)] i188_8 rfl rfl rfl ?_
  refine X.iconst 11 i188_10 rfl rfl (by decide) ?_
  refine X.istore 13 [(0, zr g0 27), (1, zi a1), (2, zl v503), (4, zl v503), (6, zi 0)] i188_11 rfl rfl rfl ?_
  refine X.iconst 14 i188_13 rfl rfl (by decide) ?_
  refine X.istore 16 [(0, zr g0 27), (1, zi a1), (2, zl v503), (4, zl v503), (6, zi 0), (7, zi 1)] i188_14 rfl rfl rfl ?_
  have hz64 := zfu_eq 64
  refine l188_16_1 (s := s) (m := m) (B := B) (d := d) (R0 := (f188_1 g0 a1 m)) g0 a1  (by omega) (hJ.up (by omega)) (by omega) (by omega) (fun y504 hby504 hrlm505_0 hrlm505_1 hrlm505_2 hrlm505_3 hR508 => ?_) (zfu 64) v503 v503 0 1 (by omega) (by omega) (by omega) (by omega) (by omega) (by omega) (by omega) (Eq.trans (zn_eq hFv503.symm) rfl)
  refine X.iload 73 i188_71 rfl rfl rfl ?_
  refine X.reti i188_73 rfl t188 ?_
  exact hQ y504 (by first | trivial | omega) (Eq.trans hR508 rfl) (by omega) (by omega) (by omega)
-- WorkMeter.best
noncomputable def f187_1 (a1 a2 : Int) (m : zM) : Int :=
  if a1 < 1 then
  ((-1))
  else
  (if (min (m 0 27 2) 64) < a1 then
  ((-1))
  else
  (if a2 < 0 then
  ((-1))
  else
  (if a2 ≤ 1 then
  (zn (f188_1 0 a1 m) fun v508 =>
  zn (if a2 = 0 then
  (zn (f68_1 0 v508 a1 m) fun v512 =>
  v512)
  else
  ((m 0 28 ((((((m 0 27 2) - 1) - v508) % 64) * 6) + 0)))) fun v513 =>
  v513)
  else
  ((-1)))))
-- WorkMeter.best
theorem c187_1 {s : Nat × (Nat → Int32)} {S : zS} {m0 m : zM} {B : Int} {d : Nat} {Q : Option zV → zM → Prop} (a1 a2 : Int) (hd : 15 ≤ d) (hJ : J S m0 B m) (hB : B + 0 ≤ 1000000000) (ha1 : (-2147483648) ≤ a1 ∧ a1 ≤ 2147483647) (ha2 : (-2147483648) ≤ a2 ∧ a2 ≤ 2147483647) (hQ : ∀ (v : Int), (True) → f187_1 a1 a2 m = v → Q (some (zl v)) m) : X (EE s) d 187 0 [(0, zr 4 40), (1, zi a1), (2, zi a2)] [] m Q := by
  refine X.iload_n 1 i187_0 rfl rfl rfl ?_
  refine X.iconst 2 i187_1 rfl rfl (by decide) ?_
  refine X.icmplt 28 5 i187_2 rfl rfl rfl (fun h501 => ?_) (fun h501 => ?_)
  · refine X.cut [] i187_28 rfl ?_
    refine X.ldc2 31 i187_28 rfl rfl (by decide) ?_
    refine X.retl i187_31 rfl t187 ?_
    exact hQ (-1) (by first | trivial | omega) (Eq.trans (if_pos h501) rfl) 
  · refine X.iload_n 6 i187_5 rfl rfl rfl ?_
    refine X.aload_n 7 i187_6 rfl rfl rfl ?_
    refine X.getF 10 i187_7 rfl rfl (by decide) rfl rfl ?_
    refine X.getR 13 i187_10 rfl rfl (by decide) rfl rfl ?_
    refine X.callv 16 [] [zi a1] [(0, zr 0 27)] i187_13 rfl (by decide) rfl rfl (by omega) rfl rfl (by decide) rfl t66 (Nat.le_of_ble_eq_true rfl) (Nat.le_of_ble_eq_true rfl) rfl ?_
    refine X.aload_n 1 i66_0 rfl rfl rfl ?_
    refine X.getI 4 2 i66_1 rfl rfl (by decide) rfl rfl rfl ?_
    have h502 := r27_2 hJ 0
    refine X.bipush 6 i66_4 rfl rfl (by decide) ?_
    refine X.minI 9 i66_6 rfl rfl (by omega) (Nat.le_of_ble_eq_true rfl) ?_
    refine X.reti i66_9 rfl t66 ?_
    show X (EE s) d 187 16 [(0, zr 4 40), (1, zi a1), (2, zi a2)] [zi (min (m 0 27 2) 64), zi a1] m _
    refine X.icmpgt 28 19 i187_16 rfl rfl rfl (fun h503 => ?_) (fun h503 => ?_)
    · refine X.cut [] i187_28 rfl ?_
      refine X.ldc2 31 i187_28 rfl rfl (by decide) ?_
      refine X.retl i187_31 rfl t187 ?_
      exact hQ (-1) (by first | trivial | omega) (Eq.trans (if_neg h501) (Eq.trans (if_pos h503) rfl)) 
    · refine X.iload_n 20 i187_19 rfl rfl rfl ?_
      refine X.iflt 28 23 i187_20 rfl rfl rfl (fun h504 => ?_) (fun h504 => ?_)
      · refine X.cut [] i187_28 rfl ?_
        refine X.ldc2 31 i187_28 rfl rfl (by decide) ?_
        refine X.retl i187_31 rfl t187 ?_
        exact hQ (-1) (by first | trivial | omega) (Eq.trans (if_neg h501) (Eq.trans (if_neg h503) (Eq.trans (if_pos h504) rfl))) 
      · refine X.iload_n 24 i187_23 rfl rfl rfl ?_
        refine X.iconst 25 i187_24 rfl rfl (by decide) ?_
        refine X.icmple 32 28 i187_25 rfl rfl rfl (fun h505 => ?_) (fun h505 => ?_)
        · refine X.aload_n 33 i187_32 rfl rfl rfl ?_
          refine X.getF 36 i187_33 rfl rfl (by decide) rfl rfl ?_
          refine X.getR 39 i187_36 rfl rfl (by decide) rfl rfl ?_
          refine X.iload_n 40 i187_39 rfl rfl rfl ?_
          refine X.callv 43 [zi a1] [] [(0, zr 0 27), (1, zi a1)] i187_40 rfl (by decide) rfl rfl (by omega) rfl rfl (by decide) rfl t188 (Nat.le_of_ble_eq_true rfl) (Nat.le_of_ble_eq_true rfl) rfl ?_
          refine c188_1 (B := B) 0 a1 (by omega) (hJ.up (by omega)) (by omega) (by omega) (by omega) (by omega) (by omega) (fun v508 hv508 hFv508 hqv508_0 hqv508_1 hqv508_2 => ?_)
          show X (EE s) d 187 43 [(0, zr 4 40), (1, zi a1), (2, zi a2)] [zi v508] m _
          refine X.istore_n 44 [(0, zr 4 40), (1, zi a1), (2, zi a2), (3, zi v508)] i187_43 rfl rfl rfl ?_
          refine X.iload_n 45 i187_44 rfl rfl rfl ?_
          have hK516 : ∀ (v : Int) , (True) → (if a2 = 0 then
              (zn (f68_1 0 v508 a1 m) fun v512 =>
              v512)
              else
              ((m 0 28 ((((((m 0 27 2) - 1) - v508) % 64) * 6) + 0)))) = v → X (EE s) d 187 75 [] [zl v] m Q := by
            intro v513 hv513 hT517
            refine X.retl i187_75 rfl t187 ?_
            exact hQ v513 (by first | trivial | omega) (Eq.trans (if_neg h501) (Eq.trans (if_neg h503) (Eq.trans (if_neg h504) (Eq.trans (if_pos h505) (Eq.trans (zn_eq hFv508.symm) (Eq.trans (zn_eq hT517.symm) rfl)))))) 
          refine X.ifne 63 48 i187_45 rfl rfl rfl (fun h509 => ?_) (fun h509 => ?_)
          · refine X.cut [(0, zr 4 40), (3, zi v508)] i187_63 rfl ?_
            refine X.aload_n 64 i187_63 rfl rfl rfl ?_
            refine X.getF 67 i187_64 rfl rfl (by decide) rfl rfl ?_
            refine X.getR 70 i187_67 rfl rfl (by decide) rfl rfl ?_
            refine X.iload_n 71 i187_70 rfl rfl rfl ?_
            refine X.iconst 72 i187_71 rfl rfl (by decide) ?_
            refine X.callv 75 [zi v508, zi 0] [] [(0, zr 0 27), (1, zi v508), (2, zi 0)] i187_72 rfl (by decide) rfl rfl (by omega) rfl rfl (by decide) rfl t67 (Nat.le_of_ble_eq_true rfl) (Nat.le_of_ble_eq_true rfl) rfl ?_
            refine X.aload_n 1 i67_0 rfl rfl rfl ?_
            refine X.getR 4 i67_1 rfl rfl (by decide) rfl rfl ?_
            refine X.aload_n 5 i67_4 rfl rfl rfl ?_
            refine X.getI 8 2 i67_5 rfl rfl (by decide) rfl rfl rfl ?_
            refine X.iconst 9 i67_8 rfl rfl (by decide) ?_
            refine X.isub 10 i67_9 rfl rfl (by omega) ?_
            refine X.iload_n 11 i67_10 rfl rfl rfl ?_
            refine X.isub 12 i67_11 rfl rfl (by omega) ?_
            refine X.bipush 14 i67_12 rfl rfl (by decide) ?_
            refine X.irem 15 i67_14 rfl rfl (by omega) ?_
            refine X.bipush 17 i67_15 rfl rfl (by decide) ?_
            refine X.imul 18 i67_17 rfl rfl (by omega) ?_
            refine X.iload_n 19 i67_18 rfl rfl rfl ?_
            refine X.iadd 20 i67_19 rfl rfl (by omega) ?_
            refine X.lald 21 i67_20 rfl rfl (by decide) rfl (by omega) ?_
            refine X.retl i67_21 rfl t67 ?_
            show X (EE s) d 187 75 [(0, zr 4 40), (3, zi v508)] [zl (m 0 28 ((((((m 0 27 2) - 1) - v508) % 64) * 6) + 0))] m _
            refine X.cut [] i187_75 rfl ?_
            exact hK516 (m 0 28 ((((((m 0 27 2) - 1) - v508) % 64) * 6) + 0)) (by first | trivial | omega) (Eq.trans (if_neg h509) rfl)
          · refine X.aload_n 49 i187_48 rfl rfl rfl ?_
            refine X.getF 52 i187_49 rfl rfl (by decide) rfl rfl ?_
            refine X.getR 55 i187_52 rfl rfl (by decide) rfl rfl ?_
            refine X.iload_n 56 i187_55 rfl rfl rfl ?_
            refine X.iload_n 57 i187_56 rfl rfl rfl ?_
            refine X.callv 60 [zi v508, zi a1] [] [(0, zr 0 27), (1, zi v508), (2, zi a1)] i187_57 rfl (by decide) rfl rfl (by omega) rfl rfl (by decide) rfl t68 (Nat.le_of_ble_eq_true rfl) (Nat.le_of_ble_eq_true rfl) rfl ?_
            refine c68_1 (B := B) 0 v508 a1 (by omega) (hJ.up (by omega)) (by omega) (by omega) (by omega) (by omega) (by omega) (fun v512 hv512 hFv512 => ?_)
            show X (EE s) d 187 60 [(0, zr 4 40), (1, zi a1), (2, zi a2), (3, zi v508)] [zl v512] m _
            refine X.goto 75 i187_60 rfl rfl ?_
            refine X.cut [] i187_75 rfl ?_
            exact hK516 v512 (by first | trivial | omega) (Eq.trans (if_pos h509) (Eq.trans (zn_eq hFv512.symm) rfl))
        · refine X.cut [] i187_28 rfl ?_
          refine X.ldc2 31 i187_28 rfl rfl (by decide) ?_
          refine X.retl i187_31 rfl t187 ?_
          exact hQ (-1) (by first | trivial | omega) (Eq.trans (if_neg h501) (Eq.trans (if_neg h503) (Eq.trans (if_neg h504) (Eq.trans (if_neg h505) rfl)))) 
-- WorkMeterModel.line
theorem c234_8 {s : Nat × (Nat → Int32)} {S : zS} {m0 m : zM} {B : Int} {d : Nat} {Q : Option zV → zM → Prop} (a1 a2 : Int) (hd : 13 ≤ d) (hJ : J S m0 B m) (hB : B + 0 ≤ 1000000000) (ha1 : 0 ≤ a1 ∧ a1 ≤ 127) (ha2 : 1 ≤ a2 ∧ a2 ≤ 1) (hQ : ∀ (v : Int), (True) → f234_1 a1 a2 m = v → Q (some (zl v)) m) : X (EE s) d 234 0 [(0, zr 4 44), (1, zi a1), (2, zi a2)] [] m Q := by
  refine X.aload_n 1 i234_0 rfl rfl rfl ?_
  refine X.getF 4 i234_1 rfl rfl (by decide) rfl rfl ?_
  refine X.sipush 7 i234_4 rfl rfl (by decide) ?_
  refine X.bipush 9 i234_7 rfl rfl (by decide) ?_
  refine X.iload_n 10 i234_9 rfl rfl rfl ?_
  refine X.imul 11 i234_10 rfl rfl (by omega) ?_
  refine X.iadd 12 i234_11 rfl rfl (by omega) ?_
  refine X.iload_n 13 i234_12 rfl rfl rfl ?_
  refine X.iadd 14 i234_13 rfl rfl (by omega) ?_
  refine X.lald 15 i234_14 rfl rfl (by decide) rfl (by omega) ?_
  refine X.retl i234_15 rfl t234 ?_
  exact hQ (m 4 45 ((788 + (6 * a1)) + a2)) (by first | trivial | omega) rfl 
noncomputable def fl311_55_1_b (self : Int → Int → Int) (k82 : Int → Int) (y1 y2 y3 y5 y6 : Int) (m : zM) (y7 y9 : Int) : Int :=
  if y1 ≤ y9 then
  (k82 y7)
  else
  (zn (f234_1 (y6 + y9) 1 m) fun v514 =>
  zn (w64 (y7 + v514)) fun z515 =>
  self z515 (y9 + 1))
noncomputable def fl311_55_1 (k82 : Int → Int) (y1 y2 y3 y5 y6 : Int) (m : zM) : Nat → Int → Int → Int
  | 0 => fun y7 y9 => 0
  | n + 1 => fl311_55_1_b (fl311_55_1 k82 y1 y2 y3 y5 y6 m n) k82 y1 y2 y3 y5 y6 m
theorem l311_55_1 {s : Nat × (Nat → Int32)} {S : zS} {m0 : zM} {m : zM} {B : Int} {d : Nat} {Q : Option zV → zM → Prop} {R0 : Int} {k82 : Int → Int} (y1 y2 y3 y5 y6 : Int) (hd : 14 ≤ d) (hJ : J S m0 B m) (hB9 : B ≤ 1000000000) (hy1 : 1 ≤ y1 ∧ y1 ≤ 64) (hy2 : 0 ≤ y2 ∧ y2 ≤ 1) (hy3 : (-1) ≤ y3 ∧ y3 ≤ (-1)) (hy5 : 0 ≤ y5 ∧ y5 ≤ 0) (hy6 : 0 ≤ y6 ∧ y6 ≤ 64)
    (K82 : ∀ (x7 : Int) , (True) → (y6 + y1 ≤ 64) → R0 = k82 x7 → X (EE s) d 311 82 [(0, zr 4 44), (1, zi y1), (2, zi y2), (3, zl y3), (5, zi y5), (6, zi y6), (7, zl x7)] [] m Q) :
    ∀ (n : Nat) (y7 y9 : Int) , (0 ≤ y9 ∧ y9 ≤ 64) → (y6 + y1 ≤ 64) → 64 - y9 < (n : Int) → R0 = fl311_55_1 k82 y1 y2 y3 y5 y6 m n y7 y9 → X (EE s) d 311 55 [(0, zr 4 44), (1, zi y1), (2, zi y2), (3, zl y3), (5, zi y5), (6, zi y6), (7, zl y7), (9, zi y9)] [] m Q := by
  intro n
  induction n with
  | zero =>
    intro y7 y9 hy9 hr0 hn hR
    exfalso
    omega
  | succ n ih =>
    intro y7 y9 hy9 hr0 hn hR
    replace hR : R0 = fl311_55_1_b (fl311_55_1 k82 y1 y2 y3 y5 y6 m n) k82 y1 y2 y3 y5 y6 m y7 y9 := hR
    refine X.iload 57 i311_55 rfl rfl rfl ?_
    refine X.iload_n 58 i311_57 rfl rfl rfl ?_
    refine X.icmpge 82 61 i311_58 rfl rfl rfl (fun h511 => ?_) (fun h511 => ?_)
    · refine X.cut [(0, zr 4 44), (1, zi y1), (2, zi y2), (3, zl y3), (5, zi y5), (6, zi y6), (7, zl y7)] i311_82 rfl ?_
      exact K82 y7 (by first | trivial | omega) (by omega) (Eq.trans hR (Eq.trans (if_pos h511) rfl))
    · refine X.lload 63 i311_61 rfl rfl rfl ?_
      refine X.aload_n 64 i311_63 rfl rfl rfl ?_
      refine X.iload 66 i311_64 rfl rfl rfl ?_
      refine X.iload 68 i311_66 rfl rfl rfl ?_
      refine X.iadd 69 i311_68 rfl rfl (by omega) ?_
      refine X.iconst 70 i311_69 rfl rfl (by decide) ?_
      refine X.callv 73 [zi (y6 + y9), zi 1] [zl y7] [(0, zr 4 44), (1, zi (y6 + y9)), (2, zi 1)] i311_70 rfl (by decide) rfl rfl (by omega) rfl rfl (by decide) rfl t234 (Nat.le_of_ble_eq_true rfl) (Nat.le_of_ble_eq_true rfl) rfl ?_
      refine c234_8 (B := B)  (y6 + y9) 1 (by omega) (hJ.up (by omega)) (by omega) (by omega) (by omega) (fun v514 hv514 hFv514 => ?_)
      show X (EE s) d 311 73 [(0, zr 4 44), (1, zi y1), (2, zi y2), (3, zl y3), (5, zi y5), (6, zi y6), (7, zl y7), (9, zi y9)] [zl v514, zl y7] m _
      refine X.laddW 74 i311_73 rfl rfl (fun z515 ez515 hz515 => ?_)
      refine X.lstore 76 [(0, zr 4 44), (1, zi y1), (2, zi y2), (3, zl y3), (5, zi y5), (6, zi y6), (7, zl z515), (9, zi y9)] i311_74 rfl rfl rfl ?_
      refine X.iinc 79 [(0, zr 4 44), (1, zi y1), (2, zi y2), (3, zl y3), (5, zi y5), (6, zi y6), (7, zl z515), (9, zi (y9 + 1))] i311_76 rfl rfl rfl (by omega) rfl ?_
      refine X.goto 55 i311_79 rfl rfl ?_
      exact ih z515 (y9 + 1) (by omega) (by omega) (by omega) (Eq.trans hR (Eq.trans (if_neg h511) (Eq.trans (zn_eq hFv514.symm) (Eq.trans (zn_eq ez515) rfl))))
theorem l311_55_2 {s : Nat × (Nat → Int32)} {S : zS} {m0 : zM} {m : zM} {B : Int} {d : Nat} {Q : Option zV → zM → Prop} {R0 : Int} {k82 : Int → Int} (y1 y2 y3 y5 y6 : Int) (hd : 14 ≤ d) (hJ : J S m0 B m) (hB9 : B ≤ 1000000000) (hy1 : 1 ≤ y1 ∧ y1 ≤ 64) (hy2 : 0 ≤ y2 ∧ y2 ≤ 1) (hy3 : (-1) ≤ y3) (hy5 : 0 ≤ y5 ∧ y5 ≤ 63) (hy6 : 0 ≤ y6 ∧ y6 ≤ 64)
    (K82 : ∀ (x7 : Int) , (True) → (y6 + y1 ≤ 64) → R0 = k82 x7 → X (EE s) d 311 82 [(0, zr 4 44), (1, zi y1), (2, zi y2), (3, zl y3), (5, zi y5), (6, zi y6), (7, zl x7)] [] m Q) :
    ∀ (n : Nat) (y7 y9 : Int) , (0 ≤ y9 ∧ y9 ≤ 64) → (y6 + y1 ≤ 64) → 64 - y9 < (n : Int) → R0 = fl311_55_1 k82 y1 y2 y3 y5 y6 m n y7 y9 → X (EE s) d 311 55 [(0, zr 4 44), (1, zi y1), (2, zi y2), (3, zl y3), (5, zi y5), (6, zi y6), (7, zl y7), (9, zi y9)] [] m Q := by
  intro n
  induction n with
  | zero =>
    intro y7 y9 hy9 hr0 hn hR
    exfalso
    omega
  | succ n ih =>
    intro y7 y9 hy9 hr0 hn hR
    replace hR : R0 = fl311_55_1_b (fl311_55_1 k82 y1 y2 y3 y5 y6 m n) k82 y1 y2 y3 y5 y6 m y7 y9 := hR
    refine X.iload 57 i311_55 rfl rfl rfl ?_
    refine X.iload_n 58 i311_57 rfl rfl rfl ?_
    refine X.icmpge 82 61 i311_58 rfl rfl rfl (fun h511 => ?_) (fun h511 => ?_)
    · refine X.cut [(0, zr 4 44), (1, zi y1), (2, zi y2), (3, zl y3), (5, zi y5), (6, zi y6), (7, zl y7)] i311_82 rfl ?_
      exact K82 y7 (by first | trivial | omega) (by omega) (Eq.trans hR (Eq.trans (if_pos h511) rfl))
    · refine X.lload 63 i311_61 rfl rfl rfl ?_
      refine X.aload_n 64 i311_63 rfl rfl rfl ?_
      refine X.iload 66 i311_64 rfl rfl rfl ?_
      refine X.iload 68 i311_66 rfl rfl rfl ?_
      refine X.iadd 69 i311_68 rfl rfl (by omega) ?_
      refine X.iconst 70 i311_69 rfl rfl (by decide) ?_
      refine X.callv 73 [zi (y6 + y9), zi 1] [zl y7] [(0, zr 4 44), (1, zi (y6 + y9)), (2, zi 1)] i311_70 rfl (by decide) rfl rfl (by omega) rfl rfl (by decide) rfl t234 (Nat.le_of_ble_eq_true rfl) (Nat.le_of_ble_eq_true rfl) rfl ?_
      refine c234_8 (B := B)  (y6 + y9) 1 (by omega) (hJ.up (by omega)) (by omega) (by omega) (by omega) (fun v514 hv514 hFv514 => ?_)
      show X (EE s) d 311 73 [(0, zr 4 44), (1, zi y1), (2, zi y2), (3, zl y3), (5, zi y5), (6, zi y6), (7, zl y7), (9, zi y9)] [zl v514, zl y7] m _
      refine X.laddW 74 i311_73 rfl rfl (fun z515 ez515 hz515 => ?_)
      refine X.lstore 76 [(0, zr 4 44), (1, zi y1), (2, zi y2), (3, zl y3), (5, zi y5), (6, zi y6), (7, zl z515), (9, zi y9)] i311_74 rfl rfl rfl ?_
      refine X.iinc 79 [(0, zr 4 44), (1, zi y1), (2, zi y2), (3, zl y3), (5, zi y5), (6, zi y6), (7, zl z515), (9, zi (y9 + 1))] i311_76 rfl rfl rfl (by omega) rfl ?_
      refine X.goto 55 i311_79 rfl rfl ?_
      exact ih z515 (y9 + 1) (by omega) (by omega) (by omega) (Eq.trans hR (Eq.trans (if_neg h511) (Eq.trans (zn_eq hFv514.symm) (Eq.trans (zn_eq ez515) rfl))))
theorem l311_55_3 {s : Nat × (Nat → Int32)} {S : zS} {m0 : zM} {m : zM} {B : Int} {d : Nat} {Q : Option zV → zM → Prop} {R0 : Int} {k82 : Int → Int} (y1 y2 y3 y5 y6 : Int) (hd : 14 ≤ d) (hJ : J S m0 B m) (hB9 : B ≤ 1000000000) (hy1 : 1 ≤ y1 ∧ y1 ≤ 64) (hy2 : 0 ≤ y2 ∧ y2 ≤ 1) (hy3 : (-1) ≤ y3) (hy5 : 0 ≤ y5 ∧ y5 ≤ 63) (hy6 : 0 ≤ y6 ∧ y6 ≤ 64)
    (K82 : ∀ (x7 : Int) , (True) → (y6 + y1 ≤ 64) → R0 = k82 x7 → X (EE s) d 311 82 [(0, zr 4 44), (1, zi y1), (2, zi y2), (3, zl y3), (5, zi y5), (6, zi y6), (7, zl x7)] [] m Q) :
    ∀ (n : Nat) (y7 y9 : Int) , (0 ≤ y9 ∧ y9 ≤ 64) → (y6 + y1 ≤ 64) → 64 - y9 < (n : Int) → R0 = fl311_55_1 k82 y1 y2 y3 y5 y6 m n y7 y9 → X (EE s) d 311 55 [(0, zr 4 44), (1, zi y1), (2, zi y2), (3, zl y3), (5, zi y5), (6, zi y6), (7, zl y7), (9, zi y9)] [] m Q := by
  intro n
  induction n with
  | zero =>
    intro y7 y9 hy9 hr0 hn hR
    exfalso
    omega
  | succ n ih =>
    intro y7 y9 hy9 hr0 hn hR
    replace hR : R0 = fl311_55_1_b (fl311_55_1 k82 y1 y2 y3 y5 y6 m n) k82 y1 y2 y3 y5 y6 m y7 y9 := hR
    refine X.iload 57 i311_55 rfl rfl rfl ?_
    refine X.iload_n 58 i311_57 rfl rfl rfl ?_
    refine X.icmpge 82 61 i311_58 rfl rfl rfl (fun h511 => ?_) (fun h511 => ?_)
    · refine X.cut [(0, zr 4 44), (1, zi y1), (2, zi y2), (3, zl y3), (5, zi y5), (6, zi y6), (7, zl y7)] i311_82 rfl ?_
      exact K82 y7 (by first | trivial | omega) (by omega) (Eq.trans hR (Eq.trans (if_pos h511) rfl))
    · refine X.lload 63 i311_61 rfl rfl rfl ?_
      refine X.aload_n 64 i311_63 rfl rfl rfl ?_
      refine X.iload 66 i311_64 rfl rfl rfl ?_
      refine X.iload 68 i311_66 rfl rfl rfl ?_
      refine X.iadd 69 i311_68 rfl rfl (by omega) ?_
      refine X.iconst 70 i311_69 rfl rfl (by decide) ?_
      refine X.callv 73 [zi (y6 + y9), zi 1] [zl y7] [(0, zr 4 44), (1, zi (y6 + y9)), (2, zi 1)] i311_70 rfl (by decide) rfl rfl (by omega) rfl rfl (by decide) rfl t234 (Nat.le_of_ble_eq_true rfl) (Nat.le_of_ble_eq_true rfl) rfl ?_
      refine c234_8 (B := B)  (y6 + y9) 1 (by omega) (hJ.up (by omega)) (by omega) (by omega) (by omega) (fun v514 hv514 hFv514 => ?_)
      show X (EE s) d 311 73 [(0, zr 4 44), (1, zi y1), (2, zi y2), (3, zl y3), (5, zi y5), (6, zi y6), (7, zl y7), (9, zi y9)] [zl v514, zl y7] m _
      refine X.laddW 74 i311_73 rfl rfl (fun z515 ez515 hz515 => ?_)
      refine X.lstore 76 [(0, zr 4 44), (1, zi y1), (2, zi y2), (3, zl y3), (5, zi y5), (6, zi y6), (7, zl z515), (9, zi y9)] i311_74 rfl rfl rfl ?_
      refine X.iinc 79 [(0, zr 4 44), (1, zi y1), (2, zi y2), (3, zl y3), (5, zi y5), (6, zi y6), (7, zl z515), (9, zi (y9 + 1))] i311_76 rfl rfl rfl (by omega) rfl ?_
      refine X.goto 55 i311_79 rfl rfl ?_
      exact ih z515 (y9 + 1) (by omega) (by omega) (by omega) (Eq.trans hR (Eq.trans (if_neg h511) (Eq.trans (zn_eq hFv514.symm) (Eq.trans (zn_eq ez515) rfl))))
noncomputable def fl311_38_1_b (self : Int → Int → Int → Int) (k109 : Int → Int → Int) (y1 y2 : Int) (m : zM) (y3 y5 y6 : Int) : Int :=
  zn (f235_1 m) fun v528 =>
  if v528 < (y6 + y1) then
  (k109 y3 y5)
  else
  (fl311_55_1 (fun y530 =>
  if y530 < y3 then
  (self y3 y5 (y6 + 1))
  else
  (self y530 ((y6 + y1) - 1) (y6 + 1))) y1 y2 y3 y5 y6 m (zfu 65) 0 0)
noncomputable def fl311_38_1 (k109 : Int → Int → Int) (y1 y2 : Int) (m : zM) : Nat → Int → Int → Int → Int
  | 0 => fun y3 y5 y6 => 0
  | n + 1 => fl311_38_1_b (fl311_38_1 k109 y1 y2 m n) k109 y1 y2 m
theorem l311_38_1 {s : Nat × (Nat → Int32)} {S : zS} {m0 : zM} {m : zM} {B : Int} {d : Nat} {Q : Option zV → zM → Prop} {R0 : Int} {k109 : Int → Int → Int} (y1 y2 : Int) (hd : 14 ≤ d) (hJ : J S m0 B m) (hB9 : B ≤ 1000000000) (hy1 : 1 ≤ y1 ∧ y1 ≤ 64) (hy2 : 0 ≤ y2 ∧ y2 ≤ 1)
    (K109 : ∀ (x3 x5 : Int) , ((-1) ≤ x3) → (0 ≤ x5 ∧ x5 ≤ 63) → R0 = k109 x3 x5 → X (EE s) d 311 109 [(0, zr 4 44), (2, zi y2), (3, zl x3), (5, zi x5)] [] m Q) :
    ∀ (n : Nat) (y3 y5 y6 : Int) , ((-1) ≤ y3) → (0 ≤ y5 ∧ y5 ≤ 63) → (0 ≤ y6 ∧ y6 ≤ 64) → 64 - y6 < (n : Int) → R0 = fl311_38_1 k109 y1 y2 m n y3 y5 y6 → X (EE s) d 311 38 [(0, zr 4 44), (1, zi y1), (2, zi y2), (3, zl y3), (5, zi y5), (6, zi y6)] [] m Q := by
  intro n
  induction n with
  | zero =>
    intro y3 y5 y6 hy3 hy5 hy6 hn hR
    exfalso
    omega
  | succ n ih =>
    intro y3 y5 y6 hy3 hy5 hy6 hn hR
    replace hR : R0 = fl311_38_1_b (fl311_38_1 k109 y1 y2 m n) k109 y1 y2 m y3 y5 y6 := hR
    refine X.iload 40 i311_38 rfl rfl rfl ?_
    refine X.iload_n 41 i311_40 rfl rfl rfl ?_
    refine X.iadd 42 i311_41 rfl rfl (by omega) ?_
    refine X.aload_n 43 i311_42 rfl rfl rfl ?_
    refine X.callv 46 [] [zi (y6 + y1)] [(0, zr 4 44)] i311_43 rfl (by decide) rfl rfl (by omega) rfl rfl (by decide) rfl t235 (Nat.le_of_ble_eq_true rfl) (Nat.le_of_ble_eq_true rfl) rfl ?_
    refine c235_1 (B := B)   (by omega) (hJ.up (by omega)) (by omega)  (fun v528 hv528 hFv528 => ?_)
    show X (EE s) d 311 46 [(0, zr 4 44), (1, zi y1), (2, zi y2), (3, zl y3), (5, zi y5), (6, zi y6)] [zi v528, zi (y6 + y1)] m _
    refine X.icmpgt 109 49 i311_46 rfl rfl rfl (fun h529 => ?_) (fun h529 => ?_)
    · refine X.cut [(0, zr 4 44), (2, zi y2), (3, zl y3), (5, zi y5)] i311_109 rfl ?_
      exact K109 y3 y5 (by first | trivial | omega) (by first | trivial | omega) (Eq.trans hR (Eq.trans (zn_eq hFv528.symm) (Eq.trans (if_pos h529) rfl)))
    · refine X.lconst (y := 0) 50 i311_49 rfl rfl rfl ?_
      refine X.lstore 52 [(0, zr 4 44), (1, zi y1), (2, zi y2), (3, zl y3), (5, zi y5), (6, zi y6), (7, zl 0)] i311_50 rfl rfl rfl ?_
      refine X.iconst 53 i311_52 rfl rfl (by decide) ?_
      refine X.istore 55 [(0, zr 4 44), (1, zi y1), (2, zi y2), (3, zl y3), (5, zi y5), (6, zi y6), (7, zl 0), (9, zi 0)] i311_53 rfl rfl rfl ?_
      have hz65 := zfu_eq 65
      refine l311_55_3 (s := s) (m := m) (B := B) (d := d)  y1 y2 y3 y5 y6  (by omega) (hJ.up (by omega)) (by omega) (by omega) (by omega) (by omega) (by omega) (by omega) (fun y530 hby530 hrlm531_0 hR534 => ?_) (zfu 65) 0 0 (by omega) (by omega) (by omega) (Eq.trans hR (Eq.trans (zn_eq hFv528.symm) (Eq.trans (if_neg h529) rfl)))
      refine X.lload 84 i311_82 rfl rfl rfl ?_
      refine X.lload_n 85 i311_84 rfl rfl rfl ?_
      refine X.lcmp 86 i311_85 rfl rfl (fun z535 hz535 => ?_)
      refine X.ifge 92 89 i311_86 rfl rfl rfl (fun h536 => ?_) (fun h536 => ?_)
      · have h536c : ¬ y530 < y3 := by omega
        clear h536 hz535
        refine X.cut [(0, zr 4 44), (1, zi y1), (2, zi y2), (6, zi y6), (7, zl y530)] i311_92 rfl ?_
        refine X.lload 94 i311_92 rfl rfl rfl ?_
        refine X.lstore_n 95 [(0, zr 4 44), (1, zi y1), (2, zi y2), (3, zl y530), (6, zi y6), (7, zl y530)] i311_94 rfl rfl rfl ?_
        refine X.iload 97 i311_95 rfl rfl rfl ?_
        refine X.iload_n 98 i311_97 rfl rfl rfl ?_
        refine X.iadd 99 i311_98 rfl rfl (by omega) ?_
        refine X.iconst 100 i311_99 rfl rfl (by decide) ?_
        refine X.isub 101 i311_100 rfl rfl (by omega) ?_
        refine X.istore 103 [(0, zr 4 44), (1, zi y1), (2, zi y2), (3, zl y530), (5, zi ((y6 + y1) - 1)), (6, zi y6), (7, zl y530)] i311_101 rfl rfl rfl ?_
        refine X.cut [(0, zr 4 44), (1, zi y1), (2, zi y2), (3, zl y530), (5, zi ((y6 + y1) - 1)), (6, zi y6)] i311_103 rfl ?_
        refine X.iinc 106 [(0, zr 4 44), (1, zi y1), (2, zi y2), (3, zl y530), (5, zi ((y6 + y1) - 1)), (6, zi (y6 + 1))] i311_103 rfl rfl rfl (by omega) rfl ?_
        refine X.goto 38 i311_106 rfl rfl ?_
        exact ih y530 ((y6 + y1) - 1) (y6 + 1) (by omega) (by omega) (by omega) (by omega) (Eq.trans hR534 (Eq.trans (if_neg h536c) rfl))
      · have h536c : y530 < y3 := by omega
        clear h536 hz535
        refine X.goto 103 i311_89 rfl rfl ?_
        refine X.cut [(0, zr 4 44), (1, zi y1), (2, zi y2), (3, zl y3), (5, zi y5), (6, zi y6)] i311_103 rfl ?_
        refine X.iinc 106 [(0, zr 4 44), (1, zi y1), (2, zi y2), (3, zl y3), (5, zi y5), (6, zi (y6 + 1))] i311_103 rfl rfl rfl (by omega) rfl ?_
        refine X.goto 38 i311_106 rfl rfl ?_
        exact ih y3 y5 (y6 + 1) (by omega) (by omega) (by omega) (by omega) (Eq.trans hR534 (Eq.trans (if_pos h536c) rfl))
-- WorkMeterModel.best
noncomputable def f311_1 (a1 a2 : Int) (m : zM) : Int :=
  zn (f235_1 m) fun v503 =>
  if a1 < 1 then
  ((-1))
  else
  (if a1 ≤ v503 then
  (if a2 < 0 then
  ((-1))
  else
  (if a2 ≤ 1 then
  (fl311_38_1 (fun y518 y519 =>
  zn (if a2 = 0 then
  (y518)
  else
  (zn (f234_1 y519 0 m) fun v527 =>
  v527)) fun v528 =>
  v528) a1 a2 m (zfu 65) (-1) 0 0)
  else
  ((-1))))
  else
  ((-1)))
-- WorkMeterModel.best
theorem c311_1 {s : Nat × (Nat → Int32)} {S : zS} {m0 m : zM} {B : Int} {d : Nat} {Q : Option zV → zM → Prop} (a1 a2 : Int) (hd : 14 ≤ d) (hJ : J S m0 B m) (hB : B + 0 ≤ 1000000000) (ha1 : (-2147483648) ≤ a1 ∧ a1 ≤ 2147483647) (ha2 : (-2147483648) ≤ a2 ∧ a2 ≤ 2147483647) (hQ : ∀ (v : Int), (True) → f311_1 a1 a2 m = v → Q (some (zl v)) m) : X (EE s) d 311 0 [(0, zr 4 44), (1, zi a1), (2, zi a2)] [] m Q := by
  refine X.iload_n 1 i311_0 rfl rfl rfl ?_
  refine X.i2l 2 i311_1 rfl rfl ?_
  refine X.lconst (y := 1) 3 i311_2 rfl rfl rfl ?_
  refine X.aload_n 4 i311_3 rfl rfl rfl ?_
  refine X.callv 7 [] [zl 1, zl a1] [(0, zr 4 44)] i311_4 rfl (by decide) rfl rfl (by omega) rfl rfl (by decide) rfl t235 (Nat.le_of_ble_eq_true rfl) (Nat.le_of_ble_eq_true rfl) rfl ?_
  refine c235_1 (B := B)   (by omega) (hJ.up (by omega)) (by omega)  (fun v503 hv503 hFv503 => ?_)
  show X (EE s) d 311 7 [(0, zr 4 44), (1, zi a1), (2, zi a2)] [zi v503, zl 1, zl a1] m _
  refine X.i2l 8 i311_7 rfl rfl ?_
  refine X.calls 11 [zl a1, zl 1, zl v503] [] [(0, zl a1), (2, zl 1), (4, zl v503)] i311_8 (by decide) rfl rfl (by omega) rfl rfl t204 (Nat.le_of_ble_eq_true rfl) (Nat.le_of_ble_eq_true rfl) rfl ?_
  refine X.lload_n 1 i204_0 rfl rfl rfl ?_
  refine X.lload_n 2 i204_1 rfl rfl rfl ?_
  refine X.lcmp 3 i204_2 rfl rfl (fun z504 hz504 => ?_)
  refine X.iflt 17 6 i204_3 rfl rfl rfl (fun h505 => ?_) (fun h505 => ?_)
  · have h505c : a1 < 1 := by omega
    clear h505 hz504
    refine X.cut [] i204_17 rfl ?_
    refine X.iconst 18 i204_17 rfl rfl (by decide) ?_
    refine X.retz i204_18 rfl t204 (by omega) ?_
    show X (EE s) d 311 11 [(0, zr 4 44), (1, zi a1), (2, zi a2)] [zi 0] m _
    refine X.ifeq 24 14 i311_11 rfl rfl rfl (fun h506 => ?_) (fun h506 => (by exfalso; omega))
    refine X.cut [] i311_24 rfl ?_
    refine X.ldc2 27 i311_24 rfl rfl (by decide) ?_
    refine X.retl i311_27 rfl t311 ?_
    exact hQ (-1) (by first | trivial | omega) (Eq.trans (zn_eq hFv503.symm) (Eq.trans (if_pos h505c) rfl)) 
  · have h505c : ¬ a1 < 1 := by omega
    clear h505 hz504
    refine X.lload_n 7 i204_6 rfl rfl rfl ?_
    refine X.lload 9 i204_7 rfl rfl rfl ?_
    refine X.lcmp 10 i204_9 rfl rfl (fun z507 hz507 => ?_)
    refine X.ifgt 17 13 i204_10 rfl rfl rfl (fun h508 => ?_) (fun h508 => ?_)
    · have h508c : ¬ a1 ≤ v503 := by omega
      clear h508 hz507
      refine X.cut [] i204_17 rfl ?_
      refine X.iconst 18 i204_17 rfl rfl (by decide) ?_
      refine X.retz i204_18 rfl t204 (by omega) ?_
      show X (EE s) d 311 11 [(0, zr 4 44), (1, zi a1), (2, zi a2)] [zi 0] m _
      refine X.ifeq 24 14 i311_11 rfl rfl rfl (fun h509 => ?_) (fun h509 => (by exfalso; omega))
      refine X.cut [] i311_24 rfl ?_
      refine X.ldc2 27 i311_24 rfl rfl (by decide) ?_
      refine X.retl i311_27 rfl t311 ?_
      exact hQ (-1) (by first | trivial | omega) (Eq.trans (zn_eq hFv503.symm) (Eq.trans (if_neg h505c) (Eq.trans (if_neg h508c) rfl))) 
    · have h508c : a1 ≤ v503 := by omega
      clear h508 hz507
      refine X.iconst 14 i204_13 rfl rfl (by decide) ?_
      refine X.goto 18 i204_14 rfl rfl ?_
      refine X.cut [] i204_18 rfl ?_
      refine X.retz i204_18 rfl t204 (by omega) ?_
      show X (EE s) d 311 11 [(0, zr 4 44), (1, zi a1), (2, zi a2)] [zi 1] m _
      refine X.ifeq 24 14 i311_11 rfl rfl rfl (fun h510 => (by exfalso; omega)) (fun h510 => ?_)
      refine X.iload_n 15 i311_14 rfl rfl rfl ?_
      refine X.i2l 16 i311_15 rfl rfl ?_
      refine X.lconst (y := 0) 17 i311_16 rfl rfl rfl ?_
      refine X.lconst (y := 1) 18 i311_17 rfl rfl rfl ?_
      refine X.calls 21 [zl a2, zl 0, zl 1] [] [(0, zl a2), (2, zl 0), (4, zl 1)] i311_18 (by decide) rfl rfl (by omega) rfl rfl t204 (Nat.le_of_ble_eq_true rfl) (Nat.le_of_ble_eq_true rfl) rfl ?_
      refine X.lload_n 1 i204_0 rfl rfl rfl ?_
      refine X.lload_n 2 i204_1 rfl rfl rfl ?_
      refine X.lcmp 3 i204_2 rfl rfl (fun z511 hz511 => ?_)
      refine X.iflt 17 6 i204_3 rfl rfl rfl (fun h512 => ?_) (fun h512 => ?_)
      · have h512c : a2 < 0 := by omega
        clear h512 hz511
        refine X.cut [] i204_17 rfl ?_
        refine X.iconst 18 i204_17 rfl rfl (by decide) ?_
        refine X.retz i204_18 rfl t204 (by omega) ?_
        show X (EE s) d 311 21 [(0, zr 4 44), (1, zi a1), (2, zi a2)] [zi 0] m _
        refine X.ifne 28 24 i311_21 rfl rfl rfl (fun h513 => (by exfalso; omega)) (fun h513 => ?_)
        refine X.cut [] i311_24 rfl ?_
        refine X.ldc2 27 i311_24 rfl rfl (by decide) ?_
        refine X.retl i311_27 rfl t311 ?_
        exact hQ (-1) (by first | trivial | omega) (Eq.trans (zn_eq hFv503.symm) (Eq.trans (if_neg h505c) (Eq.trans (if_pos h508c) (Eq.trans (if_pos h512c) rfl)))) 
      · have h512c : ¬ a2 < 0 := by omega
        clear h512 hz511
        refine X.lload_n 7 i204_6 rfl rfl rfl ?_
        refine X.lload 9 i204_7 rfl rfl rfl ?_
        refine X.lcmp 10 i204_9 rfl rfl (fun z514 hz514 => ?_)
        refine X.ifgt 17 13 i204_10 rfl rfl rfl (fun h515 => ?_) (fun h515 => ?_)
        · have h515c : ¬ a2 ≤ 1 := by omega
          clear h515 hz514
          refine X.cut [] i204_17 rfl ?_
          refine X.iconst 18 i204_17 rfl rfl (by decide) ?_
          refine X.retz i204_18 rfl t204 (by omega) ?_
          show X (EE s) d 311 21 [(0, zr 4 44), (1, zi a1), (2, zi a2)] [zi 0] m _
          refine X.ifne 28 24 i311_21 rfl rfl rfl (fun h516 => (by exfalso; omega)) (fun h516 => ?_)
          refine X.cut [] i311_24 rfl ?_
          refine X.ldc2 27 i311_24 rfl rfl (by decide) ?_
          refine X.retl i311_27 rfl t311 ?_
          exact hQ (-1) (by first | trivial | omega) (Eq.trans (zn_eq hFv503.symm) (Eq.trans (if_neg h505c) (Eq.trans (if_pos h508c) (Eq.trans (if_neg h512c) (Eq.trans (if_neg h515c) rfl))))) 
        · have h515c : a2 ≤ 1 := by omega
          clear h515 hz514
          refine X.iconst 14 i204_13 rfl rfl (by decide) ?_
          refine X.goto 18 i204_14 rfl rfl ?_
          refine X.cut [] i204_18 rfl ?_
          refine X.retz i204_18 rfl t204 (by omega) ?_
          show X (EE s) d 311 21 [(0, zr 4 44), (1, zi a1), (2, zi a2)] [zi 1] m _
          refine X.ifne 28 24 i311_21 rfl rfl rfl (fun h517 => ?_) (fun h517 => (by exfalso; omega))
          refine X.ldc2 31 i311_28 rfl rfl (by decide) ?_
          refine X.lstore_n 32 [(0, zr 4 44), (1, zi a1), (2, zi a2), (3, zl (-1))] i311_31 rfl rfl rfl ?_
          refine X.iconst 33 i311_32 rfl rfl (by decide) ?_
          refine X.istore 35 [(0, zr 4 44), (1, zi a1), (2, zi a2), (3, zl (-1)), (5, zi 0)] i311_33 rfl rfl rfl ?_
          refine X.iconst 36 i311_35 rfl rfl (by decide) ?_
          refine X.istore 38 [(0, zr 4 44), (1, zi a1), (2, zi a2), (3, zl (-1)), (5, zi 0), (6, zi 0)] i311_36 rfl rfl rfl ?_
          have hz65 := zfu_eq 65
          refine l311_38_1 (s := s) (m := m) (B := B) (d := d) (R0 := (f311_1 a1 a2 m))  a1 a2  (by omega) (hJ.up (by omega)) (by omega) (by omega) (by omega) (fun y518 y519 hby518 hby519 hR523 => ?_) (zfu 65) (-1) 0 0 (by omega) (by omega) (by omega) (by omega) (Eq.trans (zn_eq hFv503.symm) (Eq.trans (if_neg h505c) (Eq.trans (if_pos h508c) (Eq.trans (if_neg h512c) (Eq.trans (if_pos h515c) rfl)))))
          refine X.iload_n 110 i311_109 rfl rfl rfl ?_
          have hK531 : ∀ (v : Int) , (True) → (if a2 = 0 then
              (y518)
              else
              (zn (f234_1 y519 0 m) fun v527 =>
              v527)) = v → X (EE s) d 311 124 [] [zl v] m Q := by
            intro v528 hv528 hT532
            refine X.retl i311_124 rfl t311 ?_
            exact hQ v528 (by first | trivial | omega) (Eq.trans hR523 (Eq.trans (zn_eq hT532.symm) rfl)) 
          refine X.ifne 117 113 i311_110 rfl rfl rfl (fun h524 => ?_) (fun h524 => ?_)
          · refine X.cut [(0, zr 4 44), (5, zi y519)] i311_117 rfl ?_
            refine X.aload_n 118 i311_117 rfl rfl rfl ?_
            refine X.iload 120 i311_118 rfl rfl rfl ?_
            refine X.iconst 121 i311_120 rfl rfl (by decide) ?_
            refine X.callv 124 [zi y519, zi 0] [] [(0, zr 4 44), (1, zi y519), (2, zi 0)] i311_121 rfl (by decide) rfl rfl (by omega) rfl rfl (by decide) rfl t234 (Nat.le_of_ble_eq_true rfl) (Nat.le_of_ble_eq_true rfl) rfl ?_
            refine c234_3 (B := B)  y519 0 (by omega) (hJ.up (by omega)) (by omega) (by omega) (by omega) (fun v527 hv527 hFv527 => ?_)
            show X (EE s) d 311 124 [(0, zr 4 44), (5, zi y519)] [zl v527] m _
            refine X.cut [] i311_124 rfl ?_
            exact hK531 v527 (by first | trivial | omega) (Eq.trans (if_neg h524) (Eq.trans (zn_eq hFv527.symm) rfl))
          · refine X.lload_n 114 i311_113 rfl rfl rfl ?_
            refine X.goto 124 i311_114 rfl rfl ?_
            refine X.cut [] i311_124 rfl ?_
            exact hK531 y518 (by first | trivial | omega) (Eq.trans (if_pos h524) rfl)
noncomputable def fl189_17_1_b (self : Int → Int → Int) (k77 : Int → Int) (y1 y2 y5 : Int) (m : zM) (y3 y6 : Int) : Int :=
  if y5 ≤ y6 then
  (k77 y3)
  else
  (zn (if (m 0 28 ((((((m 0 27 2) - 1) - y6) % 64) * 6) + 0)) ≤ y1 then
  (y3)
  else
  (if (m 0 28 ((((((m 0 27 2) - 1) - y6) % 64) * 6) + 0)) ≤ y2 then
  (zn (w64 (y3 + (m 0 28 ((((((m 0 27 2) - 1) - y6) % 64) * 6) + 1)))) fun z531 =>
  z531)
  else
  (y3))) fun v532 =>
  self v532 (y6 + 1))
noncomputable def fl189_17_1 (k77 : Int → Int) (y1 y2 y5 : Int) (m : zM) : Nat → Int → Int → Int
  | 0 => fun y3 y6 => 0
  | n + 1 => fl189_17_1_b (fl189_17_1 k77 y1 y2 y5 m n) k77 y1 y2 y5 m
theorem l189_17_1 {s : Nat × (Nat → Int32)} {S : zS} {m0 : zM} {m : zM} {B : Int} {d : Nat} {Q : Option zV → zM → Prop} {R0 : Int} {k77 : Int → Int} (y1 y2 y5 : Int) (hd : 13 ≤ d) (hJ : J S m0 B m) (hB9 : B ≤ 1000000000) (hy1 : (-2147483648) ≤ y1 ∧ y1 ≤ 2147483647) (hy2 : (-2147483648) ≤ y2 ∧ y2 ≤ 2147483647) (hy5 : 0 ≤ y5 ∧ y5 ≤ 64)
    (K77 : ∀ (x3 : Int) , (True) → (y5 ≤ m 0 27 2) → R0 = k77 x3 → X (EE s) d 189 77 [(3, zl x3)] [] m Q) :
    ∀ (n : Nat) (y3 y6 : Int) , (0 ≤ y6 ∧ y6 ≤ 64) → (y5 ≤ m 0 27 2) → 64 - y6 < (n : Int) → R0 = fl189_17_1 k77 y1 y2 y5 m n y3 y6 → X (EE s) d 189 17 [(0, zr 4 40), (1, zi y1), (2, zi y2), (3, zl y3), (5, zi y5), (6, zi y6)] [] m Q := by
  intro n
  induction n with
  | zero =>
    intro y3 y6 hy6 hr0 hn hR
    exfalso
    omega
  | succ n ih =>
    intro y3 y6 hy6 hr0 hn hR
    replace hR : R0 = fl189_17_1_b (fl189_17_1 k77 y1 y2 y5 m n) k77 y1 y2 y5 m y3 y6 := hR
    refine X.iload 19 i189_17 rfl rfl rfl ?_
    refine X.iload 21 i189_19 rfl rfl rfl ?_
    refine X.icmpge 77 24 i189_21 rfl rfl rfl (fun h525 => ?_) (fun h525 => ?_)
    · refine X.cut [(3, zl y3)] i189_77 rfl ?_
      exact K77 y3 (by first | trivial | omega) (by omega) (Eq.trans hR (Eq.trans (if_pos h525) rfl))
    · refine X.aload_n 25 i189_24 rfl rfl rfl ?_
      refine X.getF 28 i189_25 rfl rfl (by decide) rfl rfl ?_
      refine X.getR 31 i189_28 rfl rfl (by decide) rfl rfl ?_
      refine X.iload 33 i189_31 rfl rfl rfl ?_
      refine X.iconst 34 i189_33 rfl rfl (by decide) ?_
      refine X.callv 37 [zi y6, zi 0] [] [(0, zr 0 27), (1, zi y6), (2, zi 0)] i189_34 rfl (by decide) rfl rfl (by omega) rfl rfl (by decide) rfl t67 (Nat.le_of_ble_eq_true rfl) (Nat.le_of_ble_eq_true rfl) rfl ?_
      refine X.aload_n 1 i67_0 rfl rfl rfl ?_
      refine X.getR 4 i67_1 rfl rfl (by decide) rfl rfl ?_
      refine X.aload_n 5 i67_4 rfl rfl rfl ?_
      refine X.getI 8 2 i67_5 rfl rfl (by decide) rfl rfl rfl ?_
      have h526 := r27_2 hJ 0
      refine X.iconst 9 i67_8 rfl rfl (by decide) ?_
      refine X.isub 10 i67_9 rfl rfl (by omega) ?_
      refine X.iload_n 11 i67_10 rfl rfl rfl ?_
      refine X.isub 12 i67_11 rfl rfl (by omega) ?_
      refine X.bipush 14 i67_12 rfl rfl (by decide) ?_
      refine X.irem 15 i67_14 rfl rfl (by omega) ?_
      refine X.bipush 17 i67_15 rfl rfl (by decide) ?_
      refine X.imul 18 i67_17 rfl rfl (by omega) ?_
      refine X.iload_n 19 i67_18 rfl rfl rfl ?_
      refine X.iadd 20 i67_19 rfl rfl (by omega) ?_
      refine X.lald 21 i67_20 rfl rfl (by decide) rfl (by omega) ?_
      refine X.retl i67_21 rfl t67 ?_
      show X (EE s) d 189 37 [(0, zr 4 40), (1, zi y1), (2, zi y2), (3, zl y3), (5, zi y5), (6, zi y6)] [zl (m 0 28 ((((((m 0 27 2) - 1) - y6) % 64) * 6) + 0))] m _
      refine X.lstore 39 [(0, zr 4 40), (1, zi y1), (2, zi y2), (3, zl y3), (5, zi y5), (6, zi y6), (7, zl (m 0 28 ((((((m 0 27 2) - 1) - y6) % 64) * 6) + 0)))] i189_37 rfl rfl rfl ?_
      refine X.lload 41 i189_39 rfl rfl rfl ?_
      refine X.iload_n 42 i189_41 rfl rfl rfl ?_
      refine X.i2l 43 i189_42 rfl rfl ?_
      refine X.lcmp 44 i189_43 rfl rfl (fun z527 hz527 => ?_)
      have hK535 : ∀ (v : Int) , (True) → (if (m 0 28 ((((((m 0 27 2) - 1) - y6) % 64) * 6) + 0)) ≤ y1 then
          (y3)
          else
          (if (m 0 28 ((((((m 0 27 2) - 1) - y6) % 64) * 6) + 0)) ≤ y2 then
          (zn (w64 (y3 + (m 0 28 ((((((m 0 27 2) - 1) - y6) % 64) * 6) + 1)))) fun z531 =>
          z531)
          else
          (y3))) = v → X (EE s) d 189 71 [(0, zr 4 40), (1, zi y1), (2, zi y2), (3, zl v), (5, zi y5), (6, zi y6)] [] m Q := by
        intro v532 hv532 hT536
        refine X.iinc 74 [(0, zr 4 40), (1, zi y1), (2, zi y2), (3, zl v532), (5, zi y5), (6, zi (y6 + 1))] i189_71 rfl rfl rfl (by omega) rfl ?_
        refine X.goto 17 i189_74 rfl rfl ?_
        exact ih v532 (y6 + 1) (by omega) (by omega) (by omega) (Eq.trans hR (Eq.trans (if_neg h525) (Eq.trans (zn_eq hT536.symm) rfl)))
      refine X.ifle 71 47 i189_44 rfl rfl rfl (fun h528 => ?_) (fun h528 => ?_)
      · have h528c : (m 0 28 ((((((m 0 27 2) - 1) - y6) % 64) * 6) + 0)) ≤ y1 := by omega
        clear h528 hz527
        refine X.cut [(0, zr 4 40), (1, zi y1), (2, zi y2), (3, zl y3), (5, zi y5), (6, zi y6)] i189_71 rfl ?_
        exact hK535 y3 (by first | trivial | omega) (Eq.trans (if_pos h528c) rfl)
      · have h528c : ¬ (m 0 28 ((((((m 0 27 2) - 1) - y6) % 64) * 6) + 0)) ≤ y1 := by omega
        clear h528 hz527
        refine X.lload 49 i189_47 rfl rfl rfl ?_
        refine X.iload_n 50 i189_49 rfl rfl rfl ?_
        refine X.i2l 51 i189_50 rfl rfl ?_
        refine X.lcmp 52 i189_51 rfl rfl (fun z529 hz529 => ?_)
        refine X.ifgt 71 55 i189_52 rfl rfl rfl (fun h530 => ?_) (fun h530 => ?_)
        · have h530c : ¬ (m 0 28 ((((((m 0 27 2) - 1) - y6) % 64) * 6) + 0)) ≤ y2 := by omega
          clear h530 hz529
          refine X.cut [(0, zr 4 40), (1, zi y1), (2, zi y2), (3, zl y3), (5, zi y5), (6, zi y6)] i189_71 rfl ?_
          exact hK535 y3 (by first | trivial | omega) (Eq.trans (if_neg h528c) (Eq.trans (if_neg h530c) rfl))
        · have h530c : (m 0 28 ((((((m 0 27 2) - 1) - y6) % 64) * 6) + 0)) ≤ y2 := by omega
          clear h530 hz529
          refine X.lload_n 56 i189_55 rfl rfl rfl ?_
          refine X.aload_n 57 i189_56 rfl rfl rfl ?_
          refine X.getF 60 i189_57 rfl rfl (by decide) rfl rfl ?_
          refine X.getR 63 i189_60 rfl rfl (by decide) rfl rfl ?_
          refine X.iload 65 i189_63 rfl rfl rfl ?_
          refine X.iconst 66 i189_65 rfl rfl (by decide) ?_
          refine X.callv 69 [zi y6, zi 1] [zl y3] [(0, zr 0 27), (1, zi y6), (2, zi 1)] i189_66 rfl (by decide) rfl rfl (by omega) rfl rfl (by decide) rfl t67 (Nat.le_of_ble_eq_true rfl) (Nat.le_of_ble_eq_true rfl) rfl ?_
          refine X.aload_n 1 i67_0 rfl rfl rfl ?_
          refine X.getR 4 i67_1 rfl rfl (by decide) rfl rfl ?_
          refine X.aload_n 5 i67_4 rfl rfl rfl ?_
          refine X.getI 8 2 i67_5 rfl rfl (by decide) rfl rfl rfl ?_
          refine X.iconst 9 i67_8 rfl rfl (by decide) ?_
          refine X.isub 10 i67_9 rfl rfl (by omega) ?_
          refine X.iload_n 11 i67_10 rfl rfl rfl ?_
          refine X.isub 12 i67_11 rfl rfl (by omega) ?_
          refine X.bipush 14 i67_12 rfl rfl (by decide) ?_
          refine X.irem 15 i67_14 rfl rfl (by omega) ?_
          refine X.bipush 17 i67_15 rfl rfl (by decide) ?_
          refine X.imul 18 i67_17 rfl rfl (by omega) ?_
          refine X.iload_n 19 i67_18 rfl rfl rfl ?_
          refine X.iadd 20 i67_19 rfl rfl (by omega) ?_
          refine X.lald 21 i67_20 rfl rfl (by decide) rfl (by omega) ?_
          refine X.retl i67_21 rfl t67 ?_
          show X (EE s) d 189 69 [(0, zr 4 40), (1, zi y1), (2, zi y2), (3, zl y3), (5, zi y5), (6, zi y6), (7, zl (m 0 28 ((((((m 0 27 2) - 1) - y6) % 64) * 6) + 0)))] [zl (m 0 28 ((((((m 0 27 2) - 1) - y6) % 64) * 6) + 1)), zl y3] m _
          refine X.laddW 70 i189_69 rfl rfl (fun z531 ez531 hz531 => ?_)
          refine X.lstore_n 71 [(0, zr 4 40), (1, zi y1), (2, zi y2), (3, zl z531), (5, zi y5), (6, zi y6), (7, zl (m 0 28 ((((((m 0 27 2) - 1) - y6) % 64) * 6) + 0)))] i189_70 rfl rfl rfl ?_
          refine X.cut [(0, zr 4 40), (1, zi y1), (2, zi y2), (3, zl z531), (5, zi y5), (6, zi y6)] i189_71 rfl ?_
          exact hK535 z531 (by first | trivial | omega) (Eq.trans (if_neg h528c) (Eq.trans (if_pos h530c) (Eq.trans (zn_eq ez531) rfl)))
-- WorkMeter.between
noncomputable def f189_1 (a1 a2 : Int) (m : zM) : Int :=
  fl189_17_1 (fun y502 =>
  y502) a1 a2 (min (m 0 27 2) 64) m (zfu 65) 0 0
-- WorkMeter.between
theorem c189_1 {s : Nat × (Nat → Int32)} {S : zS} {m0 m : zM} {B : Int} {d : Nat} {Q : Option zV → zM → Prop} (a1 a2 : Int) (hd : 14 ≤ d) (hJ : J S m0 B m) (hB : B + 0 ≤ 1000000000) (ha1 : (-2147483648) ≤ a1 ∧ a1 ≤ 2147483647) (ha2 : (-2147483648) ≤ a2 ∧ a2 ≤ 2147483647) (hQ : ∀ (v : Int), (True) → f189_1 a1 a2 m = v → Q (some (zl v)) m) : X (EE s) d 189 0 [(0, zr 4 40), (1, zi a1), (2, zi a2)] [] m Q := by
  refine X.lconst (y := 0) 1 i189_0 rfl rfl rfl ?_
  refine X.lstore_n 2 [(0, zr 4 40), (1, zi a1), (2, zi a2), (3, zl 0)] i189_1 rfl rfl rfl ?_
  refine X.aload_n 3 i189_2 rfl rfl rfl ?_
  refine X.getF 6 i189_3 rfl rfl (by decide) rfl rfl ?_
  refine X.getR 9 i189_6 rfl rfl (by decide) rfl rfl ?_
  refine X.callv 12 [] [] [(0, zr 0 27)] i189_9 rfl (by decide) rfl rfl (by omega) rfl rfl (by decide) rfl t66 (Nat.le_of_ble_eq_true rfl) (Nat.le_of_ble_eq_true rfl) rfl ?_
  refine X.aload_n 1 i66_0 rfl rfl rfl ?_
  refine X.getI 4 2 i66_1 rfl rfl (by decide) rfl rfl rfl ?_
  have h501 := r27_2 hJ 0
  refine X.bipush 6 i66_4 rfl rfl (by decide) ?_
  refine X.minI 9 i66_6 rfl rfl (by omega) (Nat.le_of_ble_eq_true rfl) ?_
  refine X.reti i66_9 rfl t66 ?_
  show X (EE s) d 189 12 [(0, zr 4 40), (1, zi a1), (2, zi a2), (3, zl 0)] [zi (min (m 0 27 2) 64)] m _
  refine X.istore 14 [(0, zr 4 40), (1, zi a1), (2, zi a2), (3, zl 0), (5, zi (min (m 0 27 2) 64))] i189_12 rfl rfl rfl ?_
  refine X.iconst 15 i189_14 rfl rfl (by decide) ?_
  refine X.istore 17 [(0, zr 4 40), (1, zi a1), (2, zi a2), (3, zl 0), (5, zi (min (m 0 27 2) 64)), (6, zi 0)] i189_15 rfl rfl rfl ?_
  have hz65 := zfu_eq 65
  refine l189_17_1 (s := s) (m := m) (B := B) (d := d) (R0 := (f189_1 a1 a2 m))  a1 a2 (min (m 0 27 2) 64)  (by omega) (hJ.up (by omega)) (by omega) (by omega) (by omega) (by omega) (fun y502 hby502 hrlm503_0 hR506 => ?_) (zfu 65) 0 0 (by omega) (by omega) (by omega) rfl
  refine X.lload_n 78 i189_77 rfl rfl rfl ?_
  refine X.retl i189_78 rfl t189 ?_
  exact hQ y502 (by first | trivial | omega) (Eq.trans hR506 rfl) 
noncomputable def fl312_5_1_b (self : Int → Int → Int) (k60 : Int → Int) (y1 y2 : Int) (m : zM) (y3 y5 : Int) : Int :=
  zn (f235_1 m) fun v552 =>
  if v552 ≤ y5 then
  (k60 y3)
  else
  (zn (f234_1 y5 0 m) fun v556 =>
  zn (if v556 ≤ y1 then
  (0)
  else
  (zn (f234_1 y5 0 m) fun v561 =>
  if v561 ≤ y2 then
  (zn (f234_1 y5 1 m) fun v566 =>
  v566)
  else
  (0))) fun v567 =>
  zn (w64 (y3 + v567)) fun z572 =>
  self z572 (y5 + 1))
noncomputable def fl312_5_1 (k60 : Int → Int) (y1 y2 : Int) (m : zM) : Nat → Int → Int → Int
  | 0 => fun y3 y5 => 0
  | n + 1 => fl312_5_1_b (fl312_5_1 k60 y1 y2 m n) k60 y1 y2 m
theorem l312_5_1 {s : Nat × (Nat → Int32)} {S : zS} {m0 : zM} {m : zM} {B : Int} {d : Nat} {Q : Option zV → zM → Prop} {R0 : Int} {k60 : Int → Int} (y1 y2 : Int) (hd : 14 ≤ d) (hJ : J S m0 B m) (hB9 : B ≤ 1000000000) (hy1 : (-2147483648) ≤ y1 ∧ y1 ≤ 2147483647) (hy2 : (-2147483648) ≤ y2 ∧ y2 ≤ 2147483647)
    (K60 : ∀ (x3 : Int) , (True) → R0 = k60 x3 → X (EE s) d 312 60 [(3, zl x3)] [] m Q) :
    ∀ (n : Nat) (y3 y5 : Int) , (0 ≤ y5 ∧ y5 ≤ 64) → 64 - y5 < (n : Int) → R0 = fl312_5_1 k60 y1 y2 m n y3 y5 → X (EE s) d 312 5 [(0, zr 4 44), (1, zi y1), (2, zi y2), (3, zl y3), (5, zi y5)] [] m Q := by
  intro n
  induction n with
  | zero =>
    intro y3 y5 hy5 hn hR
    exfalso
    omega
  | succ n ih =>
    intro y3 y5 hy5 hn hR
    replace hR : R0 = fl312_5_1_b (fl312_5_1 k60 y1 y2 m n) k60 y1 y2 m y3 y5 := hR
    refine X.iload 7 i312_5 rfl rfl rfl ?_
    refine X.aload_n 8 i312_7 rfl rfl rfl ?_
    refine X.callv 11 [] [zi y5] [(0, zr 4 44)] i312_8 rfl (by decide) rfl rfl (by omega) rfl rfl (by decide) rfl t235 (Nat.le_of_ble_eq_true rfl) (Nat.le_of_ble_eq_true rfl) rfl ?_
    refine c235_1 (B := B)   (by omega) (hJ.up (by omega)) (by omega)  (fun v552 hv552 hFv552 => ?_)
    show X (EE s) d 312 11 [(0, zr 4 44), (1, zi y1), (2, zi y2), (3, zl y3), (5, zi y5)] [zi v552, zi y5] m _
    refine X.icmpge 60 14 i312_11 rfl rfl rfl (fun h553 => ?_) (fun h553 => ?_)
    · refine X.cut [(3, zl y3)] i312_60 rfl ?_
      exact K60 y3 (by first | trivial | omega) (Eq.trans hR (Eq.trans (zn_eq hFv552.symm) (Eq.trans (if_pos h553) rfl)))
    · refine X.lload_n 15 i312_14 rfl rfl rfl ?_
      refine X.aload_n 16 i312_15 rfl rfl rfl ?_
      refine X.iload 18 i312_16 rfl rfl rfl ?_
      refine X.iconst 19 i312_18 rfl rfl (by decide) ?_
      refine X.callv 22 [zi y5, zi 0] [zl y3] [(0, zr 4 44), (1, zi y5), (2, zi 0)] i312_19 rfl (by decide) rfl rfl (by omega) rfl rfl (by decide) rfl t234 (Nat.le_of_ble_eq_true rfl) (Nat.le_of_ble_eq_true rfl) rfl ?_
      refine c234_3 (B := B)  y5 0 (by omega) (hJ.up (by omega)) (by omega) (by omega) (by omega) (fun v556 hv556 hFv556 => ?_)
      show X (EE s) d 312 22 [(0, zr 4 44), (1, zi y1), (2, zi y2), (3, zl y3), (5, zi y5)] [zl v556, zl y3] m _
      refine X.iload_n 23 i312_22 rfl rfl rfl ?_
      refine X.i2l 24 i312_23 rfl rfl ?_
      refine X.lcmp 25 i312_24 rfl rfl (fun z557 hz557 => ?_)
      have hK570 : ∀ (v : Int) , (True) → (if v556 ≤ y1 then
          (0)
          else
          (zn (f234_1 y5 0 m) fun v561 =>
          if v561 ≤ y2 then
          (zn (f234_1 y5 1 m) fun v566 =>
          v566)
          else
          (0))) = v → X (EE s) d 312 52 [(0, zr 4 44), (1, zi y1), (2, zi y2), (5, zi y5)] [zl v, zl y3] m Q := by
        intro v567 hv567 hT571
        refine X.laddW 53 i312_52 rfl rfl (fun z572 ez572 hz572 => ?_)
        refine X.lstore_n 54 [(0, zr 4 44), (1, zi y1), (2, zi y2), (3, zl z572), (5, zi y5)] i312_53 rfl rfl rfl ?_
        refine X.iinc 57 [(0, zr 4 44), (1, zi y1), (2, zi y2), (3, zl z572), (5, zi (y5 + 1))] i312_54 rfl rfl rfl (by omega) rfl ?_
        refine X.goto 5 i312_57 rfl rfl ?_
        exact ih z572 (y5 + 1) (by omega) (by omega) (Eq.trans hR (Eq.trans (zn_eq hFv552.symm) (Eq.trans (if_neg h553) (Eq.trans (zn_eq hFv556.symm) (Eq.trans (zn_eq hT571.symm) (Eq.trans (zn_eq ez572) rfl))))))
      refine X.ifle 51 28 i312_25 rfl rfl rfl (fun h558 => ?_) (fun h558 => ?_)
      · have h558c : v556 ≤ y1 := by omega
        clear h558 hz557
        refine X.cut [(0, zr 4 44), (1, zi y1), (2, zi y2), (5, zi y5)] i312_51 rfl ?_
        refine X.lconst (y := 0) 52 i312_51 rfl rfl rfl ?_
        exact hK570 0 (by first | trivial | omega) (Eq.trans (if_pos h558c) rfl)
      · have h558c : ¬ v556 ≤ y1 := by omega
        clear h558 hz557
        refine X.aload_n 29 i312_28 rfl rfl rfl ?_
        refine X.iload 31 i312_29 rfl rfl rfl ?_
        refine X.iconst 32 i312_31 rfl rfl (by decide) ?_
        refine X.callv 35 [zi y5, zi 0] [zl y3] [(0, zr 4 44), (1, zi y5), (2, zi 0)] i312_32 rfl (by decide) rfl rfl (by omega) rfl rfl (by decide) rfl t234 (Nat.le_of_ble_eq_true rfl) (Nat.le_of_ble_eq_true rfl) rfl ?_
        refine c234_3 (B := B)  y5 0 (by omega) (hJ.up (by omega)) (by omega) (by omega) (by omega) (fun v561 hv561 hFv561 => ?_)
        show X (EE s) d 312 35 [(0, zr 4 44), (1, zi y1), (2, zi y2), (3, zl y3), (5, zi y5)] [zl v561, zl y3] m _
        refine X.iload_n 36 i312_35 rfl rfl rfl ?_
        refine X.i2l 37 i312_36 rfl rfl ?_
        refine X.lcmp 38 i312_37 rfl rfl (fun z562 hz562 => ?_)
        refine X.ifgt 51 41 i312_38 rfl rfl rfl (fun h563 => ?_) (fun h563 => ?_)
        · have h563c : ¬ v561 ≤ y2 := by omega
          clear h563 hz562
          refine X.cut [(0, zr 4 44), (1, zi y1), (2, zi y2), (5, zi y5)] i312_51 rfl ?_
          refine X.lconst (y := 0) 52 i312_51 rfl rfl rfl ?_
          exact hK570 0 (by first | trivial | omega) (Eq.trans (if_neg h558c) (Eq.trans (zn_eq hFv561.symm) (Eq.trans (if_neg h563c) rfl)))
        · have h563c : v561 ≤ y2 := by omega
          clear h563 hz562
          refine X.aload_n 42 i312_41 rfl rfl rfl ?_
          refine X.iload 44 i312_42 rfl rfl rfl ?_
          refine X.iconst 45 i312_44 rfl rfl (by decide) ?_
          refine X.callv 48 [zi y5, zi 1] [zl y3] [(0, zr 4 44), (1, zi y5), (2, zi 1)] i312_45 rfl (by decide) rfl rfl (by omega) rfl rfl (by decide) rfl t234 (Nat.le_of_ble_eq_true rfl) (Nat.le_of_ble_eq_true rfl) rfl ?_
          refine c234_2 (B := B)  y5 1 (by omega) (hJ.up (by omega)) (by omega) (by omega) (by omega) (fun v566 hv566 hFv566 => ?_)
          show X (EE s) d 312 48 [(0, zr 4 44), (1, zi y1), (2, zi y2), (3, zl y3), (5, zi y5)] [zl v566, zl y3] m _
          refine X.goto 52 i312_48 rfl rfl ?_
          refine X.cut [(0, zr 4 44), (1, zi y1), (2, zi y2), (5, zi y5)] i312_52 rfl ?_
          exact hK570 v566 (by first | trivial | omega) (Eq.trans (if_neg h558c) (Eq.trans (zn_eq hFv561.symm) (Eq.trans (if_pos h563c) (Eq.trans (zn_eq hFv566.symm) rfl))))
-- WorkMeterModel.between
noncomputable def f312_1 (a1 a2 : Int) (m : zM) : Int :=
  fl312_5_1 (fun y501 =>
  y501) a1 a2 m (zfu 65) 0 0
-- WorkMeterModel.between
theorem c312_1 {s : Nat × (Nat → Int32)} {S : zS} {m0 m : zM} {B : Int} {d : Nat} {Q : Option zV → zM → Prop} (a1 a2 : Int) (hd : 14 ≤ d) (hJ : J S m0 B m) (hB : B + 0 ≤ 1000000000) (ha1 : (-2147483648) ≤ a1 ∧ a1 ≤ 2147483647) (ha2 : (-2147483648) ≤ a2 ∧ a2 ≤ 2147483647) (hQ : ∀ (v : Int), (True) → f312_1 a1 a2 m = v → Q (some (zl v)) m) : X (EE s) d 312 0 [(0, zr 4 44), (1, zi a1), (2, zi a2)] [] m Q := by
  refine X.lconst (y := 0) 1 i312_0 rfl rfl rfl ?_
  refine X.lstore_n 2 [(0, zr 4 44), (1, zi a1), (2, zi a2), (3, zl 0)] i312_1 rfl rfl rfl ?_
  refine X.iconst 3 i312_2 rfl rfl (by decide) ?_
  refine X.istore 5 [(0, zr 4 44), (1, zi a1), (2, zi a2), (3, zl 0), (5, zi 0)] i312_3 rfl rfl rfl ?_
  have hz65 := zfu_eq 65
  refine l312_5_1 (s := s) (m := m) (B := B) (d := d) (R0 := (f312_1 a1 a2 m))  a1 a2  (by omega) (hJ.up (by omega)) (by omega) (by omega) (by omega) (fun y501 hby501 hR505 => ?_) (zfu 65) 0 0 (by omega) (by omega) rfl
  refine X.lload_n 61 i312_60 rfl rfl rfl ?_
  refine X.retl i312_61 rfl t312 ?_
  exact hQ y501 (by first | trivial | omega) (Eq.trans hR505 rfl) 
-- WorkMeter.log
noncomputable def f190_1 (a1 a2 : Int) (m : zM) : Int :=
  if a1 < 0 then
  ((-1))
  else
  (if (min (m 0 37 1) 40) ≤ a1 then
  ((-1))
  else
  (if a2 < 0 then
  ((-1))
  else
  (if a2 < 3 then
  ((m 0 38 ((((((m 0 37 1) - 1) - a1) % 40) * 3) + a2)))
  else
  ((-1)))))
-- WorkMeter.log
theorem c190_1 {s : Nat × (Nat → Int32)} {S : zS} {m0 m : zM} {B : Int} {d : Nat} {Q : Option zV → zM → Prop} (a1 a2 : Int) (hd : 14 ≤ d) (hJ : J S m0 B m) (hB : B + 0 ≤ 1000000000) (ha1 : (-2147483648) ≤ a1 ∧ a1 ≤ 2147483647) (ha2 : (-2147483648) ≤ a2 ∧ a2 ≤ 2147483647) (hQ : ∀ (v : Int), ((-2147483648) ≤ v ∧ v ≤ 2147483647) → f190_1 a1 a2 m = v → Q (some (zi v)) m) : X (EE s) d 190 0 [(0, zr 4 40), (1, zi a1), (2, zi a2)] [] m Q := by
  refine X.iload_n 1 i190_0 rfl rfl rfl ?_
  refine X.iflt 27 4 i190_1 rfl rfl rfl (fun h501 => ?_) (fun h501 => ?_)
  · refine X.cut [] i190_27 rfl ?_
    refine X.iconst 28 i190_27 rfl rfl (by decide) ?_
    refine X.reti i190_28 rfl t190 ?_
    exact hQ (-1) (by first | trivial | omega) (Eq.trans (if_pos h501) rfl) 
  · refine X.iload_n 5 i190_4 rfl rfl rfl ?_
    refine X.aload_n 6 i190_5 rfl rfl rfl ?_
    refine X.getF 9 i190_6 rfl rfl (by decide) rfl rfl ?_
    refine X.getR 12 i190_9 rfl rfl (by decide) rfl rfl ?_
    refine X.callv 15 [] [zi a1] [(0, zr 0 37)] i190_12 rfl (by decide) rfl rfl (by omega) rfl rfl (by decide) rfl t191 (Nat.le_of_ble_eq_true rfl) (Nat.le_of_ble_eq_true rfl) rfl ?_
    refine X.aload_n 1 i191_0 rfl rfl rfl ?_
    refine X.getI 4 1 i191_1 rfl rfl (by decide) rfl rfl rfl ?_
    have h502 := r37_1 hJ 0
    refine X.bipush 6 i191_4 rfl rfl (by decide) ?_
    refine X.minI 9 i191_6 rfl rfl (by omega) (Nat.le_of_ble_eq_true rfl) ?_
    refine X.reti i191_9 rfl t191 ?_
    show X (EE s) d 190 15 [(0, zr 4 40), (1, zi a1), (2, zi a2)] [zi (min (m 0 37 1) 40), zi a1] m _
    refine X.icmpge 27 18 i190_15 rfl rfl rfl (fun h503 => ?_) (fun h503 => ?_)
    · refine X.cut [] i190_27 rfl ?_
      refine X.iconst 28 i190_27 rfl rfl (by decide) ?_
      refine X.reti i190_28 rfl t190 ?_
      exact hQ (-1) (by first | trivial | omega) (Eq.trans (if_neg h501) (Eq.trans (if_pos h503) rfl)) 
    · refine X.iload_n 19 i190_18 rfl rfl rfl ?_
      refine X.iflt 27 22 i190_19 rfl rfl rfl (fun h504 => ?_) (fun h504 => ?_)
      · refine X.cut [] i190_27 rfl ?_
        refine X.iconst 28 i190_27 rfl rfl (by decide) ?_
        refine X.reti i190_28 rfl t190 ?_
        exact hQ (-1) (by first | trivial | omega) (Eq.trans (if_neg h501) (Eq.trans (if_neg h503) (Eq.trans (if_pos h504) rfl))) 
      · refine X.iload_n 23 i190_22 rfl rfl rfl ?_
        refine X.iconst 24 i190_23 rfl rfl (by decide) ?_
        refine X.icmplt 29 27 i190_24 rfl rfl rfl (fun h505 => ?_) (fun h505 => ?_)
        · refine X.aload_n 30 i190_29 rfl rfl rfl ?_
          refine X.getF 33 i190_30 rfl rfl (by decide) rfl rfl ?_
          refine X.getR 36 i190_33 rfl rfl (by decide) rfl rfl ?_
          refine X.iload_n 37 i190_36 rfl rfl rfl ?_
          refine X.iload_n 38 i190_37 rfl rfl rfl ?_
          refine X.callv 41 [zi a1, zi a2] [] [(0, zr 0 37), (1, zi a1), (2, zi a2)] i190_38 rfl (by decide) rfl rfl (by omega) rfl rfl (by decide) rfl t192 (Nat.le_of_ble_eq_true rfl) (Nat.le_of_ble_eq_true rfl) rfl ?_
          refine X.aload_n 1 i192_0 rfl rfl rfl ?_
          refine X.getR 4 i192_1 rfl rfl (by decide) rfl rfl ?_
          refine X.aload_n 5 i192_4 rfl rfl rfl ?_
          refine X.getI 8 1 i192_5 rfl rfl (by decide) rfl rfl rfl ?_
          refine X.iconst 9 i192_8 rfl rfl (by decide) ?_
          refine X.isub 10 i192_9 rfl rfl (by omega) ?_
          refine X.iload_n 11 i192_10 rfl rfl rfl ?_
          refine X.isub 12 i192_11 rfl rfl (by omega) ?_
          refine X.bipush 14 i192_12 rfl rfl (by decide) ?_
          refine X.irem 15 i192_14 rfl rfl (by omega) ?_
          refine X.iconst 16 i192_15 rfl rfl (by decide) ?_
          refine X.imul 17 i192_16 rfl rfl (by omega) ?_
          refine X.iload_n 18 i192_17 rfl rfl rfl ?_
          refine X.iadd 19 i192_18 rfl rfl (by omega) ?_
          refine X.ialdr 20 i192_19 rfl rfl (by decide) rfl (by omega) (fun h506 => ?_)
          refine X.reti i192_20 rfl t192 ?_
          show X (EE s) d 190 41 [(0, zr 4 40), (1, zi a1), (2, zi a2)] [zi (m 0 38 ((((((m 0 37 1) - 1) - a1) % 40) * 3) + a2))] m _
          refine X.reti i190_41 rfl t190 ?_
          exact hQ (m 0 38 ((((((m 0 37 1) - 1) - a1) % 40) * 3) + a2)) (by first | trivial | omega) (Eq.trans (if_neg h501) (Eq.trans (if_neg h503) (Eq.trans (if_neg h504) (Eq.trans (if_pos h505) rfl)))) 
        · refine X.cut [] i190_27 rfl ?_
          refine X.iconst 28 i190_27 rfl rfl (by decide) ?_
          refine X.reti i190_28 rfl t190 ?_
          exact hQ (-1) (by first | trivial | omega) (Eq.trans (if_neg h501) (Eq.trans (if_neg h503) (Eq.trans (if_neg h504) (Eq.trans (if_neg h505) rfl)))) 
-- WorkMeterModel.log
noncomputable def f313_1 (a1 a2 : Int) (m : zM) : Int :=
  zn (if (m 4 45 16) < 40 then
  ((m 4 45 16))
  else
  (40)) fun v504 =>
  if a1 < 0 then
  ((-1))
  else
  (if a1 ≤ (v504 - 1) then
  (if a2 < 0 then
  ((-1))
  else
  (if a2 ≤ 2 then
  (zn (w32 (m 4 45 ((1487 + (3 * ((v504 - 1) - a1))) + a2))) fun z523 =>
  z523)
  else
  ((-1))))
  else
  ((-1)))
end
