section
-- WorkMeterModel.special
noncomputable def f248_1 (a1 a2 : Int) (m : zM) : Int × zM :=
  zb (f203_1 m) fun v503 m501 =>
  if v503 = 0 then
  (if a1 < 0 then
  ((0, m501))
  else
  (if a1 ≤ 364 then
  (if a2 = (-1) then
  (zn (if (m501 4 45 (423 + a1)) = (-1) then
  (0)
  else
  (1)) fun v516 =>
  if v516 = 0 then
  ((0, m501))
  else
  (zs (z_upd m501 4 45 (423 + a1) a2) fun m523 =>
  (1, m523)))
  else
  (if a2 < 0 then
  ((0, m501))
  else
  (if a2 ≤ 7 then
  (zn (if (m501 4 45 (423 + a1)) = (-1) then
  (0)
  else
  (1)) fun v535 =>
  if v535 = 0 then
  (zn (f249_1 m501) fun v546 =>
  if v546 = 16 then
  ((0, m501))
  else
  (zs (z_upd m501 4 45 (423 + a1) a2) fun m548 =>
  (1, m548)))
  else
  (zs (z_upd m501 4 45 (423 + a1) a2) fun m542 =>
  (1, m542)))
  else
  ((0, m501)))))
  else
  ((0, m501))))
  else
  ((0, m501))
-- WorkMeterModel.special
theorem c248_1 {s : Nat × (Nat → Int32)} {S : zS} {m0 m : zM} {B : Int} {d : Nat} {Q : Option zV → zM → Prop} (a1 a2 : Int) (hd : 14 ≤ d) (hJ : J S m0 B m) (hB : B + 0 ≤ 1000000000) (ha1 : (-2147483648) ≤ a1 ∧ a1 ≤ 2147483647) (ha2 : (-2147483648) ≤ a2 ∧ a2 ≤ 2147483647) (hf21 : ¬ S.1 21) (hf24 : ¬ S.1 24) (hg4 : ¬ S.2.1 4) (hQ : ∀ (v : Int) m', (0 ≤ v ∧ v ≤ 1) → f248_1 a1 a2 m = (v, m') → J S m0 (B) m' → Q (some (zi v)) m') : X (EE s) d 248 0 [(0, zr 4 44), (1, zi a1), (2, zi a2)] [] m Q := by
  refine X.aload_n 1 i248_0 rfl rfl rfl ?_
  refine X.callv 4 [] [] [(0, zr 4 44)] i248_1 rfl (by decide) rfl rfl (by omega) rfl rfl (by decide) rfl t203 (Nat.le_of_ble_eq_true rfl) (Nat.le_of_ble_eq_true rfl) rfl ?_
  refine c203_1 (B := B)   (by omega) (hJ.up (by omega)) (by omega)  hf24 hg4 (fun v503 m501 hv503 hFv503 hJ502 => ?_)
  show X (EE s) d 248 4 [(0, zr 4 44), (1, zi a1), (2, zi a2)] [zi v503] m501 _
  refine X.ifne 31 7 i248_4 rfl rfl rfl (fun h504 => ?_) (fun h504 => ?_)
  · refine X.cut [] i248_31 rfl ?_
    refine X.iconst 32 i248_31 rfl rfl (by decide) ?_
    refine X.retz i248_32 rfl t248 (by omega) ?_
    exact hQ 0 m501 (by first | trivial | omega) (Eq.trans (zb_eq hFv503) (Eq.trans (if_neg h504) rfl)) (hJ502.up (by omega)) 
  · refine X.iload_n 8 i248_7 rfl rfl rfl ?_
    refine X.i2l 9 i248_8 rfl rfl ?_
    refine X.lconst (y := 0) 10 i248_9 rfl rfl rfl ?_
    refine X.ldc2 13 i248_10 rfl rfl (by decide) ?_
    refine X.calls 16 [zl a1, zl 0, zl 364] [] [(0, zl a1), (2, zl 0), (4, zl 364)] i248_13 (by decide) rfl rfl (by omega) rfl rfl t204 (Nat.le_of_ble_eq_true rfl) (Nat.le_of_ble_eq_true rfl) rfl ?_
    refine X.lload_n 1 i204_0 rfl rfl rfl ?_
    refine X.lload_n 2 i204_1 rfl rfl rfl ?_
    refine X.lcmp 3 i204_2 rfl rfl (fun z505 hz505 => ?_)
    refine X.iflt 17 6 i204_3 rfl rfl rfl (fun h506 => ?_) (fun h506 => ?_)
    · have h506c : a1 < 0 := by omega
      clear h506 hz505
      refine X.cut [] i204_17 rfl ?_
      refine X.iconst 18 i204_17 rfl rfl (by decide) ?_
      refine X.retz i204_18 rfl t204 (by omega) ?_
      show X (EE s) d 248 16 [(0, zr 4 44), (1, zi a1), (2, zi a2)] [zi 0] m501 _
      refine X.ifeq 31 19 i248_16 rfl rfl rfl (fun h507 => ?_) (fun h507 => (by exfalso; omega))
      refine X.cut [] i248_31 rfl ?_
      refine X.iconst 32 i248_31 rfl rfl (by decide) ?_
      refine X.retz i248_32 rfl t248 (by omega) ?_
      exact hQ 0 m501 (by first | trivial | omega) (Eq.trans (zb_eq hFv503) (Eq.trans (if_pos h504) (Eq.trans (if_pos h506c) rfl))) (hJ502.up (by omega)) 
    · have h506c : ¬ a1 < 0 := by omega
      clear h506 hz505
      refine X.lload_n 7 i204_6 rfl rfl rfl ?_
      refine X.lload 9 i204_7 rfl rfl rfl ?_
      refine X.lcmp 10 i204_9 rfl rfl (fun z508 hz508 => ?_)
      refine X.ifgt 17 13 i204_10 rfl rfl rfl (fun h509 => ?_) (fun h509 => ?_)
      · have h509c : ¬ a1 ≤ 364 := by omega
        clear h509 hz508
        refine X.cut [] i204_17 rfl ?_
        refine X.iconst 18 i204_17 rfl rfl (by decide) ?_
        refine X.retz i204_18 rfl t204 (by omega) ?_
        show X (EE s) d 248 16 [(0, zr 4 44), (1, zi a1), (2, zi a2)] [zi 0] m501 _
        refine X.ifeq 31 19 i248_16 rfl rfl rfl (fun h510 => ?_) (fun h510 => (by exfalso; omega))
        refine X.cut [] i248_31 rfl ?_
        refine X.iconst 32 i248_31 rfl rfl (by decide) ?_
        refine X.retz i248_32 rfl t248 (by omega) ?_
        exact hQ 0 m501 (by first | trivial | omega) (Eq.trans (zb_eq hFv503) (Eq.trans (if_pos h504) (Eq.trans (if_neg h506c) (Eq.trans (if_neg h509c) rfl)))) (hJ502.up (by omega)) 
      · have h509c : a1 ≤ 364 := by omega
        clear h509 hz508
        refine X.iconst 14 i204_13 rfl rfl (by decide) ?_
        refine X.goto 18 i204_14 rfl rfl ?_
        refine X.cut [] i204_18 rfl ?_
        refine X.retz i204_18 rfl t204 (by omega) ?_
        show X (EE s) d 248 16 [(0, zr 4 44), (1, zi a1), (2, zi a2)] [zi 1] m501 _
        refine X.ifeq 31 19 i248_16 rfl rfl rfl (fun h511 => (by exfalso; omega)) (fun h511 => ?_)
        refine X.iload_n 20 i248_19 rfl rfl rfl ?_
        refine X.iconst 21 i248_20 rfl rfl (by decide) ?_
        refine X.icmpeq 33 24 i248_21 rfl rfl rfl (fun h512 => ?_) (fun h512 => ?_)
        · refine X.aload_n 34 i248_33 rfl rfl rfl ?_
          refine X.getF 37 i248_34 rfl rfl (by decide) rfl rfl ?_
          refine X.sipush 40 i248_37 rfl rfl (by decide) ?_
          refine X.iload_n 41 i248_40 rfl rfl rfl ?_
          refine X.iadd 42 i248_41 rfl rfl (by omega) ?_
          refine X.lald 43 i248_42 rfl rfl (by decide) rfl (by omega) ?_
          have h513 := r45_423 hJ502 4 (i := (423 + a1)) (by omega)
          refine X.ldc2 46 i248_43 rfl rfl (by decide) ?_
          refine X.lcmp 47 i248_46 rfl rfl (fun z514 hz514 => ?_)
          have hK519 : ∀ (v : Int) , (0 ≤ v ∧ v ≤ 1) → (if (m501 4 45 (423 + a1)) = (-1) then
              (0)
              else
              (1)) = v → X (EE s) d 248 55 [(0, zr 4 44), (1, zi a1), (2, zi a2)] [zi v] m501 Q := by
            intro v516 hv516 hT520
            refine X.istore_n 56 [(0, zr 4 44), (1, zi a1), (2, zi a2), (3, zi v516)] i248_55 rfl rfl rfl ?_
            refine X.iload_n 57 i248_56 rfl rfl rfl ?_
            refine X.iconst 58 i248_57 rfl rfl (by decide) ?_
            refine X.icmpne 68 61 i248_58 rfl rfl rfl (fun h521 => (by exfalso; omega)) (fun h521 => ?_)
            refine X.iload_n 62 i248_61 rfl rfl rfl ?_
            refine X.ifne 83 65 i248_62 rfl rfl rfl (fun h522 => ?_) (fun h522 => ?_)
            · refine X.cut [(0, zr 4 44), (1, zi a1), (2, zi a2)] i248_83 rfl ?_
              refine X.aload_n 84 i248_83 rfl rfl rfl ?_
              refine X.getF 87 i248_84 rfl rfl (by decide) rfl rfl ?_
              refine X.sipush 90 i248_87 rfl rfl (by decide) ?_
              refine X.iload_n 91 i248_90 rfl rfl rfl ?_
              refine X.iadd 92 i248_91 rfl rfl (by omega) ?_
              refine X.iload_n 93 i248_92 rfl rfl rfl ?_
              refine X.i2l 94 i248_93 rfl rfl ?_
              refine X.last' 95 i248_94 rfl rfl (by decide) rfl (by omega) (fun hrm523 m523 hm523 => ?_)
              have hJ524 := w45_423 hJ502 hm523 (by omega) (by omega) hf21 hg4
              refine X.iconst 96 i248_95 rfl rfl (by decide) ?_
              refine X.retz i248_96 rfl t248 (by omega) ?_
              exact hQ 1 m523 (by first | trivial | omega) (Eq.trans (zb_eq hFv503) (Eq.trans (if_pos h504) (Eq.trans (if_neg h506c) (Eq.trans (if_pos h509c) (Eq.trans (if_pos h512) (Eq.trans (zn_eq hT520.symm) (Eq.trans (if_neg h522) (Eq.trans (zs_eq hm523) rfl)))))))) (hJ524.up (by omega)) 
            · refine X.goto 81 i248_65 rfl rfl ?_
              refine X.cut [] i248_81 rfl ?_
              refine X.iconst 82 i248_81 rfl rfl (by decide) ?_
              refine X.retz i248_82 rfl t248 (by omega) ?_
              exact hQ 0 m501 (by first | trivial | omega) (Eq.trans (zb_eq hFv503) (Eq.trans (if_pos h504) (Eq.trans (if_neg h506c) (Eq.trans (if_pos h509c) (Eq.trans (if_pos h512) (Eq.trans (zn_eq hT520.symm) (Eq.trans (if_pos h522) rfl))))))) (hJ502.up (by omega)) 
          refine X.ifeq 54 50 i248_47 rfl rfl rfl (fun h515 => ?_) (fun h515 => ?_)
          · have h515c : (m501 4 45 (423 + a1)) = (-1) := by omega
            clear h515 hz514
            refine X.iconst 55 i248_54 rfl rfl (by decide) ?_
            exact hK519 0 (by first | trivial | omega) (Eq.trans (if_pos h515c) rfl)
          · have h515c : ¬ (m501 4 45 (423 + a1)) = (-1) := by omega
            clear h515 hz514
            refine X.iconst 51 i248_50 rfl rfl (by decide) ?_
            refine X.goto 55 i248_51 rfl rfl ?_
            exact hK519 1 (by first | trivial | omega) (Eq.trans (if_neg h515c) rfl)
        · refine X.iload_n 25 i248_24 rfl rfl rfl ?_
          refine X.calls 28 [zi a2] [] [(0, zi a2)] i248_25 (by decide) rfl rfl (by omega) rfl rfl t241 (Nat.le_of_ble_eq_true rfl) (Nat.le_of_ble_eq_true rfl) rfl ?_
          refine X.iload_n 1 i241_0 rfl rfl rfl ?_
          refine X.i2l 2 i241_1 rfl rfl ?_
          refine X.lconst (y := 0) 3 i241_2 rfl rfl rfl ?_
          refine X.ldc2 6 i241_3 rfl rfl (by decide) ?_
          refine X.calls 9 [zl a2, zl 0, zl 7] [] [(0, zl a2), (2, zl 0), (4, zl 7)] i241_6 (by decide) rfl rfl (by omega) rfl rfl t204 (Nat.le_of_ble_eq_true rfl) (Nat.le_of_ble_eq_true rfl) rfl ?_
          refine X.lload_n 1 i204_0 rfl rfl rfl ?_
          refine X.lload_n 2 i204_1 rfl rfl rfl ?_
          refine X.lcmp 3 i204_2 rfl rfl (fun z525 hz525 => ?_)
          refine X.iflt 17 6 i204_3 rfl rfl rfl (fun h526 => ?_) (fun h526 => ?_)
          · have h526c : a2 < 0 := by omega
            clear h526 hz525
            refine X.cut [] i204_17 rfl ?_
            refine X.iconst 18 i204_17 rfl rfl (by decide) ?_
            refine X.retz i204_18 rfl t204 (by omega) ?_
            show X (EE s) (d - 1) 241 9 [(0, zi a2)] [zi 0] m501 _
            refine X.retz i241_9 rfl t241 (by omega) ?_
            show X (EE s) d 248 28 [(0, zr 4 44), (1, zi a1), (2, zi a2)] [zi 0] m501 _
            refine X.ifne 33 31 i248_28 rfl rfl rfl (fun h527 => (by exfalso; omega)) (fun h527 => ?_)
            refine X.cut [] i248_31 rfl ?_
            refine X.iconst 32 i248_31 rfl rfl (by decide) ?_
            refine X.retz i248_32 rfl t248 (by omega) ?_
            exact hQ 0 m501 (by first | trivial | omega) (Eq.trans (zb_eq hFv503) (Eq.trans (if_pos h504) (Eq.trans (if_neg h506c) (Eq.trans (if_pos h509c) (Eq.trans (if_neg h512) (Eq.trans (if_pos h526c) rfl)))))) (hJ502.up (by omega)) 
          · have h526c : ¬ a2 < 0 := by omega
            clear h526 hz525
            refine X.lload_n 7 i204_6 rfl rfl rfl ?_
            refine X.lload 9 i204_7 rfl rfl rfl ?_
            refine X.lcmp 10 i204_9 rfl rfl (fun z528 hz528 => ?_)
            refine X.ifgt 17 13 i204_10 rfl rfl rfl (fun h529 => ?_) (fun h529 => ?_)
            · have h529c : ¬ a2 ≤ 7 := by omega
              clear h529 hz528
              refine X.cut [] i204_17 rfl ?_
              refine X.iconst 18 i204_17 rfl rfl (by decide) ?_
              refine X.retz i204_18 rfl t204 (by omega) ?_
              show X (EE s) (d - 1) 241 9 [(0, zi a2)] [zi 0] m501 _
              refine X.retz i241_9 rfl t241 (by omega) ?_
              show X (EE s) d 248 28 [(0, zr 4 44), (1, zi a1), (2, zi a2)] [zi 0] m501 _
              refine X.ifne 33 31 i248_28 rfl rfl rfl (fun h530 => (by exfalso; omega)) (fun h530 => ?_)
              refine X.cut [] i248_31 rfl ?_
              refine X.iconst 32 i248_31 rfl rfl (by decide) ?_
              refine X.retz i248_32 rfl t248 (by omega) ?_
              exact hQ 0 m501 (by first | trivial | omega) (Eq.trans (zb_eq hFv503) (Eq.trans (if_pos h504) (Eq.trans (if_neg h506c) (Eq.trans (if_pos h509c) (Eq.trans (if_neg h512) (Eq.trans (if_neg h526c) (Eq.trans (if_neg h529c) rfl))))))) (hJ502.up (by omega)) 
            · have h529c : a2 ≤ 7 := by omega
              clear h529 hz528
              refine X.iconst 14 i204_13 rfl rfl (by decide) ?_
              refine X.goto 18 i204_14 rfl rfl ?_
              refine X.cut [] i204_18 rfl ?_
              refine X.retz i204_18 rfl t204 (by omega) ?_
              show X (EE s) (d - 1) 241 9 [(0, zi a2)] [zi 1] m501 _
              refine X.retz i241_9 rfl t241 (by omega) ?_
              show X (EE s) d 248 28 [(0, zr 4 44), (1, zi a1), (2, zi a2)] [zi 1] m501 _
              refine X.ifne 33 31 i248_28 rfl rfl rfl (fun h531 => ?_) (fun h531 => (by exfalso; omega))
              refine X.aload_n 34 i248_33 rfl rfl rfl ?_
              refine X.getF 37 i248_34 rfl rfl (by decide) rfl rfl ?_
              refine X.sipush 40 i248_37 rfl rfl (by decide) ?_
              refine X.iload_n 41 i248_40 rfl rfl rfl ?_
              refine X.iadd 42 i248_41 rfl rfl (by omega) ?_
              refine X.lald 43 i248_42 rfl rfl (by decide) rfl (by omega) ?_
              have h532 := r45_423 hJ502 4 (i := (423 + a1)) (by omega)
              refine X.ldc2 46 i248_43 rfl rfl (by decide) ?_
              refine X.lcmp 47 i248_46 rfl rfl (fun z533 hz533 => ?_)
              have hK538 : ∀ (v : Int) , (0 ≤ v ∧ v ≤ 1) → (if (m501 4 45 (423 + a1)) = (-1) then
                  (0)
                  else
                  (1)) = v → X (EE s) d 248 55 [(0, zr 4 44), (1, zi a1), (2, zi a2)] [zi v] m501 Q := by
                intro v535 hv535 hT539
                refine X.istore_n 56 [(0, zr 4 44), (1, zi a1), (2, zi a2), (3, zi v535)] i248_55 rfl rfl rfl ?_
                refine X.iload_n 57 i248_56 rfl rfl rfl ?_
                refine X.iconst 58 i248_57 rfl rfl (by decide) ?_
                refine X.icmpne 68 61 i248_58 rfl rfl rfl (fun h540 => ?_) (fun h540 => (by exfalso; omega))
                refine X.iload_n 69 i248_68 rfl rfl rfl ?_
                refine X.ifne 83 72 i248_69 rfl rfl rfl (fun h541 => ?_) (fun h541 => ?_)
                · refine X.cut [(0, zr 4 44), (1, zi a1), (2, zi a2)] i248_83 rfl ?_
                  refine X.aload_n 84 i248_83 rfl rfl rfl ?_
                  refine X.getF 87 i248_84 rfl rfl (by decide) rfl rfl ?_
                  refine X.sipush 90 i248_87 rfl rfl (by decide) ?_
                  refine X.iload_n 91 i248_90 rfl rfl rfl ?_
                  refine X.iadd 92 i248_91 rfl rfl (by omega) ?_
                  refine X.iload_n 93 i248_92 rfl rfl rfl ?_
                  refine X.i2l 94 i248_93 rfl rfl ?_
                  refine X.last' 95 i248_94 rfl rfl (by decide) rfl (by omega) (fun hrm542 m542 hm542 => ?_)
                  have hJ543 := w45_423 hJ502 hm542 (by omega) (by omega) hf21 hg4
                  refine X.iconst 96 i248_95 rfl rfl (by decide) ?_
                  refine X.retz i248_96 rfl t248 (by omega) ?_
                  exact hQ 1 m542 (by first | trivial | omega) (Eq.trans (zb_eq hFv503) (Eq.trans (if_pos h504) (Eq.trans (if_neg h506c) (Eq.trans (if_pos h509c) (Eq.trans (if_neg h512) (Eq.trans (if_neg h526c) (Eq.trans (if_pos h529c) (Eq.trans (zn_eq hT539.symm) (Eq.trans (if_neg h541) (Eq.trans (zs_eq hm542) rfl)))))))))) (hJ543.up (by omega)) 
                · refine X.aload_n 73 i248_72 rfl rfl rfl ?_
                  refine X.callv 76 [] [] [(0, zr 4 44)] i248_73 rfl (by decide) rfl rfl (by omega) rfl rfl (by decide) rfl t249 (Nat.le_of_ble_eq_true rfl) (Nat.le_of_ble_eq_true rfl) rfl ?_
                  refine c249_1 (B := B)   (by omega) (hJ502.up (by omega)) (by omega)  (fun v546 hv546 hFv546 => ?_)
                  show X (EE s) d 248 76 [(0, zr 4 44), (1, zi a1), (2, zi a2), (3, zi v535)] [zi v546] m501 _
                  refine X.bipush 78 i248_76 rfl rfl (by decide) ?_
                  refine X.icmpne 83 81 i248_78 rfl rfl rfl (fun h547 => ?_) (fun h547 => ?_)
                  · refine X.cut [(0, zr 4 44), (1, zi a1), (2, zi a2)] i248_83 rfl ?_
                    refine X.aload_n 84 i248_83 rfl rfl rfl ?_
                    refine X.getF 87 i248_84 rfl rfl (by decide) rfl rfl ?_
                    refine X.sipush 90 i248_87 rfl rfl (by decide) ?_
                    refine X.iload_n 91 i248_90 rfl rfl rfl ?_
                    refine X.iadd 92 i248_91 rfl rfl (by omega) ?_
                    refine X.iload_n 93 i248_92 rfl rfl rfl ?_
                    refine X.i2l 94 i248_93 rfl rfl ?_
                    refine X.last' 95 i248_94 rfl rfl (by decide) rfl (by omega) (fun hrm548 m548 hm548 => ?_)
                    have hJ549 := w45_423 hJ502 hm548 (by omega) (by omega) hf21 hg4
                    refine X.iconst 96 i248_95 rfl rfl (by decide) ?_
                    refine X.retz i248_96 rfl t248 (by omega) ?_
                    exact hQ 1 m548 (by first | trivial | omega) (Eq.trans (zb_eq hFv503) (Eq.trans (if_pos h504) (Eq.trans (if_neg h506c) (Eq.trans (if_pos h509c) (Eq.trans (if_neg h512) (Eq.trans (if_neg h526c) (Eq.trans (if_pos h529c) (Eq.trans (zn_eq hT539.symm) (Eq.trans (if_pos h541) (Eq.trans (zn_eq hFv546.symm) (Eq.trans (if_neg h547) (Eq.trans (zs_eq hm548) rfl)))))))))))) (hJ549.up (by omega)) 
                  · refine X.cut [] i248_81 rfl ?_
                    refine X.iconst 82 i248_81 rfl rfl (by decide) ?_
                    refine X.retz i248_82 rfl t248 (by omega) ?_
                    exact hQ 0 m501 (by first | trivial | omega) (Eq.trans (zb_eq hFv503) (Eq.trans (if_pos h504) (Eq.trans (if_neg h506c) (Eq.trans (if_pos h509c) (Eq.trans (if_neg h512) (Eq.trans (if_neg h526c) (Eq.trans (if_pos h529c) (Eq.trans (zn_eq hT539.symm) (Eq.trans (if_pos h541) (Eq.trans (zn_eq hFv546.symm) (Eq.trans (if_pos h547) rfl))))))))))) (hJ502.up (by omega)) 
              refine X.ifeq 54 50 i248_47 rfl rfl rfl (fun h534 => ?_) (fun h534 => ?_)
              · have h534c : (m501 4 45 (423 + a1)) = (-1) := by omega
                clear h534 hz533
                refine X.iconst 55 i248_54 rfl rfl (by decide) ?_
                exact hK538 0 (by first | trivial | omega) (Eq.trans (if_pos h534c) rfl)
              · have h534c : ¬ (m501 4 45 (423 + a1)) = (-1) := by omega
                clear h534 hz533
                refine X.iconst 51 i248_50 rfl rfl (by decide) ?_
                refine X.goto 55 i248_51 rfl rfl ?_
                exact hK538 1 (by first | trivial | omega) (Eq.trans (if_neg h534c) rfl)
-- WorkMeter$Meter.note
theorem c54_6 {s : Nat × (Nat → Int32)} {S : zS} {m0 m : zM} {B : Int} {d : Nat} {Q : Option zV → zM → Prop} (g0 : Nat) (a1 a2 : Int) (hd : 14 ≤ d) (hJ : J S m0 B m) (hB : B + 1 ≤ 1000000000) (ha1 : 20 ≤ a1 ∧ a1 ≤ 20) (ha2 : 0 ≤ a2 ∧ a2 ≤ 2000000000) (hf6 : ¬ S.1 6) (hgg0 : ¬ S.2.1 g0) (hQ : ∀ m', f54_1 g0 a1 a2 m = m' → J S m0 (B + 1) m' → Q none m') : X (EE s) d 54 0 [(0, zr g0 8), (1, zi a1), (2, zi a2)] [] m Q := by
  refine X.aload_n 1 i54_0 rfl rfl rfl ?_
  refine X.getR 4 i54_1 rfl rfl (by decide) rfl rfl ?_
  refine X.aload_n 5 i54_4 rfl rfl rfl ?_
  refine X.getI 8 9 i54_5 rfl rfl (by decide) rfl rfl rfl ?_
  have h501 := r8_9 hJ g0
  refine X.iload_n 9 i54_8 rfl rfl rfl ?_
  refine X.iload_n 10 i54_9 rfl rfl rfl ?_
  refine X.callv 13 [zi (m g0 8 9), zi a1, zi a2] [] [(0, zr g0 37), (1, zi (m g0 8 9)), (2, zi a1), (3, zi a2)] i54_10 rfl (by decide) rfl rfl (by omega) rfl rfl (by decide) rfl t55 (Nat.le_of_ble_eq_true rfl) (Nat.le_of_ble_eq_true rfl) rfl ?_
  refine c55_1 (B := B) g0 (m g0 8 9) a1 a2 (by omega) (hJ.up (by omega)) (by omega) (by omega) (by omega) (by omega) hf6 hgg0 (fun m502 hFv504 hJ503 => ?_)
  show X (EE s) d 54 13 [(0, zr g0 8), (1, zi a1), (2, zi a2)] [] m502 _
  refine X.retv i54_13 rfl t54 ?_
  exact hQ  m502  (Eq.trans (zs_eq hFv504.symm) rfl) (hJ503.up (by omega)) 
-- WorkMeter$Meter.moveClock
noncomputable def f129_1 (g0 : Nat) (a1 : Int) (m : zM) : Int × zM :=
  zs (f60_1 g0 (m g0 8 9) (max 1 (m g0 10 4)) 64 m) fun m503 =>
  zs (z_upd m503 g0 8 9 a1) fun m506 =>
  zs (z_upd m506 g0 27 9 a1) fun m508 =>
  zs (f54_1 g0 20 (m g0 8 9) m508) fun m510 =>
  ((m g0 8 9), m510)
-- WorkMeter$Meter.moveClock
theorem c129_1 {s : Nat × (Nat → Int32)} {S : zS} {m0 m : zM} {B : Int} {d : Nat} {Q : Option zV → zM → Prop} (g0 : Nat) (a1 : Int) (hd : 15 ≤ d) (hJ : J S m0 B m) (hB : B + 2 ≤ 1000000000) (ha1 : 0 ≤ a1 ∧ a1 ≤ 2000000000) (hf6 : ¬ S.1 6) (hf7 : ¬ S.1 7) (hf11 : ¬ S.1 11) (hgg0 : ¬ S.2.1 g0) (hQ : ∀ (v : Int) m', (0 ≤ v ∧ v ≤ 2000000000) → f129_1 g0 a1 m = (v, m') → J S m0 (B + 2) m' → Q (some (zi v)) m') : X (EE s) d 129 0 [(0, zr g0 8), (1, zi a1)] [] m Q := by
  refine X.aload_n 1 i129_0 rfl rfl rfl ?_
  refine X.getI 4 9 i129_1 rfl rfl (by decide) rfl rfl rfl ?_
  have h501 := r8_9 hJ g0
  refine X.istore_n 5 [(0, zr g0 8), (1, zi a1), (2, zi (m g0 8 9))] i129_4 rfl rfl rfl ?_
  refine X.aload_n 6 i129_5 rfl rfl rfl ?_
  refine X.getR 9 i129_6 rfl rfl (by decide) rfl rfl ?_
  refine X.aload_n 10 i129_9 rfl rfl rfl ?_
  refine X.getI 13 9 i129_10 rfl rfl (by decide) rfl rfl rfl ?_
  refine X.aload_n 14 i129_13 rfl rfl rfl ?_
  refine X.getR 17 i129_14 rfl rfl (by decide) rfl rfl ?_
  refine X.callv 20 [] [zi (m g0 8 9), zr g0 27] [(0, zr g0 9)] i129_17 rfl (by decide) rfl rfl (by omega) rfl rfl (by decide) rfl t36 (Nat.le_of_ble_eq_true rfl) (Nat.le_of_ble_eq_true rfl) rfl ?_
  refine X.iconst 1 i36_0 rfl rfl (by decide) ?_
  refine X.aload_n 2 i36_1 rfl rfl rfl ?_
  refine X.getR 5 i36_2 rfl rfl (by decide) rfl rfl ?_
  refine X.iconst 6 i36_5 rfl rfl (by decide) ?_
  refine X.iald 7 i36_6 rfl rfl (by decide) rfl (by omega) ?_
  have h502 := r10_0 hJ g0 (i := 4) (by omega)
  refine X.maxI 10 i36_7 rfl rfl (by omega) (Nat.le_of_ble_eq_true rfl) ?_
  refine X.reti i36_10 rfl t36 ?_
  show X (EE s) d 129 20 [(0, zr g0 8), (1, zi a1), (2, zi (m g0 8 9))] [zi (max 1 (m g0 10 4)), zi (m g0 8 9), zr g0 27] m _
  refine X.bipush 22 i129_20 rfl rfl (by decide) ?_
  refine X.callv 25 [zi (m g0 8 9), zi (max 1 (m g0 10 4)), zi 64] [] [(0, zr g0 27), (1, zi (m g0 8 9)), (2, zi (max 1 (m g0 10 4))), (3, zi 64)] i129_22 rfl (by decide) rfl rfl (by omega) rfl rfl (by decide) rfl t60 (Nat.le_of_ble_eq_true rfl) (Nat.le_of_ble_eq_true rfl) rfl ?_
  refine c60_1 (B := B) g0 (m g0 8 9) (max 1 (m g0 10 4)) 64 (by omega) (hJ.up (by omega)) (by omega) (by omega) (by omega) (by omega) hf7 hgg0 (fun m503 hFv505 hJ504 => ?_)
  show X (EE s) d 129 25 [(0, zr g0 8), (1, zi a1), (2, zi (m g0 8 9))] [] m503 _
  refine X.aload_n 26 i129_25 rfl rfl rfl ?_
  refine X.iload_n 27 i129_26 rfl rfl rfl ?_
  refine X.putI' 30 9 i129_27 rfl rfl (by decide) rfl rfl rfl (fun hrm506 m506 hm506 => ?_)
  have hJ507 := w8_9 hJ504 hm506 (by omega) hf11 hgg0
  have em506 : m506 g0 8 9 = a1 := by rw [hm506]; exact z_upd_same _ _ _ _ _
  refine X.aload_n 31 i129_30 rfl rfl rfl ?_
  refine X.getR 34 i129_31 rfl rfl (by decide) rfl rfl ?_
  refine X.iload_n 35 i129_34 rfl rfl rfl ?_
  refine X.putI' 38 9 i129_35 rfl rfl (by decide) rfl rfl rfl (fun hrm508 m508 hm508 => ?_)
  have hJ509 := w27_9 hJ507 hm508 (by omega) hf7 hgg0
  refine X.aload_n 39 i129_38 rfl rfl rfl ?_
  refine X.bipush 41 i129_39 rfl rfl (by decide) ?_
  refine X.iload_n 42 i129_41 rfl rfl rfl ?_
  refine X.callv 45 [zi 20, zi (m g0 8 9)] [] [(0, zr g0 8), (1, zi 20), (2, zi (m g0 8 9))] i129_42 rfl (by decide) rfl rfl (by omega) rfl rfl (by decide) rfl t54 (Nat.le_of_ble_eq_true rfl) (Nat.le_of_ble_eq_true rfl) rfl ?_
  refine c54_6 (B := B + 1) g0 20 (m g0 8 9) (by omega) (hJ509.up (by omega)) (by omega) (by omega) (by omega) hf6 hgg0 (fun m510 hFv512 hJ511 => ?_)
  show X (EE s) d 129 45 [(0, zr g0 8), (1, zi a1), (2, zi (m g0 8 9))] [] m510 _
  refine X.iload_n 46 i129_45 rfl rfl rfl ?_
  refine X.reti i129_46 rfl t129 ?_
  exact hQ (m g0 8 9) m510 (by first | trivial | omega) (Eq.trans (zs_eq hFv505.symm) (Eq.trans (zs_eq hm506) (Eq.trans (zs_eq hm508) (Eq.trans (zs_eq hFv512.symm) rfl)))) (hJ511.up (by omega)) 
-- WorkMeter.move
noncomputable def f127_1 (a1 : Int) (m : zM) : Int × zM :=
  zb (f17_1 0 m) fun v503 m501 =>
  if v503 = 0 then
  (if a1 < 0 then
  (((-1), m501))
  else
  (if 2000000000 < a1 then
  (((-1), m501))
  else
  (zb (f129_1 0 a1 m501) fun v512 m510 =>
  (v512, m510))))
  else
  (((-1), m501))
-- WorkMeter.move
theorem c127_1 {s : Nat × (Nat → Int32)} {S : zS} {m0 m : zM} {B : Int} {d : Nat} {Q : Option zV → zM → Prop} (a1 : Int) (hd : 16 ≤ d) (hJ : J S m0 B m) (hB : B + 2 ≤ 1000000000) (ha1 : (-2147483648) ≤ a1 ∧ a1 ≤ 2147483647) (hf4 : ¬ S.1 4) (hf6 : ¬ S.1 6) (hf7 : ¬ S.1 7) (hf11 : ¬ S.1 11) (hg0 : ¬ S.2.1 0) (hQ : ∀ (v : Int) m', ((-1) ≤ v ∧ v ≤ 2000000000) → f127_1 a1 m = (v, m') → J S m0 (B + 2) m' → Q (some (zi v)) m') : X (EE s) d 127 0 [(0, zr 4 40), (1, zi a1)] [] m Q := by
  refine X.aload_n 1 i127_0 rfl rfl rfl ?_
  refine X.getF 4 i127_1 rfl rfl (by decide) rfl rfl ?_
  refine X.getR 7 i127_4 rfl rfl (by decide) rfl rfl ?_
  refine X.callv 10 [] [] [(0, zr 0 39)] i127_7 rfl (by decide) rfl rfl (by omega) rfl rfl (by decide) rfl t17 (Nat.le_of_ble_eq_true rfl) (Nat.le_of_ble_eq_true rfl) rfl ?_
  refine c17_1 (B := B) 0  (by omega) (hJ.up (by omega)) (by omega)  hf4 hg0 (fun v503 m501 hv503 hFv503 hJ502 => ?_)
  show X (EE s) d 127 10 [(0, zr 4 40), (1, zi a1)] [zi v503] m501 _
  refine X.ifne 20 13 i127_10 rfl rfl rfl (fun h504 => ?_) (fun h504 => ?_)
  · refine X.cut [] i127_20 rfl ?_
    refine X.iconst 21 i127_20 rfl rfl (by decide) ?_
    refine X.reti i127_21 rfl t127 ?_
    exact hQ (-1) m501 (by first | trivial | omega) (Eq.trans (zb_eq hFv503) (Eq.trans (if_neg h504) rfl)) (hJ502.up (by omega)) 
  · refine X.iload_n 14 i127_13 rfl rfl rfl ?_
    refine X.calls 17 [zi a1] [] [(0, zi a1)] i127_14 (by decide) rfl rfl (by omega) rfl rfl t128 (Nat.le_of_ble_eq_true rfl) (Nat.le_of_ble_eq_true rfl) rfl ?_
    refine X.iload_n 1 i128_0 rfl rfl rfl ?_
    refine X.iflt 14 4 i128_1 rfl rfl rfl (fun h505 => ?_) (fun h505 => ?_)
    · refine X.cut [] i128_14 rfl ?_
      refine X.iconst 15 i128_14 rfl rfl (by decide) ?_
      refine X.retz i128_15 rfl t128 (by omega) ?_
      show X (EE s) d 127 17 [(0, zr 4 40), (1, zi a1)] [zi 0] m501 _
      refine X.ifne 22 20 i127_17 rfl rfl rfl (fun h506 => (by exfalso; omega)) (fun h506 => ?_)
      refine X.cut [] i127_20 rfl ?_
      refine X.iconst 21 i127_20 rfl rfl (by decide) ?_
      refine X.reti i127_21 rfl t127 ?_
      exact hQ (-1) m501 (by first | trivial | omega) (Eq.trans (zb_eq hFv503) (Eq.trans (if_pos h504) (Eq.trans (if_pos h505) rfl))) (hJ502.up (by omega)) 
    · refine X.iload_n 5 i128_4 rfl rfl rfl ?_
      refine X.ldc 7 i128_5 rfl rfl (by decide) ?_
      refine X.icmpgt 14 10 i128_7 rfl rfl rfl (fun h507 => ?_) (fun h507 => ?_)
      · refine X.cut [] i128_14 rfl ?_
        refine X.iconst 15 i128_14 rfl rfl (by decide) ?_
        refine X.retz i128_15 rfl t128 (by omega) ?_
        show X (EE s) d 127 17 [(0, zr 4 40), (1, zi a1)] [zi 0] m501 _
        refine X.ifne 22 20 i127_17 rfl rfl rfl (fun h508 => (by exfalso; omega)) (fun h508 => ?_)
        refine X.cut [] i127_20 rfl ?_
        refine X.iconst 21 i127_20 rfl rfl (by decide) ?_
        refine X.reti i127_21 rfl t127 ?_
        exact hQ (-1) m501 (by first | trivial | omega) (Eq.trans (zb_eq hFv503) (Eq.trans (if_pos h504) (Eq.trans (if_neg h505) (Eq.trans (if_pos h507) rfl)))) (hJ502.up (by omega)) 
      · refine X.iconst 11 i128_10 rfl rfl (by decide) ?_
        refine X.goto 15 i128_11 rfl rfl ?_
        refine X.cut [] i128_15 rfl ?_
        refine X.retz i128_15 rfl t128 (by omega) ?_
        show X (EE s) d 127 17 [(0, zr 4 40), (1, zi a1)] [zi 1] m501 _
        refine X.ifne 22 20 i127_17 rfl rfl rfl (fun h509 => ?_) (fun h509 => (by exfalso; omega))
        refine X.aload_n 23 i127_22 rfl rfl rfl ?_
        refine X.getF 26 i127_23 rfl rfl (by decide) rfl rfl ?_
        refine X.iload_n 27 i127_26 rfl rfl rfl ?_
        refine X.callv 30 [zi a1] [] [(0, zr 0 8), (1, zi a1)] i127_27 rfl (by decide) rfl rfl (by omega) rfl rfl (by decide) rfl t129 (Nat.le_of_ble_eq_true rfl) (Nat.le_of_ble_eq_true rfl) rfl ?_
        refine c129_1 (B := B) 0 a1 (by omega) (hJ502.up (by omega)) (by omega) (by omega) hf6 hf7 hf11 hg0 (fun v512 m510 hv512 hFv512 hJ511 => ?_)
        show X (EE s) d 127 30 [(0, zr 4 40), (1, zi a1)] [zi v512] m510 _
        refine X.reti i127_30 rfl t127 ?_
        exact hQ v512 m510 (by first | trivial | omega) (Eq.trans (zb_eq hFv503) (Eq.trans (if_pos h504) (Eq.trans (if_neg h505) (Eq.trans (if_neg h507) (Eq.trans (zb_eq hFv512) rfl))))) (hJ511.up (by omega)) 
-- WorkMeterModel.move
noncomputable def f281_1 (a1 : Int) (m : zM) : Int × zM :=
  zb (f203_1 m) fun v503 m501 =>
  if v503 = 0 then
  (if a1 < 0 then
  (((-1), m501))
  else
  (if a1 ≤ 2000000000 then
  (zs (f232_1 64 m501) fun m513 =>
  zs (z_upd m513 4 45 0 a1) fun m516 =>
  zs (f233_1 m516) fun m518 =>
  zs (f223_1 20 (m501 4 45 0) m518) fun m521 =>
  ((m501 4 45 0), m521))
  else
  (((-1), m501))))
  else
  (((-1), m501))
-- WorkMeterModel.move
theorem c281_1 {s : Nat × (Nat → Int32)} {S : zS} {m0 m : zM} {B : Int} {d : Nat} {Q : Option zV → zM → Prop} (a1 : Int) (hd : 18 ≤ d) (hJ : J S m0 B m) (hB : B + 2 ≤ 1000000000) (ha1 : (-2147483648) ≤ a1 ∧ a1 ≤ 2147483647) (hf24 : ¬ S.1 24) (hf26 : ¬ S.1 26) (hf27 : ¬ S.1 27) (hf28 : ¬ S.1 28) (hf31 : ¬ S.1 31) (hg4 : ¬ S.2.1 4) (hQ : ∀ (v : Int) m', ((-1) ≤ v ∧ v ≤ 2000000000) → f281_1 a1 m = (v, m') → J S m0 (B + 2) m' → Q (some (zi v)) m') : X (EE s) d 281 0 [(0, zr 4 44), (1, zi a1)] [] m Q := by
  refine X.aload_n 1 i281_0 rfl rfl rfl ?_
  refine X.callv 4 [] [] [(0, zr 4 44)] i281_1 rfl (by decide) rfl rfl (by omega) rfl rfl (by decide) rfl t203 (Nat.le_of_ble_eq_true rfl) (Nat.le_of_ble_eq_true rfl) rfl ?_
  refine c203_1 (B := B)   (by omega) (hJ.up (by omega)) (by omega)  hf24 hg4 (fun v503 m501 hv503 hFv503 hJ502 => ?_)
  show X (EE s) d 281 4 [(0, zr 4 44), (1, zi a1)] [zi v503] m501 _
  refine X.ifne 19 7 i281_4 rfl rfl rfl (fun h504 => ?_) (fun h504 => ?_)
  · refine X.cut [] i281_19 rfl ?_
    refine X.iconst 20 i281_19 rfl rfl (by decide) ?_
    refine X.reti i281_20 rfl t281 ?_
    exact hQ (-1) m501 (by first | trivial | omega) (Eq.trans (zb_eq hFv503) (Eq.trans (if_neg h504) rfl)) (hJ502.up (by omega)) 
  · refine X.iload_n 8 i281_7 rfl rfl rfl ?_
    refine X.i2l 9 i281_8 rfl rfl ?_
    refine X.lconst (y := 0) 10 i281_9 rfl rfl rfl ?_
    refine X.ldc2 13 i281_10 rfl rfl (by decide) ?_
    refine X.calls 16 [zl a1, zl 0, zl 2000000000] [] [(0, zl a1), (2, zl 0), (4, zl 2000000000)] i281_13 (by decide) rfl rfl (by omega) rfl rfl t204 (Nat.le_of_ble_eq_true rfl) (Nat.le_of_ble_eq_true rfl) rfl ?_
    refine X.lload_n 1 i204_0 rfl rfl rfl ?_
    refine X.lload_n 2 i204_1 rfl rfl rfl ?_
    refine X.lcmp 3 i204_2 rfl rfl (fun z505 hz505 => ?_)
    refine X.iflt 17 6 i204_3 rfl rfl rfl (fun h506 => ?_) (fun h506 => ?_)
    · have h506c : a1 < 0 := by omega
      clear h506 hz505
      refine X.cut [] i204_17 rfl ?_
      refine X.iconst 18 i204_17 rfl rfl (by decide) ?_
      refine X.retz i204_18 rfl t204 (by omega) ?_
      show X (EE s) d 281 16 [(0, zr 4 44), (1, zi a1)] [zi 0] m501 _
      refine X.ifne 21 19 i281_16 rfl rfl rfl (fun h507 => (by exfalso; omega)) (fun h507 => ?_)
      refine X.cut [] i281_19 rfl ?_
      refine X.iconst 20 i281_19 rfl rfl (by decide) ?_
      refine X.reti i281_20 rfl t281 ?_
      exact hQ (-1) m501 (by first | trivial | omega) (Eq.trans (zb_eq hFv503) (Eq.trans (if_pos h504) (Eq.trans (if_pos h506c) rfl))) (hJ502.up (by omega)) 
    · have h506c : ¬ a1 < 0 := by omega
      clear h506 hz505
      refine X.lload_n 7 i204_6 rfl rfl rfl ?_
      refine X.lload 9 i204_7 rfl rfl rfl ?_
      refine X.lcmp 10 i204_9 rfl rfl (fun z508 hz508 => ?_)
      refine X.ifgt 17 13 i204_10 rfl rfl rfl (fun h509 => ?_) (fun h509 => ?_)
      · have h509c : ¬ a1 ≤ 2000000000 := by omega
        clear h509 hz508
        refine X.cut [] i204_17 rfl ?_
        refine X.iconst 18 i204_17 rfl rfl (by decide) ?_
        refine X.retz i204_18 rfl t204 (by omega) ?_
        show X (EE s) d 281 16 [(0, zr 4 44), (1, zi a1)] [zi 0] m501 _
        refine X.ifne 21 19 i281_16 rfl rfl rfl (fun h510 => (by exfalso; omega)) (fun h510 => ?_)
        refine X.cut [] i281_19 rfl ?_
        refine X.iconst 20 i281_19 rfl rfl (by decide) ?_
        refine X.reti i281_20 rfl t281 ?_
        exact hQ (-1) m501 (by first | trivial | omega) (Eq.trans (zb_eq hFv503) (Eq.trans (if_pos h504) (Eq.trans (if_neg h506c) (Eq.trans (if_neg h509c) rfl)))) (hJ502.up (by omega)) 
      · have h509c : a1 ≤ 2000000000 := by omega
        clear h509 hz508
        refine X.iconst 14 i204_13 rfl rfl (by decide) ?_
        refine X.goto 18 i204_14 rfl rfl ?_
        refine X.cut [] i204_18 rfl ?_
        refine X.retz i204_18 rfl t204 (by omega) ?_
        show X (EE s) d 281 16 [(0, zr 4 44), (1, zi a1)] [zi 1] m501 _
        refine X.ifne 21 19 i281_16 rfl rfl rfl (fun h511 => ?_) (fun h511 => (by exfalso; omega))
        refine X.aload_n 22 i281_21 rfl rfl rfl ?_
        refine X.getF 25 i281_22 rfl rfl (by decide) rfl rfl ?_
        refine X.iconst 26 i281_25 rfl rfl (by decide) ?_
        refine X.lald 27 i281_26 rfl rfl (by decide) rfl (by omega) ?_
        have h512 := r45_0 hJ502 4
        refine X.l2i 28 i281_27 rfl rfl (by omega) ?_
        refine X.istore_n 29 [(0, zr 4 44), (1, zi a1), (2, zi (m501 4 45 0))] i281_28 rfl rfl rfl ?_
        refine X.aload_n 30 i281_29 rfl rfl rfl ?_
        refine X.ldc2 33 i281_30 rfl rfl (by decide) ?_
        refine X.callv 36 [zl 64] [] [(0, zr 4 44), (1, zl 64)] i281_33 rfl (by decide) rfl rfl (by omega) rfl rfl (by decide) rfl t232 (Nat.le_of_ble_eq_true rfl) (Nat.le_of_ble_eq_true rfl) rfl ?_
        refine c232_1 (B := B)  64 (by omega) (hJ502.up (by omega)) (by omega) (by omega) hf27 hf28 hg4 (fun m513 hFv515 hJ514 => ?_)
        show X (EE s) d 281 36 [(0, zr 4 44), (1, zi a1), (2, zi (m501 4 45 0))] [] m513 _
        refine X.aload_n 37 i281_36 rfl rfl rfl ?_
        refine X.getF 40 i281_37 rfl rfl (by decide) rfl rfl ?_
        refine X.iconst 41 i281_40 rfl rfl (by decide) ?_
        refine X.iload_n 42 i281_41 rfl rfl rfl ?_
        refine X.i2l 43 i281_42 rfl rfl ?_
        refine X.last' 44 i281_43 rfl rfl (by decide) rfl (by omega) (fun hrm516 m516 hm516 => ?_)
        have hJ517 := w45_0 hJ514 hm516 (by omega) hf31 hg4
        refine X.aload_n 45 i281_44 rfl rfl rfl ?_
        refine X.callv 48 [] [] [(0, zr 4 44)] i281_45 rfl (by decide) rfl rfl (by omega) rfl rfl (by decide) rfl t233 (Nat.le_of_ble_eq_true rfl) (Nat.le_of_ble_eq_true rfl) rfl ?_
        refine c233_1 (B := B + 1)   (by omega) (hJ517.up (by omega)) (by omega)  hf27 hg4 (fun m518 hFv520 hJ519 => ?_)
        show X (EE s) d 281 48 [(0, zr 4 44), (1, zi a1), (2, zi (m501 4 45 0))] [] m518 _
        refine X.aload_n 49 i281_48 rfl rfl rfl ?_
        refine X.bipush 51 i281_49 rfl rfl (by decide) ?_
        refine X.iload_n 52 i281_51 rfl rfl rfl ?_
        refine X.i2l 53 i281_52 rfl rfl ?_
        refine X.callv 56 [zi 20, zl (m501 4 45 0)] [] [(0, zr 4 44), (1, zi 20), (2, zl (m501 4 45 0))] i281_53 rfl (by decide) rfl rfl (by omega) rfl rfl (by decide) rfl t223 (Nat.le_of_ble_eq_true rfl) (Nat.le_of_ble_eq_true rfl) rfl ?_
        refine c223_1 (B := B + 1)  20 (m501 4 45 0) (by omega) (hJ519.up (by omega)) (by omega) (by omega) hf26 hg4 (fun m521 hFv523 hJ522 => ?_)
        show X (EE s) d 281 56 [(0, zr 4 44), (1, zi a1), (2, zi (m501 4 45 0))] [] m521 _
        refine X.iload_n 57 i281_56 rfl rfl rfl ?_
        refine X.reti i281_57 rfl t281 ?_
        exact hQ (m501 4 45 0) m521 (by first | trivial | omega) (Eq.trans (zb_eq hFv503) (Eq.trans (if_pos h504) (Eq.trans (if_neg h506c) (Eq.trans (if_pos h509c) (Eq.trans (zs_eq hFv515.symm) (Eq.trans (zs_eq hm516) (Eq.trans (zs_eq hFv520.symm) (Eq.trans (zs_eq hFv523.symm) rfl)))))))) (hJ522.up (by omega)) 
-- WorkMeter$Meter.note
theorem c54_7 {s : Nat × (Nat → Int32)} {S : zS} {m0 m : zM} {B : Int} {d : Nat} {Q : Option zV → zM → Prop} (g0 : Nat) (a1 a2 : Int) (hd : 14 ≤ d) (hJ : J S m0 B m) (hB : B + 1 ≤ 1000000000) (ha1 : 21 ≤ a1 ∧ a1 ≤ 21) (ha2 : 1 ≤ a2 ∧ a2 ≤ 100000) (hf6 : ¬ S.1 6) (hgg0 : ¬ S.2.1 g0) (hQ : ∀ m', f54_1 g0 a1 a2 m = m' → J S m0 (B + 1) m' → Q none m') : X (EE s) d 54 0 [(0, zr g0 8), (1, zi a1), (2, zi a2)] [] m Q := by
  refine X.aload_n 1 i54_0 rfl rfl rfl ?_
  refine X.getR 4 i54_1 rfl rfl (by decide) rfl rfl ?_
  refine X.aload_n 5 i54_4 rfl rfl rfl ?_
  refine X.getI 8 9 i54_5 rfl rfl (by decide) rfl rfl rfl ?_
  have h501 := r8_9 hJ g0
  refine X.iload_n 9 i54_8 rfl rfl rfl ?_
  refine X.iload_n 10 i54_9 rfl rfl rfl ?_
  refine X.callv 13 [zi (m g0 8 9), zi a1, zi a2] [] [(0, zr g0 37), (1, zi (m g0 8 9)), (2, zi a1), (3, zi a2)] i54_10 rfl (by decide) rfl rfl (by omega) rfl rfl (by decide) rfl t55 (Nat.le_of_ble_eq_true rfl) (Nat.le_of_ble_eq_true rfl) rfl ?_
  refine c55_1 (B := B) g0 (m g0 8 9) a1 a2 (by omega) (hJ.up (by omega)) (by omega) (by omega) (by omega) (by omega) hf6 hgg0 (fun m502 hFv504 hJ503 => ?_)
  show X (EE s) d 54 13 [(0, zr g0 8), (1, zi a1), (2, zi a2)] [] m502 _
  refine X.retv i54_13 rfl t54 ?_
  exact hQ  m502  (Eq.trans (zs_eq hFv504.symm) rfl) (hJ503.up (by omega)) 
noncomputable def fl132_2_1_b (self : Int → zM → zM) (k36 : zM → zM) (g0 g1 : Nat) (y2 : Int) (y3 : Int) (m : zM) : zM :=
  if 5 ≤ y3 then
  (k36 m)
  else
  (zs (z_upd m g0 36 y3 0) fun m517 =>
  zn (f40_1 g0 y3 m517) fun v521 =>
  zs (if v521 = 0 then
  (m517)
  else
  (zs (f57_1 g0 g1 y3 0 y2 m517) fun m523 =>
  m523)) fun m527 =>
  self (y3 + 1) m527)
noncomputable def fl132_2_1 (k36 : zM → zM) (g0 g1 : Nat) (y2 : Int) : Nat → Int → zM → zM
  | 0 => fun y3 m => m
  | n + 1 => fl132_2_1_b (fl132_2_1 k36 g0 g1 y2 n) k36 g0 g1 y2
theorem l132_2_1 {s : Nat × (Nat → Int32)} {S : zS} {m0 : zM} {d : Nat} {Q : Option zV → zM → Prop} {R0 : zM} {k36 : zM → zM} (g0 g1 : Nat) (y2 : Int) (BE : Int) (hE : BE ≤ 1000000000) (hd : 15 ≤ d) (hy2 : 0 ≤ y2 ∧ y2 ≤ 2000000000) (hf6 : ¬ S.1 6) (hf9 : ¬ S.1 9) (hgg0 : ¬ S.2.1 g0) (hgg1 : ¬ S.2.1 g1)
    (K36 : ∀ (m' : zM) (B' : Int), J S m0 B' m' → B' ≤ BE → R0 = k36 m' → X (EE s) d 132 36 [] [] m' Q) :
    ∀ (n : Nat) (y3 : Int) (m : zM) (B : Int), J S m0 B m → B + 1 * (n : Int) ≤ BE → (2 ≤ y3 ∧ y3 ≤ 5) → 5 - y3 < (n : Int) → R0 = fl132_2_1 k36 g0 g1 y2 n y3 m → X (EE s) d 132 2 [(0, zr g0 33), (1, zr g1 37), (2, zi y2), (3, zi y3)] [] m Q := by
  intro n
  induction n with
  | zero =>
    intro y3 m B hJ hB hy3 hn hR
    exfalso
    omega
  | succ n ih =>
    intro y3 m B hJ hB hy3 hn hR
    replace hR : R0 = fl132_2_1_b (fl132_2_1 k36 g0 g1 y2 n) k36 g0 g1 y2 y3 m := hR
    refine X.iload_n 3 i132_2 rfl rfl rfl ?_
    refine X.iconst 4 i132_3 rfl rfl (by decide) ?_
    refine X.icmpge 36 7 i132_4 rfl rfl rfl (fun h516 => ?_) (fun h516 => ?_)
    · refine X.cut [] i132_36 rfl ?_
      exact K36  m (B) (hJ.up (by omega)) (by omega)  (Eq.trans hR (Eq.trans (if_pos h516) rfl))
    · refine X.aload_n 8 i132_7 rfl rfl rfl ?_
      refine X.getR 11 i132_8 rfl rfl (by decide) rfl rfl ?_
      refine X.iload_n 12 i132_11 rfl rfl rfl ?_
      refine X.iconst 13 i132_12 rfl rfl (by decide) ?_
      refine X.iast' 14 i132_13 rfl rfl (by decide) rfl (by omega) (fun hrm517 m517 hm517 => ?_)
      have hJ518 := w36_0 hJ hm517 (by omega) hrm517 hf9 hgg0
      refine X.aload_n 15 i132_14 rfl rfl rfl ?_
      refine X.iload_n 16 i132_15 rfl rfl rfl ?_
      refine X.callv 19 [zi y3] [] [(0, zr g0 33), (1, zi y3)] i132_16 rfl (by decide) rfl rfl (by omega) rfl rfl (by decide) rfl t40 (Nat.le_of_ble_eq_true rfl) (Nat.le_of_ble_eq_true rfl) rfl ?_
      refine c40_1 (B := B) g0 y3 (by omega) (hJ518.up (by omega)) (by omega) (by omega) (fun v521 hv521 hFv521 => ?_)
      show X (EE s) d 132 19 [(0, zr g0 33), (1, zr g1 37), (2, zi y2), (3, zi y3)] [zi v521] m517 _
      have hK529 : ∀ (m' : zM), (if v521 = 0 then
          (m517)
          else
          (zs (f57_1 g0 g1 y3 0 y2 m517) fun m523 =>
          m523)) = m' → J S m0 (B + 1) m' → X (EE s) d 132 30 [(0, zr g0 33), (1, zr g1 37), (2, zi y2), (3, zi y3)] [] m' Q := by
        intro m527 hT530 hJ528
        refine X.iinc 33 [(0, zr g0 33), (1, zr g1 37), (2, zi y2), (3, zi (y3 + 1))] i132_30 rfl rfl rfl (by omega) rfl ?_
        refine X.goto 2 i132_33 rfl rfl ?_
        exact ih (y3 + 1) m527 (B + 1) (hJ528.up (by omega)) (by omega) (by omega) (by omega) (Eq.trans hR (Eq.trans (if_neg h516) (Eq.trans (zs_eq hm517) (Eq.trans (zn_eq hFv521.symm) (Eq.trans (zs_eq hT530.symm) rfl)))))
      refine X.ifeq 30 22 i132_19 rfl rfl rfl (fun h522 => ?_) (fun h522 => ?_)
      · exact hK529 m517 (Eq.trans (if_pos h522) rfl) (hJ518.up (by omega))
      · refine X.aload_n 23 i132_22 rfl rfl rfl ?_
        refine X.iload_n 24 i132_23 rfl rfl rfl ?_
        refine X.iconst 25 i132_24 rfl rfl (by decide) ?_
        refine X.aload_n 26 i132_25 rfl rfl rfl ?_
        refine X.iload_n 27 i132_26 rfl rfl rfl ?_
        refine X.callv 30 [zi y3, zi 0, zr g1 37, zi y2] [] [(0, zr g0 33), (1, zi y3), (2, zi 0), (3, zr g1 37), (4, zi y2)] i132_27 rfl (by decide) rfl rfl (by omega) rfl rfl (by decide) rfl t57 (Nat.le_of_ble_eq_true rfl) (Nat.le_of_ble_eq_true rfl) rfl ?_
        refine c57_1 (B := B) g0 g1 y3 0 y2 (by omega) (hJ518.up (by omega)) (by omega) (by omega) (by omega) (by omega) hf6 hf9 hgg0 hgg1 (fun m523 hFv525 hJ524 => ?_)
        show X (EE s) d 132 30 [(0, zr g0 33), (1, zr g1 37), (2, zi y2), (3, zi y3)] [] m523 _
        exact hK529 m523 (Eq.trans (if_neg h522) (Eq.trans (zs_eq hFv525.symm) rfl)) (hJ524.up (by omega))
-- WorkMeter$Marks.beginAnew
noncomputable def f132_1 (g0 g1 : Nat) (a2 : Int) (m : zM) : zM :=
  fl132_2_1 (fun m501 =>
  m501) g0 g1 a2 (zfu 4) 2 m
-- WorkMeter$Marks.beginAnew
theorem c132_1 {s : Nat × (Nat → Int32)} {S : zS} {m0 m : zM} {B : Int} {d : Nat} {Q : Option zV → zM → Prop} (g0 g1 : Nat) (a2 : Int) (hd : 15 ≤ d) (hJ : J S m0 B m) (hB : B + 4 ≤ 1000000000) (ha2 : 0 ≤ a2 ∧ a2 ≤ 2000000000) (hf6 : ¬ S.1 6) (hf9 : ¬ S.1 9) (hgg0 : ¬ S.2.1 g0) (hgg1 : ¬ S.2.1 g1) (hQ : ∀ m', f132_1 g0 g1 a2 m = m' → J S m0 (B + 4) m' → Q none m') : X (EE s) d 132 0 [(0, zr g0 33), (1, zr g1 37), (2, zi a2)] [] m Q := by
  refine X.iconst 1 i132_0 rfl rfl (by decide) ?_
  refine X.istore_n 2 [(0, zr g0 33), (1, zr g1 37), (2, zi a2), (3, zi 2)] i132_1 rfl rfl rfl ?_
  have hz4 := zfu_eq 4
  refine l132_2_1 (s := s) (d := d) (R0 := (f132_1 g0 g1 a2 m)) g0 g1 a2  (BE := B + 4) (by omega) (by omega) (by omega) hf6 hf9 hgg0 hgg1 (fun  m501 B502 hJ503 hBB502 hR504 => ?_) (zfu 4) 2 m (B) (hJ.up (by omega)) (by omega) (by omega) (by omega) rfl
  refine X.retv i132_36 rfl t132 ?_
  exact hQ  m501  (Eq.trans hR504 rfl) (hJ503.up (by omega)) 
-- WorkMeter$Load.addOff
noncomputable def f133_1 (g0 : Nat) (a1 a2 : Int) (m : zM) : zM :=
  zn (w32 ((m g0 27 7) + a1)) fun z502 =>
  zs (z_upd m g0 27 7 z502) fun m503 =>
  zn (zor (m503 g0 27 8) a2) fun z506 =>
  zs (z_upd m503 g0 27 8 z506) fun m507 =>
  m507
-- WorkMeter$Load.addOff
theorem c133_1 {s : Nat × (Nat → Int32)} {S : zS} {m0 m : zM} {B : Int} {d : Nat} {Q : Option zV → zM → Prop} (g0 : Nat) (a1 a2 : Int) (hd : 13 ≤ d) (hJ : J S m0 B m) (hB : B + 0 ≤ 1000000000) (ha1 : (-999998) ≤ a1 ∧ a1 ≤ 1000000) (ha2 : (-2147483648) ≤ a2 ∧ a2 ≤ 2147483647) (hf7 : ¬ S.1 7) (hgg0 : ¬ S.2.1 g0) (hQ : ∀ m', f133_1 g0 a1 a2 m = m' → J S m0 (B) m' → Q none m') : X (EE s) d 133 0 [(0, zr g0 27), (1, zi a1), (2, zi a2)] [] m Q := by
  refine X.aload_n 1 i133_0 rfl rfl rfl ?_
  refine X.dup 2 i133_1 rfl rfl rfl ?_
  refine X.getIr 5 7 i133_2 rfl rfl (by decide) rfl rfl rfl (fun h501 => ?_)
  refine X.iload_n 6 i133_5 rfl rfl rfl ?_
  refine X.iaddW 7 i133_6 rfl rfl (fun z502 ez502 hz502 => ?_)
  refine X.putI' 10 7 i133_7 rfl rfl (by decide) rfl rfl rfl (fun hrm503 m503 hm503 => ?_)
  have hJ504 := w27_3 hJ hm503 (by omega) hrm503 hf7 hgg0
  refine X.aload_n 11 i133_10 rfl rfl rfl ?_
  refine X.dup 12 i133_11 rfl rfl rfl ?_
  refine X.getIr 15 8 i133_12 rfl rfl (by decide) rfl rfl rfl (fun h505 => ?_)
  refine X.iload_n 16 i133_15 rfl rfl rfl ?_
  refine X.iiE 17 .ior (fun x y => x ||| y) i133_16 rfl rfl rfl (fun _ _ => rfl) (fun z506 ez506 hz506 => ?_)
  refine X.putI' 20 8 i133_17 rfl rfl (by decide) rfl rfl rfl (fun hrm507 m507 hm507 => ?_)
  have hJ508 := w27_3 hJ504 hm507 (by omega) hrm507 hf7 hgg0
  refine X.retv i133_20 rfl t133 ?_
  exact hQ  m507  (Eq.trans (zn_eq ez502) (Eq.trans (zs_eq hm503) (Eq.trans (zn_eq ez506) (Eq.trans (zs_eq hm507) rfl)))) (hJ508.up (by omega)) 
-- WorkMeter$Calendar.tariffOn
theorem c27_2 {s : Nat × (Nat → Int32)} {S : zS} {m0 m : zM} {B : Int} {d : Nat} {Q : Option zV → zM → Prop} (g0 : Nat) (a1 : Int) (hd : 15 ≤ d) (hJ : J S m0 B m) (hB : B + 0 ≤ 1000000000) (ha1 : 0 ≤ a1 ∧ a1 ≤ 2000185600) (hQ : ∀ (v : Int), (0 ≤ v ∧ v ≤ 3) → f27_1 g0 a1 m = v → Q (some (zi v)) m) : X (EE s) d 27 0 [(0, zr g0 11), (1, zi a1)] [] m Q := by
  refine X.aload_n 1 i27_0 rfl rfl rfl ?_
  refine X.aload_n 2 i27_1 rfl rfl rfl ?_
  refine X.iload_n 3 i27_2 rfl rfl rfl ?_
  refine X.ldc 5 i27_3 rfl rfl (by decide) ?_
  refine X.idiv 6 i27_5 rfl rfl (by omega) ?_
  refine X.callv 9 [zi (a1 / 86400)] [zr g0 11] [(0, zr g0 11), (1, zi (a1 / 86400))] i27_6 rfl (by decide) rfl rfl (by omega) rfl rfl (by decide) rfl t28 (Nat.le_of_ble_eq_true rfl) (Nat.le_of_ble_eq_true rfl) rfl ?_
  refine c28_1 (B := B) g0 (a1 / 86400) (by omega) (hJ.up (by omega)) (by omega) (by omega) (fun v503 hv503 hFv503 => ?_)
  show X (EE s) d 27 9 [(0, zr g0 11), (1, zi a1)] [zi v503, zr g0 11] m _
  refine X.iload_n 10 i27_9 rfl rfl rfl ?_
  refine X.ldc 12 i27_10 rfl rfl (by decide) ?_
  refine X.irem 13 i27_12 rfl rfl (by omega) ?_
  refine X.callv 16 [zi v503, zi (a1 % 86400)] [] [(0, zr g0 11), (1, zi v503), (2, zi (a1 % 86400))] i27_13 rfl (by decide) rfl rfl (by omega) rfl rfl (by decide) rfl t31 (Nat.le_of_ble_eq_true rfl) (Nat.le_of_ble_eq_true rfl) rfl ?_
  refine c31_1 (B := B) g0 v503 (a1 % 86400) (by omega) (hJ.up (by omega)) (by omega) (by omega) (by omega) (fun v506 hv506 hFv506 => ?_)
  show X (EE s) d 27 16 [(0, zr g0 11), (1, zi a1)] [zi v506] m _
  refine X.reti i27_16 rfl t27 ?_
  exact hQ v506 (by first | trivial | omega) (Eq.trans (zn_eq hFv503.symm) (Eq.trans (zn_eq hFv506.symm) rfl)) 
-- WorkMeter$Calendar.tariffOn
theorem c27_3 {s : Nat × (Nat → Int32)} {S : zS} {m0 m : zM} {B : Int} {d : Nat} {Q : Option zV → zM → Prop} (g0 : Nat) (a1 : Int) (hd : 15 ≤ d) (hJ : J S m0 B m) (hB : B + 0 ≤ 1000000000) (ha1 : 0 ≤ a1 ∧ a1 ≤ 2000185600) (hQ : ∀ (v : Int), (0 ≤ v ∧ v ≤ 3) → f27_1 g0 a1 m = v → Q (some (zi v)) m) : X (EE s) d 27 0 [(0, zr g0 11), (1, zi a1)] [] m Q := by
  refine X.aload_n 1 i27_0 rfl rfl rfl ?_
  refine X.aload_n 2 i27_1 rfl rfl rfl ?_
  refine X.iload_n 3 i27_2 rfl rfl rfl ?_
  refine X.ldc 5 i27_3 rfl rfl (by decide) ?_
  refine X.idiv 6 i27_5 rfl rfl (by omega) ?_
  refine X.callv 9 [zi (a1 / 86400)] [zr g0 11] [(0, zr g0 11), (1, zi (a1 / 86400))] i27_6 rfl (by decide) rfl rfl (by omega) rfl rfl (by decide) rfl t28 (Nat.le_of_ble_eq_true rfl) (Nat.le_of_ble_eq_true rfl) rfl ?_
  refine c28_1 (B := B) g0 (a1 / 86400) (by omega) (hJ.up (by omega)) (by omega) (by omega) (fun v503 hv503 hFv503 => ?_)
  show X (EE s) d 27 9 [(0, zr g0 11), (1, zi a1)] [zi v503, zr g0 11] m _
  refine X.iload_n 10 i27_9 rfl rfl rfl ?_
  refine X.ldc 12 i27_10 rfl rfl (by decide) ?_
  refine X.irem 13 i27_12 rfl rfl (by omega) ?_
  refine X.callv 16 [zi v503, zi (a1 % 86400)] [] [(0, zr g0 11), (1, zi v503), (2, zi (a1 % 86400))] i27_13 rfl (by decide) rfl rfl (by omega) rfl rfl (by decide) rfl t31 (Nat.le_of_ble_eq_true rfl) (Nat.le_of_ble_eq_true rfl) rfl ?_
  refine c31_1 (B := B) g0 v503 (a1 % 86400) (by omega) (hJ.up (by omega)) (by omega) (by omega) (by omega) (fun v506 hv506 hFv506 => ?_)
  show X (EE s) d 27 16 [(0, zr g0 11), (1, zi a1)] [zi v506] m _
  refine X.reti i27_16 rfl t27 ?_
  exact hQ v506 (by first | trivial | omega) (Eq.trans (zn_eq hFv503.symm) (Eq.trans (zn_eq hFv506.symm) rfl)) 
noncomputable def fl131_43_1_b (self : Int → Int → zM → zM) (k133 : zM → zM) (g0 : Nat) (y1 y2 : Int) (y3 y4 : Int) (m : zM) : zM :=
  if y1 ≤ y4 then
  (k133 m)
  else
  (if y3 ≤ 0 then
  (k133 m)
  else
  (zn (((m g0 8 9) % y2)) fun z527 =>
  zs (f133_1 g0 (min y3 (y2 - z527)) (m g0 33 3) m) fun m529 =>
  zn (w32 ((m529 g0 8 15) + (min y3 (y2 - z527)))) fun z534 =>
  zs (z_upd m529 g0 8 15 z534) fun m535 =>
  zs (z_upd m535 g0 8 9 ((m535 g0 8 9) + (min y3 (y2 - z527)))) fun m538 =>
  zn (f27_1 g0 ((m538 g0 8 9) - 1) m538) fun v542 =>
  zs (f59_1 g0 v542 m538) fun m543 =>
  self (y3 - (min y3 (y2 - z527))) (y4 + 1) m543))
noncomputable def fl131_43_1 (k133 : zM → zM) (g0 : Nat) (y1 y2 : Int) : Nat → Int → Int → zM → zM
  | 0 => fun y3 y4 m => m
  | n + 1 => fl131_43_1_b (fl131_43_1 k133 g0 y1 y2 n) k133 g0 y1 y2
theorem l131_43_1 {s : Nat × (Nat → Int32)} {S : zS} {m0 : zM} {d : Nat} {Q : Option zV → zM → Prop} {R0 : zM} {k133 : zM → zM} (g0 : Nat) (y1 y2 : Int) (BE : Int) (hE : BE ≤ 1000000000) (hd : 17 ≤ d) (hy1 : 1 ≤ y1 ∧ y1 ≤ 100000) (hy2 : 1 ≤ y2 ∧ y2 ≤ 1000000) (hf7 : ¬ S.1 7) (hf8 : ¬ S.1 8) (hf11 : ¬ S.1 11) (hf13 : ¬ S.1 13) (hgg0 : ¬ S.2.1 g0)
    (K133 : ∀ (m' : zM) (B' : Int), J S m0 B' m' → B' ≤ BE → R0 = k133 m' → X (EE s) d 131 133 [] [] m' Q) :
    ∀ (n : Nat) (y3 y4 : Int) (m : zM) (B : Int), J S m0 B m → B + 1 * (n : Int) ≤ BE → (0 ≤ y3 ∧ y3 ≤ 2000000000) → (0 ≤ y4 ∧ y4 ≤ 100000) → (m g0 8 9 + y3 ≤ 2000000000) → (0 ≤ y3) → 100000 - y4 < (n : Int) → R0 = fl131_43_1 k133 g0 y1 y2 n y3 y4 m → X (EE s) d 131 43 [(0, zr g0 8), (1, zi y1), (2, zi y2), (3, zi y3), (4, zi y4)] [] m Q := by
  intro n
  induction n with
  | zero =>
    intro y3 y4 m B hJ hB hy3 hy4 hr0 hr1 hn hR
    exfalso
    omega
  | succ n ih =>
    intro y3 y4 m B hJ hB hy3 hy4 hr0 hr1 hn hR
    replace hR : R0 = fl131_43_1_b (fl131_43_1 k133 g0 y1 y2 n) k133 g0 y1 y2 y3 y4 m := hR
    refine X.iload 45 i131_43 rfl rfl rfl ?_
    refine X.iload_n 46 i131_45 rfl rfl rfl ?_
    refine X.icmpge 133 49 i131_46 rfl rfl rfl (fun h524 => ?_) (fun h524 => ?_)
    · refine X.cut [] i131_133 rfl ?_
      exact K133  m (B) (hJ.up (by omega)) (by omega)  (Eq.trans hR (Eq.trans (if_pos h524) rfl))
    · refine X.iload_n 50 i131_49 rfl rfl rfl ?_
      refine X.ifle 133 53 i131_50 rfl rfl rfl (fun h525 => ?_) (fun h525 => ?_)
      · refine X.cut [] i131_133 rfl ?_
        exact K133  m (B) (hJ.up (by omega)) (by omega)  (Eq.trans hR (Eq.trans (if_neg h524) (Eq.trans (if_pos h525) rfl)))
      · refine X.iload_n 54 i131_53 rfl rfl rfl ?_
        refine X.iload_n 55 i131_54 rfl rfl rfl ?_
        refine X.aload_n 56 i131_55 rfl rfl rfl ?_
        refine X.getI 59 9 i131_56 rfl rfl (by decide) rfl rfl rfl ?_
        have h526 := r8_9 hJ g0
        refine X.iload_n 60 i131_59 rfl rfl rfl ?_
        refine X.irem 61 i131_60 rfl rfl (by omega) ?_
        have hz527 := z_modb (x := (m g0 8 9)) (y := y2) (by omega) (by omega)
        obtain ⟨z527, ez527⟩ : ∃ z, z = ((m g0 8 9) % y2) := ⟨_, rfl⟩
        rw [← ez527] at hz527 ⊢
        refine X.isub 62 i131_61 rfl rfl (by omega) ?_
        refine X.minI 65 i131_62 rfl rfl (by omega) (Nat.le_of_ble_eq_true rfl) ?_
        refine X.istore 67 [(0, zr g0 8), (1, zi y1), (2, zi y2), (3, zi y3), (4, zi y4), (5, zi (min y3 (y2 - z527)))] i131_65 rfl rfl rfl ?_
        refine X.aload_n 68 i131_67 rfl rfl rfl ?_
        refine X.getR 71 i131_68 rfl rfl (by decide) rfl rfl ?_
        refine X.iload 73 i131_71 rfl rfl rfl ?_
        refine X.aload_n 74 i131_73 rfl rfl rfl ?_
        refine X.getR 77 i131_74 rfl rfl (by decide) rfl rfl ?_
        refine X.getIr 80 3 i131_77 rfl rfl (by decide) rfl rfl rfl (fun h528 => ?_)
        refine X.callv 83 [zi (min y3 (y2 - z527)), zi (m g0 33 3)] [] [(0, zr g0 27), (1, zi (min y3 (y2 - z527))), (2, zi (m g0 33 3))] i131_80 rfl (by decide) rfl rfl (by omega) rfl rfl (by decide) rfl t133 (Nat.le_of_ble_eq_true rfl) (Nat.le_of_ble_eq_true rfl) rfl ?_
        refine c133_1 (S := (fun f => f ∉ [7], fun g => g ∉ [g0], (S).2.2)) (m0 := m) (B := B) g0 (min y3 (y2 - z527)) (m g0 33 3) (by omega) ((J.nw hJ).up (by omega)) (by omega) (by omega) (by omega) (zo_m rfl) (by simp) (fun m529 hFv531 hJ530 => ?_)
        have wom529_8 : m529 g0 8 9 = m g0 8 9 := hJ530.eqf 11 rfl (show (11 : Nat) ∉ ([7] : List Nat) by decide)
        have hJ532 := J.ow hJ hJ530 (zo_c hf7 (zo_n)) (zo_c hgg0 (zo_n))
        show X (EE s) d 131 83 [(0, zr g0 8), (1, zi y1), (2, zi y2), (3, zi y3), (4, zi y4), (5, zi (min y3 (y2 - z527)))] [] m529 _
        refine X.aload_n 84 i131_83 rfl rfl rfl ?_
        refine X.dup 85 i131_84 rfl rfl rfl ?_
        refine X.getIr 88 15 i131_85 rfl rfl (by decide) rfl rfl rfl (fun h533 => ?_)
        refine X.iload 90 i131_88 rfl rfl rfl ?_
        refine X.iaddW 91 i131_90 rfl rfl (fun z534 ez534 hz534 => ?_)
        refine X.putI' 94 15 i131_91 rfl rfl (by decide) rfl rfl rfl (fun hrm535 m535 hm535 => ?_)
        have hJ536 := w8_13 hJ532 hm535 (by omega) hrm535 hf13 hgg0
        have wtm535_0 : m535 g0 8 9 = m529 g0 8 9 := by rw [hm535]; exact z_upd_i _ _ _ _ (by omega)
        refine X.aload_n 95 i131_94 rfl rfl rfl ?_
        refine X.dup 96 i131_95 rfl rfl rfl ?_
        refine X.getI 99 9 i131_96 rfl rfl (by decide) rfl rfl rfl ?_
        have h537 := r8_9 hJ536 g0
        refine X.iload 101 i131_99 rfl rfl rfl ?_
        refine X.iadd 102 i131_101 rfl rfl (by omega) ?_
        refine X.putI' 105 9 i131_102 rfl rfl (by decide) rfl rfl rfl (fun hrm538 m538 hm538 => ?_)
        have hJ539 := w8_9 hJ536 hm538 (by omega) hf11 hgg0
        have em538 : m538 g0 8 9 = ((m535 g0 8 9) + (min y3 (y2 - z527))) := by rw [hm538]; exact z_upd_same _ _ _ _ _
        refine X.iload_n 106 i131_105 rfl rfl rfl ?_
        refine X.iload 108 i131_106 rfl rfl rfl ?_
        refine X.isub 109 i131_108 rfl rfl (by omega) ?_
        refine X.istore_n 110 [(0, zr g0 8), (1, zi y1), (2, zi y2), (3, zi (y3 - (min y3 (y2 - z527)))), (4, zi y4), (5, zi (min y3 (y2 - z527)))] i131_109 rfl rfl rfl ?_
        refine X.aload_n 111 i131_110 rfl rfl rfl ?_
        refine X.aload_n 112 i131_111 rfl rfl rfl ?_
        refine X.getR 115 i131_112 rfl rfl (by decide) rfl rfl ?_
        refine X.aload_n 116 i131_115 rfl rfl rfl ?_
        refine X.getI 119 9 i131_116 rfl rfl (by decide) rfl rfl rfl ?_
        refine X.iconst 120 i131_119 rfl rfl (by decide) ?_
        refine X.isub 121 i131_120 rfl rfl (by omega) ?_
        refine X.callv 124 [zi ((m538 g0 8 9) - 1)] [zr g0 8] [(0, zr g0 11), (1, zi ((m538 g0 8 9) - 1))] i131_121 rfl (by decide) rfl rfl (by omega) rfl rfl (by decide) rfl t27 (Nat.le_of_ble_eq_true rfl) (Nat.le_of_ble_eq_true rfl) rfl ?_
        refine c27_3 (B := B) g0 ((m538 g0 8 9) - 1) (by omega) (hJ539.up (by omega)) (by omega) (by omega) (fun v542 hv542 hFv542 => ?_)
        show X (EE s) d 131 124 [(0, zr g0 8), (1, zi y1), (2, zi y2), (3, zi (y3 - (min y3 (y2 - z527)))), (4, zi y4), (5, zi (min y3 (y2 - z527)))] [zi v542, zr g0 8] m538 _
        refine X.callv 127 [zi v542] [] [(0, zr g0 8), (1, zi v542)] i131_124 rfl (by decide) rfl rfl (by omega) rfl rfl (by decide) rfl t59 (Nat.le_of_ble_eq_true rfl) (Nat.le_of_ble_eq_true rfl) rfl ?_
        refine c59_1 (S := (fun f => f ∉ [7, 8], fun g => g ∉ [g0], (S).2.2)) (m0 := m538) (B := B) g0 v542 (by omega) ((J.nw hJ539).up (by omega)) (by omega) (by omega) (zo_m rfl) (zo_m rfl) (by simp) (fun m543 hFv545 hJ544 => ?_)
        have wom543_8 : m543 g0 8 9 = m538 g0 8 9 := hJ544.eqf 11 rfl (show (11 : Nat) ∉ ([7, 8] : List Nat) by decide)
        have hJ546 := J.ow hJ539 hJ544 (zo_c hf7 (zo_c hf8 (zo_n))) (zo_c hgg0 (zo_n))
        show X (EE s) d 131 127 [(0, zr g0 8), (1, zi y1), (2, zi y2), (3, zi (y3 - (min y3 (y2 - z527)))), (4, zi y4), (5, zi (min y3 (y2 - z527)))] [] m543 _
        refine X.iinc 130 [(0, zr g0 8), (1, zi y1), (2, zi y2), (3, zi (y3 - (min y3 (y2 - z527)))), (4, zi (y4 + 1)), (5, zi (min y3 (y2 - z527)))] i131_127 rfl rfl rfl (by omega) rfl ?_
        refine X.goto 43 i131_130 rfl rfl ?_
        refine X.cut [(0, zr g0 8), (1, zi y1), (2, zi y2), (3, zi (y3 - (min y3 (y2 - z527)))), (4, zi (y4 + 1))] i131_43 rfl ?_
        exact ih (y3 - (min y3 (y2 - z527))) (y4 + 1) m543 (B + 1) (hJ546.up (by omega)) (by omega) (by omega) (by omega) (by omega) (by omega) (by omega) (Eq.trans hR (Eq.trans (if_neg h524) (Eq.trans (if_neg h525) (Eq.trans (zn_eq ez527) (Eq.trans (zs_eq hFv531.symm) (Eq.trans (zn_eq ez534) (Eq.trans (zs_eq hm535) (Eq.trans (zs_eq hm538) (Eq.trans (zn_eq hFv542.symm) (Eq.trans (zs_eq hFv545.symm) rfl))))))))))
-- WorkMeter$Meter.goOff
noncomputable def f131_1 (g0 : Nat) (a1 : Int) (m : zM) : zM :=
  zs (f54_1 g0 21 a1 m) fun m501 =>
  zs (f132_1 g0 g0 (m501 g0 8 9) m501) fun m506 =>
  zs (z_upd m506 g0 19 5 0) fun m510 =>
  fl131_43_1 (fun m513 =>
  m513) g0 a1 (max 1 (m510 g0 10 4)) (zfu 100001) a1 0 m510
-- WorkMeter$Meter.goOff
theorem c131_1 {s : Nat × (Nat → Int32)} {S : zS} {m0 m : zM} {B : Int} {d : Nat} {Q : Option zV → zM → Prop} (g0 : Nat) (a1 : Int) (hd : 17 ≤ d) (hJ : J S m0 B m) (hB : B + 100006 ≤ 1000000000) (ha1 : 1 ≤ a1 ∧ a1 ≤ 100000) (hp0 : m g0 8 9 + a1 ≤ 2000000000) (hf2 : ¬ S.1 2) (hf6 : ¬ S.1 6) (hf7 : ¬ S.1 7) (hf8 : ¬ S.1 8) (hf9 : ¬ S.1 9) (hf11 : ¬ S.1 11) (hf13 : ¬ S.1 13) (hgg0 : ¬ S.2.1 g0) (hQ : ∀ m', f131_1 g0 a1 m = m' → J S m0 (B + 100006) m' → Q none m') : X (EE s) d 131 0 [(0, zr g0 8), (1, zi a1)] [] m Q := by
  refine X.aload_n 1 i131_0 rfl rfl rfl ?_
  refine X.bipush 3 i131_1 rfl rfl (by decide) ?_
  refine X.iload_n 4 i131_3 rfl rfl rfl ?_
  refine X.callv 7 [zi 21, zi a1] [] [(0, zr g0 8), (1, zi 21), (2, zi a1)] i131_4 rfl (by decide) rfl rfl (by omega) rfl rfl (by decide) rfl t54 (Nat.le_of_ble_eq_true rfl) (Nat.le_of_ble_eq_true rfl) rfl ?_
  refine c54_7 (S := (fun f => f ∉ [6], fun g => g ∉ [g0], (S).2.2)) (m0 := m) (B := B) g0 21 a1 (by omega) ((J.nw hJ).up (by omega)) (by omega) (by omega) (by omega) (zo_m rfl) (by simp) (fun m501 hFv503 hJ502 => ?_)
  have wom501_8 : m501 g0 8 9 = m g0 8 9 := hJ502.eqf 11 rfl (show (11 : Nat) ∉ ([6] : List Nat) by decide)
  have hJ504 := J.ow hJ hJ502 (zo_c hf6 (zo_n)) (zo_c hgg0 (zo_n))
  show X (EE s) d 131 7 [(0, zr g0 8), (1, zi a1)] [] m501 _
  refine X.aload_n 8 i131_7 rfl rfl rfl ?_
  refine X.getR 11 i131_8 rfl rfl (by decide) rfl rfl ?_
  refine X.aload_n 12 i131_11 rfl rfl rfl ?_
  refine X.getR 15 i131_12 rfl rfl (by decide) rfl rfl ?_
  refine X.aload_n 16 i131_15 rfl rfl rfl ?_
  refine X.getI 19 9 i131_16 rfl rfl (by decide) rfl rfl rfl ?_
  have h505 := r8_9 hJ504 g0
  refine X.callv 22 [zr g0 37, zi (m501 g0 8 9)] [] [(0, zr g0 33), (1, zr g0 37), (2, zi (m501 g0 8 9))] i131_19 rfl (by decide) rfl rfl (by omega) rfl rfl (by decide) rfl t132 (Nat.le_of_ble_eq_true rfl) (Nat.le_of_ble_eq_true rfl) rfl ?_
  refine c132_1 (S := (fun f => f ∉ [6, 9], fun g => g ∉ [g0, g0], (S).2.2)) (m0 := m501) (B := B + 1) g0 g0 (m501 g0 8 9) (by omega) ((J.nw hJ504).up (by omega)) (by omega) (by omega) (zo_m rfl) (zo_m rfl) (by simp) (by simp) (fun m506 hFv508 hJ507 => ?_)
  have wom506_8 : m506 g0 8 9 = m501 g0 8 9 := hJ507.eqf 11 rfl (show (11 : Nat) ∉ ([6, 9] : List Nat) by decide)
  have hJ509 := J.ow hJ504 hJ507 (zo_c hf6 (zo_c hf9 (zo_n))) (zo_c hgg0 (zo_c hgg0 (zo_n)))
  show X (EE s) d 131 22 [(0, zr g0 8), (1, zi a1)] [] m506 _
  refine X.aload_n 23 i131_22 rfl rfl rfl ?_
  refine X.getR 26 i131_23 rfl rfl (by decide) rfl rfl ?_
  refine X.iconst 27 i131_26 rfl rfl (by decide) ?_
  refine X.putI' 30 5 i131_27 rfl rfl (by decide) rfl rfl rfl (fun hrm510 m510 hm510 => ?_)
  have hJ511 := w19_5 hJ509 hm510 (by omega) hf2 hgg0
  have em510 : m510 g0 19 5 = 0 := by rw [hm510]; exact z_upd_same _ _ _ _ _
  have wtm510_0 : m510 g0 8 9 = m506 g0 8 9 := by rw [hm510]; exact z_upd_o _ _ rfl
  refine X.aload_n 31 i131_30 rfl rfl rfl ?_
  refine X.getR 34 i131_31 rfl rfl (by decide) rfl rfl ?_
  refine X.callv 37 [] [] [(0, zr g0 9)] i131_34 rfl (by decide) rfl rfl (by omega) rfl rfl (by decide) rfl t36 (Nat.le_of_ble_eq_true rfl) (Nat.le_of_ble_eq_true rfl) rfl ?_
  refine X.iconst 1 i36_0 rfl rfl (by decide) ?_
  refine X.aload_n 2 i36_1 rfl rfl rfl ?_
  refine X.getR 5 i36_2 rfl rfl (by decide) rfl rfl ?_
  refine X.iconst 6 i36_5 rfl rfl (by decide) ?_
  refine X.iald 7 i36_6 rfl rfl (by decide) rfl (by omega) ?_
  have h512 := r10_0 hJ511 g0 (i := 4) (by omega)
  refine X.maxI 10 i36_7 rfl rfl (by omega) (Nat.le_of_ble_eq_true rfl) ?_
  refine X.reti i36_10 rfl t36 ?_
  show X (EE s) d 131 37 [(0, zr g0 8), (1, zi a1)] [zi (max 1 (m510 g0 10 4))] m510 _
  refine X.istore_n 38 [(0, zr g0 8), (1, zi a1), (2, zi (max 1 (m510 g0 10 4)))] i131_37 rfl rfl rfl ?_
  refine X.iload_n 39 i131_38 rfl rfl rfl ?_
  refine X.istore_n 40 [(0, zr g0 8), (1, zi a1), (2, zi (max 1 (m510 g0 10 4))), (3, zi a1)] i131_39 rfl rfl rfl ?_
  refine X.iconst 41 i131_40 rfl rfl (by decide) ?_
  refine X.istore 43 [(0, zr g0 8), (1, zi a1), (2, zi (max 1 (m510 g0 10 4))), (3, zi a1), (4, zi 0)] i131_41 rfl rfl rfl ?_
  have hz100001 := zfu_eq 100001
  refine l131_43_1 (s := s) (d := d) (R0 := (f131_1 g0 a1 m)) g0 a1 (max 1 (m510 g0 10 4))  (BE := B + 100006) (by omega) (by omega) (by omega) (by omega) hf7 hf8 hf11 hf13 hgg0 (fun  m513 B514 hJ515 hBB514 hR516 => ?_) (zfu 100001) a1 0 m510 (B + 5) (hJ511.up (by omega)) (by omega) (by omega) (by omega) (by omega) (by omega) (by omega) (Eq.trans (zs_eq hFv503.symm) (Eq.trans (zs_eq hFv508.symm) (Eq.trans (zs_eq hm510) rfl)))
  refine X.retv i131_133 rfl t131 ?_
  exact hQ  m513  (Eq.trans hR516 rfl) (hJ515.up (by omega)) 
-- WorkMeter.off
noncomputable def f130_1 (a1 : Int) (m : zM) : Int × zM :=
  if a1 < 1 then
  (((-1), m))
  else
  (if 100000 < a1 then
  (((-1), m))
  else
  (if ((m 0 8 9) + a1) ≤ 2000000000 then
  (zs (f131_1 0 a1 m) fun m505 =>
  ((m505 0 8 9), m505))
  else
  (((-1), m))))
-- WorkMeter.off
theorem c130_1 {s : Nat × (Nat → Int32)} {S : zS} {m0 m : zM} {B : Int} {d : Nat} {Q : Option zV → zM → Prop} (a1 : Int) (hd : 18 ≤ d) (hJ : J S m0 B m) (hB : B + 100006 ≤ 1000000000) (ha1 : (-2147483648) ≤ a1 ∧ a1 ≤ 2147483647) (hf2 : ¬ S.1 2) (hf6 : ¬ S.1 6) (hf7 : ¬ S.1 7) (hf8 : ¬ S.1 8) (hf9 : ¬ S.1 9) (hf11 : ¬ S.1 11) (hf13 : ¬ S.1 13) (hg0 : ¬ S.2.1 0) (hQ : ∀ (v : Int) m', ((-1) ≤ v ∧ v ≤ 2000000000) → f130_1 a1 m = (v, m') → J S m0 (B + 100006) m' → Q (some (zi v)) m') : X (EE s) d 130 0 [(0, zr 4 40), (1, zi a1)] [] m Q := by
  refine X.iload_n 1 i130_0 rfl rfl rfl ?_
  refine X.iconst 2 i130_1 rfl rfl (by decide) ?_
  refine X.icmplt 25 5 i130_2 rfl rfl rfl (fun h501 => ?_) (fun h501 => ?_)
  · refine X.cut [] i130_25 rfl ?_
    refine X.iconst 26 i130_25 rfl rfl (by decide) ?_
    refine X.reti i130_26 rfl t130 ?_
    exact hQ (-1) m (by first | trivial | omega) (Eq.trans (if_pos h501) rfl) (hJ.up (by omega)) 
  · refine X.iload_n 6 i130_5 rfl rfl rfl ?_
    refine X.ldc 8 i130_6 rfl rfl (by decide) ?_
    refine X.icmpgt 25 11 i130_8 rfl rfl rfl (fun h502 => ?_) (fun h502 => ?_)
    · refine X.cut [] i130_25 rfl ?_
      refine X.iconst 26 i130_25 rfl rfl (by decide) ?_
      refine X.reti i130_26 rfl t130 ?_
      exact hQ (-1) m (by first | trivial | omega) (Eq.trans (if_neg h501) (Eq.trans (if_pos h502) rfl)) (hJ.up (by omega)) 
    · refine X.aload_n 12 i130_11 rfl rfl rfl ?_
      refine X.getF 15 i130_12 rfl rfl (by decide) rfl rfl ?_
      refine X.getI 18 9 i130_15 rfl rfl (by decide) rfl rfl rfl ?_
      have h503 := r8_9 hJ 0
      refine X.iload_n 19 i130_18 rfl rfl rfl ?_
      refine X.iadd 20 i130_19 rfl rfl (by omega) ?_
      refine X.ldc 22 i130_20 rfl rfl (by decide) ?_
      refine X.icmple 27 25 i130_22 rfl rfl rfl (fun h504 => ?_) (fun h504 => ?_)
      · refine X.aload_n 28 i130_27 rfl rfl rfl ?_
        refine X.getF 31 i130_28 rfl rfl (by decide) rfl rfl ?_
        refine X.iload_n 32 i130_31 rfl rfl rfl ?_
        refine X.callv 35 [zi a1] [] [(0, zr 0 8), (1, zi a1)] i130_32 rfl (by decide) rfl rfl (by omega) rfl rfl (by decide) rfl t131 (Nat.le_of_ble_eq_true rfl) (Nat.le_of_ble_eq_true rfl) rfl ?_
        refine c131_1 (B := B) 0 a1 (by omega) (hJ.up (by omega)) (by omega) (by omega) (by omega) hf2 hf6 hf7 hf8 hf9 hf11 hf13 hg0 (fun m505 hFv507 hJ506 => ?_)
        show X (EE s) d 130 35 [(0, zr 4 40), (1, zi a1)] [] m505 _
        refine X.aload_n 36 i130_35 rfl rfl rfl ?_
        refine X.getF 39 i130_36 rfl rfl (by decide) rfl rfl ?_
        refine X.getI 42 9 i130_39 rfl rfl (by decide) rfl rfl rfl ?_
        have h508 := r8_9 hJ506 0
        refine X.reti i130_42 rfl t130 ?_
        exact hQ (m505 0 8 9) m505 (by first | trivial | omega) (Eq.trans (if_neg h501) (Eq.trans (if_neg h502) (Eq.trans (if_pos h504) (Eq.trans (zs_eq hFv507.symm) rfl)))) (hJ506.up (by omega)) 
      · refine X.cut [] i130_25 rfl ?_
        refine X.iconst 26 i130_25 rfl rfl (by decide) ?_
        refine X.reti i130_26 rfl t130 ?_
        exact hQ (-1) m (by first | trivial | omega) (Eq.trans (if_neg h501) (Eq.trans (if_neg h502) (Eq.trans (if_neg h504) rfl))) (hJ.up (by omega)) 
noncomputable def fl282_47_1_b (self : Int → zM → Int × zM) (k87 : zM → Int × zM) (y1 : Int) (y2 : Int) (m : zM) : Int × zM :=
  if 5 ≤ y2 then
  (k87 m)
  else
  (zs (z_upd m 4 45 (55 + y2) 0) fun m515 =>
  zs (if (m515 4 45 (40 + y2)) = 1 then
  (zs (f229_1 y2 m515) fun m519 =>
  m519)
  else
  (m515)) fun m523 =>
  self (y2 + 1) m523)
noncomputable def fl282_47_1 (k87 : zM → Int × zM) (y1 : Int) : Nat → Int → zM → Int × zM
  | 0 => fun y2 m => (0, m)
  | n + 1 => fl282_47_1_b (fl282_47_1 k87 y1 n) k87 y1
theorem l282_47_1 {s : Nat × (Nat → Int32)} {S : zS} {m0 : zM} {d : Nat} {Q : Option zV → zM → Prop} {R0 : Int × zM} {k87 : zM → Int × zM} (y1 : Int) (BE : Int) (hE : BE ≤ 1000000000) (hd : 15 ≤ d) (hy1 : 1 ≤ y1 ∧ y1 ≤ 100000) (hf26 : ¬ S.1 26) (hf29 : ¬ S.1 29) (hg4 : ¬ S.2.1 4)
    (K87 : ∀ (m' : zM) (B' : Int), J S m0 B' m' → B' ≤ BE → R0 = k87 m' → X (EE s) d 282 87 [(0, zr 4 44), (1, zi y1)] [] m' Q) :
    ∀ (n : Nat) (y2 : Int) (m : zM) (B : Int), J S m0 B m → B + 1 * (n : Int) ≤ BE → (2 ≤ y2 ∧ y2 ≤ 5) → 5 - y2 < (n : Int) → R0 = fl282_47_1 k87 y1 n y2 m → X (EE s) d 282 47 [(0, zr 4 44), (1, zi y1), (2, zi y2)] [] m Q := by
  intro n
  induction n with
  | zero =>
    intro y2 m B hJ hB hy2 hn hR
    exfalso
    omega
  | succ n ih =>
    intro y2 m B hJ hB hy2 hn hR
    replace hR : R0 = fl282_47_1_b (fl282_47_1 k87 y1 n) k87 y1 y2 m := hR
    refine X.iload_n 48 i282_47 rfl rfl rfl ?_
    refine X.iconst 49 i282_48 rfl rfl (by decide) ?_
    refine X.icmpge 87 52 i282_49 rfl rfl rfl (fun h514 => ?_) (fun h514 => ?_)
    · refine X.cut [(0, zr 4 44), (1, zi y1)] i282_87 rfl ?_
      exact K87  m (B) (hJ.up (by omega)) (by omega)  (Eq.trans hR (Eq.trans (if_pos h514) rfl))
    · refine X.aload_n 53 i282_52 rfl rfl rfl ?_
      refine X.getF 56 i282_53 rfl rfl (by decide) rfl rfl ?_
      refine X.bipush 58 i282_56 rfl rfl (by decide) ?_
      refine X.iload_n 59 i282_58 rfl rfl rfl ?_
      refine X.iadd 60 i282_59 rfl rfl (by omega) ?_
      refine X.lconst (y := 0) 61 i282_60 rfl rfl rfl ?_
      refine X.last' 62 i282_61 rfl rfl (by decide) rfl (by omega) (fun hrm515 m515 hm515 => ?_)
      have hJ516 := w45_40 hJ hm515 (by omega) hrm515 hf29 hg4
      refine X.aload_n 63 i282_62 rfl rfl rfl ?_
      refine X.getF 66 i282_63 rfl rfl (by decide) rfl rfl ?_
      refine X.bipush 68 i282_66 rfl rfl (by decide) ?_
      refine X.iload_n 69 i282_68 rfl rfl rfl ?_
      refine X.iadd 70 i282_69 rfl rfl (by omega) ?_
      refine X.lald 71 i282_70 rfl rfl (by decide) rfl (by omega) ?_
      refine X.lconst (y := 1) 72 i282_71 rfl rfl rfl ?_
      refine X.lcmp 73 i282_72 rfl rfl (fun z517 hz517 => ?_)
      have hK525 : ∀ (m' : zM), (if (m515 4 45 (40 + y2)) = 1 then
          (zs (f229_1 y2 m515) fun m519 =>
          m519)
          else
          (m515)) = m' → J S m0 (B + 1) m' → X (EE s) d 282 81 [(0, zr 4 44), (1, zi y1), (2, zi y2)] [] m' Q := by
        intro m523 hT526 hJ524
        refine X.iinc 84 [(0, zr 4 44), (1, zi y1), (2, zi (y2 + 1))] i282_81 rfl rfl rfl (by omega) rfl ?_
        refine X.goto 47 i282_84 rfl rfl ?_
        exact ih (y2 + 1) m523 (B + 1) (hJ524.up (by omega)) (by omega) (by omega) (by omega) (Eq.trans hR (Eq.trans (if_neg h514) (Eq.trans (zs_eq hm515) (Eq.trans (zs_eq hT526.symm) rfl))))
      refine X.ifne 81 76 i282_73 rfl rfl rfl (fun h518 => ?_) (fun h518 => ?_)
      · have h518c : ¬ (m515 4 45 (40 + y2)) = 1 := by omega
        clear h518 hz517
        exact hK525 m515 (Eq.trans (if_neg h518c) rfl) (hJ516.up (by omega))
      · have h518c : (m515 4 45 (40 + y2)) = 1 := by omega
        clear h518 hz517
        refine X.aload_n 77 i282_76 rfl rfl rfl ?_
        refine X.iload_n 78 i282_77 rfl rfl rfl ?_
        refine X.callv 81 [zi y2] [] [(0, zr 4 44), (1, zi y2)] i282_78 rfl (by decide) rfl rfl (by omega) rfl rfl (by decide) rfl t229 (Nat.le_of_ble_eq_true rfl) (Nat.le_of_ble_eq_true rfl) rfl ?_
        refine c229_1 (B := B)  y2 (by omega) (hJ516.up (by omega)) (by omega) (by omega) hf26 hf29 hg4 (fun m519 hFv521 hJ520 => ?_)
        show X (EE s) d 282 81 [(0, zr 4 44), (1, zi y1), (2, zi y2)] [] m519 _
        exact hK525 m519 (Eq.trans (if_pos h518c) (Eq.trans (zs_eq hFv521.symm) rfl)) (hJ520.up (by omega))
noncomputable def fl282_89_1_b (self : Int → zM → Int × zM) (k126 : zM → Int × zM) (y1 : Int) (y2 : Int) (m : zM) : Int × zM :=
  if y1 ≤ y2 then
  (k126 m)
  else
  (zn (w64 ((m 4 45 15) + 1)) fun z512 =>
  zs (z_upd m 4 45 15 z512) fun m513 =>
  zn (w64 ((m513 4 45 26) + 1)) fun z515 =>
  zs (z_upd m513 4 45 26 z515) fun m516 =>
  zs (f230_1 m516) fun m518 =>
  self (y2 + 1) m518)
noncomputable def fl282_89_1 (k126 : zM → Int × zM) (y1 : Int) : Nat → Int → zM → Int × zM
  | 0 => fun y2 m => (0, m)
  | n + 1 => fl282_89_1_b (fl282_89_1 k126 y1 n) k126 y1
theorem l282_89_1 {s : Nat × (Nat → Int32)} {S : zS} {m0 : zM} {d : Nat} {Q : Option zV → zM → Prop} {R0 : Int × zM} {k126 : zM → Int × zM} (y1 : Int) (BE : Int) (hE : BE ≤ 1000000000) (hd : 19 ≤ d) (hy1 : 1 ≤ y1 ∧ y1 ≤ 100000) (hf27 : ¬ S.1 27) (hf28 : ¬ S.1 28) (hf31 : ¬ S.1 31) (hf33 : ¬ S.1 33) (hg4 : ¬ S.2.1 4)
    (K126 : ∀ (m' : zM) (B' : Int), J S m0 B' m' → B' ≤ BE → R0 = k126 m' → X (EE s) d 282 126 [(0, zr 4 44)] [] m' Q) :
    ∀ (n : Nat) (y2 : Int) (m : zM) (B : Int), J S m0 B m → B + 1 * (n : Int) ≤ BE → (0 ≤ y2 ∧ y2 ≤ 100000) → 100000 - y2 < (n : Int) → R0 = fl282_89_1 k126 y1 n y2 m → X (EE s) d 282 89 [(0, zr 4 44), (1, zi y1), (2, zi y2)] [] m Q := by
  intro n
  induction n with
  | zero =>
    intro y2 m B hJ hB hy2 hn hR
    exfalso
    omega
  | succ n ih =>
    intro y2 m B hJ hB hy2 hn hR
    replace hR : R0 = fl282_89_1_b (fl282_89_1 k126 y1 n) k126 y1 y2 m := hR
    refine X.iload_n 90 i282_89 rfl rfl rfl ?_
    refine X.iload_n 91 i282_90 rfl rfl rfl ?_
    refine X.icmpge 126 94 i282_91 rfl rfl rfl (fun h511 => ?_) (fun h511 => ?_)
    · refine X.cut [(0, zr 4 44)] i282_126 rfl ?_
      exact K126  m (B) (hJ.up (by omega)) (by omega)  (Eq.trans hR (Eq.trans (if_pos h511) rfl))
    · refine X.aload_n 95 i282_94 rfl rfl rfl ?_
      refine X.getF 98 i282_95 rfl rfl (by decide) rfl rfl ?_
      refine X.bipush 100 i282_98 rfl rfl (by decide) ?_
      refine X.dup2 101 i282_100 rfl rfl ?_
      refine X.lald 102 i282_101 rfl rfl (by decide) rfl (by omega) ?_
      refine X.lconst (y := 1) 103 i282_102 rfl rfl rfl ?_
      refine X.laddW 104 i282_103 rfl rfl (fun z512 ez512 hz512 => ?_)
      refine X.last' 105 i282_104 rfl rfl (by decide) rfl (by omega) (fun hrm513 m513 hm513 => ?_)
      have hJ514 := w45_14 hJ hm513 (by omega) hrm513 hf33 hg4
      refine X.aload_n 106 i282_105 rfl rfl rfl ?_
      refine X.getF 109 i282_106 rfl rfl (by decide) rfl rfl ?_
      refine X.bipush 111 i282_109 rfl rfl (by decide) ?_
      refine X.dup2 112 i282_111 rfl rfl ?_
      refine X.lald 113 i282_112 rfl rfl (by decide) rfl (by omega) ?_
      refine X.lconst (y := 1) 114 i282_113 rfl rfl rfl ?_
      refine X.laddW 115 i282_114 rfl rfl (fun z515 ez515 hz515 => ?_)
      refine X.last' 116 i282_115 rfl rfl (by decide) rfl (by omega) (fun hrm516 m516 hm516 => ?_)
      have hJ517 := w45_21 hJ514 hm516 (by omega) hrm516 hf27 hg4
      refine X.aload_n 117 i282_116 rfl rfl rfl ?_
      refine X.callv 120 [] [] [(0, zr 4 44)] i282_117 rfl (by decide) rfl rfl (by omega) rfl rfl (by decide) rfl t230 (Nat.le_of_ble_eq_true rfl) (Nat.le_of_ble_eq_true rfl) rfl ?_
      refine c230_1 (B := B)   (by omega) (hJ517.up (by omega)) (by omega)  hf27 hf28 hf31 hg4 (fun m518 hFv520 hJ519 => ?_)
      show X (EE s) d 282 120 [(0, zr 4 44), (1, zi y1), (2, zi y2)] [] m518 _
      refine X.iinc 123 [(0, zr 4 44), (1, zi y1), (2, zi (y2 + 1))] i282_120 rfl rfl rfl (by omega) rfl ?_
      refine X.goto 89 i282_123 rfl rfl ?_
      exact ih (y2 + 1) m518 (B + 1) (hJ519.up (by omega)) (by omega) (by omega) (by omega) (Eq.trans hR (Eq.trans (if_neg h511) (Eq.trans (zn_eq ez512) (Eq.trans (zs_eq hm513) (Eq.trans (zn_eq ez515) (Eq.trans (zs_eq hm516) (Eq.trans (zs_eq hFv520.symm) rfl)))))))
-- WorkMeterModel.off
noncomputable def f282_1 (a1 : Int) (m : zM) : Int × zM :=
  if a1 < 1 then
  (((-1), m))
  else
  (if a1 ≤ 100000 then
  (if ((m 4 45 0) + a1) ≤ 2000000000 then
  (zs (f223_1 21 a1 m) fun m511 =>
  zs (z_upd m511 4 45 3 0) fun m514 =>
  fl282_47_1 (fun m516 =>
  fl282_89_1 (fun m520 =>
  ((m520 4 45 0), m520)) a1 (zfu 100001) 0 m516) a1 (zfu 4) 2 m514)
  else
  (((-1), m)))
  else
  (((-1), m)))
-- WorkMeterModel.off
theorem c282_1 {s : Nat × (Nat → Int32)} {S : zS} {m0 m : zM} {B : Int} {d : Nat} {Q : Option zV → zM → Prop} (a1 : Int) (hd : 19 ≤ d) (hJ : J S m0 B m) (hB : B + 100006 ≤ 1000000000) (ha1 : (-2147483648) ≤ a1 ∧ a1 ≤ 2147483647) (hf22 : ¬ S.1 22) (hf26 : ¬ S.1 26) (hf27 : ¬ S.1 27) (hf28 : ¬ S.1 28) (hf29 : ¬ S.1 29) (hf31 : ¬ S.1 31) (hf33 : ¬ S.1 33) (hg4 : ¬ S.2.1 4) (hQ : ∀ (v : Int) m', ((-1) ≤ v ∧ v ≤ 2000000000) → f282_1 a1 m = (v, m') → J S m0 (B + 100006) m' → Q (some (zi v)) m') : X (EE s) d 282 0 [(0, zr 4 44), (1, zi a1)] [] m Q := by
  refine X.iload_n 1 i282_0 rfl rfl rfl ?_
  refine X.i2l 2 i282_1 rfl rfl ?_
  refine X.lconst (y := 1) 3 i282_2 rfl rfl rfl ?_
  refine X.ldc2 6 i282_3 rfl rfl (by decide) ?_
  refine X.calls 9 [zl a1, zl 1, zl 100000] [] [(0, zl a1), (2, zl 1), (4, zl 100000)] i282_6 (by decide) rfl rfl (by omega) rfl rfl t204 (Nat.le_of_ble_eq_true rfl) (Nat.le_of_ble_eq_true rfl) rfl ?_
  refine X.lload_n 1 i204_0 rfl rfl rfl ?_
  refine X.lload_n 2 i204_1 rfl rfl rfl ?_
  refine X.lcmp 3 i204_2 rfl rfl (fun z501 hz501 => ?_)
  refine X.iflt 17 6 i204_3 rfl rfl rfl (fun h502 => ?_) (fun h502 => ?_)
  · have h502c : a1 < 1 := by omega
    clear h502 hz501
    refine X.cut [] i204_17 rfl ?_
    refine X.iconst 18 i204_17 rfl rfl (by decide) ?_
    refine X.retz i204_18 rfl t204 (by omega) ?_
    show X (EE s) d 282 9 [(0, zr 4 44), (1, zi a1)] [zi 0] m _
    refine X.ifeq 28 12 i282_9 rfl rfl rfl (fun h503 => ?_) (fun h503 => (by exfalso; omega))
    refine X.cut [] i282_28 rfl ?_
    refine X.iconst 29 i282_28 rfl rfl (by decide) ?_
    refine X.reti i282_29 rfl t282 ?_
    exact hQ (-1) m (by first | trivial | omega) (Eq.trans (if_pos h502c) rfl) (hJ.up (by omega)) 
  · have h502c : ¬ a1 < 1 := by omega
    clear h502 hz501
    refine X.lload_n 7 i204_6 rfl rfl rfl ?_
    refine X.lload 9 i204_7 rfl rfl rfl ?_
    refine X.lcmp 10 i204_9 rfl rfl (fun z504 hz504 => ?_)
    refine X.ifgt 17 13 i204_10 rfl rfl rfl (fun h505 => ?_) (fun h505 => ?_)
    · have h505c : ¬ a1 ≤ 100000 := by omega
      clear h505 hz504
      refine X.cut [] i204_17 rfl ?_
      refine X.iconst 18 i204_17 rfl rfl (by decide) ?_
      refine X.retz i204_18 rfl t204 (by omega) ?_
      show X (EE s) d 282 9 [(0, zr 4 44), (1, zi a1)] [zi 0] m _
      refine X.ifeq 28 12 i282_9 rfl rfl rfl (fun h506 => ?_) (fun h506 => (by exfalso; omega))
      refine X.cut [] i282_28 rfl ?_
      refine X.iconst 29 i282_28 rfl rfl (by decide) ?_
      refine X.reti i282_29 rfl t282 ?_
      exact hQ (-1) m (by first | trivial | omega) (Eq.trans (if_neg h502c) (Eq.trans (if_neg h505c) rfl)) (hJ.up (by omega)) 
    · have h505c : a1 ≤ 100000 := by omega
      clear h505 hz504
      refine X.iconst 14 i204_13 rfl rfl (by decide) ?_
      refine X.goto 18 i204_14 rfl rfl ?_
      refine X.cut [] i204_18 rfl ?_
      refine X.retz i204_18 rfl t204 (by omega) ?_
      show X (EE s) d 282 9 [(0, zr 4 44), (1, zi a1)] [zi 1] m _
      refine X.ifeq 28 12 i282_9 rfl rfl rfl (fun h507 => (by exfalso; omega)) (fun h507 => ?_)
      refine X.aload_n 13 i282_12 rfl rfl rfl ?_
      refine X.getF 16 i282_13 rfl rfl (by decide) rfl rfl ?_
      refine X.iconst 17 i282_16 rfl rfl (by decide) ?_
      refine X.lald 18 i282_17 rfl rfl (by decide) rfl (by omega) ?_
      have h508 := r45_0 hJ 4
      refine X.iload_n 19 i282_18 rfl rfl rfl ?_
      refine X.i2l 20 i282_19 rfl rfl ?_
      refine X.ladd 21 i282_20 rfl rfl (by omega) ?_
      refine X.ldc2 24 i282_21 rfl rfl (by decide) ?_
      refine X.lcmp 25 i282_24 rfl rfl (fun z509 hz509 => ?_)
      refine X.ifle 30 28 i282_25 rfl rfl rfl (fun h510 => ?_) (fun h510 => ?_)
      · have h510c : ((m 4 45 0) + a1) ≤ 2000000000 := by omega
        clear h510 hz509
        refine X.aload_n 31 i282_30 rfl rfl rfl ?_
        refine X.bipush 33 i282_31 rfl rfl (by decide) ?_
        refine X.iload_n 34 i282_33 rfl rfl rfl ?_
        refine X.i2l 35 i282_34 rfl rfl ?_
        refine X.callv 38 [zi 21, zl a1] [] [(0, zr 4 44), (1, zi 21), (2, zl a1)] i282_35 rfl (by decide) rfl rfl (by omega) rfl rfl (by decide) rfl t223 (Nat.le_of_ble_eq_true rfl) (Nat.le_of_ble_eq_true rfl) rfl ?_
        refine c223_1 (B := B)  21 a1 (by omega) (hJ.up (by omega)) (by omega) (by omega) hf26 hg4 (fun m511 hFv513 hJ512 => ?_)
        show X (EE s) d 282 38 [(0, zr 4 44), (1, zi a1)] [] m511 _
        refine X.aload_n 39 i282_38 rfl rfl rfl ?_
        refine X.getF 42 i282_39 rfl rfl (by decide) rfl rfl ?_
        refine X.iconst 43 i282_42 rfl rfl (by decide) ?_
        refine X.lconst (y := 0) 44 i282_43 rfl rfl rfl ?_
        refine X.last' 45 i282_44 rfl rfl (by decide) rfl (by omega) (fun hrm514 m514 hm514 => ?_)
        have hJ515 := w45_3 hJ512 hm514 (by omega) hf22 hg4
        refine X.iconst 46 i282_45 rfl rfl (by decide) ?_
        refine X.istore_n 47 [(0, zr 4 44), (1, zi a1), (2, zi 2)] i282_46 rfl rfl rfl ?_
        have hz4 := zfu_eq 4
        refine l282_47_1 (s := s) (d := d) (R0 := (f282_1 a1 m))  a1  (BE := B + 5) (by omega) (by omega) (by omega) hf26 hf29 hg4 (fun  m516 B517 hJ518 hBB517 hR519 => ?_) (zfu 4) 2 m514 (B + 1) (hJ515.up (by omega)) (by omega) (by omega) (by omega) (Eq.trans (if_neg h502c) (Eq.trans (if_pos h505c) (Eq.trans (if_pos h510c) (Eq.trans (zs_eq hFv513.symm) (Eq.trans (zs_eq hm514) rfl)))))
        refine X.iconst 88 i282_87 rfl rfl (by decide) ?_
        refine X.istore_n 89 [(0, zr 4 44), (1, zi a1), (2, zi 0)] i282_88 rfl rfl rfl ?_
        have hz100001 := zfu_eq 100001
        refine l282_89_1 (s := s) (d := d)  a1  (BE := B517 + 100001) (by omega) (by omega) (by omega) hf27 hf28 hf31 hf33 hg4 (fun  m520 B521 hJ522 hBB521 hR523 => ?_) (zfu 100001) 0 m516 (B517) (hJ518.up (by omega)) (by omega) (by omega) (by omega) (Eq.trans hR519 rfl)
        refine X.aload_n 127 i282_126 rfl rfl rfl ?_
        refine X.getF 130 i282_127 rfl rfl (by decide) rfl rfl ?_
        refine X.iconst 131 i282_130 rfl rfl (by decide) ?_
        refine X.lald 132 i282_131 rfl rfl (by decide) rfl (by omega) ?_
        have h524 := r45_0 hJ522 4
        refine X.l2i 133 i282_132 rfl rfl (by omega) ?_
        refine X.reti i282_133 rfl t282 ?_
        exact hQ (m520 4 45 0) m520 (by first | trivial | omega) (Eq.trans hR523 rfl) (hJ522.up (by omega)) 
      · have h510c : ¬ ((m 4 45 0) + a1) ≤ 2000000000 := by omega
        clear h510 hz509
        refine X.cut [] i282_28 rfl ?_
        refine X.iconst 29 i282_28 rfl rfl (by decide) ?_
        refine X.reti i282_29 rfl t282 ?_
        exact hQ (-1) m (by first | trivial | omega) (Eq.trans (if_neg h502c) (Eq.trans (if_pos h505c) (Eq.trans (if_neg h510c) rfl))) (hJ.up (by omega)) 
-- WorkMeter.mark
noncomputable def f134_1 (a1 a2 : Int) (m : zM) : Int × zM :=
  if a1 < 0 then
  ((0, m))
  else
  (if 2 ≤ a1 then
  ((0, m))
  else
  (zn (f40_1 0 a1 m) fun v505 =>
  if v505 = a2 then
  ((0, m))
  else
  (zs (f57_1 0 0 a1 a2 (m 0 8 9) m) fun m508 =>
  (1, m508))))
-- WorkMeter.mark
theorem c134_1 {s : Nat × (Nat → Int32)} {S : zS} {m0 m : zM} {B : Int} {d : Nat} {Q : Option zV → zM → Prop} (a1 a2 : Int) (hd : 15 ≤ d) (hJ : J S m0 B m) (hB : B + 1 ≤ 1000000000) (ha1 : (-2147483648) ≤ a1 ∧ a1 ≤ 2147483647) (ha2 : 0 ≤ a2 ∧ a2 ≤ 1) (hf6 : ¬ S.1 6) (hf9 : ¬ S.1 9) (hg0 : ¬ S.2.1 0) (hQ : ∀ (v : Int) m', (0 ≤ v ∧ v ≤ 1) → f134_1 a1 a2 m = (v, m') → J S m0 (B + 1) m' → Q (some (zi v)) m') : X (EE s) d 134 0 [(0, zr 4 40), (1, zi a1), (2, zi a2)] [] m Q := by
  refine X.iload_n 1 i134_0 rfl rfl rfl ?_
  refine X.iflt 24 4 i134_1 rfl rfl rfl (fun h501 => ?_) (fun h501 => ?_)
  · refine X.cut [] i134_24 rfl ?_
    refine X.iconst 25 i134_24 rfl rfl (by decide) ?_
    refine X.retz i134_25 rfl t134 (by omega) ?_
    exact hQ 0 m (by first | trivial | omega) (Eq.trans (if_pos h501) rfl) (hJ.up (by omega)) 
  · refine X.iload_n 5 i134_4 rfl rfl rfl ?_
    refine X.iconst 6 i134_5 rfl rfl (by decide) ?_
    refine X.icmpge 24 9 i134_6 rfl rfl rfl (fun h502 => ?_) (fun h502 => ?_)
    · refine X.cut [] i134_24 rfl ?_
      refine X.iconst 25 i134_24 rfl rfl (by decide) ?_
      refine X.retz i134_25 rfl t134 (by omega) ?_
      exact hQ 0 m (by first | trivial | omega) (Eq.trans (if_neg h501) (Eq.trans (if_pos h502) rfl)) (hJ.up (by omega)) 
    · refine X.aload_n 10 i134_9 rfl rfl rfl ?_
      refine X.getF 13 i134_10 rfl rfl (by decide) rfl rfl ?_
      refine X.getR 16 i134_13 rfl rfl (by decide) rfl rfl ?_
      refine X.iload_n 17 i134_16 rfl rfl rfl ?_
      refine X.callv 20 [zi a1] [] [(0, zr 0 33), (1, zi a1)] i134_17 rfl (by decide) rfl rfl (by omega) rfl rfl (by decide) rfl t40 (Nat.le_of_ble_eq_true rfl) (Nat.le_of_ble_eq_true rfl) rfl ?_
      refine c40_2 (B := B) 0 a1 (by omega) (hJ.up (by omega)) (by omega) (by omega) (fun v505 hv505 hFv505 => ?_)
      show X (EE s) d 134 20 [(0, zr 4 40), (1, zi a1), (2, zi a2)] [zi v505] m _
      refine X.iload_n 21 i134_20 rfl rfl rfl ?_
      refine X.icmpne 26 24 i134_21 rfl rfl rfl (fun h506 => ?_) (fun h506 => ?_)
      · refine X.aload_n 27 i134_26 rfl rfl rfl ?_
        refine X.getF 30 i134_27 rfl rfl (by decide) rfl rfl ?_
        refine X.getR 33 i134_30 rfl rfl (by decide) rfl rfl ?_
        refine X.iload_n 34 i134_33 rfl rfl rfl ?_
        refine X.iload_n 35 i134_34 rfl rfl rfl ?_
        refine X.aload_n 36 i134_35 rfl rfl rfl ?_
        refine X.getF 39 i134_36 rfl rfl (by decide) rfl rfl ?_
        refine X.getR 42 i134_39 rfl rfl (by decide) rfl rfl ?_
        refine X.aload_n 43 i134_42 rfl rfl rfl ?_
        refine X.getF 46 i134_43 rfl rfl (by decide) rfl rfl ?_
        refine X.getI 49 9 i134_46 rfl rfl (by decide) rfl rfl rfl ?_
        have h507 := r8_9 hJ 0
        refine X.callv 52 [zi a1, zi a2, zr 0 37, zi (m 0 8 9)] [] [(0, zr 0 33), (1, zi a1), (2, zi a2), (3, zr 0 37), (4, zi (m 0 8 9))] i134_49 rfl (by decide) rfl rfl (by omega) rfl rfl (by decide) rfl t57 (Nat.le_of_ble_eq_true rfl) (Nat.le_of_ble_eq_true rfl) rfl ?_
        refine c57_1 (B := B) 0 0 a1 a2 (m 0 8 9) (by omega) (hJ.up (by omega)) (by omega) (by omega) (by omega) (by omega) hf6 hf9 hg0 hg0 (fun m508 hFv510 hJ509 => ?_)
        show X (EE s) d 134 52 [(0, zr 4 40), (1, zi a1), (2, zi a2)] [] m508 _
        refine X.iconst 53 i134_52 rfl rfl (by decide) ?_
        refine X.retz i134_53 rfl t134 (by omega) ?_
        exact hQ 1 m508 (by first | trivial | omega) (Eq.trans (if_neg h501) (Eq.trans (if_neg h502) (Eq.trans (zn_eq hFv505.symm) (Eq.trans (if_neg h506) (Eq.trans (zs_eq hFv510.symm) rfl))))) (hJ509.up (by omega)) 
      · refine X.cut [] i134_24 rfl ?_
        refine X.iconst 25 i134_24 rfl rfl (by decide) ?_
        refine X.retz i134_25 rfl t134 (by omega) ?_
        exact hQ 0 m (by first | trivial | omega) (Eq.trans (if_neg h501) (Eq.trans (if_neg h502) (Eq.trans (zn_eq hFv505.symm) (Eq.trans (if_pos h506) rfl)))) (hJ.up (by omega)) 
-- WorkMeterModel.turnsOff
theorem c229_2 {s : Nat × (Nat → Int32)} {S : zS} {m0 m : zM} {B : Int} {d : Nat} {Q : Option zV → zM → Prop} (a1 : Int) (hd : 14 ≤ d) (hJ : J S m0 B m) (hB : B + 1 ≤ 1000000000) (ha1 : 0 ≤ a1 ∧ a1 ≤ 1) (hf26 : ¬ S.1 26) (hf29 : ¬ S.1 29) (hg4 : ¬ S.2.1 4) (hQ : ∀ m', f229_1 a1 m = m' → J S m0 (B + 1) m' → Q none m') : X (EE s) d 229 0 [(0, zr 4 44), (1, zi a1)] [] m Q := by
  refine X.aload_n 1 i229_0 rfl rfl rfl ?_
  refine X.getF 4 i229_1 rfl rfl (by decide) rfl rfl ?_
  refine X.bipush 6 i229_4 rfl rfl (by decide) ?_
  refine X.iload_n 7 i229_6 rfl rfl rfl ?_
  refine X.iadd 8 i229_7 rfl rfl (by omega) ?_
  refine X.lconst (y := 0) 9 i229_8 rfl rfl rfl ?_
  refine X.last' 10 i229_9 rfl rfl (by decide) rfl (by omega) (fun hrm501 m501 hm501 => ?_)
  have hJ502 := w45_40 hJ hm501 (by omega) hrm501 hf29 hg4
  refine X.aload_n 11 i229_10 rfl rfl rfl ?_
  refine X.bipush 13 i229_11 rfl rfl (by decide) ?_
  refine X.iload_n 14 i229_13 rfl rfl rfl ?_
  refine X.iadd 15 i229_14 rfl rfl (by omega) ?_
  refine X.lconst (y := 0) 16 i229_15 rfl rfl rfl ?_
  refine X.callv 19 [zi (10 + a1), zl 0] [] [(0, zr 4 44), (1, zi (10 + a1)), (2, zl 0)] i229_16 rfl (by decide) rfl rfl (by omega) rfl rfl (by decide) rfl t223 (Nat.le_of_ble_eq_true rfl) (Nat.le_of_ble_eq_true rfl) rfl ?_
  refine c223_1 (B := B)  (10 + a1) 0 (by omega) (hJ502.up (by omega)) (by omega) (by omega) hf26 hg4 (fun m503 hFv505 hJ504 => ?_)
  show X (EE s) d 229 19 [(0, zr 4 44), (1, zi a1)] [] m503 _
  refine X.retv i229_19 rfl t229 ?_
  exact hQ  m503  (Eq.trans (zs_eq hm501) (Eq.trans (zs_eq hFv505.symm) rfl)) (hJ504.up (by omega)) 
-- WorkMeterModel.turnsOn
theorem c228_2 {s : Nat × (Nat → Int32)} {S : zS} {m0 m : zM} {B : Int} {d : Nat} {Q : Option zV → zM → Prop} (a1 : Int) (hd : 14 ≤ d) (hJ : J S m0 B m) (hB : B + 1 ≤ 1000000000) (ha1 : 0 ≤ a1 ∧ a1 ≤ 1) (hf26 : ¬ S.1 26) (hf29 : ¬ S.1 29) (hg4 : ¬ S.2.1 4) (hQ : ∀ m', f228_1 a1 m = m' → J S m0 (B + 1) m' → Q none m') : X (EE s) d 228 0 [(0, zr 4 44), (1, zi a1)] [] m Q := by
  refine X.aload_n 1 i228_0 rfl rfl rfl ?_
  refine X.getF 4 i228_1 rfl rfl (by decide) rfl rfl ?_
  refine X.bipush 6 i228_4 rfl rfl (by decide) ?_
  refine X.iload_n 7 i228_6 rfl rfl rfl ?_
  refine X.iadd 8 i228_7 rfl rfl (by omega) ?_
  refine X.lconst (y := 1) 9 i228_8 rfl rfl rfl ?_
  refine X.last' 10 i228_9 rfl rfl (by decide) rfl (by omega) (fun hrm501 m501 hm501 => ?_)
  have hJ502 := w45_40 hJ hm501 (by omega) hrm501 hf29 hg4
  refine X.aload_n 11 i228_10 rfl rfl rfl ?_
  refine X.getF 14 i228_11 rfl rfl (by decide) rfl rfl ?_
  refine X.bipush 16 i228_14 rfl rfl (by decide) ?_
  refine X.iload_n 17 i228_16 rfl rfl rfl ?_
  refine X.iadd 18 i228_17 rfl rfl (by omega) ?_
  refine X.dup2 19 i228_18 rfl rfl ?_
  refine X.lald 20 i228_19 rfl rfl (by decide) rfl (by omega) ?_
  refine X.lconst (y := 1) 21 i228_20 rfl rfl rfl ?_
  refine X.laddW 22 i228_21 rfl rfl (fun z503 ez503 hz503 => ?_)
  refine X.last' 23 i228_22 rfl rfl (by decide) rfl (by omega) (fun hrm504 m504 hm504 => ?_)
  have hJ505 := w45_40 hJ502 hm504 (by omega) hrm504 hf29 hg4
  refine X.aload_n 24 i228_23 rfl rfl rfl ?_
  refine X.iload_n 25 i228_24 rfl rfl rfl ?_
  refine X.lconst (y := 0) 26 i228_25 rfl rfl rfl ?_
  refine X.callv 29 [zi a1, zl 0] [] [(0, zr 4 44), (1, zi a1), (2, zl 0)] i228_26 rfl (by decide) rfl rfl (by omega) rfl rfl (by decide) rfl t223 (Nat.le_of_ble_eq_true rfl) (Nat.le_of_ble_eq_true rfl) rfl ?_
  refine c223_1 (B := B)  a1 0 (by omega) (hJ505.up (by omega)) (by omega) (by omega) hf26 hg4 (fun m506 hFv508 hJ507 => ?_)
  show X (EE s) d 228 29 [(0, zr 4 44), (1, zi a1)] [] m506 _
  refine X.retv i228_29 rfl t228 ?_
  exact hQ  m506  (Eq.trans (zs_eq hm501) (Eq.trans (zn_eq ez503) (Eq.trans (zs_eq hm504) (Eq.trans (zs_eq hFv508.symm) rfl)))) (hJ507.up (by omega)) 
-- WorkMeterModel.mark
noncomputable def f283_1 (a1 a2 : Int) (m : zM) : Int × zM :=
  if a1 < 0 then
  ((0, m))
  else
  (if a1 ≤ 1 then
  (zn (if (m 4 45 (40 + a1)) = 1 then
  (1)
  else
  (0)) fun v510 =>
  if v510 = a2 then
  ((0, m))
  else
  (zs (if a2 = 0 then
  (zs (f229_1 a1 m) fun m517 =>
  m517)
  else
  (zs (f228_1 a1 m) fun m520 =>
  m520)) fun m524 =>
  (1, m524)))
  else
  ((0, m)))
-- WorkMeterModel.mark
theorem c283_1 {s : Nat × (Nat → Int32)} {S : zS} {m0 m : zM} {B : Int} {d : Nat} {Q : Option zV → zM → Prop} (a1 a2 : Int) (hd : 15 ≤ d) (hJ : J S m0 B m) (hB : B + 1 ≤ 1000000000) (ha1 : (-2147483648) ≤ a1 ∧ a1 ≤ 2147483647) (ha2 : 0 ≤ a2 ∧ a2 ≤ 1) (hf26 : ¬ S.1 26) (hf29 : ¬ S.1 29) (hg4 : ¬ S.2.1 4) (hQ : ∀ (v : Int) m', (0 ≤ v ∧ v ≤ 1) → f283_1 a1 a2 m = (v, m') → J S m0 (B + 1) m' → Q (some (zi v)) m') : X (EE s) d 283 0 [(0, zr 4 44), (1, zi a1), (2, zi a2)] [] m Q := by
  refine X.iload_n 1 i283_0 rfl rfl rfl ?_
  refine X.i2l 2 i283_1 rfl rfl ?_
  refine X.lconst (y := 0) 3 i283_2 rfl rfl rfl ?_
  refine X.lconst (y := 1) 4 i283_3 rfl rfl rfl ?_
  refine X.calls 7 [zl a1, zl 0, zl 1] [] [(0, zl a1), (2, zl 0), (4, zl 1)] i283_4 (by decide) rfl rfl (by omega) rfl rfl t204 (Nat.le_of_ble_eq_true rfl) (Nat.le_of_ble_eq_true rfl) rfl ?_
  refine X.lload_n 1 i204_0 rfl rfl rfl ?_
  refine X.lload_n 2 i204_1 rfl rfl rfl ?_
  refine X.lcmp 3 i204_2 rfl rfl (fun z501 hz501 => ?_)
  refine X.iflt 17 6 i204_3 rfl rfl rfl (fun h502 => ?_) (fun h502 => ?_)
  · have h502c : a1 < 0 := by omega
    clear h502 hz501
    refine X.cut [] i204_17 rfl ?_
    refine X.iconst 18 i204_17 rfl rfl (by decide) ?_
    refine X.retz i204_18 rfl t204 (by omega) ?_
    show X (EE s) d 283 7 [(0, zr 4 44), (1, zi a1), (2, zi a2)] [zi 0] m _
    refine X.ifeq 33 10 i283_7 rfl rfl rfl (fun h503 => ?_) (fun h503 => (by exfalso; omega))
    refine X.cut [] i283_33 rfl ?_
    refine X.iconst 34 i283_33 rfl rfl (by decide) ?_
    refine X.retz i283_34 rfl t283 (by omega) ?_
    exact hQ 0 m (by first | trivial | omega) (Eq.trans (if_pos h502c) rfl) (hJ.up (by omega)) 
  · have h502c : ¬ a1 < 0 := by omega
    clear h502 hz501
    refine X.lload_n 7 i204_6 rfl rfl rfl ?_
    refine X.lload 9 i204_7 rfl rfl rfl ?_
    refine X.lcmp 10 i204_9 rfl rfl (fun z504 hz504 => ?_)
    refine X.ifgt 17 13 i204_10 rfl rfl rfl (fun h505 => ?_) (fun h505 => ?_)
    · have h505c : ¬ a1 ≤ 1 := by omega
      clear h505 hz504
      refine X.cut [] i204_17 rfl ?_
      refine X.iconst 18 i204_17 rfl rfl (by decide) ?_
      refine X.retz i204_18 rfl t204 (by omega) ?_
      show X (EE s) d 283 7 [(0, zr 4 44), (1, zi a1), (2, zi a2)] [zi 0] m _
      refine X.ifeq 33 10 i283_7 rfl rfl rfl (fun h506 => ?_) (fun h506 => (by exfalso; omega))
      refine X.cut [] i283_33 rfl ?_
      refine X.iconst 34 i283_33 rfl rfl (by decide) ?_
      refine X.retz i283_34 rfl t283 (by omega) ?_
      exact hQ 0 m (by first | trivial | omega) (Eq.trans (if_neg h502c) (Eq.trans (if_neg h505c) rfl)) (hJ.up (by omega)) 
    · have h505c : a1 ≤ 1 := by omega
      clear h505 hz504
      refine X.iconst 14 i204_13 rfl rfl (by decide) ?_
      refine X.goto 18 i204_14 rfl rfl ?_
      refine X.cut [] i204_18 rfl ?_
      refine X.retz i204_18 rfl t204 (by omega) ?_
      show X (EE s) d 283 7 [(0, zr 4 44), (1, zi a1), (2, zi a2)] [zi 1] m _
      refine X.ifeq 33 10 i283_7 rfl rfl rfl (fun h507 => (by exfalso; omega)) (fun h507 => ?_)
      refine X.aload_n 11 i283_10 rfl rfl rfl ?_
      refine X.getF 14 i283_11 rfl rfl (by decide) rfl rfl ?_
      refine X.bipush 16 i283_14 rfl rfl (by decide) ?_
      refine X.iload_n 17 i283_16 rfl rfl rfl ?_
      refine X.iadd 18 i283_17 rfl rfl (by omega) ?_
      refine X.lald 19 i283_18 rfl rfl (by decide) rfl (by omega) ?_
      refine X.lconst (y := 1) 20 i283_19 rfl rfl rfl ?_
      refine X.lcmp 21 i283_20 rfl rfl (fun z508 hz508 => ?_)
      have hK513 : ∀ (v : Int) , (0 ≤ v ∧ v ≤ 1) → (if (m 4 45 (40 + a1)) = 1 then
          (1)
          else
          (0)) = v → X (EE s) d 283 29 [(0, zr 4 44), (1, zi a1), (2, zi a2)] [zi v] m Q := by
        intro v510 hv510 hT514
        refine X.iload_n 30 i283_29 rfl rfl rfl ?_
        refine X.icmpne 35 33 i283_30 rfl rfl rfl (fun h515 => ?_) (fun h515 => ?_)
        · refine X.iload_n 36 i283_35 rfl rfl rfl ?_
          have hK526 : ∀ (m' : zM), (if a2 = 0 then
              (zs (f229_1 a1 m) fun m517 =>
              m517)
              else
              (zs (f228_1 a1 m) fun m520 =>
              m520)) = m' → J S m0 (B + 1) m' → X (EE s) d 283 52 [] [] m' Q := by
            intro m524 hT527 hJ525
            refine X.iconst 53 i283_52 rfl rfl (by decide) ?_
            refine X.retz i283_53 rfl t283 (by omega) ?_
            exact hQ 1 m524 (by first | trivial | omega) (Eq.trans (if_neg h502c) (Eq.trans (if_pos h505c) (Eq.trans (zn_eq hT514.symm) (Eq.trans (if_neg h515) (Eq.trans (zs_eq hT527.symm) rfl))))) (hJ525.up (by omega)) 
          refine X.ifeq 47 39 i283_36 rfl rfl rfl (fun h516 => ?_) (fun h516 => ?_)
          · refine X.cut [(0, zr 4 44), (1, zi a1)] i283_47 rfl ?_
            refine X.aload_n 48 i283_47 rfl rfl rfl ?_
            refine X.iload_n 49 i283_48 rfl rfl rfl ?_
            refine X.callv 52 [zi a1] [] [(0, zr 4 44), (1, zi a1)] i283_49 rfl (by decide) rfl rfl (by omega) rfl rfl (by decide) rfl t229 (Nat.le_of_ble_eq_true rfl) (Nat.le_of_ble_eq_true rfl) rfl ?_
            refine c229_2 (B := B)  a1 (by omega) (hJ.up (by omega)) (by omega) (by omega) hf26 hf29 hg4 (fun m517 hFv519 hJ518 => ?_)
            show X (EE s) d 283 52 [(0, zr 4 44), (1, zi a1)] [] m517 _
            refine X.cut [] i283_52 rfl ?_
            exact hK526 m517 (Eq.trans (if_pos h516) (Eq.trans (zs_eq hFv519.symm) rfl)) (hJ518.up (by omega))
          · refine X.aload_n 40 i283_39 rfl rfl rfl ?_
            refine X.iload_n 41 i283_40 rfl rfl rfl ?_
            refine X.callv 44 [zi a1] [] [(0, zr 4 44), (1, zi a1)] i283_41 rfl (by decide) rfl rfl (by omega) rfl rfl (by decide) rfl t228 (Nat.le_of_ble_eq_true rfl) (Nat.le_of_ble_eq_true rfl) rfl ?_
            refine c228_2 (B := B)  a1 (by omega) (hJ.up (by omega)) (by omega) (by omega) hf26 hf29 hg4 (fun m520 hFv522 hJ521 => ?_)
            show X (EE s) d 283 44 [(0, zr 4 44), (1, zi a1), (2, zi a2)] [] m520 _
            refine X.goto 52 i283_44 rfl rfl ?_
            refine X.cut [] i283_52 rfl ?_
            exact hK526 m520 (Eq.trans (if_neg h516) (Eq.trans (zs_eq hFv522.symm) rfl)) (hJ521.up (by omega))
        · refine X.cut [] i283_33 rfl ?_
          refine X.iconst 34 i283_33 rfl rfl (by decide) ?_
          refine X.retz i283_34 rfl t283 (by omega) ?_
          exact hQ 0 m (by first | trivial | omega) (Eq.trans (if_neg h502c) (Eq.trans (if_pos h505c) (Eq.trans (zn_eq hT514.symm) (Eq.trans (if_pos h515) rfl)))) (hJ.up (by omega)) 
      refine X.ifne 28 24 i283_21 rfl rfl rfl (fun h509 => ?_) (fun h509 => ?_)
      · have h509c : ¬ (m 4 45 (40 + a1)) = 1 := by omega
        clear h509 hz508
        refine X.iconst 29 i283_28 rfl rfl (by decide) ?_
        exact hK513 0 (by first | trivial | omega) (Eq.trans (if_neg h509c) rfl)
      · have h509c : (m 4 45 (40 + a1)) = 1 := by omega
        clear h509 hz508
        refine X.iconst 25 i283_24 rfl rfl (by decide) ?_
        refine X.goto 29 i283_25 rfl rfl ?_
        exact hK513 1 (by first | trivial | omega) (Eq.trans (if_pos h509c) rfl)
-- WorkMeter.prepaid
noncomputable def f135_1 (a1 : Int) (m : zM) : Int × zM :=
  if (m 0 8 11) = a1 then
  ((0, m))
  else
  (zs (z_upd m 0 8 11 a1) fun m503 =>
  zs (f53_1 0 m503) fun m505 =>
  (1, m505))
-- WorkMeter.prepaid
theorem c135_1 {s : Nat × (Nat → Int32)} {S : zS} {m0 m : zM} {B : Int} {d : Nat} {Q : Option zV → zM → Prop} (a1 : Int) (hd : 16 ≤ d) (hJ : J S m0 B m) (hB : B + 1 ≤ 1000000000) (ha1 : 0 ≤ a1 ∧ a1 ≤ 1) (hf6 : ¬ S.1 6) (hf12 : ¬ S.1 12) (hg0 : ¬ S.2.1 0) (hQ : ∀ (v : Int) m', (0 ≤ v ∧ v ≤ 1) → f135_1 a1 m = (v, m') → J S m0 (B + 1) m' → Q (some (zi v)) m') : X (EE s) d 135 0 [(0, zr 4 40), (1, zi a1)] [] m Q := by
  refine X.aload_n 1 i135_0 rfl rfl rfl ?_
  refine X.getF 4 i135_1 rfl rfl (by decide) rfl rfl ?_
  refine X.getZ 7 11 i135_4 rfl rfl (by decide) rfl rfl rfl (fun h501 => ?_)
  refine X.iload_n 8 i135_7 rfl rfl rfl ?_
  refine X.icmpne 13 11 i135_8 rfl rfl rfl (fun h502 => ?_) (fun h502 => ?_)
  · refine X.aload_n 14 i135_13 rfl rfl rfl ?_
    refine X.getF 17 i135_14 rfl rfl (by decide) rfl rfl ?_
    refine X.iload_n 18 i135_17 rfl rfl rfl ?_
    refine X.putZ' 21 11 i135_18 rfl rfl (by decide) rfl rfl rfl (by omega) (fun hrm503 m503 hm503 => ?_)
    have hJ504 := w8_11 hJ hm503 (by omega) hf12 hg0
    refine X.aload_n 22 i135_21 rfl rfl rfl ?_
    refine X.getF 25 i135_22 rfl rfl (by decide) rfl rfl ?_
    refine X.callv 28 [] [] [(0, zr 0 8)] i135_25 rfl (by decide) rfl rfl (by omega) rfl rfl (by decide) rfl t53 (Nat.le_of_ble_eq_true rfl) (Nat.le_of_ble_eq_true rfl) rfl ?_
    refine c53_1 (B := B) 0  (by omega) (hJ504.up (by omega)) (by omega)  hf6 hf12 hg0 (fun m505 hFv507 hJ506 => ?_)
    show X (EE s) d 135 28 [(0, zr 4 40), (1, zi a1)] [] m505 _
    refine X.iconst 29 i135_28 rfl rfl (by decide) ?_
    refine X.retz i135_29 rfl t135 (by omega) ?_
    exact hQ 1 m505 (by first | trivial | omega) (Eq.trans (if_neg h502) (Eq.trans (zs_eq hm503) (Eq.trans (zs_eq hFv507.symm) rfl))) (hJ506.up (by omega)) 
  · refine X.iconst 12 i135_11 rfl rfl (by decide) ?_
    refine X.retz i135_12 rfl t135 (by omega) ?_
    exact hQ 0 m (by first | trivial | omega) (Eq.trans (if_pos h502) rfl) (hJ.up (by omega)) 
-- WorkMeterModel.prepaid
noncomputable def f284_1 (a1 : Int) (m : zM) : Int × zM :=
  zn (if (m 4 45 11) = 1 then
  (1)
  else
  (0)) fun v504 =>
  if v504 = a1 then
  ((0, m))
  else
  (zn (if a1 = 0 then
  (0)
  else
  (1)) fun v511 =>
  zs (z_upd m 4 45 11 v511) fun m516 =>
  zs (f222_1 m516) fun m518 =>
  (1, m518))
-- WorkMeterModel.prepaid
theorem c284_1 {s : Nat × (Nat → Int32)} {S : zS} {m0 m : zM} {B : Int} {d : Nat} {Q : Option zV → zM → Prop} (a1 : Int) (hd : 15 ≤ d) (hJ : J S m0 B m) (hB : B + 1 ≤ 1000000000) (ha1 : 0 ≤ a1 ∧ a1 ≤ 1) (hf26 : ¬ S.1 26) (hf32 : ¬ S.1 32) (hg4 : ¬ S.2.1 4) (hQ : ∀ (v : Int) m', (0 ≤ v ∧ v ≤ 1) → f284_1 a1 m = (v, m') → J S m0 (B + 1) m' → Q (some (zi v)) m') : X (EE s) d 284 0 [(0, zr 4 44), (1, zi a1)] [] m Q := by
  refine X.aload_n 1 i284_0 rfl rfl rfl ?_
  refine X.getF 4 i284_1 rfl rfl (by decide) rfl rfl ?_
  refine X.bipush 6 i284_4 rfl rfl (by decide) ?_
  refine X.lald 7 i284_6 rfl rfl (by decide) rfl (by omega) ?_
  have h501 := r45_11 hJ 4
  refine X.lconst (y := 1) 8 i284_7 rfl rfl rfl ?_
  refine X.lcmp 9 i284_8 rfl rfl (fun z502 hz502 => ?_)
  have hK507 : ∀ (v : Int) , (0 ≤ v ∧ v ≤ 1) → (if (m 4 45 11) = 1 then
      (1)
      else
      (0)) = v → X (EE s) d 284 17 [(0, zr 4 44), (1, zi a1)] [zi v] m Q := by
    intro v504 hv504 hT508
    refine X.iload_n 18 i284_17 rfl rfl rfl ?_
    refine X.icmpne 23 21 i284_18 rfl rfl rfl (fun h509 => ?_) (fun h509 => ?_)
    · refine X.aload_n 24 i284_23 rfl rfl rfl ?_
      refine X.getF 27 i284_24 rfl rfl (by decide) rfl rfl ?_
      refine X.bipush 29 i284_27 rfl rfl (by decide) ?_
      refine X.iload_n 30 i284_29 rfl rfl rfl ?_
      have hK514 : ∀ (v : Int) , (0 ≤ v ∧ v ≤ 1) → (if a1 = 0 then
          (0)
          else
          (1)) = v → X (EE s) d 284 38 [(0, zr 4 44)] [zl v, zi 11, zr 4 45] m Q := by
        intro v511 hv511 hT515
        refine X.last' 39 i284_38 rfl rfl (by decide) rfl (by omega) (fun hrm516 m516 hm516 => ?_)
        have hJ517 := w45_11 hJ hm516 (by omega) hf32 hg4
        refine X.aload_n 40 i284_39 rfl rfl rfl ?_
        refine X.callv 43 [] [] [(0, zr 4 44)] i284_40 rfl (by decide) rfl rfl (by omega) rfl rfl (by decide) rfl t222 (Nat.le_of_ble_eq_true rfl) (Nat.le_of_ble_eq_true rfl) rfl ?_
        refine c222_1 (B := B)   (by omega) (hJ517.up (by omega)) (by omega)  hf26 hf32 hg4 (fun m518 hFv520 hJ519 => ?_)
        show X (EE s) d 284 43 [(0, zr 4 44)] [] m518 _
        refine X.iconst 44 i284_43 rfl rfl (by decide) ?_
        refine X.retz i284_44 rfl t284 (by omega) ?_
        exact hQ 1 m518 (by first | trivial | omega) (Eq.trans (zn_eq hT508.symm) (Eq.trans (if_neg h509) (Eq.trans (zn_eq hT515.symm) (Eq.trans (zs_eq hm516) (Eq.trans (zs_eq hFv520.symm) rfl))))) (hJ519.up (by omega)) 
      refine X.ifeq 37 33 i284_30 rfl rfl rfl (fun h510 => ?_) (fun h510 => ?_)
      · refine X.cut [(0, zr 4 44)] i284_37 rfl ?_
        refine X.lconst (y := 0) 38 i284_37 rfl rfl rfl ?_
        exact hK514 0 (by first | trivial | omega) (Eq.trans (if_pos h510) rfl)
      · refine X.lconst (y := 1) 34 i284_33 rfl rfl rfl ?_
        refine X.goto 38 i284_34 rfl rfl ?_
        refine X.cut [(0, zr 4 44)] i284_38 rfl ?_
        exact hK514 1 (by first | trivial | omega) (Eq.trans (if_neg h510) rfl)
    · refine X.iconst 22 i284_21 rfl rfl (by decide) ?_
      refine X.retz i284_22 rfl t284 (by omega) ?_
      exact hQ 0 m (by first | trivial | omega) (Eq.trans (zn_eq hT508.symm) (Eq.trans (if_pos h509) rfl)) (hJ.up (by omega)) 
  refine X.ifne 16 12 i284_9 rfl rfl rfl (fun h503 => ?_) (fun h503 => ?_)
  · have h503c : ¬ (m 4 45 11) = 1 := by omega
    clear h503 hz502
    refine X.iconst 17 i284_16 rfl rfl (by decide) ?_
    exact hK507 0 (by first | trivial | omega) (Eq.trans (if_neg h503c) rfl)
  · have h503c : (m 4 45 11) = 1 := by omega
    clear h503 hz502
    refine X.iconst 13 i284_12 rfl rfl (by decide) ?_
    refine X.goto 17 i284_13 rfl rfl ?_
    exact hK507 1 (by first | trivial | omega) (Eq.trans (if_pos h503c) rfl)
-- WorkMeter.pay
noncomputable def f136_1 (a1 : Int) (m : zM) : Int × zM :=
  if a1 < 0 then
  (((-10000000000), m))
  else
  (if a1 ≤ 1000000000 then
  (zn (w64 ((m 0 8 10) + a1)) fun z503 =>
  zs (z_upd m 0 8 10 z503) fun m504 =>
  zs (f53_1 0 m504) fun m506 =>
  ((m506 0 8 10), m506))
  else
  (((-10000000000), m)))
-- WorkMeter.pay
theorem c136_1 {s : Nat × (Nat → Int32)} {S : zS} {m0 m : zM} {B : Int} {d : Nat} {Q : Option zV → zM → Prop} (a1 : Int) (hd : 16 ≤ d) (hJ : J S m0 B m) (hB : B + 1 ≤ 1000000000) (ha1 : (-2147483648) ≤ a1 ∧ a1 ≤ 2147483647) (hf6 : ¬ S.1 6) (hf12 : ¬ S.1 12) (hg0 : ¬ S.2.1 0) (hQ : ∀ (v : Int) m', (True) → f136_1 a1 m = (v, m') → J S m0 (B + 1) m' → Q (some (zl v)) m') : X (EE s) d 136 0 [(0, zr 4 40), (1, zi a1)] [] m Q := by
  refine X.iload_n 1 i136_0 rfl rfl rfl ?_
  refine X.iflt 10 4 i136_1 rfl rfl rfl (fun h501 => ?_) (fun h501 => ?_)
  · refine X.cut [] i136_10 rfl ?_
    refine X.ldc2 13 i136_10 rfl rfl (by decide) ?_
    refine X.retl i136_13 rfl t136 ?_
    exact hQ (-10000000000) m (by first | trivial | omega) (Eq.trans (if_pos h501) rfl) (hJ.up (by omega)) 
  · refine X.iload_n 5 i136_4 rfl rfl rfl ?_
    refine X.ldc 7 i136_5 rfl rfl (by decide) ?_
    refine X.icmple 14 10 i136_7 rfl rfl rfl (fun h502 => ?_) (fun h502 => ?_)
    · refine X.aload_n 15 i136_14 rfl rfl rfl ?_
      refine X.getF 18 i136_15 rfl rfl (by decide) rfl rfl ?_
      refine X.dup 19 i136_18 rfl rfl rfl ?_
      refine X.getL 22 10 i136_19 rfl rfl (by decide) rfl rfl rfl ?_
      refine X.iload_n 23 i136_22 rfl rfl rfl ?_
      refine X.i2l 24 i136_23 rfl rfl ?_
      refine X.laddW 25 i136_24 rfl rfl (fun z503 ez503 hz503 => ?_)
      refine X.putL' 28 10 i136_25 rfl rfl (by decide) rfl rfl rfl (fun hrm504 m504 hm504 => ?_)
      have hJ505 := w8_10 hJ hm504 hrm504 hf12 hg0
      refine X.aload_n 29 i136_28 rfl rfl rfl ?_
      refine X.getF 32 i136_29 rfl rfl (by decide) rfl rfl ?_
      refine X.callv 35 [] [] [(0, zr 0 8)] i136_32 rfl (by decide) rfl rfl (by omega) rfl rfl (by decide) rfl t53 (Nat.le_of_ble_eq_true rfl) (Nat.le_of_ble_eq_true rfl) rfl ?_
      refine c53_1 (B := B) 0  (by omega) (hJ505.up (by omega)) (by omega)  hf6 hf12 hg0 (fun m506 hFv508 hJ507 => ?_)
      show X (EE s) d 136 35 [(0, zr 4 40), (1, zi a1)] [] m506 _
      refine X.aload_n 36 i136_35 rfl rfl rfl ?_
      refine X.getF 39 i136_36 rfl rfl (by decide) rfl rfl ?_
      refine X.getL 42 10 i136_39 rfl rfl (by decide) rfl rfl rfl ?_
      refine X.retl i136_42 rfl t136 ?_
      exact hQ (m506 0 8 10) m506 (by first | trivial | omega) (Eq.trans (if_neg h501) (Eq.trans (if_pos h502) (Eq.trans (zn_eq ez503) (Eq.trans (zs_eq hm504) (Eq.trans (zs_eq hFv508.symm) rfl))))) (hJ507.up (by omega)) 
    · refine X.cut [] i136_10 rfl ?_
      refine X.ldc2 13 i136_10 rfl rfl (by decide) ?_
      refine X.retl i136_13 rfl t136 ?_
      exact hQ (-10000000000) m (by first | trivial | omega) (Eq.trans (if_neg h501) (Eq.trans (if_neg h502) rfl)) (hJ.up (by omega)) 
-- WorkMeterModel.pay
noncomputable def f285_1 (a1 : Int) (m : zM) : Int × zM :=
  if a1 < 0 then
  (((-10000000000), m))
  else
  (if a1 ≤ 1000000000 then
  (zn (w64 ((m 4 45 10) + a1)) fun z508 =>
  zs (z_upd m 4 45 10 z508) fun m509 =>
  zs (f222_1 m509) fun m511 =>
  ((m511 4 45 10), m511))
  else
  (((-10000000000), m)))
end
section
-- WorkMeterModel.pay
theorem c285_1 {s : Nat × (Nat → Int32)} {S : zS} {m0 m : zM} {B : Int} {d : Nat} {Q : Option zV → zM → Prop} (a1 : Int) (hd : 15 ≤ d) (hJ : J S m0 B m) (hB : B + 1 ≤ 1000000000) (ha1 : (-2147483648) ≤ a1 ∧ a1 ≤ 2147483647) (hf26 : ¬ S.1 26) (hf32 : ¬ S.1 32) (hg4 : ¬ S.2.1 4) (hQ : ∀ (v : Int) m', (True) → f285_1 a1 m = (v, m') → J S m0 (B + 1) m' → Q (some (zl v)) m') : X (EE s) d 285 0 [(0, zr 4 44), (1, zi a1)] [] m Q := by
  refine X.iload_n 1 i285_0 rfl rfl rfl ?_
  refine X.i2l 2 i285_1 rfl rfl ?_
  refine X.lconst (y := 0) 3 i285_2 rfl rfl rfl ?_
  refine X.ldc2 6 i285_3 rfl rfl (by decide) ?_
  refine X.calls 9 [zl a1, zl 0, zl 1000000000] [] [(0, zl a1), (2, zl 0), (4, zl 1000000000)] i285_6 (by decide) rfl rfl (by omega) rfl rfl t204 (Nat.le_of_ble_eq_true rfl) (Nat.le_of_ble_eq_true rfl) rfl ?_
  refine X.lload_n 1 i204_0 rfl rfl rfl ?_
  refine X.lload_n 2 i204_1 rfl rfl rfl ?_
  refine X.lcmp 3 i204_2 rfl rfl (fun z501 hz501 => ?_)
  refine X.iflt 17 6 i204_3 rfl rfl rfl (fun h502 => ?_) (fun h502 => ?_)
  · have h502c : a1 < 0 := by omega
    clear h502 hz501
    refine X.cut [] i204_17 rfl ?_
    refine X.iconst 18 i204_17 rfl rfl (by decide) ?_
    refine X.retz i204_18 rfl t204 (by omega) ?_
    show X (EE s) d 285 9 [(0, zr 4 44), (1, zi a1)] [zi 0] m _
    refine X.ifne 16 12 i285_9 rfl rfl rfl (fun h503 => (by exfalso; omega)) (fun h503 => ?_)
    refine X.ldc2 15 i285_12 rfl rfl (by decide) ?_
    refine X.retl i285_15 rfl t285 ?_
    exact hQ (-10000000000) m (by first | trivial | omega) (Eq.trans (if_pos h502c) rfl) (hJ.up (by omega)) 
  · have h502c : ¬ a1 < 0 := by omega
    clear h502 hz501
    refine X.lload_n 7 i204_6 rfl rfl rfl ?_
    refine X.lload 9 i204_7 rfl rfl rfl ?_
    refine X.lcmp 10 i204_9 rfl rfl (fun z504 hz504 => ?_)
    refine X.ifgt 17 13 i204_10 rfl rfl rfl (fun h505 => ?_) (fun h505 => ?_)
    · have h505c : ¬ a1 ≤ 1000000000 := by omega
      clear h505 hz504
      refine X.cut [] i204_17 rfl ?_
      refine X.iconst 18 i204_17 rfl rfl (by decide) ?_
      refine X.retz i204_18 rfl t204 (by omega) ?_
      show X (EE s) d 285 9 [(0, zr 4 44), (1, zi a1)] [zi 0] m _
      refine X.ifne 16 12 i285_9 rfl rfl rfl (fun h506 => (by exfalso; omega)) (fun h506 => ?_)
      refine X.ldc2 15 i285_12 rfl rfl (by decide) ?_
      refine X.retl i285_15 rfl t285 ?_
      exact hQ (-10000000000) m (by first | trivial | omega) (Eq.trans (if_neg h502c) (Eq.trans (if_neg h505c) rfl)) (hJ.up (by omega)) 
    · have h505c : a1 ≤ 1000000000 := by omega
      clear h505 hz504
      refine X.iconst 14 i204_13 rfl rfl (by decide) ?_
      refine X.goto 18 i204_14 rfl rfl ?_
      refine X.cut [] i204_18 rfl ?_
      refine X.retz i204_18 rfl t204 (by omega) ?_
      show X (EE s) d 285 9 [(0, zr 4 44), (1, zi a1)] [zi 1] m _
      refine X.ifne 16 12 i285_9 rfl rfl rfl (fun h507 => ?_) (fun h507 => (by exfalso; omega))
      refine X.aload_n 17 i285_16 rfl rfl rfl ?_
      refine X.getF 20 i285_17 rfl rfl (by decide) rfl rfl ?_
      refine X.bipush 22 i285_20 rfl rfl (by decide) ?_
      refine X.dup2 23 i285_22 rfl rfl ?_
      refine X.lald 24 i285_23 rfl rfl (by decide) rfl (by omega) ?_
      refine X.iload_n 25 i285_24 rfl rfl rfl ?_
      refine X.i2l 26 i285_25 rfl rfl ?_
      refine X.laddW 27 i285_26 rfl rfl (fun z508 ez508 hz508 => ?_)
      refine X.last' 28 i285_27 rfl rfl (by decide) rfl (by omega) (fun hrm509 m509 hm509 => ?_)
      have hJ510 := w45_10 hJ hm509 hrm509 hf32 hg4
      refine X.aload_n 29 i285_28 rfl rfl rfl ?_
      refine X.callv 32 [] [] [(0, zr 4 44)] i285_29 rfl (by decide) rfl rfl (by omega) rfl rfl (by decide) rfl t222 (Nat.le_of_ble_eq_true rfl) (Nat.le_of_ble_eq_true rfl) rfl ?_
      refine c222_1 (B := B)   (by omega) (hJ510.up (by omega)) (by omega)  hf26 hf32 hg4 (fun m511 hFv513 hJ512 => ?_)
      show X (EE s) d 285 32 [(0, zr 4 44), (1, zi a1)] [] m511 _
      refine X.aload_n 33 i285_32 rfl rfl rfl ?_
      refine X.getF 36 i285_33 rfl rfl (by decide) rfl rfl ?_
      refine X.bipush 38 i285_36 rfl rfl (by decide) ?_
      refine X.lald 39 i285_38 rfl rfl (by decide) rfl (by omega) ?_
      refine X.retl i285_39 rfl t285 ?_
      exact hQ (m511 4 45 10) m511 (by first | trivial | omega) (Eq.trans (if_neg h502c) (Eq.trans (if_pos h505c) (Eq.trans (zn_eq ez508) (Eq.trans (zs_eq hm509) (Eq.trans (zs_eq hFv513.symm) rfl))))) (hJ512.up (by omega)) 
noncomputable def fl139_14_1_b (self : Int → zM → zM) (k65 : zM → zM) (g0 g2 : Nat) (y1 y3 : Int) (y4 : Int) (m : zM) : zM :=
  if 28 ≤ y4 then
  (k65 m)
  else
  (zn (w64 ((m g0 24 y4) - (m g0 25 y4))) fun z508 =>
  zs (z_upd m g0 26 (y3 + y4) z508) fun m509 =>
  zs (z_upd m509 g0 25 y4 (m509 g0 24 y4)) fun m511 =>
  self (y4 + 1) m511)
noncomputable def fl139_14_1 (k65 : zM → zM) (g0 g2 : Nat) (y1 y3 : Int) : Nat → Int → zM → zM
  | 0 => fun y4 m => m
  | n + 1 => fl139_14_1_b (fl139_14_1 k65 g0 g2 y1 y3 n) k65 g0 g2 y1 y3
theorem l139_14_1 {s : Nat × (Nat → Int32)} {S : zS} {m0 : zM} {d : Nat} {Q : Option zV → zM → Prop} {R0 : zM} {k65 : zM → zM} (g0 g2 : Nat) (y1 y3 : Int) (BE : Int) (hE : BE ≤ 1000000000) (hd : 13 ≤ d) (hy1 : 0 ≤ y1 ∧ y1 ≤ 2000000000) (hy3 : 0 ≤ y3 ∧ y3 ≤ 165) (hf5 : ¬ S.1 5) (hgg0 : ¬ S.2.1 g0)
    (K65 : ∀ (m' : zM) (B' : Int), J S m0 B' m' → B' ≤ BE → R0 = k65 m' → X (EE s) d 139 65 [(0, zr g0 23), (1, zi y1), (2, zr g2 30), (3, zi y3)] [] m' Q) :
    ∀ (n : Nat) (y4 : Int) (m : zM) (B : Int), J S m0 B m → B + 0 * (n : Int) ≤ BE → (0 ≤ y4 ∧ y4 ≤ 28) → 28 - y4 < (n : Int) → R0 = fl139_14_1 k65 g0 g2 y1 y3 n y4 m → X (EE s) d 139 14 [(0, zr g0 23), (1, zi y1), (2, zr g2 30), (3, zi y3), (4, zi y4)] [] m Q := by
  intro n
  induction n with
  | zero =>
    intro y4 m B hJ hB hy4 hn hR
    exfalso
    omega
  | succ n ih =>
    intro y4 m B hJ hB hy4 hn hR
    replace hR : R0 = fl139_14_1_b (fl139_14_1 k65 g0 g2 y1 y3 n) k65 g0 g2 y1 y3 y4 m := hR
    refine X.iload 16 i139_14 rfl rfl rfl ?_
    refine X.bipush 18 i139_16 rfl rfl (by decide) ?_
    refine X.icmpge 65 21 i139_18 rfl rfl rfl (fun h507 => ?_) (fun h507 => ?_)
    · refine X.cut [(0, zr g0 23), (1, zi y1), (2, zr g2 30), (3, zi y3)] i139_65 rfl ?_
      exact K65  m (B) (hJ.up (by omega)) (by omega)  (Eq.trans hR (Eq.trans (if_pos h507) rfl))
    · refine X.aload_n 22 i139_21 rfl rfl rfl ?_
      refine X.getR 25 i139_22 rfl rfl (by decide) rfl rfl ?_
      refine X.iload_n 26 i139_25 rfl rfl rfl ?_
      refine X.iload 28 i139_26 rfl rfl rfl ?_
      refine X.iadd 29 i139_28 rfl rfl (by omega) ?_
      refine X.aload_n 30 i139_29 rfl rfl rfl ?_
      refine X.getR 33 i139_30 rfl rfl (by decide) rfl rfl ?_
      refine X.iload 35 i139_33 rfl rfl rfl ?_
      refine X.lald 36 i139_35 rfl rfl (by decide) rfl (by omega) ?_
      refine X.aload_n 37 i139_36 rfl rfl rfl ?_
      refine X.getR 40 i139_37 rfl rfl (by decide) rfl rfl ?_
      refine X.iload 42 i139_40 rfl rfl rfl ?_
      refine X.lald 43 i139_42 rfl rfl (by decide) rfl (by omega) ?_
      refine X.lsubW 44 i139_43 rfl rfl (fun z508 ez508 hz508 => ?_)
      refine X.last' 45 i139_44 rfl rfl (by decide) rfl (by omega) (fun hrm509 m509 hm509 => ?_)
      have hJ510 := w26_0 hJ hm509 (by omega) hrm509 hf5 hgg0
      refine X.aload_n 46 i139_45 rfl rfl rfl ?_
      refine X.getR 49 i139_46 rfl rfl (by decide) rfl rfl ?_
      refine X.iload 51 i139_49 rfl rfl rfl ?_
      refine X.aload_n 52 i139_51 rfl rfl rfl ?_
      refine X.getR 55 i139_52 rfl rfl (by decide) rfl rfl ?_
      refine X.iload 57 i139_55 rfl rfl rfl ?_
      refine X.lald 58 i139_57 rfl rfl (by decide) rfl (by omega) ?_
      refine X.last' 59 i139_58 rfl rfl (by decide) rfl (by omega) (fun hrm511 m511 hm511 => ?_)
      have hJ512 := w25_0 hJ510 hm511 (by omega) hrm511 hf5 hgg0
      refine X.iinc 62 [(0, zr g0 23), (1, zi y1), (2, zr g2 30), (3, zi y3), (4, zi (y4 + 1))] i139_59 rfl rfl rfl (by omega) rfl ?_
      refine X.goto 14 i139_62 rfl rfl ?_
      exact ih (y4 + 1) m511 (B) (hJ512.up (by omega)) (by omega) (by omega) (by omega) (Eq.trans hR (Eq.trans (if_neg h507) (Eq.trans (zn_eq ez508) (Eq.trans (zs_eq hm509) (Eq.trans (zs_eq hm511) rfl)))))
-- WorkMeter$Registers.keepBill
noncomputable def f139_1 (g0 g2 : Nat) (a1 : Int) (m : zM) : zM :=
  fl139_14_1 (fun m502 =>
  zs (z_cpy m502 g0 26 g2 31 0 ((((m g0 23 3) % 6) * 33) + 28) 4) fun m506 =>
  zs (z_upd m506 g0 26 ((((m g0 23 3) % 6) * 33) + 32) a1) fun m508 =>
  zs (z_upd m508 g0 23 3 ((m508 g0 23 3) + 1)) fun m511 =>
  m511) g0 g2 a1 (((m g0 23 3) % 6) * 33) (zfu 29) 0 m
-- WorkMeter$Registers.keepBill
theorem c139_1 {s : Nat × (Nat → Int32)} {S : zS} {m0 m : zM} {B : Int} {d : Nat} {Q : Option zV → zM → Prop} (g0 g2 : Nat) (a1 : Int) (hd : 13 ≤ d) (hJ : J S m0 B m) (hB : B + 1 ≤ 1000000000) (ha1 : 0 ≤ a1 ∧ a1 ≤ 2000000000) (hf5 : ¬ S.1 5) (hgg0 : ¬ S.2.1 g0) (hQ : ∀ m', f139_1 g0 g2 a1 m = m' → J S m0 (B + 1) m' → Q none m') : X (EE s) d 139 0 [(0, zr g0 23), (1, zi a1), (2, zr g2 30)] [] m Q := by
  refine X.aload_n 1 i139_0 rfl rfl rfl ?_
  refine X.getI 4 3 i139_1 rfl rfl (by decide) rfl rfl rfl ?_
  have h501 := r23_3 hJ g0
  refine X.bipush 6 i139_4 rfl rfl (by decide) ?_
  refine X.irem 7 i139_6 rfl rfl (by omega) ?_
  refine X.bipush 9 i139_7 rfl rfl (by decide) ?_
  refine X.imul 10 i139_9 rfl rfl (by omega) ?_
  refine X.istore_n 11 [(0, zr g0 23), (1, zi a1), (2, zr g2 30), (3, zi (((m g0 23 3) % 6) * 33))] i139_10 rfl rfl rfl ?_
  refine X.iconst 12 i139_11 rfl rfl (by decide) ?_
  refine X.istore 14 [(0, zr g0 23), (1, zi a1), (2, zr g2 30), (3, zi (((m g0 23 3) % 6) * 33)), (4, zi 0)] i139_12 rfl rfl rfl ?_
  have hz29 := zfu_eq 29
  refine l139_14_1 (s := s) (d := d) (R0 := (f139_1 g0 g2 a1 m)) g0 g2 a1 (((m g0 23 3) % 6) * 33)  (BE := B + 0) (by omega) (by omega) (by omega) (by omega) hf5 hgg0 (fun  m502 B503 hJ504 hBB503 hR505 => ?_) (zfu 29) 0 m (B) (hJ.up (by omega)) (by omega) (by omega) (by omega) rfl
  refine X.aload_n 66 i139_65 rfl rfl rfl ?_
  refine X.getR 69 i139_66 rfl rfl (by decide) rfl rfl ?_
  refine X.iconst 70 i139_69 rfl rfl (by decide) ?_
  refine X.aload_n 71 i139_70 rfl rfl rfl ?_
  refine X.getR 74 i139_71 rfl rfl (by decide) rfl rfl ?_
  refine X.iload_n 75 i139_74 rfl rfl rfl ?_
  refine X.bipush 77 i139_75 rfl rfl (by decide) ?_
  refine X.iadd 78 i139_77 rfl rfl (by omega) ?_
  refine X.iconst 79 i139_78 rfl rfl (by decide) ?_
  refine X.cpL' 82 i139_79 rfl rfl (by omega) (Nat.le_of_ble_eq_true rfl) (by decide) (by decide) rfl rfl (by omega) (fun m506 hm506 => ?_)
  have hJ507 := J.cpyF hJ504 hm506 rfl rfl (fun i hi => jw_ja (n := 198) rfl (by omega)) hf5 hgg0
  refine X.aload_n 83 i139_82 rfl rfl rfl ?_
  refine X.getR 86 i139_83 rfl rfl (by decide) rfl rfl ?_
  refine X.iload_n 87 i139_86 rfl rfl rfl ?_
  refine X.bipush 89 i139_87 rfl rfl (by decide) ?_
  refine X.iadd 90 i139_89 rfl rfl (by omega) ?_
  refine X.iload_n 91 i139_90 rfl rfl rfl ?_
  refine X.i2l 92 i139_91 rfl rfl ?_
  refine X.last' 93 i139_92 rfl rfl (by decide) rfl (by omega) (fun hrm508 m508 hm508 => ?_)
  have hJ509 := w26_0 hJ507 hm508 (by omega) hrm508 hf5 hgg0
  refine X.aload_n 94 i139_93 rfl rfl rfl ?_
  refine X.dup 95 i139_94 rfl rfl rfl ?_
  refine X.getI 98 3 i139_95 rfl rfl (by decide) rfl rfl rfl ?_
  have h510 := r23_3 hJ509 g0
  refine X.iconst 99 i139_98 rfl rfl (by decide) ?_
  refine X.iadd 100 i139_99 rfl rfl (by omega) ?_
  refine X.putI' 103 3 i139_100 rfl rfl (by decide) rfl rfl rfl (fun hrm511 m511 hm511 => ?_)
  have hJ512 := w23_3 (hJ509.up (B' := B503 + 1) (by omega)) hm511 (by omega) hf5 hgg0
  refine X.retv i139_103 rfl t139 ?_
  exact hQ  m511  (Eq.trans hR505 (Eq.trans (zs_eq hm506) (Eq.trans (zs_eq hm508) (Eq.trans (zs_eq hm511) rfl)))) (hJ512.up (by omega)) 
noncomputable def fl11_6_2_b (self : Int → zM → zM) (k22 : zM → zM) (g0 : Nat) (y1 y4 : Int) (y3 : Int) (m : zM) : zM :=
  if y4 ≤ y3 then
  (k22 m)
  else
  (zs (z_upd m g0 31 y3 y1) fun m505 =>
  self (y3 + 1) m505)
noncomputable def fl11_6_2 (k22 : zM → zM) (g0 : Nat) (y1 y4 : Int) : Nat → Int → zM → zM
  | 0 => fun y3 m => m
  | n + 1 => fl11_6_2_b (fl11_6_2 k22 g0 y1 y4 n) k22 g0 y1 y4
theorem l11_6_2 {s : Nat × (Nat → Int32)} {S : zS} {m0 : zM} {d : Nat} {Q : Option zV → zM → Prop} {R0 : zM} {k22 : zM → zM} (g0 : Nat) (y1 y4 : Int) (BE : Int) (hE : BE ≤ 1000000000) (hd : 13 ≤ d) (hy1 : (-1) ≤ y1 ∧ y1 ≤ (-1)) (hy4 : 4 ≤ y4 ∧ y4 ≤ 4) (hf8 : ¬ S.1 8) (hgg0 : ¬ S.2.1 g0)
    (K22 : ∀ (m' : zM) (B' : Int), J S m0 B' m' → B' ≤ BE → R0 = k22 m' → X (EE s) d 11 22 [] [] m' Q) :
    ∀ (n : Nat) (y3 : Int) (m : zM) (B : Int), J S m0 B m → B + 0 * (n : Int) ≤ BE → (0 ≤ y3 ∧ y3 ≤ 4) → 4 - y3 < (n : Int) → R0 = fl11_6_2 k22 g0 y1 y4 n y3 m → X (EE s) d 11 6 [(0, zr g0 31), (1, zl y1), (3, zi y3), (4, zi y4)] [] m Q := by
  intro n
  induction n with
  | zero =>
    intro y3 m B hJ hB hy3 hn hR
    exfalso
    omega
  | succ n ih =>
    intro y3 m B hJ hB hy3 hn hR
    replace hR : R0 = fl11_6_2_b (fl11_6_2 k22 g0 y1 y4 n) k22 g0 y1 y4 y3 m := hR
    refine X.iload_n 7 i11_6 rfl rfl rfl ?_
    refine X.iload 9 i11_7 rfl rfl rfl ?_
    refine X.icmpge 22 12 i11_9 rfl rfl rfl (fun h504 => ?_) (fun h504 => ?_)
    · refine X.cut [] i11_22 rfl ?_
      exact K22  m (B) (hJ.up (by omega)) (by omega)  (Eq.trans hR (Eq.trans (if_pos h504) rfl))
    · refine X.aload_n 13 i11_12 rfl rfl rfl ?_
      refine X.iload_n 14 i11_13 rfl rfl rfl ?_
      refine X.lload_n 15 i11_14 rfl rfl rfl ?_
      refine X.last' 16 i11_15 rfl rfl (by decide) rfl (by omega) (fun hrm505 m505 hm505 => ?_)
      have hJ506 := w31_0 hJ hm505 (by omega) hrm505 hf8 hgg0
      refine X.iinc 19 [(0, zr g0 31), (1, zl y1), (3, zi (y3 + 1)), (4, zi y4)] i11_16 rfl rfl rfl (by omega) rfl ?_
      refine X.goto 6 i11_19 rfl rfl ?_
      exact ih (y3 + 1) m505 (B) (hJ506.up (by omega)) (by omega) (by omega) (by omega) (Eq.trans hR (Eq.trans (if_neg h504) (Eq.trans (zs_eq hm505) rfl)))
-- java/util/Arrays.fill
noncomputable def f11_2 (g0 : Nat) (a1 : Int) (m : zM) : zM :=
  fl11_6_2 (fun m501 =>
  m501) g0 a1 4 (zfu 5) 0 m
-- java/util/Arrays.fill
theorem c11_2 {s : Nat × (Nat → Int32)} {S : zS} {m0 m : zM} {B : Int} {d : Nat} {Q : Option zV → zM → Prop} (g0 : Nat) (a1 : Int) (hd : 13 ≤ d) (hJ : J S m0 B m) (hB : B + 0 ≤ 1000000000) (ha1 : (-1) ≤ a1 ∧ a1 ≤ (-1)) (hf8 : ¬ S.1 8) (hgg0 : ¬ S.2.1 g0) (hQ : ∀ m', f11_2 g0 a1 m = m' → J S m0 (B) m' → Q none m') : X (EE s) d 11 0 [(0, zr g0 31), (1, zl a1)] [] m Q := by
  refine X.iconst 1 i11_0 rfl rfl (by decide) ?_
  refine X.istore_n 2 [(0, zr g0 31), (1, zl a1), (3, zi 0)] i11_1 rfl rfl rfl ?_
  refine X.aload_n 3 i11_2 rfl rfl rfl ?_
  refine X.alen 4 i11_3 rfl rfl (by decide) rfl ?_
  show X (EE s) d 11 4 [(0, zr g0 31), (1, zl a1), (3, zi 0)] [zi 4] m _
  refine X.istore 6 [(0, zr g0 31), (1, zl a1), (3, zi 0), (4, zi 4)] i11_4 rfl rfl rfl ?_
  have hz5 := zfu_eq 5
  refine l11_6_2 (s := s) (d := d) (R0 := (f11_2 g0 a1 m)) g0 a1 4  (BE := B + 0) (by omega) (by omega) (by omega) (by omega) hf8 hgg0 (fun  m501 B502 hJ503 hBB502 hR504 => ?_) (zfu 5) 0 m (B) (hJ.up (by omega)) (by omega) (by omega) (by omega) rfl
  refine X.retv i11_22 rfl t11 ?_
  exact hQ  m501  (Eq.trans hR504 rfl) (hJ503.up (by omega)) 
noncomputable def fl5_5_4_b (self : Int → zM → zM) (k20 : zM → zM) (g0 : Nat) (y1 y3 : Int) (y2 : Int) (m : zM) : zM :=
  if y3 ≤ y2 then
  (k20 m)
  else
  (zs (z_upd m g0 32 y2 y1) fun m505 =>
  self (y2 + 1) m505)
noncomputable def fl5_5_4 (k20 : zM → zM) (g0 : Nat) (y1 y3 : Int) : Nat → Int → zM → zM
  | 0 => fun y2 m => m
  | n + 1 => fl5_5_4_b (fl5_5_4 k20 g0 y1 y3 n) k20 g0 y1 y3
theorem l5_5_4 {s : Nat × (Nat → Int32)} {S : zS} {m0 : zM} {d : Nat} {Q : Option zV → zM → Prop} {R0 : zM} {k20 : zM → zM} (g0 : Nat) (y1 y3 : Int) (BE : Int) (hE : BE ≤ 1000000000) (hd : 13 ≤ d) (hy1 : (-1) ≤ y1 ∧ y1 ≤ (-1)) (hy3 : 4 ≤ y3 ∧ y3 ≤ 4) (hf8 : ¬ S.1 8) (hgg0 : ¬ S.2.1 g0)
    (K20 : ∀ (m' : zM) (B' : Int), J S m0 B' m' → B' ≤ BE → R0 = k20 m' → X (EE s) d 5 20 [] [] m' Q) :
    ∀ (n : Nat) (y2 : Int) (m : zM) (B : Int), J S m0 B m → B + 0 * (n : Int) ≤ BE → (0 ≤ y2 ∧ y2 ≤ 4) → 4 - y2 < (n : Int) → R0 = fl5_5_4 k20 g0 y1 y3 n y2 m → X (EE s) d 5 5 [(0, zr g0 32), (1, zi y1), (2, zi y2), (3, zi y3)] [] m Q := by
  intro n
  induction n with
  | zero =>
    intro y2 m B hJ hB hy2 hn hR
    exfalso
    omega
  | succ n ih =>
    intro y2 m B hJ hB hy2 hn hR
    replace hR : R0 = fl5_5_4_b (fl5_5_4 k20 g0 y1 y3 n) k20 g0 y1 y3 y2 m := hR
    refine X.iload_n 6 i5_5 rfl rfl rfl ?_
    refine X.iload_n 7 i5_6 rfl rfl rfl ?_
    refine X.icmpge 20 10 i5_7 rfl rfl rfl (fun h504 => ?_) (fun h504 => ?_)
    · refine X.cut [] i5_20 rfl ?_
      exact K20  m (B) (hJ.up (by omega)) (by omega)  (Eq.trans hR (Eq.trans (if_pos h504) rfl))
    · refine X.aload_n 11 i5_10 rfl rfl rfl ?_
      refine X.iload_n 12 i5_11 rfl rfl rfl ?_
      refine X.iload_n 13 i5_12 rfl rfl rfl ?_
      refine X.iast' 14 i5_13 rfl rfl (by decide) rfl (by omega) (fun hrm505 m505 hm505 => ?_)
      have hJ506 := w32_0 hJ hm505 (by omega) hrm505 hf8 hgg0
      refine X.iinc 17 [(0, zr g0 32), (1, zi y1), (2, zi (y2 + 1)), (3, zi y3)] i5_14 rfl rfl rfl (by omega) rfl ?_
      refine X.goto 5 i5_17 rfl rfl ?_
      exact ih (y2 + 1) m505 (B) (hJ506.up (by omega)) (by omega) (by omega) (by omega) (Eq.trans hR (Eq.trans (if_neg h504) (Eq.trans (zs_eq hm505) rfl)))
-- java/util/Arrays.fill
noncomputable def f5_4 (g0 : Nat) (a1 : Int) (m : zM) : zM :=
  fl5_5_4 (fun m501 =>
  m501) g0 a1 4 (zfu 5) 0 m
-- java/util/Arrays.fill
theorem c5_4 {s : Nat × (Nat → Int32)} {S : zS} {m0 m : zM} {B : Int} {d : Nat} {Q : Option zV → zM → Prop} (g0 : Nat) (a1 : Int) (hd : 13 ≤ d) (hJ : J S m0 B m) (hB : B + 0 ≤ 1000000000) (ha1 : (-1) ≤ a1 ∧ a1 ≤ (-1)) (hf8 : ¬ S.1 8) (hgg0 : ¬ S.2.1 g0) (hQ : ∀ m', f5_4 g0 a1 m = m' → J S m0 (B) m' → Q none m') : X (EE s) d 5 0 [(0, zr g0 32), (1, zi a1)] [] m Q := by
  refine X.iconst 1 i5_0 rfl rfl (by decide) ?_
  refine X.istore_n 2 [(0, zr g0 32), (1, zi a1), (2, zi 0)] i5_1 rfl rfl rfl ?_
  refine X.aload_n 3 i5_2 rfl rfl rfl ?_
  refine X.alen 4 i5_3 rfl rfl (by decide) rfl ?_
  show X (EE s) d 5 4 [(0, zr g0 32), (1, zi a1), (2, zi 0)] [zi 4] m _
  refine X.istore_n 5 [(0, zr g0 32), (1, zi a1), (2, zi 0), (3, zi 4)] i5_4 rfl rfl rfl ?_
  have hz5 := zfu_eq 5
  refine l5_5_4 (s := s) (d := d) (R0 := (f5_4 g0 a1 m)) g0 a1 4  (BE := B + 0) (by omega) (by omega) (by omega) (by omega) hf8 hgg0 (fun  m501 B502 hJ503 hBB502 hR504 => ?_) (zfu 5) 0 m (B) (hJ.up (by omega)) (by omega) (by omega) (by omega) rfl
  refine X.retv i5_20 rfl t5 ?_
  exact hQ  m501  (Eq.trans hR504 rfl) (hJ503.up (by omega)) 
-- WorkMeter$Demand.clearMost
noncomputable def f10_1 (g0 : Nat) (m : zM) : zM :=
  zs (f11_2 g0 (-1) m) fun m501 =>
  zs (f5_4 g0 (-1) m501) fun m504 =>
  m504
-- WorkMeter$Demand.clearMost
theorem c10_1 {s : Nat × (Nat → Int32)} {S : zS} {m0 m : zM} {B : Int} {d : Nat} {Q : Option zV → zM → Prop} (g0 : Nat) (hd : 14 ≤ d) (hJ : J S m0 B m) (hB : B + 0 ≤ 1000000000) (hf8 : ¬ S.1 8) (hgg0 : ¬ S.2.1 g0) (hQ : ∀ m', f10_1 g0 m = m' → J S m0 (B) m' → Q none m') : X (EE s) d 10 0 [(0, zr g0 30)] [] m Q := by
  refine X.aload_n 1 i10_0 rfl rfl rfl ?_
  refine X.getR 4 i10_1 rfl rfl (by decide) rfl rfl ?_
  refine X.ldc2 7 i10_4 rfl rfl (by decide) ?_
  refine X.calls 10 [zr g0 31, zl (-1)] [] [(0, zr g0 31), (1, zl (-1))] i10_7 (by decide) rfl rfl (by omega) rfl rfl t11 (Nat.le_of_ble_eq_true rfl) (Nat.le_of_ble_eq_true rfl) rfl ?_
  refine c11_2 (B := B) g0 (-1) (by omega) (hJ.up (by omega)) (by omega) (by omega) hf8 hgg0 (fun m501 hFv503 hJ502 => ?_)
  show X (EE s) d 10 10 [(0, zr g0 30)] [] m501 _
  refine X.aload_n 11 i10_10 rfl rfl rfl ?_
  refine X.getR 14 i10_11 rfl rfl (by decide) rfl rfl ?_
  refine X.iconst 15 i10_14 rfl rfl (by decide) ?_
  refine X.calls 18 [zr g0 32, zi (-1)] [] [(0, zr g0 32), (1, zi (-1))] i10_15 (by decide) rfl rfl (by omega) rfl rfl t5 (Nat.le_of_ble_eq_true rfl) (Nat.le_of_ble_eq_true rfl) rfl ?_
  refine c5_4 (B := B) g0 (-1) (by omega) (hJ502.up (by omega)) (by omega) (by omega) hf8 hgg0 (fun m504 hFv506 hJ505 => ?_)
  show X (EE s) d 10 18 [(0, zr g0 30)] [] m504 _
  refine X.retv i10_18 rfl t10 ?_
  exact hQ  m504  (Eq.trans (zs_eq hFv503.symm) (Eq.trans (zs_eq hFv506.symm) rfl)) (hJ505.up (by omega)) 
-- WorkMeter$Meter.note
theorem c54_8 {s : Nat × (Nat → Int32)} {S : zS} {m0 m : zM} {B : Int} {d : Nat} {Q : Option zV → zM → Prop} (g0 : Nat) (a1 a2 : Int) (hd : 14 ≤ d) (hJ : J S m0 B m) (hB : B + 1 ≤ 1000000000) (ha1 : 24 ≤ a1 ∧ a1 ≤ 24) (ha2 : 0 ≤ a2 ∧ a2 ≤ 0) (hf6 : ¬ S.1 6) (hgg0 : ¬ S.2.1 g0) (hQ : ∀ m', f54_1 g0 a1 a2 m = m' → J S m0 (B + 1) m' → Q none m') : X (EE s) d 54 0 [(0, zr g0 8), (1, zi a1), (2, zi a2)] [] m Q := by
  refine X.aload_n 1 i54_0 rfl rfl rfl ?_
  refine X.getR 4 i54_1 rfl rfl (by decide) rfl rfl ?_
  refine X.aload_n 5 i54_4 rfl rfl rfl ?_
  refine X.getI 8 9 i54_5 rfl rfl (by decide) rfl rfl rfl ?_
  have h501 := r8_9 hJ g0
  refine X.iload_n 9 i54_8 rfl rfl rfl ?_
  refine X.iload_n 10 i54_9 rfl rfl rfl ?_
  refine X.callv 13 [zi (m g0 8 9), zi a1, zi a2] [] [(0, zr g0 37), (1, zi (m g0 8 9)), (2, zi a1), (3, zi a2)] i54_10 rfl (by decide) rfl rfl (by omega) rfl rfl (by decide) rfl t55 (Nat.le_of_ble_eq_true rfl) (Nat.le_of_ble_eq_true rfl) rfl ?_
  refine c55_1 (B := B) g0 (m g0 8 9) a1 a2 (by omega) (hJ.up (by omega)) (by omega) (by omega) (by omega) (by omega) hf6 hgg0 (fun m502 hFv504 hJ503 => ?_)
  show X (EE s) d 54 13 [(0, zr g0 8), (1, zi a1), (2, zi a2)] [] m502 _
  refine X.retv i54_13 rfl t54 ?_
  exact hQ  m502  (Eq.trans (zs_eq hFv504.symm) rfl) (hJ503.up (by omega)) 
-- WorkMeter$Meter.makeBill
noncomputable def f138_1 (g0 : Nat) (m : zM) : zM :=
  zs (f139_1 g0 g0 (m g0 8 9) m) fun m502 =>
  zs (f10_1 g0 m502) fun m505 =>
  zs (f54_1 g0 24 0 m505) fun m508 =>
  m508
-- WorkMeter$Meter.makeBill
theorem c138_1 {s : Nat × (Nat → Int32)} {S : zS} {m0 m : zM} {B : Int} {d : Nat} {Q : Option zV → zM → Prop} (g0 : Nat) (hd : 15 ≤ d) (hJ : J S m0 B m) (hB : B + 2 ≤ 1000000000) (hf5 : ¬ S.1 5) (hf6 : ¬ S.1 6) (hf8 : ¬ S.1 8) (hgg0 : ¬ S.2.1 g0) (hQ : ∀ m', f138_1 g0 m = m' → J S m0 (B + 2) m' → Q none m') : X (EE s) d 138 0 [(0, zr g0 8)] [] m Q := by
  refine X.aload_n 1 i138_0 rfl rfl rfl ?_
  refine X.getR 4 i138_1 rfl rfl (by decide) rfl rfl ?_
  refine X.aload_n 5 i138_4 rfl rfl rfl ?_
  refine X.getI 8 9 i138_5 rfl rfl (by decide) rfl rfl rfl ?_
  have h501 := r8_9 hJ g0
  refine X.aload_n 9 i138_8 rfl rfl rfl ?_
  refine X.getR 12 i138_9 rfl rfl (by decide) rfl rfl ?_
  refine X.callv 15 [zi (m g0 8 9), zr g0 30] [] [(0, zr g0 23), (1, zi (m g0 8 9)), (2, zr g0 30)] i138_12 rfl (by decide) rfl rfl (by omega) rfl rfl (by decide) rfl t139 (Nat.le_of_ble_eq_true rfl) (Nat.le_of_ble_eq_true rfl) rfl ?_
  refine c139_1 (B := B) g0 g0 (m g0 8 9) (by omega) (hJ.up (by omega)) (by omega) (by omega) hf5 hgg0 (fun m502 hFv504 hJ503 => ?_)
  show X (EE s) d 138 15 [(0, zr g0 8)] [] m502 _
  refine X.aload_n 16 i138_15 rfl rfl rfl ?_
  refine X.getR 19 i138_16 rfl rfl (by decide) rfl rfl ?_
  refine X.callv 22 [] [] [(0, zr g0 30)] i138_19 rfl (by decide) rfl rfl (by omega) rfl rfl (by decide) rfl t10 (Nat.le_of_ble_eq_true rfl) (Nat.le_of_ble_eq_true rfl) rfl ?_
  refine c10_1 (B := B + 1) g0  (by omega) (hJ503.up (by omega)) (by omega)  hf8 hgg0 (fun m505 hFv507 hJ506 => ?_)
  show X (EE s) d 138 22 [(0, zr g0 8)] [] m505 _
  refine X.aload_n 23 i138_22 rfl rfl rfl ?_
  refine X.bipush 25 i138_23 rfl rfl (by decide) ?_
  refine X.iconst 26 i138_25 rfl rfl (by decide) ?_
  refine X.callv 29 [zi 24, zi 0] [] [(0, zr g0 8), (1, zi 24), (2, zi 0)] i138_26 rfl (by decide) rfl rfl (by omega) rfl rfl (by decide) rfl t54 (Nat.le_of_ble_eq_true rfl) (Nat.le_of_ble_eq_true rfl) rfl ?_
  refine c54_8 (B := B + 1) g0 24 0 (by omega) (hJ506.up (by omega)) (by omega) (by omega) (by omega) hf6 hgg0 (fun m508 hFv510 hJ509 => ?_)
  show X (EE s) d 138 29 [(0, zr g0 8)] [] m508 _
  refine X.retv i138_29 rfl t138 ?_
  exact hQ  m508  (Eq.trans (zs_eq hFv504.symm) (Eq.trans (zs_eq hFv507.symm) (Eq.trans (zs_eq hFv510.symm) rfl))) (hJ509.up (by omega)) 
-- WorkMeter.bill
noncomputable def f137_1 (m : zM) : Int × zM :=
  zs (f138_1 0 m) fun m501 =>
  ((m501 0 23 3), m501)
-- WorkMeter.bill
theorem c137_1 {s : Nat × (Nat → Int32)} {S : zS} {m0 m : zM} {B : Int} {d : Nat} {Q : Option zV → zM → Prop} (hd : 16 ≤ d) (hJ : J S m0 B m) (hB : B + 2 ≤ 1000000000) (hf5 : ¬ S.1 5) (hf6 : ¬ S.1 6) (hf8 : ¬ S.1 8) (hg0 : ¬ S.2.1 0) (hQ : ∀ (v : Int) m', (0 ≤ v ∧ v ≤ 1000000000) → f137_1 m = (v, m') → J S m0 (B + 2) m' → Q (some (zi v)) m') : X (EE s) d 137 0 [(0, zr 4 40)] [] m Q := by
  refine X.aload_n 1 i137_0 rfl rfl rfl ?_
  refine X.getF 4 i137_1 rfl rfl (by decide) rfl rfl ?_
  refine X.callv 7 [] [] [(0, zr 0 8)] i137_4 rfl (by decide) rfl rfl (by omega) rfl rfl (by decide) rfl t138 (Nat.le_of_ble_eq_true rfl) (Nat.le_of_ble_eq_true rfl) rfl ?_
  refine c138_1 (B := B) 0  (by omega) (hJ.up (by omega)) (by omega)  hf5 hf6 hf8 hg0 (fun m501 hFv503 hJ502 => ?_)
  show X (EE s) d 137 7 [(0, zr 4 40)] [] m501 _
  refine X.aload_n 8 i137_7 rfl rfl rfl ?_
  refine X.getF 11 i137_8 rfl rfl (by decide) rfl rfl ?_
  refine X.getR 14 i137_11 rfl rfl (by decide) rfl rfl ?_
  refine X.getI 17 3 i137_14 rfl rfl (by decide) rfl rfl rfl ?_
  have h504 := r23_3 hJ502 0
  refine X.reti i137_17 rfl t137 ?_
  exact hQ (m501 0 23 3) m501 (by first | trivial | omega) (Eq.trans (zs_eq hFv503.symm) rfl) (hJ502.up (by omega)) 
noncomputable def fl286_104_1_b (self : Int → zM → Int × zM) (k135 : zM → Int × zM) (y1 : Int) (y2 : Int) (m : zM) : Int × zM :=
  if 35 ≤ y2 then
  (k135 m)
  else
  (zs (z_upd m 4 45 ((y1 + 1) + y2) (m 4 45 (60 + y2))) fun m505 =>
  self (y2 + 1) m505)
noncomputable def fl286_104_1 (k135 : zM → Int × zM) (y1 : Int) : Nat → Int → zM → Int × zM
  | 0 => fun y2 m => (0, m)
  | n + 1 => fl286_104_1_b (fl286_104_1 k135 y1 n) k135 y1
theorem l286_104_1 {s : Nat × (Nat → Int32)} {S : zS} {m0 : zM} {d : Nat} {Q : Option zV → zM → Prop} {R0 : Int × zM} {k135 : zM → Int × zM} (y1 : Int) (BE : Int) (hE : BE ≤ 1000000000) (hd : 13 ≤ d) (hy1 : 1172 ≤ y1 ∧ y1 ≤ 1442) (hf25 : ¬ S.1 25) (hg4 : ¬ S.2.1 4)
    (K135 : ∀ (m' : zM) (B' : Int), J S m0 B' m' → B' ≤ BE → R0 = k135 m' → X (EE s) d 286 135 [(0, zr 4 44), (1, zi y1)] [] m' Q) :
    ∀ (n : Nat) (y2 : Int) (m : zM) (B : Int), J S m0 B m → B + 0 * (n : Int) ≤ BE → (0 ≤ y2 ∧ y2 ≤ 35) → 35 - y2 < (n : Int) → R0 = fl286_104_1 k135 y1 n y2 m → X (EE s) d 286 104 [(0, zr 4 44), (1, zi y1), (2, zi y2)] [] m Q := by
  intro n
  induction n with
  | zero =>
    intro y2 m B hJ hB hy2 hn hR
    exfalso
    omega
  | succ n ih =>
    intro y2 m B hJ hB hy2 hn hR
    replace hR : R0 = fl286_104_1_b (fl286_104_1 k135 y1 n) k135 y1 y2 m := hR
    refine X.iload_n 105 i286_104 rfl rfl rfl ?_
    refine X.bipush 107 i286_105 rfl rfl (by decide) ?_
    refine X.icmpge 135 110 i286_107 rfl rfl rfl (fun h504 => ?_) (fun h504 => ?_)
    · refine X.cut [(0, zr 4 44), (1, zi y1)] i286_135 rfl ?_
      exact K135  m (B) (hJ.up (by omega)) (by omega)  (Eq.trans hR (Eq.trans (if_pos h504) rfl))
    · refine X.aload_n 111 i286_110 rfl rfl rfl ?_
      refine X.getF 114 i286_111 rfl rfl (by decide) rfl rfl ?_
      refine X.iload_n 115 i286_114 rfl rfl rfl ?_
      refine X.iconst 116 i286_115 rfl rfl (by decide) ?_
      refine X.iadd 117 i286_116 rfl rfl (by omega) ?_
      refine X.iload_n 118 i286_117 rfl rfl rfl ?_
      refine X.iadd 119 i286_118 rfl rfl (by omega) ?_
      refine X.aload_n 120 i286_119 rfl rfl rfl ?_
      refine X.getF 123 i286_120 rfl rfl (by decide) rfl rfl ?_
      refine X.bipush 125 i286_123 rfl rfl (by decide) ?_
      refine X.iload_n 126 i286_125 rfl rfl rfl ?_
      refine X.iadd 127 i286_126 rfl rfl (by omega) ?_
      refine X.lald 128 i286_127 rfl rfl (by decide) rfl (by omega) ?_
      refine X.last' 129 i286_128 rfl rfl (by decide) rfl (by omega) (fun hrm505 m505 hm505 => ?_)
      have hJ506 := w45_1172 hJ hm505 (by omega) hrm505 hf25 hg4
      refine X.iinc 132 [(0, zr 4 44), (1, zi y1), (2, zi (y2 + 1))] i286_129 rfl rfl rfl (by omega) rfl ?_
      refine X.goto 104 i286_132 rfl rfl ?_
      exact ih (y2 + 1) m505 (B) (hJ506.up (by omega)) (by omega) (by omega) (by omega) (Eq.trans hR (Eq.trans (if_neg h504) (Eq.trans (zs_eq hm505) rfl)))
noncomputable def fl286_137_1_b (self : Int → zM → Int × zM) (k192 : zM → Int × zM) (y1 : Int) (y2 : Int) (m : zM) : Int × zM :=
  if 4 ≤ y2 then
  (k192 m)
  else
  (zs (z_upd m 4 45 ((y1 + 36) + y2) (m 4 45 (32 + y2))) fun m509 =>
  zs (z_upd m509 4 45 (32 + y2) (-1)) fun m511 =>
  zs (z_upd m511 4 45 (36 + y2) (-1)) fun m513 =>
  self (y2 + 1) m513)
noncomputable def fl286_137_1 (k192 : zM → Int × zM) (y1 : Int) : Nat → Int → zM → Int × zM
  | 0 => fun y2 m => (0, m)
  | n + 1 => fl286_137_1_b (fl286_137_1 k192 y1 n) k192 y1
theorem l286_137_1 {s : Nat × (Nat → Int32)} {S : zS} {m0 : zM} {d : Nat} {Q : Option zV → zM → Prop} {R0 : Int × zM} {k192 : zM → Int × zM} (y1 : Int) (BE : Int) (hE : BE ≤ 1000000000) (hd : 13 ≤ d) (hy1 : 1172 ≤ y1 ∧ y1 ≤ 1442) (hf25 : ¬ S.1 25) (hf28 : ¬ S.1 28) (hg4 : ¬ S.2.1 4)
    (K192 : ∀ (m' : zM) (B' : Int), J S m0 B' m' → B' ≤ BE → R0 = k192 m' → X (EE s) d 286 192 [(0, zr 4 44)] [] m' Q) :
    ∀ (n : Nat) (y2 : Int) (m : zM) (B : Int), J S m0 B m → B + 0 * (n : Int) ≤ BE → (0 ≤ y2 ∧ y2 ≤ 4) → 4 - y2 < (n : Int) → R0 = fl286_137_1 k192 y1 n y2 m → X (EE s) d 286 137 [(0, zr 4 44), (1, zi y1), (2, zi y2)] [] m Q := by
  intro n
  induction n with
  | zero =>
    intro y2 m B hJ hB hy2 hn hR
    exfalso
    omega
  | succ n ih =>
    intro y2 m B hJ hB hy2 hn hR
    replace hR : R0 = fl286_137_1_b (fl286_137_1 k192 y1 n) k192 y1 y2 m := hR
    refine X.iload_n 138 i286_137 rfl rfl rfl ?_
    refine X.iconst 139 i286_138 rfl rfl (by decide) ?_
    refine X.icmpge 192 142 i286_139 rfl rfl rfl (fun h508 => ?_) (fun h508 => ?_)
    · refine X.cut [(0, zr 4 44)] i286_192 rfl ?_
      exact K192  m (B) (hJ.up (by omega)) (by omega)  (Eq.trans hR (Eq.trans (if_pos h508) rfl))
    · refine X.aload_n 143 i286_142 rfl rfl rfl ?_
      refine X.getF 146 i286_143 rfl rfl (by decide) rfl rfl ?_
      refine X.iload_n 147 i286_146 rfl rfl rfl ?_
      refine X.bipush 149 i286_147 rfl rfl (by decide) ?_
      refine X.iadd 150 i286_149 rfl rfl (by omega) ?_
      refine X.iload_n 151 i286_150 rfl rfl rfl ?_
      refine X.iadd 152 i286_151 rfl rfl (by omega) ?_
      refine X.aload_n 153 i286_152 rfl rfl rfl ?_
      refine X.getF 156 i286_153 rfl rfl (by decide) rfl rfl ?_
      refine X.bipush 158 i286_156 rfl rfl (by decide) ?_
      refine X.iload_n 159 i286_158 rfl rfl rfl ?_
      refine X.iadd 160 i286_159 rfl rfl (by omega) ?_
      refine X.lald 161 i286_160 rfl rfl (by decide) rfl (by omega) ?_
      refine X.last' 162 i286_161 rfl rfl (by decide) rfl (by omega) (fun hrm509 m509 hm509 => ?_)
      have hJ510 := w45_1172 hJ hm509 (by omega) hrm509 hf25 hg4
      refine X.aload_n 163 i286_162 rfl rfl rfl ?_
      refine X.getF 166 i286_163 rfl rfl (by decide) rfl rfl ?_
      refine X.bipush 168 i286_166 rfl rfl (by decide) ?_
      refine X.iload_n 169 i286_168 rfl rfl rfl ?_
      refine X.iadd 170 i286_169 rfl rfl (by omega) ?_
      refine X.ldc2 173 i286_170 rfl rfl (by decide) ?_
      refine X.last' 174 i286_173 rfl rfl (by decide) rfl (by omega) (fun hrm511 m511 hm511 => ?_)
      have hJ512 := w45_32 hJ510 hm511 (by omega) hrm511 hf28 hg4
      refine X.aload_n 175 i286_174 rfl rfl rfl ?_
      refine X.getF 178 i286_175 rfl rfl (by decide) rfl rfl ?_
      refine X.bipush 180 i286_178 rfl rfl (by decide) ?_
      refine X.iload_n 181 i286_180 rfl rfl rfl ?_
      refine X.iadd 182 i286_181 rfl rfl (by omega) ?_
      refine X.ldc2 185 i286_182 rfl rfl (by decide) ?_
      refine X.last' 186 i286_185 rfl rfl (by decide) rfl (by omega) (fun hrm513 m513 hm513 => ?_)
      have hJ514 := w45_32 hJ512 hm513 (by omega) hrm513 hf28 hg4
      refine X.iinc 189 [(0, zr 4 44), (1, zi y1), (2, zi (y2 + 1))] i286_186 rfl rfl rfl (by omega) rfl ?_
      refine X.goto 137 i286_189 rfl rfl ?_
      exact ih (y2 + 1) m513 (B) (hJ514.up (by omega)) (by omega) (by omega) (by omega) (Eq.trans hR (Eq.trans (if_neg h508) (Eq.trans (zs_eq hm509) (Eq.trans (zs_eq hm511) (Eq.trans (zs_eq hm513) rfl)))))
noncomputable def fl286_17_1_b (self : Int → zM → Int × zM) (k53 : zM → Int × zM) (y1 : Int) (m : zM) : Int × zM :=
  if 315 ≤ y1 then
  (k53 m)
  else
  (zs (z_upd m 4 45 ((1172 + y1) - 45) (m 4 45 (1172 + y1))) fun m505 =>
  self (y1 + 1) m505)
noncomputable def fl286_17_1 (k53 : zM → Int × zM) : Nat → Int → zM → Int × zM
  | 0 => fun y1 m => (0, m)
  | n + 1 => fl286_17_1_b (fl286_17_1 k53 n) k53
theorem l286_17_1 {s : Nat × (Nat → Int32)} {S : zS} {m0 : zM} {d : Nat} {Q : Option zV → zM → Prop} {R0 : Int × zM} {k53 : zM → Int × zM} (BE : Int) (hE : BE ≤ 1000000000) (hd : 13 ≤ d) (hf25 : ¬ S.1 25) (hg4 : ¬ S.2.1 4)
    (K53 : ∀ (m' : zM) (B' : Int), J S m0 B' m' → B' ≤ BE → R0 = k53 m' → X (EE s) d 286 53 [(0, zr 4 44)] [] m' Q) :
    ∀ (n : Nat) (y1 : Int) (m : zM) (B : Int), J S m0 B m → B + 0 * (n : Int) ≤ BE → (45 ≤ y1 ∧ y1 ≤ 315) → 315 - y1 < (n : Int) → R0 = fl286_17_1 k53 n y1 m → X (EE s) d 286 17 [(0, zr 4 44), (1, zi y1)] [] m Q := by
  intro n
  induction n with
  | zero =>
    intro y1 m B hJ hB hy1 hn hR
    exfalso
    omega
  | succ n ih =>
    intro y1 m B hJ hB hy1 hn hR
    replace hR : R0 = fl286_17_1_b (fl286_17_1 k53 n) k53 y1 m := hR
    refine X.iload_n 18 i286_17 rfl rfl rfl ?_
    refine X.sipush 21 i286_18 rfl rfl (by decide) ?_
    refine X.icmpge 53 24 i286_21 rfl rfl rfl (fun h504 => ?_) (fun h504 => ?_)
    · refine X.cut [(0, zr 4 44)] i286_53 rfl ?_
      exact K53  m (B) (hJ.up (by omega)) (by omega)  (Eq.trans hR (Eq.trans (if_pos h504) rfl))
    · refine X.aload_n 25 i286_24 rfl rfl rfl ?_
      refine X.getF 28 i286_25 rfl rfl (by decide) rfl rfl ?_
      refine X.sipush 31 i286_28 rfl rfl (by decide) ?_
      refine X.iload_n 32 i286_31 rfl rfl rfl ?_
      refine X.iadd 33 i286_32 rfl rfl (by omega) ?_
      refine X.bipush 35 i286_33 rfl rfl (by decide) ?_
      refine X.isub 36 i286_35 rfl rfl (by omega) ?_
      refine X.aload_n 37 i286_36 rfl rfl rfl ?_
      refine X.getF 40 i286_37 rfl rfl (by decide) rfl rfl ?_
      refine X.sipush 43 i286_40 rfl rfl (by decide) ?_
      refine X.iload_n 44 i286_43 rfl rfl rfl ?_
      refine X.iadd 45 i286_44 rfl rfl (by omega) ?_
      refine X.lald 46 i286_45 rfl rfl (by decide) rfl (by omega) ?_
      refine X.last' 47 i286_46 rfl rfl (by decide) rfl (by omega) (fun hrm505 m505 hm505 => ?_)
      have hJ506 := w45_1172 hJ hm505 (by omega) hrm505 hf25 hg4
      refine X.iinc 50 [(0, zr 4 44), (1, zi (y1 + 1))] i286_47 rfl rfl rfl (by omega) rfl ?_
      refine X.goto 17 i286_50 rfl rfl ?_
      exact ih (y1 + 1) m505 (B) (hJ506.up (by omega)) (by omega) (by omega) (by omega) (Eq.trans hR (Eq.trans (if_neg h504) (Eq.trans (zs_eq hm505) rfl)))
-- WorkMeterModel.bill
noncomputable def f286_1 (m : zM) : Int × zM :=
  if (m 4 45 18) < 7 then
  (zs (z_upd m 4 45 18 ((m 4 45 18) + 1)) fun m509 =>
  zs (z_upd m509 4 45 (1172 + (45 * (m 4 45 18))) (m509 4 45 0)) fun m512 =>
  fl286_104_1 (fun m514 =>
  fl286_137_1 (fun m518 =>
  zs (f223_1 24 0 m518) fun m522 =>
  ((m522 4 45 18), m522)) (1172 + (45 * (m 4 45 18))) (zfu 5) 0 m514) (1172 + (45 * (m 4 45 18))) (zfu 36) 0 m512)
  else
  (fl286_17_1 (fun m526 =>
  if (m526 4 45 18) < 7 then
  (zs (z_upd m526 4 45 18 ((m526 4 45 18) + 1)) fun m554 =>
  zs (z_upd m554 4 45 (1172 + (45 * (m526 4 45 18))) (m554 4 45 0)) fun m557 =>
  fl286_104_1 (fun m559 =>
  fl286_137_1 (fun m563 =>
  zs (f223_1 24 0 m563) fun m567 =>
  ((m567 4 45 18), m567)) (1172 + (45 * (m526 4 45 18))) (zfu 5) 0 m559) (1172 + (45 * (m526 4 45 18))) (zfu 36) 0 m557)
  else
  (zs (z_upd m526 4 45 18 ((m526 4 45 18) + 1)) fun m534 =>
  zs (z_upd m534 4 45 (1172 + (45 * 6)) (m534 4 45 0)) fun m537 =>
  fl286_104_1 (fun m539 =>
  fl286_137_1 (fun m543 =>
  zs (f223_1 24 0 m543) fun m547 =>
  ((m547 4 45 18), m547)) (1172 + (45 * 6)) (zfu 5) 0 m539) (1172 + (45 * 6)) (zfu 36) 0 m537)) (zfu 271) 45 m)
-- WorkMeterModel.bill
theorem c286_1 {s : Nat × (Nat → Int32)} {S : zS} {m0 m : zM} {B : Int} {d : Nat} {Q : Option zV → zM → Prop} (hd : 14 ≤ d) (hJ : J S m0 B m) (hB : B + 2 ≤ 1000000000) (hf25 : ¬ S.1 25) (hf26 : ¬ S.1 26) (hf28 : ¬ S.1 28) (hg4 : ¬ S.2.1 4) (hQ : ∀ (v : Int) m', (0 ≤ v ∧ v ≤ 1000000000) → f286_1 m = (v, m') → J S m0 (B + 2) m' → Q (some (zi v)) m') : X (EE s) d 286 0 [(0, zr 4 44)] [] m Q := by
  refine X.aload_n 1 i286_0 rfl rfl rfl ?_
  refine X.getF 4 i286_1 rfl rfl (by decide) rfl rfl ?_
  refine X.bipush 6 i286_4 rfl rfl (by decide) ?_
  refine X.lald 7 i286_6 rfl rfl (by decide) rfl (by omega) ?_
  have h501 := r45_18 hJ 4
  refine X.ldc2 10 i286_7 rfl rfl (by decide) ?_
  refine X.lcmp 11 i286_10 rfl rfl (fun z502 hz502 => ?_)
  refine X.iflt 53 14 i286_11 rfl rfl rfl (fun h503 => ?_) (fun h503 => ?_)
  · have h503c : (m 4 45 18) < 7 := by omega
    clear h503 hz502
    refine X.sipush 56 i286_53 rfl rfl (by decide) ?_
    refine X.bipush 58 i286_56 rfl rfl (by decide) ?_
    refine X.aload_n 59 i286_58 rfl rfl rfl ?_
    refine X.callv 62 [] [zi 45, zi 1172] [(0, zr 4 44)] i286_59 rfl (by decide) rfl rfl (by omega) rfl rfl (by decide) rfl t287 (Nat.le_of_ble_eq_true rfl) (Nat.le_of_ble_eq_true rfl) rfl ?_
    refine X.aload_n 1 i287_0 rfl rfl rfl ?_
    refine X.getF 4 i287_1 rfl rfl (by decide) rfl rfl ?_
    refine X.bipush 6 i287_4 rfl rfl (by decide) ?_
    refine X.lald 7 i287_6 rfl rfl (by decide) rfl (by omega) ?_
    refine X.ldc2 10 i287_7 rfl rfl (by decide) ?_
    refine X.lcmp 11 i287_10 rfl rfl (fun z504 hz504 => ?_)
    refine X.ifge 24 14 i287_11 rfl rfl rfl (fun h505 => (by exfalso; omega)) (fun h505 => ?_)
    have h505c : (m 4 45 18) < 7 := by omega
    clear h505 hz504
    refine X.aload_n 15 i287_14 rfl rfl rfl ?_
    refine X.getF 18 i287_15 rfl rfl (by decide) rfl rfl ?_
    refine X.bipush 20 i287_18 rfl rfl (by decide) ?_
    refine X.lald 21 i287_20 rfl rfl (by decide) rfl (by omega) ?_
    refine X.goto 27 i287_21 rfl rfl ?_
    refine X.cut [] i287_27 rfl ?_
    refine X.l2i 28 i287_27 rfl rfl (by omega) ?_
    refine X.reti i287_28 rfl t287 ?_
    show X (EE s) d 286 62 [(0, zr 4 44)] [zi (m 4 45 18), zi 45, zi 1172] m _
    refine X.bipush 64 i286_62 rfl rfl (by decide) ?_
    refine X.icmpge 74 67 i286_64 rfl rfl rfl (fun h506 => (by exfalso; omega)) (fun h506 => ?_)
    refine X.aload_n 68 i286_67 rfl rfl rfl ?_
    refine X.callv 71 [] [zi 45, zi 1172] [(0, zr 4 44)] i286_68 rfl (by decide) rfl rfl (by omega) rfl rfl (by decide) rfl t287 (Nat.le_of_ble_eq_true rfl) (Nat.le_of_ble_eq_true rfl) rfl ?_
    refine X.aload_n 1 i287_0 rfl rfl rfl ?_
    refine X.getF 4 i287_1 rfl rfl (by decide) rfl rfl ?_
    refine X.bipush 6 i287_4 rfl rfl (by decide) ?_
    refine X.lald 7 i287_6 rfl rfl (by decide) rfl (by omega) ?_
    refine X.ldc2 10 i287_7 rfl rfl (by decide) ?_
    refine X.lcmp 11 i287_10 rfl rfl (fun z507 hz507 => ?_)
    refine X.ifge 24 14 i287_11 rfl rfl rfl (fun h508 => (by exfalso; omega)) (fun h508 => ?_)
    have h508c : (m 4 45 18) < 7 := by omega
    clear h508 hz507
    refine X.aload_n 15 i287_14 rfl rfl rfl ?_
    refine X.getF 18 i287_15 rfl rfl (by decide) rfl rfl ?_
    refine X.bipush 20 i287_18 rfl rfl (by decide) ?_
    refine X.lald 21 i287_20 rfl rfl (by decide) rfl (by omega) ?_
    refine X.goto 27 i287_21 rfl rfl ?_
    refine X.cut [] i287_27 rfl ?_
    refine X.l2i 28 i287_27 rfl rfl (by omega) ?_
    refine X.reti i287_28 rfl t287 ?_
    show X (EE s) d 286 71 [(0, zr 4 44)] [zi (m 4 45 18), zi 45, zi 1172] m _
    refine X.goto 76 i286_71 rfl rfl ?_
    refine X.imul 77 i286_76 rfl rfl (by omega) ?_
    refine X.iadd 78 i286_77 rfl rfl (by omega) ?_
    refine X.istore_n 79 [(0, zr 4 44), (1, zi (1172 + (45 * (m 4 45 18))))] i286_78 rfl rfl rfl ?_
    refine X.aload_n 80 i286_79 rfl rfl rfl ?_
    refine X.getF 83 i286_80 rfl rfl (by decide) rfl rfl ?_
    refine X.bipush 85 i286_83 rfl rfl (by decide) ?_
    refine X.dup2 86 i286_85 rfl rfl ?_
    refine X.lald 87 i286_86 rfl rfl (by decide) rfl (by omega) ?_
    refine X.lconst (y := 1) 88 i286_87 rfl rfl rfl ?_
    refine X.ladd 89 i286_88 rfl rfl (by omega) ?_
    refine X.last' 90 i286_89 rfl rfl (by decide) rfl (by omega) (fun hrm509 m509 hm509 => ?_)
    have hJ510 := w45_18 (hJ.up (B' := B + 1) (by omega)) hm509 (by omega) hf25 hg4
    refine X.aload_n 91 i286_90 rfl rfl rfl ?_
    refine X.getF 94 i286_91 rfl rfl (by decide) rfl rfl ?_
    refine X.iload_n 95 i286_94 rfl rfl rfl ?_
    refine X.aload_n 96 i286_95 rfl rfl rfl ?_
    refine X.getF 99 i286_96 rfl rfl (by decide) rfl rfl ?_
    refine X.iconst 100 i286_99 rfl rfl (by decide) ?_
    refine X.lald 101 i286_100 rfl rfl (by decide) rfl (by omega) ?_
    have h511 := r45_0 hJ510 4
    refine X.last' 102 i286_101 rfl rfl (by decide) rfl (by omega) (fun hrm512 m512 hm512 => ?_)
    have hJ513 := w45_1172 hJ510 hm512 (by omega) hrm512 hf25 hg4
    refine X.iconst 103 i286_102 rfl rfl (by decide) ?_
    refine X.istore_n 104 [(0, zr 4 44), (1, zi (1172 + (45 * (m 4 45 18)))), (2, zi 0)] i286_103 rfl rfl rfl ?_
    have hz36 := zfu_eq 36
    refine l286_104_1 (s := s) (d := d) (R0 := (f286_1 m))  (1172 + (45 * (m 4 45 18)))  (BE := B + 1) (by omega) (by omega) (by omega) hf25 hg4 (fun  m514 B515 hJ516 hBB515 hR517 => ?_) (zfu 36) 0 m512 (B + 1) (hJ513.up (by omega)) (by omega) (by omega) (by omega) (Eq.trans (if_pos h503c) (Eq.trans (zs_eq hm509) (Eq.trans (zs_eq hm512) rfl)))
    refine X.iconst 136 i286_135 rfl rfl (by decide) ?_
    refine X.istore_n 137 [(0, zr 4 44), (1, zi (1172 + (45 * (m 4 45 18)))), (2, zi 0)] i286_136 rfl rfl rfl ?_
    have hz5 := zfu_eq 5
    refine l286_137_1 (s := s) (d := d)  (1172 + (45 * (m 4 45 18)))  (BE := B515 + 0) (by omega) (by omega) (by omega) hf25 hf28 hg4 (fun  m518 B519 hJ520 hBB519 hR521 => ?_) (zfu 5) 0 m514 (B515) (hJ516.up (by omega)) (by omega) (by omega) (by omega) (Eq.trans hR517 rfl)
    refine X.aload_n 193 i286_192 rfl rfl rfl ?_
    refine X.bipush 195 i286_193 rfl rfl (by decide) ?_
    refine X.lconst (y := 0) 196 i286_195 rfl rfl rfl ?_
    refine X.callv 199 [zi 24, zl 0] [] [(0, zr 4 44), (1, zi 24), (2, zl 0)] i286_196 rfl (by decide) rfl rfl (by omega) rfl rfl (by decide) rfl t223 (Nat.le_of_ble_eq_true rfl) (Nat.le_of_ble_eq_true rfl) rfl ?_
    refine c223_1 (B := B519)  24 0 (by omega) (hJ520.up (by omega)) (by omega) (by omega) hf26 hg4 (fun m522 hFv524 hJ523 => ?_)
    show X (EE s) d 286 199 [(0, zr 4 44)] [] m522 _
    refine X.aload_n 200 i286_199 rfl rfl rfl ?_
    refine X.getF 203 i286_200 rfl rfl (by decide) rfl rfl ?_
    refine X.bipush 205 i286_203 rfl rfl (by decide) ?_
    refine X.lald 206 i286_205 rfl rfl (by decide) rfl (by omega) ?_
    have h525 := r45_18 hJ523 4
    refine X.l2i 207 i286_206 rfl rfl (by omega) ?_
    refine X.reti i286_207 rfl t286 ?_
    exact hQ (m522 4 45 18) m522 (by first | trivial | omega) (Eq.trans hR521 (Eq.trans (zs_eq hFv524.symm) rfl)) (hJ523.up (by omega)) 
  · have h503c : ¬ (m 4 45 18) < 7 := by omega
    clear h503 hz502
    refine X.bipush 16 i286_14 rfl rfl (by decide) ?_
    refine X.istore_n 17 [(0, zr 4 44), (1, zi 45)] i286_16 rfl rfl rfl ?_
    have hz271 := zfu_eq 271
    refine l286_17_1 (s := s) (d := d) (R0 := (f286_1 m))    (BE := B + 0) (by omega) (by omega) hf25 hg4 (fun  m526 B527 hJ528 hBB527 hR529 => ?_) (zfu 271) 45 m (B) (hJ.up (by omega)) (by omega) (by omega) (by omega) (Eq.trans (if_neg h503c) rfl)
    refine X.sipush 56 i286_53 rfl rfl (by decide) ?_
    refine X.bipush 58 i286_56 rfl rfl (by decide) ?_
    refine X.aload_n 59 i286_58 rfl rfl rfl ?_
    refine X.callv 62 [] [zi 45, zi 1172] [(0, zr 4 44)] i286_59 rfl (by decide) rfl rfl (by omega) rfl rfl (by decide) rfl t287 (Nat.le_of_ble_eq_true rfl) (Nat.le_of_ble_eq_true rfl) rfl ?_
    refine X.aload_n 1 i287_0 rfl rfl rfl ?_
    refine X.getF 4 i287_1 rfl rfl (by decide) rfl rfl ?_
    refine X.bipush 6 i287_4 rfl rfl (by decide) ?_
    refine X.lald 7 i287_6 rfl rfl (by decide) rfl (by omega) ?_
    have h530 := r45_18 hJ528 4
    refine X.ldc2 10 i287_7 rfl rfl (by decide) ?_
    refine X.lcmp 11 i287_10 rfl rfl (fun z531 hz531 => ?_)
    refine X.ifge 24 14 i287_11 rfl rfl rfl (fun h532 => ?_) (fun h532 => ?_)
    · have h532c : ¬ (m526 4 45 18) < 7 := by omega
      clear h532 hz531
      refine X.cut [] i287_24 rfl ?_
      refine X.ldc2 27 i287_24 rfl rfl (by decide) ?_
      refine X.l2i 28 i287_27 rfl rfl (by omega) ?_
      refine X.reti i287_28 rfl t287 ?_
      show X (EE s) d 286 62 [(0, zr 4 44)] [zi 7, zi 45, zi 1172] m526 _
      refine X.bipush 64 i286_62 rfl rfl (by decide) ?_
      refine X.icmpge 74 67 i286_64 rfl rfl rfl (fun h533 => ?_) (fun h533 => (by exfalso; omega))
      refine X.bipush 76 i286_74 rfl rfl (by decide) ?_
      refine X.imul 77 i286_76 rfl rfl (by omega) ?_
      refine X.iadd 78 i286_77 rfl rfl (by omega) ?_
      refine X.istore_n 79 [(0, zr 4 44), (1, zi (1172 + (45 * 6)))] i286_78 rfl rfl rfl ?_
      refine X.aload_n 80 i286_79 rfl rfl rfl ?_
      refine X.getF 83 i286_80 rfl rfl (by decide) rfl rfl ?_
      refine X.bipush 85 i286_83 rfl rfl (by decide) ?_
      refine X.dup2 86 i286_85 rfl rfl ?_
      refine X.lald 87 i286_86 rfl rfl (by decide) rfl (by omega) ?_
      refine X.lconst (y := 1) 88 i286_87 rfl rfl rfl ?_
      refine X.ladd 89 i286_88 rfl rfl (by omega) ?_
      refine X.last' 90 i286_89 rfl rfl (by decide) rfl (by omega) (fun hrm534 m534 hm534 => ?_)
      have hJ535 := w45_18 (hJ528.up (B' := B527 + 1) (by omega)) hm534 (by omega) hf25 hg4
      refine X.aload_n 91 i286_90 rfl rfl rfl ?_
      refine X.getF 94 i286_91 rfl rfl (by decide) rfl rfl ?_
      refine X.iload_n 95 i286_94 rfl rfl rfl ?_
      refine X.aload_n 96 i286_95 rfl rfl rfl ?_
      refine X.getF 99 i286_96 rfl rfl (by decide) rfl rfl ?_
      refine X.iconst 100 i286_99 rfl rfl (by decide) ?_
      refine X.lald 101 i286_100 rfl rfl (by decide) rfl (by omega) ?_
      have h536 := r45_0 hJ535 4
      refine X.last' 102 i286_101 rfl rfl (by decide) rfl (by omega) (fun hrm537 m537 hm537 => ?_)
      have hJ538 := w45_1172 hJ535 hm537 (by omega) hrm537 hf25 hg4
      refine X.iconst 103 i286_102 rfl rfl (by decide) ?_
      refine X.istore_n 104 [(0, zr 4 44), (1, zi (1172 + (45 * 6))), (2, zi 0)] i286_103 rfl rfl rfl ?_
      have hz36 := zfu_eq 36
      refine l286_104_1 (s := s) (d := d)  (1172 + (45 * 6))  (BE := B527 + 1) (by omega) (by omega) (by omega) hf25 hg4 (fun  m539 B540 hJ541 hBB540 hR542 => ?_) (zfu 36) 0 m537 (B527 + 1) (hJ538.up (by omega)) (by omega) (by omega) (by omega) (Eq.trans hR529 (Eq.trans (if_neg h532c) (Eq.trans (zs_eq hm534) (Eq.trans (zs_eq hm537) rfl))))
      refine X.iconst 136 i286_135 rfl rfl (by decide) ?_
      refine X.istore_n 137 [(0, zr 4 44), (1, zi (1172 + (45 * 6))), (2, zi 0)] i286_136 rfl rfl rfl ?_
      have hz5 := zfu_eq 5
      refine l286_137_1 (s := s) (d := d)  (1172 + (45 * 6))  (BE := B540 + 0) (by omega) (by omega) (by omega) hf25 hf28 hg4 (fun  m543 B544 hJ545 hBB544 hR546 => ?_) (zfu 5) 0 m539 (B540) (hJ541.up (by omega)) (by omega) (by omega) (by omega) (Eq.trans hR542 rfl)
      refine X.aload_n 193 i286_192 rfl rfl rfl ?_
      refine X.bipush 195 i286_193 rfl rfl (by decide) ?_
      refine X.lconst (y := 0) 196 i286_195 rfl rfl rfl ?_
      refine X.callv 199 [zi 24, zl 0] [] [(0, zr 4 44), (1, zi 24), (2, zl 0)] i286_196 rfl (by decide) rfl rfl (by omega) rfl rfl (by decide) rfl t223 (Nat.le_of_ble_eq_true rfl) (Nat.le_of_ble_eq_true rfl) rfl ?_
      refine c223_1 (B := B544)  24 0 (by omega) (hJ545.up (by omega)) (by omega) (by omega) hf26 hg4 (fun m547 hFv549 hJ548 => ?_)
      show X (EE s) d 286 199 [(0, zr 4 44)] [] m547 _
      refine X.aload_n 200 i286_199 rfl rfl rfl ?_
      refine X.getF 203 i286_200 rfl rfl (by decide) rfl rfl ?_
      refine X.bipush 205 i286_203 rfl rfl (by decide) ?_
      refine X.lald 206 i286_205 rfl rfl (by decide) rfl (by omega) ?_
      have h550 := r45_18 hJ548 4
      refine X.l2i 207 i286_206 rfl rfl (by omega) ?_
      refine X.reti i286_207 rfl t286 ?_
      exact hQ (m547 4 45 18) m547 (by first | trivial | omega) (Eq.trans hR546 (Eq.trans (zs_eq hFv549.symm) rfl)) (hJ548.up (by omega)) 
    · have h532c : (m526 4 45 18) < 7 := by omega
      clear h532 hz531
      refine X.aload_n 15 i287_14 rfl rfl rfl ?_
      refine X.getF 18 i287_15 rfl rfl (by decide) rfl rfl ?_
      refine X.bipush 20 i287_18 rfl rfl (by decide) ?_
      refine X.lald 21 i287_20 rfl rfl (by decide) rfl (by omega) ?_
      refine X.goto 27 i287_21 rfl rfl ?_
      refine X.cut [] i287_27 rfl ?_
      refine X.l2i 28 i287_27 rfl rfl (by omega) ?_
      refine X.reti i287_28 rfl t287 ?_
      show X (EE s) d 286 62 [(0, zr 4 44)] [zi (m526 4 45 18), zi 45, zi 1172] m526 _
      refine X.bipush 64 i286_62 rfl rfl (by decide) ?_
      refine X.icmpge 74 67 i286_64 rfl rfl rfl (fun h551 => (by exfalso; omega)) (fun h551 => ?_)
      refine X.aload_n 68 i286_67 rfl rfl rfl ?_
      refine X.callv 71 [] [zi 45, zi 1172] [(0, zr 4 44)] i286_68 rfl (by decide) rfl rfl (by omega) rfl rfl (by decide) rfl t287 (Nat.le_of_ble_eq_true rfl) (Nat.le_of_ble_eq_true rfl) rfl ?_
      refine X.aload_n 1 i287_0 rfl rfl rfl ?_
      refine X.getF 4 i287_1 rfl rfl (by decide) rfl rfl ?_
      refine X.bipush 6 i287_4 rfl rfl (by decide) ?_
      refine X.lald 7 i287_6 rfl rfl (by decide) rfl (by omega) ?_
      refine X.ldc2 10 i287_7 rfl rfl (by decide) ?_
      refine X.lcmp 11 i287_10 rfl rfl (fun z552 hz552 => ?_)
      refine X.ifge 24 14 i287_11 rfl rfl rfl (fun h553 => (by exfalso; omega)) (fun h553 => ?_)
      have h553c : (m526 4 45 18) < 7 := by omega
      clear h553 hz552
      refine X.aload_n 15 i287_14 rfl rfl rfl ?_
      refine X.getF 18 i287_15 rfl rfl (by decide) rfl rfl ?_
      refine X.bipush 20 i287_18 rfl rfl (by decide) ?_
      refine X.lald 21 i287_20 rfl rfl (by decide) rfl (by omega) ?_
      refine X.goto 27 i287_21 rfl rfl ?_
      refine X.cut [] i287_27 rfl ?_
      refine X.l2i 28 i287_27 rfl rfl (by omega) ?_
      refine X.reti i287_28 rfl t287 ?_
      show X (EE s) d 286 71 [(0, zr 4 44)] [zi (m526 4 45 18), zi 45, zi 1172] m526 _
      refine X.goto 76 i286_71 rfl rfl ?_
      refine X.imul 77 i286_76 rfl rfl (by omega) ?_
      refine X.iadd 78 i286_77 rfl rfl (by omega) ?_
      refine X.istore_n 79 [(0, zr 4 44), (1, zi (1172 + (45 * (m526 4 45 18))))] i286_78 rfl rfl rfl ?_
      refine X.aload_n 80 i286_79 rfl rfl rfl ?_
      refine X.getF 83 i286_80 rfl rfl (by decide) rfl rfl ?_
      refine X.bipush 85 i286_83 rfl rfl (by decide) ?_
      refine X.dup2 86 i286_85 rfl rfl ?_
      refine X.lald 87 i286_86 rfl rfl (by decide) rfl (by omega) ?_
      refine X.lconst (y := 1) 88 i286_87 rfl rfl rfl ?_
      refine X.ladd 89 i286_88 rfl rfl (by omega) ?_
      refine X.last' 90 i286_89 rfl rfl (by decide) rfl (by omega) (fun hrm554 m554 hm554 => ?_)
      have hJ555 := w45_18 (hJ528.up (B' := B527 + 1) (by omega)) hm554 (by omega) hf25 hg4
      refine X.aload_n 91 i286_90 rfl rfl rfl ?_
      refine X.getF 94 i286_91 rfl rfl (by decide) rfl rfl ?_
      refine X.iload_n 95 i286_94 rfl rfl rfl ?_
      refine X.aload_n 96 i286_95 rfl rfl rfl ?_
      refine X.getF 99 i286_96 rfl rfl (by decide) rfl rfl ?_
      refine X.iconst 100 i286_99 rfl rfl (by decide) ?_
      refine X.lald 101 i286_100 rfl rfl (by decide) rfl (by omega) ?_
      have h556 := r45_0 hJ555 4
      refine X.last' 102 i286_101 rfl rfl (by decide) rfl (by omega) (fun hrm557 m557 hm557 => ?_)
      have hJ558 := w45_1172 hJ555 hm557 (by omega) hrm557 hf25 hg4
      refine X.iconst 103 i286_102 rfl rfl (by decide) ?_
      refine X.istore_n 104 [(0, zr 4 44), (1, zi (1172 + (45 * (m526 4 45 18)))), (2, zi 0)] i286_103 rfl rfl rfl ?_
      have hz36 := zfu_eq 36
      refine l286_104_1 (s := s) (d := d)  (1172 + (45 * (m526 4 45 18)))  (BE := B527 + 1) (by omega) (by omega) (by omega) hf25 hg4 (fun  m559 B560 hJ561 hBB560 hR562 => ?_) (zfu 36) 0 m557 (B527 + 1) (hJ558.up (by omega)) (by omega) (by omega) (by omega) (Eq.trans hR529 (Eq.trans (if_pos h532c) (Eq.trans (zs_eq hm554) (Eq.trans (zs_eq hm557) rfl))))
      refine X.iconst 136 i286_135 rfl rfl (by decide) ?_
      refine X.istore_n 137 [(0, zr 4 44), (1, zi (1172 + (45 * (m526 4 45 18)))), (2, zi 0)] i286_136 rfl rfl rfl ?_
      have hz5 := zfu_eq 5
      refine l286_137_1 (s := s) (d := d)  (1172 + (45 * (m526 4 45 18)))  (BE := B560 + 0) (by omega) (by omega) (by omega) hf25 hf28 hg4 (fun  m563 B564 hJ565 hBB564 hR566 => ?_) (zfu 5) 0 m559 (B560) (hJ561.up (by omega)) (by omega) (by omega) (by omega) (Eq.trans hR562 rfl)
      refine X.aload_n 193 i286_192 rfl rfl rfl ?_
      refine X.bipush 195 i286_193 rfl rfl (by decide) ?_
      refine X.lconst (y := 0) 196 i286_195 rfl rfl rfl ?_
      refine X.callv 199 [zi 24, zl 0] [] [(0, zr 4 44), (1, zi 24), (2, zl 0)] i286_196 rfl (by decide) rfl rfl (by omega) rfl rfl (by decide) rfl t223 (Nat.le_of_ble_eq_true rfl) (Nat.le_of_ble_eq_true rfl) rfl ?_
      refine c223_1 (B := B564)  24 0 (by omega) (hJ565.up (by omega)) (by omega) (by omega) hf26 hg4 (fun m567 hFv569 hJ568 => ?_)
      show X (EE s) d 286 199 [(0, zr 4 44)] [] m567 _
      refine X.aload_n 200 i286_199 rfl rfl rfl ?_
      refine X.getF 203 i286_200 rfl rfl (by decide) rfl rfl ?_
      refine X.bipush 205 i286_203 rfl rfl (by decide) ?_
      refine X.lald 206 i286_205 rfl rfl (by decide) rfl (by omega) ?_
      have h570 := r45_18 hJ568 4
      refine X.l2i 207 i286_206 rfl rfl (by omega) ?_
      refine X.reti i286_207 rfl t286 ?_
      exact hQ (m567 4 45 18) m567 (by first | trivial | omega) (Eq.trans hR566 (Eq.trans (zs_eq hFv569.symm) rfl)) (hJ568.up (by omega)) 
-- WorkMeter$Wave.apparentOf
theorem c23_2 {s : Nat × (Nat → Int32)} {S : zS} {m0 m : zM} {B : Int} {d : Nat} {Q : Option zV → zM → Prop} (g0 : Nat) (a1 : Int) (hd : 14 ≤ d) (hJ : J S m0 B m) (hB : B + 0 ≤ 1000000000) (ha1 : 0 ≤ a1 ∧ a1 ≤ 3) (hQ : ∀ (v : Int), (True) → f23_1 g0 a1 m = v → Q (some (zl v)) m) : X (EE s) d 23 0 [(0, zr g0 19), (1, zi a1)] [] m Q := by
  refine X.aload_n 1 i23_0 rfl rfl rfl ?_
  refine X.getR 4 i23_1 rfl rfl (by decide) rfl rfl ?_
  refine X.iconst 5 i23_4 rfl rfl (by decide) ?_
  refine X.iload_n 6 i23_5 rfl rfl rfl ?_
  refine X.iadd 7 i23_6 rfl rfl (by omega) ?_
  refine X.lald 8 i23_7 rfl rfl (by decide) rfl (by omega) ?_
  refine X.lstore_n 9 [(0, zr g0 19), (1, zi a1), (2, zl (m g0 22 (0 + a1)))] i23_8 rfl rfl rfl ?_
  refine X.aload_n 10 i23_9 rfl rfl rfl ?_
  refine X.getR 13 i23_10 rfl rfl (by decide) rfl rfl ?_
  refine X.iconst 14 i23_13 rfl rfl (by decide) ?_
  refine X.iload_n 15 i23_14 rfl rfl rfl ?_
  refine X.iadd 16 i23_15 rfl rfl (by omega) ?_
  refine X.lald 17 i23_16 rfl rfl (by decide) rfl (by omega) ?_
  refine X.lstore 19 [(0, zr g0 19), (1, zi a1), (2, zl (m g0 22 (0 + a1))), (4, zl (m g0 22 (4 + a1)))] i23_17 rfl rfl rfl ?_
  refine X.lload_n 20 i23_19 rfl rfl rfl ?_
  refine X.lload_n 21 i23_20 rfl rfl rfl ?_
  refine X.lmulW 22 i23_21 rfl rfl (fun z501 ez501 hz501 => ?_)
  refine X.lload 24 i23_22 rfl rfl rfl ?_
  refine X.lload 26 i23_24 rfl rfl rfl ?_
  refine X.lmulW 27 i23_26 rfl rfl (fun z502 ez502 hz502 => ?_)
  refine X.laddW 28 i23_27 rfl rfl (fun z503 ez503 hz503 => ?_)
  refine X.calls 31 [zl z503] [] [(0, zl z503)] i23_28 (by decide) rfl rfl (by omega) rfl rfl t24 (Nat.le_of_ble_eq_true rfl) (Nat.le_of_ble_eq_true rfl) rfl ?_
  refine c24_1 (B := B)  z503 (by omega) (hJ.up (by omega)) (by omega)  (fun v506 hv506 hFv506 => ?_)
  show X (EE s) d 23 31 [(0, zr g0 19), (1, zi a1), (2, zl (m g0 22 (0 + a1))), (4, zl (m g0 22 (4 + a1)))] [zl v506] m _
  refine X.retl i23_31 rfl t23 ?_
  exact hQ v506 (by first | trivial | omega) (Eq.trans (zn_eq ez501) (Eq.trans (zn_eq ez502) (Eq.trans (zn_eq ez503) (Eq.trans (zn_eq hFv506.symm) rfl)))) 
-- WorkMeter$Wave.quadrantOf
theorem c51_2 {s : Nat × (Nat → Int32)} {S : zS} {m0 m : zM} {B : Int} {d : Nat} {Q : Option zV → zM → Prop} (a0 a1 : Int) (hd : 13 ≤ d) (hJ : J S m0 B m) (hB : B + 0 ≤ 1000000000) (hQ : ∀ (v : Int), (1 ≤ v ∧ v ≤ 4) → f51_1 a0 a1 m = v → Q (some (zi v)) m) : X (EE s) d 51 0 [(0, zl a0), (2, zl a1)] [] m Q := by
  refine X.lload_n 1 i51_0 rfl rfl rfl ?_
  refine X.lconst (y := 0) 2 i51_1 rfl rfl rfl ?_
  refine X.lcmp 3 i51_2 rfl rfl (fun z501 hz501 => ?_)
  refine X.iflt 18 6 i51_3 rfl rfl rfl (fun h502 => ?_) (fun h502 => ?_)
  · have h502c : a0 < 0 := by omega
    clear h502 hz501
    refine X.cut [(2, zl a1)] i51_18 rfl ?_
    refine X.lload_n 19 i51_18 rfl rfl rfl ?_
    refine X.lconst (y := 0) 20 i51_19 rfl rfl rfl ?_
    refine X.lcmp 21 i51_20 rfl rfl (fun z503 hz503 => ?_)
    have hK508 : ∀ (v : Int) , (2 ≤ v ∧ v ≤ 3) → (if a1 < 0 then
        (3)
        else
        (2)) = v → X (EE s) d 51 29 [] [zi v] m Q := by
      intro v505 hv505 hT509
      refine X.reti i51_29 rfl t51 ?_
      exact hQ v505 (by first | trivial | omega) (Eq.trans (if_pos h502c) (Eq.trans (zn_eq hT509.symm) rfl)) 
    refine X.iflt 28 24 i51_21 rfl rfl rfl (fun h504 => ?_) (fun h504 => ?_)
    · have h504c : a1 < 0 := by omega
      clear h504 hz503
      refine X.cut [] i51_28 rfl ?_
      refine X.iconst 29 i51_28 rfl rfl (by decide) ?_
      exact hK508 3 (by first | trivial | omega) (Eq.trans (if_pos h504c) rfl)
    · have h504c : ¬ a1 < 0 := by omega
      clear h504 hz503
      refine X.iconst 25 i51_24 rfl rfl (by decide) ?_
      refine X.goto 29 i51_25 rfl rfl ?_
      refine X.cut [] i51_29 rfl ?_
      exact hK508 2 (by first | trivial | omega) (Eq.trans (if_neg h504c) rfl)
  · have h502c : ¬ a0 < 0 := by omega
    clear h502 hz501
    refine X.lload_n 7 i51_6 rfl rfl rfl ?_
    refine X.lconst (y := 0) 8 i51_7 rfl rfl rfl ?_
    refine X.lcmp 9 i51_8 rfl rfl (fun z510 hz510 => ?_)
    have hK515 : ∀ (v : Int) , (1 ≤ v ∧ v ≤ 4) → (if a1 < 0 then
        (4)
        else
        (1)) = v → X (EE s) d 51 17 [] [zi v] m Q := by
      intro v512 hv512 hT516
      refine X.reti i51_17 rfl t51 ?_
      exact hQ v512 (by first | trivial | omega) (Eq.trans (if_neg h502c) (Eq.trans (zn_eq hT516.symm) rfl)) 
    refine X.iflt 16 12 i51_9 rfl rfl rfl (fun h511 => ?_) (fun h511 => ?_)
    · have h511c : a1 < 0 := by omega
      clear h511 hz510
      refine X.cut [] i51_16 rfl ?_
      refine X.iconst 17 i51_16 rfl rfl (by decide) ?_
      exact hK515 4 (by first | trivial | omega) (Eq.trans (if_pos h511c) rfl)
    · have h511c : ¬ a1 < 0 := by omega
      clear h511 hz510
      refine X.iconst 13 i51_12 rfl rfl (by decide) ?_
      refine X.goto 17 i51_13 rfl rfl ?_
      refine X.cut [] i51_17 rfl ?_
      exact hK515 1 (by first | trivial | omega) (Eq.trans (if_neg h511c) rfl)
noncomputable def fl142_5_1_b (self : Int → Int → Int) (k47 : Int → Int) (g0 : Nat) (y1 y2 : Int) (m : zM) (y3 y5 : Int) : Int :=
  if (m g0 19 3) ≤ y5 then
  (k47 y3)
  else
  (zn (if y2 = (-1) then
  ((max y3 (m g0 22 ((y1 * 4) + y5))))
  else
  (if y2 = y5 then
  ((max y3 (m g0 22 ((y1 * 4) + y5))))
  else
  (y3))) fun v524 =>
  self v524 (y5 + 1))
noncomputable def fl142_5_1 (k47 : Int → Int) (g0 : Nat) (y1 y2 : Int) (m : zM) : Nat → Int → Int → Int
  | 0 => fun y3 y5 => 0
  | n + 1 => fl142_5_1_b (fl142_5_1 k47 g0 y1 y2 m n) k47 g0 y1 y2 m
theorem l142_5_1 {s : Nat × (Nat → Int32)} {S : zS} {m0 : zM} {m : zM} {B : Int} {d : Nat} {Q : Option zV → zM → Prop} {R0 : Int} {k47 : Int → Int} (g0 : Nat) (y1 y2 : Int) (hd : 13 ≤ d) (hJ : J S m0 B m) (hB9 : B ≤ 1000000000) (hy1 : 2 ≤ y1 ∧ y1 ≤ 3) (hy2 : (-1) ≤ y2 ∧ y2 ≤ 2)
    (K47 : ∀ (x3 : Int) , (0 ≤ x3) → R0 = k47 x3 → X (EE s) d 142 47 [(0, zr g0 19), (3, zl x3)] [] m Q) :
    ∀ (n : Nat) (y3 y5 : Int) , (0 ≤ y3) → (0 ≤ y5 ∧ y5 ≤ 3) → 3 - y5 < (n : Int) → R0 = fl142_5_1 k47 g0 y1 y2 m n y3 y5 → X (EE s) d 142 5 [(0, zr g0 19), (1, zi y1), (2, zi y2), (3, zl y3), (5, zi y5)] [] m Q := by
  intro n
  induction n with
  | zero =>
    intro y3 y5 hy3 hy5 hn hR
    exfalso
    omega
  | succ n ih =>
    intro y3 y5 hy3 hy5 hn hR
    replace hR : R0 = fl142_5_1_b (fl142_5_1 k47 g0 y1 y2 m n) k47 g0 y1 y2 m y3 y5 := hR
    refine X.iload 7 i142_5 rfl rfl rfl ?_
    refine X.aload_n 8 i142_7 rfl rfl rfl ?_
    refine X.getI 11 3 i142_8 rfl rfl (by decide) rfl rfl rfl ?_
    have h520 := r19_3 hJ g0
    refine X.icmpge 47 14 i142_11 rfl rfl rfl (fun h521 => ?_) (fun h521 => ?_)
    · refine X.cut [(0, zr g0 19), (3, zl y3)] i142_47 rfl ?_
      exact K47 y3 (by first | trivial | omega) (Eq.trans hR (Eq.trans (if_pos h521) rfl))
    · refine X.iload_n 15 i142_14 rfl rfl rfl ?_
      refine X.iconst 16 i142_15 rfl rfl (by decide) ?_
      have hK527 : ∀ (v : Int) , (0 ≤ v) → (if y2 = (-1) then
          ((max y3 (m g0 22 ((y1 * 4) + y5))))
          else
          (if y2 = y5 then
          ((max y3 (m g0 22 ((y1 * 4) + y5))))
          else
          (y3))) = v → X (EE s) d 142 41 [(0, zr g0 19), (1, zi y1), (2, zi y2), (3, zl v), (5, zi y5)] [] m Q := by
        intro v524 hv524 hT528
        refine X.iinc 44 [(0, zr g0 19), (1, zi y1), (2, zi y2), (3, zl v524), (5, zi (y5 + 1))] i142_41 rfl rfl rfl (by omega) rfl ?_
        refine X.goto 5 i142_44 rfl rfl ?_
        exact ih v524 (y5 + 1) (by omega) (by omega) (by omega) (Eq.trans hR (Eq.trans (if_neg h521) (Eq.trans (zn_eq hT528.symm) rfl)))
      refine X.icmpeq 25 19 i142_16 rfl rfl rfl (fun h522 => ?_) (fun h522 => ?_)
      · refine X.lload_n 26 i142_25 rfl rfl rfl ?_
        refine X.aload_n 27 i142_26 rfl rfl rfl ?_
        refine X.getR 30 i142_27 rfl rfl (by decide) rfl rfl ?_
        refine X.iload_n 31 i142_30 rfl rfl rfl ?_
        refine X.iconst 32 i142_31 rfl rfl (by decide) ?_
        refine X.imul 33 i142_32 rfl rfl (by omega) ?_
        refine X.iload 35 i142_33 rfl rfl rfl ?_
        refine X.iadd 36 i142_35 rfl rfl (by omega) ?_
        refine X.lald 37 i142_36 rfl rfl (by decide) rfl (by omega) ?_
        refine X.maxL 40 i142_37 rfl rfl (by omega) (Nat.le_of_ble_eq_true rfl) ?_
        refine X.lstore_n 41 [(0, zr g0 19), (1, zi y1), (2, zi y2), (3, zl (max y3 (m g0 22 ((y1 * 4) + y5)))), (5, zi y5)] i142_40 rfl rfl rfl ?_
        exact hK527 (max y3 (m g0 22 ((y1 * 4) + y5))) (by first | trivial | omega) (Eq.trans (if_pos h522) rfl)
      · refine X.iload_n 20 i142_19 rfl rfl rfl ?_
        refine X.iload 22 i142_20 rfl rfl rfl ?_
        refine X.icmpne 41 25 i142_22 rfl rfl rfl (fun h523 => ?_) (fun h523 => ?_)
        · exact hK527 y3 (by first | trivial | omega) (Eq.trans (if_neg h522) (Eq.trans (if_neg h523) rfl))
        · refine X.lload_n 26 i142_25 rfl rfl rfl ?_
          refine X.aload_n 27 i142_26 rfl rfl rfl ?_
          refine X.getR 30 i142_27 rfl rfl (by decide) rfl rfl ?_
          refine X.iload_n 31 i142_30 rfl rfl rfl ?_
          refine X.iconst 32 i142_31 rfl rfl (by decide) ?_
          refine X.imul 33 i142_32 rfl rfl (by omega) ?_
          refine X.iload 35 i142_33 rfl rfl rfl ?_
          refine X.iadd 36 i142_35 rfl rfl (by omega) ?_
          refine X.lald 37 i142_36 rfl rfl (by decide) rfl (by omega) ?_
          refine X.maxL 40 i142_37 rfl rfl (by omega) (Nat.le_of_ble_eq_true rfl) ?_
          refine X.lstore_n 41 [(0, zr g0 19), (1, zi y1), (2, zi y2), (3, zl (max y3 (m g0 22 ((y1 * 4) + y5)))), (5, zi y5)] i142_40 rfl rfl rfl ?_
          exact hK527 (max y3 (m g0 22 ((y1 * 4) + y5))) (by first | trivial | omega) (Eq.trans (if_neg h522) (Eq.trans (if_pos h523) rfl))
-- WorkMeter$Wave.rootMean
noncomputable def f142_1 (g0 : Nat) (a1 a2 : Int) (m : zM) : Int :=
  fl142_5_1 (fun y501 =>
  zn ((y501 / (max 1 (m g0 19 4)))) fun z507 =>
  zn (f24_1 z507 m) fun v510 =>
  v510) g0 a1 a2 m (zfu 4) 0 0
-- WorkMeter$Wave.rootMean
theorem c142_1 {s : Nat × (Nat → Int32)} {S : zS} {m0 m : zM} {B : Int} {d : Nat} {Q : Option zV → zM → Prop} (g0 : Nat) (a1 a2 : Int) (hd : 14 ≤ d) (hJ : J S m0 B m) (hB : B + 0 ≤ 1000000000) (ha1 : 2 ≤ a1 ∧ a1 ≤ 3) (ha2 : (-1) ≤ a2 ∧ a2 ≤ 2) (hQ : ∀ (v : Int), (True) → f142_1 g0 a1 a2 m = v → Q (some (zl v)) m) : X (EE s) d 142 0 [(0, zr g0 19), (1, zi a1), (2, zi a2)] [] m Q := by
  refine X.lconst (y := 0) 1 i142_0 rfl rfl rfl ?_
  refine X.lstore_n 2 [(0, zr g0 19), (1, zi a1), (2, zi a2), (3, zl 0)] i142_1 rfl rfl rfl ?_
  refine X.iconst 3 i142_2 rfl rfl (by decide) ?_
  refine X.istore 5 [(0, zr g0 19), (1, zi a1), (2, zi a2), (3, zl 0), (5, zi 0)] i142_3 rfl rfl rfl ?_
  have hz4 := zfu_eq 4
  refine l142_5_1 (s := s) (m := m) (B := B) (d := d) (R0 := (f142_1 g0 a1 a2 m)) g0 a1 a2  (by omega) (hJ.up (by omega)) (by omega) (by omega) (by omega) (fun y501 hby501 hR505 => ?_) (zfu 4) 0 0 (by omega) (by omega) (by omega) rfl
  refine X.lload_n 48 i142_47 rfl rfl rfl ?_
  refine X.iconst 49 i142_48 rfl rfl (by decide) ?_
  refine X.aload_n 50 i142_49 rfl rfl rfl ?_
  refine X.getI 53 4 i142_50 rfl rfl (by decide) rfl rfl rfl ?_
  have h506 := r19_4 hJ g0
  refine X.maxI 56 i142_53 rfl rfl (by omega) (Nat.le_of_ble_eq_true rfl) ?_
  refine X.i2l 57 i142_56 rfl rfl ?_
  refine X.ldivp 58 i142_57 rfl rfl (by omega) ?_
  have hz507 := z_divb (x := y501) (y := (max 1 (m g0 19 4))) (by omega) (by omega)
  obtain ⟨z507, ez507⟩ : ∃ z, z = (y501 / (max 1 (m g0 19 4))) := ⟨_, rfl⟩
  rw [← ez507] at hz507 ⊢
  refine X.calls 61 [zl z507] [] [(0, zl z507)] i142_58 (by decide) rfl rfl (by omega) rfl rfl t24 (Nat.le_of_ble_eq_true rfl) (Nat.le_of_ble_eq_true rfl) rfl ?_
  refine c24_1 (B := B)  z507 (by omega) (hJ.up (by omega)) (by omega)  (fun v510 hv510 hFv510 => ?_)
  show X (EE s) d 142 61 [(0, zr g0 19), (3, zl y501)] [zl v510] m _
  refine X.retl i142_61 rfl t142 ?_
  exact hQ v510 (by first | trivial | omega) (Eq.trans hR505 (Eq.trans (zn_eq ez507) (Eq.trans (zn_eq hFv510.symm) rfl))) 
-- WorkMeter$Wave.factor
noncomputable def f143_1 (a0 a1 : Int) (m : zM) : Int :=
  zn (if a1 = 0 then
  (0)
  else
  (zn (w64 (1000 * a0)) fun z503 =>
  zn (w64 ((z503).tdiv a1)) fun z504 =>
  z504)) fun v505 =>
  v505
-- WorkMeter$Wave.factor
theorem c143_1 {s : Nat × (Nat → Int32)} {S : zS} {m0 m : zM} {B : Int} {d : Nat} {Q : Option zV → zM → Prop} (a0 a1 : Int) (hd : 13 ≤ d) (hJ : J S m0 B m) (hB : B + 0 ≤ 1000000000) (hQ : ∀ (v : Int), (True) → f143_1 a0 a1 m = v → Q (some (zl v)) m) : X (EE s) d 143 0 [(0, zl a0), (2, zl a1)] [] m Q := by
  refine X.lload_n 1 i143_0 rfl rfl rfl ?_
  refine X.lconst (y := 0) 2 i143_1 rfl rfl rfl ?_
  refine X.lcmp 3 i143_2 rfl rfl (fun z501 hz501 => ?_)
  have hK508 : ∀ (v : Int) , (True) → (if a1 = 0 then
      (0)
      else
      (zn (w64 (1000 * a0)) fun z503 =>
      zn (w64 ((z503).tdiv a1)) fun z504 =>
      z504)) = v → X (EE s) d 143 17 [] [zl v] m Q := by
    intro v505 hv505 hT509
    refine X.retl i143_17 rfl t143 ?_
    exact hQ v505 (by first | trivial | omega) (Eq.trans (zn_eq hT509.symm) rfl) 
  refine X.ifne 10 6 i143_3 rfl rfl rfl (fun h502 => ?_) (fun h502 => ?_)
  · have h502c : ¬ a1 = 0 := by omega
    clear h502 hz501
    refine X.ldc2 13 i143_10 rfl rfl (by decide) ?_
    refine X.lload_n 14 i143_13 rfl rfl rfl ?_
    refine X.lmulW 15 i143_14 rfl rfl (fun z503 ez503 hz503 => ?_)
    refine X.lload_n 16 i143_15 rfl rfl rfl ?_
    refine X.ldivW 17 i143_16 rfl rfl (by omega) (fun z504 ez504 hz504 => ?_)
    refine X.cut [] i143_17 rfl ?_
    exact hK508 z504 (by first | trivial | omega) (Eq.trans (if_neg h502c) (Eq.trans (zn_eq ez503) (Eq.trans (zn_eq ez504) rfl)))
  · have h502c : a1 = 0 := by omega
    clear h502 hz501
    refine X.lconst (y := 0) 7 i143_6 rfl rfl rfl ?_
    refine X.goto 17 i143_7 rfl rfl ?_
    refine X.cut [] i143_17 rfl ?_
    exact hK508 0 (by first | trivial | omega) (Eq.trans (if_pos h502c) rfl)
-- WorkMeter$Wave.tell
noncomputable def f141_1 (g0 : Nat) (a1 a2 : Int) (m : zM) : Int :=
  zn (if a1 = (-1) then
  (3)
  else
  (a1)) fun v502 =>
  if a2 = 4 then
  (zn (f23_1 g0 v502 m) fun v510 =>
  v510)
  else
  (if a2 = 5 then
  (zn (f51_1 (m g0 22 (0 + v502)) (m g0 22 (4 + v502)) m) fun v514 =>
  v514)
  else
  (if a2 = 6 then
  (zn (f142_1 g0 2 a1 m) fun v518 =>
  v518)
  else
  (if a2 = 7 then
  (zn (f142_1 g0 3 a1 m) fun v522 =>
  v522)
  else
  (if a2 = 8 then
  (zn (f23_1 g0 v502 m) fun v526 =>
  zn (f143_1 (m g0 22 (0 + v502)) v526 m) fun v529 =>
  v529)
  else
  (zn (if 3 < a2 then
  ((-1))
  else
  ((m g0 22 ((a2 * 4) + v502)))) fun v532 =>
  v532)))))
-- WorkMeter$Wave.tell
theorem c141_1 {s : Nat × (Nat → Int32)} {S : zS} {m0 m : zM} {B : Int} {d : Nat} {Q : Option zV → zM → Prop} (g0 : Nat) (a1 a2 : Int) (hd : 15 ≤ d) (hJ : J S m0 B m) (hB : B + 0 ≤ 1000000000) (ha1 : (-1) ≤ a1 ∧ a1 ≤ 2) (ha2 : 0 ≤ a2 ∧ a2 ≤ 8) (hQ : ∀ (v : Int), (True) → f141_1 g0 a1 a2 m = v → Q (some (zl v)) m) : X (EE s) d 141 0 [(0, zr g0 19), (1, zi a1), (2, zi a2)] [] m Q := by
  refine X.iload_n 1 i141_0 rfl rfl rfl ?_
  refine X.iconst 2 i141_1 rfl rfl (by decide) ?_
  have hK505 : ∀ (v : Int) , (0 ≤ v ∧ v ≤ 3) → (if a1 = (-1) then
      (3)
      else
      (a1)) = v → X (EE s) d 141 10 [(0, zr g0 19), (1, zi a1), (2, zi a2)] [zi v] m Q := by
    intro v502 hv502 hT506
    refine X.istore_n 11 [(0, zr g0 19), (1, zi a1), (2, zi a2), (3, zi v502)] i141_10 rfl rfl rfl ?_
    refine X.aload_n 12 i141_11 rfl rfl rfl ?_
    refine X.getR 15 i141_12 rfl rfl (by decide) rfl rfl ?_
    refine X.iconst 16 i141_15 rfl rfl (by decide) ?_
    refine X.iload_n 17 i141_16 rfl rfl rfl ?_
    refine X.iadd 18 i141_17 rfl rfl (by omega) ?_
    refine X.lald 19 i141_18 rfl rfl (by decide) rfl (by omega) ?_
    refine X.lstore 21 [(0, zr g0 19), (1, zi a1), (2, zi a2), (3, zi v502), (4, zl (m g0 22 (0 + v502)))] i141_19 rfl rfl rfl ?_
    refine X.iload_n 22 i141_21 rfl rfl rfl ?_
    by_cases h507 : a2 = 4
    · refine X.tsIn 56 0 i141_22 rfl (by omega) rfl rfl ?_
      refine X.cut [(0, zr g0 19), (3, zi v502)] i141_56 rfl ?_
      refine X.aload_n 57 i141_56 rfl rfl rfl ?_
      refine X.iload_n 58 i141_57 rfl rfl rfl ?_
      refine X.callv 61 [zi v502] [] [(0, zr g0 19), (1, zi v502)] i141_58 rfl (by decide) rfl rfl (by omega) rfl rfl (by decide) rfl t23 (Nat.le_of_ble_eq_true rfl) (Nat.le_of_ble_eq_true rfl) rfl ?_
      refine c23_2 (B := B) g0 v502 (by omega) (hJ.up (by omega)) (by omega) (by omega) (fun v510 hv510 hFv510 => ?_)
      show X (EE s) d 141 61 [(0, zr g0 19), (3, zi v502)] [zl v510] m _
      refine X.retl i141_61 rfl t141 ?_
      exact hQ v510 (by first | trivial | omega) (Eq.trans (zn_eq hT506.symm) (Eq.trans (if_pos h507) (Eq.trans (zn_eq hFv510.symm) rfl))) 
    by_cases h511 : a2 = 5
    · refine X.tsIn 62 1 i141_22 rfl (by omega) rfl rfl ?_
      refine X.cut [(0, zr g0 19), (3, zi v502), (4, zl (m g0 22 (0 + v502)))] i141_62 rfl ?_
      refine X.lload 64 i141_62 rfl rfl rfl ?_
      refine X.aload_n 65 i141_64 rfl rfl rfl ?_
      refine X.getR 68 i141_65 rfl rfl (by decide) rfl rfl ?_
      refine X.iconst 69 i141_68 rfl rfl (by decide) ?_
      refine X.iload_n 70 i141_69 rfl rfl rfl ?_
      refine X.iadd 71 i141_70 rfl rfl (by omega) ?_
      refine X.lald 72 i141_71 rfl rfl (by decide) rfl (by omega) ?_
      refine X.calls 75 [zl (m g0 22 (0 + v502)), zl (m g0 22 (4 + v502))] [] [(0, zl (m g0 22 (0 + v502))), (2, zl (m g0 22 (4 + v502)))] i141_72 (by decide) rfl rfl (by omega) rfl rfl t51 (Nat.le_of_ble_eq_true rfl) (Nat.le_of_ble_eq_true rfl) rfl ?_
      refine c51_2 (B := B)  (m g0 22 (0 + v502)) (m g0 22 (4 + v502)) (by omega) (hJ.up (by omega)) (by omega)  (fun v514 hv514 hFv514 => ?_)
      show X (EE s) d 141 75 [(0, zr g0 19), (3, zi v502), (4, zl (m g0 22 (0 + v502)))] [zi v514] m _
      refine X.i2l 76 i141_75 rfl rfl ?_
      refine X.retl i141_76 rfl t141 ?_
      exact hQ v514 (by first | trivial | omega) (Eq.trans (zn_eq hT506.symm) (Eq.trans (if_neg h507) (Eq.trans (if_pos h511) (Eq.trans (zn_eq hFv514.symm) rfl)))) 
    by_cases h515 : a2 = 6
    · refine X.tsIn 77 2 i141_22 rfl (by omega) rfl rfl ?_
      refine X.cut [(0, zr g0 19), (1, zi a1)] i141_77 rfl ?_
      refine X.aload_n 78 i141_77 rfl rfl rfl ?_
      refine X.iconst 79 i141_78 rfl rfl (by decide) ?_
      refine X.iload_n 80 i141_79 rfl rfl rfl ?_
      refine X.callv 83 [zi 2, zi a1] [] [(0, zr g0 19), (1, zi 2), (2, zi a1)] i141_80 rfl (by decide) rfl rfl (by omega) rfl rfl (by decide) rfl t142 (Nat.le_of_ble_eq_true rfl) (Nat.le_of_ble_eq_true rfl) rfl ?_
      refine c142_1 (B := B) g0 2 a1 (by omega) (hJ.up (by omega)) (by omega) (by omega) (by omega) (fun v518 hv518 hFv518 => ?_)
      show X (EE s) d 141 83 [(0, zr g0 19), (1, zi a1)] [zl v518] m _
      refine X.retl i141_83 rfl t141 ?_
      exact hQ v518 (by first | trivial | omega) (Eq.trans (zn_eq hT506.symm) (Eq.trans (if_neg h507) (Eq.trans (if_neg h511) (Eq.trans (if_pos h515) (Eq.trans (zn_eq hFv518.symm) rfl))))) 
    by_cases h519 : a2 = 7
    · refine X.tsIn 84 3 i141_22 rfl (by omega) rfl rfl ?_
      refine X.cut [(0, zr g0 19), (1, zi a1)] i141_84 rfl ?_
      refine X.aload_n 85 i141_84 rfl rfl rfl ?_
      refine X.iconst 86 i141_85 rfl rfl (by decide) ?_
      refine X.iload_n 87 i141_86 rfl rfl rfl ?_
      refine X.callv 90 [zi 3, zi a1] [] [(0, zr g0 19), (1, zi 3), (2, zi a1)] i141_87 rfl (by decide) rfl rfl (by omega) rfl rfl (by decide) rfl t142 (Nat.le_of_ble_eq_true rfl) (Nat.le_of_ble_eq_true rfl) rfl ?_
      refine c142_1 (B := B) g0 3 a1 (by omega) (hJ.up (by omega)) (by omega) (by omega) (by omega) (fun v522 hv522 hFv522 => ?_)
      show X (EE s) d 141 90 [(0, zr g0 19), (1, zi a1)] [zl v522] m _
      refine X.retl i141_90 rfl t141 ?_
      exact hQ v522 (by first | trivial | omega) (Eq.trans (zn_eq hT506.symm) (Eq.trans (if_neg h507) (Eq.trans (if_neg h511) (Eq.trans (if_neg h515) (Eq.trans (if_pos h519) (Eq.trans (zn_eq hFv522.symm) rfl)))))) 
    by_cases h523 : a2 = 8
    · refine X.tsIn 91 4 i141_22 rfl (by omega) rfl rfl ?_
      refine X.cut [(0, zr g0 19), (3, zi v502), (4, zl (m g0 22 (0 + v502)))] i141_91 rfl ?_
      refine X.lload 93 i141_91 rfl rfl rfl ?_
      refine X.aload_n 94 i141_93 rfl rfl rfl ?_
      refine X.iload_n 95 i141_94 rfl rfl rfl ?_
      refine X.callv 98 [zi v502] [zl (m g0 22 (0 + v502))] [(0, zr g0 19), (1, zi v502)] i141_95 rfl (by decide) rfl rfl (by omega) rfl rfl (by decide) rfl t23 (Nat.le_of_ble_eq_true rfl) (Nat.le_of_ble_eq_true rfl) rfl ?_
      refine c23_2 (B := B) g0 v502 (by omega) (hJ.up (by omega)) (by omega) (by omega) (fun v526 hv526 hFv526 => ?_)
      show X (EE s) d 141 98 [(0, zr g0 19), (3, zi v502), (4, zl (m g0 22 (0 + v502)))] [zl v526, zl (m g0 22 (0 + v502))] m _
      refine X.calls 101 [zl (m g0 22 (0 + v502)), zl v526] [] [(0, zl (m g0 22 (0 + v502))), (2, zl v526)] i141_98 (by decide) rfl rfl (by omega) rfl rfl t143 (Nat.le_of_ble_eq_true rfl) (Nat.le_of_ble_eq_true rfl) rfl ?_
      refine c143_1 (B := B)  (m g0 22 (0 + v502)) v526 (by omega) (hJ.up (by omega)) (by omega)  (fun v529 hv529 hFv529 => ?_)
      show X (EE s) d 141 101 [(0, zr g0 19), (3, zi v502), (4, zl (m g0 22 (0 + v502)))] [zl v529] m _
      refine X.retl i141_101 rfl t141 ?_
      exact hQ v529 (by first | trivial | omega) (Eq.trans (zn_eq hT506.symm) (Eq.trans (if_neg h507) (Eq.trans (if_neg h511) (Eq.trans (if_neg h515) (Eq.trans (if_neg h519) (Eq.trans (if_pos h523) (Eq.trans (zn_eq hFv526.symm) (Eq.trans (zn_eq hFv529.symm) rfl)))))))) 
    refine X.tsOut 102 i141_22 rfl (by omega) rfl ?_
    refine X.cut [(0, zr g0 19), (2, zi a2), (3, zi v502)] i141_102 rfl ?_
    refine X.iload_n 103 i141_102 rfl rfl rfl ?_
    refine X.iflt 124 106 i141_103 rfl rfl rfl (fun h530 => (by exfalso; omega)) (fun h530 => ?_)
    refine X.iload_n 107 i141_106 rfl rfl rfl ?_
    refine X.iconst 108 i141_107 rfl rfl (by decide) ?_
    have hK535 : ∀ (v : Int) , (True) → (if 3 < a2 then
        ((-1))
        else
        ((m g0 22 ((a2 * 4) + v502)))) = v → X (EE s) d 141 127 [] [zl v] m Q := by
      intro v532 hv532 hT536
      refine X.retl i141_127 rfl t141 ?_
      exact hQ v532 (by first | trivial | omega) (Eq.trans (zn_eq hT506.symm) (Eq.trans (if_neg h507) (Eq.trans (if_neg h511) (Eq.trans (if_neg h515) (Eq.trans (if_neg h519) (Eq.trans (if_neg h523) (Eq.trans (zn_eq hT536.symm) rfl))))))) 
    refine X.icmpgt 124 111 i141_108 rfl rfl rfl (fun h531 => ?_) (fun h531 => ?_)
    · refine X.cut [] i141_124 rfl ?_
      refine X.ldc2 127 i141_124 rfl rfl (by decide) ?_
      exact hK535 (-1) (by first | trivial | omega) (Eq.trans (if_pos h531) rfl)
    · refine X.aload_n 112 i141_111 rfl rfl rfl ?_
      refine X.getR 115 i141_112 rfl rfl (by decide) rfl rfl ?_
      refine X.iload_n 116 i141_115 rfl rfl rfl ?_
      refine X.iconst 117 i141_116 rfl rfl (by decide) ?_
      refine X.imul 118 i141_117 rfl rfl (by omega) ?_
      refine X.iload_n 119 i141_118 rfl rfl rfl ?_
      refine X.iadd 120 i141_119 rfl rfl (by omega) ?_
      refine X.lald 121 i141_120 rfl rfl (by decide) rfl (by omega) ?_
      refine X.goto 127 i141_121 rfl rfl ?_
      refine X.cut [] i141_127 rfl ?_
      exact hK535 (m g0 22 ((a2 * 4) + v502)) (by first | trivial | omega) (Eq.trans (if_neg h531) rfl)
  refine X.icmpne 9 5 i141_2 rfl rfl rfl (fun h501 => ?_) (fun h501 => ?_)
  · refine X.iload_n 10 i141_9 rfl rfl rfl ?_
    exact hK505 a1 (by first | trivial | omega) (Eq.trans (if_neg h501) rfl)
  · refine X.iconst 6 i141_5 rfl rfl (by decide) ?_
    refine X.goto 10 i141_6 rfl rfl ?_
    exact hK505 3 (by first | trivial | omega) (Eq.trans (if_pos h501) rfl)
-- WorkMeter.period
noncomputable def f140_1 (a1 a2 : Int) (m : zM) : Int :=
  if a1 < (-1) then
  ((-10000000000))
  else
  (if (m 0 19 3) ≤ a1 then
  ((-10000000000))
  else
  (if a2 < 0 then
  ((-10000000000))
  else
  (if a2 ≤ 8 then
  (zn (f141_1 0 a1 a2 m) fun v508 =>
  v508)
  else
  ((-10000000000)))))
-- WorkMeter.period
theorem c140_1 {s : Nat × (Nat → Int32)} {S : zS} {m0 m : zM} {B : Int} {d : Nat} {Q : Option zV → zM → Prop} (a1 a2 : Int) (hd : 16 ≤ d) (hJ : J S m0 B m) (hB : B + 0 ≤ 1000000000) (ha1 : (-2147483648) ≤ a1 ∧ a1 ≤ 2147483647) (ha2 : (-2147483648) ≤ a2 ∧ a2 ≤ 2147483647) (hQ : ∀ (v : Int), (True) → f140_1 a1 a2 m = v → Q (some (zl v)) m) : X (EE s) d 140 0 [(0, zr 4 40), (1, zi a1), (2, zi a2)] [] m Q := by
  refine X.iload_n 1 i140_0 rfl rfl rfl ?_
  refine X.iconst 2 i140_1 rfl rfl (by decide) ?_
  refine X.icmplt 29 5 i140_2 rfl rfl rfl (fun h501 => ?_) (fun h501 => ?_)
  · refine X.cut [] i140_29 rfl ?_
    refine X.ldc2 32 i140_29 rfl rfl (by decide) ?_
    refine X.retl i140_32 rfl t140 ?_
    exact hQ (-10000000000) (by first | trivial | omega) (Eq.trans (if_pos h501) rfl) 
  · refine X.iload_n 6 i140_5 rfl rfl rfl ?_
    refine X.aload_n 7 i140_6 rfl rfl rfl ?_
    refine X.getF 10 i140_7 rfl rfl (by decide) rfl rfl ?_
    refine X.getR 13 i140_10 rfl rfl (by decide) rfl rfl ?_
    refine X.getI 16 3 i140_13 rfl rfl (by decide) rfl rfl rfl ?_
    have h502 := r19_3 hJ 0
    refine X.icmpge 29 19 i140_16 rfl rfl rfl (fun h503 => ?_) (fun h503 => ?_)
    · refine X.cut [] i140_29 rfl ?_
      refine X.ldc2 32 i140_29 rfl rfl (by decide) ?_
      refine X.retl i140_32 rfl t140 ?_
      exact hQ (-10000000000) (by first | trivial | omega) (Eq.trans (if_neg h501) (Eq.trans (if_pos h503) rfl)) 
    · refine X.iload_n 20 i140_19 rfl rfl rfl ?_
      refine X.iflt 29 23 i140_20 rfl rfl rfl (fun h504 => ?_) (fun h504 => ?_)
      · refine X.cut [] i140_29 rfl ?_
        refine X.ldc2 32 i140_29 rfl rfl (by decide) ?_
        refine X.retl i140_32 rfl t140 ?_
        exact hQ (-10000000000) (by first | trivial | omega) (Eq.trans (if_neg h501) (Eq.trans (if_neg h503) (Eq.trans (if_pos h504) rfl))) 
      · refine X.iload_n 24 i140_23 rfl rfl rfl ?_
        refine X.bipush 26 i140_24 rfl rfl (by decide) ?_
        refine X.icmple 33 29 i140_26 rfl rfl rfl (fun h505 => ?_) (fun h505 => ?_)
        · refine X.aload_n 34 i140_33 rfl rfl rfl ?_
          refine X.getF 37 i140_34 rfl rfl (by decide) rfl rfl ?_
          refine X.getR 40 i140_37 rfl rfl (by decide) rfl rfl ?_
          refine X.iload_n 41 i140_40 rfl rfl rfl ?_
          refine X.iload_n 42 i140_41 rfl rfl rfl ?_
          refine X.callv 45 [zi a1, zi a2] [] [(0, zr 0 19), (1, zi a1), (2, zi a2)] i140_42 rfl (by decide) rfl rfl (by omega) rfl rfl (by decide) rfl t141 (Nat.le_of_ble_eq_true rfl) (Nat.le_of_ble_eq_true rfl) rfl ?_
          refine c141_1 (B := B) 0 a1 a2 (by omega) (hJ.up (by omega)) (by omega) (by omega) (by omega) (fun v508 hv508 hFv508 => ?_)
          show X (EE s) d 140 45 [(0, zr 4 40), (1, zi a1), (2, zi a2)] [zl v508] m _
          refine X.retl i140_45 rfl t140 ?_
          exact hQ v508 (by first | trivial | omega) (Eq.trans (if_neg h501) (Eq.trans (if_neg h503) (Eq.trans (if_neg h504) (Eq.trans (if_pos h505) (Eq.trans (zn_eq hFv508.symm) rfl))))) 
        · refine X.cut [] i140_29 rfl ?_
          refine X.ldc2 32 i140_29 rfl rfl (by decide) ?_
          refine X.retl i140_32 rfl t140 ?_
          exact hQ (-10000000000) (by first | trivial | omega) (Eq.trans (if_neg h501) (Eq.trans (if_neg h503) (Eq.trans (if_neg h504) (Eq.trans (if_neg h505) rfl)))) 
noncomputable def fl238_5_1_b (self : Int → Int → Int) (k52 : Int → Int) (y1 : Int) (m : zM) (y2 y4 : Int) : Int :=
  if (m 4 45 1) ≤ y4 then
  (k52 y2)
  else
  (zn (f213_1 y1 y4 m) fun v540 =>
  zn ((v540 / (m 4 45 2))) fun z542 =>
  zn (f214_1 z542 m) fun v545 =>
  zn (if v545 ≤ y2 then
  (y2)
  else
  (v545)) fun v548 =>
  self v548 (y4 + 1))
noncomputable def fl238_5_1 (k52 : Int → Int) (y1 : Int) (m : zM) : Nat → Int → Int → Int
  | 0 => fun y2 y4 => 0
  | n + 1 => fl238_5_1_b (fl238_5_1 k52 y1 m n) k52 y1 m
theorem l238_5_1 {s : Nat × (Nat → Int32)} {S : zS} {m0 : zM} {m : zM} {B : Int} {d : Nat} {Q : Option zV → zM → Prop} {R0 : Int} {k52 : Int → Int} (y1 : Int) (hd : 14 ≤ d) (hJ : J S m0 B m) (hB9 : B ≤ 1000000000) (hy1 : 95 ≤ y1 ∧ y1 ≤ 95)
    (K52 : ∀ (x2 : Int) , (0 ≤ x2 ∧ x2 ≤ 3000000000) → R0 = k52 x2 → X (EE s) d 238 52 [(2, zl x2)] [] m Q) :
    ∀ (n : Nat) (y2 y4 : Int) , (0 ≤ y2 ∧ y2 ≤ 3000000000) → (0 ≤ y4 ∧ y4 ≤ 3) → 3 - y4 < (n : Int) → R0 = fl238_5_1 k52 y1 m n y2 y4 → X (EE s) d 238 5 [(0, zr 4 44), (1, zi y1), (2, zl y2), (4, zi y4)] [] m Q := by
  intro n
  induction n with
  | zero =>
    intro y2 y4 hy2 hy4 hn hR
    exfalso
    omega
  | succ n ih =>
    intro y2 y4 hy2 hy4 hn hR
    replace hR : R0 = fl238_5_1_b (fl238_5_1 k52 y1 m n) k52 y1 m y2 y4 := hR
    refine X.iload 7 i238_5 rfl rfl rfl ?_
    refine X.aload_n 8 i238_7 rfl rfl rfl ?_
    refine X.callv 11 [] [zi y4] [(0, zr 4 44)] i238_8 rfl (by decide) rfl rfl (by omega) rfl rfl (by decide) rfl t206 (Nat.le_of_ble_eq_true rfl) (Nat.le_of_ble_eq_true rfl) rfl ?_
    refine X.aload_n 1 i206_0 rfl rfl rfl ?_
    refine X.getF 4 i206_1 rfl rfl (by decide) rfl rfl ?_
    refine X.iconst 5 i206_4 rfl rfl (by decide) ?_
    refine X.lald 6 i206_5 rfl rfl (by decide) rfl (by omega) ?_
    have h536 := r45_1 hJ 4
    refine X.l2i 7 i206_6 rfl rfl (by omega) ?_
    refine X.reti i206_7 rfl t206 ?_
    show X (EE s) d 238 11 [(0, zr 4 44), (1, zi y1), (2, zl y2), (4, zi y4)] [zi (m 4 45 1), zi y4] m _
    refine X.icmpge 52 14 i238_11 rfl rfl rfl (fun h537 => ?_) (fun h537 => ?_)
    · refine X.cut [(2, zl y2)] i238_52 rfl ?_
      exact K52 y2 (by first | trivial | omega) (Eq.trans hR (Eq.trans (if_pos h537) rfl))
    · refine X.aload_n 15 i238_14 rfl rfl rfl ?_
      refine X.iload_n 16 i238_15 rfl rfl rfl ?_
      refine X.iload 18 i238_16 rfl rfl rfl ?_
      refine X.callv 21 [zi y1, zi y4] [] [(0, zr 4 44), (1, zi y1), (2, zi y4)] i238_18 rfl (by decide) rfl rfl (by omega) rfl rfl (by decide) rfl t213 (Nat.le_of_ble_eq_true rfl) (Nat.le_of_ble_eq_true rfl) rfl ?_
      refine c213_1 (B := B)  y1 y4 (by omega) (hJ.up (by omega)) (by omega) (by omega) (by omega) (fun v540 hv540 hFv540 => ?_)
      show X (EE s) d 238 21 [(0, zr 4 44), (1, zi y1), (2, zl y2), (4, zi y4)] [zl v540] m _
      refine X.aload_n 22 i238_21 rfl rfl rfl ?_
      refine X.callv 25 [] [zl v540] [(0, zr 4 44)] i238_22 rfl (by decide) rfl rfl (by omega) rfl rfl (by decide) rfl t211 (Nat.le_of_ble_eq_true rfl) (Nat.le_of_ble_eq_true rfl) rfl ?_
      refine X.aload_n 1 i211_0 rfl rfl rfl ?_
      refine X.getF 4 i211_1 rfl rfl (by decide) rfl rfl ?_
      refine X.iconst 5 i211_4 rfl rfl (by decide) ?_
      refine X.lald 6 i211_5 rfl rfl (by decide) rfl (by omega) ?_
      have h541 := r45_2 hJ 4
      refine X.l2i 7 i211_6 rfl rfl (by omega) ?_
      refine X.reti i211_7 rfl t211 ?_
      show X (EE s) d 238 25 [(0, zr 4 44), (1, zi y1), (2, zl y2), (4, zi y4)] [zi (m 4 45 2), zl v540] m _
      refine X.i2l 26 i238_25 rfl rfl ?_
      refine X.ldivp 27 i238_26 rfl rfl (by omega) ?_
      have hz542 := z_divb (x := v540) (y := (m 4 45 2)) (by omega) (by omega)
      obtain ⟨z542, ez542⟩ : ∃ z, z = (v540 / (m 4 45 2)) := ⟨_, rfl⟩
      rw [← ez542] at hz542 ⊢
      refine X.calls 30 [zl z542] [] [(0, zl z542)] i238_27 (by decide) rfl rfl (by omega) rfl rfl t214 (Nat.le_of_ble_eq_true rfl) (Nat.le_of_ble_eq_true rfl) rfl ?_
      refine c214_1 (B := B)  z542 (by omega) (hJ.up (by omega)) (by omega) (by omega) (fun v545 hv545 hFv545 => ?_)
      show X (EE s) d 238 30 [(0, zr 4 44), (1, zi y1), (2, zl y2), (4, zi y4)] [zl v545] m _
      refine X.lstore 32 [(0, zr 4 44), (1, zi y1), (2, zl y2), (4, zi y4), (5, zl v545)] i238_30 rfl rfl rfl ?_
      refine X.lload 34 i238_32 rfl rfl rfl ?_
      refine X.lload_n 35 i238_34 rfl rfl rfl ?_
      refine X.lcmp 36 i238_35 rfl rfl (fun z546 hz546 => ?_)
      have hK551 : ∀ (v : Int) , (0 ≤ v ∧ v ≤ 3000000000) → (if v545 ≤ y2 then
          (y2)
          else
          (v545)) = v → X (EE s) d 238 45 [(0, zr 4 44), (1, zi y1), (4, zi y4)] [zl v] m Q := by
        intro v548 hv548 hT552
        refine X.lstore_n 46 [(0, zr 4 44), (1, zi y1), (2, zl v548), (4, zi y4)] i238_45 rfl rfl rfl ?_
        refine X.iinc 49 [(0, zr 4 44), (1, zi y1), (2, zl v548), (4, zi (y4 + 1))] i238_46 rfl rfl rfl (by omega) rfl ?_
        refine X.goto 5 i238_49 rfl rfl ?_
        exact ih v548 (y4 + 1) (by omega) (by omega) (by omega) (Eq.trans hR (Eq.trans (if_neg h537) (Eq.trans (zn_eq hFv540.symm) (Eq.trans (zn_eq ez542) (Eq.trans (zn_eq hFv545.symm) (Eq.trans (zn_eq hT552.symm) rfl))))))
      refine X.ifle 44 39 i238_36 rfl rfl rfl (fun h547 => ?_) (fun h547 => ?_)
      · have h547c : v545 ≤ y2 := by omega
        clear h547 hz546
        refine X.cut [(0, zr 4 44), (1, zi y1), (2, zl y2), (4, zi y4)] i238_44 rfl ?_
        refine X.lload_n 45 i238_44 rfl rfl rfl ?_
        refine X.cut [(0, zr 4 44), (1, zi y1), (4, zi y4)] i238_45 rfl ?_
        exact hK551 y2 (by first | trivial | omega) (Eq.trans (if_pos h547c) rfl)
      · have h547c : ¬ v545 ≤ y2 := by omega
        clear h547 hz546
        refine X.lload 41 i238_39 rfl rfl rfl ?_
        refine X.goto 45 i238_41 rfl rfl ?_
        refine X.cut [(0, zr 4 44), (1, zi y1), (4, zi y4)] i238_45 rfl ?_
        exact hK551 v545 (by first | trivial | omega) (Eq.trans (if_neg h547c) rfl)
-- WorkMeterModel.greatestRoot
noncomputable def f238_1 (a1 : Int) (m : zM) : Int :=
  fl238_5_1 (fun y501 =>
  y501) a1 m (zfu 4) 0 0
-- WorkMeterModel.greatestRoot
theorem c238_1 {s : Nat × (Nat → Int32)} {S : zS} {m0 m : zM} {B : Int} {d : Nat} {Q : Option zV → zM → Prop} (a1 : Int) (hd : 14 ≤ d) (hJ : J S m0 B m) (hB : B + 0 ≤ 1000000000) (ha1 : 95 ≤ a1 ∧ a1 ≤ 95) (hQ : ∀ (v : Int), (0 ≤ v ∧ v ≤ 3000000000) → f238_1 a1 m = v → Q (some (zl v)) m) : X (EE s) d 238 0 [(0, zr 4 44), (1, zi a1)] [] m Q := by
  refine X.lconst (y := 0) 1 i238_0 rfl rfl rfl ?_
  refine X.lstore_n 2 [(0, zr 4 44), (1, zi a1), (2, zl 0)] i238_1 rfl rfl rfl ?_
  refine X.iconst 3 i238_2 rfl rfl (by decide) ?_
  refine X.istore 5 [(0, zr 4 44), (1, zi a1), (2, zl 0), (4, zi 0)] i238_3 rfl rfl rfl ?_
  have hz4 := zfu_eq 4
  refine l238_5_1 (s := s) (m := m) (B := B) (d := d) (R0 := (f238_1 a1 m))  a1  (by omega) (hJ.up (by omega)) (by omega) (by omega) (fun y501 hby501 hR505 => ?_) (zfu 4) 0 0 (by omega) (by omega) (by omega) rfl
  refine X.lload_n 53 i238_52 rfl rfl rfl ?_
  refine X.retl i238_53 rfl t238 ?_
  exact hQ y501 (by first | trivial | omega) (Eq.trans hR505 rfl) 
theorem l238_5_2 {s : Nat × (Nat → Int32)} {S : zS} {m0 : zM} {m : zM} {B : Int} {d : Nat} {Q : Option zV → zM → Prop} {R0 : Int} {k52 : Int → Int} (y1 : Int) (hd : 14 ≤ d) (hJ : J S m0 B m) (hB9 : B ≤ 1000000000) (hy1 : 143 ≤ y1 ∧ y1 ≤ 143)
    (K52 : ∀ (x2 : Int) , (0 ≤ x2 ∧ x2 ≤ 3000000000) → R0 = k52 x2 → X (EE s) d 238 52 [(2, zl x2)] [] m Q) :
    ∀ (n : Nat) (y2 y4 : Int) , (0 ≤ y2 ∧ y2 ≤ 3000000000) → (0 ≤ y4 ∧ y4 ≤ 3) → 3 - y4 < (n : Int) → R0 = fl238_5_1 k52 y1 m n y2 y4 → X (EE s) d 238 5 [(0, zr 4 44), (1, zi y1), (2, zl y2), (4, zi y4)] [] m Q := by
  intro n
  induction n with
  | zero =>
    intro y2 y4 hy2 hy4 hn hR
    exfalso
    omega
  | succ n ih =>
    intro y2 y4 hy2 hy4 hn hR
    replace hR : R0 = fl238_5_1_b (fl238_5_1 k52 y1 m n) k52 y1 m y2 y4 := hR
    refine X.iload 7 i238_5 rfl rfl rfl ?_
    refine X.aload_n 8 i238_7 rfl rfl rfl ?_
    refine X.callv 11 [] [zi y4] [(0, zr 4 44)] i238_8 rfl (by decide) rfl rfl (by omega) rfl rfl (by decide) rfl t206 (Nat.le_of_ble_eq_true rfl) (Nat.le_of_ble_eq_true rfl) rfl ?_
    refine X.aload_n 1 i206_0 rfl rfl rfl ?_
    refine X.getF 4 i206_1 rfl rfl (by decide) rfl rfl ?_
    refine X.iconst 5 i206_4 rfl rfl (by decide) ?_
    refine X.lald 6 i206_5 rfl rfl (by decide) rfl (by omega) ?_
    have h536 := r45_1 hJ 4
    refine X.l2i 7 i206_6 rfl rfl (by omega) ?_
    refine X.reti i206_7 rfl t206 ?_
    show X (EE s) d 238 11 [(0, zr 4 44), (1, zi y1), (2, zl y2), (4, zi y4)] [zi (m 4 45 1), zi y4] m _
    refine X.icmpge 52 14 i238_11 rfl rfl rfl (fun h537 => ?_) (fun h537 => ?_)
    · refine X.cut [(2, zl y2)] i238_52 rfl ?_
      exact K52 y2 (by first | trivial | omega) (Eq.trans hR (Eq.trans (if_pos h537) rfl))
    · refine X.aload_n 15 i238_14 rfl rfl rfl ?_
      refine X.iload_n 16 i238_15 rfl rfl rfl ?_
      refine X.iload 18 i238_16 rfl rfl rfl ?_
      refine X.callv 21 [zi y1, zi y4] [] [(0, zr 4 44), (1, zi y1), (2, zi y4)] i238_18 rfl (by decide) rfl rfl (by omega) rfl rfl (by decide) rfl t213 (Nat.le_of_ble_eq_true rfl) (Nat.le_of_ble_eq_true rfl) rfl ?_
      refine c213_1 (B := B)  y1 y4 (by omega) (hJ.up (by omega)) (by omega) (by omega) (by omega) (fun v540 hv540 hFv540 => ?_)
      show X (EE s) d 238 21 [(0, zr 4 44), (1, zi y1), (2, zl y2), (4, zi y4)] [zl v540] m _
      refine X.aload_n 22 i238_21 rfl rfl rfl ?_
      refine X.callv 25 [] [zl v540] [(0, zr 4 44)] i238_22 rfl (by decide) rfl rfl (by omega) rfl rfl (by decide) rfl t211 (Nat.le_of_ble_eq_true rfl) (Nat.le_of_ble_eq_true rfl) rfl ?_
      refine X.aload_n 1 i211_0 rfl rfl rfl ?_
      refine X.getF 4 i211_1 rfl rfl (by decide) rfl rfl ?_
      refine X.iconst 5 i211_4 rfl rfl (by decide) ?_
      refine X.lald 6 i211_5 rfl rfl (by decide) rfl (by omega) ?_
      have h541 := r45_2 hJ 4
      refine X.l2i 7 i211_6 rfl rfl (by omega) ?_
      refine X.reti i211_7 rfl t211 ?_
      show X (EE s) d 238 25 [(0, zr 4 44), (1, zi y1), (2, zl y2), (4, zi y4)] [zi (m 4 45 2), zl v540] m _
      refine X.i2l 26 i238_25 rfl rfl ?_
      refine X.ldivp 27 i238_26 rfl rfl (by omega) ?_
      have hz542 := z_divb (x := v540) (y := (m 4 45 2)) (by omega) (by omega)
      obtain ⟨z542, ez542⟩ : ∃ z, z = (v540 / (m 4 45 2)) := ⟨_, rfl⟩
      rw [← ez542] at hz542 ⊢
      refine X.calls 30 [zl z542] [] [(0, zl z542)] i238_27 (by decide) rfl rfl (by omega) rfl rfl t214 (Nat.le_of_ble_eq_true rfl) (Nat.le_of_ble_eq_true rfl) rfl ?_
      refine c214_1 (B := B)  z542 (by omega) (hJ.up (by omega)) (by omega) (by omega) (fun v545 hv545 hFv545 => ?_)
      show X (EE s) d 238 30 [(0, zr 4 44), (1, zi y1), (2, zl y2), (4, zi y4)] [zl v545] m _
      refine X.lstore 32 [(0, zr 4 44), (1, zi y1), (2, zl y2), (4, zi y4), (5, zl v545)] i238_30 rfl rfl rfl ?_
      refine X.lload 34 i238_32 rfl rfl rfl ?_
      refine X.lload_n 35 i238_34 rfl rfl rfl ?_
      refine X.lcmp 36 i238_35 rfl rfl (fun z546 hz546 => ?_)
      have hK551 : ∀ (v : Int) , (0 ≤ v ∧ v ≤ 3000000000) → (if v545 ≤ y2 then
          (y2)
          else
          (v545)) = v → X (EE s) d 238 45 [(0, zr 4 44), (1, zi y1), (4, zi y4)] [zl v] m Q := by
        intro v548 hv548 hT552
        refine X.lstore_n 46 [(0, zr 4 44), (1, zi y1), (2, zl v548), (4, zi y4)] i238_45 rfl rfl rfl ?_
        refine X.iinc 49 [(0, zr 4 44), (1, zi y1), (2, zl v548), (4, zi (y4 + 1))] i238_46 rfl rfl rfl (by omega) rfl ?_
        refine X.goto 5 i238_49 rfl rfl ?_
        exact ih v548 (y4 + 1) (by omega) (by omega) (by omega) (Eq.trans hR (Eq.trans (if_neg h537) (Eq.trans (zn_eq hFv540.symm) (Eq.trans (zn_eq ez542) (Eq.trans (zn_eq hFv545.symm) (Eq.trans (zn_eq hT552.symm) rfl))))))
      refine X.ifle 44 39 i238_36 rfl rfl rfl (fun h547 => ?_) (fun h547 => ?_)
      · have h547c : v545 ≤ y2 := by omega
        clear h547 hz546
        refine X.cut [(0, zr 4 44), (1, zi y1), (2, zl y2), (4, zi y4)] i238_44 rfl ?_
        refine X.lload_n 45 i238_44 rfl rfl rfl ?_
        refine X.cut [(0, zr 4 44), (1, zi y1), (4, zi y4)] i238_45 rfl ?_
        exact hK551 y2 (by first | trivial | omega) (Eq.trans (if_pos h547c) rfl)
      · have h547c : ¬ v545 ≤ y2 := by omega
        clear h547 hz546
        refine X.lload 41 i238_39 rfl rfl rfl ?_
        refine X.goto 45 i238_41 rfl rfl ?_
        refine X.cut [(0, zr 4 44), (1, zi y1), (4, zi y4)] i238_45 rfl ?_
        exact hK551 v545 (by first | trivial | omega) (Eq.trans (if_neg h547c) rfl)
-- WorkMeterModel.greatestRoot
theorem c238_2 {s : Nat × (Nat → Int32)} {S : zS} {m0 m : zM} {B : Int} {d : Nat} {Q : Option zV → zM → Prop} (a1 : Int) (hd : 14 ≤ d) (hJ : J S m0 B m) (hB : B + 0 ≤ 1000000000) (ha1 : 143 ≤ a1 ∧ a1 ≤ 143) (hQ : ∀ (v : Int), (0 ≤ v ∧ v ≤ 3000000000) → f238_1 a1 m = v → Q (some (zl v)) m) : X (EE s) d 238 0 [(0, zr 4 44), (1, zi a1)] [] m Q := by
  refine X.lconst (y := 0) 1 i238_0 rfl rfl rfl ?_
  refine X.lstore_n 2 [(0, zr 4 44), (1, zi a1), (2, zl 0)] i238_1 rfl rfl rfl ?_
  refine X.iconst 3 i238_2 rfl rfl (by decide) ?_
  refine X.istore 5 [(0, zr 4 44), (1, zi a1), (2, zl 0), (4, zi 0)] i238_3 rfl rfl rfl ?_
  have hz4 := zfu_eq 4
  refine l238_5_2 (s := s) (m := m) (B := B) (d := d) (R0 := (f238_1 a1 m))  a1  (by omega) (hJ.up (by omega)) (by omega) (by omega) (fun y501 hby501 hR505 => ?_) (zfu 4) 0 0 (by omega) (by omega) (by omega) rfl
  refine X.lload_n 53 i238_52 rfl rfl rfl ?_
  refine X.retl i238_53 rfl t238 ?_
  exact hQ y501 (by first | trivial | omega) (Eq.trans hR505 rfl) 
-- WorkMeterModel.thousandths
noncomputable def f239_1 (a0 a1 : Int) (m : zM) : Int :=
  zn (if a1 = 0 then
  (0)
  else
  (if a0 < 0 then
  (zn (((1000 * (-a0)) / a1)) fun z506 =>
  (-z506))
  else
  (zn (((1000 * a0) / a1)) fun z505 =>
  z505))) fun v507 =>
  v507
-- WorkMeterModel.thousandths
theorem c239_1 {s : Nat × (Nat → Int32)} {S : zS} {m0 m : zM} {B : Int} {d : Nat} {Q : Option zV → zM → Prop} (a0 a1 : Int) (hd : 13 ≤ d) (hJ : J S m0 B m) (hB : B + 0 ≤ 1000000000) (ha0 : (-12000000) ≤ a0 ∧ a0 ≤ 12000000) (ha1 : 0 ≤ a1 ∧ a1 ≤ 3000000000) (hQ : ∀ (v : Int), ((-12000000000) ≤ v ∧ v ≤ 12000000000) → f239_1 a0 a1 m = v → Q (some (zl v)) m) : X (EE s) d 239 0 [(0, zl a0), (2, zl a1)] [] m Q := by
  refine X.lload_n 1 i239_0 rfl rfl rfl ?_
  refine X.lconst (y := 0) 2 i239_1 rfl rfl rfl ?_
  refine X.lcmp 3 i239_2 rfl rfl (fun z501 hz501 => ?_)
  have hK510 : ∀ (v : Int) , ((-12000000000) ≤ v ∧ v ≤ 12000000000) → (if a1 = 0 then
      (0)
      else
      (if a0 < 0 then
      (zn (((1000 * (-a0)) / a1)) fun z506 =>
      (-z506))
      else
      (zn (((1000 * a0) / a1)) fun z505 =>
      z505))) = v → X (EE s) d 239 35 [] [zl v] m Q := by
    intro v507 hv507 hT511
    refine X.retl i239_35 rfl t239 ?_
    exact hQ v507 (by first | trivial | omega) (Eq.trans (zn_eq hT511.symm) rfl) 
  refine X.ifne 10 6 i239_3 rfl rfl rfl (fun h502 => ?_) (fun h502 => ?_)
  · have h502c : ¬ a1 = 0 := by omega
    clear h502 hz501
    refine X.lload_n 11 i239_10 rfl rfl rfl ?_
    refine X.lconst (y := 0) 12 i239_11 rfl rfl rfl ?_
    refine X.lcmp 13 i239_12 rfl rfl (fun z503 hz503 => ?_)
    refine X.ifge 28 16 i239_13 rfl rfl rfl (fun h504 => ?_) (fun h504 => ?_)
    · have h504c : ¬ a0 < 0 := by omega
      clear h504 hz503
      refine X.ldc2 31 i239_28 rfl rfl (by decide) ?_
      refine X.lload_n 32 i239_31 rfl rfl rfl ?_
      refine X.lmul 33 i239_32 rfl rfl (by omega) ?_
      refine X.lload_n 34 i239_33 rfl rfl rfl ?_
      refine X.ldivp 35 i239_34 rfl rfl (by omega) ?_
      have hz505 := z_divb (x := (1000 * a0)) (y := a1) (by omega) (by omega)
      obtain ⟨z505, ez505⟩ : ∃ z, z = ((1000 * a0) / a1) := ⟨_, rfl⟩
      rw [← ez505] at hz505 ⊢
      refine X.cut [] i239_35 rfl ?_
      exact hK510 z505 (by first | trivial | omega) (Eq.trans (if_neg h502c) (Eq.trans (if_neg h504c) (Eq.trans (zn_eq ez505) rfl)))
    · have h504c : a0 < 0 := by omega
      clear h504 hz503
      refine X.ldc2 19 i239_16 rfl rfl (by decide) ?_
      refine X.lload_n 20 i239_19 rfl rfl rfl ?_
      refine X.lneg 21 i239_20 rfl rfl (by omega) ?_
      refine X.lmul 22 i239_21 rfl rfl (by omega) ?_
      refine X.lload_n 23 i239_22 rfl rfl rfl ?_
      refine X.ldivp 24 i239_23 rfl rfl (by omega) ?_
      have hz506 := z_divb (x := (1000 * (-a0))) (y := a1) (by omega) (by omega)
      obtain ⟨z506, ez506⟩ : ∃ z, z = ((1000 * (-a0)) / a1) := ⟨_, rfl⟩
      rw [← ez506] at hz506 ⊢
      refine X.lneg 25 i239_24 rfl rfl (by omega) ?_
      refine X.goto 35 i239_25 rfl rfl ?_
      refine X.cut [] i239_35 rfl ?_
      exact hK510 (-z506) (by first | trivial | omega) (Eq.trans (if_neg h502c) (Eq.trans (if_pos h504c) (Eq.trans (zn_eq ez506) rfl)))
  · have h502c : a1 = 0 := by omega
    clear h502 hz501
    refine X.lconst (y := 0) 7 i239_6 rfl rfl rfl ?_
    refine X.goto 35 i239_7 rfl rfl ?_
    refine X.cut [] i239_35 rfl ?_
    exact hK510 0 (by first | trivial | omega) (Eq.trans (if_pos h502c) rfl)
end
