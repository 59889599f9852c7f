-- WorkMeterModel.special
noncomputable def f248_1 (a1 a2 : Int) (m : zM) : Int × zM :=
  zb (f203_1 m) fun v503 m501 =>
  if v503 = 0 then
  (if a1 < 0 then
  ((0, m501))
  else
  (if a1 ≤ 364 then
  (if a2 = (-1) then
  (zn (if (m501 4 45 (423 + a1)) = (-1) then
  (0)
  else
  (1)) fun v516 =>
  if v516 = 0 then
  ((0, m501))
  else
  (zs (z_upd m501 4 45 (423 + a1) a2) fun m523 =>
  (1, m523)))
  else
  (if a2 < 0 then
  ((0, m501))
  else
  (if a2 ≤ 7 then
  (zn (if (m501 4 45 (423 + a1)) = (-1) then
  (0)
  else
  (1)) fun v535 =>
  if v535 = 0 then
  (zn (f249_1 m501) fun v546 =>
  if v546 = 16 then
  ((0, m501))
  else
  (zs (z_upd m501 4 45 (423 + a1) a2) fun m548 =>
  (1, m548)))
  else
  (zs (z_upd m501 4 45 (423 + a1) a2) fun m542 =>
  (1, m542)))
  else
  ((0, m501)))))
  else
  ((0, m501))))
  else
  ((0, m501))
-- WorkMeterModel.special
theorem c248_1 {s : Nat × (Nat → Int32)} {S : zS} {m0 m : zM} {B : Int} {d : Nat} {Q : Option zV → zM → Prop} (a1 a2 : Int) (hd : 14 ≤ d) (hJ : J S m0 B m) (hB : B + 0 ≤ 1000000000) (ha1 : (-2147483648) ≤ a1 ∧ a1 ≤ 2147483647) (ha2 : (-2147483648) ≤ a2 ∧ a2 ≤ 2147483647) (hf21 : ¬ S.1 21) (hf24 : ¬ S.1 24) (hg4 : ¬ S.2.1 4) (hQ : ∀ (v : Int) m', (0 ≤ v ∧ v ≤ 1) → f248_1 a1 a2 m = (v, m') → J S m0 (B) m' → Q (some (zi v)) m') : X (EE s) d 248 0 [(0, zr 4 44), (1, zi a1), (2, zi a2)] [] m Q := by
  refine X.aload_n 1 i248_0 rfl rfl rfl ?_
  refine X.callv 4 [] [] [(0, zr 4 44)] i248_1 rfl (by decide) rfl rfl (by omega) rfl rfl (by decide) rfl t203 (Nat.le_of_ble_eq_true rfl) (Nat.le_of_ble_eq_true rfl) rfl ?_
  refine c203_1 (B := B)   (by omega) (hJ.up (by omega)) (by omega)  hf24 hg4 (fun v503 m501 hv503 hFv503 hJ502 => ?_)
  show X (EE s) d 248 4 [(0, zr 4 44), (1, zi a1), (2, zi a2)] [zi v503] m501 _
  refine X.ifne 31 7 i248_4 rfl rfl rfl (fun h504 => ?_) (fun h504 => ?_)
  · refine X.cut [] i248_31 rfl ?_
    refine X.iconst 32 i248_31 rfl rfl (by decide) ?_
    refine X.retz i248_32 rfl t248 (by omega) ?_
    exact hQ 0 m501 (by first | trivial | omega) (Eq.trans (zb_eq hFv503) (Eq.trans (if_neg h504) rfl)) (hJ502.up (by omega)) 
  · refine X.iload_n 8 i248_7 rfl rfl rfl ?_
    refine X.i2l 9 i248_8 rfl rfl ?_
    refine X.lconst (y := 0) 10 i248_9 rfl rfl rfl ?_
    refine X.ldc2 13 i248_10 rfl rfl (by decide) ?_
    refine X.calls 16 [zl a1, zl 0, zl 364] [] [(0, zl a1), (2, zl 0), (4, zl 364)] i248_13 (by decide) rfl rfl (by omega) rfl rfl t204 (Nat.le_of_ble_eq_true rfl) (Nat.le_of_ble_eq_true rfl) rfl ?_
    refine X.lload_n 1 i204_0 rfl rfl rfl ?_
    refine X.lload_n 2 i204_1 rfl rfl rfl ?_
    refine X.lcmp 3 i204_2 rfl rfl (fun z505 hz505 => ?_)
    refine X.iflt 17 6 i204_3 rfl rfl rfl (fun h506 => ?_) (fun h506 => ?_)
    · have h506c : a1 < 0 := by omega
      clear h506 hz505
      refine X.cut [] i204_17 rfl ?_
      refine X.iconst 18 i204_17 rfl rfl (by decide) ?_
      refine X.retz i204_18 rfl t204 (by omega) ?_
      show X (EE s) d 248 16 [(0, zr 4 44), (1, zi a1), (2, zi a2)] [zi 0] m501 _
      refine X.ifeq 31 19 i248_16 rfl rfl rfl (fun h507 => ?_) (fun h507 => (by exfalso; omega))
      refine X.cut [] i248_31 rfl ?_
      refine X.iconst 32 i248_31 rfl rfl (by decide) ?_
      refine X.retz i248_32 rfl t248 (by omega) ?_
      exact hQ 0 m501 (by first | trivial | omega) (Eq.trans (zb_eq hFv503) (Eq.trans (if_pos h504) (Eq.trans (if_pos h506c) rfl))) (hJ502.up (by omega)) 
    · have h506c : ¬ a1 < 0 := by omega
      clear h506 hz505
      refine X.lload_n 7 i204_6 rfl rfl rfl ?_
      refine X.lload 9 i204_7 rfl rfl rfl ?_
      refine X.lcmp 10 i204_9 rfl rfl (fun z508 hz508 => ?_)
      refine X.ifgt 17 13 i204_10 rfl rfl rfl (fun h509 => ?_) (fun h509 => ?_)
      · have h509c : ¬ a1 ≤ 364 := by omega
        clear h509 hz508
        refine X.cut [] i204_17 rfl ?_
        refine X.iconst 18 i204_17 rfl rfl (by decide) ?_
        refine X.retz i204_18 rfl t204 (by omega) ?_
        show X (EE s) d 248 16 [(0, zr 4 44), (1, zi a1), (2, zi a2)] [zi 0] m501 _
        refine X.ifeq 31 19 i248_16 rfl rfl rfl (fun h510 => ?_) (fun h510 => (by exfalso; omega))
        refine X.cut [] i248_31 rfl ?_
        refine X.iconst 32 i248_31 rfl rfl (by decide) ?_
        refine X.retz i248_32 rfl t248 (by omega) ?_
        exact hQ 0 m501 (by first | trivial | omega) (Eq.trans (zb_eq hFv503) (Eq.trans (if_pos h504) (Eq.trans (if_neg h506c) (Eq.trans (if_neg h509c) rfl)))) (hJ502.up (by omega)) 
      · have h509c : a1 ≤ 364 := by omega
        clear h509 hz508
        refine X.iconst 14 i204_13 rfl rfl (by decide) ?_
        refine X.goto 18 i204_14 rfl rfl ?_
        refine X.cut [] i204_18 rfl ?_
        refine X.retz i204_18 rfl t204 (by omega) ?_
        show X (EE s) d 248 16 [(0, zr 4 44), (1, zi a1), (2, zi a2)] [zi 1] m501 _
        refine X.ifeq 31 19 i248_16 rfl rfl rfl (fun h511 => (by exfalso; omega)) (fun h511 => ?_)
        refine X.iload_n 20 i248_19 rfl rfl rfl ?_
        refine X.iconst 21 i248_20 rfl rfl (by decide) ?_
        refine X.icmpeq 33 24 i248_21 rfl rfl rfl (fun h512 => ?_) (fun h512 => ?_)
        · refine X.aload_n 34 i248_33 rfl rfl rfl ?_
          refine X.getF 37 i248_34 rfl rfl (by decide) rfl rfl ?_
          refine X.sipush 40 i248_37 rfl rfl (by decide) ?_
          refine X.iload_n 41 i248_40 rfl rfl rfl ?_
          refine X.iadd 42 i248_41 rfl rfl (by omega) ?_
          refine X.lald 43 i248_42 rfl rfl (by decide) rfl (by omega) ?_
          have h513 := r45_423 hJ502 4 (i := (423 + a1)) (by omega)
          refine X.ldc2 46 i248_43 rfl rfl (by decide) ?_
          refine X.lcmp 47 i248_46 rfl rfl (fun z514 hz514 => ?_)
          have hK519 : ∀ (v : Int) , (0 ≤ v ∧ v ≤ 1) → (if (m501 4 45 (423 + a1)) = (-1) then
              (0)
              else
              (1)) = v → X (EE s) d 248 55 [(0, zr 4 44), (1, zi a1), (2, zi a2)] [zi v] m501 Q := by
            intro v516 hv516 hT520
            refine X.istore_n 56 [(0, zr 4 44), (1, zi a1), (2, zi a2), (3, zi v516)] i248_55 rfl rfl rfl ?_
            refine X.iload_n 57 i248_56 rfl rfl rfl ?_
            refine X.iconst 58 i248_57 rfl rfl (by decide) ?_
            refine X.icmpne 68 61 i248_58 rfl rfl rfl (fun h521 => (by exfalso; omega)) (fun h521 => ?_)
            refine X.iload_n 62 i248_61 rfl rfl rfl ?_
            refine X.ifne 83 65 i248_62 rfl rfl rfl (fun h522 => ?_) (fun h522 => ?_)
            · refine X.cut [(0, zr 4 44), (1, zi a1), (2, zi a2)] i248_83 rfl ?_
              refine X.aload_n 84 i248_83 rfl rfl rfl ?_
              refine X.getF 87 i248_84 rfl rfl (by decide) rfl rfl ?_
              refine X.sipush 90 i248_87 rfl rfl (by decide) ?_
              refine X.iload_n 91 i248_90 rfl rfl rfl ?_
              refine X.iadd 92 i248_91 rfl rfl (by omega) ?_
              refine X.iload_n 93 i248_92 rfl rfl rfl ?_
              refine X.i2l 94 i248_93 rfl rfl ?_
              refine X.last' 95 i248_94 rfl rfl (by decide) rfl (by omega) (fun hrm523 m523 hm523 => ?_)
              have hJ524 := w45_423 hJ502 hm523 (by omega) (by omega) hf21 hg4
              refine X.iconst 96 i248_95 rfl rfl (by decide) ?_
              refine X.retz i248_96 rfl t248 (by omega) ?_
              exact hQ 1 m523 (by first | trivial | omega) (Eq.trans (zb_eq hFv503) (Eq.trans (if_pos h504) (Eq.trans (if_neg h506c) (Eq.trans (if_pos h509c) (Eq.trans (if_pos h512) (Eq.trans (zn_eq hT520.symm) (Eq.trans (if_neg h522) (Eq.trans (zs_eq hm523) rfl)))))))) (hJ524.up (by omega)) 
            · refine X.goto 81 i248_65 rfl rfl ?_
              refine X.cut [] i248_81 rfl ?_
              refine X.iconst 82 i248_81 rfl rfl (by decide) ?_
              refine X.retz i248_82 rfl t248 (by omega) ?_
              exact hQ 0 m501 (by first | trivial | omega) (Eq.trans (zb_eq hFv503) (Eq.trans (if_pos h504) (Eq.trans (if_neg h506c) (Eq.trans (if_pos h509c) (Eq.trans (if_pos h512) (Eq.trans (zn_eq hT520.symm) (Eq.trans (if_pos h522) rfl))))))) (hJ502.up (by omega)) 
          refine X.ifeq 54 50 i248_47 rfl rfl rfl (fun h515 => ?_) (fun h515 => ?_)
          · have h515c : (m501 4 45 (423 + a1)) = (-1) := by omega
            clear h515 hz514
            refine X.iconst 55 i248_54 rfl rfl (by decide) ?_
            exact hK519 0 (by first | trivial | omega) (Eq.trans (if_pos h515c) rfl)
          · have h515c : ¬ (m501 4 45 (423 + a1)) = (-1) := by omega
            clear h515 hz514
            refine X.iconst 51 i248_50 rfl rfl (by decide) ?_
            refine X.goto 55 i248_51 rfl rfl ?_
            exact hK519 1 (by first | trivial | omega) (Eq.trans (if_neg h515c) rfl)
        · refine X.iload_n 25 i248_24 rfl rfl rfl ?_
          refine X.calls 28 [zi a2] [] [(0, zi a2)] i248_25 (by decide) rfl rfl (by omega) rfl rfl t241 (Nat.le_of_ble_eq_true rfl) (Nat.le_of_ble_eq_true rfl) rfl ?_
          refine X.iload_n 1 i241_0 rfl rfl rfl ?_
          refine X.i2l 2 i241_1 rfl rfl ?_
          refine X.lconst (y := 0) 3 i241_2 rfl rfl rfl ?_
          refine X.ldc2 6 i241_3 rfl rfl (by decide) ?_
          refine X.calls 9 [zl a2, zl 0, zl 7] [] [(0, zl a2), (2, zl 0), (4, zl 7)] i241_6 (by decide) rfl rfl (by omega) rfl rfl t204 (Nat.le_of_ble_eq_true rfl) (Nat.le_of_ble_eq_true rfl) rfl ?_
          refine X.lload_n 1 i204_0 rfl rfl rfl ?_
          refine X.lload_n 2 i204_1 rfl rfl rfl ?_
          refine X.lcmp 3 i204_2 rfl rfl (fun z525 hz525 => ?_)
          refine X.iflt 17 6 i204_3 rfl rfl rfl (fun h526 => ?_) (fun h526 => ?_)
          · have h526c : a2 < 0 := by omega
            clear h526 hz525
            refine X.cut [] i204_17 rfl ?_
            refine X.iconst 18 i204_17 rfl rfl (by decide) ?_
            refine X.retz i204_18 rfl t204 (by omega) ?_
            show X (EE s) (d - 1) 241 9 [(0, zi a2)] [zi 0] m501 _
            refine X.retz i241_9 rfl t241 (by omega) ?_
            show X (EE s) d 248 28 [(0, zr 4 44), (1, zi a1), (2, zi a2)] [zi 0] m501 _
            refine X.ifne 33 31 i248_28 rfl rfl rfl (fun h527 => (by exfalso; omega)) (fun h527 => ?_)
            refine X.cut [] i248_31 rfl ?_
            refine X.iconst 32 i248_31 rfl rfl (by decide) ?_
            refine X.retz i248_32 rfl t248 (by omega) ?_
            exact hQ 0 m501 (by first | trivial | omega) (Eq.trans (zb_eq hFv503) (Eq.trans (if_pos h504) (Eq.trans (if_neg h506c) (Eq.trans (if_pos h509c) (Eq.trans (if_neg h512) (Eq.trans (if_pos h526c) rfl)))))) (hJ502.up (by omega)) 
          · have h526c : ¬ a2 < 0 := by omega
            clear h526 hz525
            refine X.lload_n 7 i204_6 rfl rfl rfl ?_
            refine X.lload 9 i204_7 rfl rfl rfl ?_
            refine X.lcmp 10 i204_9 rfl rfl (fun z528 hz528 => ?_)
            refine X.ifgt 17 13 i204_10 rfl rfl rfl (fun h529 => ?_) (fun h529 => ?_)
            · have h529c : ¬ a2 ≤ 7 := by omega
              clear h529 hz528
              refine X.cut [] i204_17 rfl ?_
              refine X.iconst 18 i204_17 rfl rfl (by decide) ?_
              refine X.retz i204_18 rfl t204 (by omega) ?_
              show X (EE s) (d - 1) 241 9 [(0, zi a2)] [zi 0] m501 _
              refine X.retz i241_9 rfl t241 (by omega) ?_
              show X (EE s) d 248 28 [(0, zr 4 44), (1, zi a1), (2, zi a2)] [zi 0] m501 _
              refine X.ifne 33 31 i248_28 rfl rfl rfl (fun h530 => (by exfalso; omega)) (fun h530 => ?_)
              refine X.cut [] i248_31 rfl ?_
              refine X.iconst 32 i248_31 rfl rfl (by decide) ?_
              refine X.retz i248_32 rfl t248 (by omega) ?_
              exact hQ 0 m501 (by first | trivial | omega) (Eq.trans (zb_eq hFv503) (Eq.trans (if_pos h504) (Eq.trans (if_neg h506c) (Eq.trans (if_pos h509c) (Eq.trans (if_neg h512) (Eq.trans (if_neg h526c) (Eq.trans (if_neg h529c) rfl))))))) (hJ502.up (by omega)) 
            · have h529c : a2 ≤ 7 := by omega
              clear h529 hz528
              refine X.iconst 14 i204_13 rfl rfl (by decide) ?_
              refine X.goto 18 i204_14 rfl rfl ?_
              refine X.cut [] i204_18 rfl ?_
              refine X.retz i204_18 rfl t204 (by omega) ?_
              show X (EE s) (d - 1) 241 9 [(0, zi a2)] [zi 1] m501 _
              refine X.retz i241_9 rfl t241 (by omega) ?_
              show X (EE s) d 248 28 [(0, zr 4 44), (1, zi a1), (2, zi a2)] [zi 1] m501 _
              refine X.ifne 33 31 i248_28 rfl rfl rfl (fun h531 => ?_) (fun h531 => (by exfalso; omega))
              refine X.aload_n 34 i248_33 rfl rfl rfl ?_
              refine X.getF 37 i248_34 rfl rfl (by decide) rfl rfl ?_
              refine X.sipush 40 i248_37 rfl rfl (by decide) ?_
              refine X.iload_n 41 i248_40 rfl rfl rfl ?_
              refine X.iadd 42 i248_41 rfl rfl (by omega) ?_
              refine X.lald 43 i248_42 rfl rfl (by decide) rfl (by omega) ?_
              have h532 := r45_423 hJ502 4 (i := (423 + a1)) (by omega)
              refine X.ldc2 46 i248_43 rfl rfl (by decide) ?_
              refine X.lcmp 47 i248_46 rfl rfl (fun z533 hz533 => ?_)
              have hK538 : ∀ (v : Int) , (0 ≤ v ∧ v ≤ 1) → (if (m501 4 45 (423 + a1)) = (-1) then
                  (0)
                  else
                  (1)) = v → X (EE s) d 248 55 [(0, zr 4 44), (1, zi a1), (2, zi a2)] [zi v] m501 Q := by
                intro v535 hv535 hT539
                refine X.istore_n 56 [(0, zr 4 44), (1, zi a1), (2, zi a2), (3, zi v535)] i248_55 rfl rfl rfl ?_
                refine X.iload_n 57 i248_56 rfl rfl rfl ?_
                refine X.iconst 58 i248_57 rfl rfl (by decide) ?_
                refine X.icmpne 68 61 i248_58 rfl rfl rfl (fun h540 => ?_) (fun h540 => (by exfalso; omega))
                refine X.iload_n 69 i248_68 rfl rfl rfl ?_
                refine X.ifne 83 72 i248_69 rfl rfl rfl (fun h541 => ?_) (fun h541 => ?_)
                · refine X.cut [(0, zr 4 44), (1, zi a1), (2, zi a2)] i248_83 rfl ?_
                  refine X.aload_n 84 i248_83 rfl rfl rfl ?_
                  refine X.getF 87 i248_84 rfl rfl (by decide) rfl rfl ?_
                  refine X.sipush 90 i248_87 rfl rfl (by decide) ?_
                  refine X.iload_n 91 i248_90 rfl rfl rfl ?_
                  refine X.iadd 92 i248_91 rfl rfl (by omega) ?_
                  refine X.iload_n 93 i248_92 rfl rfl rfl ?_
                  refine X.i2l 94 i248_93 rfl rfl ?_
                  refine X.last' 95 i248_94 rfl rfl (by decide) rfl (by omega) (fun hrm542 m542 hm542 => ?_)
                  have hJ543 := w45_423 hJ502 hm542 (by omega) (by omega) hf21 hg4
                  refine X.iconst 96 i248_95 rfl rfl (by decide) ?_
                  refine X.retz i248_96 rfl t248 (by omega) ?_
                  exact hQ 1 m542 (by first | trivial | omega) (Eq.trans (zb_eq hFv503) (Eq.trans (if_pos h504) (Eq.trans (if_neg h506c) (Eq.trans (if_pos h509c) (Eq.trans (if_neg h512) (Eq.trans (if_neg h526c) (Eq.trans (if_pos h529c) (Eq.trans (zn_eq hT539.symm) (Eq.trans (if_neg h541) (Eq.trans (zs_eq hm542) rfl)))))))))) (hJ543.up (by omega)) 
                · refine X.aload_n 73 i248_72 rfl rfl rfl ?_
                  refine X.callv 76 [] [] [(0, zr 4 44)] i248_73 rfl (by decide) rfl rfl (by omega) rfl rfl (by decide) rfl t249 (Nat.le_of_ble_eq_true rfl) (Nat.le_of_ble_eq_true rfl) rfl ?_
                  refine c249_1 (B := B)   (by omega) (hJ502.up (by omega)) (by omega)  (fun v546 hv546 hFv546 => ?_)
                  show X (EE s) d 248 76 [(0, zr 4 44), (1, zi a1), (2, zi a2), (3, zi v535)] [zi v546] m501 _
                  refine X.bipush 78 i248_76 rfl rfl (by decide) ?_
                  refine X.icmpne 83 81 i248_78 rfl rfl rfl (fun h547 => ?_) (fun h547 => ?_)
                  · refine X.cut [(0, zr 4 44), (1, zi a1), (2, zi a2)] i248_83 rfl ?_
                    refine X.aload_n 84 i248_83 rfl rfl rfl ?_
                    refine X.getF 87 i248_84 rfl rfl (by decide) rfl rfl ?_
                    refine X.sipush 90 i248_87 rfl rfl (by decide) ?_
                    refine X.iload_n 91 i248_90 rfl rfl rfl ?_
                    refine X.iadd 92 i248_91 rfl rfl (by omega) ?_
                    refine X.iload_n 93 i248_92 rfl rfl rfl ?_
                    refine X.i2l 94 i248_93 rfl rfl ?_
                    refine X.last' 95 i248_94 rfl rfl (by decide) rfl (by omega) (fun hrm548 m548 hm548 => ?_)
                    have hJ549 := w45_423 hJ502 hm548 (by omega) (by omega) hf21 hg4
                    refine X.iconst 96 i248_95 rfl rfl (by decide) ?_
                    refine X.retz i248_96 rfl t248 (by omega) ?_
                    exact hQ 1 m548 (by first | trivial | omega) (Eq.trans (zb_eq hFv503) (Eq.trans (if_pos h504) (Eq.trans (if_neg h506c) (Eq.trans (if_pos h509c) (Eq.trans (if_neg h512) (Eq.trans (if_neg h526c) (Eq.trans (if_pos h529c) (Eq.trans (zn_eq hT539.symm) (Eq.trans (if_pos h541) (Eq.trans (zn_eq hFv546.symm) (Eq.trans (if_neg h547) (Eq.trans (zs_eq hm548) rfl)))))))))))) (hJ549.up (by omega)) 
                  · refine X.cut [] i248_81 rfl ?_
                    refine X.iconst 82 i248_81 rfl rfl (by decide) ?_
                    refine X.retz i248_82 rfl t248 (by omega) ?_
                    exact hQ 0 m501 (by first | trivial | omega) (Eq.trans (zb_eq hFv503) (Eq.trans (if_pos h504) (Eq.trans (if_neg h506c) (Eq.trans (if_pos h509c) (Eq.trans (if_neg h512) (Eq.trans (if_neg h526c) (Eq.trans (if_pos h529c) (Eq.trans (zn_eq hT539.symm) (Eq.trans (if_pos h541) (Eq.trans (zn_eq hFv546.symm) (Eq.trans (if_pos h547) rfl))))))))))) (hJ502.up (by omega)) 
              refine X.ifeq 54 50 i248_47 rfl rfl rfl (fun h534 => ?_) (fun h534 => ?_)
              · have h534c : (m501 4 45 (423 + a1)) = (-1) := by omega
                clear h534 hz533
                refine X.iconst 55 i248_54 rfl rfl (by decide) ?_
                exact hK538 0 (by first | trivial | omega) (Eq.trans (if_pos h534c) rfl)
              · have h534c : ¬ (m501 4 45 (423 + a1)) = (-1) := by omega
                clear h534 hz533
                refine X.iconst 51 i248_50 rfl rfl (by decide) ?_
                refine X.goto 55 i248_51 rfl rfl ?_
                exact hK538 1 (by first | trivial | omega) (Eq.trans (if_neg h534c) rfl)
-- WorkMeter$Meter.note
theorem c54_6 {s : Nat × (Nat → Int32)} {S : zS} {m0 m : zM} {B : Int} {d : Nat} {Q : Option zV → zM → Prop} (g0 : Nat) (a1 a2 : Int) (hd : 14 ≤ d) (hJ : J S m0 B m) (hB : B + 1 ≤ 1000000000) (ha1 : 20 ≤ a1 ∧ a1 ≤ 20) (ha2 : 0 ≤ a2 ∧ a2 ≤ 2000000000) (hf6 : ¬ S.1 6) (hgg0 : ¬ S.2.1 g0) (hQ : ∀ m', f54_1 g0 a1 a2 m = m' → J S m0 (B + 1) m' → Q none m') : X (EE s) d 54 0 [(0, zr g0 8), (1, zi a1), (2, zi a2)] [] m Q := by
  refine X.aload_n 1 i54_0 rfl rfl rfl ?_
  refine X.getR 4 i54_1 rfl rfl (by decide) rfl rfl ?_
  refine X.aload_n 5 i54_4 rfl rfl rfl ?_
  refine X.getI 8 9 i54_5 rfl rfl (by decide) rfl rfl rfl ?_
  have h501 := r8_9 hJ g0
  refine X.iload_n 9 i54_8 rfl rfl rfl ?_
  refine X.iload_n 10 i54_9 rfl rfl rfl ?_
  refine X.callv 13 [zi (m g0 8 9), zi a1, zi a2] [] [(0, zr g0 37), (1, zi (m g0 8 9)), (2, zi a1), (3, zi a2)] i54_10 rfl (by decide) rfl rfl (by omega) rfl rfl (by decide) rfl t55 (Nat.le_of_ble_eq_true rfl) (Nat.le_of_ble_eq_true rfl) rfl ?_
  refine c55_1 (B := B) g0 (m g0 8 9) a1 a2 (by omega) (hJ.up (by omega)) (by omega) (by omega) (by omega) (by omega) hf6 hgg0 (fun m502 hFv504 hJ503 => ?_)
  show X (EE s) d 54 13 [(0, zr g0 8), (1, zi a1), (2, zi a2)] [] m502 _
  refine X.retv i54_13 rfl t54 ?_
  exact hQ  m502  (Eq.trans (zs_eq hFv504.symm) rfl) (hJ503.up (by omega)) 
-- WorkMeter$Meter.moveClock
noncomputable def f129_1 (g0 : Nat) (a1 : Int) (m : zM) : Int × zM :=
  zs (f60_1 g0 (m g0 8 9) (max 1 (m g0 10 4)) 64 m) fun m503 =>
  zs (z_upd m503 g0 8 9 a1) fun m506 =>
  zs (z_upd m506 g0 27 9 a1) fun m508 =>
  zs (f54_1 g0 20 (m g0 8 9) m508) fun m510 =>
  ((m g0 8 9), m510)
-- WorkMeter$Meter.moveClock
theorem c129_1 {s : Nat × (Nat → Int32)} {S : zS} {m0 m : zM} {B : Int} {d : Nat} {Q : Option zV → zM → Prop} (g0 : Nat) (a1 : Int) (hd : 15 ≤ d) (hJ : J S m0 B m) (hB : B + 2 ≤ 1000000000) (ha1 : 0 ≤ a1 ∧ a1 ≤ 2000000000) (hf6 : ¬ S.1 6) (hf7 : ¬ S.1 7) (hf11 : ¬ S.1 11) (hgg0 : ¬ S.2.1 g0) (hQ : ∀ (v : Int) m', (0 ≤ v ∧ v ≤ 2000000000) → f129_1 g0 a1 m = (v, m') → J S m0 (B + 2) m' → Q (some (zi v)) m') : X (EE s) d 129 0 [(0, zr g0 8), (1, zi a1)] [] m Q := by
  refine X.aload_n 1 i129_0 rfl rfl rfl ?_
  refine X.getI 4 9 i129_1 rfl rfl (by decide) rfl rfl rfl ?_
  have h501 := r8_9 hJ g0
  refine X.istore_n 5 [(0, zr g0 8), (1, zi a1), (2, zi (m g0 8 9))] i129_4 rfl rfl rfl ?_
  refine X.aload_n 6 i129_5 rfl rfl rfl ?_
  refine X.getR 9 i129_6 rfl rfl (by decide) rfl rfl ?_
  refine X.aload_n 10 i129_9 rfl rfl rfl ?_
  refine X.getI 13 9 i129_10 rfl rfl (by decide) rfl rfl rfl ?_
  refine X.aload_n 14 i129_13 rfl rfl rfl ?_
  refine X.getR 17 i129_14 rfl rfl (by decide) rfl rfl ?_
  refine X.callv 20 [] [zi (m g0 8 9), zr g0 27] [(0, zr g0 9)] i129_17 rfl (by decide) rfl rfl (by omega) rfl rfl (by decide) rfl t36 (Nat.le_of_ble_eq_true rfl) (Nat.le_of_ble_eq_true rfl) rfl ?_
  refine X.iconst 1 i36_0 rfl rfl (by decide) ?_
  refine X.aload_n 2 i36_1 rfl rfl rfl ?_
  refine X.getR 5 i36_2 rfl rfl (by decide) rfl rfl ?_
  refine X.iconst 6 i36_5 rfl rfl (by decide) ?_
  refine X.iald 7 i36_6 rfl rfl (by decide) rfl (by omega) ?_
  have h502 := r10_0 hJ g0 (i := 4) (by omega)
  refine X.maxI 10 i36_7 rfl rfl (by omega) (Nat.le_of_ble_eq_true rfl) ?_
  refine X.reti i36_10 rfl t36 ?_
  show X (EE s) d 129 20 [(0, zr g0 8), (1, zi a1), (2, zi (m g0 8 9))] [zi (max 1 (m g0 10 4)), zi (m g0 8 9), zr g0 27] m _
  refine X.bipush 22 i129_20 rfl rfl (by decide) ?_
  refine X.callv 25 [zi (m g0 8 9), zi (max 1 (m g0 10 4)), zi 64] [] [(0, zr g0 27), (1, zi (m g0 8 9)), (2, zi (max 1 (m g0 10 4))), (3, zi 64)] i129_22 rfl (by decide) rfl rfl (by omega) rfl rfl (by decide) rfl t60 (Nat.le_of_ble_eq_true rfl) (Nat.le_of_ble_eq_true rfl) rfl ?_
  refine c60_1 (B := B) g0 (m g0 8 9) (max 1 (m g0 10 4)) 64 (by omega) (hJ.up (by omega)) (by omega) (by omega) (by omega) (by omega) hf7 hgg0 (fun m503 hFv505 hJ504 => ?_)
  show X (EE s) d 129 25 [(0, zr g0 8), (1, zi a1), (2, zi (m g0 8 9))] [] m503 _
  refine X.aload_n 26 i129_25 rfl rfl rfl ?_
  refine X.iload_n 27 i129_26 rfl rfl rfl ?_
  refine X.putI' 30 9 i129_27 rfl rfl (by decide) rfl rfl rfl (fun hrm506 m506 hm506 => ?_)
  have hJ507 := w8_9 hJ504 hm506 (by omega) hf11 hgg0
  have em506 : m506 g0 8 9 = a1 := by rw [hm506]; exact z_upd_same _ _ _ _ _
  refine X.aload_n 31 i129_30 rfl rfl rfl ?_
  refine X.getR 34 i129_31 rfl rfl (by decide) rfl rfl ?_
  refine X.iload_n 35 i129_34 rfl rfl rfl ?_
  refine X.putI' 38 9 i129_35 rfl rfl (by decide) rfl rfl rfl (fun hrm508 m508 hm508 => ?_)
  have hJ509 := w27_9 hJ507 hm508 (by omega) hf7 hgg0
  refine X.aload_n 39 i129_38 rfl rfl rfl ?_
  refine X.bipush 41 i129_39 rfl rfl (by decide) ?_
  refine X.iload_n 42 i129_41 rfl rfl rfl ?_
  refine X.callv 45 [zi 20, zi (m g0 8 9)] [] [(0, zr g0 8), (1, zi 20), (2, zi (m g0 8 9))] i129_42 rfl (by decide) rfl rfl (by omega) rfl rfl (by decide) rfl t54 (Nat.le_of_ble_eq_true rfl) (Nat.le_of_ble_eq_true rfl) rfl ?_
  refine c54_6 (B := B + 1) g0 20 (m g0 8 9) (by omega) (hJ509.up (by omega)) (by omega) (by omega) (by omega) hf6 hgg0 (fun m510 hFv512 hJ511 => ?_)
  show X (EE s) d 129 45 [(0, zr g0 8), (1, zi a1), (2, zi (m g0 8 9))] [] m510 _
  refine X.iload_n 46 i129_45 rfl rfl rfl ?_
  refine X.reti i129_46 rfl t129 ?_
  exact hQ (m g0 8 9) m510 (by first | trivial | omega) (Eq.trans (zs_eq hFv505.symm) (Eq.trans (zs_eq hm506) (Eq.trans (zs_eq hm508) (Eq.trans (zs_eq hFv512.symm) rfl)))) (hJ511.up (by omega)) 
-- WorkMeter.move
noncomputable def f127_1 (a1 : Int) (m : zM) : Int × zM :=
  zb (f17_1 0 m) fun v503 m501 =>
  if v503 = 0 then
  (if a1 < 0 then
  (((-1), m501))
  else
  (if 2000000000 < a1 then
  (((-1), m501))
  else
  (zb (f129_1 0 a1 m501) fun v512 m510 =>
  (v512, m510))))
  else
  (((-1), m501))
-- WorkMeter.move
theorem c127_1 {s : Nat × (Nat → Int32)} {S : zS} {m0 m : zM} {B : Int} {d : Nat} {Q : Option zV → zM → Prop} (a1 : Int) (hd : 16 ≤ d) (hJ : J S m0 B m) (hB : B + 2 ≤ 1000000000) (ha1 : (-2147483648) ≤ a1 ∧ a1 ≤ 2147483647) (hf4 : ¬ S.1 4) (hf6 : ¬ S.1 6) (hf7 : ¬ S.1 7) (hf11 : ¬ S.1 11) (hg0 : ¬ S.2.1 0) (hQ : ∀ (v : Int) m', ((-1) ≤ v ∧ v ≤ 2000000000) → f127_1 a1 m = (v, m') → J S m0 (B + 2) m' → Q (some (zi v)) m') : X (EE s) d 127 0 [(0, zr 4 40), (1, zi a1)] [] m Q := by
  refine X.aload_n 1 i127_0 rfl rfl rfl ?_
  refine X.getF 4 i127_1 rfl rfl (by decide) rfl rfl ?_
  refine X.getR 7 i127_4 rfl rfl (by decide) rfl rfl ?_
  refine X.callv 10 [] [] [(0, zr 0 39)] i127_7 rfl (by decide) rfl rfl (by omega) rfl rfl (by decide) rfl t17 (Nat.le_of_ble_eq_true rfl) (Nat.le_of_ble_eq_true rfl) rfl ?_
  refine c17_1 (B := B) 0  (by omega) (hJ.up (by omega)) (by omega)  hf4 hg0 (fun v503 m501 hv503 hFv503 hJ502 => ?_)
  show X (EE s) d 127 10 [(0, zr 4 40), (1, zi a1)] [zi v503] m501 _
  refine X.ifne 20 13 i127_10 rfl rfl rfl (fun h504 => ?_) (fun h504 => ?_)
  · refine X.cut [] i127_20 rfl ?_
    refine X.iconst 21 i127_20 rfl rfl (by decide) ?_
    refine X.reti i127_21 rfl t127 ?_
    exact hQ (-1) m501 (by first | trivial | omega) (Eq.trans (zb_eq hFv503) (Eq.trans (if_neg h504) rfl)) (hJ502.up (by omega)) 
  · refine X.iload_n 14 i127_13 rfl rfl rfl ?_
    refine X.calls 17 [zi a1] [] [(0, zi a1)] i127_14 (by decide) rfl rfl (by omega) rfl rfl t128 (Nat.le_of_ble_eq_true rfl) (Nat.le_of_ble_eq_true rfl) rfl ?_
    refine X.iload_n 1 i128_0 rfl rfl rfl ?_
    refine X.iflt 14 4 i128_1 rfl rfl rfl (fun h505 => ?_) (fun h505 => ?_)
    · refine X.cut [] i128_14 rfl ?_
      refine X.iconst 15 i128_14 rfl rfl (by decide) ?_
      refine X.retz i128_15 rfl t128 (by omega) ?_
      show X (EE s) d 127 17 [(0, zr 4 40), (1, zi a1)] [zi 0] m501 _
      refine X.ifne 22 20 i127_17 rfl rfl rfl (fun h506 => (by exfalso; omega)) (fun h506 => ?_)
      refine X.cut [] i127_20 rfl ?_
      refine X.iconst 21 i127_20 rfl rfl (by decide) ?_
      refine X.reti i127_21 rfl t127 ?_
      exact hQ (-1) m501 (by first | trivial | omega) (Eq.trans (zb_eq hFv503) (Eq.trans (if_pos h504) (Eq.trans (if_pos h505) rfl))) (hJ502.up (by omega)) 
    · refine X.iload_n 5 i128_4 rfl rfl rfl ?_
      refine X.ldc 7 i128_5 rfl rfl (by decide) ?_
      refine X.icmpgt 14 10 i128_7 rfl rfl rfl (fun h507 => ?_) (fun h507 => ?_)
      · refine X.cut [] i128_14 rfl ?_
        refine X.iconst 15 i128_14 rfl rfl (by decide) ?_
        refine X.retz i128_15 rfl t128 (by omega) ?_
        show X (EE s) d 127 17 [(0, zr 4 40), (1, zi a1)] [zi 0] m501 _
        refine X.ifne 22 20 i127_17 rfl rfl rfl (fun h508 => (by exfalso; omega)) (fun h508 => ?_)
        refine X.cut [] i127_20 rfl ?_
        refine X.iconst 21 i127_20 rfl rfl (by decide) ?_
        refine X.reti i127_21 rfl t127 ?_
        exact hQ (-1) m501 (by first | trivial | omega) (Eq.trans (zb_eq hFv503) (Eq.trans (if_pos h504) (Eq.trans (if_neg h505) (Eq.trans (if_pos h507) rfl)))) (hJ502.up (by omega)) 
      · refine X.iconst 11 i128_10 rfl rfl (by decide) ?_
        refine X.goto 15 i128_11 rfl rfl ?_
        refine X.cut [] i128_15 rfl ?_
        refine X.retz i128_15 rfl t128 (by omega) ?_
        show X (EE s) d 127 17 [(0, zr 4 40), (1, zi a1)] [zi 1] m501 _
        refine X.ifne 22 20 i127_17 rfl rfl rfl (fun h509 => ?_) (fun h509 => (by exfalso; omega))
        refine X.aload_n 23 i127_22 rfl rfl rfl ?_
        refine X.getF 26 i127_23 rfl rfl (by decide) rfl rfl ?_
        refine X.iload_n 27 i127_26 rfl rfl rfl ?_
        refine X.callv 30 [zi a1] [] [(0, zr 0 8), (1, zi a1)] i127_27 rfl (by decide) rfl rfl (by omega) rfl rfl (by decide) rfl t129 (Nat.le_of_ble_eq_true rfl) (Nat.le_of_ble_eq_true rfl) rfl ?_
        refine c129_1 (B := B) 0 a1 (by omega) (hJ502.up (by omega)) (by omega) (by omega) hf6 hf7 hf11 hg0 (fun v512 m510 hv512 hFv512 hJ511 => ?_)
        show X (EE s) d 127 30 [(0, zr 4 40), (1, zi a1)] [zi v512] m510 _
        refine X.reti i127_30 rfl t127 ?_
        exact hQ v512 m510 (by first | trivial | omega) (Eq.trans (zb_eq hFv503) (Eq.trans (if_pos h504) (Eq.trans (if_neg h505) (Eq.trans (if_neg h507) (Eq.trans (zb_eq hFv512) rfl))))) (hJ511.up (by omega)) 
-- WorkMeterModel.move
noncomputable def f281_1 (a1 : Int) (m : zM) : Int × zM :=
  zb (f203_1 m) fun v503 m501 =>
  if v503 = 0 then
  (if a1 < 0 then
  (((-1), m501))
  else
  (if a1 ≤ 2000000000 then
  (zs (f232_1 64 m501) fun m513 =>
  zs (z_upd m513 4 45 0 a1) fun m516 =>
  zs (f233_1 m516) fun m518 =>
  zs (f223_1 20 (m501 4 45 0) m518) fun m521 =>
  ((m501 4 45 0), m521))
  else
  (((-1), m501))))
  else
  (((-1), m501))
-- WorkMeterModel.move
theorem c281_1 {s : Nat × (Nat → Int32)} {S : zS} {m0 m : zM} {B : Int} {d : Nat} {Q : Option zV → zM → Prop} (a1 : Int) (hd : 18 ≤ d) (hJ : J S m0 B m) (hB : B + 2 ≤ 1000000000) (ha1 : (-2147483648) ≤ a1 ∧ a1 ≤ 2147483647) (hf24 : ¬ S.1 24) (hf26 : ¬ S.1 26) (hf27 : ¬ S.1 27) (hf28 : ¬ S.1 28) (hf31 : ¬ S.1 31) (hg4 : ¬ S.2.1 4) (hQ : ∀ (v : Int) m', ((-1) ≤ v ∧ v ≤ 2000000000) → f281_1 a1 m = (v, m') → J S m0 (B + 2) m' → Q (some (zi v)) m') : X (EE s) d 281 0 [(0, zr 4 44), (1, zi a1)] [] m Q := by
  refine X.aload_n 1 i281_0 rfl rfl rfl ?_
  refine X.callv 4 [] [] [(0, zr 4 44)] i281_1 rfl (by decide) rfl rfl (by omega) rfl rfl (by decide) rfl t203 (Nat.le_of_ble_eq_true rfl) (Nat.le_of_ble_eq_true rfl) rfl ?_
  refine c203_1 (B := B)   (by omega) (hJ.up (by omega)) (by omega)  hf24 hg4 (fun v503 m501 hv503 hFv503 hJ502 => ?_)
  show X (EE s) d 281 4 [(0, zr 4 44), (1, zi a1)] [zi v503] m501 _
  refine X.ifne 19 7 i281_4 rfl rfl rfl (fun h504 => ?_) (fun h504 => ?_)
  · refine X.cut [] i281_19 rfl ?_
    refine X.iconst 20 i281_19 rfl rfl (by decide) ?_
    refine X.reti i281_20 rfl t281 ?_
    exact hQ (-1) m501 (by first | trivial | omega) (Eq.trans (zb_eq hFv503) (Eq.trans (if_neg h504) rfl)) (hJ502.up (by omega)) 
  · refine X.iload_n 8 i281_7 rfl rfl rfl ?_
    refine X.i2l 9 i281_8 rfl rfl ?_
    refine X.lconst (y := 0) 10 i281_9 rfl rfl rfl ?_
    refine X.ldc2 13 i281_10 rfl rfl (by decide) ?_
    refine X.calls 16 [zl a1, zl 0, zl 2000000000] [] [(0, zl a1), (2, zl 0), (4, zl 2000000000)] i281_13 (by decide) rfl rfl (by omega) rfl rfl t204 (Nat.le_of_ble_eq_true rfl) (Nat.le_of_ble_eq_true rfl) rfl ?_
    refine X.lload_n 1 i204_0 rfl rfl rfl ?_
    refine X.lload_n 2 i204_1 rfl rfl rfl ?_
    refine X.lcmp 3 i204_2 rfl rfl (fun z505 hz505 => ?_)
    refine X.iflt 17 6 i204_3 rfl rfl rfl (fun h506 => ?_) (fun h506 => ?_)
    · have h506c : a1 < 0 := by omega
      clear h506 hz505
      refine X.cut [] i204_17 rfl ?_
      refine X.iconst 18 i204_17 rfl rfl (by decide) ?_
      refine X.retz i204_18 rfl t204 (by omega) ?_
      show X (EE s) d 281 16 [(0, zr 4 44), (1, zi a1)] [zi 0] m501 _
      refine X.ifne 21 19 i281_16 rfl rfl rfl (fun h507 => (by exfalso; omega)) (fun h507 => ?_)
      refine X.cut [] i281_19 rfl ?_
      refine X.iconst 20 i281_19 rfl rfl (by decide) ?_
      refine X.reti i281_20 rfl t281 ?_
      exact hQ (-1) m501 (by first | trivial | omega) (Eq.trans (zb_eq hFv503) (Eq.trans (if_pos h504) (Eq.trans (if_pos h506c) rfl))) (hJ502.up (by omega)) 
    · have h506c : ¬ a1 < 0 := by omega
      clear h506 hz505
      refine X.lload_n 7 i204_6 rfl rfl rfl ?_
      refine X.lload 9 i204_7 rfl rfl rfl ?_
      refine X.lcmp 10 i204_9 rfl rfl (fun z508 hz508 => ?_)
      refine X.ifgt 17 13 i204_10 rfl rfl rfl (fun h509 => ?_) (fun h509 => ?_)
      · have h509c : ¬ a1 ≤ 2000000000 := by omega
        clear h509 hz508
        refine X.cut [] i204_17 rfl ?_
        refine X.iconst 18 i204_17 rfl rfl (by decide) ?_
        refine X.retz i204_18 rfl t204 (by omega) ?_
        show X (EE s) d 281 16 [(0, zr 4 44), (1, zi a1)] [zi 0] m501 _
        refine X.ifne 21 19 i281_16 rfl rfl rfl (fun h510 => (by exfalso; omega)) (fun h510 => ?_)
        refine X.cut [] i281_19 rfl ?_
        refine X.iconst 20 i281_19 rfl rfl (by decide) ?_
        refine X.reti i281_20 rfl t281 ?_
        exact hQ (-1) m501 (by first | trivial | omega) (Eq.trans (zb_eq hFv503) (Eq.trans (if_pos h504) (Eq.trans (if_neg h506c) (Eq.trans (if_neg h509c) rfl)))) (hJ502.up (by omega)) 
      · have h509c : a1 ≤ 2000000000 := by omega
        clear h509 hz508
        refine X.iconst 14 i204_13 rfl rfl (by decide) ?_
        refine X.goto 18 i204_14 rfl rfl ?_
        refine X.cut [] i204_18 rfl ?_
        refine X.retz i204_18 rfl t204 (by omega) ?_
        show X (EE s) d 281 16 [(0, zr 4 44), (1, zi a1)] [zi 1] m501 _
        refine X.ifne 21 19 i281_16 rfl rfl rfl (fun h511 => ?_) (fun h511 => (by exfalso; omega))
        refine X.aload_n 22 i281_21 rfl rfl rfl ?_
        refine X.getF 25 i281_22 rfl rfl (by decide) rfl rfl ?_
        refine X.iconst 26 i281_25 rfl rfl (by decide) ?_
        refine X.lald 27 i281_26 rfl rfl (by decide) rfl (by omega) ?_
        have h512 := r45_0 hJ502 4
        refine X.l2i 28 i281_27 rfl rfl (by omega) ?_
        refine X.istore_n 29 [(0, zr 4 44), (1, zi a1), (2, zi (m501 4 45 0))] i281_28 rfl rfl rfl ?_
        refine X.aload_n 30 i281_29 rfl rfl rfl ?_
        refine X.ldc2 33 i281_30 rfl rfl (by decide) ?_
        refine X.callv 36 [zl 64] [] [(0, zr 4 44), (1, zl 64)] i281_33 rfl (by decide) rfl rfl (by omega) rfl rfl (by decide) rfl t232 (Nat.le_of_ble_eq_true rfl) (Nat.le_of_ble_eq_true rfl) rfl ?_
        refine c232_1 (B := B)  64 (by omega) (hJ502.up (by omega)) (by omega) (by omega) hf27 hf28 hg4 (fun m513 hFv515 hJ514 => ?_)
        show X (EE s) d 281 36 [(0, zr 4 44), (1, zi a1), (2, zi (m501 4 45 0))] [] m513 _
        refine X.aload_n 37 i281_36 rfl rfl rfl ?_
        refine X.getF 40 i281_37 rfl rfl (by decide) rfl rfl ?_
        refine X.iconst 41 i281_40 rfl rfl (by decide) ?_
        refine X.iload_n 42 i281_41 rfl rfl rfl ?_
        refine X.i2l 43 i281_42 rfl rfl ?_
        refine X.last' 44 i281_43 rfl rfl (by decide) rfl (by omega) (fun hrm516 m516 hm516 => ?_)
        have hJ517 := w45_0 hJ514 hm516 (by omega) hf31 hg4
        refine X.aload_n 45 i281_44 rfl rfl rfl ?_
        refine X.callv 48 [] [] [(0, zr 4 44)] i281_45 rfl (by decide) rfl rfl (by omega) rfl rfl (by decide) rfl t233 (Nat.le_of_ble_eq_true rfl) (Nat.le_of_ble_eq_true rfl) rfl ?_
        refine c233_1 (B := B + 1)   (by omega) (hJ517.up (by omega)) (by omega)  hf27 hg4 (fun m518 hFv520 hJ519 => ?_)
        show X (EE s) d 281 48 [(0, zr 4 44), (1, zi a1), (2, zi (m501 4 45 0))] [] m518 _
        refine X.aload_n 49 i281_48 rfl rfl rfl ?_
        refine X.bipush 51 i281_49 rfl rfl (by decide) ?_
        refine X.iload_n 52 i281_51 rfl rfl rfl ?_
        refine X.i2l 53 i281_52 rfl rfl ?_
        refine X.callv 56 [zi 20, zl (m501 4 45 0)] [] [(0, zr 4 44), (1, zi 20), (2, zl (m501 4 45 0))] i281_53 rfl (by decide) rfl rfl (by omega) rfl rfl (by decide) rfl t223 (Nat.le_of_ble_eq_true rfl) (Nat.le_of_ble_eq_true rfl) rfl ?_
        refine c223_1 (B := B + 1)  20 (m501 4 45 0) (by omega) (hJ519.up (by omega)) (by omega) (by omega) hf26 hg4 (fun m521 hFv523 hJ522 => ?_)
        show X (EE s) d 281 56 [(0, zr 4 44), (1, zi a1), (2, zi (m501 4 45 0))] [] m521 _
        refine X.iload_n 57 i281_56 rfl rfl rfl ?_
        refine X.reti i281_57 rfl t281 ?_
        exact hQ (m501 4 45 0) m521 (by first | trivial | omega) (Eq.trans (zb_eq hFv503) (Eq.trans (if_pos h504) (Eq.trans (if_neg h506c) (Eq.trans (if_pos h509c) (Eq.trans (zs_eq hFv515.symm) (Eq.trans (zs_eq hm516) (Eq.trans (zs_eq hFv520.symm) (Eq.trans (zs_eq hFv523.symm) rfl)))))))) (hJ522.up (by omega)) 
-- WorkMeter$Meter.note
theorem c54_7 {s : Nat × (Nat → Int32)} {S : zS} {m0 m : zM} {B : Int} {d : Nat} {Q : Option zV → zM → Prop} (g0 : Nat) (a1 a2 : Int) (hd : 14 ≤ d) (hJ : J S m0 B m) (hB : B + 1 ≤ 1000000000) (ha1 : 21 ≤ a1 ∧ a1 ≤ 21) (ha2 : 1 ≤ a2 ∧ a2 ≤ 100000) (hf6 : ¬ S.1 6) (hgg0 : ¬ S.2.1 g0) (hQ : ∀ m', f54_1 g0 a1 a2 m = m' → J S m0 (B + 1) m' → Q none m') : X (EE s) d 54 0 [(0, zr g0 8), (1, zi a1), (2, zi a2)] [] m Q := by
  refine X.aload_n 1 i54_0 rfl rfl rfl ?_
  refine X.getR 4 i54_1 rfl rfl (by decide) rfl rfl ?_
  refine X.aload_n 5 i54_4 rfl rfl rfl ?_
  refine X.getI 8 9 i54_5 rfl rfl (by decide) rfl rfl rfl ?_
  have h501 := r8_9 hJ g0
  refine X.iload_n 9 i54_8 rfl rfl rfl ?_
  refine X.iload_n 10 i54_9 rfl rfl rfl ?_
  refine X.callv 13 [zi (m g0 8 9), zi a1, zi a2] [] [(0, zr g0 37), (1, zi (m g0 8 9)), (2, zi a1), (3, zi a2)] i54_10 rfl (by decide) rfl rfl (by omega) rfl rfl (by decide) rfl t55 (Nat.le_of_ble_eq_true rfl) (Nat.le_of_ble_eq_true rfl) rfl ?_
  refine c55_1 (B := B) g0 (m g0 8 9) a1 a2 (by omega) (hJ.up (by omega)) (by omega) (by omega) (by omega) (by omega) hf6 hgg0 (fun m502 hFv504 hJ503 => ?_)
  show X (EE s) d 54 13 [(0, zr g0 8), (1, zi a1), (2, zi a2)] [] m502 _
  refine X.retv i54_13 rfl t54 ?_
  exact hQ  m502  (Eq.trans (zs_eq hFv504.symm) rfl) (hJ503.up (by omega)) 
noncomputable def fl132_2_1_b (self : Int → zM → zM) (k36 : zM → zM) (g0 g1 : Nat) (y2 : Int) (y3 : Int) (m : zM) : zM :=
  if 5 ≤ y3 then
  (k36 m)
  else
  (zs (z_upd m g0 36 y3 0) fun m517 =>
  zn (f40_1 g0 y3 m517) fun v521 =>
  zs (if v521 = 0 then
  (m517)
  else
  (zs (f57_1 g0 g1 y3 0 y2 m517) fun m523 =>
  m523)) fun m527 =>
  self (y3 + 1) m527)
noncomputable def fl132_2_1 (k36 : zM → zM) (g0 g1 : Nat) (y2 : Int) : Nat → Int → zM → zM
  | 0 => fun y3 m => m
  | n + 1 => fl132_2_1_b (fl132_2_1 k36 g0 g1 y2 n) k36 g0 g1 y2
theorem l132_2_1 {s : Nat × (Nat → Int32)} {S : zS} {m0 : zM} {d : Nat} {Q : Option zV → zM → Prop} {R0 : zM} {k36 : zM → zM} (g0 g1 : Nat) (y2 : Int) (BE : Int) (hE : BE ≤ 1000000000) (hd : 15 ≤ d) (hy2 : 0 ≤ y2 ∧ y2 ≤ 2000000000) (hf6 : ¬ S.1 6) (hf9 : ¬ S.1 9) (hgg0 : ¬ S.2.1 g0) (hgg1 : ¬ S.2.1 g1)
    (K36 : ∀ (m' : zM) (B' : Int), J S m0 B' m' → B' ≤ BE → R0 = k36 m' → X (EE s) d 132 36 [] [] m' Q) :
    ∀ (n : Nat) (y3 : Int) (m : zM) (B : Int), J S m0 B m → B + 1 * (n : Int) ≤ BE → (2 ≤ y3 ∧ y3 ≤ 5) → 5 - y3 < (n : Int) → R0 = fl132_2_1 k36 g0 g1 y2 n y3 m → X (EE s) d 132 2 [(0, zr g0 33), (1, zr g1 37), (2, zi y2), (3, zi y3)] [] m Q := by
  intro n
  induction n with
  | zero =>
    intro y3 m B hJ hB hy3 hn hR
    exfalso
    omega
  | succ n ih =>
    intro y3 m B hJ hB hy3 hn hR
    replace hR : R0 = fl132_2_1_b (fl132_2_1 k36 g0 g1 y2 n) k36 g0 g1 y2 y3 m := hR
    refine X.iload_n 3 i132_2 rfl rfl rfl ?_
    refine X.iconst 4 i132_3 rfl rfl (by decide) ?_
    refine X.icmpge 36 7 i132_4 rfl rfl rfl (fun h516 => ?_) (fun h516 => ?_)
    · refine X.cut [] i132_36 rfl ?_
      exact K36  m (B) (hJ.up (by omega)) (by omega)  (Eq.trans hR (Eq.trans (if_pos h516) rfl))
    · refine X.aload_n 8 i132_7 rfl rfl rfl ?_
      refine X.getR 11 i132_8 rfl rfl (by decide) rfl rfl ?_
      refine X.iload_n 12 i132_11 rfl rfl rfl ?_
      refine X.iconst 13 i132_12 rfl rfl (by decide) ?_
      refine X.iast' 14 i132_13 rfl rfl (by decide) rfl (by omega) (fun hrm517 m517 hm517 => ?_)
      have hJ518 := w36_0 hJ hm517 (by omega) hrm517 hf9 hgg0
      refine X.aload_n 15 i132_14 rfl rfl rfl ?_
      refine X.iload_n 16 i132_15 rfl rfl rfl ?_
      refine X.callv 19 [zi y3] [] [(0, zr g0 33), (1, zi y3)] i132_16 rfl (by decide) rfl rfl (by omega) rfl rfl (by decide) rfl t40 (Nat.le_of_ble_eq_true rfl) (Nat.le_of_ble_eq_true rfl) rfl ?_
      refine c40_1 (B := B) g0 y3 (by omega) (hJ518.up (by omega)) (by omega) (by omega) (fun v521 hv521 hFv521 => ?_)
      show X (EE s) d 132 19 [(0, zr g0 33), (1, zr g1 37), (2, zi y2), (3, zi y3)] [zi v521] m517 _
      have hK529 : ∀ (m' : zM), (if v521 = 0 then
          (m517)
          else
          (zs (f57_1 g0 g1 y3 0 y2 m517) fun m523 =>
          m523)) = m' → J S m0 (B + 1) m' → X (EE s) d 132 30 [(0, zr g0 33), (1, zr g1 37), (2, zi y2), (3, zi y3)] [] m' Q := by
        intro m527 hT530 hJ528
        refine X.iinc 33 [(0, zr g0 33), (1, zr g1 37), (2, zi y2), (3, zi (y3 + 1))] i132_30 rfl rfl rfl (by omega) rfl ?_
        refine X.goto 2 i132_33 rfl rfl ?_
        exact ih (y3 + 1) m527 (B + 1) (hJ528.up (by omega)) (by omega) (by omega) (by omega) (Eq.trans hR (Eq.trans (if_neg h516) (Eq.trans (zs_eq hm517) (Eq.trans (zn_eq hFv521.symm) (Eq.trans (zs_eq hT530.symm) rfl)))))
      refine X.ifeq 30 22 i132_19 rfl rfl rfl (fun h522 => ?_) (fun h522 => ?_)
      · exact hK529 m517 (Eq.trans (if_pos h522) rfl) (hJ518.up (by omega))
      · refine X.aload_n 23 i132_22 rfl rfl rfl ?_
        refine X.iload_n 24 i132_23 rfl rfl rfl ?_
        refine X.iconst 25 i132_24 rfl rfl (by decide) ?_
        refine X.aload_n 26 i132_25 rfl rfl rfl ?_
        refine X.iload_n 27 i132_26 rfl rfl rfl ?_
        refine X.callv 30 [zi y3, zi 0, zr g1 37, zi y2] [] [(0, zr g0 33), (1, zi y3), (2, zi 0), (3, zr g1 37), (4, zi y2)] i132_27 rfl (by decide) rfl rfl (by omega) rfl rfl (by decide) rfl t57 (Nat.le_of_ble_eq_true rfl) (Nat.le_of_ble_eq_true rfl) rfl ?_
        refine c57_1 (B := B) g0 g1 y3 0 y2 (by omega) (hJ518.up (by omega)) (by omega) (by omega) (by omega) (by omega) hf6 hf9 hgg0 hgg1 (fun m523 hFv525 hJ524 => ?_)
        show X (EE s) d 132 30 [(0, zr g0 33), (1, zr g1 37), (2, zi y2), (3, zi y3)] [] m523 _
        exact hK529 m523 (Eq.trans (if_neg h522) (Eq.trans (zs_eq hFv525.symm) rfl)) (hJ524.up (by omega))
-- WorkMeter$Marks.beginAnew
noncomputable def f132_1 (g0 g1 : Nat) (a2 : Int) (m : zM) : zM :=
  fl132_2_1 (fun m501 =>
  m501) g0 g1 a2 (zfu 4) 2 m
-- WorkMeter$Marks.beginAnew
theorem c132_1 {s : Nat × (Nat → Int32)} {S : zS} {m0 m : zM} {B : Int} {d : Nat} {Q : Option zV → zM → Prop} (g0 g1 : Nat) (a2 : Int) (hd : 15 ≤ d) (hJ : J S m0 B m) (hB : B + 4 ≤ 1000000000) (ha2 : 0 ≤ a2 ∧ a2 ≤ 2000000000) (hf6 : ¬ S.1 6) (hf9 : ¬ S.1 9) (hgg0 : ¬ S.2.1 g0) (hgg1 : ¬ S.2.1 g1) (hQ : ∀ m', f132_1 g0 g1 a2 m = m' → J S m0 (B + 4) m' → Q none m') : X (EE s) d 132 0 [(0, zr g0 33), (1, zr g1 37), (2, zi a2)] [] m Q := by
  refine X.iconst 1 i132_0 rfl rfl (by decide) ?_
  refine X.istore_n 2 [(0, zr g0 33), (1, zr g1 37), (2, zi a2), (3, zi 2)] i132_1 rfl rfl rfl ?_
  have hz4 := zfu_eq 4
  refine l132_2_1 (s := s) (d := d) (R0 := (f132_1 g0 g1 a2 m)) g0 g1 a2  (BE := B + 4) (by omega) (by omega) (by omega) hf6 hf9 hgg0 hgg1 (fun  m501 B502 hJ503 hBB502 hR504 => ?_) (zfu 4) 2 m (B) (hJ.up (by omega)) (by omega) (by omega) (by omega) rfl
  refine X.retv i132_36 rfl t132 ?_
  exact hQ  m501  (Eq.trans hR504 rfl) (hJ503.up (by omega)) 
-- WorkMeter$Load.addOff
noncomputable def f133_1 (g0 : Nat) (a1 a2 : Int) (m : zM) : zM :=
  zn (w32 ((m g0 27 7) + a1)) fun z502 =>
  zs (z_upd m g0 27 7 z502) fun m503 =>
  zn (zor (m503 g0 27 8) a2) fun z506 =>
  zs (z_upd m503 g0 27 8 z506) fun m507 =>
  m507
-- WorkMeter$Load.addOff
theorem c133_1 {s : Nat × (Nat → Int32)} {S : zS} {m0 m : zM} {B : Int} {d : Nat} {Q : Option zV → zM → Prop} (g0 : Nat) (a1 a2 : Int) (hd : 13 ≤ d) (hJ : J S m0 B m) (hB : B + 0 ≤ 1000000000) (ha1 : (-999998) ≤ a1 ∧ a1 ≤ 1000000) (ha2 : (-2147483648) ≤ a2 ∧ a2 ≤ 2147483647) (hf7 : ¬ S.1 7) (hgg0 : ¬ S.2.1 g0) (hQ : ∀ m', f133_1 g0 a1 a2 m = m' → J S m0 (B) m' → Q none m') : X (EE s) d 133 0 [(0, zr g0 27), (1, zi a1), (2, zi a2)] [] m Q := by
  refine X.aload_n 1 i133_0 rfl rfl rfl ?_
  refine X.dup 2 i133_1 rfl rfl rfl ?_
  refine X.getIr 5 7 i133_2 rfl rfl (by decide) rfl rfl rfl (fun h501 => ?_)
  refine X.iload_n 6 i133_5 rfl rfl rfl ?_
  refine X.iaddW 7 i133_6 rfl rfl (fun z502 ez502 hz502 => ?_)
  refine X.putI' 10 7 i133_7 rfl rfl (by decide) rfl rfl rfl (fun hrm503 m503 hm503 => ?_)
  have hJ504 := w27_3 hJ hm503 (by omega) hrm503 hf7 hgg0
  refine X.aload_n 11 i133_10 rfl rfl rfl ?_
  refine X.dup 12 i133_11 rfl rfl rfl ?_
  refine X.getIr 15 8 i133_12 rfl rfl (by decide) rfl rfl rfl (fun h505 => ?_)
  refine X.iload_n 16 i133_15 rfl rfl rfl ?_
  refine X.iiE 17 .ior (fun x y => x ||| y) i133_16 rfl rfl rfl (fun _ _ => rfl) (fun z506 ez506 hz506 => ?_)
  refine X.putI' 20 8 i133_17 rfl rfl (by decide) rfl rfl rfl (fun hrm507 m507 hm507 => ?_)
  have hJ508 := w27_3 hJ504 hm507 (by omega) hrm507 hf7 hgg0
  refine X.retv i133_20 rfl t133 ?_
  exact hQ  m507  (Eq.trans (zn_eq ez502) (Eq.trans (zs_eq hm503) (Eq.trans (zn_eq ez506) (Eq.trans (zs_eq hm507) rfl)))) (hJ508.up (by omega)) 
-- WorkMeter$Calendar.tariffOn
theorem c27_2 {s : Nat × (Nat → Int32)} {S : zS} {m0 m : zM} {B : Int} {d : Nat} {Q : Option zV → zM → Prop} (g0 : Nat) (a1 : Int) (hd : 15 ≤ d) (hJ : J S m0 B m) (hB : B + 0 ≤ 1000000000) (ha1 : 0 ≤ a1 ∧ a1 ≤ 2000185600) (hQ : ∀ (v : Int), (0 ≤ v ∧ v ≤ 3) → f27_1 g0 a1 m = v → Q (some (zi v)) m) : X (EE s) d 27 0 [(0, zr g0 11), (1, zi a1)] [] m Q := by
  refine X.aload_n 1 i27_0 rfl rfl rfl ?_
  refine X.aload_n 2 i27_1 rfl rfl rfl ?_
  refine X.iload_n 3 i27_2 rfl rfl rfl ?_
  refine X.ldc 5 i27_3 rfl rfl (by decide) ?_
  refine X.idiv 6 i27_5 rfl rfl (by omega) ?_
  refine X.callv 9 [zi (a1 / 86400)] [zr g0 11] [(0, zr g0 11), (1, zi (a1 / 86400))] i27_6 rfl (by decide) rfl rfl (by omega) rfl rfl (by decide) rfl t28 (Nat.le_of_ble_eq_true rfl) (Nat.le_of_ble_eq_true rfl) rfl ?_
  refine c28_1 (B := B) g0 (a1 / 86400) (by omega) (hJ.up (by omega)) (by omega) (by omega) (fun v503 hv503 hFv503 => ?_)
  show X (EE s) d 27 9 [(0, zr g0 11), (1, zi a1)] [zi v503, zr g0 11] m _
  refine X.iload_n 10 i27_9 rfl rfl rfl ?_
  refine X.ldc 12 i27_10 rfl rfl (by decide) ?_
  refine X.irem 13 i27_12 rfl rfl (by omega) ?_
  refine X.callv 16 [zi v503, zi (a1 % 86400)] [] [(0, zr g0 11), (1, zi v503), (2, zi (a1 % 86400))] i27_13 rfl (by decide) rfl rfl (by omega) rfl rfl (by decide) rfl t31 (Nat.le_of_ble_eq_true rfl) (Nat.le_of_ble_eq_true rfl) rfl ?_
  refine c31_1 (B := B) g0 v503 (a1 % 86400) (by omega) (hJ.up (by omega)) (by omega) (by omega) (by omega) (fun v506 hv506 hFv506 => ?_)
  show X (EE s) d 27 16 [(0, zr g0 11), (1, zi a1)] [zi v506] m _
  refine X.reti i27_16 rfl t27 ?_
  exact hQ v506 (by first | trivial | omega) (Eq.trans (zn_eq hFv503.symm) (Eq.trans (zn_eq hFv506.symm) rfl)) 
-- WorkMeter$Calendar.tariffOn
theorem c27_3 {s : Nat × (Nat → Int32)} {S : zS} {m0 m : zM} {B : Int} {d : Nat} {Q : Option zV → zM → Prop} (g0 : Nat) (a1 : Int) (hd : 15 ≤ d) (hJ : J S m0 B m) (hB : B + 0 ≤ 1000000000) (ha1 : 0 ≤ a1 ∧ a1 ≤ 2000185600) (hQ : ∀ (v : Int), (0 ≤ v ∧ v ≤ 3) → f27_1 g0 a1 m = v → Q (some (zi v)) m) : X (EE s) d 27 0 [(0, zr g0 11), (1, zi a1)] [] m Q := by
  refine X.aload_n 1 i27_0 rfl rfl rfl ?_
  refine X.aload_n 2 i27_1 rfl rfl rfl ?_
  refine X.iload_n 3 i27_2 rfl rfl rfl ?_
  refine X.ldc 5 i27_3 rfl rfl (by decide) ?_
  refine X.idiv 6 i27_5 rfl rfl (by omega) ?_
  refine X.callv 9 [zi (a1 / 86400)] [zr g0 11] [(0, zr g0 11), (1, zi (a1 / 86400))] i27_6 rfl (by decide) rfl rfl (by omega) rfl rfl (by decide) rfl t28 (Nat.le_of_ble_eq_true rfl) (Nat.le_of_ble_eq_true rfl) rfl ?_
  refine c28_1 (B := B) g0 (a1 / 86400) (by omega) (hJ.up (by omega)) (by omega) (by omega) (fun v503 hv503 hFv503 => ?_)
  show X (EE s) d 27 9 [(0, zr g0 11), (1, zi a1)] [zi v503, zr g0 11] m _
  refine X.iload_n 10 i27_9 rfl rfl rfl ?_
  refine X.ldc 12 i27_10 rfl rfl (by decide) ?_
  refine X.irem 13 i27_12 rfl rfl (by omega) ?_
  refine X.callv 16 [zi v503, zi (a1 % 86400)] [] [(0, zr g0 11), (1, zi v503), (2, zi (a1 % 86400))] i27_13 rfl (by decide) rfl rfl (by omega) rfl rfl (by decide) rfl t31 (Nat.le_of_ble_eq_true rfl) (Nat.le_of_ble_eq_true rfl) rfl ?_
  refine c31_1 (B := B) g0 v503 (a1 % 86400) (by omega) (hJ.up (by omega)) (by omega) (by omega) (by omega) (fun v506 hv506 hFv506 => ?_)
  show X (EE s) d 27 16 [(0, zr g0 11), (1, zi a1)] [zi v506] m _
  refine X.reti i27_16 rfl t27 ?_
  exact hQ v506 (by first | trivial | omega) (Eq.trans (zn_eq hFv503.symm) (Eq.trans (zn_eq hFv506.symm) rfl)) 
noncomputable def fl131_43_1_b (self : Int → Int → zM → zM) (k133 : zM → zM) (g0 : Nat) (y1 y2 : Int) (y3 y4 : Int) (m : zM) : zM :=
  if y1 ≤ y4 then
  (k133 m)
  else
  (if y3 ≤ 0 then
  (k133 m)
  else
  (zn (((m g0 8 9) % y2)) fun z527 =>
  zs (f133_1 g0 (min y3 (y2 - z527)) (m g0 33 3) m) fun m529 =>
  zn (w32 ((m529 g0 8 15) + (min y3 (y2 - z527)))) fun z534 =>
  zs (z_upd m529 g0 8 15 z534) fun m535 =>
  zs (z_upd m535 g0 8 9 ((m535 g0 8 9) + (min y3 (y2 - z527)))) fun m538 =>
  zn (f27_1 g0 ((m538 g0 8 9) - 1) m538) fun v542 =>
  zs (f59_1 g0 v542 m538) fun m543 =>
  self (y3 - (min y3 (y2 - z527))) (y4 + 1) m543))
noncomputable def fl131_43_1 (k133 : zM → zM) (g0 : Nat) (y1 y2 : Int) : Nat → Int → Int → zM → zM
  | 0 => fun y3 y4 m => m
  | n + 1 => fl131_43_1_b (fl131_43_1 k133 g0 y1 y2 n) k133 g0 y1 y2
theorem l131_43_1 {s : Nat × (Nat → Int32)} {S : zS} {m0 : zM} {d : Nat} {Q : Option zV → zM → Prop} {R0 : zM} {k133 : zM → zM} (g0 : Nat) (y1 y2 : Int) (BE : Int) (hE : BE ≤ 1000000000) (hd : 17 ≤ d) (hy1 : 1 ≤ y1 ∧ y1 ≤ 100000) (hy2 : 1 ≤ y2 ∧ y2 ≤ 1000000) (hf7 : ¬ S.1 7) (hf8 : ¬ S.1 8) (hf11 : ¬ S.1 11) (hf13 : ¬ S.1 13) (hgg0 : ¬ S.2.1 g0)
    (K133 : ∀ (m' : zM) (B' : Int), J S m0 B' m' → B' ≤ BE → R0 = k133 m' → X (EE s) d 131 133 [] [] m' Q) :
    ∀ (n : Nat) (y3 y4 : Int) (m : zM) (B : Int), J S m0 B m → B + 1 * (n : Int) ≤ BE → (0 ≤ y3 ∧ y3 ≤ 2000000000) → (0 ≤ y4 ∧ y4 ≤ 100000) → (m g0 8 9 + y3 ≤ 2000000000) → (0 ≤ y3) → 100000 - y4 < (n : Int) → R0 = fl131_43_1 k133 g0 y1 y2 n y3 y4 m → X (EE s) d 131 43 [(0, zr g0 8), (1, zi y1), (2, zi y2), (3, zi y3), (4, zi y4)] [] m Q := by
  intro n
  induction n with
  | zero =>
    intro y3 y4 m B hJ hB hy3 hy4 hr0 hr1 hn hR
    exfalso
    omega
  | succ n ih =>
    intro y3 y4 m B hJ hB hy3 hy4 hr0 hr1 hn hR
    replace hR : R0 = fl131_43_1_b (fl131_43_1 k133 g0 y1 y2 n) k133 g0 y1 y2 y3 y4 m := hR
    refine X.iload 45 i131_43 rfl rfl rfl ?_
    refine X.iload_n 46 i131_45 rfl rfl rfl ?_
    refine X.icmpge 133 49 i131_46 rfl rfl rfl (fun h524 => ?_) (fun h524 => ?_)
    · refine X.cut [] i131_133 rfl ?_
      exact K133  m (B) (hJ.up (by omega)) (by omega)  (Eq.trans hR (Eq.trans (if_pos h524) rfl))
    · refine X.iload_n 50 i131_49 rfl rfl rfl ?_
      refine X.ifle 133 53 i131_50 rfl rfl rfl (fun h525 => ?_) (fun h525 => ?_)
      · refine X.cut [] i131_133 rfl ?_
        exact K133  m (B) (hJ.up (by omega)) (by omega)  (Eq.trans hR (Eq.trans (if_neg h524) (Eq.trans (if_pos h525) rfl)))
      · refine X.iload_n 54 i131_53 rfl rfl rfl ?_
        refine X.iload_n 55 i131_54 rfl rfl rfl ?_
        refine X.aload_n 56 i131_55 rfl rfl rfl ?_
        refine X.getI 59 9 i131_56 rfl rfl (by decide) rfl rfl rfl ?_
        have h526 := r8_9 hJ g0
        refine X.iload_n 60 i131_59 rfl rfl rfl ?_
        refine X.irem 61 i131_60 rfl rfl (by omega) ?_
        have hz527 := z_modb (x := (m g0 8 9)) (y := y2) (by omega) (by omega)
        obtain ⟨z527, ez527⟩ : ∃ z, z = ((m g0 8 9) % y2) := ⟨_, rfl⟩
        rw [← ez527] at hz527 ⊢
        refine X.isub 62 i131_61 rfl rfl (by omega) ?_
        refine X.minI 65 i131_62 rfl rfl (by omega) (Nat.le_of_ble_eq_true rfl) ?_
        refine X.istore 67 [(0, zr g0 8), (1, zi y1), (2, zi y2), (3, zi y3), (4, zi y4), (5, zi (min y3 (y2 - z527)))] i131_65 rfl rfl rfl ?_
        refine X.aload_n 68 i131_67 rfl rfl rfl ?_
        refine X.getR 71 i131_68 rfl rfl (by decide) rfl rfl ?_
        refine X.iload 73 i131_71 rfl rfl rfl ?_
        refine X.aload_n 74 i131_73 rfl rfl rfl ?_
        refine X.getR 77 i131_74 rfl rfl (by decide) rfl rfl ?_
        refine X.getIr 80 3 i131_77 rfl rfl (by decide) rfl rfl rfl (fun h528 => ?_)
        refine X.callv 83 [zi (min y3 (y2 - z527)), zi (m g0 33 3)] [] [(0, zr g0 27), (1, zi (min y3 (y2 - z527))), (2, zi (m g0 33 3))] i131_80 rfl (by decide) rfl rfl (by omega) rfl rfl (by decide) rfl t133 (Nat.le_of_ble_eq_true rfl) (Nat.le_of_ble_eq_true rfl) rfl ?_
        refine c133_1 (S := (fun f => f ∉ [7], fun g => g ∉ [g0], (S).2.2)) (m0 := m) (B := B) g0 (min y3 (y2 - z527)) (m g0 33 3) (by omega) ((J.nw hJ).up (by omega)) (by omega) (by omega) (by omega) (zo_m rfl) (by simp) (fun m529 hFv531 hJ530 => ?_)
        have wom529_8 : m529 g0 8 9 = m g0 8 9 := hJ530.eqf 11 rfl (show (11 : Nat) ∉ ([7] : List Nat) by decide)
        have hJ532 := J.ow hJ hJ530 (zo_c hf7 (zo_n)) (zo_c hgg0 (zo_n))
        show X (EE s) d 131 83 [(0, zr g0 8), (1, zi y1), (2, zi y2), (3, zi y3), (4, zi y4), (5, zi (min y3 (y2 - z527)))] [] m529 _
        refine X.aload_n 84 i131_83 rfl rfl rfl ?_
        refine X.dup 85 i131_84 rfl rfl rfl ?_
        refine X.getIr 88 15 i131_85 rfl rfl (by decide) rfl rfl rfl (fun h533 => ?_)
        refine X.iload 90 i131_88 rfl rfl rfl ?_
        refine X.iaddW 91 i131_90 rfl rfl (fun z534 ez534 hz534 => ?_)
        refine X.putI' 94 15 i131_91 rfl rfl (by decide) rfl rfl rfl (fun hrm535 m535 hm535 => ?_)
        have hJ536 := w8_13 hJ532 hm535 (by omega) hrm535 hf13 hgg0
        have wtm535_0 : m535 g0 8 9 = m529 g0 8 9 := by rw [hm535]; exact z_upd_i _ _ _ _ (by omega)
        refine X.aload_n 95 i131_94 rfl rfl rfl ?_
        refine X.dup 96 i131_95 rfl rfl rfl ?_
        refine X.getI 99 9 i131_96 rfl rfl (by decide) rfl rfl rfl ?_
        have h537 := r8_9 hJ536 g0
        refine X.iload 101 i131_99 rfl rfl rfl ?_
        refine X.iadd 102 i131_101 rfl rfl (by omega) ?_
        refine X.putI' 105 9 i131_102 rfl rfl (by decide) rfl rfl rfl (fun hrm538 m538 hm538 => ?_)
        have hJ539 := w8_9 hJ536 hm538 (by omega) hf11 hgg0
        have em538 : m538 g0 8 9 = ((m535 g0 8 9) + (min y3 (y2 - z527))) := by rw [hm538]; exact z_upd_same _ _ _ _ _
        refine X.iload_n 106 i131_105 rfl rfl rfl ?_
        refine X.iload 108 i131_106 rfl rfl rfl ?_
        refine X.isub 109 i131_108 rfl rfl (by omega) ?_
        refine X.istore_n 110 [(0, zr g0 8), (1, zi y1), (2, zi y2), (3, zi (y3 - (min y3 (y2 - z527)))), (4, zi y4), (5, zi (min y3 (y2 - z527)))] i131_109 rfl rfl rfl ?_
        refine X.aload_n 111 i131_110 rfl rfl rfl ?_
        refine X.aload_n 112 i131_111 rfl rfl rfl ?_
        refine X.getR 115 i131_112 rfl rfl (by decide) rfl rfl ?_
        refine X.aload_n 116 i131_115 rfl rfl rfl ?_
        refine X.getI 119 9 i131_116 rfl rfl (by decide) rfl rfl rfl ?_
        refine X.iconst 120 i131_119 rfl rfl (by decide) ?_
        refine X.isub 121 i131_120 rfl rfl (by omega) ?_
        refine X.callv 124 [zi ((m538 g0 8 9) - 1)] [zr g0 8] [(0, zr g0 11), (1, zi ((m538 g0 8 9) - 1))] i131_121 rfl (by decide) rfl rfl (by omega) rfl rfl (by decide) rfl t27 (Nat.le_of_ble_eq_true rfl) (Nat.le_of_ble_eq_true rfl) rfl ?_
        refine c27_3 (B := B) g0 ((m538 g0 8 9) - 1) (by omega) (hJ539.up (by omega)) (by omega) (by omega) (fun v542 hv542 hFv542 => ?_)
        show X (EE s) d 131 124 [(0, zr g0 8), (1, zi y1), (2, zi y2), (3, zi (y3 - (min y3 (y2 - z527)))), (4, zi y4), (5, zi (min y3 (y2 - z527)))] [zi v542, zr g0 8] m538 _
        refine X.callv 127 [zi v542] [] [(0, zr g0 8), (1, zi v542)] i131_124 rfl (by decide) rfl rfl (by omega) rfl rfl (by decide) rfl t59 (Nat.le_of_ble_eq_true rfl) (Nat.le_of_ble_eq_true rfl) rfl ?_
        refine c59_1 (S := (fun f => f ∉ [7, 8], fun g => g ∉ [g0], (S).2.2)) (m0 := m538) (B := B) g0 v542 (by omega) ((J.nw hJ539).up (by omega)) (by omega) (by omega) (zo_m rfl) (zo_m rfl) (by simp) (fun m543 hFv545 hJ544 => ?_)
        have wom543_8 : m543 g0 8 9 = m538 g0 8 9 := hJ544.eqf 11 rfl (show (11 : Nat) ∉ ([7, 8] : List Nat) by decide)
        have hJ546 := J.ow hJ539 hJ544 (zo_c hf7 (zo_c hf8 (zo_n))) (zo_c hgg0 (zo_n))
        show X (EE s) d 131 127 [(0, zr g0 8), (1, zi y1), (2, zi y2), (3, zi (y3 - (min y3 (y2 - z527)))), (4, zi y4), (5, zi (min y3 (y2 - z527)))] [] m543 _
        refine X.iinc 130 [(0, zr g0 8), (1, zi y1), (2, zi y2), (3, zi (y3 - (min y3 (y2 - z527)))), (4, zi (y4 + 1)), (5, zi (min y3 (y2 - z527)))] i131_127 rfl rfl rfl (by omega) rfl ?_
        refine X.goto 43 i131_130 rfl rfl ?_
        refine X.cut [(0, zr g0 8), (1, zi y1), (2, zi y2), (3, zi (y3 - (min y3 (y2 - z527)))), (4, zi (y4 + 1))] i131_43 rfl ?_
        exact ih (y3 - (min y3 (y2 - z527))) (y4 + 1) m543 (B + 1) (hJ546.up (by omega)) (by omega) (by omega) (by omega) (by omega) (by omega) (by omega) (Eq.trans hR (Eq.trans (if_neg h524) (Eq.trans (if_neg h525) (Eq.trans (zn_eq ez527) (Eq.trans (zs_eq hFv531.symm) (Eq.trans (zn_eq ez534) (Eq.trans (zs_eq hm535) (Eq.trans (zs_eq hm538) (Eq.trans (zn_eq hFv542.symm) (Eq.trans (zs_eq hFv545.symm) rfl))))))))))
-- WorkMeter$Meter.goOff
noncomputable def f131_1 (g0 : Nat) (a1 : Int) (m : zM) : zM :=
  zs (f54_1 g0 21 a1 m) fun m501 =>
  zs (f132_1 g0 g0 (m501 g0 8 9) m501) fun m506 =>
  zs (z_upd m506 g0 19 5 0) fun m510 =>
  fl131_43_1 (fun m513 =>
  m513) g0 a1 (max 1 (m510 g0 10 4)) (zfu 100001) a1 0 m510
-- WorkMeter$Meter.goOff
theorem c131_1 {s : Nat × (Nat → Int32)} {S : zS} {m0 m : zM} {B : Int} {d : Nat} {Q : Option zV → zM → Prop} (g0 : Nat) (a1 : Int) (hd : 17 ≤ d) (hJ : J S m0 B m) (hB : B + 100006 ≤ 1000000000) (ha1 : 1 ≤ a1 ∧ a1 ≤ 100000) (hp0 : m g0 8 9 + a1 ≤ 2000000000) (hf2 : ¬ S.1 2) (hf6 : ¬ S.1 6) (hf7 : ¬ S.1 7) (hf8 : ¬ S.1 8) (hf9 : ¬ S.1 9) (hf11 : ¬ S.1 11) (hf13 : ¬ S.1 13) (hgg0 : ¬ S.2.1 g0) (hQ : ∀ m', f131_1 g0 a1 m = m' → J S m0 (B + 100006) m' → Q none m') : X (EE s) d 131 0 [(0, zr g0 8), (1, zi a1)] [] m Q := by
  refine X.aload_n 1 i131_0 rfl rfl rfl ?_
  refine X.bipush 3 i131_1 rfl rfl (by decide) ?_
  refine X.iload_n 4 i131_3 rfl rfl rfl ?_
  refine X.callv 7 [zi 21, zi a1] [] [(0, zr g0 8), (1, zi 21), (2, zi a1)] i131_4 rfl (by decide) rfl rfl (by omega) rfl rfl (by decide) rfl t54 (Nat.le_of_ble_eq_true rfl) (Nat.le_of_ble_eq_true rfl) rfl ?_
  refine c54_7 (S := (fun f => f ∉ [6], fun g => g ∉ [g0], (S).2.2)) (m0 := m) (B := B) g0 21 a1 (by omega) ((J.nw hJ).up (by omega)) (by omega) (by omega) (by omega) (zo_m rfl) (by simp) (fun m501 hFv503 hJ502 => ?_)
  have wom501_8 : m501 g0 8 9 = m g0 8 9 := hJ502.eqf 11 rfl (show (11 : Nat) ∉ ([6] : List Nat) by decide)
  have hJ504 := J.ow hJ hJ502 (zo_c hf6 (zo_n)) (zo_c hgg0 (zo_n))
  show X (EE s) d 131 7 [(0, zr g0 8), (1, zi a1)] [] m501 _
  refine X.aload_n 8 i131_7 rfl rfl rfl ?_
  refine X.getR 11 i131_8 rfl rfl (by decide) rfl rfl ?_
  refine X.aload_n 12 i131_11 rfl rfl rfl ?_
  refine X.getR 15 i131_12 rfl rfl (by decide) rfl rfl ?_
  refine X.aload_n 16 i131_15 rfl rfl rfl ?_
  refine X.getI 19 9 i131_16 rfl rfl (by decide) rfl rfl rfl ?_
  have h505 := r8_9 hJ504 g0
  refine X.callv 22 [zr g0 37, zi (m501 g0 8 9)] [] [(0, zr g0 33), (1, zr g0 37), (2, zi (m501 g0 8 9))] i131_19 rfl (by decide) rfl rfl (by omega) rfl rfl (by decide) rfl t132 (Nat.le_of_ble_eq_true rfl) (Nat.le_of_ble_eq_true rfl) rfl ?_
  refine c132_1 (S := (fun f => f ∉ [6, 9], fun g => g ∉ [g0, g0], (S).2.2)) (m0 := m501) (B := B + 1) g0 g0 (m501 g0 8 9) (by omega) ((J.nw hJ504).up (by omega)) (by omega) (by omega) (zo_m rfl) (zo_m rfl) (by simp) (by simp) (fun m506 hFv508 hJ507 => ?_)
  have wom506_8 : m506 g0 8 9 = m501 g0 8 9 := hJ507.eqf 11 rfl (show (11 : Nat) ∉ ([6, 9] : List Nat) by decide)
  have hJ509 := J.ow hJ504 hJ507 (zo_c hf6 (zo_c hf9 (zo_n))) (zo_c hgg0 (zo_c hgg0 (zo_n)))
  show X (EE s) d 131 22 [(0, zr g0 8), (1, zi a1)] [] m506 _
  refine X.aload_n 23 i131_22 rfl rfl rfl ?_
  refine X.getR 26 i131_23 rfl rfl (by decide) rfl rfl ?_
  refine X.iconst 27 i131_26 rfl rfl (by decide) ?_
  refine X.putI' 30 5 i131_27 rfl rfl (by decide) rfl rfl rfl (fun hrm510 m510 hm510 => ?_)
  have hJ511 := w19_5 hJ509 hm510 (by omega) hf2 hgg0
  have em510 : m510 g0 19 5 = 0 := by rw [hm510]; exact z_upd_same _ _ _ _ _
  have wtm510_0 : m510 g0 8 9 = m506 g0 8 9 := by rw [hm510]; exact z_upd_o _ _ rfl
  refine X.aload_n 31 i131_30 rfl rfl rfl ?_
  refine X.getR 34 i131_31 rfl rfl (by decide) rfl rfl ?_
  refine X.callv 37 [] [] [(0, zr g0 9)] i131_34 rfl (by decide) rfl rfl (by omega) rfl rfl (by decide) rfl t36 (Nat.le_of_ble_eq_true rfl) (Nat.le_of_ble_eq_true rfl) rfl ?_
  refine X.iconst 1 i36_0 rfl rfl (by decide) ?_
  refine X.aload_n 2 i36_1 rfl rfl rfl ?_
  refine X.getR 5 i36_2 rfl rfl (by decide) rfl rfl ?_
  refine X.iconst 6 i36_5 rfl rfl (by decide) ?_
  refine X.iald 7 i36_6 rfl rfl (by decide) rfl (by omega) ?_
  have h512 := r10_0 hJ511 g0 (i := 4) (by omega)
  refine X.maxI 10 i36_7 rfl rfl (by omega) (Nat.le_of_ble_eq_true rfl) ?_
  refine X.reti i36_10 rfl t36 ?_
  show X (EE s) d 131 37 [(0, zr g0 8), (1, zi a1)] [zi (max 1 (m510 g0 10 4))] m510 _
  refine X.istore_n 38 [(0, zr g0 8), (1, zi a1), (2, zi (max 1 (m510 g0 10 4)))] i131_37 rfl rfl rfl ?_
  refine X.iload_n 39 i131_38 rfl rfl rfl ?_
  refine X.istore_n 40 [(0, zr g0 8), (1, zi a1), (2, zi (max 1 (m510 g0 10 4))), (3, zi a1)] i131_39 rfl rfl rfl ?_
  refine X.iconst 41 i131_40 rfl rfl (by decide) ?_
  refine X.istore 43 [(0, zr g0 8), (1, zi a1), (2, zi (max 1 (m510 g0 10 4))), (3, zi a1), (4, zi 0)] i131_41 rfl rfl rfl ?_
  have hz100001 := zfu_eq 100001
  refine l131_43_1 (s := s) (d := d) (R0 := (f131_1 g0 a1 m)) g0 a1 (max 1 (m510 g0 10 4))  (BE := B + 100006) (by omega) (by omega) (by omega) (by omega) hf7 hf8 hf11 hf13 hgg0 (fun  m513 B514 hJ515 hBB514 hR516 => ?_) (zfu 100001) a1 0 m510 (B + 5) (hJ511.up (by omega)) (by omega) (by omega) (by omega) (by omega) (by omega) (by omega) (Eq.trans (zs_eq hFv503.symm) (Eq.trans (zs_eq hFv508.symm) (Eq.trans (zs_eq hm510) rfl)))
  refine X.retv i131_133 rfl t131 ?_
  exact hQ  m513  (Eq.trans hR516 rfl) (hJ515.up (by omega)) 
-- WorkMeter.off
noncomputable def f130_1 (a1 : Int) (m : zM) : Int × zM :=
  if a1 < 1 then
  (((-1), m))
  else
  (if 100000 < a1 then
  (((-1), m))
  else
  (if ((m 0 8 9) + a1) ≤ 2000000000 then
  (zs (f131_1 0 a1 m) fun m505 =>
  ((m505 0 8 9), m505))
  else
  (((-1), m))))
-- WorkMeter.off
theorem c130_1 {s : Nat × (Nat → Int32)} {S : zS} {m0 m : zM} {B : Int} {d : Nat} {Q : Option zV → zM → Prop} (a1 : Int) (hd : 18 ≤ d) (hJ : J S m0 B m) (hB : B + 100006 ≤ 1000000000) (ha1 : (-2147483648) ≤ a1 ∧ a1 ≤ 2147483647) (hf2 : ¬ S.1 2) (hf6 : ¬ S.1 6) (hf7 : ¬ S.1 7) (hf8 : ¬ S.1 8) (hf9 : ¬ S.1 9) (hf11 : ¬ S.1 11) (hf13 : ¬ S.1 13) (hg0 : ¬ S.2.1 0) (hQ : ∀ (v : Int) m', ((-1) ≤ v ∧ v ≤ 2000000000) → f130_1 a1 m = (v, m') → J S m0 (B + 100006) m' → Q (some (zi v)) m') : X (EE s) d 130 0 [(0, zr 4 40), (1, zi a1)] [] m Q := by
  refine X.iload_n 1 i130_0 rfl rfl rfl ?_
  refine X.iconst 2 i130_1 rfl rfl (by decide) ?_
  refine X.icmplt 25 5 i130_2 rfl rfl rfl (fun h501 => ?_) (fun h501 => ?_)
  · refine X.cut [] i130_25 rfl ?_
    refine X.iconst 26 i130_25 rfl rfl (by decide) ?_
    refine X.reti i130_26 rfl t130 ?_
    exact hQ (-1) m (by first | trivial | omega) (Eq.trans (if_pos h501) rfl) (hJ.up (by omega)) 
  · refine X.iload_n 6 i130_5 rfl rfl rfl ?_
    refine X.ldc 8 i130_6 rfl rfl (by decide) ?_
    refine X.icmpgt 25 11 i130_8 rfl rfl rfl (fun h502 => ?_) (fun h502 => ?_)
    · refine X.cut [] i130_25 rfl ?_
      refine X.iconst 26 i130_25 rfl rfl (by decide) ?_
      refine X.reti i130_26 rfl t130 ?_
      exact hQ (-1) m (by first | trivial | omega) (Eq.trans (if_neg h501) (Eq.trans (if_pos h502) rfl)) (hJ.up (by omega)) 
    · refine X.aload_n 12 i130_11 rfl rfl rfl ?_
      refine X.getF 15 i130_12 rfl rfl (by decide) rfl rfl ?_
      refine X.getI 18 9 i130_15 rfl rfl (by decide) rfl rfl rfl ?_
      have h503 := r8_9 hJ 0
      refine X.iload_n 19 i130_18 rfl rfl rfl ?_
      refine X.iadd 20 i130_19 rfl rfl (by omega) ?_
      refine X.ldc 22 i130_20 rfl rfl (by decide) ?_
      refine X.icmple 27 25 i130_22 rfl rfl rfl (fun h504 => ?_) (fun h504 => ?_)
      · refine X.aload_n 28 i130_27 rfl rfl rfl ?_
        refine X.getF 31 i130_28 rfl rfl (by decide) rfl rfl ?_
        refine X.iload_n 32 i130_31 rfl rfl rfl ?_
        refine X.callv 35 [zi a1] [] [(0, zr 0 8), (1, zi a1)] i130_32 rfl (by decide) rfl rfl (by omega) rfl rfl (by decide) rfl t131 (Nat.le_of_ble_eq_true rfl) (Nat.le_of_ble_eq_true rfl) rfl ?_
        refine c131_1 (B := B) 0 a1 (by omega) (hJ.up (by omega)) (by omega) (by omega) (by omega) hf2 hf6 hf7 hf8 hf9 hf11 hf13 hg0 (fun m505 hFv507 hJ506 => ?_)
        show X (EE s) d 130 35 [(0, zr 4 40), (1, zi a1)] [] m505 _
        refine X.aload_n 36 i130_35 rfl rfl rfl ?_
        refine X.getF 39 i130_36 rfl rfl (by decide) rfl rfl ?_
        refine X.getI 42 9 i130_39 rfl rfl (by decide) rfl rfl rfl ?_
        have h508 := r8_9 hJ506 0
        refine X.reti i130_42 rfl t130 ?_
        exact hQ (m505 0 8 9) m505 (by first | trivial | omega) (Eq.trans (if_neg h501) (Eq.trans (if_neg h502) (Eq.trans (if_pos h504) (Eq.trans (zs_eq hFv507.symm) rfl)))) (hJ506.up (by omega)) 
      · refine X.cut [] i130_25 rfl ?_
        refine X.iconst 26 i130_25 rfl rfl (by decide) ?_
        refine X.reti i130_26 rfl t130 ?_
        exact hQ (-1) m (by first | trivial | omega) (Eq.trans (if_neg h501) (Eq.trans (if_neg h502) (Eq.trans (if_neg h504) rfl))) (hJ.up (by omega)) 
noncomputable def fl282_47_1_b (self : Int → zM → Int × zM) (k87 : zM → Int × zM) (y1 : Int) (y2 : Int) (m : zM) : Int × zM :=
  if 5 ≤ y2 then
  (k87 m)
  else
  (zs (z_upd m 4 45 (55 + y2) 0) fun m515 =>
  zs (if (m515 4 45 (40 + y2)) = 1 then
  (zs (f229_1 y2 m515) fun m519 =>
  m519)
  else
  (m515)) fun m523 =>
  self (y2 + 1) m523)
noncomputable def fl282_47_1 (k87 : zM → Int × zM) (y1 : Int) : Nat → Int → zM → Int × zM
  | 0 => fun y2 m => (0, m)
  | n + 1 => fl282_47_1_b (fl282_47_1 k87 y1 n) k87 y1
theorem l282_47_1 {s : Nat × (Nat → Int32)} {S : zS} {m0 : zM} {d : Nat} {Q : Option zV → zM → Prop} {R0 : Int × zM} {k87 : zM → Int × zM} (y1 : Int) (BE : Int) (hE : BE ≤ 1000000000) (hd : 15 ≤ d) (hy1 : 1 ≤ y1 ∧ y1 ≤ 100000) (hf26 : ¬ S.1 26) (hf29 : ¬ S.1 29) (hg4 : ¬ S.2.1 4)
    (K87 : ∀ (m' : zM) (B' : Int), J S m0 B' m' → B' ≤ BE → R0 = k87 m' → X (EE s) d 282 87 [(0, zr 4 44), (1, zi y1)] [] m' Q) :
    ∀ (n : Nat) (y2 : Int) (m : zM) (B : Int), J S m0 B m → B + 1 * (n : Int) ≤ BE → (2 ≤ y2 ∧ y2 ≤ 5) → 5 - y2 < (n : Int) → R0 = fl282_47_1 k87 y1 n y2 m → X (EE s) d 282 47 [(0, zr 4 44), (1, zi y1), (2, zi y2)] [] m Q := by
  intro n
  induction n with
  | zero =>
    intro y2 m B hJ hB hy2 hn hR
    exfalso
    omega
  | succ n ih =>
    intro y2 m B hJ hB hy2 hn hR
    replace hR : R0 = fl282_47_1_b (fl282_47_1 k87 y1 n) k87 y1 y2 m := hR
    refine X.iload_n 48 i282_47 rfl rfl rfl ?_
    refine X.iconst 49 i282_48 rfl rfl (by decide) ?_
    refine X.icmpge 87 52 i282_49 rfl rfl rfl (fun h514 => ?_) (fun h514 => ?_)
    · refine X.cut [(0, zr 4 44), (1, zi y1)] i282_87 rfl ?_
      exact K87  m (B) (hJ.up (by omega)) (by omega)  (Eq.trans hR (Eq.trans (if_pos h514) rfl))
    · refine X.aload_n 53 i282_52 rfl rfl rfl ?_
      refine X.getF 56 i282_53 rfl rfl (by decide) rfl rfl ?_
      refine X.bipush 58 i282_56 rfl rfl (by decide) ?_
      refine X.iload_n 59 i282_58 rfl rfl rfl ?_
      refine X.iadd 60 i282_59 rfl rfl (by omega) ?_
      refine X.lconst (y := 0) 61 i282_60 rfl rfl rfl ?_
      refine X.last' 62 i282_61 rfl rfl (by decide) rfl (by omega) (fun hrm515 m515 hm515 => ?_)
      have hJ516 := w45_40 hJ hm515 (by omega) hrm515 hf29 hg4
      refine X.aload_n 63 i282_62 rfl rfl rfl ?_
      refine X.getF 66 i282_63 rfl rfl (by decide) rfl rfl ?_
      refine X.bipush 68 i282_66 rfl rfl (by decide) ?_
      refine X.iload_n 69 i282_68 rfl rfl rfl ?_
      refine X.iadd 70 i282_69 rfl rfl (by omega) ?_
      refine X.lald 71 i282_70 rfl rfl (by decide) rfl (by omega) ?_
      refine X.lconst (y := 1) 72 i282_71 rfl rfl rfl ?_
      refine X.lcmp 73 i282_72 rfl rfl (fun z517 hz517 => ?_)
      have hK525 : ∀ (m' : zM), (if (m515 4 45 (40 + y2)) = 1 then
          (zs (f229_1 y2 m515) fun m519 =>
          m519)
          else
          (m515)) = m' → J S m0 (B + 1) m' → X (EE s) d 282 81 [(0, zr 4 44), (1, zi y1), (2, zi y2)] [] m' Q := by
        intro m523 hT526 hJ524
        refine X.iinc 84 [(0, zr 4 44), (1, zi y1), (2, zi (y2 + 1))] i282_81 rfl rfl rfl (by omega) rfl ?_
        refine X.goto 47 i282_84 rfl rfl ?_
        exact ih (y2 + 1) m523 (B + 1) (hJ524.up (by omega)) (by omega) (by omega) (by omega) (Eq.trans hR (Eq.trans (if_neg h514) (Eq.trans (zs_eq hm515) (Eq.trans (zs_eq hT526.symm) rfl))))
      refine X.ifne 81 76 i282_73 rfl rfl rfl (fun h518 => ?_) (fun h518 => ?_)
      · have h518c : ¬ (m515 4 45 (40 + y2)) = 1 := by omega
        clear h518 hz517
        exact hK525 m515 (Eq.trans (if_neg h518c) rfl) (hJ516.up (by omega))
      · have h518c : (m515 4 45 (40 + y2)) = 1 := by omega
        clear h518 hz517
        refine X.aload_n 77 i282_76 rfl rfl rfl ?_
        refine X.iload_n 78 i282_77 rfl rfl rfl ?_
        refine X.callv 81 [zi y2] [] [(0, zr 4 44), (1, zi y2)] i282_78 rfl (by decide) rfl rfl (by omega) rfl rfl (by decide) rfl t229 (Nat.le_of_ble_eq_true rfl) (Nat.le_of_ble_eq_true rfl) rfl ?_
        refine c229_1 (B := B)  y2 (by omega) (hJ516.up (by omega)) (by omega) (by omega) hf26 hf29 hg4 (fun m519 hFv521 hJ520 => ?_)
        show X (EE s) d 282 81 [(0, zr 4 44), (1, zi y1), (2, zi y2)] [] m519 _
        exact hK525 m519 (Eq.trans (if_pos h518c) (Eq.trans (zs_eq hFv521.symm) rfl)) (hJ520.up (by omega))
noncomputable def fl282_89_1_b (self : Int → zM → Int × zM) (k126 : zM → Int × zM) (y1 : Int) (y2 : Int) (m : zM) : Int × zM :=
  if y1 ≤ y2 then
  (k126 m)
  else
  (zn (w64 ((m 4 45 15) + 1)) fun z512 =>
  zs (z_upd m 4 45 15 z512) fun m513 =>
  zn (w64 ((m513 4 45 26) + 1)) fun z515 =>
  zs (z_upd m513 4 45 26 z515) fun m516 =>
  zs (f230_1 m516) fun m518 =>
  self (y2 + 1) m518)
noncomputable def fl282_89_1 (k126 : zM → Int × zM) (y1 : Int) : Nat → Int → zM → Int × zM
  | 0 => fun y2 m => (0, m)
  | n + 1 => fl282_89_1_b (fl282_89_1 k126 y1 n) k126 y1
theorem l282_89_1 {s : Nat × (Nat → Int32)} {S : zS} {m0 : zM} {d : Nat} {Q : Option zV → zM → Prop} {R0 : Int × zM} {k126 : zM → Int × zM} (y1 : Int) (BE : Int) (hE : BE ≤ 1000000000) (hd : 19 ≤ d) (hy1 : 1 ≤ y1 ∧ y1 ≤ 100000) (hf27 : ¬ S.1 27) (hf28 : ¬ S.1 28) (hf31 : ¬ S.1 31) (hf33 : ¬ S.1 33) (hg4 : ¬ S.2.1 4)
    (K126 : ∀ (m' : zM) (B' : Int), J S m0 B' m' → B' ≤ BE → R0 = k126 m' → X (EE s) d 282 126 [(0, zr 4 44)] [] m' Q) :
    ∀ (n : Nat) (y2 : Int) (m : zM) (B : Int), J S m0 B m → B + 1 * (n : Int) ≤ BE → (0 ≤ y2 ∧ y2 ≤ 100000) → 100000 - y2 < (n : Int) → R0 = fl282_89_1 k126 y1 n y2 m → X (EE s) d 282 89 [(0, zr 4 44), (1, zi y1), (2, zi y2)] [] m Q := by
  intro n
  induction n with
  | zero =>
    intro y2 m B hJ hB hy2 hn hR
    exfalso
    omega
  | succ n ih =>
    intro y2 m B hJ hB hy2 hn hR
    replace hR : R0 = fl282_89_1_b (fl282_89_1 k126 y1 n) k126 y1 y2 m := hR
    refine X.iload_n 90 i282_89 rfl rfl rfl ?_
    refine X.iload_n 91 i282_90 rfl rfl rfl ?_
    refine X.icmpge 126 94 i282_91 rfl rfl rfl (fun h511 => ?_) (fun h511 => ?_)
    · refine X.cut [(0, zr 4 44)] i282_126 rfl ?_
      exact K126  m (B) (hJ.up (by omega)) (by omega)  (Eq.trans hR (Eq.trans (if_pos h511) rfl))
    · refine X.aload_n 95 i282_94 rfl rfl rfl ?_
      refine X.getF 98 i282_95 rfl rfl (by decide) rfl rfl ?_
      refine X.bipush 100 i282_98 rfl rfl (by decide) ?_
      refine X.dup2 101 i282_100 rfl rfl ?_
      refine X.lald 102 i282_101 rfl rfl (by decide) rfl (by omega) ?_
      refine X.lconst (y := 1) 103 i282_102 rfl rfl rfl ?_
      refine X.laddW 104 i282_103 rfl rfl (fun z512 ez512 hz512 => ?_)
      refine X.last' 105 i282_104 rfl rfl (by decide) rfl (by omega) (fun hrm513 m513 hm513 => ?_)
      have hJ514 := w45_14 hJ hm513 (by omega) hrm513 hf33 hg4
      refine X.aload_n 106 i282_105 rfl rfl rfl ?_
      refine X.getF 109 i282_106 rfl rfl (by decide) rfl rfl ?_
      refine X.bipush 111 i282_109 rfl rfl (by decide) ?_
      refine X.dup2 112 i282_111 rfl rfl ?_
      refine X.lald 113 i282_112 rfl rfl (by decide) rfl (by omega) ?_
      refine X.lconst (y := 1) 114 i282_113 rfl rfl rfl ?_
      refine X.laddW 115 i282_114 rfl rfl (fun z515 ez515 hz515 => ?_)
      refine X.last' 116 i282_115 rfl rfl (by decide) rfl (by omega) (fun hrm516 m516 hm516 => ?_)
      have hJ517 := w45_21 hJ514 hm516 (by omega) hrm516 hf27 hg4
      refine X.aload_n 117 i282_116 rfl rfl rfl ?_
      refine X.callv 120 [] [] [(0, zr 4 44)] i282_117 rfl (by decide) rfl rfl (by omega) rfl rfl (by decide) rfl t230 (Nat.le_of_ble_eq_true rfl) (Nat.le_of_ble_eq_true rfl) rfl ?_
      refine c230_1 (B := B)   (by omega) (hJ517.up (by omega)) (by omega)  hf27 hf28 hf31 hg4 (fun m518 hFv520 hJ519 => ?_)
      show X (EE s) d 282 120 [(0, zr 4 44), (1, zi y1), (2, zi y2)] [] m518 _
      refine X.iinc 123 [(0, zr 4 44), (1, zi y1), (2, zi (y2 + 1))] i282_120 rfl rfl rfl (by omega) rfl ?_
      refine X.goto 89 i282_123 rfl rfl ?_
      exact ih (y2 + 1) m518 (B + 1) (hJ519.up (by omega)) (by omega) (by omega) (by omega) (Eq.trans hR (Eq.trans (if_neg h511) (Eq.trans (zn_eq ez512) (Eq.trans (zs_eq hm513) (Eq.trans (zn_eq ez515) (Eq.trans (zs_eq hm516) (Eq.trans (zs_eq hFv520.symm) rfl)))))))
-- WorkMeterModel.off
noncomputable def f282_1 (a1 : Int) (m : zM) : Int × zM :=
  if a1 < 1 then
  (((-1), m))
  else
  (if a1 ≤ 100000 then
  (if ((m 4 45 0) + a1) ≤ 2000000000 then
  (zs (f223_1 21 a1 m) fun m511 =>
  zs (z_upd m511 4 45 3 0) fun m514 =>
  fl282_47_1 (fun m516 =>
  fl282_89_1 (fun m520 =>
  ((m520 4 45 0), m520)) a1 (zfu 100001) 0 m516) a1 (zfu 4) 2 m514)
  else
  (((-1), m)))
  else
  (((-1), m)))
-- WorkMeterModel.off
theorem c282_1 {s : Nat × (Nat → Int32)} {S : zS} {m0 m : zM} {B : Int} {d : Nat} {Q : Option zV → zM → Prop} (a1 : Int) (hd : 19 ≤ d) (hJ : J S m0 B m) (hB : B + 100006 ≤ 1000000000) (ha1 : (-2147483648) ≤ a1 ∧ a1 ≤ 2147483647) (hf22 : ¬ S.1 22) (hf26 : ¬ S.1 26) (hf27 : ¬ S.1 27) (hf28 : ¬ S.1 28) (hf29 : ¬ S.1 29) (hf31 : ¬ S.1 31) (hf33 : ¬ S.1 33) (hg4 : ¬ S.2.1 4) (hQ : ∀ (v : Int) m', ((-1) ≤ v ∧ v ≤ 2000000000) → f282_1 a1 m = (v, m') → J S m0 (B + 100006) m' → Q (some (zi v)) m') : X (EE s) d 282 0 [(0, zr 4 44), (1, zi a1)] [] m Q := by
  refine X.iload_n 1 i282_0 rfl rfl rfl ?_
  refine X.i2l 2 i282_1 rfl rfl ?_
  refine X.lconst (y := 1) 3 i282_2 rfl rfl rfl ?_
  refine X.ldc2 6 i282_3 rfl rfl (by decide) ?_
  refine X.calls 9 [zl a1, zl 1, zl 100000] [] [(0, zl a1), (2, zl 1), (4, zl 100000)] i282_6 (by decide) rfl rfl (by omega) rfl rfl t204 (Nat.le_of_ble_eq_true rfl) (Nat.le_of_ble_eq_true rfl) rfl ?_
  refine X.lload_n 1 i204_0 rfl rfl rfl ?_
  refine X.lload_n 2 i204_1 rfl rfl rfl ?_
  refine X.lcmp 3 i204_2 rfl rfl (fun z501 hz501 => ?_)
  refine X.iflt 17 6 i204_3 rfl rfl rfl (fun h502 => ?_) (fun h502 => ?_)
  · have h502c : a1 < 1 := by omega
    clear h502 hz501
    refine X.cut [] i204_17 rfl ?_
    refine X.iconst 18 i204_17 rfl rfl (by decide) ?_
    refine X.retz i204_18 rfl t204 (by omega) ?_
    show X (EE s) d 282 9 [(0, zr 4 44), (1, zi a1)] [zi 0] m _
    refine X.ifeq 28 12 i282_9 rfl rfl rfl (fun h503 => ?_) (fun h503 => (by exfalso; omega))
    refine X.cut [] i282_28 rfl ?_
    refine X.iconst 29 i282_28 rfl rfl (by decide) ?_
    refine X.reti i282_29 rfl t282 ?_
    exact hQ (-1) m (by first | trivial | omega) (Eq.trans (if_pos h502c) rfl) (hJ.up (by omega)) 
  · have h502c : ¬ a1 < 1 := by omega
    clear h502 hz501
    refine X.lload_n 7 i204_6 rfl rfl rfl ?_
    refine X.lload 9 i204_7 rfl rfl rfl ?_
    refine X.lcmp 10 i204_9 rfl rfl (fun z504 hz504 => ?_)
    refine X.ifgt 17 13 i204_10 rfl rfl rfl (fun h505 => ?_) (fun h505 => ?_)
    · have h505c : ¬ a1 ≤ 100000 := by omega
      clear h505 hz504
      refine X.cut [] i204_17 rfl ?_
      refine X.iconst 18 i204_17 rfl rfl (by decide) ?_
      refine X.retz i204_18 rfl t204 (by omega) ?_
      show X (EE s) d 282 9 [(0, zr 4 44), (1, zi a1)] [zi 0] m _
      refine X.ifeq 28 12 i282_9 rfl rfl rfl (fun h506 => ?_) (fun h506 => (by exfalso; omega))
      refine X.cut [] i282_28 rfl ?_
      refine X.iconst 29 i282_28 rfl rfl (by decide) ?_
      refine X.reti i282_29 rfl t282 ?_
      exact hQ (-1) m (by first | trivial | omega) (Eq.trans (if_neg h502c) (Eq.trans (if_neg h505c) rfl)) (hJ.up (by omega)) 
    · have h505c : a1 ≤ 100000 := by omega
      clear h505 hz504
      refine X.iconst 14 i204_13 rfl rfl (by decide) ?_
      refine X.goto 18 i204_14 rfl rfl ?_
      refine X.cut [] i204_18 rfl ?_
      refine X.retz i204_18 rfl t204 (by omega) ?_
      show X (EE s) d 282 9 [(0, zr 4 44), (1, zi a1)] [zi 1] m _
      refine X.ifeq 28 12 i282_9 rfl rfl rfl (fun h507 => (by exfalso; omega)) (fun h507 => ?_)
      refine X.aload_n 13 i282_12 rfl rfl rfl ?_
      refine X.getF 16 i282_13 rfl rfl (by decide) rfl rfl ?_
      refine X.iconst 17 i282_16 rfl rfl (by decide) ?_
      refine X.lald 18 i282_17 rfl rfl (by decide) rfl (by omega) ?_
      have h508 := r45_0 hJ 4
      refine X.iload_n 19 i282_18 rfl rfl rfl ?_
      refine X.i2l 20 i282_19 rfl rfl ?_
      refine X.ladd 21 i282_20 rfl rfl (by omega) ?_
      refine X.ldc2 24 i282_21 rfl rfl (by decide) ?_
      refine X.lcmp 25 i282_24 rfl rfl (fun z509 hz509 => ?_)
      refine X.ifle 30 28 i282_25 rfl rfl rfl (fun h510 => ?_) (fun h510 => ?_)
      · have h510c : ((m 4 45 0) + a1) ≤ 2000000000 := by omega
        clear h510 hz509
        refine X.aload_n 31 i282_30 rfl rfl rfl ?_
        refine X.bipush 33 i282_31 rfl rfl (by decide) ?_
        refine X.iload_n 34 i282_33 rfl rfl rfl ?_
        refine X.i2l 35 i282_34 rfl rfl ?_
        refine X.callv 38 [zi 21, zl a1] [] [(0, zr 4 44), (1, zi 21), (2, zl a1)] i282_35 rfl (by decide) rfl rfl (by omega) rfl rfl (by decide) rfl t223 (Nat.le_of_ble_eq_true rfl) (Nat.le_of_ble_eq_true rfl) rfl ?_
        refine c223_1 (B := B)  21 a1 (by omega) (hJ.up (by omega)) (by omega) (by omega) hf26 hg4 (fun m511 hFv513 hJ512 => ?_)
        show X (EE s) d 282 38 [(0, zr 4 44), (1, zi a1)] [] m511 _
        refine X.aload_n 39 i282_38 rfl rfl rfl ?_
        refine X.getF 42 i282_39 rfl rfl (by decide) rfl rfl ?_
        refine X.iconst 43 i282_42 rfl rfl (by decide) ?_
        refine X.lconst (y := 0) 44 i282_43 rfl rfl rfl ?_
        refine X.last' 45 i282_44 rfl rfl (by decide) rfl (by omega) (fun hrm514 m514 hm514 => ?_)
        have hJ515 := w45_3 hJ512 hm514 (by omega) hf22 hg4
        refine X.iconst 46 i282_45 rfl rfl (by decide) ?_
        refine X.istore_n 47 [(0, zr 4 44), (1, zi a1), (2, zi 2)] i282_46 rfl rfl rfl ?_
        have hz4 := zfu_eq 4
        refine l282_47_1 (s := s) (d := d) (R0 := (f282_1 a1 m))  a1  (BE := B + 5) (by omega) (by omega) (by omega) hf26 hf29 hg4 (fun  m516 B517 hJ518 hBB517 hR519 => ?_) (zfu 4) 2 m514 (B + 1) (hJ515.up (by omega)) (by omega) (by omega) (by omega) (Eq.trans (if_neg h502c) (Eq.trans (if_pos h505c) (Eq.trans (if_pos h510c) (Eq.trans (zs_eq hFv513.symm) (Eq.trans (zs_eq hm514) rfl)))))
        refine X.iconst 88 i282_87 rfl rfl (by decide) ?_
        refine X.istore_n 89 [(0, zr 4 44), (1, zi a1), (2, zi 0)] i282_88 rfl rfl rfl ?_
        have hz100001 := zfu_eq 100001
        refine l282_89_1 (s := s) (d := d)  a1  (BE := B517 + 100001) (by omega) (by omega) (by omega) hf27 hf28 hf31 hf33 hg4 (fun  m520 B521 hJ522 hBB521 hR523 => ?_) (zfu 100001) 0 m516 (B517) (hJ518.up (by omega)) (by omega) (by omega) (by omega) (Eq.trans hR519 rfl)
        refine X.aload_n 127 i282_126 rfl rfl rfl ?_
        refine X.getF 130 i282_127 rfl rfl (by decide) rfl rfl ?_
        refine X.iconst 131 i282_130 rfl rfl (by decide) ?_
        refine X.lald 132 i282_131 rfl rfl (by decide) rfl (by omega) ?_
        have h524 := r45_0 hJ522 4
        refine X.l2i 133 i282_132 rfl rfl (by omega) ?_
        refine X.reti i282_133 rfl t282 ?_
        exact hQ (m520 4 45 0) m520 (by first | trivial | omega) (Eq.trans hR523 rfl) (hJ522.up (by omega)) 
      · have h510c : ¬ ((m 4 45 0) + a1) ≤ 2000000000 := by omega
        clear h510 hz509
        refine X.cut [] i282_28 rfl ?_
        refine X.iconst 29 i282_28 rfl rfl (by decide) ?_
        refine X.reti i282_29 rfl t282 ?_
        exact hQ (-1) m (by first | trivial | omega) (Eq.trans (if_neg h502c) (Eq.trans (if_pos h505c) (Eq.trans (if_neg h510c) rfl))) (hJ.up (by omega)) 
-- WorkMeter.mark
noncomputable def f134_1 (a1 a2 : Int) (m : zM) : Int × zM :=
  if a1 < 0 then
  ((0, m))
  else
  (if 2 ≤ a1 then
  ((0, m))
  else
  (zn (f40_1 0 a1 m) fun v505 =>
  if v505 = a2 then
  ((0, m))
  else
  (zs (f57_1 0 0 a1 a2 (m 0 8 9) m) fun m508 =>
  (1, m508))))
-- WorkMeter.mark
theorem c134_1 {s : Nat × (Nat → Int32)} {S : zS} {m0 m : zM} {B : Int} {d : Nat} {Q : Option zV → zM → Prop} (a1 a2 : Int) (hd : 15 ≤ d) (hJ : J S m0 B m) (hB : B + 1 ≤ 1000000000) (ha1 : (-2147483648) ≤ a1 ∧ a1 ≤ 2147483647) (ha2 : 0 ≤ a2 ∧ a2 ≤ 1) (hf6 : ¬ S.1 6) (hf9 : ¬ S.1 9) (hg0 : ¬ S.2.1 0) (hQ : ∀ (v : Int) m', (0 ≤ v ∧ v ≤ 1) → f134_1 a1 a2 m = (v, m') → J S m0 (B + 1) m' → Q (some (zi v)) m') : X (EE s) d 134 0 [(0, zr 4 40), (1, zi a1), (2, zi a2)] [] m Q := by
  refine X.iload_n 1 i134_0 rfl rfl rfl ?_
  refine X.iflt 24 4 i134_1 rfl rfl rfl (fun h501 => ?_) (fun h501 => ?_)
  · refine X.cut [] i134_24 rfl ?_
    refine X.iconst 25 i134_24 rfl rfl (by decide) ?_
    refine X.retz i134_25 rfl t134 (by omega) ?_
    exact hQ 0 m (by first | trivial | omega) (Eq.trans (if_pos h501) rfl) (hJ.up (by omega)) 
  · refine X.iload_n 5 i134_4 rfl rfl rfl ?_
    refine X.iconst 6 i134_5 rfl rfl (by decide) ?_
    refine X.icmpge 24 9 i134_6 rfl rfl rfl (fun h502 => ?_) (fun h502 => ?_)
    · refine X.cut [] i134_24 rfl ?_
      refine X.iconst 25 i134_24 rfl rfl (by decide) ?_
      refine X.retz i134_25 rfl t134 (by omega) ?_
      exact hQ 0 m (by first | trivial | omega) (Eq.trans (if_neg h501) (Eq.trans (if_pos h502) rfl)) (hJ.up (by omega)) 
    · refine X.aload_n 10 i134_9 rfl rfl rfl ?_
      refine X.getF 13 i134_10 rfl rfl (by decide) rfl rfl ?_
      refine X.getR 16 i134_13 rfl rfl (by decide) rfl rfl ?_
      refine X.iload_n 17 i134_16 rfl rfl rfl ?_
      refine X.callv 20 [zi a1] [] [(0, zr 0 33), (1, zi a1)] i134_17 rfl (by decide) rfl rfl (by omega) rfl rfl (by decide) rfl t40 (Nat.le_of_ble_eq_true rfl) (Nat.le_of_ble_eq_true rfl) rfl ?_
      refine c40_2 (B := B) 0 a1 (by omega) (hJ.up (by omega)) (by omega) (by omega) (fun v505 hv505 hFv505 => ?_)
      show X (EE s) d 134 20 [(0, zr 4 40), (1, zi a1), (2, zi a2)] [zi v505] m _
      refine X.iload_n 21 i134_20 rfl rfl rfl ?_
      refine X.icmpne 26 24 i134_21 rfl rfl rfl (fun h506 => ?_) (fun h506 => ?_)
      · refine X.aload_n 27 i134_26 rfl rfl rfl ?_
        refine X.getF 30 i134_27 rfl rfl (by decide) rfl rfl ?_
        refine X.getR 33 i134_30 rfl rfl (by decide) rfl rfl ?_
        refine X.iload_n 34 i134_33 rfl rfl rfl ?_
        refine X.iload_n 35 i134_34 rfl rfl rfl ?_
        refine X.aload_n 36 i134_35 rfl rfl rfl ?_
        refine X.getF 39 i134_36 rfl rfl (by decide) rfl rfl ?_
        refine X.getR 42 i134_39 rfl rfl (by decide) rfl rfl ?_
        refine X.aload_n 43 i134_42 rfl rfl rfl ?_
        refine X.getF 46 i134_43 rfl rfl (by decide) rfl rfl ?_
        refine X.getI 49 9 i134_46 rfl rfl (by decide) rfl rfl rfl ?_
        have h507 := r8_9 hJ 0
        refine X.callv 52 [zi a1, zi a2, zr 0 37, zi (m 0 8 9)] [] [(0, zr 0 33), (1, zi a1), (2, zi a2), (3, zr 0 37), (4, zi (m 0 8 9))] i134_49 rfl (by decide) rfl rfl (by omega) rfl rfl (by decide) rfl t57 (Nat.le_of_ble_eq_true rfl) (Nat.le_of_ble_eq_true rfl) rfl ?_
        refine c57_1 (B := B) 0 0 a1 a2 (m 0 8 9) (by omega) (hJ.up (by omega)) (by omega) (by omega) (by omega) (by omega) hf6 hf9 hg0 hg0 (fun m508 hFv510 hJ509 => ?_)
        show X (EE s) d 134 52 [(0, zr 4 40), (1, zi a1), (2, zi a2)] [] m508 _
        refine X.iconst 53 i134_52 rfl rfl (by decide) ?_
        refine X.retz i134_53 rfl t134 (by omega) ?_
        exact hQ 1 m508 (by first | trivial | omega) (Eq.trans (if_neg h501) (Eq.trans (if_neg h502) (Eq.trans (zn_eq hFv505.symm) (Eq.trans (if_neg h506) (Eq.trans (zs_eq hFv510.symm) rfl))))) (hJ509.up (by omega)) 
      · refine X.cut [] i134_24 rfl ?_
        refine X.iconst 25 i134_24 rfl rfl (by decide) ?_
        refine X.retz i134_25 rfl t134 (by omega) ?_
        exact hQ 0 m (by first | trivial | omega) (Eq.trans (if_neg h501) (Eq.trans (if_neg h502) (Eq.trans (zn_eq hFv505.symm) (Eq.trans (if_pos h506) rfl)))) (hJ.up (by omega)) 
-- WorkMeterModel.turnsOff
theorem c229_2 {s : Nat × (Nat → Int32)} {S : zS} {m0 m : zM} {B : Int} {d : Nat} {Q : Option zV → zM → Prop} (a1 : Int) (hd : 14 ≤ d) (hJ : J S m0 B m) (hB : B + 1 ≤ 1000000000) (ha1 : 0 ≤ a1 ∧ a1 ≤ 1) (hf26 : ¬ S.1 26) (hf29 : ¬ S.1 29) (hg4 : ¬ S.2.1 4) (hQ : ∀ m', f229_1 a1 m = m' → J S m0 (B + 1) m' → Q none m') : X (EE s) d 229 0 [(0, zr 4 44), (1, zi a1)] [] m Q := by
  refine X.aload_n 1 i229_0 rfl rfl rfl ?_
  refine X.getF 4 i229_1 rfl rfl (by decide) rfl rfl ?_
  refine X.bipush 6 i229_4 rfl rfl (by decide) ?_
  refine X.iload_n 7 i229_6 rfl rfl rfl ?_
  refine X.iadd 8 i229_7 rfl rfl (by omega) ?_
  refine X.lconst (y := 0) 9 i229_8 rfl rfl rfl ?_
  refine X.last' 10 i229_9 rfl rfl (by decide) rfl (by omega) (fun hrm501 m501 hm501 => ?_)
  have hJ502 := w45_40 hJ hm501 (by omega) hrm501 hf29 hg4
  refine X.aload_n 11 i229_10 rfl rfl rfl ?_
  refine X.bipush 13 i229_11 rfl rfl (by decide) ?_
  refine X.iload_n 14 i229_13 rfl rfl rfl ?_
  refine X.iadd 15 i229_14 rfl rfl (by omega) ?_
  refine X.lconst (y := 0) 16 i229_15 rfl rfl rfl ?_
  refine X.callv 19 [zi (10 + a1), zl 0] [] [(0, zr 4 44), (1, zi (10 + a1)), (2, zl 0)] i229_16 rfl (by decide) rfl rfl (by omega) rfl rfl (by decide) rfl t223 (Nat.le_of_ble_eq_true rfl) (Nat.le_of_ble_eq_true rfl) rfl ?_
  refine c223_1 (B := B)  (10 + a1) 0 (by omega) (hJ502.up (by omega)) (by omega) (by omega) hf26 hg4 (fun m503 hFv505 hJ504 => ?_)
  show X (EE s) d 229 19 [(0, zr 4 44), (1, zi a1)] [] m503 _
  refine X.retv i229_19 rfl t229 ?_
  exact hQ  m503  (Eq.trans (zs_eq hm501) (Eq.trans (zs_eq hFv505.symm) rfl)) (hJ504.up (by omega)) 
-- WorkMeterModel.turnsOn
theorem c228_2 {s : Nat × (Nat → Int32)} {S : zS} {m0 m : zM} {B : Int} {d : Nat} {Q : Option zV → zM → Prop} (a1 : Int) (hd : 14 ≤ d) (hJ : J S m0 B m) (hB : B + 1 ≤ 1000000000) (ha1 : 0 ≤ a1 ∧ a1 ≤ 1) (hf26 : ¬ S.1 26) (hf29 : ¬ S.1 29) (hg4 : ¬ S.2.1 4) (hQ : ∀ m', f228_1 a1 m = m' → J S m0 (B + 1) m' → Q none m') : X (EE s) d 228 0 [(0, zr 4 44), (1, zi a1)] [] m Q := by
  refine X.aload_n 1 i228_0 rfl rfl rfl ?_
  refine X.getF 4 i228_1 rfl rfl (by decide) rfl rfl ?_
  refine X.bipush 6 i228_4 rfl rfl (by decide) ?_
  refine X.iload_n 7 i228_6 rfl rfl rfl ?_
  refine X.iadd 8 i228_7 rfl rfl (by omega) ?_
  refine X.lconst (y := 1) 9 i228_8 rfl rfl rfl ?_
  refine X.last' 10 i228_9 rfl rfl (by decide) rfl (by omega) (fun hrm501 m501 hm501 => ?_)
  have hJ502 := w45_40 hJ hm501 (by omega) hrm501 hf29 hg4
  refine X.aload_n 11 i228_10 rfl rfl rfl ?_
  refine X.getF 14 i228_11 rfl rfl (by decide) rfl rfl ?_
  refine X.bipush 16 i228_14 rfl rfl (by decide) ?_
  refine X.iload_n 17 i228_16 rfl rfl rfl ?_
  refine X.iadd 18 i228_17 rfl rfl (by omega) ?_
  refine X.dup2 19 i228_18 rfl rfl ?_
  refine X.lald 20 i228_19 rfl rfl (by decide) rfl (by omega) ?_
  refine X.lconst (y := 1) 21 i228_20 rfl rfl rfl ?_
  refine X.laddW 22 i228_21 rfl rfl (fun z503 ez503 hz503 => ?_)
  refine X.last' 23 i228_22 rfl rfl (by decide) rfl (by omega) (fun hrm504 m504 hm504 => ?_)
  have hJ505 := w45_40 hJ502 hm504 (by omega) hrm504 hf29 hg4
  refine X.aload_n 24 i228_23 rfl rfl rfl ?_
  refine X.iload_n 25 i228_24 rfl rfl rfl ?_
  refine X.lconst (y := 0) 26 i228_25 rfl rfl rfl ?_
  refine X.callv 29 [zi a1, zl 0] [] [(0, zr 4 44), (1, zi a1), (2, zl 0)] i228_26 rfl (by decide) rfl rfl (by omega) rfl rfl (by decide) rfl t223 (Nat.le_of_ble_eq_true rfl) (Nat.le_of_ble_eq_true rfl) rfl ?_
  refine c223_1 (B := B)  a1 0 (by omega) (hJ505.up (by omega)) (by omega) (by omega) hf26 hg4 (fun m506 hFv508 hJ507 => ?_)
  show X (EE s) d 228 29 [(0, zr 4 44), (1, zi a1)] [] m506 _
  refine X.retv i228_29 rfl t228 ?_
  exact hQ  m506  (Eq.trans (zs_eq hm501) (Eq.trans (zn_eq ez503) (Eq.trans (zs_eq hm504) (Eq.trans (zs_eq hFv508.symm) rfl)))) (hJ507.up (by omega)) 
-- WorkMeterModel.mark
noncomputable def f283_1 (a1 a2 : Int) (m : zM) : Int × zM :=
  if a1 < 0 then
  ((0, m))
  else
  (if a1 ≤ 1 then
  (zn (if (m 4 45 (40 + a1)) = 1 then
  (1)
  else
  (0)) fun v510 =>
  if v510 = a2 then
  ((0, m))
  else
  (zs (if a2 = 0 then
  (zs (f229_1 a1 m) fun m517 =>
  m517)
  else
  (zs (f228_1 a1 m) fun m520 =>
  m520)) fun m524 =>
  (1, m524)))
  else
  ((0, m)))
-- WorkMeterModel.mark
theorem c283_1 {s : Nat × (Nat → Int32)} {S : zS} {m0 m : zM} {B : Int} {d : Nat} {Q : Option zV → zM → Prop} (a1 a2 : Int) (hd : 15 ≤ d) (hJ : J S m0 B m) (hB : B + 1 ≤ 1000000000) (ha1 : (-2147483648) ≤ a1 ∧ a1 ≤ 2147483647) (ha2 : 0 ≤ a2 ∧ a2 ≤ 1) (hf26 : ¬ S.1 26) (hf29 : ¬ S.1 29) (hg4 : ¬ S.2.1 4) (hQ : ∀ (v : Int) m', (0 ≤ v ∧ v ≤ 1) → f283_1 a1 a2 m = (v, m') → J S m0 (B + 1) m' → Q (some (zi v)) m') : X (EE s) d 283 0 [(0, zr 4 44), (1, zi a1), (2, zi a2)] [] m Q := by
  refine X.iload_n 1 i283_0 rfl rfl rfl ?_
  refine X.i2l 2 i283_1 rfl rfl ?_
  refine X.lconst (y := 0) 3 i283_2 rfl rfl rfl ?_
  refine X.lconst (y := 1) 4 i283_3 rfl rfl rfl ?_
  refine X.calls 7 [zl a1, zl 0, zl 1] [] [(0, zl a1), (2, zl 0), (4, zl 1)] i283_4 (by decide) rfl rfl (by omega) rfl rfl t204 (Nat.le_of_ble_eq_true rfl) (Nat.le_of_ble_eq_true rfl) rfl ?_
  refine X.lload_n 1 i204_0 rfl rfl rfl ?_
  refine X.lload_n 2 i204_1 rfl rfl rfl ?_
  refine X.lcmp 3 i204_2 rfl rfl (fun z501 hz501 => ?_)
  refine X.iflt 17 6 i204_3 rfl rfl rfl (fun h502 => ?_) (fun h502 => ?_)
  · have h502c : a1 < 0 := by omega
    clear h502 hz501
    refine X.cut [] i204_17 rfl ?_
    refine X.iconst 18 i204_17 rfl rfl (by decide) ?_
    refine X.retz i204_18 rfl t204 (by omega) ?_
    show X (EE s) d 283 7 [(0, zr 4 44), (1, zi a1), (2, zi a2)] [zi 0] m _
    refine X.ifeq 33 10 i283_7 rfl rfl rfl (fun h503 => ?_) (fun h503 => (by exfalso; omega))
    refine X.cut [] i283_33 rfl ?_
    refine X.iconst 34 i283_33 rfl rfl (by decide) ?_
    refine X.retz i283_34 rfl t283 (by omega) ?_
    exact hQ 0 m (by first | trivial | omega) (Eq.trans (if_pos h502c) rfl) (hJ.up (by omega)) 
  · have h502c : ¬ a1 < 0 := by omega
    clear h502 hz501
    refine X.lload_n 7 i204_6 rfl rfl rfl ?_
    refine X.lload 9 i204_7 rfl rfl rfl ?_
    refine X.lcmp 10 i204_9 rfl rfl (fun z504 hz504 => ?_)
    refine X.ifgt 17 13 i204_10 rfl rfl rfl (fun h505 => ?_) (fun h505 => ?_)
    · have h505c : ¬ a1 ≤ 1 := by omega
      clear h505 hz504
      refine X.cut [] i204_17 rfl ?_
      refine X.iconst 18 i204_17 rfl rfl (by decide) ?_
      refine X.retz i204_18 rfl t204 (by omega) ?_
      show X (EE s) d 283 7 [(0, zr 4 44), (1, zi a1), (2, zi a2)] [zi 0] m _
      refine X.ifeq 33 10 i283_7 rfl rfl rfl (fun h506 => ?_) (fun h506 => (by exfalso; omega))
      refine X.cut [] i283_33 rfl ?_
      refine X.iconst 34 i283_33 rfl rfl (by decide) ?_
      refine X.retz i283_34 rfl t283 (by omega) ?_
      exact hQ 0 m (by first | trivial | omega) (Eq.trans (if_neg h502c) (Eq.trans (if_neg h505c) rfl)) (hJ.up (by omega)) 
    · have h505c : a1 ≤ 1 := by omega
      clear h505 hz504
      refine X.iconst 14 i204_13 rfl rfl (by decide) ?_
      refine X.goto 18 i204_14 rfl rfl ?_
      refine X.cut [] i204_18 rfl ?_
      refine X.retz i204_18 rfl t204 (by omega) ?_
      show X (EE s) d 283 7 [(0, zr 4 44), (1, zi a1), (2, zi a2)] [zi 1] m _
      refine X.ifeq 33 10 i283_7 rfl rfl rfl (fun h507 => (by exfalso; omega)) (fun h507 => ?_)
      refine X.aload_n 11 i283_10 rfl rfl rfl ?_
      refine X.getF 14 i283_11 rfl rfl (by decide) rfl rfl ?_
      refine X.bipush 16 i283_14 rfl rfl (by decide) ?_
      refine X.iload_n 17 i283_16 rfl rfl rfl ?_
      refine X.iadd 18 i283_17 rfl rfl (by omega) ?_
      refine X.lald 19 i283_18 rfl rfl (by decide) rfl (by omega) ?_
      refine X.lconst (y := 1) 20 i283_19 rfl rfl rfl ?_
      refine X.lcmp 21 i283_20 rfl rfl (fun z508 hz508 => ?_)
      have hK513 : ∀ (v : Int) , (0 ≤ v ∧ v ≤ 1) → (if (m 4 45 (40 + a1)) = 1 then
          (1)
          else
          (0)) = v → X (EE s) d 283 29 [(0, zr 4 44), (1, zi a1), (2, zi a2)] [zi v] m Q := by
        intro v510 hv510 hT514
        refine X.iload_n 30 i283_29 rfl rfl rfl ?_
        refine X.icmpne 35 33 i283_30 rfl rfl rfl (fun h515 => ?_) (fun h515 => ?_)
        · refine X.iload_n 36 i283_35 rfl rfl rfl ?_
          have hK526 : ∀ (m' : zM), (if a2 = 0 then
              (zs (f229_1 a1 m) fun m517 =>
              m517)
              else
              (zs (f228_1 a1 m) fun m520 =>
              m520)) = m' → J S m0 (B + 1) m' → X (EE s) d 283 52 [] [] m' Q := by
            intro m524 hT527 hJ525
            refine X.iconst 53 i283_52 rfl rfl (by decide) ?_
            refine X.retz i283_53 rfl t283 (by omega) ?_
            exact hQ 1 m524 (by first | trivial | omega) (Eq.trans (if_neg h502c) (Eq.trans (if_pos h505c) (Eq.trans (zn_eq hT514.symm) (Eq.trans (if_neg h515) (Eq.trans (zs_eq hT527.symm) rfl))))) (hJ525.up (by omega)) 
          refine X.ifeq 47 39 i283_36 rfl rfl rfl (fun h516 => ?_) (fun h516 => ?_)
          · refine X.cut [(0, zr 4 44), (1, zi a1)] i283_47 rfl ?_
            refine X.aload_n 48 i283_47 rfl rfl rfl ?_
            refine X.iload_n 49 i283_48 rfl rfl rfl ?_
            refine X.callv 52 [zi a1] [] [(0, zr 4 44), (1, zi a1)] i283_49 rfl (by decide) rfl rfl (by omega) rfl rfl (by decide) rfl t229 (Nat.le_of_ble_eq_true rfl) (Nat.le_of_ble_eq_true rfl) rfl ?_
            refine c229_2 (B := B)  a1 (by omega) (hJ.up (by omega)) (by omega) (by omega) hf26 hf29 hg4 (fun m517 hFv519 hJ518 => ?_)
            show X (EE s) d 283 52 [(0, zr 4 44), (1, zi a1)] [] m517 _
            refine X.cut [] i283_52 rfl ?_
            exact hK526 m517 (Eq.trans (if_pos h516) (Eq.trans (zs_eq hFv519.symm) rfl)) (hJ518.up (by omega))
          · refine X.aload_n 40 i283_39 rfl rfl rfl ?_
            refine X.iload_n 41 i283_40 rfl rfl rfl ?_
            refine X.callv 44 [zi a1] [] [(0, zr 4 44), (1, zi a1)] i283_41 rfl (by decide) rfl rfl (by omega) rfl rfl (by decide) rfl t228 (Nat.le_of_ble_eq_true rfl) (Nat.le_of_ble_eq_true rfl) rfl ?_
            refine c228_2 (B := B)  a1 (by omega) (hJ.up (by omega)) (by omega) (by omega) hf26 hf29 hg4 (fun m520 hFv522 hJ521 => ?_)
            show X (EE s) d 283 44 [(0, zr 4 44), (1, zi a1), (2, zi a2)] [] m520 _
            refine X.goto 52 i283_44 rfl rfl ?_
            refine X.cut [] i283_52 rfl ?_
            exact hK526 m520 (Eq.trans (if_neg h516) (Eq.trans (zs_eq hFv522.symm) rfl)) (hJ521.up (by omega))
        · refine X.cut [] i283_33 rfl ?_
          refine X.iconst 34 i283_33 rfl rfl (by decide) ?_
          refine X.retz i283_34 rfl t283 (by omega) ?_
          exact hQ 0 m (by first | trivial | omega) (Eq.trans (if_neg h502c) (Eq.trans (if_pos h505c) (Eq.trans (zn_eq hT514.symm) (Eq.trans (if_pos h515) rfl)))) (hJ.up (by omega)) 
      refine X.ifne 28 24 i283_21 rfl rfl rfl (fun h509 => ?_) (fun h509 => ?_)
      · have h509c : ¬ (m 4 45 (40 + a1)) = 1 := by omega
        clear h509 hz508
        refine X.iconst 29 i283_28 rfl rfl (by decide) ?_
        exact hK513 0 (by first | trivial | omega) (Eq.trans (if_neg h509c) rfl)
      · have h509c : (m 4 45 (40 + a1)) = 1 := by omega
        clear h509 hz508
        refine X.iconst 25 i283_24 rfl rfl (by decide) ?_
        refine X.goto 29 i283_25 rfl rfl ?_
        exact hK513 1 (by first | trivial | omega) (Eq.trans (if_pos h509c) rfl)
-- WorkMeter.prepaid
noncomputable def f135_1 (a1 : Int) (m : zM) : Int × zM :=
  if (m 0 8 11) = a1 then
  ((0, m))
  else
  (zs (z_upd m 0 8 11 a1) fun m503 =>
  zs (f53_1 0 m503) fun m505 =>
  (1, m505))
-- WorkMeter.prepaid
theorem c135_1 {s : Nat × (Nat → Int32)} {S : zS} {m0 m : zM} {B : Int} {d : Nat} {Q : Option zV → zM → Prop} (a1 : Int) (hd : 16 ≤ d) (hJ : J S m0 B m) (hB : B + 1 ≤ 1000000000) (ha1 : 0 ≤ a1 ∧ a1 ≤ 1) (hf6 : ¬ S.1 6) (hf12 : ¬ S.1 12) (hg0 : ¬ S.2.1 0) (hQ : ∀ (v : Int) m', (0 ≤ v ∧ v ≤ 1) → f135_1 a1 m = (v, m') → J S m0 (B + 1) m' → Q (some (zi v)) m') : X (EE s) d 135 0 [(0, zr 4 40), (1, zi a1)] [] m Q := by
  refine X.aload_n 1 i135_0 rfl rfl rfl ?_
  refine X.getF 4 i135_1 rfl rfl (by decide) rfl rfl ?_
  refine X.getZ 7 11 i135_4 rfl rfl (by decide) rfl rfl rfl (fun h501 => ?_)
  refine X.iload_n 8 i135_7 rfl rfl rfl ?_
  refine X.icmpne 13 11 i135_8 rfl rfl rfl (fun h502 => ?_) (fun h502 => ?_)
  · refine X.aload_n 14 i135_13 rfl rfl rfl ?_
    refine X.getF 17 i135_14 rfl rfl (by decide) rfl rfl ?_
    refine X.iload_n 18 i135_17 rfl rfl rfl ?_
    refine X.putZ' 21 11 i135_18 rfl rfl (by decide) rfl rfl rfl (by omega) (fun hrm503 m503 hm503 => ?_)
    have hJ504 := w8_11 hJ hm503 (by omega) hf12 hg0
    refine X.aload_n 22 i135_21 rfl rfl rfl ?_
    refine X.getF 25 i135_22 rfl rfl (by decide) rfl rfl ?_
    refine X.callv 28 [] [] [(0, zr 0 8)] i135_25 rfl (by decide) rfl rfl (by omega) rfl rfl (by decide) rfl t53 (Nat.le_of_ble_eq_true rfl) (Nat.le_of_ble_eq_true rfl) rfl ?_
    refine c53_1 (B := B) 0  (by omega) (hJ504.up (by omega)) (by omega)  hf6 hf12 hg0 (fun m505 hFv507 hJ506 => ?_)
    show X (EE s) d 135 28 [(0, zr 4 40), (1, zi a1)] [] m505 _
    refine X.iconst 29 i135_28 rfl rfl (by decide) ?_
    refine X.retz i135_29 rfl t135 (by omega) ?_
    exact hQ 1 m505 (by first | trivial | omega) (Eq.trans (if_neg h502) (Eq.trans (zs_eq hm503) (Eq.trans (zs_eq hFv507.symm) rfl))) (hJ506.up (by omega)) 
  · refine X.iconst 12 i135_11 rfl rfl (by decide) ?_
    refine X.retz i135_12 rfl t135 (by omega) ?_
    exact hQ 0 m (by first | trivial | omega) (Eq.trans (if_pos h502) rfl) (hJ.up (by omega)) 
-- WorkMeterModel.prepaid
noncomputable def f284_1 (a1 : Int) (m : zM) : Int × zM :=
  zn (if (m 4 45 11) = 1 then
  (1)
  else
  (0)) fun v504 =>
  if v504 = a1 then
  ((0, m))
  else
  (zn (if a1 = 0 then
  (0)
  else
  (1)) fun v511 =>
  zs (z_upd m 4 45 11 v511) fun m516 =>
  zs (f222_1 m516) fun m518 =>
  (1, m518))
-- WorkMeterModel.prepaid
theorem c284_1 {s : Nat × (Nat → Int32)} {S : zS} {m0 m : zM} {B : Int} {d : Nat} {Q : Option zV → zM → Prop} (a1 : Int) (hd : 15 ≤ d) (hJ : J S m0 B m) (hB : B + 1 ≤ 1000000000) (ha1 : 0 ≤ a1 ∧ a1 ≤ 1) (hf26 : ¬ S.1 26) (hf32 : ¬ S.1 32) (hg4 : ¬ S.2.1 4) (hQ : ∀ (v : Int) m', (0 ≤ v ∧ v ≤ 1) → f284_1 a1 m = (v, m') → J S m0 (B + 1) m' → Q (some (zi v)) m') : X (EE s) d 284 0 [(0, zr 4 44), (1, zi a1)] [] m Q := by
  refine X.aload_n 1 i284_0 rfl rfl rfl ?_
  refine X.getF 4 i284_1 rfl rfl (by decide) rfl rfl ?_
  refine X.bipush 6 i284_4 rfl rfl (by decide) ?_
  refine X.lald 7 i284_6 rfl rfl (by decide) rfl (by omega) ?_
  have h501 := r45_11 hJ 4
  refine X.lconst (y := 1) 8 i284_7 rfl rfl rfl ?_
  refine X.lcmp 9 i284_8 rfl rfl (fun z502 hz502 => ?_)
  have hK507 : ∀ (v : Int) , (0 ≤ v ∧ v ≤ 1) → (if (m 4 45 11) = 1 then
      (1)
      else
      (0)) = v → X (EE s) d 284 17 [(0, zr 4 44), (1, zi a1)] [zi v] m Q := by
    intro v504 hv504 hT508
    refine X.iload_n 18 i284_17 rfl rfl rfl ?_
    refine X.icmpne 23 21 i284_18 rfl rfl rfl (fun h509 => ?_) (fun h509 => ?_)
    · refine X.aload_n 24 i284_23 rfl rfl rfl ?_
      refine X.getF 27 i284_24 rfl rfl (by decide) rfl rfl ?_
      refine X.bipush 29 i284_27 rfl rfl (by decide) ?_
      refine X.iload_n 30 i284_29 rfl rfl rfl ?_
      have hK514 : ∀ (v : Int) , (0 ≤ v ∧ v ≤ 1) → (if a1 = 0 then
          (0)
          else
          (1)) = v → X (EE s) d 284 38 [(0, zr 4 44)] [zl v, zi 11, zr 4 45] m Q := by
        intro v511 hv511 hT515
        refine X.last' 39 i284_38 rfl rfl (by decide) rfl (by omega) (fun hrm516 m516 hm516 => ?_)
        have hJ517 := w45_11 hJ hm516 (by omega) hf32 hg4
        refine X.aload_n 40 i284_39 rfl rfl rfl ?_
        refine X.callv 43 [] [] [(0, zr 4 44)] i284_40 rfl (by decide) rfl rfl (by omega) rfl rfl (by decide) rfl t222 (Nat.le_of_ble_eq_true rfl) (Nat.le_of_ble_eq_true rfl) rfl ?_
        refine c222_1 (B := B)   (by omega) (hJ517.up (by omega)) (by omega)  hf26 hf32 hg4 (fun m518 hFv520 hJ519 => ?_)
        show X (EE s) d 284 43 [(0, zr 4 44)] [] m518 _
        refine X.iconst 44 i284_43 rfl rfl (by decide) ?_
        refine X.retz i284_44 rfl t284 (by omega) ?_
        exact hQ 1 m518 (by first | trivial | omega) (Eq.trans (zn_eq hT508.symm) (Eq.trans (if_neg h509) (Eq.trans (zn_eq hT515.symm) (Eq.trans (zs_eq hm516) (Eq.trans (zs_eq hFv520.symm) rfl))))) (hJ519.up (by omega)) 
      refine X.ifeq 37 33 i284_30 rfl rfl rfl (fun h510 => ?_) (fun h510 => ?_)
      · refine X.cut [(0, zr 4 44)] i284_37 rfl ?_
        refine X.lconst (y := 0) 38 i284_37 rfl rfl rfl ?_
        exact hK514 0 (by first | trivial | omega) (Eq.trans (if_pos h510) rfl)
      · refine X.lconst (y := 1) 34 i284_33 rfl rfl rfl ?_
        refine X.goto 38 i284_34 rfl rfl ?_
        refine X.cut [(0, zr 4 44)] i284_38 rfl ?_
        exact hK514 1 (by first | trivial | omega) (Eq.trans (if_neg h510) rfl)
    · refine X.iconst 22 i284_21 rfl rfl (by decide) ?_
      refine X.retz i284_22 rfl t284 (by omega) ?_
      exact hQ 0 m (by first | trivial | omega) (Eq.trans (zn_eq hT508.symm) (Eq.trans (if_pos h509) rfl)) (hJ.up (by omega)) 
  refine X.ifne 16 12 i284_9 rfl rfl rfl (fun h503 => ?_) (fun h503 => ?_)
  · have h503c : ¬ (m 4 45 11) = 1 := by omega
    clear h503 hz502
    refine X.iconst 17 i284_16 rfl rfl (by decide) ?_
    exact hK507 0 (by first | trivial | omega) (Eq.trans (if_neg h503c) rfl)
  · have h503c : (m 4 45 11) = 1 := by omega
    clear h503 hz502
    refine X.iconst 13 i284_12 rfl rfl (by decide) ?_
    refine X.goto 17 i284_13 rfl rfl ?_
    exact hK507 1 (by first | trivial | omega) (Eq.trans (if_pos h503c) rfl)
-- WorkMeter.pay
noncomputable def f136_1 (a1 : Int) (m : zM) : Int × zM :=
  if a1 < 0 then
  (((-10000000000), m))
  else
  (if a1 ≤ 1000000000 then
  (zn (w64 ((m 0 8 10) + a1)) fun z503 =>
  zs (z_upd m 0 8 10 z503) fun m504 =>
  zs (f53_1 0 m504) fun m506 =>
  ((m506 0 8 10), m506))
  else
  (((-10000000000), m)))
-- WorkMeter.pay
theorem c136_1 {s : Nat × (Nat → Int32)} {S : zS} {m0 m : zM} {B : Int} {d : Nat} {Q : Option zV → zM → Prop} (a1 : Int) (hd : 16 ≤ d) (hJ : J S m0 B m) (hB : B + 1 ≤ 1000000000) (ha1 : (-2147483648) ≤ a1 ∧ a1 ≤ 2147483647) (hf6 : ¬ S.1 6) (hf12 : ¬ S.1 12) (hg0 : ¬ S.2.1 0) (hQ : ∀ (v : Int) m', (True) → f136_1 a1 m = (v, m') → J S m0 (B + 1) m' → Q (some (zl v)) m') : X (EE s) d 136 0 [(0, zr 4 40), (1, zi a1)] [] m Q := by
  refine X.iload_n 1 i136_0 rfl rfl rfl ?_
  refine X.iflt 10 4 i136_1 rfl rfl rfl (fun h501 => ?_) (fun h501 => ?_)
  · refine X.cut [] i136_10 rfl ?_
    refine X.ldc2 13 i136_10 rfl rfl (by decide) ?_
    refine X.retl i136_13 rfl t136 ?_
    exact hQ (-10000000000) m (by first | trivial | omega) (Eq.trans (if_pos h501) rfl) (hJ.up (by omega)) 
  · refine X.iload_n 5 i136_4 rfl rfl rfl ?_
    refine X.ldc 7 i136_5 rfl rfl (by decide) ?_
    refine X.icmple 14 10 i136_7 rfl rfl rfl (fun h502 => ?_) (fun h502 => ?_)
    · refine X.aload_n 15 i136_14 rfl rfl rfl ?_
      refine X.getF 18 i136_15 rfl rfl (by decide) rfl rfl ?_
      refine X.dup 19 i136_18 rfl rfl rfl ?_
      refine X.getL 22 10 i136_19 rfl rfl (by decide) rfl rfl rfl ?_
      refine X.iload_n 23 i136_22 rfl rfl rfl ?_
      refine X.i2l 24 i136_23 rfl rfl ?_
      refine X.laddW 25 i136_24 rfl rfl (fun z503 ez503 hz503 => ?_)
      refine X.putL' 28 10 i136_25 rfl rfl (by decide) rfl rfl rfl (fun hrm504 m504 hm504 => ?_)
      have hJ505 := w8_10 hJ hm504 hrm504 hf12 hg0
      refine X.aload_n 29 i136_28 rfl rfl rfl ?_
      refine X.getF 32 i136_29 rfl rfl (by decide) rfl rfl ?_
      refine X.callv 35 [] [] [(0, zr 0 8)] i136_32 rfl (by decide) rfl rfl (by omega) rfl rfl (by decide) rfl t53 (Nat.le_of_ble_eq_true rfl) (Nat.le_of_ble_eq_true rfl) rfl ?_
      refine c53_1 (B := B) 0  (by omega) (hJ505.up (by omega)) (by omega)  hf6 hf12 hg0 (fun m506 hFv508 hJ507 => ?_)
      show X (EE s) d 136 35 [(0, zr 4 40), (1, zi a1)] [] m506 _
      refine X.aload_n 36 i136_35 rfl rfl rfl ?_
      refine X.getF 39 i136_36 rfl rfl (by decide) rfl rfl ?_
      refine X.getL 42 10 i136_39 rfl rfl (by decide) rfl rfl rfl ?_
      refine X.retl i136_42 rfl t136 ?_
      exact hQ (m506 0 8 10) m506 (by first | trivial | omega) (Eq.trans (if_neg h501) (Eq.trans (if_pos h502) (Eq.trans (zn_eq ez503) (Eq.trans (zs_eq hm504) (Eq.trans (zs_eq hFv508.symm) rfl))))) (hJ507.up (by omega)) 
    · refine X.cut [] i136_10 rfl ?_
      refine X.ldc2 13 i136_10 rfl rfl (by decide) ?_
      refine X.retl i136_13 rfl t136 ?_
      exact hQ (-10000000000) m (by first | trivial | omega) (Eq.trans (if_neg h501) (Eq.trans (if_neg h502) rfl)) (hJ.up (by omega)) 
-- WorkMeterModel.pay
noncomputable def f285_1 (a1 : Int) (m : zM) : Int × zM :=
  if a1 < 0 then
  (((-10000000000), m))
  else
  (if a1 ≤ 1000000000 then
  (zn (w64 ((m 4 45 10) + a1)) fun z508 =>
  zs (z_upd m 4 45 10 z508) fun m509 =>
  zs (f222_1 m509) fun m511 =>
  ((m511 4 45 10), m511))
  else
  (((-10000000000), m)))
