section
-- WorkMeterModel.special
noncomputable def f248_1 (a1 a2 : Int) (m : zM) : Int × zM :=
  zb (f203_1 m) fun v503 m501 =>
  if v503 = 0 then
  (if a1 < 0 then
  ((0, m501))
  else
  (if a1 ≤ 364 then
  (if a2 = (-1) then
  (zn (if (m501 4 45 (423 + a1)) = (-1) then
  (0)
  else
  (1)) fun v516 =>
  if v516 = 0 then
  ((0, m501))
  else
  (zs (z_upd m501 4 45 (423 + a1) a2) fun m523 =>
  (1, m523)))
  else
  (if a2 < 0 then
  ((0, m501))
  else
  (if a2 ≤ 7 then
  (zn (if (m501 4 45 (423 + a1)) = (-1) then
  (0)
  else
  (1)) fun v535 =>
  if v535 = 0 then
  (zn (f249_1 m501) fun v546 =>
  if v546 = 16 then
  ((0, m501))
  else
  (zs (z_upd m501 4 45 (423 + a1) a2) fun m548 =>
  (1, m548)))
  else
  (zs (z_upd m501 4 45 (423 + a1) a2) fun m542 =>
  (1, m542)))
  else
  ((0, m501)))))
  else
  ((0, m501))))
  else
  ((0, m501))
-- WorkMeterModel.special
theorem c248_1 {s : Nat × (Nat → Int32)} {S : zS} {m0 m : zM} {B : Int} {d : Nat} {Q : Option zV → zM → Prop} (a1 a2 : Int) (hd : 14 ≤ d) (hJ : J S m0 B m) (hB : B + 0 ≤ 1000000000) (ha1 : (-2147483648) ≤ a1 ∧ a1 ≤ 2147483647) (ha2 : (-2147483648) ≤ a2 ∧ a2 ≤ 2147483647) (hf21 : ¬ S.1 21) (hf24 : ¬ S.1 24) (hg4 : ¬ S.2.1 4) (hQ : ∀ (v : Int) m', (0 ≤ v ∧ v ≤ 1) → f248_1 a1 a2 m = (v, m') → J S m0 (B) m' → Q (some (zi v)) m') : X (EE s) d 248 0 [(0, zr 4 44), (1, zi a1), (2, zi a2)] [] m Q := by
  refine X.aload_n 1 (zi248 0) rfl rfl rfl ?_
  refine X.callv 4 [] [] [(0, zr 4 44)] (zi248 1) rfl (by decide) rfl rfl (by omega) rfl rfl (by decide) rfl t203 (Nat.le_of_ble_eq_true rfl) (Nat.le_of_ble_eq_true rfl) rfl ?_
  refine c203_1 (B := B)   (by omega) (hJ.up (by omega)) (by omega)  hf24 hg4 (fun v503 m501 hv503 hFv503 hJ502 => ?_)
  show X (EE s) d 248 4 [(0, zr 4 44), (1, zi a1), (2, zi a2)] [zi v503] m501 _
  refine X.ifne 31 7 (zi248 4) rfl rfl rfl (fun h504 => ?_) (fun h504 => ?_)
  · refine X.cut [] (zi248 31) rfl ?_
    refine X.iconst 32 (zi248 31) rfl rfl (by decide) ?_
    refine X.retz (zi248 32) rfl t248 (by omega) ?_
    exact hQ 0 m501 (by first | trivial | omega) (Eq.trans (zb_eq hFv503) (Eq.trans (if_neg h504) rfl)) (hJ502.up (by omega)) 
  · refine X.iload_n 8 (zi248 7) rfl rfl rfl ?_
    refine X.i2l 9 (zi248 8) rfl rfl ?_
    refine X.lconst (y := 0) 10 (zi248 9) rfl rfl rfl ?_
    refine X.ldc2 13 (zi248 10) rfl rfl (by decide) ?_
    refine X.calls 16 [zl a1, zl 0, zl 364] [] [(0, zl a1), (2, zl 0), (4, zl 364)] (zi248 13) (by decide) rfl rfl (by omega) rfl rfl t204 (Nat.le_of_ble_eq_true rfl) (Nat.le_of_ble_eq_true rfl) rfl ?_
    refine X.lload_n 1 (zi204 0) rfl rfl rfl ?_
    refine X.lload_n 2 (zi204 1) rfl rfl rfl ?_
    refine X.lcmp 3 (zi204 2) rfl rfl (fun z505 hz505 => ?_)
    refine X.iflt 17 6 (zi204 3) rfl rfl rfl (fun h506 => ?_) (fun h506 => ?_)
    · have h506c : a1 < 0 := by omega
      clear h506 hz505
      refine X.cut [] (zi204 17) rfl ?_
      refine X.iconst 18 (zi204 17) rfl rfl (by decide) ?_
      refine X.retz (zi204 18) rfl t204 (by omega) ?_
      show X (EE s) d 248 16 [(0, zr 4 44), (1, zi a1), (2, zi a2)] [zi 0] m501 _
      refine X.ifeq 31 19 (zi248 16) rfl rfl rfl (fun h507 => ?_) (fun h507 => (by exfalso; omega))
      refine X.cut [] (zi248 31) rfl ?_
      refine X.iconst 32 (zi248 31) rfl rfl (by decide) ?_
      refine X.retz (zi248 32) rfl t248 (by omega) ?_
      exact hQ 0 m501 (by first | trivial | omega) (Eq.trans (zb_eq hFv503) (Eq.trans (if_pos h504) (Eq.trans (if_pos h506c) rfl))) (hJ502.up (by omega)) 
    · have h506c : ¬ a1 < 0 := by omega
      clear h506 hz505
      refine X.lload_n 7 (zi204 6) rfl rfl rfl ?_
      refine X.lload 9 (zi204 7) rfl rfl rfl ?_
      refine X.lcmp 10 (zi204 9) rfl rfl (fun z508 hz508 => ?_)
      refine X.ifgt 17 13 (zi204 10) rfl rfl rfl (fun h509 => ?_) (fun h509 => ?_)
      · have h509c : ¬ a1 ≤ 364 := by omega
        clear h509 hz508
        refine X.cut [] (zi204 17) rfl ?_
        refine X.iconst 18 (zi204 17) rfl rfl (by decide) ?_
        refine X.retz (zi204 18) rfl t204 (by omega) ?_
        show X (EE s) d 248 16 [(0, zr 4 44), (1, zi a1), (2, zi a2)] [zi 0] m501 _
        refine X.ifeq 31 19 (zi248 16) rfl rfl rfl (fun h510 => ?_) (fun h510 => (by exfalso; omega))
        refine X.cut [] (zi248 31) rfl ?_
        refine X.iconst 32 (zi248 31) rfl rfl (by decide) ?_
        refine X.retz (zi248 32) rfl t248 (by omega) ?_
        exact hQ 0 m501 (by first | trivial | omega) (Eq.trans (zb_eq hFv503) (Eq.trans (if_pos h504) (Eq.trans (if_neg h506c) (Eq.trans (if_neg h509c) rfl)))) (hJ502.up (by omega)) 
      · have h509c : a1 ≤ 364 := by omega
        clear h509 hz508
        refine X.iconst 14 (zi204 13) rfl rfl (by decide) ?_
        refine X.goto 18 (zi204 14) rfl rfl ?_
        refine X.cut [] (zi204 18) rfl ?_
        refine X.retz (zi204 18) rfl t204 (by omega) ?_
        show X (EE s) d 248 16 [(0, zr 4 44), (1, zi a1), (2, zi a2)] [zi 1] m501 _
        refine X.ifeq 31 19 (zi248 16) rfl rfl rfl (fun h511 => (by exfalso; omega)) (fun h511 => ?_)
        refine X.iload_n 20 (zi248 19) rfl rfl rfl ?_
        refine X.iconst 21 (zi248 20) rfl rfl (by decide) ?_
        refine X.icmpeq 33 24 (zi248 21) rfl rfl rfl (fun h512 => ?_) (fun h512 => ?_)
        · refine X.aload_n 34 (zi248 33) rfl rfl rfl ?_
          refine X.getF 37 (zi248 34) rfl rfl (by decide) rfl rfl ?_
          refine X.sipush 40 (zi248 37) rfl rfl (by decide) ?_
          refine X.iload_n 41 (zi248 40) rfl rfl rfl ?_
          refine X.iadd 42 (zi248 41) rfl rfl (by omega) ?_
          refine X.lald 43 (zi248 42) rfl rfl (by decide) rfl (by omega) ?_
          have h513 := r45_423 hJ502 4 (i := (423 + a1)) (by omega)
          refine X.ldc2 46 (zi248 43) rfl rfl (by decide) ?_
          refine X.lcmp 47 (zi248 46) rfl rfl (fun z514 hz514 => ?_)
          have hK519 : ∀ (v : Int) , (0 ≤ v ∧ v ≤ 1) → (if (m501 4 45 (423 + a1)) = (-1) then
              (0)
              else
              (1)) = v → X (EE s) d 248 55 [(0, zr 4 44), (1, zi a1), (2, zi a2)] [zi v] m501 Q := by
            intro v516 hv516 hT520
            refine X.istore_n 56 [(0, zr 4 44), (1, zi a1), (2, zi a2), (3, zi v516)] (zi248 55) rfl rfl rfl ?_
            refine X.iload_n 57 (zi248 56) rfl rfl rfl ?_
            refine X.iconst 58 (zi248 57) rfl rfl (by decide) ?_
            refine X.icmpne 68 61 (zi248 58) rfl rfl rfl (fun h521 => (by exfalso; omega)) (fun h521 => ?_)
            refine X.iload_n 62 (zi248 61) rfl rfl rfl ?_
            refine X.ifne 83 65 (zi248 62) rfl rfl rfl (fun h522 => ?_) (fun h522 => ?_)
            · refine X.cut [(0, zr 4 44), (1, zi a1), (2, zi a2)] (zi248 83) rfl ?_
              refine X.aload_n 84 (zi248 83) rfl rfl rfl ?_
              refine X.getF 87 (zi248 84) rfl rfl (by decide) rfl rfl ?_
              refine X.sipush 90 (zi248 87) rfl rfl (by decide) ?_
              refine X.iload_n 91 (zi248 90) rfl rfl rfl ?_
              refine X.iadd 92 (zi248 91) rfl rfl (by omega) ?_
              refine X.iload_n 93 (zi248 92) rfl rfl rfl ?_
              refine X.i2l 94 (zi248 93) rfl rfl ?_
              refine X.last' 95 (zi248 94) rfl rfl (by decide) rfl (by omega) (fun hrm523 m523 hm523 => ?_)
              have hJ524 := w45_423 hJ502 hm523 (by omega) (by omega) hf21 hg4
              refine X.iconst 96 (zi248 95) rfl rfl (by decide) ?_
              refine X.retz (zi248 96) rfl t248 (by omega) ?_
              exact hQ 1 m523 (by first | trivial | omega) (Eq.trans (zb_eq hFv503) (Eq.trans (if_pos h504) (Eq.trans (if_neg h506c) (Eq.trans (if_pos h509c) (Eq.trans (if_pos h512) (Eq.trans (zn_eq hT520.symm) (Eq.trans (if_neg h522) (Eq.trans (zs_eq hm523) rfl)))))))) (hJ524.up (by omega)) 
            · refine X.goto 81 (zi248 65) rfl rfl ?_
              refine X.cut [] (zi248 81) rfl ?_
              refine X.iconst 82 (zi248 81) rfl rfl (by decide) ?_
              refine X.retz (zi248 82) rfl t248 (by omega) ?_
              exact hQ 0 m501 (by first | trivial | omega) (Eq.trans (zb_eq hFv503) (Eq.trans (if_pos h504) (Eq.trans (if_neg h506c) (Eq.trans (if_pos h509c) (Eq.trans (if_pos h512) (Eq.trans (zn_eq hT520.symm) (Eq.trans (if_pos h522) rfl))))))) (hJ502.up (by omega)) 
          refine X.ifeq 54 50 (zi248 47) rfl rfl rfl (fun h515 => ?_) (fun h515 => ?_)
          · have h515c : (m501 4 45 (423 + a1)) = (-1) := by omega
            clear h515 hz514
            refine X.iconst 55 (zi248 54) rfl rfl (by decide) ?_
            exact hK519 0 (by first | trivial | omega) (Eq.trans (if_pos h515c) rfl)
          · have h515c : ¬ (m501 4 45 (423 + a1)) = (-1) := by omega
            clear h515 hz514
            refine X.iconst 51 (zi248 50) rfl rfl (by decide) ?_
            refine X.goto 55 (zi248 51) rfl rfl ?_
            exact hK519 1 (by first | trivial | omega) (Eq.trans (if_neg h515c) rfl)
        · refine X.iload_n 25 (zi248 24) rfl rfl rfl ?_
          refine X.calls 28 [zi a2] [] [(0, zi a2)] (zi248 25) (by decide) rfl rfl (by omega) rfl rfl t241 (Nat.le_of_ble_eq_true rfl) (Nat.le_of_ble_eq_true rfl) rfl ?_
          refine X.iload_n 1 (zi241 0) rfl rfl rfl ?_
          refine X.i2l 2 (zi241 1) rfl rfl ?_
          refine X.lconst (y := 0) 3 (zi241 2) rfl rfl rfl ?_
          refine X.ldc2 6 (zi241 3) rfl rfl (by decide) ?_
          refine X.calls 9 [zl a2, zl 0, zl 7] [] [(0, zl a2), (2, zl 0), (4, zl 7)] (zi241 6) (by decide) rfl rfl (by omega) rfl rfl t204 (Nat.le_of_ble_eq_true rfl) (Nat.le_of_ble_eq_true rfl) rfl ?_
          refine X.lload_n 1 (zi204 0) rfl rfl rfl ?_
          refine X.lload_n 2 (zi204 1) rfl rfl rfl ?_
          refine X.lcmp 3 (zi204 2) rfl rfl (fun z525 hz525 => ?_)
          refine X.iflt 17 6 (zi204 3) rfl rfl rfl (fun h526 => ?_) (fun h526 => ?_)
          · have h526c : a2 < 0 := by omega
            clear h526 hz525
            refine X.cut [] (zi204 17) rfl ?_
            refine X.iconst 18 (zi204 17) rfl rfl (by decide) ?_
            refine X.retz (zi204 18) rfl t204 (by omega) ?_
            show X (EE s) (d - 1) 241 9 [(0, zi a2)] [zi 0] m501 _
            refine X.retz (zi241 9) rfl t241 (by omega) ?_
            show X (EE s) d 248 28 [(0, zr 4 44), (1, zi a1), (2, zi a2)] [zi 0] m501 _
            refine X.ifne 33 31 (zi248 28) rfl rfl rfl (fun h527 => (by exfalso; omega)) (fun h527 => ?_)
            refine X.cut [] (zi248 31) rfl ?_
            refine X.iconst 32 (zi248 31) rfl rfl (by decide) ?_
            refine X.retz (zi248 32) rfl t248 (by omega) ?_
            exact hQ 0 m501 (by first | trivial | omega) (Eq.trans (zb_eq hFv503) (Eq.trans (if_pos h504) (Eq.trans (if_neg h506c) (Eq.trans (if_pos h509c) (Eq.trans (if_neg h512) (Eq.trans (if_pos h526c) rfl)))))) (hJ502.up (by omega)) 
          · have h526c : ¬ a2 < 0 := by omega
            clear h526 hz525
            refine X.lload_n 7 (zi204 6) rfl rfl rfl ?_
            refine X.lload 9 (zi204 7) rfl rfl rfl ?_
            refine X.lcmp 10 (zi204 9) rfl rfl (fun z528 hz528 => ?_)
            refine X.ifgt 17 13 (zi204 10) rfl rfl rfl (fun h529 => ?_) (fun h529 => ?_)
            · have h529c : ¬ a2 ≤ 7 := by omega
              clear h529 hz528
              refine X.cut [] (zi204 17) rfl ?_
              refine X.iconst 18 (zi204 17) rfl rfl (by decide) ?_
              refine X.retz (zi204 18) rfl t204 (by omega) ?_
              show X (EE s) (d - 1) 241 9 [(0, zi a2)] [zi 0] m501 _
              refine X.retz (zi241 9) rfl t241 (by omega) ?_
              show X (EE s) d 248 28 [(0, zr 4 44), (1, zi a1), (2, zi a2)] [zi 0] m501 _
              refine X.ifne 33 31 (zi248 28) rfl rfl rfl (fun h530 => (by exfalso; omega)) (fun h530 => ?_)
              refine X.cut [] (zi248 31) rfl ?_
              refine X.iconst 32 (zi248 31) rfl rfl (by decide) ?_
              refine X.retz (zi248 32) rfl t248 (by omega) ?_
              exact hQ 0 m501 (by first | trivial | omega) (Eq.trans (zb_eq hFv503) (Eq.trans (if_pos h504) (Eq.trans (if_neg h506c) (Eq.trans (if_pos h509c) (Eq.trans (if_neg h512) (Eq.trans (if_neg h526c) (Eq.trans (if_neg h529c) rfl))))))) (hJ502.up (by omega)) 
            · have h529c : a2 ≤ 7 := by omega
              clear h529 hz528
              refine X.iconst 14 (zi204 13) rfl rfl (by decide) ?_
              refine X.goto 18 (zi204 14) rfl rfl ?_
              refine X.cut [] (zi204 18) rfl ?_
              refine X.retz (zi204 18) rfl t204 (by omega) ?_
              show X (EE s) (d - 1) 241 9 [(0, zi a2)] [zi 1] m501 _
              refine X.retz (zi241 9) rfl t241 (by omega) ?_
              show X (EE s) d 248 28 [(0, zr 4 44), (1, zi a1), (2, zi a2)] [zi 1] m501 _
              refine X.ifne 33 31 (zi248 28) rfl rfl rfl (fun h531 => ?_) (fun h531 => (by exfalso; omega))
              refine X.aload_n 34 (zi248 33) rfl rfl rfl ?_
              refine X.getF 37 (zi248 34) rfl rfl (by decide) rfl rfl ?_
              refine X.sipush 40 (zi248 37) rfl rfl (by decide) ?_
              refine X.iload_n 41 (zi248 40) rfl rfl rfl ?_
              refine X.iadd 42 (zi248 41) rfl rfl (by omega) ?_
              refine X.lald 43 (zi248 42) rfl rfl (by decide) rfl (by omega) ?_
              have h532 := r45_423 hJ502 4 (i := (423 + a1)) (by omega)
              refine X.ldc2 46 (zi248 43) rfl rfl (by decide) ?_
              refine X.lcmp 47 (zi248 46) rfl rfl (fun z533 hz533 => ?_)
              have hK538 : ∀ (v : Int) , (0 ≤ v ∧ v ≤ 1) → (if (m501 4 45 (423 + a1)) = (-1) then
                  (0)
                  else
                  (1)) = v → X (EE s) d 248 55 [(0, zr 4 44), (1, zi a1), (2, zi a2)] [zi v] m501 Q := by
                intro v535 hv535 hT539
                refine X.istore_n 56 [(0, zr 4 44), (1, zi a1), (2, zi a2), (3, zi v535)] (zi248 55) rfl rfl rfl ?_
                refine X.iload_n 57 (zi248 56) rfl rfl rfl ?_
                refine X.iconst 58 (zi248 57) rfl rfl (by decide) ?_
                refine X.icmpne 68 61 (zi248 58) rfl rfl rfl (fun h540 => ?_) (fun h540 => (by exfalso; omega))
                refine X.iload_n 69 (zi248 68) rfl rfl rfl ?_
                refine X.ifne 83 72 (zi248 69) rfl rfl rfl (fun h541 => ?_) (fun h541 => ?_)
                · refine X.cut [(0, zr 4 44), (1, zi a1), (2, zi a2)] (zi248 83) rfl ?_
                  refine X.aload_n 84 (zi248 83) rfl rfl rfl ?_
                  refine X.getF 87 (zi248 84) rfl rfl (by decide) rfl rfl ?_
                  refine X.sipush 90 (zi248 87) rfl rfl (by decide) ?_
                  refine X.iload_n 91 (zi248 90) rfl rfl rfl ?_
                  refine X.iadd 92 (zi248 91) rfl rfl (by omega) ?_
                  refine X.iload_n 93 (zi248 92) rfl rfl rfl ?_
                  refine X.i2l 94 (zi248 93) rfl rfl ?_
                  refine X.last' 95 (zi248 94) rfl rfl (by decide) rfl (by omega) (fun hrm542 m542 hm542 => ?_)
                  have hJ543 := w45_423 hJ502 hm542 (by omega) (by omega) hf21 hg4
                  refine X.iconst 96 (zi248 95) rfl rfl (by decide) ?_
                  refine X.retz (zi248 96) rfl t248 (by omega) ?_
                  exact hQ 1 m542 (by first | trivial | omega) (Eq.trans (zb_eq hFv503) (Eq.trans (if_pos h504) (Eq.trans (if_neg h506c) (Eq.trans (if_pos h509c) (Eq.trans (if_neg h512) (Eq.trans (if_neg h526c) (Eq.trans (if_pos h529c) (Eq.trans (zn_eq hT539.symm) (Eq.trans (if_neg h541) (Eq.trans (zs_eq hm542) rfl)))))))))) (hJ543.up (by omega)) 
                · refine X.aload_n 73 (zi248 72) rfl rfl rfl ?_
                  refine X.callv 76 [] [] [(0, zr 4 44)] (zi248 73) rfl (by decide) rfl rfl (by omega) rfl rfl (by decide) rfl t249 (Nat.le_of_ble_eq_true rfl) (Nat.le_of_ble_eq_true rfl) rfl ?_
                  refine c249_1 (B := B)   (by omega) (hJ502.up (by omega)) (by omega)  (fun v546 hv546 hFv546 => ?_)
                  show X (EE s) d 248 76 [(0, zr 4 44), (1, zi a1), (2, zi a2), (3, zi v535)] [zi v546] m501 _
                  refine X.bipush 78 (zi248 76) rfl rfl (by decide) ?_
                  refine X.icmpne 83 81 (zi248 78) rfl rfl rfl (fun h547 => ?_) (fun h547 => ?_)
                  · refine X.cut [(0, zr 4 44), (1, zi a1), (2, zi a2)] (zi248 83) rfl ?_
                    refine X.aload_n 84 (zi248 83) rfl rfl rfl ?_
                    refine X.getF 87 (zi248 84) rfl rfl (by decide) rfl rfl ?_
                    refine X.sipush 90 (zi248 87) rfl rfl (by decide) ?_
                    refine X.iload_n 91 (zi248 90) rfl rfl rfl ?_
                    refine X.iadd 92 (zi248 91) rfl rfl (by omega) ?_
                    refine X.iload_n 93 (zi248 92) rfl rfl rfl ?_
                    refine X.i2l 94 (zi248 93) rfl rfl ?_
                    refine X.last' 95 (zi248 94) rfl rfl (by decide) rfl (by omega) (fun hrm548 m548 hm548 => ?_)
                    have hJ549 := w45_423 hJ502 hm548 (by omega) (by omega) hf21 hg4
                    refine X.iconst 96 (zi248 95) rfl rfl (by decide) ?_
                    refine X.retz (zi248 96) rfl t248 (by omega) ?_
                    exact hQ 1 m548 (by first | trivial | omega) (Eq.trans (zb_eq hFv503) (Eq.trans (if_pos h504) (Eq.trans (if_neg h506c) (Eq.trans (if_pos h509c) (Eq.trans (if_neg h512) (Eq.trans (if_neg h526c) (Eq.trans (if_pos h529c) (Eq.trans (zn_eq hT539.symm) (Eq.trans (if_pos h541) (Eq.trans (zn_eq hFv546.symm) (Eq.trans (if_neg h547) (Eq.trans (zs_eq hm548) rfl)))))))))))) (hJ549.up (by omega)) 
                  · refine X.cut [] (zi248 81) rfl ?_
                    refine X.iconst 82 (zi248 81) rfl rfl (by decide) ?_
                    refine X.retz (zi248 82) rfl t248 (by omega) ?_
                    exact hQ 0 m501 (by first | trivial | omega) (Eq.trans (zb_eq hFv503) (Eq.trans (if_pos h504) (Eq.trans (if_neg h506c) (Eq.trans (if_pos h509c) (Eq.trans (if_neg h512) (Eq.trans (if_neg h526c) (Eq.trans (if_pos h529c) (Eq.trans (zn_eq hT539.symm) (Eq.trans (if_pos h541) (Eq.trans (zn_eq hFv546.symm) (Eq.trans (if_pos h547) rfl))))))))))) (hJ502.up (by omega)) 
              refine X.ifeq 54 50 (zi248 47) rfl rfl rfl (fun h534 => ?_) (fun h534 => ?_)
              · have h534c : (m501 4 45 (423 + a1)) = (-1) := by omega
                clear h534 hz533
                refine X.iconst 55 (zi248 54) rfl rfl (by decide) ?_
                exact hK538 0 (by first | trivial | omega) (Eq.trans (if_pos h534c) rfl)
              · have h534c : ¬ (m501 4 45 (423 + a1)) = (-1) := by omega
                clear h534 hz533
                refine X.iconst 51 (zi248 50) rfl rfl (by decide) ?_
                refine X.goto 55 (zi248 51) rfl rfl ?_
                exact hK538 1 (by first | trivial | omega) (Eq.trans (if_neg h534c) rfl)
-- WorkMeter$Meter.note
theorem c54_6 {s : Nat × (Nat → Int32)} {S : zS} {m0 m : zM} {B : Int} {d : Nat} {Q : Option zV → zM → Prop} (g0 : Nat) (a1 a2 : Int) (hd : 14 ≤ d) (hJ : J S m0 B m) (hB : B + 1 ≤ 1000000000) (ha1 : 20 ≤ a1 ∧ a1 ≤ 20) (ha2 : 0 ≤ a2 ∧ a2 ≤ 2000000000) (hf6 : ¬ S.1 6) (hgg0 : ¬ S.2.1 g0) (hQ : ∀ m', f54_1 g0 a1 a2 m = m' → J S m0 (B + 1) m' → Q none m') : X (EE s) d 54 0 [(0, zr g0 8), (1, zi a1), (2, zi a2)] [] m Q := by
  refine X.aload_n 1 (zi54 0) rfl rfl rfl ?_
  refine X.getR 4 (zi54 1) rfl rfl (by decide) rfl rfl ?_
  refine X.aload_n 5 (zi54 4) rfl rfl rfl ?_
  refine X.getI 8 9 (zi54 5) rfl rfl (by decide) rfl rfl rfl ?_
  have h501 := r8_9 hJ g0
  refine X.iload_n 9 (zi54 8) rfl rfl rfl ?_
  refine X.iload_n 10 (zi54 9) rfl rfl rfl ?_
  refine X.callv 13 [zi (m g0 8 9), zi a1, zi a2] [] [(0, zr g0 37), (1, zi (m g0 8 9)), (2, zi a1), (3, zi a2)] (zi54 10) rfl (by decide) rfl rfl (by omega) rfl rfl (by decide) rfl t55 (Nat.le_of_ble_eq_true rfl) (Nat.le_of_ble_eq_true rfl) rfl ?_
  refine c55_1 (B := B) g0 (m g0 8 9) a1 a2 (by omega) (hJ.up (by omega)) (by omega) (by omega) (by omega) (by omega) hf6 hgg0 (fun m502 hFv504 hJ503 => ?_)
  show X (EE s) d 54 13 [(0, zr g0 8), (1, zi a1), (2, zi a2)] [] m502 _
  refine X.retv (zi54 13) rfl t54 ?_
  exact hQ  m502  (Eq.trans (zs_eq hFv504.symm) rfl) (hJ503.up (by omega)) 
-- WorkMeter$Meter.moveClock
noncomputable def f129_1 (g0 : Nat) (a1 : Int) (m : zM) : Int × zM :=
  zs (f60_1 g0 (m g0 8 9) (max 1 (m g0 10 4)) 64 m) fun m503 =>
  zs (z_upd m503 g0 8 9 a1) fun m506 =>
  zs (z_upd m506 g0 27 9 a1) fun m508 =>
  zs (f54_1 g0 20 (m g0 8 9) m508) fun m510 =>
  ((m g0 8 9), m510)
-- WorkMeter$Meter.moveClock
theorem c129_1 {s : Nat × (Nat → Int32)} {S : zS} {m0 m : zM} {B : Int} {d : Nat} {Q : Option zV → zM → Prop} (g0 : Nat) (a1 : Int) (hd : 15 ≤ d) (hJ : J S m0 B m) (hB : B + 2 ≤ 1000000000) (ha1 : 0 ≤ a1 ∧ a1 ≤ 2000000000) (hf6 : ¬ S.1 6) (hf7 : ¬ S.1 7) (hf11 : ¬ S.1 11) (hgg0 : ¬ S.2.1 g0) (hQ : ∀ (v : Int) m', (0 ≤ v ∧ v ≤ 2000000000) → f129_1 g0 a1 m = (v, m') → J S m0 (B + 2) m' → Q (some (zi v)) m') : X (EE s) d 129 0 [(0, zr g0 8), (1, zi a1)] [] m Q := by
  refine X.aload_n 1 (zi129 0) rfl rfl rfl ?_
  refine X.getI 4 9 (zi129 1) rfl rfl (by decide) rfl rfl rfl ?_
  have h501 := r8_9 hJ g0
  refine X.istore_n 5 [(0, zr g0 8), (1, zi a1), (2, zi (m g0 8 9))] (zi129 4) rfl rfl rfl ?_
  refine X.aload_n 6 (zi129 5) rfl rfl rfl ?_
  refine X.getR 9 (zi129 6) rfl rfl (by decide) rfl rfl ?_
  refine X.aload_n 10 (zi129 9) rfl rfl rfl ?_
  refine X.getI 13 9 (zi129 10) rfl rfl (by decide) rfl rfl rfl ?_
  refine X.aload_n 14 (zi129 13) rfl rfl rfl ?_
  refine X.getR 17 (zi129 14) rfl rfl (by decide) rfl rfl ?_
  refine X.callv 20 [] [zi (m g0 8 9), zr g0 27] [(0, zr g0 9)] (zi129 17) rfl (by decide) rfl rfl (by omega) rfl rfl (by decide) rfl t36 (Nat.le_of_ble_eq_true rfl) (Nat.le_of_ble_eq_true rfl) rfl ?_
  refine X.iconst 1 (zi36 0) rfl rfl (by decide) ?_
  refine X.aload_n 2 (zi36 1) rfl rfl rfl ?_
  refine X.getR 5 (zi36 2) rfl rfl (by decide) rfl rfl ?_
  refine X.iconst 6 (zi36 5) rfl rfl (by decide) ?_
  refine X.iald 7 (zi36 6) rfl rfl (by decide) rfl (by omega) ?_
  have h502 := r10_0 hJ g0 (i := 4) (by omega)
  refine X.maxI 10 (zi36 7) rfl rfl (by omega) (Nat.le_of_ble_eq_true rfl) ?_
  refine X.reti (zi36 10) rfl t36 ?_
  show X (EE s) d 129 20 [(0, zr g0 8), (1, zi a1), (2, zi (m g0 8 9))] [zi (max 1 (m g0 10 4)), zi (m g0 8 9), zr g0 27] m _
  refine X.bipush 22 (zi129 20) rfl rfl (by decide) ?_
  refine X.callv 25 [zi (m g0 8 9), zi (max 1 (m g0 10 4)), zi 64] [] [(0, zr g0 27), (1, zi (m g0 8 9)), (2, zi (max 1 (m g0 10 4))), (3, zi 64)] (zi129 22) rfl (by decide) rfl rfl (by omega) rfl rfl (by decide) rfl t60 (Nat.le_of_ble_eq_true rfl) (Nat.le_of_ble_eq_true rfl) rfl ?_
  refine c60_1 (B := B) g0 (m g0 8 9) (max 1 (m g0 10 4)) 64 (by omega) (hJ.up (by omega)) (by omega) (by omega) (by omega) (by omega) hf7 hgg0 (fun m503 hFv505 hJ504 => ?_)
  show X (EE s) d 129 25 [(0, zr g0 8), (1, zi a1), (2, zi (m g0 8 9))] [] m503 _
  refine X.aload_n 26 (zi129 25) rfl rfl rfl ?_
  refine X.iload_n 27 (zi129 26) rfl rfl rfl ?_
  refine X.putI' 30 9 (zi129 27) rfl rfl (by decide) rfl rfl rfl (fun hrm506 m506 hm506 => ?_)
  have hJ507 := w8_9 hJ504 hm506 (by omega) hf11 hgg0
  have em506 : m506 g0 8 9 = a1 := by rw [hm506]; exact z_upd_same _ _ _ _ _
  refine X.aload_n 31 (zi129 30) rfl rfl rfl ?_
  refine X.getR 34 (zi129 31) rfl rfl (by decide) rfl rfl ?_
  refine X.iload_n 35 (zi129 34) rfl rfl rfl ?_
  refine X.putI' 38 9 (zi129 35) rfl rfl (by decide) rfl rfl rfl (fun hrm508 m508 hm508 => ?_)
  have hJ509 := w27_9 hJ507 hm508 (by omega) hf7 hgg0
  refine X.aload_n 39 (zi129 38) rfl rfl rfl ?_
  refine X.bipush 41 (zi129 39) rfl rfl (by decide) ?_
  refine X.iload_n 42 (zi129 41) rfl rfl rfl ?_
  refine X.callv 45 [zi 20, zi (m g0 8 9)] [] [(0, zr g0 8), (1, zi 20), (2, zi (m g0 8 9))] (zi129 42) rfl (by decide) rfl rfl (by omega) rfl rfl (by decide) rfl t54 (Nat.le_of_ble_eq_true rfl) (Nat.le_of_ble_eq_true rfl) rfl ?_
  refine c54_6 (B := B + 1) g0 20 (m g0 8 9) (by omega) (hJ509.up (by omega)) (by omega) (by omega) (by omega) hf6 hgg0 (fun m510 hFv512 hJ511 => ?_)
  show X (EE s) d 129 45 [(0, zr g0 8), (1, zi a1), (2, zi (m g0 8 9))] [] m510 _
  refine X.iload_n 46 (zi129 45) rfl rfl rfl ?_
  refine X.reti (zi129 46) rfl t129 ?_
  exact hQ (m g0 8 9) m510 (by first | trivial | omega) (Eq.trans (zs_eq hFv505.symm) (Eq.trans (zs_eq hm506) (Eq.trans (zs_eq hm508) (Eq.trans (zs_eq hFv512.symm) rfl)))) (hJ511.up (by omega)) 
-- WorkMeter.move
noncomputable def f127_1 (a1 : Int) (m : zM) : Int × zM :=
  zb (f17_1 0 m) fun v503 m501 =>
  if v503 = 0 then
  (if a1 < 0 then
  (((-1), m501))
  else
  (if 2000000000 < a1 then
  (((-1), m501))
  else
  (zb (f129_1 0 a1 m501) fun v512 m510 =>
  (v512, m510))))
  else
  (((-1), m501))
-- WorkMeter.move
theorem c127_1 {s : Nat × (Nat → Int32)} {S : zS} {m0 m : zM} {B : Int} {d : Nat} {Q : Option zV → zM → Prop} (a1 : Int) (hd : 16 ≤ d) (hJ : J S m0 B m) (hB : B + 2 ≤ 1000000000) (ha1 : (-2147483648) ≤ a1 ∧ a1 ≤ 2147483647) (hf4 : ¬ S.1 4) (hf6 : ¬ S.1 6) (hf7 : ¬ S.1 7) (hf11 : ¬ S.1 11) (hg0 : ¬ S.2.1 0) (hQ : ∀ (v : Int) m', ((-1) ≤ v ∧ v ≤ 2000000000) → f127_1 a1 m = (v, m') → J S m0 (B + 2) m' → Q (some (zi v)) m') : X (EE s) d 127 0 [(0, zr 4 40), (1, zi a1)] [] m Q := by
  refine X.aload_n 1 (zi127 0) rfl rfl rfl ?_
  refine X.getF 4 (zi127 1) rfl rfl (by decide) rfl rfl ?_
  refine X.getR 7 (zi127 4) rfl rfl (by decide) rfl rfl ?_
  refine X.callv 10 [] [] [(0, zr 0 39)] (zi127 7) rfl (by decide) rfl rfl (by omega) rfl rfl (by decide) rfl t17 (Nat.le_of_ble_eq_true rfl) (Nat.le_of_ble_eq_true rfl) rfl ?_
  refine c17_1 (B := B) 0  (by omega) (hJ.up (by omega)) (by omega)  hf4 hg0 (fun v503 m501 hv503 hFv503 hJ502 => ?_)
  show X (EE s) d 127 10 [(0, zr 4 40), (1, zi a1)] [zi v503] m501 _
  refine X.ifne 20 13 (zi127 10) rfl rfl rfl (fun h504 => ?_) (fun h504 => ?_)
  · refine X.cut [] (zi127 20) rfl ?_
    refine X.iconst 21 (zi127 20) rfl rfl (by decide) ?_
    refine X.reti (zi127 21) rfl t127 ?_
    exact hQ (-1) m501 (by first | trivial | omega) (Eq.trans (zb_eq hFv503) (Eq.trans (if_neg h504) rfl)) (hJ502.up (by omega)) 
  · refine X.iload_n 14 (zi127 13) rfl rfl rfl ?_
    refine X.calls 17 [zi a1] [] [(0, zi a1)] (zi127 14) (by decide) rfl rfl (by omega) rfl rfl t128 (Nat.le_of_ble_eq_true rfl) (Nat.le_of_ble_eq_true rfl) rfl ?_
    refine X.iload_n 1 (zi128 0) rfl rfl rfl ?_
    refine X.iflt 14 4 (zi128 1) rfl rfl rfl (fun h505 => ?_) (fun h505 => ?_)
    · refine X.cut [] (zi128 14) rfl ?_
      refine X.iconst 15 (zi128 14) rfl rfl (by decide) ?_
      refine X.retz (zi128 15) rfl t128 (by omega) ?_
      show X (EE s) d 127 17 [(0, zr 4 40), (1, zi a1)] [zi 0] m501 _
      refine X.ifne 22 20 (zi127 17) rfl rfl rfl (fun h506 => (by exfalso; omega)) (fun h506 => ?_)
      refine X.cut [] (zi127 20) rfl ?_
      refine X.iconst 21 (zi127 20) rfl rfl (by decide) ?_
      refine X.reti (zi127 21) rfl t127 ?_
      exact hQ (-1) m501 (by first | trivial | omega) (Eq.trans (zb_eq hFv503) (Eq.trans (if_pos h504) (Eq.trans (if_pos h505) rfl))) (hJ502.up (by omega)) 
    · refine X.iload_n 5 (zi128 4) rfl rfl rfl ?_
      refine X.ldc 7 (zi128 5) rfl rfl (by decide) ?_
      refine X.icmpgt 14 10 (zi128 7) rfl rfl rfl (fun h507 => ?_) (fun h507 => ?_)
      · refine X.cut [] (zi128 14) rfl ?_
        refine X.iconst 15 (zi128 14) rfl rfl (by decide) ?_
        refine X.retz (zi128 15) rfl t128 (by omega) ?_
        show X (EE s) d 127 17 [(0, zr 4 40), (1, zi a1)] [zi 0] m501 _
        refine X.ifne 22 20 (zi127 17) rfl rfl rfl (fun h508 => (by exfalso; omega)) (fun h508 => ?_)
        refine X.cut [] (zi127 20) rfl ?_
        refine X.iconst 21 (zi127 20) rfl rfl (by decide) ?_
        refine X.reti (zi127 21) rfl t127 ?_
        exact hQ (-1) m501 (by first | trivial | omega) (Eq.trans (zb_eq hFv503) (Eq.trans (if_pos h504) (Eq.trans (if_neg h505) (Eq.trans (if_pos h507) rfl)))) (hJ502.up (by omega)) 
      · refine X.iconst 11 (zi128 10) rfl rfl (by decide) ?_
        refine X.goto 15 (zi128 11) rfl rfl ?_
        refine X.cut [] (zi128 15) rfl ?_
        refine X.retz (zi128 15) rfl t128 (by omega) ?_
        show X (EE s) d 127 17 [(0, zr 4 40), (1, zi a1)] [zi 1] m501 _
        refine X.ifne 22 20 (zi127 17) rfl rfl rfl (fun h509 => ?_) (fun h509 => (by exfalso; omega))
        refine X.aload_n 23 (zi127 22) rfl rfl rfl ?_
        refine X.getF 26 (zi127 23) rfl rfl (by decide) rfl rfl ?_
        refine X.iload_n 27 (zi127 26) rfl rfl rfl ?_
        refine X.callv 30 [zi a1] [] [(0, zr 0 8), (1, zi a1)] (zi127 27) rfl (by decide) rfl rfl (by omega) rfl rfl (by decide) rfl t129 (Nat.le_of_ble_eq_true rfl) (Nat.le_of_ble_eq_true rfl) rfl ?_
        refine c129_1 (B := B) 0 a1 (by omega) (hJ502.up (by omega)) (by omega) (by omega) hf6 hf7 hf11 hg0 (fun v512 m510 hv512 hFv512 hJ511 => ?_)
        show X (EE s) d 127 30 [(0, zr 4 40), (1, zi a1)] [zi v512] m510 _
        refine X.reti (zi127 30) rfl t127 ?_
        exact hQ v512 m510 (by first | trivial | omega) (Eq.trans (zb_eq hFv503) (Eq.trans (if_pos h504) (Eq.trans (if_neg h505) (Eq.trans (if_neg h507) (Eq.trans (zb_eq hFv512) rfl))))) (hJ511.up (by omega)) 
-- WorkMeterModel.move
noncomputable def f281_1 (a1 : Int) (m : zM) : Int × zM :=
  zb (f203_1 m) fun v503 m501 =>
  if v503 = 0 then
  (if a1 < 0 then
  (((-1), m501))
  else
  (if a1 ≤ 2000000000 then
  (zs (f232_1 64 m501) fun m513 =>
  zs (z_upd m513 4 45 0 a1) fun m516 =>
  zs (f233_1 m516) fun m518 =>
  zs (f223_1 20 (m501 4 45 0) m518) fun m521 =>
  ((m501 4 45 0), m521))
  else
  (((-1), m501))))
  else
  (((-1), m501))
-- WorkMeterModel.move
theorem c281_1 {s : Nat × (Nat → Int32)} {S : zS} {m0 m : zM} {B : Int} {d : Nat} {Q : Option zV → zM → Prop} (a1 : Int) (hd : 18 ≤ d) (hJ : J S m0 B m) (hB : B + 2 ≤ 1000000000) (ha1 : (-2147483648) ≤ a1 ∧ a1 ≤ 2147483647) (hf24 : ¬ S.1 24) (hf26 : ¬ S.1 26) (hf27 : ¬ S.1 27) (hf28 : ¬ S.1 28) (hf31 : ¬ S.1 31) (hg4 : ¬ S.2.1 4) (hQ : ∀ (v : Int) m', ((-1) ≤ v ∧ v ≤ 2000000000) → f281_1 a1 m = (v, m') → J S m0 (B + 2) m' → Q (some (zi v)) m') : X (EE s) d 281 0 [(0, zr 4 44), (1, zi a1)] [] m Q := by
  refine X.aload_n 1 (zi281 0) rfl rfl rfl ?_
  refine X.callv 4 [] [] [(0, zr 4 44)] (zi281 1) rfl (by decide) rfl rfl (by omega) rfl rfl (by decide) rfl t203 (Nat.le_of_ble_eq_true rfl) (Nat.le_of_ble_eq_true rfl) rfl ?_
  refine c203_1 (B := B)   (by omega) (hJ.up (by omega)) (by omega)  hf24 hg4 (fun v503 m501 hv503 hFv503 hJ502 => ?_)
  show X (EE s) d 281 4 [(0, zr 4 44), (1, zi a1)] [zi v503] m501 _
  refine X.ifne 19 7 (zi281 4) rfl rfl rfl (fun h504 => ?_) (fun h504 => ?_)
  · refine X.cut [] (zi281 19) rfl ?_
    refine X.iconst 20 (zi281 19) rfl rfl (by decide) ?_
    refine X.reti (zi281 20) rfl t281 ?_
    exact hQ (-1) m501 (by first | trivial | omega) (Eq.trans (zb_eq hFv503) (Eq.trans (if_neg h504) rfl)) (hJ502.up (by omega)) 
  · refine X.iload_n 8 (zi281 7) rfl rfl rfl ?_
    refine X.i2l 9 (zi281 8) rfl rfl ?_
    refine X.lconst (y := 0) 10 (zi281 9) rfl rfl rfl ?_
    refine X.ldc2 13 (zi281 10) rfl rfl (by decide) ?_
    refine X.calls 16 [zl a1, zl 0, zl 2000000000] [] [(0, zl a1), (2, zl 0), (4, zl 2000000000)] (zi281 13) (by decide) rfl rfl (by omega) rfl rfl t204 (Nat.le_of_ble_eq_true rfl) (Nat.le_of_ble_eq_true rfl) rfl ?_
    refine X.lload_n 1 (zi204 0) rfl rfl rfl ?_
    refine X.lload_n 2 (zi204 1) rfl rfl rfl ?_
    refine X.lcmp 3 (zi204 2) rfl rfl (fun z505 hz505 => ?_)
    refine X.iflt 17 6 (zi204 3) rfl rfl rfl (fun h506 => ?_) (fun h506 => ?_)
    · have h506c : a1 < 0 := by omega
      clear h506 hz505
      refine X.cut [] (zi204 17) rfl ?_
      refine X.iconst 18 (zi204 17) rfl rfl (by decide) ?_
      refine X.retz (zi204 18) rfl t204 (by omega) ?_
      show X (EE s) d 281 16 [(0, zr 4 44), (1, zi a1)] [zi 0] m501 _
      refine X.ifne 21 19 (zi281 16) rfl rfl rfl (fun h507 => (by exfalso; omega)) (fun h507 => ?_)
      refine X.cut [] (zi281 19) rfl ?_
      refine X.iconst 20 (zi281 19) rfl rfl (by decide) ?_
      refine X.reti (zi281 20) rfl t281 ?_
      exact hQ (-1) m501 (by first | trivial | omega) (Eq.trans (zb_eq hFv503) (Eq.trans (if_pos h504) (Eq.trans (if_pos h506c) rfl))) (hJ502.up (by omega)) 
    · have h506c : ¬ a1 < 0 := by omega
      clear h506 hz505
      refine X.lload_n 7 (zi204 6) rfl rfl rfl ?_
      refine X.lload 9 (zi204 7) rfl rfl rfl ?_
      refine X.lcmp 10 (zi204 9) rfl rfl (fun z508 hz508 => ?_)
      refine X.ifgt 17 13 (zi204 10) rfl rfl rfl (fun h509 => ?_) (fun h509 => ?_)
      · have h509c : ¬ a1 ≤ 2000000000 := by omega
        clear h509 hz508
        refine X.cut [] (zi204 17) rfl ?_
        refine X.iconst 18 (zi204 17) rfl rfl (by decide) ?_
        refine X.retz (zi204 18) rfl t204 (by omega) ?_
        show X (EE s) d 281 16 [(0, zr 4 44), (1, zi a1)] [zi 0] m501 _
        refine X.ifne 21 19 (zi281 16) rfl rfl rfl (fun h510 => (by exfalso; omega)) (fun h510 => ?_)
        refine X.cut [] (zi281 19) rfl ?_
        refine X.iconst 20 (zi281 19) rfl rfl (by decide) ?_
        refine X.reti (zi281 20) rfl t281 ?_
        exact hQ (-1) m501 (by first | trivial | omega) (Eq.trans (zb_eq hFv503) (Eq.trans (if_pos h504) (Eq.trans (if_neg h506c) (Eq.trans (if_neg h509c) rfl)))) (hJ502.up (by omega)) 
      · have h509c : a1 ≤ 2000000000 := by omega
        clear h509 hz508
        refine X.iconst 14 (zi204 13) rfl rfl (by decide) ?_
        refine X.goto 18 (zi204 14) rfl rfl ?_
        refine X.cut [] (zi204 18) rfl ?_
        refine X.retz (zi204 18) rfl t204 (by omega) ?_
        show X (EE s) d 281 16 [(0, zr 4 44), (1, zi a1)] [zi 1] m501 _
        refine X.ifne 21 19 (zi281 16) rfl rfl rfl (fun h511 => ?_) (fun h511 => (by exfalso; omega))
        refine X.aload_n 22 (zi281 21) rfl rfl rfl ?_
        refine X.getF 25 (zi281 22) rfl rfl (by decide) rfl rfl ?_
        refine X.iconst 26 (zi281 25) rfl rfl (by decide) ?_
        refine X.lald 27 (zi281 26) rfl rfl (by decide) rfl (by omega) ?_
        have h512 := r45_0 hJ502 4
        refine X.l2i 28 (zi281 27) rfl rfl (by omega) ?_
        refine X.istore_n 29 [(0, zr 4 44), (1, zi a1), (2, zi (m501 4 45 0))] (zi281 28) rfl rfl rfl ?_
        refine X.aload_n 30 (zi281 29) rfl rfl rfl ?_
        refine X.ldc2 33 (zi281 30) rfl rfl (by decide) ?_
        refine X.callv 36 [zl 64] [] [(0, zr 4 44), (1, zl 64)] (zi281 33) rfl (by decide) rfl rfl (by omega) rfl rfl (by decide) rfl t232 (Nat.le_of_ble_eq_true rfl) (Nat.le_of_ble_eq_true rfl) rfl ?_
        refine c232_1 (B := B)  64 (by omega) (hJ502.up (by omega)) (by omega) (by omega) hf27 hf28 hg4 (fun m513 hFv515 hJ514 => ?_)
        show X (EE s) d 281 36 [(0, zr 4 44), (1, zi a1), (2, zi (m501 4 45 0))] [] m513 _
        refine X.aload_n 37 (zi281 36) rfl rfl rfl ?_
        refine X.getF 40 (zi281 37) rfl rfl (by decide) rfl rfl ?_
        refine X.iconst 41 (zi281 40) rfl rfl (by decide) ?_
        refine X.iload_n 42 (zi281 41) rfl rfl rfl ?_
        refine X.i2l 43 (zi281 42) rfl rfl ?_
        refine X.last' 44 (zi281 43) rfl rfl (by decide) rfl (by omega) (fun hrm516 m516 hm516 => ?_)
        have hJ517 := w45_0 hJ514 hm516 (by omega) hf31 hg4
        refine X.aload_n 45 (zi281 44) rfl rfl rfl ?_
        refine X.callv 48 [] [] [(0, zr 4 44)] (zi281 45) rfl (by decide) rfl rfl (by omega) rfl rfl (by decide) rfl t233 (Nat.le_of_ble_eq_true rfl) (Nat.le_of_ble_eq_true rfl) rfl ?_
        refine c233_1 (B := B + 1)   (by omega) (hJ517.up (by omega)) (by omega)  hf27 hg4 (fun m518 hFv520 hJ519 => ?_)
        show X (EE s) d 281 48 [(0, zr 4 44), (1, zi a1), (2, zi (m501 4 45 0))] [] m518 _
        refine X.aload_n 49 (zi281 48) rfl rfl rfl ?_
        refine X.bipush 51 (zi281 49) rfl rfl (by decide) ?_
        refine X.iload_n 52 (zi281 51) rfl rfl rfl ?_
        refine X.i2l 53 (zi281 52) rfl rfl ?_
        refine X.callv 56 [zi 20, zl (m501 4 45 0)] [] [(0, zr 4 44), (1, zi 20), (2, zl (m501 4 45 0))] (zi281 53) rfl (by decide) rfl rfl (by omega) rfl rfl (by decide) rfl t223 (Nat.le_of_ble_eq_true rfl) (Nat.le_of_ble_eq_true rfl) rfl ?_
        refine c223_1 (B := B + 1)  20 (m501 4 45 0) (by omega) (hJ519.up (by omega)) (by omega) (by omega) hf26 hg4 (fun m521 hFv523 hJ522 => ?_)
        show X (EE s) d 281 56 [(0, zr 4 44), (1, zi a1), (2, zi (m501 4 45 0))] [] m521 _
        refine X.iload_n 57 (zi281 56) rfl rfl rfl ?_
        refine X.reti (zi281 57) rfl t281 ?_
        exact hQ (m501 4 45 0) m521 (by first | trivial | omega) (Eq.trans (zb_eq hFv503) (Eq.trans (if_pos h504) (Eq.trans (if_neg h506c) (Eq.trans (if_pos h509c) (Eq.trans (zs_eq hFv515.symm) (Eq.trans (zs_eq hm516) (Eq.trans (zs_eq hFv520.symm) (Eq.trans (zs_eq hFv523.symm) rfl)))))))) (hJ522.up (by omega)) 
-- WorkMeter$Meter.note
theorem c54_7 {s : Nat × (Nat → Int32)} {S : zS} {m0 m : zM} {B : Int} {d : Nat} {Q : Option zV → zM → Prop} (g0 : Nat) (a1 a2 : Int) (hd : 14 ≤ d) (hJ : J S m0 B m) (hB : B + 1 ≤ 1000000000) (ha1 : 21 ≤ a1 ∧ a1 ≤ 21) (ha2 : 1 ≤ a2 ∧ a2 ≤ 100000) (hf6 : ¬ S.1 6) (hgg0 : ¬ S.2.1 g0) (hQ : ∀ m', f54_1 g0 a1 a2 m = m' → J S m0 (B + 1) m' → Q none m') : X (EE s) d 54 0 [(0, zr g0 8), (1, zi a1), (2, zi a2)] [] m Q := by
  refine X.aload_n 1 (zi54 0) rfl rfl rfl ?_
  refine X.getR 4 (zi54 1) rfl rfl (by decide) rfl rfl ?_
  refine X.aload_n 5 (zi54 4) rfl rfl rfl ?_
  refine X.getI 8 9 (zi54 5) rfl rfl (by decide) rfl rfl rfl ?_
  have h501 := r8_9 hJ g0
  refine X.iload_n 9 (zi54 8) rfl rfl rfl ?_
  refine X.iload_n 10 (zi54 9) rfl rfl rfl ?_
  refine X.callv 13 [zi (m g0 8 9), zi a1, zi a2] [] [(0, zr g0 37), (1, zi (m g0 8 9)), (2, zi a1), (3, zi a2)] (zi54 10) rfl (by decide) rfl rfl (by omega) rfl rfl (by decide) rfl t55 (Nat.le_of_ble_eq_true rfl) (Nat.le_of_ble_eq_true rfl) rfl ?_
  refine c55_1 (B := B) g0 (m g0 8 9) a1 a2 (by omega) (hJ.up (by omega)) (by omega) (by omega) (by omega) (by omega) hf6 hgg0 (fun m502 hFv504 hJ503 => ?_)
  show X (EE s) d 54 13 [(0, zr g0 8), (1, zi a1), (2, zi a2)] [] m502 _
  refine X.retv (zi54 13) rfl t54 ?_
  exact hQ  m502  (Eq.trans (zs_eq hFv504.symm) rfl) (hJ503.up (by omega)) 
noncomputable def fl132_2_1_b (self : Int → zM → zM) (k36 : zM → zM) (g0 g1 : Nat) (y2 : Int) (y3 : Int) (m : zM) : zM :=
  if 5 ≤ y3 then
  (k36 m)
  else
  (zs (z_upd m g0 36 y3 0) fun m517 =>
  zn (f40_1 g0 y3 m517) fun v521 =>
  zs (if v521 = 0 then
  (m517)
  else
  (zs (f57_1 g0 g1 y3 0 y2 m517) fun m523 =>
  m523)) fun m527 =>
  self (y3 + 1) m527)
noncomputable def fl132_2_1 (k36 : zM → zM) (g0 g1 : Nat) (y2 : Int) : Nat → Int → zM → zM
  | 0 => fun y3 m => m
  | n + 1 => fl132_2_1_b (fl132_2_1 k36 g0 g1 y2 n) k36 g0 g1 y2
theorem l132_2_1 {s : Nat × (Nat → Int32)} {S : zS} {m0 : zM} {d : Nat} {Q : Option zV → zM → Prop} {R0 : zM} {k36 : zM → zM} (g0 g1 : Nat) (y2 : Int) (BE : Int) (hE : BE ≤ 1000000000) (hd : 15 ≤ d) (hy2 : 0 ≤ y2 ∧ y2 ≤ 2000000000) (hf6 : ¬ S.1 6) (hf9 : ¬ S.1 9) (hgg0 : ¬ S.2.1 g0) (hgg1 : ¬ S.2.1 g1)
    (K36 : ∀ (m' : zM) (B' : Int), J S m0 B' m' → B' ≤ BE → R0 = k36 m' → X (EE s) d 132 36 [] [] m' Q) :
    ∀ (n : Nat) (y3 : Int) (m : zM) (B : Int), J S m0 B m → B + 1 * (n : Int) ≤ BE → (2 ≤ y3 ∧ y3 ≤ 5) → 5 - y3 < (n : Int) → R0 = fl132_2_1 k36 g0 g1 y2 n y3 m → X (EE s) d 132 2 [(0, zr g0 33), (1, zr g1 37), (2, zi y2), (3, zi y3)] [] m Q := by
  intro n
  induction n with
  | zero =>
    intro y3 m B hJ hB hy3 hn hR
    exfalso
    omega
  | succ n ih =>
    intro y3 m B hJ hB hy3 hn hR
    replace hR : R0 = fl132_2_1_b (fl132_2_1 k36 g0 g1 y2 n) k36 g0 g1 y2 y3 m := hR
    refine X.iload_n 3 (zi132 2) rfl rfl rfl ?_
    refine X.iconst 4 (zi132 3) rfl rfl (by decide) ?_
    refine X.icmpge 36 7 (zi132 4) rfl rfl rfl (fun h516 => ?_) (fun h516 => ?_)
    · refine X.cut [] (zi132 36) rfl ?_
      exact K36  m (B) (hJ.up (by omega)) (by omega)  (Eq.trans hR (Eq.trans (if_pos h516) rfl))
    · refine X.aload_n 8 (zi132 7) rfl rfl rfl ?_
      refine X.getR 11 (zi132 8) rfl rfl (by decide) rfl rfl ?_
      refine X.iload_n 12 (zi132 11) rfl rfl rfl ?_
      refine X.iconst 13 (zi132 12) rfl rfl (by decide) ?_
      refine X.iast' 14 (zi132 13) rfl rfl (by decide) rfl (by omega) (fun hrm517 m517 hm517 => ?_)
      have hJ518 := w36_0 hJ hm517 (by omega) hrm517 hf9 hgg0
      refine X.aload_n 15 (zi132 14) rfl rfl rfl ?_
      refine X.iload_n 16 (zi132 15) rfl rfl rfl ?_
      refine X.callv 19 [zi y3] [] [(0, zr g0 33), (1, zi y3)] (zi132 16) rfl (by decide) rfl rfl (by omega) rfl rfl (by decide) rfl t40 (Nat.le_of_ble_eq_true rfl) (Nat.le_of_ble_eq_true rfl) rfl ?_
      refine c40_1 (B := B) g0 y3 (by omega) (hJ518.up (by omega)) (by omega) (by omega) (fun v521 hv521 hFv521 => ?_)
      show X (EE s) d 132 19 [(0, zr g0 33), (1, zr g1 37), (2, zi y2), (3, zi y3)] [zi v521] m517 _
      have hK529 : ∀ (m' : zM), (if v521 = 0 then
          (m517)
          else
          (zs (f57_1 g0 g1 y3 0 y2 m517) fun m523 =>
          m523)) = m' → J S m0 (B + 1) m' → X (EE s) d 132 30 [(0, zr g0 33), (1, zr g1 37), (2, zi y2), (3, zi y3)] [] m' Q := by
        intro m527 hT530 hJ528
        refine X.iinc 33 [(0, zr g0 33), (1, zr g1 37), (2, zi y2), (3, zi (y3 + 1))] (zi132 30) rfl rfl rfl (by omega) rfl ?_
        refine X.goto 2 (zi132 33) rfl rfl ?_
        exact ih (y3 + 1) m527 (B + 1) (hJ528.up (by omega)) (by omega) (by omega) (by omega) (Eq.trans hR (Eq.trans (if_neg h516) (Eq.trans (zs_eq hm517) (Eq.trans (zn_eq hFv521.symm) (Eq.trans (zs_eq hT530.symm) rfl)))))
      refine X.ifeq 30 22 (zi132 19) rfl rfl rfl (fun h522 => ?_) (fun h522 => ?_)
      · exact hK529 m517 (Eq.trans (if_pos h522) rfl) (hJ518.up (by omega))
      · refine X.aload_n 23 (zi132 22) rfl rfl rfl ?_
        refine X.iload_n 24 (zi132 23) rfl rfl rfl ?_
        refine X.iconst 25 (zi132 24) rfl rfl (by decide) ?_
        refine X.aload_n 26 (zi132 25) rfl rfl rfl ?_
        refine X.iload_n 27 (zi132 26) rfl rfl rfl ?_
        refine X.callv 30 [zi y3, zi 0, zr g1 37, zi y2] [] [(0, zr g0 33), (1, zi y3), (2, zi 0), (3, zr g1 37), (4, zi y2)] (zi132 27) rfl (by decide) rfl rfl (by omega) rfl rfl (by decide) rfl t57 (Nat.le_of_ble_eq_true rfl) (Nat.le_of_ble_eq_true rfl) rfl ?_
        refine c57_1 (B := B) g0 g1 y3 0 y2 (by omega) (hJ518.up (by omega)) (by omega) (by omega) (by omega) (by omega) hf6 hf9 hgg0 hgg1 (fun m523 hFv525 hJ524 => ?_)
        show X (EE s) d 132 30 [(0, zr g0 33), (1, zr g1 37), (2, zi y2), (3, zi y3)] [] m523 _
        exact hK529 m523 (Eq.trans (if_neg h522) (Eq.trans (zs_eq hFv525.symm) rfl)) (hJ524.up (by omega))
-- WorkMeter$Marks.beginAnew
noncomputable def f132_1 (g0 g1 : Nat) (a2 : Int) (m : zM) : zM :=
  fl132_2_1 (fun m501 =>
  m501) g0 g1 a2 (zfu 4) 2 m
-- WorkMeter$Marks.beginAnew
theorem c132_1 {s : Nat × (Nat → Int32)} {S : zS} {m0 m : zM} {B : Int} {d : Nat} {Q : Option zV → zM → Prop} (g0 g1 : Nat) (a2 : Int) (hd : 15 ≤ d) (hJ : J S m0 B m) (hB : B + 4 ≤ 1000000000) (ha2 : 0 ≤ a2 ∧ a2 ≤ 2000000000) (hf6 : ¬ S.1 6) (hf9 : ¬ S.1 9) (hgg0 : ¬ S.2.1 g0) (hgg1 : ¬ S.2.1 g1) (hQ : ∀ m', f132_1 g0 g1 a2 m = m' → J S m0 (B + 4) m' → Q none m') : X (EE s) d 132 0 [(0, zr g0 33), (1, zr g1 37), (2, zi a2)] [] m Q := by
  refine X.iconst 1 (zi132 0) rfl rfl (by decide) ?_
  refine X.istore_n 2 [(0, zr g0 33), (1, zr g1 37), (2, zi a2), (3, zi 2)] (zi132 1) rfl rfl rfl ?_
  have hz4 := zfu_eq 4
  refine l132_2_1 (s := s) (d := d) (R0 := (f132_1 g0 g1 a2 m)) g0 g1 a2  (BE := B + 4) (by omega) (by omega) (by omega) hf6 hf9 hgg0 hgg1 (fun  m501 B502 hJ503 hBB502 hR504 => ?_) (zfu 4) 2 m (B) (hJ.up (by omega)) (by omega) (by omega) (by omega) rfl
  refine X.retv (zi132 36) rfl t132 ?_
  exact hQ  m501  (Eq.trans hR504 rfl) (hJ503.up (by omega)) 
-- WorkMeter$Load.addOff
noncomputable def f133_1 (g0 : Nat) (a1 a2 : Int) (m : zM) : zM :=
  zn (w32 ((m g0 27 7) + a1)) fun z502 =>
  zs (z_upd m g0 27 7 z502) fun m503 =>
  zn (zor (m503 g0 27 8) a2) fun z506 =>
  zs (z_upd m503 g0 27 8 z506) fun m507 =>
  m507
-- WorkMeter$Load.addOff
theorem c133_1 {s : Nat × (Nat → Int32)} {S : zS} {m0 m : zM} {B : Int} {d : Nat} {Q : Option zV → zM → Prop} (g0 : Nat) (a1 a2 : Int) (hd : 13 ≤ d) (hJ : J S m0 B m) (hB : B + 0 ≤ 1000000000) (ha1 : (-999998) ≤ a1 ∧ a1 ≤ 1000000) (ha2 : (-2147483648) ≤ a2 ∧ a2 ≤ 2147483647) (hf7 : ¬ S.1 7) (hgg0 : ¬ S.2.1 g0) (hQ : ∀ m', f133_1 g0 a1 a2 m = m' → J S m0 (B) m' → Q none m') : X (EE s) d 133 0 [(0, zr g0 27), (1, zi a1), (2, zi a2)] [] m Q := by
  refine X.aload_n 1 (zi133 0) rfl rfl rfl ?_
  refine X.dup 2 (zi133 1) rfl rfl rfl ?_
  refine X.getIr 5 7 (zi133 2) rfl rfl (by decide) rfl rfl rfl (fun h501 => ?_)
  refine X.iload_n 6 (zi133 5) rfl rfl rfl ?_
  refine X.iaddW 7 (zi133 6) rfl rfl (fun z502 ez502 hz502 => ?_)
  refine X.putI' 10 7 (zi133 7) rfl rfl (by decide) rfl rfl rfl (fun hrm503 m503 hm503 => ?_)
  have hJ504 := w27_3 hJ hm503 (by omega) hrm503 hf7 hgg0
  refine X.aload_n 11 (zi133 10) rfl rfl rfl ?_
  refine X.dup 12 (zi133 11) rfl rfl rfl ?_
  refine X.getIr 15 8 (zi133 12) rfl rfl (by decide) rfl rfl rfl (fun h505 => ?_)
  refine X.iload_n 16 (zi133 15) rfl rfl rfl ?_
  refine X.iiE 17 .ior (fun x y => x ||| y) (zi133 16) rfl rfl rfl (fun _ _ => rfl) (fun z506 ez506 hz506 => ?_)
  refine X.putI' 20 8 (zi133 17) rfl rfl (by decide) rfl rfl rfl (fun hrm507 m507 hm507 => ?_)
  have hJ508 := w27_3 hJ504 hm507 (by omega) hrm507 hf7 hgg0
  refine X.retv (zi133 20) rfl t133 ?_
  exact hQ  m507  (Eq.trans (zn_eq ez502) (Eq.trans (zs_eq hm503) (Eq.trans (zn_eq ez506) (Eq.trans (zs_eq hm507) rfl)))) (hJ508.up (by omega)) 
-- WorkMeter$Calendar.tariffOn
theorem c27_2 {s : Nat × (Nat → Int32)} {S : zS} {m0 m : zM} {B : Int} {d : Nat} {Q : Option zV → zM → Prop} (g0 : Nat) (a1 : Int) (hd : 15 ≤ d) (hJ : J S m0 B m) (hB : B + 0 ≤ 1000000000) (ha1 : 0 ≤ a1 ∧ a1 ≤ 2000185600) (hQ : ∀ (v : Int), (0 ≤ v ∧ v ≤ 3) → f27_1 g0 a1 m = v → Q (some (zi v)) m) : X (EE s) d 27 0 [(0, zr g0 11), (1, zi a1)] [] m Q := by
  refine X.aload_n 1 (zi27 0) rfl rfl rfl ?_
  refine X.aload_n 2 (zi27 1) rfl rfl rfl ?_
  refine X.iload_n 3 (zi27 2) rfl rfl rfl ?_
  refine X.ldc 5 (zi27 3) rfl rfl (by decide) ?_
  refine X.idiv 6 (zi27 5) rfl rfl (by omega) ?_
  refine X.callv 9 [zi (a1 / 86400)] [zr g0 11] [(0, zr g0 11), (1, zi (a1 / 86400))] (zi27 6) rfl (by decide) rfl rfl (by omega) rfl rfl (by decide) rfl t28 (Nat.le_of_ble_eq_true rfl) (Nat.le_of_ble_eq_true rfl) rfl ?_
  refine c28_1 (B := B) g0 (a1 / 86400) (by omega) (hJ.up (by omega)) (by omega) (by omega) (fun v503 hv503 hFv503 => ?_)
  show X (EE s) d 27 9 [(0, zr g0 11), (1, zi a1)] [zi v503, zr g0 11] m _
  refine X.iload_n 10 (zi27 9) rfl rfl rfl ?_
  refine X.ldc 12 (zi27 10) rfl rfl (by decide) ?_
  refine X.irem 13 (zi27 12) rfl rfl (by omega) ?_
  refine X.callv 16 [zi v503, zi (a1 % 86400)] [] [(0, zr g0 11), (1, zi v503), (2, zi (a1 % 86400))] (zi27 13) rfl (by decide) rfl rfl (by omega) rfl rfl (by decide) rfl t31 (Nat.le_of_ble_eq_true rfl) (Nat.le_of_ble_eq_true rfl) rfl ?_
  refine c31_1 (B := B) g0 v503 (a1 % 86400) (by omega) (hJ.up (by omega)) (by omega) (by omega) (by omega) (fun v506 hv506 hFv506 => ?_)
  show X (EE s) d 27 16 [(0, zr g0 11), (1, zi a1)] [zi v506] m _
  refine X.reti (zi27 16) rfl t27 ?_
  exact hQ v506 (by first | trivial | omega) (Eq.trans (zn_eq hFv503.symm) (Eq.trans (zn_eq hFv506.symm) rfl)) 
-- WorkMeter$Calendar.tariffOn
theorem c27_3 {s : Nat × (Nat → Int32)} {S : zS} {m0 m : zM} {B : Int} {d : Nat} {Q : Option zV → zM → Prop} (g0 : Nat) (a1 : Int) (hd : 15 ≤ d) (hJ : J S m0 B m) (hB : B + 0 ≤ 1000000000) (ha1 : 0 ≤ a1 ∧ a1 ≤ 2000185600) (hQ : ∀ (v : Int), (0 ≤ v ∧ v ≤ 3) → f27_1 g0 a1 m = v → Q (some (zi v)) m) : X (EE s) d 27 0 [(0, zr g0 11), (1, zi a1)] [] m Q := by
  refine X.aload_n 1 (zi27 0) rfl rfl rfl ?_
  refine X.aload_n 2 (zi27 1) rfl rfl rfl ?_
  refine X.iload_n 3 (zi27 2) rfl rfl rfl ?_
  refine X.ldc 5 (zi27 3) rfl rfl (by decide) ?_
  refine X.idiv 6 (zi27 5) rfl rfl (by omega) ?_
  refine X.callv 9 [zi (a1 / 86400)] [zr g0 11] [(0, zr g0 11), (1, zi (a1 / 86400))] (zi27 6) rfl (by decide) rfl rfl (by omega) rfl rfl (by decide) rfl t28 (Nat.le_of_ble_eq_true rfl) (Nat.le_of_ble_eq_true rfl) rfl ?_
  refine c28_1 (B := B) g0 (a1 / 86400) (by omega) (hJ.up (by omega)) (by omega) (by omega) (fun v503 hv503 hFv503 => ?_)
  show X (EE s) d 27 9 [(0, zr g0 11), (1, zi a1)] [zi v503, zr g0 11] m _
  refine X.iload_n 10 (zi27 9) rfl rfl rfl ?_
  refine X.ldc 12 (zi27 10) rfl rfl (by decide) ?_
  refine X.irem 13 (zi27 12) rfl rfl (by omega) ?_
  refine X.callv 16 [zi v503, zi (a1 % 86400)] [] [(0, zr g0 11), (1, zi v503), (2, zi (a1 % 86400))] (zi27 13) rfl (by decide) rfl rfl (by omega) rfl rfl (by decide) rfl t31 (Nat.le_of_ble_eq_true rfl) (Nat.le_of_ble_eq_true rfl) rfl ?_
  refine c31_1 (B := B) g0 v503 (a1 % 86400) (by omega) (hJ.up (by omega)) (by omega) (by omega) (by omega) (fun v506 hv506 hFv506 => ?_)
  show X (EE s) d 27 16 [(0, zr g0 11), (1, zi a1)] [zi v506] m _
  refine X.reti (zi27 16) rfl t27 ?_
  exact hQ v506 (by first | trivial | omega) (Eq.trans (zn_eq hFv503.symm) (Eq.trans (zn_eq hFv506.symm) rfl)) 
noncomputable def fl131_43_1_b (self : Int → Int → zM → zM) (k133 : zM → zM) (g0 : Nat) (y1 y2 : Int) (y3 y4 : Int) (m : zM) : zM :=
  if y1 ≤ y4 then
  (k133 m)
  else
  (if y3 ≤ 0 then
  (k133 m)
  else
  (zn (((m g0 8 9) % y2)) fun z527 =>
  zs (f133_1 g0 (min y3 (y2 - z527)) (m g0 33 3) m) fun m529 =>
  zn (w32 ((m529 g0 8 15) + (min y3 (y2 - z527)))) fun z534 =>
  zs (z_upd m529 g0 8 15 z534) fun m535 =>
  zs (z_upd m535 g0 8 9 ((m535 g0 8 9) + (min y3 (y2 - z527)))) fun m538 =>
  zn (f27_1 g0 ((m538 g0 8 9) - 1) m538) fun v542 =>
  zs (f59_1 g0 v542 m538) fun m543 =>
  self (y3 - (min y3 (y2 - z527))) (y4 + 1) m543))
noncomputable def fl131_43_1 (k133 : zM → zM) (g0 : Nat) (y1 y2 : Int) : Nat → Int → Int → zM → zM
  | 0 => fun y3 y4 m => m
  | n + 1 => fl131_43_1_b (fl131_43_1 k133 g0 y1 y2 n) k133 g0 y1 y2
theorem l131_43_1 {s : Nat × (Nat → Int32)} {S : zS} {m0 : zM} {d : Nat} {Q : Option zV → zM → Prop} {R0 : zM} {k133 : zM → zM} (g0 : Nat) (y1 y2 : Int) (BE : Int) (hE : BE ≤ 1000000000) (hd : 17 ≤ d) (hy1 : 1 ≤ y1 ∧ y1 ≤ 100000) (hy2 : 1 ≤ y2 ∧ y2 ≤ 1000000) (hf7 : ¬ S.1 7) (hf8 : ¬ S.1 8) (hf11 : ¬ S.1 11) (hf13 : ¬ S.1 13) (hgg0 : ¬ S.2.1 g0)
    (K133 : ∀ (m' : zM) (B' : Int), J S m0 B' m' → B' ≤ BE → R0 = k133 m' → X (EE s) d 131 133 [] [] m' Q) :
    ∀ (n : Nat) (y3 y4 : Int) (m : zM) (B : Int), J S m0 B m → B + 1 * (n : Int) ≤ BE → (0 ≤ y3 ∧ y3 ≤ 2000000000) → (0 ≤ y4 ∧ y4 ≤ 100000) → (m g0 8 9 + y3 ≤ 2000000000) → (0 ≤ y3) → 100000 - y4 < (n : Int) → R0 = fl131_43_1 k133 g0 y1 y2 n y3 y4 m → X (EE s) d 131 43 [(0, zr g0 8), (1, zi y1), (2, zi y2), (3, zi y3), (4, zi y4)] [] m Q := by
  intro n
  induction n with
  | zero =>
    intro y3 y4 m B hJ hB hy3 hy4 hr0 hr1 hn hR
    exfalso
    omega
  | succ n ih =>
    intro y3 y4 m B hJ hB hy3 hy4 hr0 hr1 hn hR
    replace hR : R0 = fl131_43_1_b (fl131_43_1 k133 g0 y1 y2 n) k133 g0 y1 y2 y3 y4 m := hR
    refine X.iload 45 (zi131 43) rfl rfl rfl ?_
    refine X.iload_n 46 (zi131 45) rfl rfl rfl ?_
    refine X.icmpge 133 49 (zi131 46) rfl rfl rfl (fun h524 => ?_) (fun h524 => ?_)
    · refine X.cut [] (zi131 133) rfl ?_
      exact K133  m (B) (hJ.up (by omega)) (by omega)  (Eq.trans hR (Eq.trans (if_pos h524) rfl))
    · refine X.iload_n 50 (zi131 49) rfl rfl rfl ?_
      refine X.ifle 133 53 (zi131 50) rfl rfl rfl (fun h525 => ?_) (fun h525 => ?_)
      · refine X.cut [] (zi131 133) rfl ?_
        exact K133  m (B) (hJ.up (by omega)) (by omega)  (Eq.trans hR (Eq.trans (if_neg h524) (Eq.trans (if_pos h525) rfl)))
      · refine X.iload_n 54 (zi131 53) rfl rfl rfl ?_
        refine X.iload_n 55 (zi131 54) rfl rfl rfl ?_
        refine X.aload_n 56 (zi131 55) rfl rfl rfl ?_
        refine X.getI 59 9 (zi131 56) rfl rfl (by decide) rfl rfl rfl ?_
        have h526 := r8_9 hJ g0
        refine X.iload_n 60 (zi131 59) rfl rfl rfl ?_
        refine X.irem 61 (zi131 60) rfl rfl (by omega) ?_
        have hz527 := z_modb (x := (m g0 8 9)) (y := y2) (by omega) (by omega)
        obtain ⟨z527, ez527⟩ : ∃ z, z = ((m g0 8 9) % y2) := ⟨_, rfl⟩
        rw [← ez527] at hz527 ⊢
        refine X.isub 62 (zi131 61) rfl rfl (by omega) ?_
        refine X.minI 65 (zi131 62) rfl rfl (by omega) (Nat.le_of_ble_eq_true rfl) ?_
        refine X.istore 67 [(0, zr g0 8), (1, zi y1), (2, zi y2), (3, zi y3), (4, zi y4), (5, zi (min y3 (y2 - z527)))] (zi131 65) rfl rfl rfl ?_
        refine X.aload_n 68 (zi131 67) rfl rfl rfl ?_
        refine X.getR 71 (zi131 68) rfl rfl (by decide) rfl rfl ?_
        refine X.iload 73 (zi131 71) rfl rfl rfl ?_
        refine X.aload_n 74 (zi131 73) rfl rfl rfl ?_
        refine X.getR 77 (zi131 74) rfl rfl (by decide) rfl rfl ?_
        refine X.getIr 80 3 (zi131 77) rfl rfl (by decide) rfl rfl rfl (fun h528 => ?_)
        refine X.callv 83 [zi (min y3 (y2 - z527)), zi (m g0 33 3)] [] [(0, zr g0 27), (1, zi (min y3 (y2 - z527))), (2, zi (m g0 33 3))] (zi131 80) rfl (by decide) rfl rfl (by omega) rfl rfl (by decide) rfl t133 (Nat.le_of_ble_eq_true rfl) (Nat.le_of_ble_eq_true rfl) rfl ?_
        refine c133_1 (S := (fun f => f ∉ [7], fun g => g ∉ [g0], (S).2.2)) (m0 := m) (B := B) g0 (min y3 (y2 - z527)) (m g0 33 3) (by omega) ((J.nw hJ).up (by omega)) (by omega) (by omega) (by omega) (zo_m rfl) (by simp) (fun m529 hFv531 hJ530 => ?_)
        have wom529_8 : m529 g0 8 9 = m g0 8 9 := hJ530.eqf 11 rfl (show (11 : Nat) ∉ ([7] : List Nat) by decide)
        have hJ532 := J.ow hJ hJ530 (zo_c hf7 (zo_n)) (zo_c hgg0 (zo_n))
        show X (EE s) d 131 83 [(0, zr g0 8), (1, zi y1), (2, zi y2), (3, zi y3), (4, zi y4), (5, zi (min y3 (y2 - z527)))] [] m529 _
        refine X.aload_n 84 (zi131 83) rfl rfl rfl ?_
        refine X.dup 85 (zi131 84) rfl rfl rfl ?_
        refine X.getIr 88 15 (zi131 85) rfl rfl (by decide) rfl rfl rfl (fun h533 => ?_)
        refine X.iload 90 (zi131 88) rfl rfl rfl ?_
        refine X.iaddW 91 (zi131 90) rfl rfl (fun z534 ez534 hz534 => ?_)
        refine X.putI' 94 15 (zi131 91) rfl rfl (by decide) rfl rfl rfl (fun hrm535 m535 hm535 => ?_)
        have hJ536 := w8_13 hJ532 hm535 (by omega) hrm535 hf13 hgg0
        have wtm535_0 : m535 g0 8 9 = m529 g0 8 9 := by rw [hm535]; exact z_upd_i _ _ _ _ (by omega)
        refine X.aload_n 95 (zi131 94) rfl rfl rfl ?_
        refine X.dup 96 (zi131 95) rfl rfl rfl ?_
        refine X.getI 99 9 (zi131 96) rfl rfl (by decide) rfl rfl rfl ?_
        have h537 := r8_9 hJ536 g0
        refine X.iload 101 (zi131 99) rfl rfl rfl ?_
        refine X.iadd 102 (zi131 101) rfl rfl (by omega) ?_
        refine X.putI' 105 9 (zi131 102) rfl rfl (by decide) rfl rfl rfl (fun hrm538 m538 hm538 => ?_)
        have hJ539 := w8_9 hJ536 hm538 (by omega) hf11 hgg0
        have em538 : m538 g0 8 9 = ((m535 g0 8 9) + (min y3 (y2 - z527))) := by rw [hm538]; exact z_upd_same _ _ _ _ _
        refine X.iload_n 106 (zi131 105) rfl rfl rfl ?_
        refine X.iload 108 (zi131 106) rfl rfl rfl ?_
        refine X.isub 109 (zi131 108) rfl rfl (by omega) ?_
        refine X.istore_n 110 [(0, zr g0 8), (1, zi y1), (2, zi y2), (3, zi (y3 - (min y3 (y2 - z527)))), (4, zi y4), (5, zi (min y3 (y2 - z527)))] (zi131 109) rfl rfl rfl ?_
        refine X.aload_n 111 (zi131 110) rfl rfl rfl ?_
        refine X.aload_n 112 (zi131 111) rfl rfl rfl ?_
        refine X.getR 115 (zi131 112) rfl rfl (by decide) rfl rfl ?_
        refine X.aload_n 116 (zi131 115) rfl rfl rfl ?_
        refine X.getI 119 9 (zi131 116) rfl rfl (by decide) rfl rfl rfl ?_
        refine X.iconst 120 (zi131 119) rfl rfl (by decide) ?_
        refine X.isub 121 (zi131 120) rfl rfl (by omega) ?_
        refine X.callv 124 [zi ((m538 g0 8 9) - 1)] [zr g0 8] [(0, zr g0 11), (1, zi ((m538 g0 8 9) - 1))] (zi131 121) rfl (by decide) rfl rfl (by omega) rfl rfl (by decide) rfl t27 (Nat.le_of_ble_eq_true rfl) (Nat.le_of_ble_eq_true rfl) rfl ?_
        refine c27_3 (B := B) g0 ((m538 g0 8 9) - 1) (by omega) (hJ539.up (by omega)) (by omega) (by omega) (fun v542 hv542 hFv542 => ?_)
        show X (EE s) d 131 124 [(0, zr g0 8), (1, zi y1), (2, zi y2), (3, zi (y3 - (min y3 (y2 - z527)))), (4, zi y4), (5, zi (min y3 (y2 - z527)))] [zi v542, zr g0 8] m538 _
        refine X.callv 127 [zi v542] [] [(0, zr g0 8), (1, zi v542)] (zi131 124) rfl (by decide) rfl rfl (by omega) rfl rfl (by decide) rfl t59 (Nat.le_of_ble_eq_true rfl) (Nat.le_of_ble_eq_true rfl) rfl ?_
        refine c59_1 (S := (fun f => f ∉ [7, 8], fun g => g ∉ [g0], (S).2.2)) (m0 := m538) (B := B) g0 v542 (by omega) ((J.nw hJ539).up (by omega)) (by omega) (by omega) (zo_m rfl) (zo_m rfl) (by simp) (fun m543 hFv545 hJ544 => ?_)
        have wom543_8 : m543 g0 8 9 = m538 g0 8 9 := hJ544.eqf 11 rfl (show (11 : Nat) ∉ ([7, 8] : List Nat) by decide)
        have hJ546 := J.ow hJ539 hJ544 (zo_c hf7 (zo_c hf8 (zo_n))) (zo_c hgg0 (zo_n))
        show X (EE s) d 131 127 [(0, zr g0 8), (1, zi y1), (2, zi y2), (3, zi (y3 - (min y3 (y2 - z527)))), (4, zi y4), (5, zi (min y3 (y2 - z527)))] [] m543 _
        refine X.iinc 130 [(0, zr g0 8), (1, zi y1), (2, zi y2), (3, zi (y3 - (min y3 (y2 - z527)))), (4, zi (y4 + 1)), (5, zi (min y3 (y2 - z527)))] (zi131 127) rfl rfl rfl (by omega) rfl ?_
        refine X.goto 43 (zi131 130) rfl rfl ?_
        refine X.cut [(0, zr g0 8), (1, zi y1), (2, zi y2), (3, zi (y3 - (min y3 (y2 - z527)))), (4, zi (y4 + 1))] (zi131 43) rfl ?_
        exact ih (y3 - (min y3 (y2 - z527))) (y4 + 1) m543 (B + 1) (hJ546.up (by omega)) (by omega) (by omega) (by omega) (by omega) (by omega) (by omega) (Eq.trans hR (Eq.trans (if_neg h524) (Eq.trans (if_neg h525) (Eq.trans (zn_eq ez527) (Eq.trans (zs_eq hFv531.symm) (Eq.trans (zn_eq ez534) (Eq.trans (zs_eq hm535) (Eq.trans (zs_eq hm538) (Eq.trans (zn_eq hFv542.symm) (Eq.trans (zs_eq hFv545.symm) rfl))))))))))
-- WorkMeter$Meter.goOff
noncomputable def f131_1 (g0 : Nat) (a1 : Int) (m : zM) : zM :=
  zs (f54_1 g0 21 a1 m) fun m501 =>
  zs (f132_1 g0 g0 (m501 g0 8 9) m501) fun m506 =>
  zs (z_upd m506 g0 19 5 0) fun m510 =>
  fl131_43_1 (fun m513 =>
  m513) g0 a1 (max 1 (m510 g0 10 4)) (zfu 100001) a1 0 m510
-- WorkMeter$Meter.goOff
theorem c131_1 {s : Nat × (Nat → Int32)} {S : zS} {m0 m : zM} {B : Int} {d : Nat} {Q : Option zV → zM → Prop} (g0 : Nat) (a1 : Int) (hd : 17 ≤ d) (hJ : J S m0 B m) (hB : B + 100006 ≤ 1000000000) (ha1 : 1 ≤ a1 ∧ a1 ≤ 100000) (hp0 : m g0 8 9 + a1 ≤ 2000000000) (hf2 : ¬ S.1 2) (hf6 : ¬ S.1 6) (hf7 : ¬ S.1 7) (hf8 : ¬ S.1 8) (hf9 : ¬ S.1 9) (hf11 : ¬ S.1 11) (hf13 : ¬ S.1 13) (hgg0 : ¬ S.2.1 g0) (hQ : ∀ m', f131_1 g0 a1 m = m' → J S m0 (B + 100006) m' → Q none m') : X (EE s) d 131 0 [(0, zr g0 8), (1, zi a1)] [] m Q := by
  refine X.aload_n 1 (zi131 0) rfl rfl rfl ?_
  refine X.bipush 3 (zi131 1) rfl rfl (by decide) ?_
  refine X.iload_n 4 (zi131 3) rfl rfl rfl ?_
  refine X.callv 7 [zi 21, zi a1] [] [(0, zr g0 8), (1, zi 21), (2, zi a1)] (zi131 4) rfl (by decide) rfl rfl (by omega) rfl rfl (by decide) rfl t54 (Nat.le_of_ble_eq_true rfl) (Nat.le_of_ble_eq_true rfl) rfl ?_
  refine c54_7 (S := (fun f => f ∉ [6], fun g => g ∉ [g0], (S).2.2)) (m0 := m) (B := B) g0 21 a1 (by omega) ((J.nw hJ).up (by omega)) (by omega) (by omega) (by omega) (zo_m rfl) (by simp) (fun m501 hFv503 hJ502 => ?_)
  have wom501_8 : m501 g0 8 9 = m g0 8 9 := hJ502.eqf 11 rfl (show (11 : Nat) ∉ ([6] : List Nat) by decide)
  have hJ504 := J.ow hJ hJ502 (zo_c hf6 (zo_n)) (zo_c hgg0 (zo_n))
  show X (EE s) d 131 7 [(0, zr g0 8), (1, zi a1)] [] m501 _
  refine X.aload_n 8 (zi131 7) rfl rfl rfl ?_
  refine X.getR 11 (zi131 8) rfl rfl (by decide) rfl rfl ?_
  refine X.aload_n 12 (zi131 11) rfl rfl rfl ?_
  refine X.getR 15 (zi131 12) rfl rfl (by decide) rfl rfl ?_
  refine X.aload_n 16 (zi131 15) rfl rfl rfl ?_
  refine X.getI 19 9 (zi131 16) rfl rfl (by decide) rfl rfl rfl ?_
  have h505 := r8_9 hJ504 g0
  refine X.callv 22 [zr g0 37, zi (m501 g0 8 9)] [] [(0, zr g0 33), (1, zr g0 37), (2, zi (m501 g0 8 9))] (zi131 19) rfl (by decide) rfl rfl (by omega) rfl rfl (by decide) rfl t132 (Nat.le_of_ble_eq_true rfl) (Nat.le_of_ble_eq_true rfl) rfl ?_
  refine c132_1 (S := (fun f => f ∉ [6, 9], fun g => g ∉ [g0, g0], (S).2.2)) (m0 := m501) (B := B + 1) g0 g0 (m501 g0 8 9) (by omega) ((J.nw hJ504).up (by omega)) (by omega) (by omega) (zo_m rfl) (zo_m rfl) (by simp) (by simp) (fun m506 hFv508 hJ507 => ?_)
  have wom506_8 : m506 g0 8 9 = m501 g0 8 9 := hJ507.eqf 11 rfl (show (11 : Nat) ∉ ([6, 9] : List Nat) by decide)
  have hJ509 := J.ow hJ504 hJ507 (zo_c hf6 (zo_c hf9 (zo_n))) (zo_c hgg0 (zo_c hgg0 (zo_n)))
  show X (EE s) d 131 22 [(0, zr g0 8), (1, zi a1)] [] m506 _
  refine X.aload_n 23 (zi131 22) rfl rfl rfl ?_
  refine X.getR 26 (zi131 23) rfl rfl (by decide) rfl rfl ?_
  refine X.iconst 27 (zi131 26) rfl rfl (by decide) ?_
  refine X.putI' 30 5 (zi131 27) rfl rfl (by decide) rfl rfl rfl (fun hrm510 m510 hm510 => ?_)
  have hJ511 := w19_5 hJ509 hm510 (by omega) hf2 hgg0
  have em510 : m510 g0 19 5 = 0 := by rw [hm510]; exact z_upd_same _ _ _ _ _
  have wtm510_0 : m510 g0 8 9 = m506 g0 8 9 := by rw [hm510]; exact z_upd_o _ _ rfl
  refine X.aload_n 31 (zi131 30) rfl rfl rfl ?_
  refine X.getR 34 (zi131 31) rfl rfl (by decide) rfl rfl ?_
  refine X.callv 37 [] [] [(0, zr g0 9)] (zi131 34) rfl (by decide) rfl rfl (by omega) rfl rfl (by decide) rfl t36 (Nat.le_of_ble_eq_true rfl) (Nat.le_of_ble_eq_true rfl) rfl ?_
  refine X.iconst 1 (zi36 0) rfl rfl (by decide) ?_
  refine X.aload_n 2 (zi36 1) rfl rfl rfl ?_
  refine X.getR 5 (zi36 2) rfl rfl (by decide) rfl rfl ?_
  refine X.iconst 6 (zi36 5) rfl rfl (by decide) ?_
  refine X.iald 7 (zi36 6) rfl rfl (by decide) rfl (by omega) ?_
  have h512 := r10_0 hJ511 g0 (i := 4) (by omega)
  refine X.maxI 10 (zi36 7) rfl rfl (by omega) (Nat.le_of_ble_eq_true rfl) ?_
  refine X.reti (zi36 10) rfl t36 ?_
  show X (EE s) d 131 37 [(0, zr g0 8), (1, zi a1)] [zi (max 1 (m510 g0 10 4))] m510 _
  refine X.istore_n 38 [(0, zr g0 8), (1, zi a1), (2, zi (max 1 (m510 g0 10 4)))] (zi131 37) rfl rfl rfl ?_
  refine X.iload_n 39 (zi131 38) rfl rfl rfl ?_
  refine X.istore_n 40 [(0, zr g0 8), (1, zi a1), (2, zi (max 1 (m510 g0 10 4))), (3, zi a1)] (zi131 39) rfl rfl rfl ?_
  refine X.iconst 41 (zi131 40) rfl rfl (by decide) ?_
  refine X.istore 43 [(0, zr g0 8), (1, zi a1), (2, zi (max 1 (m510 g0 10 4))), (3, zi a1), (4, zi 0)] (zi131 41) rfl rfl rfl ?_
  have hz100001 := zfu_eq 100001
  refine l131_43_1 (s := s) (d := d) (R0 := (f131_1 g0 a1 m)) g0 a1 (max 1 (m510 g0 10 4))  (BE := B + 100006) (by omega) (by omega) (by omega) (by omega) hf7 hf8 hf11 hf13 hgg0 (fun  m513 B514 hJ515 hBB514 hR516 => ?_) (zfu 100001) a1 0 m510 (B + 5) (hJ511.up (by omega)) (by omega) (by omega) (by omega) (by omega) (by omega) (by omega) (Eq.trans (zs_eq hFv503.symm) (Eq.trans (zs_eq hFv508.symm) (Eq.trans (zs_eq hm510) rfl)))
  refine X.retv (zi131 133) rfl t131 ?_
  exact hQ  m513  (Eq.trans hR516 rfl) (hJ515.up (by omega)) 
-- WorkMeter.off
noncomputable def f130_1 (a1 : Int) (m : zM) : Int × zM :=
  if a1 < 1 then
  (((-1), m))
  else
  (if 100000 < a1 then
  (((-1), m))
  else
  (if ((m 0 8 9) + a1) ≤ 2000000000 then
  (zs (f131_1 0 a1 m) fun m505 =>
  ((m505 0 8 9), m505))
  else
  (((-1), m))))
-- WorkMeter.off
theorem c130_1 {s : Nat × (Nat → Int32)} {S : zS} {m0 m : zM} {B : Int} {d : Nat} {Q : Option zV → zM → Prop} (a1 : Int) (hd : 18 ≤ d) (hJ : J S m0 B m) (hB : B + 100006 ≤ 1000000000) (ha1 : (-2147483648) ≤ a1 ∧ a1 ≤ 2147483647) (hf2 : ¬ S.1 2) (hf6 : ¬ S.1 6) (hf7 : ¬ S.1 7) (hf8 : ¬ S.1 8) (hf9 : ¬ S.1 9) (hf11 : ¬ S.1 11) (hf13 : ¬ S.1 13) (hg0 : ¬ S.2.1 0) (hQ : ∀ (v : Int) m', ((-1) ≤ v ∧ v ≤ 2000000000) → f130_1 a1 m = (v, m') → J S m0 (B + 100006) m' → Q (some (zi v)) m') : X (EE s) d 130 0 [(0, zr 4 40), (1, zi a1)] [] m Q := by
  refine X.iload_n 1 (zi130 0) rfl rfl rfl ?_
  refine X.iconst 2 (zi130 1) rfl rfl (by decide) ?_
  refine X.icmplt 25 5 (zi130 2) rfl rfl rfl (fun h501 => ?_) (fun h501 => ?_)
  · refine X.cut [] (zi130 25) rfl ?_
    refine X.iconst 26 (zi130 25) rfl rfl (by decide) ?_
    refine X.reti (zi130 26) rfl t130 ?_
    exact hQ (-1) m (by first | trivial | omega) (Eq.trans (if_pos h501) rfl) (hJ.up (by omega)) 
  · refine X.iload_n 6 (zi130 5) rfl rfl rfl ?_
    refine X.ldc 8 (zi130 6) rfl rfl (by decide) ?_
    refine X.icmpgt 25 11 (zi130 8) rfl rfl rfl (fun h502 => ?_) (fun h502 => ?_)
    · refine X.cut [] (zi130 25) rfl ?_
      refine X.iconst 26 (zi130 25) rfl rfl (by decide) ?_
      refine X.reti (zi130 26) rfl t130 ?_
      exact hQ (-1) m (by first | trivial | omega) (Eq.trans (if_neg h501) (Eq.trans (if_pos h502) rfl)) (hJ.up (by omega)) 
    · refine X.aload_n 12 (zi130 11) rfl rfl rfl ?_
      refine X.getF 15 (zi130 12) rfl rfl (by decide) rfl rfl ?_
      refine X.getI 18 9 (zi130 15) rfl rfl (by decide) rfl rfl rfl ?_
      have h503 := r8_9 hJ 0
      refine X.iload_n 19 (zi130 18) rfl rfl rfl ?_
      refine X.iadd 20 (zi130 19) rfl rfl (by omega) ?_
      refine X.ldc 22 (zi130 20) rfl rfl (by decide) ?_
      refine X.icmple 27 25 (zi130 22) rfl rfl rfl (fun h504 => ?_) (fun h504 => ?_)
      · refine X.aload_n 28 (zi130 27) rfl rfl rfl ?_
        refine X.getF 31 (zi130 28) rfl rfl (by decide) rfl rfl ?_
        refine X.iload_n 32 (zi130 31) rfl rfl rfl ?_
        refine X.callv 35 [zi a1] [] [(0, zr 0 8), (1, zi a1)] (zi130 32) rfl (by decide) rfl rfl (by omega) rfl rfl (by decide) rfl t131 (Nat.le_of_ble_eq_true rfl) (Nat.le_of_ble_eq_true rfl) rfl ?_
        refine c131_1 (B := B) 0 a1 (by omega) (hJ.up (by omega)) (by omega) (by omega) (by omega) hf2 hf6 hf7 hf8 hf9 hf11 hf13 hg0 (fun m505 hFv507 hJ506 => ?_)
        show X (EE s) d 130 35 [(0, zr 4 40), (1, zi a1)] [] m505 _
        refine X.aload_n 36 (zi130 35) rfl rfl rfl ?_
        refine X.getF 39 (zi130 36) rfl rfl (by decide) rfl rfl ?_
        refine X.getI 42 9 (zi130 39) rfl rfl (by decide) rfl rfl rfl ?_
        have h508 := r8_9 hJ506 0
        refine X.reti (zi130 42) rfl t130 ?_
        exact hQ (m505 0 8 9) m505 (by first | trivial | omega) (Eq.trans (if_neg h501) (Eq.trans (if_neg h502) (Eq.trans (if_pos h504) (Eq.trans (zs_eq hFv507.symm) rfl)))) (hJ506.up (by omega)) 
      · refine X.cut [] (zi130 25) rfl ?_
        refine X.iconst 26 (zi130 25) rfl rfl (by decide) ?_
        refine X.reti (zi130 26) rfl t130 ?_
        exact hQ (-1) m (by first | trivial | omega) (Eq.trans (if_neg h501) (Eq.trans (if_neg h502) (Eq.trans (if_neg h504) rfl))) (hJ.up (by omega)) 
noncomputable def fl282_47_1_b (self : Int → zM → Int × zM) (k87 : zM → Int × zM) (y1 : Int) (y2 : Int) (m : zM) : Int × zM :=
  if 5 ≤ y2 then
  (k87 m)
  else
  (zs (z_upd m 4 45 (55 + y2) 0) fun m515 =>
  zs (if (m515 4 45 (40 + y2)) = 1 then
  (zs (f229_1 y2 m515) fun m519 =>
  m519)
  else
  (m515)) fun m523 =>
  self (y2 + 1) m523)
noncomputable def fl282_47_1 (k87 : zM → Int × zM) (y1 : Int) : Nat → Int → zM → Int × zM
  | 0 => fun y2 m => (0, m)
  | n + 1 => fl282_47_1_b (fl282_47_1 k87 y1 n) k87 y1
theorem l282_47_1 {s : Nat × (Nat → Int32)} {S : zS} {m0 : zM} {d : Nat} {Q : Option zV → zM → Prop} {R0 : Int × zM} {k87 : zM → Int × zM} (y1 : Int) (BE : Int) (hE : BE ≤ 1000000000) (hd : 15 ≤ d) (hy1 : 1 ≤ y1 ∧ y1 ≤ 100000) (hf26 : ¬ S.1 26) (hf29 : ¬ S.1 29) (hg4 : ¬ S.2.1 4)
    (K87 : ∀ (m' : zM) (B' : Int), J S m0 B' m' → B' ≤ BE → R0 = k87 m' → X (EE s) d 282 87 [(0, zr 4 44), (1, zi y1)] [] m' Q) :
    ∀ (n : Nat) (y2 : Int) (m : zM) (B : Int), J S m0 B m → B + 1 * (n : Int) ≤ BE → (2 ≤ y2 ∧ y2 ≤ 5) → 5 - y2 < (n : Int) → R0 = fl282_47_1 k87 y1 n y2 m → X (EE s) d 282 47 [(0, zr 4 44), (1, zi y1), (2, zi y2)] [] m Q := by
  intro n
  induction n with
  | zero =>
    intro y2 m B hJ hB hy2 hn hR
    exfalso
    omega
  | succ n ih =>
    intro y2 m B hJ hB hy2 hn hR
    replace hR : R0 = fl282_47_1_b (fl282_47_1 k87 y1 n) k87 y1 y2 m := hR
    refine X.iload_n 48 (zi282 47) rfl rfl rfl ?_
    refine X.iconst 49 (zi282 48) rfl rfl (by decide) ?_
    refine X.icmpge 87 52 (zi282 49) rfl rfl rfl (fun h514 => ?_) (fun h514 => ?_)
    · refine X.cut [(0, zr 4 44), (1, zi y1)] (zi282 87) rfl ?_
      exact K87  m (B) (hJ.up (by omega)) (by omega)  (Eq.trans hR (Eq.trans (if_pos h514) rfl))
    · refine X.aload_n 53 (zi282 52) rfl rfl rfl ?_
      refine X.getF 56 (zi282 53) rfl rfl (by decide) rfl rfl ?_
      refine X.bipush 58 (zi282 56) rfl rfl (by decide) ?_
      refine X.iload_n 59 (zi282 58) rfl rfl rfl ?_
      refine X.iadd 60 (zi282 59) rfl rfl (by omega) ?_
      refine X.lconst (y := 0) 61 (zi282 60) rfl rfl rfl ?_
      refine X.last' 62 (zi282 61) rfl rfl (by decide) rfl (by omega) (fun hrm515 m515 hm515 => ?_)
      have hJ516 := w45_40 hJ hm515 (by omega) hrm515 hf29 hg4
      refine X.aload_n 63 (zi282 62) rfl rfl rfl ?_
      refine X.getF 66 (zi282 63) rfl rfl (by decide) rfl rfl ?_
      refine X.bipush 68 (zi282 66) rfl rfl (by decide) ?_
      refine X.iload_n 69 (zi282 68) rfl rfl rfl ?_
      refine X.iadd 70 (zi282 69) rfl rfl (by omega) ?_
      refine X.lald 71 (zi282 70) rfl rfl (by decide) rfl (by omega) ?_
      refine X.lconst (y := 1) 72 (zi282 71) rfl rfl rfl ?_
      refine X.lcmp 73 (zi282 72) rfl rfl (fun z517 hz517 => ?_)
      have hK525 : ∀ (m' : zM), (if (m515 4 45 (40 + y2)) = 1 then
          (zs (f229_1 y2 m515) fun m519 =>
          m519)
          else
          (m515)) = m' → J S m0 (B + 1) m' → X (EE s) d 282 81 [(0, zr 4 44), (1, zi y1), (2, zi y2)] [] m' Q := by
        intro m523 hT526 hJ524
        refine X.iinc 84 [(0, zr 4 44), (1, zi y1), (2, zi (y2 + 1))] (zi282 81) rfl rfl rfl (by omega) rfl ?_
        refine X.goto 47 (zi282 84) rfl rfl ?_
        exact ih (y2 + 1) m523 (B + 1) (hJ524.up (by omega)) (by omega) (by omega) (by omega) (Eq.trans hR (Eq.trans (if_neg h514) (Eq.trans (zs_eq hm515) (Eq.trans (zs_eq hT526.symm) rfl))))
      refine X.ifne 81 76 (zi282 73) rfl rfl rfl (fun h518 => ?_) (fun h518 => ?_)
      · have h518c : ¬ (m515 4 45 (40 + y2)) = 1 := by omega
        clear h518 hz517
        exact hK525 m515 (Eq.trans (if_neg h518c) rfl) (hJ516.up (by omega))
      · have h518c : (m515 4 45 (40 + y2)) = 1 := by omega
        clear h518 hz517
        refine X.aload_n 77 (zi282 76) rfl rfl rfl ?_
        refine X.iload_n 78 (zi282 77) rfl rfl rfl ?_
        refine X.callv 81 [zi y2] [] [(0, zr 4 44), (1, zi y2)] (zi282 78) rfl (by decide) rfl rfl (by omega) rfl rfl (by decide) rfl t229 (Nat.le_of_ble_eq_true rfl) (Nat.le_of_ble_eq_true rfl) rfl ?_
        refine c229_1 (B := B)  y2 (by omega) (hJ516.up (by omega)) (by omega) (by omega) hf26 hf29 hg4 (fun m519 hFv521 hJ520 => ?_)
        show X (EE s) d 282 81 [(0, zr 4 44), (1, zi y1), (2, zi y2)] [] m519 _
        exact hK525 m519 (Eq.trans (if_pos h518c) (Eq.trans (zs_eq hFv521.symm) rfl)) (hJ520.up (by omega))
noncomputable def fl282_89_1_b (self : Int → zM → Int × zM) (k126 : zM → Int × zM) (y1 : Int) (y2 : Int) (m : zM) : Int × zM :=
  if y1 ≤ y2 then
  (k126 m)
  else
  (zn (w64 ((m 4 45 15) + 1)) fun z512 =>
  zs (z_upd m 4 45 15 z512) fun m513 =>
  zn (w64 ((m513 4 45 26) + 1)) fun z515 =>
  zs (z_upd m513 4 45 26 z515) fun m516 =>
  zs (f230_1 m516) fun m518 =>
  self (y2 + 1) m518)
noncomputable def fl282_89_1 (k126 : zM → Int × zM) (y1 : Int) : Nat → Int → zM → Int × zM
  | 0 => fun y2 m => (0, m)
  | n + 1 => fl282_89_1_b (fl282_89_1 k126 y1 n) k126 y1
theorem l282_89_1 {s : Nat × (Nat → Int32)} {S : zS} {m0 : zM} {d : Nat} {Q : Option zV → zM → Prop} {R0 : Int × zM} {k126 : zM → Int × zM} (y1 : Int) (BE : Int) (hE : BE ≤ 1000000000) (hd : 19 ≤ d) (hy1 : 1 ≤ y1 ∧ y1 ≤ 100000) (hf27 : ¬ S.1 27) (hf28 : ¬ S.1 28) (hf31 : ¬ S.1 31) (hf33 : ¬ S.1 33) (hg4 : ¬ S.2.1 4)
    (K126 : ∀ (m' : zM) (B' : Int), J S m0 B' m' → B' ≤ BE → R0 = k126 m' → X (EE s) d 282 126 [(0, zr 4 44)] [] m' Q) :
    ∀ (n : Nat) (y2 : Int) (m : zM) (B : Int), J S m0 B m → B + 1 * (n : Int) ≤ BE → (0 ≤ y2 ∧ y2 ≤ 100000) → 100000 - y2 < (n : Int) → R0 = fl282_89_1 k126 y1 n y2 m → X (EE s) d 282 89 [(0, zr 4 44), (1, zi y1), (2, zi y2)] [] m Q := by
  intro n
  induction n with
  | zero =>
    intro y2 m B hJ hB hy2 hn hR
    exfalso
    omega
  | succ n ih =>
    intro y2 m B hJ hB hy2 hn hR
    replace hR : R0 = fl282_89_1_b (fl282_89_1 k126 y1 n) k126 y1 y2 m := hR
    refine X.iload_n 90 (zi282 89) rfl rfl rfl ?_
    refine X.iload_n 91 (zi282 90) rfl rfl rfl ?_
    refine X.icmpge 126 94 (zi282 91) rfl rfl rfl (fun h511 => ?_) (fun h511 => ?_)
    · refine X.cut [(0, zr 4 44)] (zi282 126) rfl ?_
      exact K126  m (B) (hJ.up (by omega)) (by omega)  (Eq.trans hR (Eq.trans (if_pos h511) rfl))
    · refine X.aload_n 95 (zi282 94) rfl rfl rfl ?_
      refine X.getF 98 (zi282 95) rfl rfl (by decide) rfl rfl ?_
      refine X.bipush 100 (zi282 98) rfl rfl (by decide) ?_
      refine X.dup2 101 (zi282 100) rfl rfl ?_
      refine X.lald 102 (zi282 101) rfl rfl (by decide) rfl (by omega) ?_
      refine X.lconst (y := 1) 103 (zi282 102) rfl rfl rfl ?_
      refine X.laddW 104 (zi282 103) rfl rfl (fun z512 ez512 hz512 => ?_)
      refine X.last' 105 (zi282 104) rfl rfl (by decide) rfl (by omega) (fun hrm513 m513 hm513 => ?_)
      have hJ514 := w45_14 hJ hm513 (by omega) hrm513 hf33 hg4
      refine X.aload_n 106 (zi282 105) rfl rfl rfl ?_
      refine X.getF 109 (zi282 106) rfl rfl (by decide) rfl rfl ?_
      refine X.bipush 111 (zi282 109) rfl rfl (by decide) ?_
      refine X.dup2 112 (zi282 111) rfl rfl ?_
      refine X.lald 113 (zi282 112) rfl rfl (by decide) rfl (by omega) ?_
      refine X.lconst (y := 1) 114 (zi282 113) rfl rfl rfl ?_
      refine X.laddW 115 (zi282 114) rfl rfl (fun z515 ez515 hz515 => ?_)
      refine X.last' 116 (zi282 115) rfl rfl (by decide) rfl (by omega) (fun hrm516 m516 hm516 => ?_)
      have hJ517 := w45_21 hJ514 hm516 (by omega) hrm516 hf27 hg4
      refine X.aload_n 117 (zi282 116) rfl rfl rfl ?_
      refine X.callv 120 [] [] [(0, zr 4 44)] (zi282 117) rfl (by decide) rfl rfl (by omega) rfl rfl (by decide) rfl t230 (Nat.le_of_ble_eq_true rfl) (Nat.le_of_ble_eq_true rfl) rfl ?_
      refine c230_1 (B := B)   (by omega) (hJ517.up (by omega)) (by omega)  hf27 hf28 hf31 hg4 (fun m518 hFv520 hJ519 => ?_)
      show X (EE s) d 282 120 [(0, zr 4 44), (1, zi y1), (2, zi y2)] [] m518 _
      refine X.iinc 123 [(0, zr 4 44), (1, zi y1), (2, zi (y2 + 1))] (zi282 120) rfl rfl rfl (by omega) rfl ?_
      refine X.goto 89 (zi282 123) rfl rfl ?_
      exact ih (y2 + 1) m518 (B + 1) (hJ519.up (by omega)) (by omega) (by omega) (by omega) (Eq.trans hR (Eq.trans (if_neg h511) (Eq.trans (zn_eq ez512) (Eq.trans (zs_eq hm513) (Eq.trans (zn_eq ez515) (Eq.trans (zs_eq hm516) (Eq.trans (zs_eq hFv520.symm) rfl)))))))
-- WorkMeterModel.off
noncomputable def f282_1 (a1 : Int) (m : zM) : Int × zM :=
  if a1 < 1 then
  (((-1), m))
  else
  (if a1 ≤ 100000 then
  (if ((m 4 45 0) + a1) ≤ 2000000000 then
  (zs (f223_1 21 a1 m) fun m511 =>
  zs (z_upd m511 4 45 3 0) fun m514 =>
  fl282_47_1 (fun m516 =>
  fl282_89_1 (fun m520 =>
  ((m520 4 45 0), m520)) a1 (zfu 100001) 0 m516) a1 (zfu 4) 2 m514)
  else
  (((-1), m)))
  else
  (((-1), m)))
-- WorkMeterModel.off
theorem c282_1 {s : Nat × (Nat → Int32)} {S : zS} {m0 m : zM} {B : Int} {d : Nat} {Q : Option zV → zM → Prop} (a1 : Int) (hd : 19 ≤ d) (hJ : J S m0 B m) (hB : B + 100006 ≤ 1000000000) (ha1 : (-2147483648) ≤ a1 ∧ a1 ≤ 2147483647) (hf22 : ¬ S.1 22) (hf26 : ¬ S.1 26) (hf27 : ¬ S.1 27) (hf28 : ¬ S.1 28) (hf29 : ¬ S.1 29) (hf31 : ¬ S.1 31) (hf33 : ¬ S.1 33) (hg4 : ¬ S.2.1 4) (hQ : ∀ (v : Int) m', ((-1) ≤ v ∧ v ≤ 2000000000) → f282_1 a1 m = (v, m') → J S m0 (B + 100006) m' → Q (some (zi v)) m') : X (EE s) d 282 0 [(0, zr 4 44), (1, zi a1)] [] m Q := by
  refine X.iload_n 1 (zi282 0) rfl rfl rfl ?_
  refine X.i2l 2 (zi282 1) rfl rfl ?_
  refine X.lconst (y := 1) 3 (zi282 2) rfl rfl rfl ?_
  refine X.ldc2 6 (zi282 3) rfl rfl (by decide) ?_
  refine X.calls 9 [zl a1, zl 1, zl 100000] [] [(0, zl a1), (2, zl 1), (4, zl 100000)] (zi282 6) (by decide) rfl rfl (by omega) rfl rfl t204 (Nat.le_of_ble_eq_true rfl) (Nat.le_of_ble_eq_true rfl) rfl ?_
  refine X.lload_n 1 (zi204 0) rfl rfl rfl ?_
  refine X.lload_n 2 (zi204 1) rfl rfl rfl ?_
  refine X.lcmp 3 (zi204 2) rfl rfl (fun z501 hz501 => ?_)
  refine X.iflt 17 6 (zi204 3) rfl rfl rfl (fun h502 => ?_) (fun h502 => ?_)
  · have h502c : a1 < 1 := by omega
    clear h502 hz501
    refine X.cut [] (zi204 17) rfl ?_
    refine X.iconst 18 (zi204 17) rfl rfl (by decide) ?_
    refine X.retz (zi204 18) rfl t204 (by omega) ?_
    show X (EE s) d 282 9 [(0, zr 4 44), (1, zi a1)] [zi 0] m _
    refine X.ifeq 28 12 (zi282 9) rfl rfl rfl (fun h503 => ?_) (fun h503 => (by exfalso; omega))
    refine X.cut [] (zi282 28) rfl ?_
    refine X.iconst 29 (zi282 28) rfl rfl (by decide) ?_
    refine X.reti (zi282 29) rfl t282 ?_
    exact hQ (-1) m (by first | trivial | omega) (Eq.trans (if_pos h502c) rfl) (hJ.up (by omega)) 
  · have h502c : ¬ a1 < 1 := by omega
    clear h502 hz501
    refine X.lload_n 7 (zi204 6) rfl rfl rfl ?_
    refine X.lload 9 (zi204 7) rfl rfl rfl ?_
    refine X.lcmp 10 (zi204 9) rfl rfl (fun z504 hz504 => ?_)
    refine X.ifgt 17 13 (zi204 10) rfl rfl rfl (fun h505 => ?_) (fun h505 => ?_)
    · have h505c : ¬ a1 ≤ 100000 := by omega
      clear h505 hz504
      refine X.cut [] (zi204 17) rfl ?_
      refine X.iconst 18 (zi204 17) rfl rfl (by decide) ?_
      refine X.retz (zi204 18) rfl t204 (by omega) ?_
      show X (EE s) d 282 9 [(0, zr 4 44), (1, zi a1)] [zi 0] m _
      refine X.ifeq 28 12 (zi282 9) rfl rfl rfl (fun h506 => ?_) (fun h506 => (by exfalso; omega))
      refine X.cut [] (zi282 28) rfl ?_
      refine X.iconst 29 (zi282 28) rfl rfl (by decide) ?_
      refine X.reti (zi282 29) rfl t282 ?_
      exact hQ (-1) m (by first | trivial | omega) (Eq.trans (if_neg h502c) (Eq.trans (if_neg h505c) rfl)) (hJ.up (by omega)) 
    · have h505c : a1 ≤ 100000 := by omega
      clear h505 hz504
      refine X.iconst 14 (zi204 13) rfl rfl (by decide) ?_
      refine X.goto 18 (zi204 14) rfl rfl ?_
      refine X.cut [] (zi204 18) rfl ?_
      refine X.retz (zi204 18) rfl t204 (by omega) ?_
      show X (EE s) d 282 9 [(0, zr 4 44), (1, zi a1)] [zi 1] m _
      refine X.ifeq 28 12 (zi282 9) rfl rfl rfl (fun h507 => (by exfalso; omega)) (fun h507 => ?_)
      refine X.aload_n 13 (zi282 12) rfl rfl rfl ?_
      refine X.getF 16 (zi282 13) rfl rfl (by decide) rfl rfl ?_
      refine X.iconst 17 (zi282 16) rfl rfl (by decide) ?_
      refine X.lald 18 (zi282 17) rfl rfl (by decide) rfl (by omega) ?_
      have h508 := r45_0 hJ 4
      refine X.iload_n 19 (zi282 18) rfl rfl rfl ?_
      refine X.i2l 20 (zi282 19) rfl rfl ?_
      refine X.ladd 21 (zi282 20) rfl rfl (by omega) ?_
      refine X.ldc2 24 (zi282 21) rfl rfl (by decide) ?_
      refine X.lcmp 25 (zi282 24) rfl rfl (fun z509 hz509 => ?_)
      refine X.ifle 30 28 (zi282 25) rfl rfl rfl (fun h510 => ?_) (fun h510 => ?_)
      · have h510c : ((m 4 45 0) + a1) ≤ 2000000000 := by omega
        clear h510 hz509
        refine X.aload_n 31 (zi282 30) rfl rfl rfl ?_
        refine X.bipush 33 (zi282 31) rfl rfl (by decide) ?_
        refine X.iload_n 34 (zi282 33) rfl rfl rfl ?_
        refine X.i2l 35 (zi282 34) rfl rfl ?_
        refine X.callv 38 [zi 21, zl a1] [] [(0, zr 4 44), (1, zi 21), (2, zl a1)] (zi282 35) rfl (by decide) rfl rfl (by omega) rfl rfl (by decide) rfl t223 (Nat.le_of_ble_eq_true rfl) (Nat.le_of_ble_eq_true rfl) rfl ?_
        refine c223_1 (B := B)  21 a1 (by omega) (hJ.up (by omega)) (by omega) (by omega) hf26 hg4 (fun m511 hFv513 hJ512 => ?_)
        show X (EE s) d 282 38 [(0, zr 4 44), (1, zi a1)] [] m511 _
        refine X.aload_n 39 (zi282 38) rfl rfl rfl ?_
        refine X.getF 42 (zi282 39) rfl rfl (by decide) rfl rfl ?_
        refine X.iconst 43 (zi282 42) rfl rfl (by decide) ?_
        refine X.lconst (y := 0) 44 (zi282 43) rfl rfl rfl ?_
        refine X.last' 45 (zi282 44) rfl rfl (by decide) rfl (by omega) (fun hrm514 m514 hm514 => ?_)
        have hJ515 := w45_3 hJ512 hm514 (by omega) hf22 hg4
        refine X.iconst 46 (zi282 45) rfl rfl (by decide) ?_
        refine X.istore_n 47 [(0, zr 4 44), (1, zi a1), (2, zi 2)] (zi282 46) rfl rfl rfl ?_
        have hz4 := zfu_eq 4
        refine l282_47_1 (s := s) (d := d) (R0 := (f282_1 a1 m))  a1  (BE := B + 5) (by omega) (by omega) (by omega) hf26 hf29 hg4 (fun  m516 B517 hJ518 hBB517 hR519 => ?_) (zfu 4) 2 m514 (B + 1) (hJ515.up (by omega)) (by omega) (by omega) (by omega) (Eq.trans (if_neg h502c) (Eq.trans (if_pos h505c) (Eq.trans (if_pos h510c) (Eq.trans (zs_eq hFv513.symm) (Eq.trans (zs_eq hm514) rfl)))))
        refine X.iconst 88 (zi282 87) rfl rfl (by decide) ?_
        refine X.istore_n 89 [(0, zr 4 44), (1, zi a1), (2, zi 0)] (zi282 88) rfl rfl rfl ?_
        have hz100001 := zfu_eq 100001
        refine l282_89_1 (s := s) (d := d)  a1  (BE := B517 + 100001) (by omega) (by omega) (by omega) hf27 hf28 hf31 hf33 hg4 (fun  m520 B521 hJ522 hBB521 hR523 => ?_) (zfu 100001) 0 m516 (B517) (hJ518.up (by omega)) (by omega) (by omega) (by omega) (Eq.trans hR519 rfl)
        refine X.aload_n 127 (zi282 126) rfl rfl rfl ?_
        refine X.getF 130 (zi282 127) rfl rfl (by decide) rfl rfl ?_
        refine X.iconst 131 (zi282 130) rfl rfl (by decide) ?_
        refine X.lald 132 (zi282 131) rfl rfl (by decide) rfl (by omega) ?_
        have h524 := r45_0 hJ522 4
        refine X.l2i 133 (zi282 132) rfl rfl (by omega) ?_
        refine X.reti (zi282 133) rfl t282 ?_
        exact hQ (m520 4 45 0) m520 (by first | trivial | omega) (Eq.trans hR523 rfl) (hJ522.up (by omega)) 
      · have h510c : ¬ ((m 4 45 0) + a1) ≤ 2000000000 := by omega
        clear h510 hz509
        refine X.cut [] (zi282 28) rfl ?_
        refine X.iconst 29 (zi282 28) rfl rfl (by decide) ?_
        refine X.reti (zi282 29) rfl t282 ?_
        exact hQ (-1) m (by first | trivial | omega) (Eq.trans (if_neg h502c) (Eq.trans (if_pos h505c) (Eq.trans (if_neg h510c) rfl))) (hJ.up (by omega)) 
-- WorkMeter.mark
noncomputable def f134_1 (a1 a2 : Int) (m : zM) : Int × zM :=
  if a1 < 0 then
  ((0, m))
  else
  (if 2 ≤ a1 then
  ((0, m))
  else
  (zn (f40_1 0 a1 m) fun v505 =>
  if v505 = a2 then
  ((0, m))
  else
  (zs (f57_1 0 0 a1 a2 (m 0 8 9) m) fun m508 =>
  (1, m508))))
-- WorkMeter.mark
theorem c134_1 {s : Nat × (Nat → Int32)} {S : zS} {m0 m : zM} {B : Int} {d : Nat} {Q : Option zV → zM → Prop} (a1 a2 : Int) (hd : 15 ≤ d) (hJ : J S m0 B m) (hB : B + 1 ≤ 1000000000) (ha1 : (-2147483648) ≤ a1 ∧ a1 ≤ 2147483647) (ha2 : 0 ≤ a2 ∧ a2 ≤ 1) (hf6 : ¬ S.1 6) (hf9 : ¬ S.1 9) (hg0 : ¬ S.2.1 0) (hQ : ∀ (v : Int) m', (0 ≤ v ∧ v ≤ 1) → f134_1 a1 a2 m = (v, m') → J S m0 (B + 1) m' → Q (some (zi v)) m') : X (EE s) d 134 0 [(0, zr 4 40), (1, zi a1), (2, zi a2)] [] m Q := by
  refine X.iload_n 1 (zi134 0) rfl rfl rfl ?_
  refine X.iflt 24 4 (zi134 1) rfl rfl rfl (fun h501 => ?_) (fun h501 => ?_)
  · refine X.cut [] (zi134 24) rfl ?_
    refine X.iconst 25 (zi134 24) rfl rfl (by decide) ?_
    refine X.retz (zi134 25) rfl t134 (by omega) ?_
    exact hQ 0 m (by first | trivial | omega) (Eq.trans (if_pos h501) rfl) (hJ.up (by omega)) 
  · refine X.iload_n 5 (zi134 4) rfl rfl rfl ?_
    refine X.iconst 6 (zi134 5) rfl rfl (by decide) ?_
    refine X.icmpge 24 9 (zi134 6) rfl rfl rfl (fun h502 => ?_) (fun h502 => ?_)
    · refine X.cut [] (zi134 24) rfl ?_
      refine X.iconst 25 (zi134 24) rfl rfl (by decide) ?_
      refine X.retz (zi134 25) rfl t134 (by omega) ?_
      exact hQ 0 m (by first | trivial | omega) (Eq.trans (if_neg h501) (Eq.trans (if_pos h502) rfl)) (hJ.up (by omega)) 
    · refine X.aload_n 10 (zi134 9) rfl rfl rfl ?_
      refine X.getF 13 (zi134 10) rfl rfl (by decide) rfl rfl ?_
      refine X.getR 16 (zi134 13) rfl rfl (by decide) rfl rfl ?_
      refine X.iload_n 17 (zi134 16) rfl rfl rfl ?_
      refine X.callv 20 [zi a1] [] [(0, zr 0 33), (1, zi a1)] (zi134 17) rfl (by decide) rfl rfl (by omega) rfl rfl (by decide) rfl t40 (Nat.le_of_ble_eq_true rfl) (Nat.le_of_ble_eq_true rfl) rfl ?_
      refine c40_2 (B := B) 0 a1 (by omega) (hJ.up (by omega)) (by omega) (by omega) (fun v505 hv505 hFv505 => ?_)
      show X (EE s) d 134 20 [(0, zr 4 40), (1, zi a1), (2, zi a2)] [zi v505] m _
      refine X.iload_n 21 (zi134 20) rfl rfl rfl ?_
      refine X.icmpne 26 24 (zi134 21) rfl rfl rfl (fun h506 => ?_) (fun h506 => ?_)
      · refine X.aload_n 27 (zi134 26) rfl rfl rfl ?_
        refine X.getF 30 (zi134 27) rfl rfl (by decide) rfl rfl ?_
        refine X.getR 33 (zi134 30) rfl rfl (by decide) rfl rfl ?_
        refine X.iload_n 34 (zi134 33) rfl rfl rfl ?_
        refine X.iload_n 35 (zi134 34) rfl rfl rfl ?_
        refine X.aload_n 36 (zi134 35) rfl rfl rfl ?_
        refine X.getF 39 (zi134 36) rfl rfl (by decide) rfl rfl ?_
        refine X.getR 42 (zi134 39) rfl rfl (by decide) rfl rfl ?_
        refine X.aload_n 43 (zi134 42) rfl rfl rfl ?_
        refine X.getF 46 (zi134 43) rfl rfl (by decide) rfl rfl ?_
        refine X.getI 49 9 (zi134 46) rfl rfl (by decide) rfl rfl rfl ?_
        have h507 := r8_9 hJ 0
        refine X.callv 52 [zi a1, zi a2, zr 0 37, zi (m 0 8 9)] [] [(0, zr 0 33), (1, zi a1), (2, zi a2), (3, zr 0 37), (4, zi (m 0 8 9))] (zi134 49) rfl (by decide) rfl rfl (by omega) rfl rfl (by decide) rfl t57 (Nat.le_of_ble_eq_true rfl) (Nat.le_of_ble_eq_true rfl) rfl ?_
        refine c57_1 (B := B) 0 0 a1 a2 (m 0 8 9) (by omega) (hJ.up (by omega)) (by omega) (by omega) (by omega) (by omega) hf6 hf9 hg0 hg0 (fun m508 hFv510 hJ509 => ?_)
        show X (EE s) d 134 52 [(0, zr 4 40), (1, zi a1), (2, zi a2)] [] m508 _
        refine X.iconst 53 (zi134 52) rfl rfl (by decide) ?_
        refine X.retz (zi134 53) rfl t134 (by omega) ?_
        exact hQ 1 m508 (by first | trivial | omega) (Eq.trans (if_neg h501) (Eq.trans (if_neg h502) (Eq.trans (zn_eq hFv505.symm) (Eq.trans (if_neg h506) (Eq.trans (zs_eq hFv510.symm) rfl))))) (hJ509.up (by omega)) 
      · refine X.cut [] (zi134 24) rfl ?_
        refine X.iconst 25 (zi134 24) rfl rfl (by decide) ?_
        refine X.retz (zi134 25) rfl t134 (by omega) ?_
        exact hQ 0 m (by first | trivial | omega) (Eq.trans (if_neg h501) (Eq.trans (if_neg h502) (Eq.trans (zn_eq hFv505.symm) (Eq.trans (if_pos h506) rfl)))) (hJ.up (by omega)) 
-- WorkMeterModel.turnsOff
theorem c229_2 {s : Nat × (Nat → Int32)} {S : zS} {m0 m : zM} {B : Int} {d : Nat} {Q : Option zV → zM → Prop} (a1 : Int) (hd : 14 ≤ d) (hJ : J S m0 B m) (hB : B + 1 ≤ 1000000000) (ha1 : 0 ≤ a1 ∧ a1 ≤ 1) (hf26 : ¬ S.1 26) (hf29 : ¬ S.1 29) (hg4 : ¬ S.2.1 4) (hQ : ∀ m', f229_1 a1 m = m' → J S m0 (B + 1) m' → Q none m') : X (EE s) d 229 0 [(0, zr 4 44), (1, zi a1)] [] m Q := by
  refine X.aload_n 1 (zi229 0) rfl rfl rfl ?_
  refine X.getF 4 (zi229 1) rfl rfl (by decide) rfl rfl ?_
  refine X.bipush 6 (zi229 4) rfl rfl (by decide) ?_
  refine X.iload_n 7 (zi229 6) rfl rfl rfl ?_
  refine X.iadd 8 (zi229 7) rfl rfl (by omega) ?_
  refine X.lconst (y := 0) 9 (zi229 8) rfl rfl rfl ?_
  refine X.last' 10 (zi229 9) rfl rfl (by decide) rfl (by omega) (fun hrm501 m501 hm501 => ?_)
  have hJ502 := w45_40 hJ hm501 (by omega) hrm501 hf29 hg4
  refine X.aload_n 11 (zi229 10) rfl rfl rfl ?_
  refine X.bipush 13 (zi229 11) rfl rfl (by decide) ?_
  refine X.iload_n 14 (zi229 13) rfl rfl rfl ?_
  refine X.iadd 15 (zi229 14) rfl rfl (by omega) ?_
  refine X.lconst (y := 0) 16 (zi229 15) rfl rfl rfl ?_
  refine X.callv 19 [zi (10 + a1), zl 0] [] [(0, zr 4 44), (1, zi (10 + a1)), (2, zl 0)] (zi229 16) rfl (by decide) rfl rfl (by omega) rfl rfl (by decide) rfl t223 (Nat.le_of_ble_eq_true rfl) (Nat.le_of_ble_eq_true rfl) rfl ?_
  refine c223_1 (B := B)  (10 + a1) 0 (by omega) (hJ502.up (by omega)) (by omega) (by omega) hf26 hg4 (fun m503 hFv505 hJ504 => ?_)
  show X (EE s) d 229 19 [(0, zr 4 44), (1, zi a1)] [] m503 _
  refine X.retv (zi229 19) rfl t229 ?_
  exact hQ  m503  (Eq.trans (zs_eq hm501) (Eq.trans (zs_eq hFv505.symm) rfl)) (hJ504.up (by omega)) 
-- WorkMeterModel.turnsOn
theorem c228_2 {s : Nat × (Nat → Int32)} {S : zS} {m0 m : zM} {B : Int} {d : Nat} {Q : Option zV → zM → Prop} (a1 : Int) (hd : 14 ≤ d) (hJ : J S m0 B m) (hB : B + 1 ≤ 1000000000) (ha1 : 0 ≤ a1 ∧ a1 ≤ 1) (hf26 : ¬ S.1 26) (hf29 : ¬ S.1 29) (hg4 : ¬ S.2.1 4) (hQ : ∀ m', f228_1 a1 m = m' → J S m0 (B + 1) m' → Q none m') : X (EE s) d 228 0 [(0, zr 4 44), (1, zi a1)] [] m Q := by
  refine X.aload_n 1 (zi228 0) rfl rfl rfl ?_
  refine X.getF 4 (zi228 1) rfl rfl (by decide) rfl rfl ?_
  refine X.bipush 6 (zi228 4) rfl rfl (by decide) ?_
  refine X.iload_n 7 (zi228 6) rfl rfl rfl ?_
  refine X.iadd 8 (zi228 7) rfl rfl (by omega) ?_
  refine X.lconst (y := 1) 9 (zi228 8) rfl rfl rfl ?_
  refine X.last' 10 (zi228 9) rfl rfl (by decide) rfl (by omega) (fun hrm501 m501 hm501 => ?_)
  have hJ502 := w45_40 hJ hm501 (by omega) hrm501 hf29 hg4
  refine X.aload_n 11 (zi228 10) rfl rfl rfl ?_
  refine X.getF 14 (zi228 11) rfl rfl (by decide) rfl rfl ?_
  refine X.bipush 16 (zi228 14) rfl rfl (by decide) ?_
  refine X.iload_n 17 (zi228 16) rfl rfl rfl ?_
  refine X.iadd 18 (zi228 17) rfl rfl (by omega) ?_
  refine X.dup2 19 (zi228 18) rfl rfl ?_
  refine X.lald 20 (zi228 19) rfl rfl (by decide) rfl (by omega) ?_
  refine X.lconst (y := 1) 21 (zi228 20) rfl rfl rfl ?_
  refine X.laddW 22 (zi228 21) rfl rfl (fun z503 ez503 hz503 => ?_)
  refine X.last' 23 (zi228 22) rfl rfl (by decide) rfl (by omega) (fun hrm504 m504 hm504 => ?_)
  have hJ505 := w45_40 hJ502 hm504 (by omega) hrm504 hf29 hg4
  refine X.aload_n 24 (zi228 23) rfl rfl rfl ?_
  refine X.iload_n 25 (zi228 24) rfl rfl rfl ?_
  refine X.lconst (y := 0) 26 (zi228 25) rfl rfl rfl ?_
  refine X.callv 29 [zi a1, zl 0] [] [(0, zr 4 44), (1, zi a1), (2, zl 0)] (zi228 26) rfl (by decide) rfl rfl (by omega) rfl rfl (by decide) rfl t223 (Nat.le_of_ble_eq_true rfl) (Nat.le_of_ble_eq_true rfl) rfl ?_
  refine c223_1 (B := B)  a1 0 (by omega) (hJ505.up (by omega)) (by omega) (by omega) hf26 hg4 (fun m506 hFv508 hJ507 => ?_)
  show X (EE s) d 228 29 [(0, zr 4 44), (1, zi a1)] [] m506 _
  refine X.retv (zi228 29) rfl t228 ?_
  exact hQ  m506  (Eq.trans (zs_eq hm501) (Eq.trans (zn_eq ez503) (Eq.trans (zs_eq hm504) (Eq.trans (zs_eq hFv508.symm) rfl)))) (hJ507.up (by omega)) 
-- WorkMeterModel.mark
noncomputable def f283_1 (a1 a2 : Int) (m : zM) : Int × zM :=
  if a1 < 0 then
  ((0, m))
  else
  (if a1 ≤ 1 then
  (zn (if (m 4 45 (40 + a1)) = 1 then
  (1)
  else
  (0)) fun v510 =>
  if v510 = a2 then
  ((0, m))
  else
  (zs (if a2 = 0 then
  (zs (f229_1 a1 m) fun m517 =>
  m517)
  else
  (zs (f228_1 a1 m) fun m520 =>
  m520)) fun m524 =>
  (1, m524)))
  else
  ((0, m)))
-- WorkMeterModel.mark
theorem c283_1 {s : Nat × (Nat → Int32)} {S : zS} {m0 m : zM} {B : Int} {d : Nat} {Q : Option zV → zM → Prop} (a1 a2 : Int) (hd : 15 ≤ d) (hJ : J S m0 B m) (hB : B + 1 ≤ 1000000000) (ha1 : (-2147483648) ≤ a1 ∧ a1 ≤ 2147483647) (ha2 : 0 ≤ a2 ∧ a2 ≤ 1) (hf26 : ¬ S.1 26) (hf29 : ¬ S.1 29) (hg4 : ¬ S.2.1 4) (hQ : ∀ (v : Int) m', (0 ≤ v ∧ v ≤ 1) → f283_1 a1 a2 m = (v, m') → J S m0 (B + 1) m' → Q (some (zi v)) m') : X (EE s) d 283 0 [(0, zr 4 44), (1, zi a1), (2, zi a2)] [] m Q := by
  refine X.iload_n 1 (zi283 0) rfl rfl rfl ?_
  refine X.i2l 2 (zi283 1) rfl rfl ?_
  refine X.lconst (y := 0) 3 (zi283 2) rfl rfl rfl ?_
  refine X.lconst (y := 1) 4 (zi283 3) rfl rfl rfl ?_
  refine X.calls 7 [zl a1, zl 0, zl 1] [] [(0, zl a1), (2, zl 0), (4, zl 1)] (zi283 4) (by decide) rfl rfl (by omega) rfl rfl t204 (Nat.le_of_ble_eq_true rfl) (Nat.le_of_ble_eq_true rfl) rfl ?_
  refine X.lload_n 1 (zi204 0) rfl rfl rfl ?_
  refine X.lload_n 2 (zi204 1) rfl rfl rfl ?_
  refine X.lcmp 3 (zi204 2) rfl rfl (fun z501 hz501 => ?_)
  refine X.iflt 17 6 (zi204 3) rfl rfl rfl (fun h502 => ?_) (fun h502 => ?_)
  · have h502c : a1 < 0 := by omega
    clear h502 hz501
    refine X.cut [] (zi204 17) rfl ?_
    refine X.iconst 18 (zi204 17) rfl rfl (by decide) ?_
    refine X.retz (zi204 18) rfl t204 (by omega) ?_
    show X (EE s) d 283 7 [(0, zr 4 44), (1, zi a1), (2, zi a2)] [zi 0] m _
    refine X.ifeq 33 10 (zi283 7) rfl rfl rfl (fun h503 => ?_) (fun h503 => (by exfalso; omega))
    refine X.cut [] (zi283 33) rfl ?_
    refine X.iconst 34 (zi283 33) rfl rfl (by decide) ?_
    refine X.retz (zi283 34) rfl t283 (by omega) ?_
    exact hQ 0 m (by first | trivial | omega) (Eq.trans (if_pos h502c) rfl) (hJ.up (by omega)) 
  · have h502c : ¬ a1 < 0 := by omega
    clear h502 hz501
    refine X.lload_n 7 (zi204 6) rfl rfl rfl ?_
    refine X.lload 9 (zi204 7) rfl rfl rfl ?_
    refine X.lcmp 10 (zi204 9) rfl rfl (fun z504 hz504 => ?_)
    refine X.ifgt 17 13 (zi204 10) rfl rfl rfl (fun h505 => ?_) (fun h505 => ?_)
    · have h505c : ¬ a1 ≤ 1 := by omega
      clear h505 hz504
      refine X.cut [] (zi204 17) rfl ?_
      refine X.iconst 18 (zi204 17) rfl rfl (by decide) ?_
      refine X.retz (zi204 18) rfl t204 (by omega) ?_
      show X (EE s) d 283 7 [(0, zr 4 44), (1, zi a1), (2, zi a2)] [zi 0] m _
      refine X.ifeq 33 10 (zi283 7) rfl rfl rfl (fun h506 => ?_) (fun h506 => (by exfalso; omega))
      refine X.cut [] (zi283 33) rfl ?_
      refine X.iconst 34 (zi283 33) rfl rfl (by decide) ?_
      refine X.retz (zi283 34) rfl t283 (by omega) ?_
      exact hQ 0 m (by first | trivial | omega) (Eq.trans (if_neg h502c) (Eq.trans (if_neg h505c) rfl)) (hJ.up (by omega)) 
    · have h505c : a1 ≤ 1 := by omega
      clear h505 hz504
      refine X.iconst 14 (zi204 13) rfl rfl (by decide) ?_
      refine X.goto 18 (zi204 14) rfl rfl ?_
      refine X.cut [] (zi204 18) rfl ?_
      refine X.retz (zi204 18) rfl t204 (by omega) ?_
      show X (EE s) d 283 7 [(0, zr 4 44), (1, zi a1), (2, zi a2)] [zi 1] m _
      refine X.ifeq 33 10 (zi283 7) rfl rfl rfl (fun h507 => (by exfalso; omega)) (fun h507 => ?_)
      refine X.aload_n 11 (zi283 10) rfl rfl rfl ?_
      refine X.getF 14 (zi283 11) rfl rfl (by decide) rfl rfl ?_
      refine X.bipush 16 (zi283 14) rfl rfl (by decide) ?_
      refine X.iload_n 17 (zi283 16) rfl rfl rfl ?_
      refine X.iadd 18 (zi283 17) rfl rfl (by omega) ?_
      refine X.lald 19 (zi283 18) rfl rfl (by decide) rfl (by omega) ?_
      refine X.lconst (y := 1) 20 (zi283 19) rfl rfl rfl ?_
      refine X.lcmp 21 (zi283 20) rfl rfl (fun z508 hz508 => ?_)
      have hK513 : ∀ (v : Int) , (0 ≤ v ∧ v ≤ 1) → (if (m 4 45 (40 + a1)) = 1 then
          (1)
          else
          (0)) = v → X (EE s) d 283 29 [(0, zr 4 44), (1, zi a1), (2, zi a2)] [zi v] m Q := by
        intro v510 hv510 hT514
        refine X.iload_n 30 (zi283 29) rfl rfl rfl ?_
        refine X.icmpne 35 33 (zi283 30) rfl rfl rfl (fun h515 => ?_) (fun h515 => ?_)
        · refine X.iload_n 36 (zi283 35) rfl rfl rfl ?_
          have hK526 : ∀ (m' : zM), (if a2 = 0 then
              (zs (f229_1 a1 m) fun m517 =>
              m517)
              else
              (zs (f228_1 a1 m) fun m520 =>
              m520)) = m' → J S m0 (B + 1) m' → X (EE s) d 283 52 [] [] m' Q := by
            intro m524 hT527 hJ525
            refine X.iconst 53 (zi283 52) rfl rfl (by decide) ?_
            refine X.retz (zi283 53) rfl t283 (by omega) ?_
            exact hQ 1 m524 (by first | trivial | omega) (Eq.trans (if_neg h502c) (Eq.trans (if_pos h505c) (Eq.trans (zn_eq hT514.symm) (Eq.trans (if_neg h515) (Eq.trans (zs_eq hT527.symm) rfl))))) (hJ525.up (by omega)) 
          refine X.ifeq 47 39 (zi283 36) rfl rfl rfl (fun h516 => ?_) (fun h516 => ?_)
          · refine X.cut [(0, zr 4 44), (1, zi a1)] (zi283 47) rfl ?_
            refine X.aload_n 48 (zi283 47) rfl rfl rfl ?_
            refine X.iload_n 49 (zi283 48) rfl rfl rfl ?_
            refine X.callv 52 [zi a1] [] [(0, zr 4 44), (1, zi a1)] (zi283 49) rfl (by decide) rfl rfl (by omega) rfl rfl (by decide) rfl t229 (Nat.le_of_ble_eq_true rfl) (Nat.le_of_ble_eq_true rfl) rfl ?_
            refine c229_2 (B := B)  a1 (by omega) (hJ.up (by omega)) (by omega) (by omega) hf26 hf29 hg4 (fun m517 hFv519 hJ518 => ?_)
            show X (EE s) d 283 52 [(0, zr 4 44), (1, zi a1)] [] m517 _
            refine X.cut [] (zi283 52) rfl ?_
            exact hK526 m517 (Eq.trans (if_pos h516) (Eq.trans (zs_eq hFv519.symm) rfl)) (hJ518.up (by omega))
          · refine X.aload_n 40 (zi283 39) rfl rfl rfl ?_
            refine X.iload_n 41 (zi283 40) rfl rfl rfl ?_
            refine X.callv 44 [zi a1] [] [(0, zr 4 44), (1, zi a1)] (zi283 41) rfl (by decide) rfl rfl (by omega) rfl rfl (by decide) rfl t228 (Nat.le_of_ble_eq_true rfl) (Nat.le_of_ble_eq_true rfl) rfl ?_
            refine c228_2 (B := B)  a1 (by omega) (hJ.up (by omega)) (by omega) (by omega) hf26 hf29 hg4 (fun m520 hFv522 hJ521 => ?_)
            show X (EE s) d 283 44 [(0, zr 4 44), (1, zi a1), (2, zi a2)] [] m520 _
            refine X.goto 52 (zi283 44) rfl rfl ?_
            refine X.cut [] (zi283 52) rfl ?_
            exact hK526 m520 (Eq.trans (if_neg h516) (Eq.trans (zs_eq hFv522.symm) rfl)) (hJ521.up (by omega))
        · refine X.cut [] (zi283 33) rfl ?_
          refine X.iconst 34 (zi283 33) rfl rfl (by decide) ?_
          refine X.retz (zi283 34) rfl t283 (by omega) ?_
          exact hQ 0 m (by first | trivial | omega) (Eq.trans (if_neg h502c) (Eq.trans (if_pos h505c) (Eq.trans (zn_eq hT514.symm) (Eq.trans (if_pos h515) rfl)))) (hJ.up (by omega)) 
      refine X.ifne 28 24 (zi283 21) rfl rfl rfl (fun h509 => ?_) (fun h509 => ?_)
      · have h509c : ¬ (m 4 45 (40 + a1)) = 1 := by omega
        clear h509 hz508
        refine X.iconst 29 (zi283 28) rfl rfl (by decide) ?_
        exact hK513 0 (by first | trivial | omega) (Eq.trans (if_neg h509c) rfl)
      · have h509c : (m 4 45 (40 + a1)) = 1 := by omega
        clear h509 hz508
        refine X.iconst 25 (zi283 24) rfl rfl (by decide) ?_
        refine X.goto 29 (zi283 25) rfl rfl ?_
        exact hK513 1 (by first | trivial | omega) (Eq.trans (if_pos h509c) rfl)
-- WorkMeter.prepaid
noncomputable def f135_1 (a1 : Int) (m : zM) : Int × zM :=
  if (m 0 8 11) = a1 then
  ((0, m))
  else
  (zs (z_upd m 0 8 11 a1) fun m503 =>
  zs (f53_1 0 m503) fun m505 =>
  (1, m505))
-- WorkMeter.prepaid
theorem c135_1 {s : Nat × (Nat → Int32)} {S : zS} {m0 m : zM} {B : Int} {d : Nat} {Q : Option zV → zM → Prop} (a1 : Int) (hd : 16 ≤ d) (hJ : J S m0 B m) (hB : B + 1 ≤ 1000000000) (ha1 : 0 ≤ a1 ∧ a1 ≤ 1) (hf6 : ¬ S.1 6) (hf12 : ¬ S.1 12) (hg0 : ¬ S.2.1 0) (hQ : ∀ (v : Int) m', (0 ≤ v ∧ v ≤ 1) → f135_1 a1 m = (v, m') → J S m0 (B + 1) m' → Q (some (zi v)) m') : X (EE s) d 135 0 [(0, zr 4 40), (1, zi a1)] [] m Q := by
  refine X.aload_n 1 (zi135 0) rfl rfl rfl ?_
  refine X.getF 4 (zi135 1) rfl rfl (by decide) rfl rfl ?_
  refine X.getZ 7 11 (zi135 4) rfl rfl (by decide) rfl rfl rfl (fun h501 => ?_)
  refine X.iload_n 8 (zi135 7) rfl rfl rfl ?_
  refine X.icmpne 13 11 (zi135 8) rfl rfl rfl (fun h502 => ?_) (fun h502 => ?_)
  · refine X.aload_n 14 (zi135 13) rfl rfl rfl ?_
    refine X.getF 17 (zi135 14) rfl rfl (by decide) rfl rfl ?_
    refine X.iload_n 18 (zi135 17) rfl rfl rfl ?_
    refine X.putZ' 21 11 (zi135 18) rfl rfl (by decide) rfl rfl rfl (by omega) (fun hrm503 m503 hm503 => ?_)
    have hJ504 := w8_11 hJ hm503 (by omega) hf12 hg0
    refine X.aload_n 22 (zi135 21) rfl rfl rfl ?_
    refine X.getF 25 (zi135 22) rfl rfl (by decide) rfl rfl ?_
    refine X.callv 28 [] [] [(0, zr 0 8)] (zi135 25) rfl (by decide) rfl rfl (by omega) rfl rfl (by decide) rfl t53 (Nat.le_of_ble_eq_true rfl) (Nat.le_of_ble_eq_true rfl) rfl ?_
    refine c53_1 (B := B) 0  (by omega) (hJ504.up (by omega)) (by omega)  hf6 hf12 hg0 (fun m505 hFv507 hJ506 => ?_)
    show X (EE s) d 135 28 [(0, zr 4 40), (1, zi a1)] [] m505 _
    refine X.iconst 29 (zi135 28) rfl rfl (by decide) ?_
    refine X.retz (zi135 29) rfl t135 (by omega) ?_
    exact hQ 1 m505 (by first | trivial | omega) (Eq.trans (if_neg h502) (Eq.trans (zs_eq hm503) (Eq.trans (zs_eq hFv507.symm) rfl))) (hJ506.up (by omega)) 
  · refine X.iconst 12 (zi135 11) rfl rfl (by decide) ?_
    refine X.retz (zi135 12) rfl t135 (by omega) ?_
    exact hQ 0 m (by first | trivial | omega) (Eq.trans (if_pos h502) rfl) (hJ.up (by omega)) 
-- WorkMeterModel.prepaid
noncomputable def f284_1 (a1 : Int) (m : zM) : Int × zM :=
  zn (if (m 4 45 11) = 1 then
  (1)
  else
  (0)) fun v504 =>
  if v504 = a1 then
  ((0, m))
  else
  (zn (if a1 = 0 then
  (0)
  else
  (1)) fun v511 =>
  zs (z_upd m 4 45 11 v511) fun m516 =>
  zs (f222_1 m516) fun m518 =>
  (1, m518))
-- WorkMeterModel.prepaid
theorem c284_1 {s : Nat × (Nat → Int32)} {S : zS} {m0 m : zM} {B : Int} {d : Nat} {Q : Option zV → zM → Prop} (a1 : Int) (hd : 15 ≤ d) (hJ : J S m0 B m) (hB : B + 1 ≤ 1000000000) (ha1 : 0 ≤ a1 ∧ a1 ≤ 1) (hf26 : ¬ S.1 26) (hf32 : ¬ S.1 32) (hg4 : ¬ S.2.1 4) (hQ : ∀ (v : Int) m', (0 ≤ v ∧ v ≤ 1) → f284_1 a1 m = (v, m') → J S m0 (B + 1) m' → Q (some (zi v)) m') : X (EE s) d 284 0 [(0, zr 4 44), (1, zi a1)] [] m Q := by
  refine X.aload_n 1 (zi284 0) rfl rfl rfl ?_
  refine X.getF 4 (zi284 1) rfl rfl (by decide) rfl rfl ?_
  refine X.bipush 6 (zi284 4) rfl rfl (by decide) ?_
  refine X.lald 7 (zi284 6) rfl rfl (by decide) rfl (by omega) ?_
  have h501 := r45_11 hJ 4
  refine X.lconst (y := 1) 8 (zi284 7) rfl rfl rfl ?_
  refine X.lcmp 9 (zi284 8) rfl rfl (fun z502 hz502 => ?_)
  have hK507 : ∀ (v : Int) , (0 ≤ v ∧ v ≤ 1) → (if (m 4 45 11) = 1 then
      (1)
      else
      (0)) = v → X (EE s) d 284 17 [(0, zr 4 44), (1, zi a1)] [zi v] m Q := by
    intro v504 hv504 hT508
    refine X.iload_n 18 (zi284 17) rfl rfl rfl ?_
    refine X.icmpne 23 21 (zi284 18) rfl rfl rfl (fun h509 => ?_) (fun h509 => ?_)
    · refine X.aload_n 24 (zi284 23) rfl rfl rfl ?_
      refine X.getF 27 (zi284 24) rfl rfl (by decide) rfl rfl ?_
      refine X.bipush 29 (zi284 27) rfl rfl (by decide) ?_
      refine X.iload_n 30 (zi284 29) rfl rfl rfl ?_
      have hK514 : ∀ (v : Int) , (0 ≤ v ∧ v ≤ 1) → (if a1 = 0 then
          (0)
          else
          (1)) = v → X (EE s) d 284 38 [(0, zr 4 44)] [zl v, zi 11, zr 4 45] m Q := by
        intro v511 hv511 hT515
        refine X.last' 39 (zi284 38) rfl rfl (by decide) rfl (by omega) (fun hrm516 m516 hm516 => ?_)
        have hJ517 := w45_11 hJ hm516 (by omega) hf32 hg4
        refine X.aload_n 40 (zi284 39) rfl rfl rfl ?_
        refine X.callv 43 [] [] [(0, zr 4 44)] (zi284 40) rfl (by decide) rfl rfl (by omega) rfl rfl (by decide) rfl t222 (Nat.le_of_ble_eq_true rfl) (Nat.le_of_ble_eq_true rfl) rfl ?_
        refine c222_1 (B := B)   (by omega) (hJ517.up (by omega)) (by omega)  hf26 hf32 hg4 (fun m518 hFv520 hJ519 => ?_)
        show X (EE s) d 284 43 [(0, zr 4 44)] [] m518 _
        refine X.iconst 44 (zi284 43) rfl rfl (by decide) ?_
        refine X.retz (zi284 44) rfl t284 (by omega) ?_
        exact hQ 1 m518 (by first | trivial | omega) (Eq.trans (zn_eq hT508.symm) (Eq.trans (if_neg h509) (Eq.trans (zn_eq hT515.symm) (Eq.trans (zs_eq hm516) (Eq.trans (zs_eq hFv520.symm) rfl))))) (hJ519.up (by omega)) 
      refine X.ifeq 37 33 (zi284 30) rfl rfl rfl (fun h510 => ?_) (fun h510 => ?_)
      · refine X.cut [(0, zr 4 44)] (zi284 37) rfl ?_
        refine X.lconst (y := 0) 38 (zi284 37) rfl rfl rfl ?_
        exact hK514 0 (by first | trivial | omega) (Eq.trans (if_pos h510) rfl)
      · refine X.lconst (y := 1) 34 (zi284 33) rfl rfl rfl ?_
        refine X.goto 38 (zi284 34) rfl rfl ?_
        refine X.cut [(0, zr 4 44)] (zi284 38) rfl ?_
        exact hK514 1 (by first | trivial | omega) (Eq.trans (if_neg h510) rfl)
    · refine X.iconst 22 (zi284 21) rfl rfl (by decide) ?_
      refine X.retz (zi284 22) rfl t284 (by omega) ?_
      exact hQ 0 m (by first | trivial | omega) (Eq.trans (zn_eq hT508.symm) (Eq.trans (if_pos h509) rfl)) (hJ.up (by omega)) 
  refine X.ifne 16 12 (zi284 9) rfl rfl rfl (fun h503 => ?_) (fun h503 => ?_)
  · have h503c : ¬ (m 4 45 11) = 1 := by omega
    clear h503 hz502
    refine X.iconst 17 (zi284 16) rfl rfl (by decide) ?_
    exact hK507 0 (by first | trivial | omega) (Eq.trans (if_neg h503c) rfl)
  · have h503c : (m 4 45 11) = 1 := by omega
    clear h503 hz502
    refine X.iconst 13 (zi284 12) rfl rfl (by decide) ?_
    refine X.goto 17 (zi284 13) rfl rfl ?_
    exact hK507 1 (by first | trivial | omega) (Eq.trans (if_pos h503c) rfl)
-- WorkMeter.pay
noncomputable def f136_1 (a1 : Int) (m : zM) : Int × zM :=
  if a1 < 0 then
  (((-10000000000), m))
  else
  (if a1 ≤ 1000000000 then
  (zn (w64 ((m 0 8 10) + a1)) fun z503 =>
  zs (z_upd m 0 8 10 z503) fun m504 =>
  zs (f53_1 0 m504) fun m506 =>
  ((m506 0 8 10), m506))
  else
  (((-10000000000), m)))
-- WorkMeter.pay
theorem c136_1 {s : Nat × (Nat → Int32)} {S : zS} {m0 m : zM} {B : Int} {d : Nat} {Q : Option zV → zM → Prop} (a1 : Int) (hd : 16 ≤ d) (hJ : J S m0 B m) (hB : B + 1 ≤ 1000000000) (ha1 : (-2147483648) ≤ a1 ∧ a1 ≤ 2147483647) (hf6 : ¬ S.1 6) (hf12 : ¬ S.1 12) (hg0 : ¬ S.2.1 0) (hQ : ∀ (v : Int) m', (True) → f136_1 a1 m = (v, m') → J S m0 (B + 1) m' → Q (some (zl v)) m') : X (EE s) d 136 0 [(0, zr 4 40), (1, zi a1)] [] m Q := by
  refine X.iload_n 1 (zi136 0) rfl rfl rfl ?_
  refine X.iflt 10 4 (zi136 1) rfl rfl rfl (fun h501 => ?_) (fun h501 => ?_)
  · refine X.cut [] (zi136 10) rfl ?_
    refine X.ldc2 13 (zi136 10) rfl rfl (by decide) ?_
    refine X.retl (zi136 13) rfl t136 ?_
    exact hQ (-10000000000) m (by first | trivial | omega) (Eq.trans (if_pos h501) rfl) (hJ.up (by omega)) 
  · refine X.iload_n 5 (zi136 4) rfl rfl rfl ?_
    refine X.ldc 7 (zi136 5) rfl rfl (by decide) ?_
    refine X.icmple 14 10 (zi136 7) rfl rfl rfl (fun h502 => ?_) (fun h502 => ?_)
    · refine X.aload_n 15 (zi136 14) rfl rfl rfl ?_
      refine X.getF 18 (zi136 15) rfl rfl (by decide) rfl rfl ?_
      refine X.dup 19 (zi136 18) rfl rfl rfl ?_
      refine X.getL 22 10 (zi136 19) rfl rfl (by decide) rfl rfl rfl ?_
      refine X.iload_n 23 (zi136 22) rfl rfl rfl ?_
      refine X.i2l 24 (zi136 23) rfl rfl ?_
      refine X.laddW 25 (zi136 24) rfl rfl (fun z503 ez503 hz503 => ?_)
      refine X.putL' 28 10 (zi136 25) rfl rfl (by decide) rfl rfl rfl (fun hrm504 m504 hm504 => ?_)
      have hJ505 := w8_10 hJ hm504 hrm504 hf12 hg0
      refine X.aload_n 29 (zi136 28) rfl rfl rfl ?_
      refine X.getF 32 (zi136 29) rfl rfl (by decide) rfl rfl ?_
      refine X.callv 35 [] [] [(0, zr 0 8)] (zi136 32) rfl (by decide) rfl rfl (by omega) rfl rfl (by decide) rfl t53 (Nat.le_of_ble_eq_true rfl) (Nat.le_of_ble_eq_true rfl) rfl ?_
      refine c53_1 (B := B) 0  (by omega) (hJ505.up (by omega)) (by omega)  hf6 hf12 hg0 (fun m506 hFv508 hJ507 => ?_)
      show X (EE s) d 136 35 [(0, zr 4 40), (1, zi a1)] [] m506 _
      refine X.aload_n 36 (zi136 35) rfl rfl rfl ?_
      refine X.getF 39 (zi136 36) rfl rfl (by decide) rfl rfl ?_
      refine X.getL 42 10 (zi136 39) rfl rfl (by decide) rfl rfl rfl ?_
      refine X.retl (zi136 42) rfl t136 ?_
      exact hQ (m506 0 8 10) m506 (by first | trivial | omega) (Eq.trans (if_neg h501) (Eq.trans (if_pos h502) (Eq.trans (zn_eq ez503) (Eq.trans (zs_eq hm504) (Eq.trans (zs_eq hFv508.symm) rfl))))) (hJ507.up (by omega)) 
    · refine X.cut [] (zi136 10) rfl ?_
      refine X.ldc2 13 (zi136 10) rfl rfl (by decide) ?_
      refine X.retl (zi136 13) rfl t136 ?_
      exact hQ (-10000000000) m (by first | trivial | omega) (Eq.trans (if_neg h501) (Eq.trans (if_neg h502) rfl)) (hJ.up (by omega)) 
-- WorkMeterModel.pay
noncomputable def f285_1 (a1 : Int) (m : zM) : Int × zM :=
  if a1 < 0 then
  (((-10000000000), m))
  else
  (if a1 ≤ 1000000000 then
  (zn (w64 ((m 4 45 10) + a1)) fun z508 =>
  zs (z_upd m 4 45 10 z508) fun m509 =>
  zs (f222_1 m509) fun m511 =>
  ((m511 4 45 10), m511))
  else
  (((-10000000000), m)))
end
section
-- WorkMeterModel.pay
theorem c285_1 {s : Nat × (Nat → Int32)} {S : zS} {m0 m : zM} {B : Int} {d : Nat} {Q : Option zV → zM → Prop} (a1 : Int) (hd : 15 ≤ d) (hJ : J S m0 B m) (hB : B + 1 ≤ 1000000000) (ha1 : (-2147483648) ≤ a1 ∧ a1 ≤ 2147483647) (hf26 : ¬ S.1 26) (hf32 : ¬ S.1 32) (hg4 : ¬ S.2.1 4) (hQ : ∀ (v : Int) m', (True) → f285_1 a1 m = (v, m') → J S m0 (B + 1) m' → Q (some (zl v)) m') : X (EE s) d 285 0 [(0, zr 4 44), (1, zi a1)] [] m Q := by
  refine X.iload_n 1 (zi285 0) rfl rfl rfl ?_
  refine X.i2l 2 (zi285 1) rfl rfl ?_
  refine X.lconst (y := 0) 3 (zi285 2) rfl rfl rfl ?_
  refine X.ldc2 6 (zi285 3) rfl rfl (by decide) ?_
  refine X.calls 9 [zl a1, zl 0, zl 1000000000] [] [(0, zl a1), (2, zl 0), (4, zl 1000000000)] (zi285 6) (by decide) rfl rfl (by omega) rfl rfl t204 (Nat.le_of_ble_eq_true rfl) (Nat.le_of_ble_eq_true rfl) rfl ?_
  refine X.lload_n 1 (zi204 0) rfl rfl rfl ?_
  refine X.lload_n 2 (zi204 1) rfl rfl rfl ?_
  refine X.lcmp 3 (zi204 2) rfl rfl (fun z501 hz501 => ?_)
  refine X.iflt 17 6 (zi204 3) rfl rfl rfl (fun h502 => ?_) (fun h502 => ?_)
  · have h502c : a1 < 0 := by omega
    clear h502 hz501
    refine X.cut [] (zi204 17) rfl ?_
    refine X.iconst 18 (zi204 17) rfl rfl (by decide) ?_
    refine X.retz (zi204 18) rfl t204 (by omega) ?_
    show X (EE s) d 285 9 [(0, zr 4 44), (1, zi a1)] [zi 0] m _
    refine X.ifne 16 12 (zi285 9) rfl rfl rfl (fun h503 => (by exfalso; omega)) (fun h503 => ?_)
    refine X.ldc2 15 (zi285 12) rfl rfl (by decide) ?_
    refine X.retl (zi285 15) rfl t285 ?_
    exact hQ (-10000000000) m (by first | trivial | omega) (Eq.trans (if_pos h502c) rfl) (hJ.up (by omega)) 
  · have h502c : ¬ a1 < 0 := by omega
    clear h502 hz501
    refine X.lload_n 7 (zi204 6) rfl rfl rfl ?_
    refine X.lload 9 (zi204 7) rfl rfl rfl ?_
    refine X.lcmp 10 (zi204 9) rfl rfl (fun z504 hz504 => ?_)
    refine X.ifgt 17 13 (zi204 10) rfl rfl rfl (fun h505 => ?_) (fun h505 => ?_)
    · have h505c : ¬ a1 ≤ 1000000000 := by omega
      clear h505 hz504
      refine X.cut [] (zi204 17) rfl ?_
      refine X.iconst 18 (zi204 17) rfl rfl (by decide) ?_
      refine X.retz (zi204 18) rfl t204 (by omega) ?_
      show X (EE s) d 285 9 [(0, zr 4 44), (1, zi a1)] [zi 0] m _
      refine X.ifne 16 12 (zi285 9) rfl rfl rfl (fun h506 => (by exfalso; omega)) (fun h506 => ?_)
      refine X.ldc2 15 (zi285 12) rfl rfl (by decide) ?_
      refine X.retl (zi285 15) rfl t285 ?_
      exact hQ (-10000000000) m (by first | trivial | omega) (Eq.trans (if_neg h502c) (Eq.trans (if_neg h505c) rfl)) (hJ.up (by omega)) 
    · have h505c : a1 ≤ 1000000000 := by omega
      clear h505 hz504
      refine X.iconst 14 (zi204 13) rfl rfl (by decide) ?_
      refine X.goto 18 (zi204 14) rfl rfl ?_
      refine X.cut [] (zi204 18) rfl ?_
      refine X.retz (zi204 18) rfl t204 (by omega) ?_
      show X (EE s) d 285 9 [(0, zr 4 44), (1, zi a1)] [zi 1] m _
      refine X.ifne 16 12 (zi285 9) rfl rfl rfl (fun h507 => ?_) (fun h507 => (by exfalso; omega))
      refine X.aload_n 17 (zi285 16) rfl rfl rfl ?_
      refine X.getF 20 (zi285 17) rfl rfl (by decide) rfl rfl ?_
      refine X.bipush 22 (zi285 20) rfl rfl (by decide) ?_
      refine X.dup2 23 (zi285 22) rfl rfl ?_
      refine X.lald 24 (zi285 23) rfl rfl (by decide) rfl (by omega) ?_
      refine X.iload_n 25 (zi285 24) rfl rfl rfl ?_
      refine X.i2l 26 (zi285 25) rfl rfl ?_
      refine X.laddW 27 (zi285 26) rfl rfl (fun z508 ez508 hz508 => ?_)
      refine X.last' 28 (zi285 27) rfl rfl (by decide) rfl (by omega) (fun hrm509 m509 hm509 => ?_)
      have hJ510 := w45_10 hJ hm509 hrm509 hf32 hg4
      refine X.aload_n 29 (zi285 28) rfl rfl rfl ?_
      refine X.callv 32 [] [] [(0, zr 4 44)] (zi285 29) rfl (by decide) rfl rfl (by omega) rfl rfl (by decide) rfl t222 (Nat.le_of_ble_eq_true rfl) (Nat.le_of_ble_eq_true rfl) rfl ?_
      refine c222_1 (B := B)   (by omega) (hJ510.up (by omega)) (by omega)  hf26 hf32 hg4 (fun m511 hFv513 hJ512 => ?_)
      show X (EE s) d 285 32 [(0, zr 4 44), (1, zi a1)] [] m511 _
      refine X.aload_n 33 (zi285 32) rfl rfl rfl ?_
      refine X.getF 36 (zi285 33) rfl rfl (by decide) rfl rfl ?_
      refine X.bipush 38 (zi285 36) rfl rfl (by decide) ?_
      refine X.lald 39 (zi285 38) rfl rfl (by decide) rfl (by omega) ?_
      refine X.retl (zi285 39) rfl t285 ?_
      exact hQ (m511 4 45 10) m511 (by first | trivial | omega) (Eq.trans (if_neg h502c) (Eq.trans (if_pos h505c) (Eq.trans (zn_eq ez508) (Eq.trans (zs_eq hm509) (Eq.trans (zs_eq hFv513.symm) rfl))))) (hJ512.up (by omega)) 
noncomputable def fl139_14_1_b (self : Int → zM → zM) (k65 : zM → zM) (g0 g2 : Nat) (y1 y3 : Int) (y4 : Int) (m : zM) : zM :=
  if 28 ≤ y4 then
  (k65 m)
  else
  (zn (w64 ((m g0 24 y4) - (m g0 25 y4))) fun z508 =>
  zs (z_upd m g0 26 (y3 + y4) z508) fun m509 =>
  zs (z_upd m509 g0 25 y4 (m509 g0 24 y4)) fun m511 =>
  self (y4 + 1) m511)
noncomputable def fl139_14_1 (k65 : zM → zM) (g0 g2 : Nat) (y1 y3 : Int) : Nat → Int → zM → zM
  | 0 => fun y4 m => m
  | n + 1 => fl139_14_1_b (fl139_14_1 k65 g0 g2 y1 y3 n) k65 g0 g2 y1 y3
theorem l139_14_1 {s : Nat × (Nat → Int32)} {S : zS} {m0 : zM} {d : Nat} {Q : Option zV → zM → Prop} {R0 : zM} {k65 : zM → zM} (g0 g2 : Nat) (y1 y3 : Int) (BE : Int) (hE : BE ≤ 1000000000) (hd : 13 ≤ d) (hy1 : 0 ≤ y1 ∧ y1 ≤ 2000000000) (hy3 : 0 ≤ y3 ∧ y3 ≤ 165) (hf5 : ¬ S.1 5) (hgg0 : ¬ S.2.1 g0)
    (K65 : ∀ (m' : zM) (B' : Int), J S m0 B' m' → B' ≤ BE → R0 = k65 m' → X (EE s) d 139 65 [(0, zr g0 23), (1, zi y1), (2, zr g2 30), (3, zi y3)] [] m' Q) :
    ∀ (n : Nat) (y4 : Int) (m : zM) (B : Int), J S m0 B m → B + 0 * (n : Int) ≤ BE → (0 ≤ y4 ∧ y4 ≤ 28) → 28 - y4 < (n : Int) → R0 = fl139_14_1 k65 g0 g2 y1 y3 n y4 m → X (EE s) d 139 14 [(0, zr g0 23), (1, zi y1), (2, zr g2 30), (3, zi y3), (4, zi y4)] [] m Q := by
  intro n
  induction n with
  | zero =>
    intro y4 m B hJ hB hy4 hn hR
    exfalso
    omega
  | succ n ih =>
    intro y4 m B hJ hB hy4 hn hR
    replace hR : R0 = fl139_14_1_b (fl139_14_1 k65 g0 g2 y1 y3 n) k65 g0 g2 y1 y3 y4 m := hR
    refine X.iload 16 (zi139 14) rfl rfl rfl ?_
    refine X.bipush 18 (zi139 16) rfl rfl (by decide) ?_
    refine X.icmpge 65 21 (zi139 18) rfl rfl rfl (fun h507 => ?_) (fun h507 => ?_)
    · refine X.cut [(0, zr g0 23), (1, zi y1), (2, zr g2 30), (3, zi y3)] (zi139 65) rfl ?_
      exact K65  m (B) (hJ.up (by omega)) (by omega)  (Eq.trans hR (Eq.trans (if_pos h507) rfl))
    · refine X.aload_n 22 (zi139 21) rfl rfl rfl ?_
      refine X.getR 25 (zi139 22) rfl rfl (by decide) rfl rfl ?_
      refine X.iload_n 26 (zi139 25) rfl rfl rfl ?_
      refine X.iload 28 (zi139 26) rfl rfl rfl ?_
      refine X.iadd 29 (zi139 28) rfl rfl (by omega) ?_
      refine X.aload_n 30 (zi139 29) rfl rfl rfl ?_
      refine X.getR 33 (zi139 30) rfl rfl (by decide) rfl rfl ?_
      refine X.iload 35 (zi139 33) rfl rfl rfl ?_
      refine X.lald 36 (zi139 35) rfl rfl (by decide) rfl (by omega) ?_
      refine X.aload_n 37 (zi139 36) rfl rfl rfl ?_
      refine X.getR 40 (zi139 37) rfl rfl (by decide) rfl rfl ?_
      refine X.iload 42 (zi139 40) rfl rfl rfl ?_
      refine X.lald 43 (zi139 42) rfl rfl (by decide) rfl (by omega) ?_
      refine X.lsubW 44 (zi139 43) rfl rfl (fun z508 ez508 hz508 => ?_)
      refine X.last' 45 (zi139 44) rfl rfl (by decide) rfl (by omega) (fun hrm509 m509 hm509 => ?_)
      have hJ510 := w26_0 hJ hm509 (by omega) hrm509 hf5 hgg0
      refine X.aload_n 46 (zi139 45) rfl rfl rfl ?_
      refine X.getR 49 (zi139 46) rfl rfl (by decide) rfl rfl ?_
      refine X.iload 51 (zi139 49) rfl rfl rfl ?_
      refine X.aload_n 52 (zi139 51) rfl rfl rfl ?_
      refine X.getR 55 (zi139 52) rfl rfl (by decide) rfl rfl ?_
      refine X.iload 57 (zi139 55) rfl rfl rfl ?_
      refine X.lald 58 (zi139 57) rfl rfl (by decide) rfl (by omega) ?_
      refine X.last' 59 (zi139 58) rfl rfl (by decide) rfl (by omega) (fun hrm511 m511 hm511 => ?_)
      have hJ512 := w25_0 hJ510 hm511 (by omega) hrm511 hf5 hgg0
      refine X.iinc 62 [(0, zr g0 23), (1, zi y1), (2, zr g2 30), (3, zi y3), (4, zi (y4 + 1))] (zi139 59) rfl rfl rfl (by omega) rfl ?_
      refine X.goto 14 (zi139 62) rfl rfl ?_
      exact ih (y4 + 1) m511 (B) (hJ512.up (by omega)) (by omega) (by omega) (by omega) (Eq.trans hR (Eq.trans (if_neg h507) (Eq.trans (zn_eq ez508) (Eq.trans (zs_eq hm509) (Eq.trans (zs_eq hm511) rfl)))))
-- WorkMeter$Registers.keepBill
noncomputable def f139_1 (g0 g2 : Nat) (a1 : Int) (m : zM) : zM :=
  fl139_14_1 (fun m502 =>
  zs (z_cpy m502 g0 26 g2 31 0 ((((m g0 23 3) % 6) * 33) + 28) 4) fun m506 =>
  zs (z_upd m506 g0 26 ((((m g0 23 3) % 6) * 33) + 32) a1) fun m508 =>
  zs (z_upd m508 g0 23 3 ((m508 g0 23 3) + 1)) fun m511 =>
  m511) g0 g2 a1 (((m g0 23 3) % 6) * 33) (zfu 29) 0 m
-- WorkMeter$Registers.keepBill
theorem c139_1 {s : Nat × (Nat → Int32)} {S : zS} {m0 m : zM} {B : Int} {d : Nat} {Q : Option zV → zM → Prop} (g0 g2 : Nat) (a1 : Int) (hd : 13 ≤ d) (hJ : J S m0 B m) (hB : B + 1 ≤ 1000000000) (ha1 : 0 ≤ a1 ∧ a1 ≤ 2000000000) (hf5 : ¬ S.1 5) (hgg0 : ¬ S.2.1 g0) (hQ : ∀ m', f139_1 g0 g2 a1 m = m' → J S m0 (B + 1) m' → Q none m') : X (EE s) d 139 0 [(0, zr g0 23), (1, zi a1), (2, zr g2 30)] [] m Q := by
  refine X.aload_n 1 (zi139 0) rfl rfl rfl ?_
  refine X.getI 4 3 (zi139 1) rfl rfl (by decide) rfl rfl rfl ?_
  have h501 := r23_3 hJ g0
  refine X.bipush 6 (zi139 4) rfl rfl (by decide) ?_
  refine X.irem 7 (zi139 6) rfl rfl (by omega) ?_
  refine X.bipush 9 (zi139 7) rfl rfl (by decide) ?_
  refine X.imul 10 (zi139 9) rfl rfl (by omega) ?_
  refine X.istore_n 11 [(0, zr g0 23), (1, zi a1), (2, zr g2 30), (3, zi (((m g0 23 3) % 6) * 33))] (zi139 10) rfl rfl rfl ?_
  refine X.iconst 12 (zi139 11) rfl rfl (by decide) ?_
  refine X.istore 14 [(0, zr g0 23), (1, zi a1), (2, zr g2 30), (3, zi (((m g0 23 3) % 6) * 33)), (4, zi 0)] (zi139 12) rfl rfl rfl ?_
  have hz29 := zfu_eq 29
  refine l139_14_1 (s := s) (d := d) (R0 := (f139_1 g0 g2 a1 m)) g0 g2 a1 (((m g0 23 3) % 6) * 33)  (BE := B + 0) (by omega) (by omega) (by omega) (by omega) hf5 hgg0 (fun  m502 B503 hJ504 hBB503 hR505 => ?_) (zfu 29) 0 m (B) (hJ.up (by omega)) (by omega) (by omega) (by omega) rfl
  refine X.aload_n 66 (zi139 65) rfl rfl rfl ?_
  refine X.getR 69 (zi139 66) rfl rfl (by decide) rfl rfl ?_
  refine X.iconst 70 (zi139 69) rfl rfl (by decide) ?_
  refine X.aload_n 71 (zi139 70) rfl rfl rfl ?_
  refine X.getR 74 (zi139 71) rfl rfl (by decide) rfl rfl ?_
  refine X.iload_n 75 (zi139 74) rfl rfl rfl ?_
  refine X.bipush 77 (zi139 75) rfl rfl (by decide) ?_
  refine X.iadd 78 (zi139 77) rfl rfl (by omega) ?_
  refine X.iconst 79 (zi139 78) rfl rfl (by decide) ?_
  refine X.cpL' 82 (zi139 79) rfl rfl (by omega) (Nat.le_of_ble_eq_true rfl) (by decide) (by decide) rfl rfl (by omega) (fun m506 hm506 => ?_)
  have hJ507 := J.cpyF hJ504 hm506 rfl rfl (fun i hi => jw_ja (n := 198) rfl (by omega)) hf5 hgg0
  refine X.aload_n 83 (zi139 82) rfl rfl rfl ?_
  refine X.getR 86 (zi139 83) rfl rfl (by decide) rfl rfl ?_
  refine X.iload_n 87 (zi139 86) rfl rfl rfl ?_
  refine X.bipush 89 (zi139 87) rfl rfl (by decide) ?_
  refine X.iadd 90 (zi139 89) rfl rfl (by omega) ?_
  refine X.iload_n 91 (zi139 90) rfl rfl rfl ?_
  refine X.i2l 92 (zi139 91) rfl rfl ?_
  refine X.last' 93 (zi139 92) rfl rfl (by decide) rfl (by omega) (fun hrm508 m508 hm508 => ?_)
  have hJ509 := w26_0 hJ507 hm508 (by omega) hrm508 hf5 hgg0
  refine X.aload_n 94 (zi139 93) rfl rfl rfl ?_
  refine X.dup 95 (zi139 94) rfl rfl rfl ?_
  refine X.getI 98 3 (zi139 95) rfl rfl (by decide) rfl rfl rfl ?_
  have h510 := r23_3 hJ509 g0
  refine X.iconst 99 (zi139 98) rfl rfl (by decide) ?_
  refine X.iadd 100 (zi139 99) rfl rfl (by omega) ?_
  refine X.putI' 103 3 (zi139 100) rfl rfl (by decide) rfl rfl rfl (fun hrm511 m511 hm511 => ?_)
  have hJ512 := w23_3 (hJ509.up (B' := B503 + 1) (by omega)) hm511 (by omega) hf5 hgg0
  refine X.retv (zi139 103) rfl t139 ?_
  exact hQ  m511  (Eq.trans hR505 (Eq.trans (zs_eq hm506) (Eq.trans (zs_eq hm508) (Eq.trans (zs_eq hm511) rfl)))) (hJ512.up (by omega)) 
noncomputable def fl11_6_2_b (self : Int → zM → zM) (k22 : zM → zM) (g0 : Nat) (y1 y4 : Int) (y3 : Int) (m : zM) : zM :=
  if y4 ≤ y3 then
  (k22 m)
  else
  (zs (z_upd m g0 31 y3 y1) fun m505 =>
  self (y3 + 1) m505)
noncomputable def fl11_6_2 (k22 : zM → zM) (g0 : Nat) (y1 y4 : Int) : Nat → Int → zM → zM
  | 0 => fun y3 m => m
  | n + 1 => fl11_6_2_b (fl11_6_2 k22 g0 y1 y4 n) k22 g0 y1 y4
theorem l11_6_2 {s : Nat × (Nat → Int32)} {S : zS} {m0 : zM} {d : Nat} {Q : Option zV → zM → Prop} {R0 : zM} {k22 : zM → zM} (g0 : Nat) (y1 y4 : Int) (BE : Int) (hE : BE ≤ 1000000000) (hd : 13 ≤ d) (hy1 : (-1) ≤ y1 ∧ y1 ≤ (-1)) (hy4 : 4 ≤ y4 ∧ y4 ≤ 4) (hf8 : ¬ S.1 8) (hgg0 : ¬ S.2.1 g0)
    (K22 : ∀ (m' : zM) (B' : Int), J S m0 B' m' → B' ≤ BE → R0 = k22 m' → X (EE s) d 11 22 [] [] m' Q) :
    ∀ (n : Nat) (y3 : Int) (m : zM) (B : Int), J S m0 B m → B + 0 * (n : Int) ≤ BE → (0 ≤ y3 ∧ y3 ≤ 4) → 4 - y3 < (n : Int) → R0 = fl11_6_2 k22 g0 y1 y4 n y3 m → X (EE s) d 11 6 [(0, zr g0 31), (1, zl y1), (3, zi y3), (4, zi y4)] [] m Q := by
  intro n
  induction n with
  | zero =>
    intro y3 m B hJ hB hy3 hn hR
    exfalso
    omega
  | succ n ih =>
    intro y3 m B hJ hB hy3 hn hR
    replace hR : R0 = fl11_6_2_b (fl11_6_2 k22 g0 y1 y4 n) k22 g0 y1 y4 y3 m := hR
    refine X.iload_n 7 (zi11 6) rfl rfl rfl ?_
    refine X.iload 9 (zi11 7) rfl rfl rfl ?_
    refine X.icmpge 22 12 (zi11 9) rfl rfl rfl (fun h504 => ?_) (fun h504 => ?_)
    · refine X.cut [] (zi11 22) rfl ?_
      exact K22  m (B) (hJ.up (by omega)) (by omega)  (Eq.trans hR (Eq.trans (if_pos h504) rfl))
    · refine X.aload_n 13 (zi11 12) rfl rfl rfl ?_
      refine X.iload_n 14 (zi11 13) rfl rfl rfl ?_
      refine X.lload_n 15 (zi11 14) rfl rfl rfl ?_
      refine X.last' 16 (zi11 15) rfl rfl (by decide) rfl (by omega) (fun hrm505 m505 hm505 => ?_)
      have hJ506 := w31_0 hJ hm505 (by omega) hrm505 hf8 hgg0
      refine X.iinc 19 [(0, zr g0 31), (1, zl y1), (3, zi (y3 + 1)), (4, zi y4)] (zi11 16) rfl rfl rfl (by omega) rfl ?_
      refine X.goto 6 (zi11 19) rfl rfl ?_
      exact ih (y3 + 1) m505 (B) (hJ506.up (by omega)) (by omega) (by omega) (by omega) (Eq.trans hR (Eq.trans (if_neg h504) (Eq.trans (zs_eq hm505) rfl)))
-- java/util/Arrays.fill
noncomputable def f11_2 (g0 : Nat) (a1 : Int) (m : zM) : zM :=
  fl11_6_2 (fun m501 =>
  m501) g0 a1 4 (zfu 5) 0 m
-- java/util/Arrays.fill
theorem c11_2 {s : Nat × (Nat → Int32)} {S : zS} {m0 m : zM} {B : Int} {d : Nat} {Q : Option zV → zM → Prop} (g0 : Nat) (a1 : Int) (hd : 13 ≤ d) (hJ : J S m0 B m) (hB : B + 0 ≤ 1000000000) (ha1 : (-1) ≤ a1 ∧ a1 ≤ (-1)) (hf8 : ¬ S.1 8) (hgg0 : ¬ S.2.1 g0) (hQ : ∀ m', f11_2 g0 a1 m = m' → J S m0 (B) m' → Q none m') : X (EE s) d 11 0 [(0, zr g0 31), (1, zl a1)] [] m Q := by
  refine X.iconst 1 (zi11 0) rfl rfl (by decide) ?_
  refine X.istore_n 2 [(0, zr g0 31), (1, zl a1), (3, zi 0)] (zi11 1) rfl rfl rfl ?_
  refine X.aload_n 3 (zi11 2) rfl rfl rfl ?_
  refine X.alen 4 (zi11 3) rfl rfl (by decide) rfl ?_
  show X (EE s) d 11 4 [(0, zr g0 31), (1, zl a1), (3, zi 0)] [zi 4] m _
  refine X.istore 6 [(0, zr g0 31), (1, zl a1), (3, zi 0), (4, zi 4)] (zi11 4) rfl rfl rfl ?_
  have hz5 := zfu_eq 5
  refine l11_6_2 (s := s) (d := d) (R0 := (f11_2 g0 a1 m)) g0 a1 4  (BE := B + 0) (by omega) (by omega) (by omega) (by omega) hf8 hgg0 (fun  m501 B502 hJ503 hBB502 hR504 => ?_) (zfu 5) 0 m (B) (hJ.up (by omega)) (by omega) (by omega) (by omega) rfl
  refine X.retv (zi11 22) rfl t11 ?_
  exact hQ  m501  (Eq.trans hR504 rfl) (hJ503.up (by omega)) 
noncomputable def fl5_5_4_b (self : Int → zM → zM) (k20 : zM → zM) (g0 : Nat) (y1 y3 : Int) (y2 : Int) (m : zM) : zM :=
  if y3 ≤ y2 then
  (k20 m)
  else
  (zs (z_upd m g0 32 y2 y1) fun m505 =>
  self (y2 + 1) m505)
noncomputable def fl5_5_4 (k20 : zM → zM) (g0 : Nat) (y1 y3 : Int) : Nat → Int → zM → zM
  | 0 => fun y2 m => m
  | n + 1 => fl5_5_4_b (fl5_5_4 k20 g0 y1 y3 n) k20 g0 y1 y3
theorem l5_5_4 {s : Nat × (Nat → Int32)} {S : zS} {m0 : zM} {d : Nat} {Q : Option zV → zM → Prop} {R0 : zM} {k20 : zM → zM} (g0 : Nat) (y1 y3 : Int) (BE : Int) (hE : BE ≤ 1000000000) (hd : 13 ≤ d) (hy1 : (-1) ≤ y1 ∧ y1 ≤ (-1)) (hy3 : 4 ≤ y3 ∧ y3 ≤ 4) (hf8 : ¬ S.1 8) (hgg0 : ¬ S.2.1 g0)
    (K20 : ∀ (m' : zM) (B' : Int), J S m0 B' m' → B' ≤ BE → R0 = k20 m' → X (EE s) d 5 20 [] [] m' Q) :
    ∀ (n : Nat) (y2 : Int) (m : zM) (B : Int), J S m0 B m → B + 0 * (n : Int) ≤ BE → (0 ≤ y2 ∧ y2 ≤ 4) → 4 - y2 < (n : Int) → R0 = fl5_5_4 k20 g0 y1 y3 n y2 m → X (EE s) d 5 5 [(0, zr g0 32), (1, zi y1), (2, zi y2), (3, zi y3)] [] m Q := by
  intro n
  induction n with
  | zero =>
    intro y2 m B hJ hB hy2 hn hR
    exfalso
    omega
  | succ n ih =>
    intro y2 m B hJ hB hy2 hn hR
    replace hR : R0 = fl5_5_4_b (fl5_5_4 k20 g0 y1 y3 n) k20 g0 y1 y3 y2 m := hR
    refine X.iload_n 6 (zi5 5) rfl rfl rfl ?_
    refine X.iload_n 7 (zi5 6) rfl rfl rfl ?_
    refine X.icmpge 20 10 (zi5 7) rfl rfl rfl (fun h504 => ?_) (fun h504 => ?_)
    · refine X.cut [] (zi5 20) rfl ?_
      exact K20  m (B) (hJ.up (by omega)) (by omega)  (Eq.trans hR (Eq.trans (if_pos h504) rfl))
    · refine X.aload_n 11 (zi5 10) rfl rfl rfl ?_
      refine X.iload_n 12 (zi5 11) rfl rfl rfl ?_
      refine X.iload_n 13 (zi5 12) rfl rfl rfl ?_
      refine X.iast' 14 (zi5 13) rfl rfl (by decide) rfl (by omega) (fun hrm505 m505 hm505 => ?_)
      have hJ506 := w32_0 hJ hm505 (by omega) hrm505 hf8 hgg0
      refine X.iinc 17 [(0, zr g0 32), (1, zi y1), (2, zi (y2 + 1)), (3, zi y3)] (zi5 14) rfl rfl rfl (by omega) rfl ?_
      refine X.goto 5 (zi5 17) rfl rfl ?_
      exact ih (y2 + 1) m505 (B) (hJ506.up (by omega)) (by omega) (by omega) (by omega) (Eq.trans hR (Eq.trans (if_neg h504) (Eq.trans (zs_eq hm505) rfl)))
-- java/util/Arrays.fill
noncomputable def f5_4 (g0 : Nat) (a1 : Int) (m : zM) : zM :=
  fl5_5_4 (fun m501 =>
  m501) g0 a1 4 (zfu 5) 0 m
-- java/util/Arrays.fill
theorem c5_4 {s : Nat × (Nat → Int32)} {S : zS} {m0 m : zM} {B : Int} {d : Nat} {Q : Option zV → zM → Prop} (g0 : Nat) (a1 : Int) (hd : 13 ≤ d) (hJ : J S m0 B m) (hB : B + 0 ≤ 1000000000) (ha1 : (-1) ≤ a1 ∧ a1 ≤ (-1)) (hf8 : ¬ S.1 8) (hgg0 : ¬ S.2.1 g0) (hQ : ∀ m', f5_4 g0 a1 m = m' → J S m0 (B) m' → Q none m') : X (EE s) d 5 0 [(0, zr g0 32), (1, zi a1)] [] m Q := by
  refine X.iconst 1 (zi5 0) rfl rfl (by decide) ?_
  refine X.istore_n 2 [(0, zr g0 32), (1, zi a1), (2, zi 0)] (zi5 1) rfl rfl rfl ?_
  refine X.aload_n 3 (zi5 2) rfl rfl rfl ?_
  refine X.alen 4 (zi5 3) rfl rfl (by decide) rfl ?_
  show X (EE s) d 5 4 [(0, zr g0 32), (1, zi a1), (2, zi 0)] [zi 4] m _
  refine X.istore_n 5 [(0, zr g0 32), (1, zi a1), (2, zi 0), (3, zi 4)] (zi5 4) rfl rfl rfl ?_
  have hz5 := zfu_eq 5
  refine l5_5_4 (s := s) (d := d) (R0 := (f5_4 g0 a1 m)) g0 a1 4  (BE := B + 0) (by omega) (by omega) (by omega) (by omega) hf8 hgg0 (fun  m501 B502 hJ503 hBB502 hR504 => ?_) (zfu 5) 0 m (B) (hJ.up (by omega)) (by omega) (by omega) (by omega) rfl
  refine X.retv (zi5 20) rfl t5 ?_
  exact hQ  m501  (Eq.trans hR504 rfl) (hJ503.up (by omega)) 
-- WorkMeter$Demand.clearMost
noncomputable def f10_1 (g0 : Nat) (m : zM) : zM :=
  zs (f11_2 g0 (-1) m) fun m501 =>
  zs (f5_4 g0 (-1) m501) fun m504 =>
  m504
-- WorkMeter$Demand.clearMost
theorem c10_1 {s : Nat × (Nat → Int32)} {S : zS} {m0 m : zM} {B : Int} {d : Nat} {Q : Option zV → zM → Prop} (g0 : Nat) (hd : 14 ≤ d) (hJ : J S m0 B m) (hB : B + 0 ≤ 1000000000) (hf8 : ¬ S.1 8) (hgg0 : ¬ S.2.1 g0) (hQ : ∀ m', f10_1 g0 m = m' → J S m0 (B) m' → Q none m') : X (EE s) d 10 0 [(0, zr g0 30)] [] m Q := by
  refine X.aload_n 1 (zi10 0) rfl rfl rfl ?_
  refine X.getR 4 (zi10 1) rfl rfl (by decide) rfl rfl ?_
  refine X.ldc2 7 (zi10 4) rfl rfl (by decide) ?_
  refine X.calls 10 [zr g0 31, zl (-1)] [] [(0, zr g0 31), (1, zl (-1))] (zi10 7) (by decide) rfl rfl (by omega) rfl rfl t11 (Nat.le_of_ble_eq_true rfl) (Nat.le_of_ble_eq_true rfl) rfl ?_
  refine c11_2 (B := B) g0 (-1) (by omega) (hJ.up (by omega)) (by omega) (by omega) hf8 hgg0 (fun m501 hFv503 hJ502 => ?_)
  show X (EE s) d 10 10 [(0, zr g0 30)] [] m501 _
  refine X.aload_n 11 (zi10 10) rfl rfl rfl ?_
  refine X.getR 14 (zi10 11) rfl rfl (by decide) rfl rfl ?_
  refine X.iconst 15 (zi10 14) rfl rfl (by decide) ?_
  refine X.calls 18 [zr g0 32, zi (-1)] [] [(0, zr g0 32), (1, zi (-1))] (zi10 15) (by decide) rfl rfl (by omega) rfl rfl t5 (Nat.le_of_ble_eq_true rfl) (Nat.le_of_ble_eq_true rfl) rfl ?_
  refine c5_4 (B := B) g0 (-1) (by omega) (hJ502.up (by omega)) (by omega) (by omega) hf8 hgg0 (fun m504 hFv506 hJ505 => ?_)
  show X (EE s) d 10 18 [(0, zr g0 30)] [] m504 _
  refine X.retv (zi10 18) rfl t10 ?_
  exact hQ  m504  (Eq.trans (zs_eq hFv503.symm) (Eq.trans (zs_eq hFv506.symm) rfl)) (hJ505.up (by omega)) 
-- WorkMeter$Meter.note
theorem c54_8 {s : Nat × (Nat → Int32)} {S : zS} {m0 m : zM} {B : Int} {d : Nat} {Q : Option zV → zM → Prop} (g0 : Nat) (a1 a2 : Int) (hd : 14 ≤ d) (hJ : J S m0 B m) (hB : B + 1 ≤ 1000000000) (ha1 : 24 ≤ a1 ∧ a1 ≤ 24) (ha2 : 0 ≤ a2 ∧ a2 ≤ 0) (hf6 : ¬ S.1 6) (hgg0 : ¬ S.2.1 g0) (hQ : ∀ m', f54_1 g0 a1 a2 m = m' → J S m0 (B + 1) m' → Q none m') : X (EE s) d 54 0 [(0, zr g0 8), (1, zi a1), (2, zi a2)] [] m Q := by
  refine X.aload_n 1 (zi54 0) rfl rfl rfl ?_
  refine X.getR 4 (zi54 1) rfl rfl (by decide) rfl rfl ?_
  refine X.aload_n 5 (zi54 4) rfl rfl rfl ?_
  refine X.getI 8 9 (zi54 5) rfl rfl (by decide) rfl rfl rfl ?_
  have h501 := r8_9 hJ g0
  refine X.iload_n 9 (zi54 8) rfl rfl rfl ?_
  refine X.iload_n 10 (zi54 9) rfl rfl rfl ?_
  refine X.callv 13 [zi (m g0 8 9), zi a1, zi a2] [] [(0, zr g0 37), (1, zi (m g0 8 9)), (2, zi a1), (3, zi a2)] (zi54 10) rfl (by decide) rfl rfl (by omega) rfl rfl (by decide) rfl t55 (Nat.le_of_ble_eq_true rfl) (Nat.le_of_ble_eq_true rfl) rfl ?_
  refine c55_1 (B := B) g0 (m g0 8 9) a1 a2 (by omega) (hJ.up (by omega)) (by omega) (by omega) (by omega) (by omega) hf6 hgg0 (fun m502 hFv504 hJ503 => ?_)
  show X (EE s) d 54 13 [(0, zr g0 8), (1, zi a1), (2, zi a2)] [] m502 _
  refine X.retv (zi54 13) rfl t54 ?_
  exact hQ  m502  (Eq.trans (zs_eq hFv504.symm) rfl) (hJ503.up (by omega)) 
-- WorkMeter$Meter.makeBill
noncomputable def f138_1 (g0 : Nat) (m : zM) : zM :=
  zs (f139_1 g0 g0 (m g0 8 9) m) fun m502 =>
  zs (f10_1 g0 m502) fun m505 =>
  zs (f54_1 g0 24 0 m505) fun m508 =>
  m508
-- WorkMeter$Meter.makeBill
theorem c138_1 {s : Nat × (Nat → Int32)} {S : zS} {m0 m : zM} {B : Int} {d : Nat} {Q : Option zV → zM → Prop} (g0 : Nat) (hd : 15 ≤ d) (hJ : J S m0 B m) (hB : B + 2 ≤ 1000000000) (hf5 : ¬ S.1 5) (hf6 : ¬ S.1 6) (hf8 : ¬ S.1 8) (hgg0 : ¬ S.2.1 g0) (hQ : ∀ m', f138_1 g0 m = m' → J S m0 (B + 2) m' → Q none m') : X (EE s) d 138 0 [(0, zr g0 8)] [] m Q := by
  refine X.aload_n 1 (zi138 0) rfl rfl rfl ?_
  refine X.getR 4 (zi138 1) rfl rfl (by decide) rfl rfl ?_
  refine X.aload_n 5 (zi138 4) rfl rfl rfl ?_
  refine X.getI 8 9 (zi138 5) rfl rfl (by decide) rfl rfl rfl ?_
  have h501 := r8_9 hJ g0
  refine X.aload_n 9 (zi138 8) rfl rfl rfl ?_
  refine X.getR 12 (zi138 9) rfl rfl (by decide) rfl rfl ?_
  refine X.callv 15 [zi (m g0 8 9), zr g0 30] [] [(0, zr g0 23), (1, zi (m g0 8 9)), (2, zr g0 30)] (zi138 12) rfl (by decide) rfl rfl (by omega) rfl rfl (by decide) rfl t139 (Nat.le_of_ble_eq_true rfl) (Nat.le_of_ble_eq_true rfl) rfl ?_
  refine c139_1 (B := B) g0 g0 (m g0 8 9) (by omega) (hJ.up (by omega)) (by omega) (by omega) hf5 hgg0 (fun m502 hFv504 hJ503 => ?_)
  show X (EE s) d 138 15 [(0, zr g0 8)] [] m502 _
  refine X.aload_n 16 (zi138 15) rfl rfl rfl ?_
  refine X.getR 19 (zi138 16) rfl rfl (by decide) rfl rfl ?_
  refine X.callv 22 [] [] [(0, zr g0 30)] (zi138 19) rfl (by decide) rfl rfl (by omega) rfl rfl (by decide) rfl t10 (Nat.le_of_ble_eq_true rfl) (Nat.le_of_ble_eq_true rfl) rfl ?_
  refine c10_1 (B := B + 1) g0  (by omega) (hJ503.up (by omega)) (by omega)  hf8 hgg0 (fun m505 hFv507 hJ506 => ?_)
  show X (EE s) d 138 22 [(0, zr g0 8)] [] m505 _
  refine X.aload_n 23 (zi138 22) rfl rfl rfl ?_
  refine X.bipush 25 (zi138 23) rfl rfl (by decide) ?_
  refine X.iconst 26 (zi138 25) rfl rfl (by decide) ?_
  refine X.callv 29 [zi 24, zi 0] [] [(0, zr g0 8), (1, zi 24), (2, zi 0)] (zi138 26) rfl (by decide) rfl rfl (by omega) rfl rfl (by decide) rfl t54 (Nat.le_of_ble_eq_true rfl) (Nat.le_of_ble_eq_true rfl) rfl ?_
  refine c54_8 (B := B + 1) g0 24 0 (by omega) (hJ506.up (by omega)) (by omega) (by omega) (by omega) hf6 hgg0 (fun m508 hFv510 hJ509 => ?_)
  show X (EE s) d 138 29 [(0, zr g0 8)] [] m508 _
  refine X.retv (zi138 29) rfl t138 ?_
  exact hQ  m508  (Eq.trans (zs_eq hFv504.symm) (Eq.trans (zs_eq hFv507.symm) (Eq.trans (zs_eq hFv510.symm) rfl))) (hJ509.up (by omega)) 
-- WorkMeter.bill
noncomputable def f137_1 (m : zM) : Int × zM :=
  zs (f138_1 0 m) fun m501 =>
  ((m501 0 23 3), m501)
-- WorkMeter.bill
theorem c137_1 {s : Nat × (Nat → Int32)} {S : zS} {m0 m : zM} {B : Int} {d : Nat} {Q : Option zV → zM → Prop} (hd : 16 ≤ d) (hJ : J S m0 B m) (hB : B + 2 ≤ 1000000000) (hf5 : ¬ S.1 5) (hf6 : ¬ S.1 6) (hf8 : ¬ S.1 8) (hg0 : ¬ S.2.1 0) (hQ : ∀ (v : Int) m', (0 ≤ v ∧ v ≤ 1000000000) → f137_1 m = (v, m') → J S m0 (B + 2) m' → Q (some (zi v)) m') : X (EE s) d 137 0 [(0, zr 4 40)] [] m Q := by
  refine X.aload_n 1 (zi137 0) rfl rfl rfl ?_
  refine X.getF 4 (zi137 1) rfl rfl (by decide) rfl rfl ?_
  refine X.callv 7 [] [] [(0, zr 0 8)] (zi137 4) rfl (by decide) rfl rfl (by omega) rfl rfl (by decide) rfl t138 (Nat.le_of_ble_eq_true rfl) (Nat.le_of_ble_eq_true rfl) rfl ?_
  refine c138_1 (B := B) 0  (by omega) (hJ.up (by omega)) (by omega)  hf5 hf6 hf8 hg0 (fun m501 hFv503 hJ502 => ?_)
  show X (EE s) d 137 7 [(0, zr 4 40)] [] m501 _
  refine X.aload_n 8 (zi137 7) rfl rfl rfl ?_
  refine X.getF 11 (zi137 8) rfl rfl (by decide) rfl rfl ?_
  refine X.getR 14 (zi137 11) rfl rfl (by decide) rfl rfl ?_
  refine X.getI 17 3 (zi137 14) rfl rfl (by decide) rfl rfl rfl ?_
  have h504 := r23_3 hJ502 0
  refine X.reti (zi137 17) rfl t137 ?_
  exact hQ (m501 0 23 3) m501 (by first | trivial | omega) (Eq.trans (zs_eq hFv503.symm) rfl) (hJ502.up (by omega)) 
noncomputable def fl286_104_1_b (self : Int → zM → Int × zM) (k135 : zM → Int × zM) (y1 : Int) (y2 : Int) (m : zM) : Int × zM :=
  if 35 ≤ y2 then
  (k135 m)
  else
  (zs (z_upd m 4 45 ((y1 + 1) + y2) (m 4 45 (60 + y2))) fun m505 =>
  self (y2 + 1) m505)
noncomputable def fl286_104_1 (k135 : zM → Int × zM) (y1 : Int) : Nat → Int → zM → Int × zM
  | 0 => fun y2 m => (0, m)
  | n + 1 => fl286_104_1_b (fl286_104_1 k135 y1 n) k135 y1
theorem l286_104_1 {s : Nat × (Nat → Int32)} {S : zS} {m0 : zM} {d : Nat} {Q : Option zV → zM → Prop} {R0 : Int × zM} {k135 : zM → Int × zM} (y1 : Int) (BE : Int) (hE : BE ≤ 1000000000) (hd : 13 ≤ d) (hy1 : 1172 ≤ y1 ∧ y1 ≤ 1442) (hf25 : ¬ S.1 25) (hg4 : ¬ S.2.1 4)
    (K135 : ∀ (m' : zM) (B' : Int), J S m0 B' m' → B' ≤ BE → R0 = k135 m' → X (EE s) d 286 135 [(0, zr 4 44), (1, zi y1)] [] m' Q) :
    ∀ (n : Nat) (y2 : Int) (m : zM) (B : Int), J S m0 B m → B + 0 * (n : Int) ≤ BE → (0 ≤ y2 ∧ y2 ≤ 35) → 35 - y2 < (n : Int) → R0 = fl286_104_1 k135 y1 n y2 m → X (EE s) d 286 104 [(0, zr 4 44), (1, zi y1), (2, zi y2)] [] m Q := by
  intro n
  induction n with
  | zero =>
    intro y2 m B hJ hB hy2 hn hR
    exfalso
    omega
  | succ n ih =>
    intro y2 m B hJ hB hy2 hn hR
    replace hR : R0 = fl286_104_1_b (fl286_104_1 k135 y1 n) k135 y1 y2 m := hR
    refine X.iload_n 105 (zi286 104) rfl rfl rfl ?_
    refine X.bipush 107 (zi286 105) rfl rfl (by decide) ?_
    refine X.icmpge 135 110 (zi286 107) rfl rfl rfl (fun h504 => ?_) (fun h504 => ?_)
    · refine X.cut [(0, zr 4 44), (1, zi y1)] (zi286 135) rfl ?_
      exact K135  m (B) (hJ.up (by omega)) (by omega)  (Eq.trans hR (Eq.trans (if_pos h504) rfl))
    · refine X.aload_n 111 (zi286 110) rfl rfl rfl ?_
      refine X.getF 114 (zi286 111) rfl rfl (by decide) rfl rfl ?_
      refine X.iload_n 115 (zi286 114) rfl rfl rfl ?_
      refine X.iconst 116 (zi286 115) rfl rfl (by decide) ?_
      refine X.iadd 117 (zi286 116) rfl rfl (by omega) ?_
      refine X.iload_n 118 (zi286 117) rfl rfl rfl ?_
      refine X.iadd 119 (zi286 118) rfl rfl (by omega) ?_
      refine X.aload_n 120 (zi286 119) rfl rfl rfl ?_
      refine X.getF 123 (zi286 120) rfl rfl (by decide) rfl rfl ?_
      refine X.bipush 125 (zi286 123) rfl rfl (by decide) ?_
      refine X.iload_n 126 (zi286 125) rfl rfl rfl ?_
      refine X.iadd 127 (zi286 126) rfl rfl (by omega) ?_
      refine X.lald 128 (zi286 127) rfl rfl (by decide) rfl (by omega) ?_
      refine X.last' 129 (zi286 128) rfl rfl (by decide) rfl (by omega) (fun hrm505 m505 hm505 => ?_)
      have hJ506 := w45_1172 hJ hm505 (by omega) hrm505 hf25 hg4
      refine X.iinc 132 [(0, zr 4 44), (1, zi y1), (2, zi (y2 + 1))] (zi286 129) rfl rfl rfl (by omega) rfl ?_
      refine X.goto 104 (zi286 132) rfl rfl ?_
      exact ih (y2 + 1) m505 (B) (hJ506.up (by omega)) (by omega) (by omega) (by omega) (Eq.trans hR (Eq.trans (if_neg h504) (Eq.trans (zs_eq hm505) rfl)))
noncomputable def fl286_137_1_b (self : Int → zM → Int × zM) (k192 : zM → Int × zM) (y1 : Int) (y2 : Int) (m : zM) : Int × zM :=
  if 4 ≤ y2 then
  (k192 m)
  else
  (zs (z_upd m 4 45 ((y1 + 36) + y2) (m 4 45 (32 + y2))) fun m509 =>
  zs (z_upd m509 4 45 (32 + y2) (-1)) fun m511 =>
  zs (z_upd m511 4 45 (36 + y2) (-1)) fun m513 =>
  self (y2 + 1) m513)
noncomputable def fl286_137_1 (k192 : zM → Int × zM) (y1 : Int) : Nat → Int → zM → Int × zM
  | 0 => fun y2 m => (0, m)
  | n + 1 => fl286_137_1_b (fl286_137_1 k192 y1 n) k192 y1
theorem l286_137_1 {s : Nat × (Nat → Int32)} {S : zS} {m0 : zM} {d : Nat} {Q : Option zV → zM → Prop} {R0 : Int × zM} {k192 : zM → Int × zM} (y1 : Int) (BE : Int) (hE : BE ≤ 1000000000) (hd : 13 ≤ d) (hy1 : 1172 ≤ y1 ∧ y1 ≤ 1442) (hf25 : ¬ S.1 25) (hf28 : ¬ S.1 28) (hg4 : ¬ S.2.1 4)
    (K192 : ∀ (m' : zM) (B' : Int), J S m0 B' m' → B' ≤ BE → R0 = k192 m' → X (EE s) d 286 192 [(0, zr 4 44)] [] m' Q) :
    ∀ (n : Nat) (y2 : Int) (m : zM) (B : Int), J S m0 B m → B + 0 * (n : Int) ≤ BE → (0 ≤ y2 ∧ y2 ≤ 4) → 4 - y2 < (n : Int) → R0 = fl286_137_1 k192 y1 n y2 m → X (EE s) d 286 137 [(0, zr 4 44), (1, zi y1), (2, zi y2)] [] m Q := by
  intro n
  induction n with
  | zero =>
    intro y2 m B hJ hB hy2 hn hR
    exfalso
    omega
  | succ n ih =>
    intro y2 m B hJ hB hy2 hn hR
    replace hR : R0 = fl286_137_1_b (fl286_137_1 k192 y1 n) k192 y1 y2 m := hR
    refine X.iload_n 138 (zi286 137) rfl rfl rfl ?_
    refine X.iconst 139 (zi286 138) rfl rfl (by decide) ?_
    refine X.icmpge 192 142 (zi286 139) rfl rfl rfl (fun h508 => ?_) (fun h508 => ?_)
    · refine X.cut [(0, zr 4 44)] (zi286 192) rfl ?_
      exact K192  m (B) (hJ.up (by omega)) (by omega)  (Eq.trans hR (Eq.trans (if_pos h508) rfl))
    · refine X.aload_n 143 (zi286 142) rfl rfl rfl ?_
      refine X.getF 146 (zi286 143) rfl rfl (by decide) rfl rfl ?_
      refine X.iload_n 147 (zi286 146) rfl rfl rfl ?_
      refine X.bipush 149 (zi286 147) rfl rfl (by decide) ?_
      refine X.iadd 150 (zi286 149) rfl rfl (by omega) ?_
      refine X.iload_n 151 (zi286 150) rfl rfl rfl ?_
      refine X.iadd 152 (zi286 151) rfl rfl (by omega) ?_
      refine X.aload_n 153 (zi286 152) rfl rfl rfl ?_
      refine X.getF 156 (zi286 153) rfl rfl (by decide) rfl rfl ?_
      refine X.bipush 158 (zi286 156) rfl rfl (by decide) ?_
      refine X.iload_n 159 (zi286 158) rfl rfl rfl ?_
      refine X.iadd 160 (zi286 159) rfl rfl (by omega) ?_
      refine X.lald 161 (zi286 160) rfl rfl (by decide) rfl (by omega) ?_
      refine X.last' 162 (zi286 161) rfl rfl (by decide) rfl (by omega) (fun hrm509 m509 hm509 => ?_)
      have hJ510 := w45_1172 hJ hm509 (by omega) hrm509 hf25 hg4
      refine X.aload_n 163 (zi286 162) rfl rfl rfl ?_
      refine X.getF 166 (zi286 163) rfl rfl (by decide) rfl rfl ?_
      refine X.bipush 168 (zi286 166) rfl rfl (by decide) ?_
      refine X.iload_n 169 (zi286 168) rfl rfl rfl ?_
      refine X.iadd 170 (zi286 169) rfl rfl (by omega) ?_
      refine X.ldc2 173 (zi286 170) rfl rfl (by decide) ?_
      refine X.last' 174 (zi286 173) rfl rfl (by decide) rfl (by omega) (fun hrm511 m511 hm511 => ?_)
      have hJ512 := w45_32 hJ510 hm511 (by omega) hrm511 hf28 hg4
      refine X.aload_n 175 (zi286 174) rfl rfl rfl ?_
      refine X.getF 178 (zi286 175) rfl rfl (by decide) rfl rfl ?_
      refine X.bipush 180 (zi286 178) rfl rfl (by decide) ?_
      refine X.iload_n 181 (zi286 180) rfl rfl rfl ?_
      refine X.iadd 182 (zi286 181) rfl rfl (by omega) ?_
      refine X.ldc2 185 (zi286 182) rfl rfl (by decide) ?_
      refine X.last' 186 (zi286 185) rfl rfl (by decide) rfl (by omega) (fun hrm513 m513 hm513 => ?_)
      have hJ514 := w45_32 hJ512 hm513 (by omega) hrm513 hf28 hg4
      refine X.iinc 189 [(0, zr 4 44), (1, zi y1), (2, zi (y2 + 1))] (zi286 186) rfl rfl rfl (by omega) rfl ?_
      refine X.goto 137 (zi286 189) rfl rfl ?_
      exact ih (y2 + 1) m513 (B) (hJ514.up (by omega)) (by omega) (by omega) (by omega) (Eq.trans hR (Eq.trans (if_neg h508) (Eq.trans (zs_eq hm509) (Eq.trans (zs_eq hm511) (Eq.trans (zs_eq hm513) rfl)))))
noncomputable def fl286_17_1_b (self : Int → zM → Int × zM) (k53 : zM → Int × zM) (y1 : Int) (m : zM) : Int × zM :=
  if 315 ≤ y1 then
  (k53 m)
  else
  (zs (z_upd m 4 45 ((1172 + y1) - 45) (m 4 45 (1172 + y1))) fun m505 =>
  self (y1 + 1) m505)
noncomputable def fl286_17_1 (k53 : zM → Int × zM) : Nat → Int → zM → Int × zM
  | 0 => fun y1 m => (0, m)
  | n + 1 => fl286_17_1_b (fl286_17_1 k53 n) k53
theorem l286_17_1 {s : Nat × (Nat → Int32)} {S : zS} {m0 : zM} {d : Nat} {Q : Option zV → zM → Prop} {R0 : Int × zM} {k53 : zM → Int × zM} (BE : Int) (hE : BE ≤ 1000000000) (hd : 13 ≤ d) (hf25 : ¬ S.1 25) (hg4 : ¬ S.2.1 4)
    (K53 : ∀ (m' : zM) (B' : Int), J S m0 B' m' → B' ≤ BE → R0 = k53 m' → X (EE s) d 286 53 [(0, zr 4 44)] [] m' Q) :
    ∀ (n : Nat) (y1 : Int) (m : zM) (B : Int), J S m0 B m → B + 0 * (n : Int) ≤ BE → (45 ≤ y1 ∧ y1 ≤ 315) → 315 - y1 < (n : Int) → R0 = fl286_17_1 k53 n y1 m → X (EE s) d 286 17 [(0, zr 4 44), (1, zi y1)] [] m Q := by
  intro n
  induction n with
  | zero =>
    intro y1 m B hJ hB hy1 hn hR
    exfalso
    omega
  | succ n ih =>
    intro y1 m B hJ hB hy1 hn hR
    replace hR : R0 = fl286_17_1_b (fl286_17_1 k53 n) k53 y1 m := hR
    refine X.iload_n 18 (zi286 17) rfl rfl rfl ?_
    refine X.sipush 21 (zi286 18) rfl rfl (by decide) ?_
    refine X.icmpge 53 24 (zi286 21) rfl rfl rfl (fun h504 => ?_) (fun h504 => ?_)
    · refine X.cut [(0, zr 4 44)] (zi286 53) rfl ?_
      exact K53  m (B) (hJ.up (by omega)) (by omega)  (Eq.trans hR (Eq.trans (if_pos h504) rfl))
    · refine X.aload_n 25 (zi286 24) rfl rfl rfl ?_
      refine X.getF 28 (zi286 25) rfl rfl (by decide) rfl rfl ?_
      refine X.sipush 31 (zi286 28) rfl rfl (by decide) ?_
      refine X.iload_n 32 (zi286 31) rfl rfl rfl ?_
      refine X.iadd 33 (zi286 32) rfl rfl (by omega) ?_
      refine X.bipush 35 (zi286 33) rfl rfl (by decide) ?_
      refine X.isub 36 (zi286 35) rfl rfl (by omega) ?_
      refine X.aload_n 37 (zi286 36) rfl rfl rfl ?_
      refine X.getF 40 (zi286 37) rfl rfl (by decide) rfl rfl ?_
      refine X.sipush 43 (zi286 40) rfl rfl (by decide) ?_
      refine X.iload_n 44 (zi286 43) rfl rfl rfl ?_
      refine X.iadd 45 (zi286 44) rfl rfl (by omega) ?_
      refine X.lald 46 (zi286 45) rfl rfl (by decide) rfl (by omega) ?_
      refine X.last' 47 (zi286 46) rfl rfl (by decide) rfl (by omega) (fun hrm505 m505 hm505 => ?_)
      have hJ506 := w45_1172 hJ hm505 (by omega) hrm505 hf25 hg4
      refine X.iinc 50 [(0, zr 4 44), (1, zi (y1 + 1))] (zi286 47) rfl rfl rfl (by omega) rfl ?_
      refine X.goto 17 (zi286 50) rfl rfl ?_
      exact ih (y1 + 1) m505 (B) (hJ506.up (by omega)) (by omega) (by omega) (by omega) (Eq.trans hR (Eq.trans (if_neg h504) (Eq.trans (zs_eq hm505) rfl)))
-- WorkMeterModel.bill
noncomputable def f286_1 (m : zM) : Int × zM :=
  if (m 4 45 18) < 7 then
  (zs (z_upd m 4 45 18 ((m 4 45 18) + 1)) fun m509 =>
  zs (z_upd m509 4 45 (1172 + (45 * (m 4 45 18))) (m509 4 45 0)) fun m512 =>
  fl286_104_1 (fun m514 =>
  fl286_137_1 (fun m518 =>
  zs (f223_1 24 0 m518) fun m522 =>
  ((m522 4 45 18), m522)) (1172 + (45 * (m 4 45 18))) (zfu 5) 0 m514) (1172 + (45 * (m 4 45 18))) (zfu 36) 0 m512)
  else
  (fl286_17_1 (fun m526 =>
  if (m526 4 45 18) < 7 then
  (zs (z_upd m526 4 45 18 ((m526 4 45 18) + 1)) fun m554 =>
  zs (z_upd m554 4 45 (1172 + (45 * (m526 4 45 18))) (m554 4 45 0)) fun m557 =>
  fl286_104_1 (fun m559 =>
  fl286_137_1 (fun m563 =>
  zs (f223_1 24 0 m563) fun m567 =>
  ((m567 4 45 18), m567)) (1172 + (45 * (m526 4 45 18))) (zfu 5) 0 m559) (1172 + (45 * (m526 4 45 18))) (zfu 36) 0 m557)
  else
  (zs (z_upd m526 4 45 18 ((m526 4 45 18) + 1)) fun m534 =>
  zs (z_upd m534 4 45 (1172 + (45 * 6)) (m534 4 45 0)) fun m537 =>
  fl286_104_1 (fun m539 =>
  fl286_137_1 (fun m543 =>
  zs (f223_1 24 0 m543) fun m547 =>
  ((m547 4 45 18), m547)) (1172 + (45 * 6)) (zfu 5) 0 m539) (1172 + (45 * 6)) (zfu 36) 0 m537)) (zfu 271) 45 m)
-- WorkMeterModel.bill
theorem c286_1 {s : Nat × (Nat → Int32)} {S : zS} {m0 m : zM} {B : Int} {d : Nat} {Q : Option zV → zM → Prop} (hd : 14 ≤ d) (hJ : J S m0 B m) (hB : B + 2 ≤ 1000000000) (hf25 : ¬ S.1 25) (hf26 : ¬ S.1 26) (hf28 : ¬ S.1 28) (hg4 : ¬ S.2.1 4) (hQ : ∀ (v : Int) m', (0 ≤ v ∧ v ≤ 1000000000) → f286_1 m = (v, m') → J S m0 (B + 2) m' → Q (some (zi v)) m') : X (EE s) d 286 0 [(0, zr 4 44)] [] m Q := by
  refine X.aload_n 1 (zi286 0) rfl rfl rfl ?_
  refine X.getF 4 (zi286 1) rfl rfl (by decide) rfl rfl ?_
  refine X.bipush 6 (zi286 4) rfl rfl (by decide) ?_
  refine X.lald 7 (zi286 6) rfl rfl (by decide) rfl (by omega) ?_
  have h501 := r45_18 hJ 4
  refine X.ldc2 10 (zi286 7) rfl rfl (by decide) ?_
  refine X.lcmp 11 (zi286 10) rfl rfl (fun z502 hz502 => ?_)
  refine X.iflt 53 14 (zi286 11) rfl rfl rfl (fun h503 => ?_) (fun h503 => ?_)
  · have h503c : (m 4 45 18) < 7 := by omega
    clear h503 hz502
    refine X.sipush 56 (zi286 53) rfl rfl (by decide) ?_
    refine X.bipush 58 (zi286 56) rfl rfl (by decide) ?_
    refine X.aload_n 59 (zi286 58) rfl rfl rfl ?_
    refine X.callv 62 [] [zi 45, zi 1172] [(0, zr 4 44)] (zi286 59) rfl (by decide) rfl rfl (by omega) rfl rfl (by decide) rfl t287 (Nat.le_of_ble_eq_true rfl) (Nat.le_of_ble_eq_true rfl) rfl ?_
    refine X.aload_n 1 (zi287 0) rfl rfl rfl ?_
    refine X.getF 4 (zi287 1) rfl rfl (by decide) rfl rfl ?_
    refine X.bipush 6 (zi287 4) rfl rfl (by decide) ?_
    refine X.lald 7 (zi287 6) rfl rfl (by decide) rfl (by omega) ?_
    refine X.ldc2 10 (zi287 7) rfl rfl (by decide) ?_
    refine X.lcmp 11 (zi287 10) rfl rfl (fun z504 hz504 => ?_)
    refine X.ifge 24 14 (zi287 11) rfl rfl rfl (fun h505 => (by exfalso; omega)) (fun h505 => ?_)
    have h505c : (m 4 45 18) < 7 := by omega
    clear h505 hz504
    refine X.aload_n 15 (zi287 14) rfl rfl rfl ?_
    refine X.getF 18 (zi287 15) rfl rfl (by decide) rfl rfl ?_
    refine X.bipush 20 (zi287 18) rfl rfl (by decide) ?_
    refine X.lald 21 (zi287 20) rfl rfl (by decide) rfl (by omega) ?_
    refine X.goto 27 (zi287 21) rfl rfl ?_
    refine X.cut [] (zi287 27) rfl ?_
    refine X.l2i 28 (zi287 27) rfl rfl (by omega) ?_
    refine X.reti (zi287 28) rfl t287 ?_
    show X (EE s) d 286 62 [(0, zr 4 44)] [zi (m 4 45 18), zi 45, zi 1172] m _
    refine X.bipush 64 (zi286 62) rfl rfl (by decide) ?_
    refine X.icmpge 74 67 (zi286 64) rfl rfl rfl (fun h506 => (by exfalso; omega)) (fun h506 => ?_)
    refine X.aload_n 68 (zi286 67) rfl rfl rfl ?_
    refine X.callv 71 [] [zi 45, zi 1172] [(0, zr 4 44)] (zi286 68) rfl (by decide) rfl rfl (by omega) rfl rfl (by decide) rfl t287 (Nat.le_of_ble_eq_true rfl) (Nat.le_of_ble_eq_true rfl) rfl ?_
    refine X.aload_n 1 (zi287 0) rfl rfl rfl ?_
    refine X.getF 4 (zi287 1) rfl rfl (by decide) rfl rfl ?_
    refine X.bipush 6 (zi287 4) rfl rfl (by decide) ?_
    refine X.lald 7 (zi287 6) rfl rfl (by decide) rfl (by omega) ?_
    refine X.ldc2 10 (zi287 7) rfl rfl (by decide) ?_
    refine X.lcmp 11 (zi287 10) rfl rfl (fun z507 hz507 => ?_)
    refine X.ifge 24 14 (zi287 11) rfl rfl rfl (fun h508 => (by exfalso; omega)) (fun h508 => ?_)
    have h508c : (m 4 45 18) < 7 := by omega
    clear h508 hz507
    refine X.aload_n 15 (zi287 14) rfl rfl rfl ?_
    refine X.getF 18 (zi287 15) rfl rfl (by decide) rfl rfl ?_
    refine X.bipush 20 (zi287 18) rfl rfl (by decide) ?_
    refine X.lald 21 (zi287 20) rfl rfl (by decide) rfl (by omega) ?_
    refine X.goto 27 (zi287 21) rfl rfl ?_
    refine X.cut [] (zi287 27) rfl ?_
    refine X.l2i 28 (zi287 27) rfl rfl (by omega) ?_
    refine X.reti (zi287 28) rfl t287 ?_
    show X (EE s) d 286 71 [(0, zr 4 44)] [zi (m 4 45 18), zi 45, zi 1172] m _
    refine X.goto 76 (zi286 71) rfl rfl ?_
    refine X.imul 77 (zi286 76) rfl rfl (by omega) ?_
    refine X.iadd 78 (zi286 77) rfl rfl (by omega) ?_
    refine X.istore_n 79 [(0, zr 4 44), (1, zi (1172 + (45 * (m 4 45 18))))] (zi286 78) rfl rfl rfl ?_
    refine X.aload_n 80 (zi286 79) rfl rfl rfl ?_
    refine X.getF 83 (zi286 80) rfl rfl (by decide) rfl rfl ?_
    refine X.bipush 85 (zi286 83) rfl rfl (by decide) ?_
    refine X.dup2 86 (zi286 85) rfl rfl ?_
    refine X.lald 87 (zi286 86) rfl rfl (by decide) rfl (by omega) ?_
    refine X.lconst (y := 1) 88 (zi286 87) rfl rfl rfl ?_
    refine X.ladd 89 (zi286 88) rfl rfl (by omega) ?_
    refine X.last' 90 (zi286 89) rfl rfl (by decide) rfl (by omega) (fun hrm509 m509 hm509 => ?_)
    have hJ510 := w45_18 (hJ.up (B' := B + 1) (by omega)) hm509 (by omega) hf25 hg4
    refine X.aload_n 91 (zi286 90) rfl rfl rfl ?_
    refine X.getF 94 (zi286 91) rfl rfl (by decide) rfl rfl ?_
    refine X.iload_n 95 (zi286 94) rfl rfl rfl ?_
    refine X.aload_n 96 (zi286 95) rfl rfl rfl ?_
    refine X.getF 99 (zi286 96) rfl rfl (by decide) rfl rfl ?_
    refine X.iconst 100 (zi286 99) rfl rfl (by decide) ?_
    refine X.lald 101 (zi286 100) rfl rfl (by decide) rfl (by omega) ?_
    have h511 := r45_0 hJ510 4
    refine X.last' 102 (zi286 101) rfl rfl (by decide) rfl (by omega) (fun hrm512 m512 hm512 => ?_)
    have hJ513 := w45_1172 hJ510 hm512 (by omega) hrm512 hf25 hg4
    refine X.iconst 103 (zi286 102) rfl rfl (by decide) ?_
    refine X.istore_n 104 [(0, zr 4 44), (1, zi (1172 + (45 * (m 4 45 18)))), (2, zi 0)] (zi286 103) rfl rfl rfl ?_
    have hz36 := zfu_eq 36
    refine l286_104_1 (s := s) (d := d) (R0 := (f286_1 m))  (1172 + (45 * (m 4 45 18)))  (BE := B + 1) (by omega) (by omega) (by omega) hf25 hg4 (fun  m514 B515 hJ516 hBB515 hR517 => ?_) (zfu 36) 0 m512 (B + 1) (hJ513.up (by omega)) (by omega) (by omega) (by omega) (Eq.trans (if_pos h503c) (Eq.trans (zs_eq hm509) (Eq.trans (zs_eq hm512) rfl)))
    refine X.iconst 136 (zi286 135) rfl rfl (by decide) ?_
    refine X.istore_n 137 [(0, zr 4 44), (1, zi (1172 + (45 * (m 4 45 18)))), (2, zi 0)] (zi286 136) rfl rfl rfl ?_
    have hz5 := zfu_eq 5
    refine l286_137_1 (s := s) (d := d)  (1172 + (45 * (m 4 45 18)))  (BE := B515 + 0) (by omega) (by omega) (by omega) hf25 hf28 hg4 (fun  m518 B519 hJ520 hBB519 hR521 => ?_) (zfu 5) 0 m514 (B515) (hJ516.up (by omega)) (by omega) (by omega) (by omega) (Eq.trans hR517 rfl)
    refine X.aload_n 193 (zi286 192) rfl rfl rfl ?_
    refine X.bipush 195 (zi286 193) rfl rfl (by decide) ?_
    refine X.lconst (y := 0) 196 (zi286 195) rfl rfl rfl ?_
    refine X.callv 199 [zi 24, zl 0] [] [(0, zr 4 44), (1, zi 24), (2, zl 0)] (zi286 196) rfl (by decide) rfl rfl (by omega) rfl rfl (by decide) rfl t223 (Nat.le_of_ble_eq_true rfl) (Nat.le_of_ble_eq_true rfl) rfl ?_
    refine c223_1 (B := B519)  24 0 (by omega) (hJ520.up (by omega)) (by omega) (by omega) hf26 hg4 (fun m522 hFv524 hJ523 => ?_)
    show X (EE s) d 286 199 [(0, zr 4 44)] [] m522 _
    refine X.aload_n 200 (zi286 199) rfl rfl rfl ?_
    refine X.getF 203 (zi286 200) rfl rfl (by decide) rfl rfl ?_
    refine X.bipush 205 (zi286 203) rfl rfl (by decide) ?_
    refine X.lald 206 (zi286 205) rfl rfl (by decide) rfl (by omega) ?_
    have h525 := r45_18 hJ523 4
    refine X.l2i 207 (zi286 206) rfl rfl (by omega) ?_
    refine X.reti (zi286 207) rfl t286 ?_
    exact hQ (m522 4 45 18) m522 (by first | trivial | omega) (Eq.trans hR521 (Eq.trans (zs_eq hFv524.symm) rfl)) (hJ523.up (by omega)) 
  · have h503c : ¬ (m 4 45 18) < 7 := by omega
    clear h503 hz502
    refine X.bipush 16 (zi286 14) rfl rfl (by decide) ?_
    refine X.istore_n 17 [(0, zr 4 44), (1, zi 45)] (zi286 16) rfl rfl rfl ?_
    have hz271 := zfu_eq 271
    refine l286_17_1 (s := s) (d := d) (R0 := (f286_1 m))    (BE := B + 0) (by omega) (by omega) hf25 hg4 (fun  m526 B527 hJ528 hBB527 hR529 => ?_) (zfu 271) 45 m (B) (hJ.up (by omega)) (by omega) (by omega) (by omega) (Eq.trans (if_neg h503c) rfl)
    refine X.sipush 56 (zi286 53) rfl rfl (by decide) ?_
    refine X.bipush 58 (zi286 56) rfl rfl (by decide) ?_
    refine X.aload_n 59 (zi286 58) rfl rfl rfl ?_
    refine X.callv 62 [] [zi 45, zi 1172] [(0, zr 4 44)] (zi286 59) rfl (by decide) rfl rfl (by omega) rfl rfl (by decide) rfl t287 (Nat.le_of_ble_eq_true rfl) (Nat.le_of_ble_eq_true rfl) rfl ?_
    refine X.aload_n 1 (zi287 0) rfl rfl rfl ?_
    refine X.getF 4 (zi287 1) rfl rfl (by decide) rfl rfl ?_
    refine X.bipush 6 (zi287 4) rfl rfl (by decide) ?_
    refine X.lald 7 (zi287 6) rfl rfl (by decide) rfl (by omega) ?_
    have h530 := r45_18 hJ528 4
    refine X.ldc2 10 (zi287 7) rfl rfl (by decide) ?_
    refine X.lcmp 11 (zi287 10) rfl rfl (fun z531 hz531 => ?_)
    refine X.ifge 24 14 (zi287 11) rfl rfl rfl (fun h532 => ?_) (fun h532 => ?_)
    · have h532c : ¬ (m526 4 45 18) < 7 := by omega
      clear h532 hz531
      refine X.cut [] (zi287 24) rfl ?_
      refine X.ldc2 27 (zi287 24) rfl rfl (by decide) ?_
      refine X.l2i 28 (zi287 27) rfl rfl (by omega) ?_
      refine X.reti (zi287 28) rfl t287 ?_
      show X (EE s) d 286 62 [(0, zr 4 44)] [zi 7, zi 45, zi 1172] m526 _
      refine X.bipush 64 (zi286 62) rfl rfl (by decide) ?_
      refine X.icmpge 74 67 (zi286 64) rfl rfl rfl (fun h533 => ?_) (fun h533 => (by exfalso; omega))
      refine X.bipush 76 (zi286 74) rfl rfl (by decide) ?_
      refine X.imul 77 (zi286 76) rfl rfl (by omega) ?_
      refine X.iadd 78 (zi286 77) rfl rfl (by omega) ?_
      refine X.istore_n 79 [(0, zr 4 44), (1, zi (1172 + (45 * 6)))] (zi286 78) rfl rfl rfl ?_
      refine X.aload_n 80 (zi286 79) rfl rfl rfl ?_
      refine X.getF 83 (zi286 80) rfl rfl (by decide) rfl rfl ?_
      refine X.bipush 85 (zi286 83) rfl rfl (by decide) ?_
      refine X.dup2 86 (zi286 85) rfl rfl ?_
      refine X.lald 87 (zi286 86) rfl rfl (by decide) rfl (by omega) ?_
      refine X.lconst (y := 1) 88 (zi286 87) rfl rfl rfl ?_
      refine X.ladd 89 (zi286 88) rfl rfl (by omega) ?_
      refine X.last' 90 (zi286 89) rfl rfl (by decide) rfl (by omega) (fun hrm534 m534 hm534 => ?_)
      have hJ535 := w45_18 (hJ528.up (B' := B527 + 1) (by omega)) hm534 (by omega) hf25 hg4
      refine X.aload_n 91 (zi286 90) rfl rfl rfl ?_
      refine X.getF 94 (zi286 91) rfl rfl (by decide) rfl rfl ?_
      refine X.iload_n 95 (zi286 94) rfl rfl rfl ?_
      refine X.aload_n 96 (zi286 95) rfl rfl rfl ?_
      refine X.getF 99 (zi286 96) rfl rfl (by decide) rfl rfl ?_
      refine X.iconst 100 (zi286 99) rfl rfl (by decide) ?_
      refine X.lald 101 (zi286 100) rfl rfl (by decide) rfl (by omega) ?_
      have h536 := r45_0 hJ535 4
      refine X.last' 102 (zi286 101) rfl rfl (by decide) rfl (by omega) (fun hrm537 m537 hm537 => ?_)
      have hJ538 := w45_1172 hJ535 hm537 (by omega) hrm537 hf25 hg4
      refine X.iconst 103 (zi286 102) rfl rfl (by decide) ?_
      refine X.istore_n 104 [(0, zr 4 44), (1, zi (1172 + (45 * 6))), (2, zi 0)] (zi286 103) rfl rfl rfl ?_
      have hz36 := zfu_eq 36
      refine l286_104_1 (s := s) (d := d)  (1172 + (45 * 6))  (BE := B527 + 1) (by omega) (by omega) (by omega) hf25 hg4 (fun  m539 B540 hJ541 hBB540 hR542 => ?_) (zfu 36) 0 m537 (B527 + 1) (hJ538.up (by omega)) (by omega) (by omega) (by omega) (Eq.trans hR529 (Eq.trans (if_neg h532c) (Eq.trans (zs_eq hm534) (Eq.trans (zs_eq hm537) rfl))))
      refine X.iconst 136 (zi286 135) rfl rfl (by decide) ?_
      refine X.istore_n 137 [(0, zr 4 44), (1, zi (1172 + (45 * 6))), (2, zi 0)] (zi286 136) rfl rfl rfl ?_
      have hz5 := zfu_eq 5
      refine l286_137_1 (s := s) (d := d)  (1172 + (45 * 6))  (BE := B540 + 0) (by omega) (by omega) (by omega) hf25 hf28 hg4 (fun  m543 B544 hJ545 hBB544 hR546 => ?_) (zfu 5) 0 m539 (B540) (hJ541.up (by omega)) (by omega) (by omega) (by omega) (Eq.trans hR542 rfl)
      refine X.aload_n 193 (zi286 192) rfl rfl rfl ?_
      refine X.bipush 195 (zi286 193) rfl rfl (by decide) ?_
      refine X.lconst (y := 0) 196 (zi286 195) rfl rfl rfl ?_
      refine X.callv 199 [zi 24, zl 0] [] [(0, zr 4 44), (1, zi 24), (2, zl 0)] (zi286 196) rfl (by decide) rfl rfl (by omega) rfl rfl (by decide) rfl t223 (Nat.le_of_ble_eq_true rfl) (Nat.le_of_ble_eq_true rfl) rfl ?_
      refine c223_1 (B := B544)  24 0 (by omega) (hJ545.up (by omega)) (by omega) (by omega) hf26 hg4 (fun m547 hFv549 hJ548 => ?_)
      show X (EE s) d 286 199 [(0, zr 4 44)] [] m547 _
      refine X.aload_n 200 (zi286 199) rfl rfl rfl ?_
      refine X.getF 203 (zi286 200) rfl rfl (by decide) rfl rfl ?_
      refine X.bipush 205 (zi286 203) rfl rfl (by decide) ?_
      refine X.lald 206 (zi286 205) rfl rfl (by decide) rfl (by omega) ?_
      have h550 := r45_18 hJ548 4
      refine X.l2i 207 (zi286 206) rfl rfl (by omega) ?_
      refine X.reti (zi286 207) rfl t286 ?_
      exact hQ (m547 4 45 18) m547 (by first | trivial | omega) (Eq.trans hR546 (Eq.trans (zs_eq hFv549.symm) rfl)) (hJ548.up (by omega)) 
    · have h532c : (m526 4 45 18) < 7 := by omega
      clear h532 hz531
      refine X.aload_n 15 (zi287 14) rfl rfl rfl ?_
      refine X.getF 18 (zi287 15) rfl rfl (by decide) rfl rfl ?_
      refine X.bipush 20 (zi287 18) rfl rfl (by decide) ?_
      refine X.lald 21 (zi287 20) rfl rfl (by decide) rfl (by omega) ?_
      refine X.goto 27 (zi287 21) rfl rfl ?_
      refine X.cut [] (zi287 27) rfl ?_
      refine X.l2i 28 (zi287 27) rfl rfl (by omega) ?_
      refine X.reti (zi287 28) rfl t287 ?_
      show X (EE s) d 286 62 [(0, zr 4 44)] [zi (m526 4 45 18), zi 45, zi 1172] m526 _
      refine X.bipush 64 (zi286 62) rfl rfl (by decide) ?_
      refine X.icmpge 74 67 (zi286 64) rfl rfl rfl (fun h551 => (by exfalso; omega)) (fun h551 => ?_)
      refine X.aload_n 68 (zi286 67) rfl rfl rfl ?_
      refine X.callv 71 [] [zi 45, zi 1172] [(0, zr 4 44)] (zi286 68) rfl (by decide) rfl rfl (by omega) rfl rfl (by decide) rfl t287 (Nat.le_of_ble_eq_true rfl) (Nat.le_of_ble_eq_true rfl) rfl ?_
      refine X.aload_n 1 (zi287 0) rfl rfl rfl ?_
      refine X.getF 4 (zi287 1) rfl rfl (by decide) rfl rfl ?_
      refine X.bipush 6 (zi287 4) rfl rfl (by decide) ?_
      refine X.lald 7 (zi287 6) rfl rfl (by decide) rfl (by omega) ?_
      refine X.ldc2 10 (zi287 7) rfl rfl (by decide) ?_
      refine X.lcmp 11 (zi287 10) rfl rfl (fun z552 hz552 => ?_)
      refine X.ifge 24 14 (zi287 11) rfl rfl rfl (fun h553 => (by exfalso; omega)) (fun h553 => ?_)
      have h553c : (m526 4 45 18) < 7 := by omega
      clear h553 hz552
      refine X.aload_n 15 (zi287 14) rfl rfl rfl ?_
      refine X.getF 18 (zi287 15) rfl rfl (by decide) rfl rfl ?_
      refine X.bipush 20 (zi287 18) rfl rfl (by decide) ?_
      refine X.lald 21 (zi287 20) rfl rfl (by decide) rfl (by omega) ?_
      refine X.goto 27 (zi287 21) rfl rfl ?_
      refine X.cut [] (zi287 27) rfl ?_
      refine X.l2i 28 (zi287 27) rfl rfl (by omega) ?_
      refine X.reti (zi287 28) rfl t287 ?_
      show X (EE s) d 286 71 [(0, zr 4 44)] [zi (m526 4 45 18), zi 45, zi 1172] m526 _
      refine X.goto 76 (zi286 71) rfl rfl ?_
      refine X.imul 77 (zi286 76) rfl rfl (by omega) ?_
      refine X.iadd 78 (zi286 77) rfl rfl (by omega) ?_
      refine X.istore_n 79 [(0, zr 4 44), (1, zi (1172 + (45 * (m526 4 45 18))))] (zi286 78) rfl rfl rfl ?_
      refine X.aload_n 80 (zi286 79) rfl rfl rfl ?_
      refine X.getF 83 (zi286 80) rfl rfl (by decide) rfl rfl ?_
      refine X.bipush 85 (zi286 83) rfl rfl (by decide) ?_
      refine X.dup2 86 (zi286 85) rfl rfl ?_
      refine X.lald 87 (zi286 86) rfl rfl (by decide) rfl (by omega) ?_
      refine X.lconst (y := 1) 88 (zi286 87) rfl rfl rfl ?_
      refine X.ladd 89 (zi286 88) rfl rfl (by omega) ?_
      refine X.last' 90 (zi286 89) rfl rfl (by decide) rfl (by omega) (fun hrm554 m554 hm554 => ?_)
      have hJ555 := w45_18 (hJ528.up (B' := B527 + 1) (by omega)) hm554 (by omega) hf25 hg4
      refine X.aload_n 91 (zi286 90) rfl rfl rfl ?_
      refine X.getF 94 (zi286 91) rfl rfl (by decide) rfl rfl ?_
      refine X.iload_n 95 (zi286 94) rfl rfl rfl ?_
      refine X.aload_n 96 (zi286 95) rfl rfl rfl ?_
      refine X.getF 99 (zi286 96) rfl rfl (by decide) rfl rfl ?_
      refine X.iconst 100 (zi286 99) rfl rfl (by decide) ?_
      refine X.lald 101 (zi286 100) rfl rfl (by decide) rfl (by omega) ?_
      have h556 := r45_0 hJ555 4
      refine X.last' 102 (zi286 101) rfl rfl (by decide) rfl (by omega) (fun hrm557 m557 hm557 => ?_)
      have hJ558 := w45_1172 hJ555 hm557 (by omega) hrm557 hf25 hg4
      refine X.iconst 103 (zi286 102) rfl rfl (by decide) ?_
      refine X.istore_n 104 [(0, zr 4 44), (1, zi (1172 + (45 * (m526 4 45 18)))), (2, zi 0)] (zi286 103) rfl rfl rfl ?_
      have hz36 := zfu_eq 36
      refine l286_104_1 (s := s) (d := d)  (1172 + (45 * (m526 4 45 18)))  (BE := B527 + 1) (by omega) (by omega) (by omega) hf25 hg4 (fun  m559 B560 hJ561 hBB560 hR562 => ?_) (zfu 36) 0 m557 (B527 + 1) (hJ558.up (by omega)) (by omega) (by omega) (by omega) (Eq.trans hR529 (Eq.trans (if_pos h532c) (Eq.trans (zs_eq hm554) (Eq.trans (zs_eq hm557) rfl))))
      refine X.iconst 136 (zi286 135) rfl rfl (by decide) ?_
      refine X.istore_n 137 [(0, zr 4 44), (1, zi (1172 + (45 * (m526 4 45 18)))), (2, zi 0)] (zi286 136) rfl rfl rfl ?_
      have hz5 := zfu_eq 5
      refine l286_137_1 (s := s) (d := d)  (1172 + (45 * (m526 4 45 18)))  (BE := B560 + 0) (by omega) (by omega) (by omega) hf25 hf28 hg4 (fun  m563 B564 hJ565 hBB564 hR566 => ?_) (zfu 5) 0 m559 (B560) (hJ561.up (by omega)) (by omega) (by omega) (by omega) (Eq.trans hR562 rfl)
      refine X.aload_n 193 (zi286 192) rfl rfl rfl ?_
      refine X.bipush 195 (zi286 193) rfl rfl (by decide) ?_
      refine X.lconst (y := 0) 196 (zi286 195) rfl rfl rfl ?_
      refine X.callv 199 [zi 24, zl 0] [] [(0, zr 4 44), (1, zi 24), (2, zl 0)] (zi286 196) rfl (by decide) rfl rfl (by omega) rfl rfl (by decide) rfl t223 (Nat.le_of_ble_eq_true rfl) (Nat.le_of_ble_eq_true rfl) rfl ?_
      refine c223_1 (B := B564)  24 0 (by omega) (hJ565.up (by omega)) (by omega) (by omega) hf26 hg4 (fun m567 hFv569 hJ568 => ?_)
      show X (EE s) d 286 199 [(0, zr 4 44)] [] m567 _
      refine X.aload_n 200 (zi286 199) rfl rfl rfl ?_
      refine X.getF 203 (zi286 200) rfl rfl (by decide) rfl rfl ?_
      refine X.bipush 205 (zi286 203) rfl rfl (by decide) ?_
      refine X.lald 206 (zi286 205) rfl rfl (by decide) rfl (by omega) ?_
      have h570 := r45_18 hJ568 4
      refine X.l2i 207 (zi286 206) rfl rfl (by omega) ?_
      refine X.reti (zi286 207) rfl t286 ?_
      exact hQ (m567 4 45 18) m567 (by first | trivial | omega) (Eq.trans hR566 (Eq.trans (zs_eq hFv569.symm) rfl)) (hJ568.up (by omega)) 
-- WorkMeter$Wave.apparentOf
theorem c23_2 {s : Nat × (Nat → Int32)} {S : zS} {m0 m : zM} {B : Int} {d : Nat} {Q : Option zV → zM → Prop} (g0 : Nat) (a1 : Int) (hd : 14 ≤ d) (hJ : J S m0 B m) (hB : B + 0 ≤ 1000000000) (ha1 : 0 ≤ a1 ∧ a1 ≤ 3) (hQ : ∀ (v : Int), (True) → f23_1 g0 a1 m = v → Q (some (zl v)) m) : X (EE s) d 23 0 [(0, zr g0 19), (1, zi a1)] [] m Q := by
  refine X.aload_n 1 (zi23 0) rfl rfl rfl ?_
  refine X.getR 4 (zi23 1) rfl rfl (by decide) rfl rfl ?_
  refine X.iconst 5 (zi23 4) rfl rfl (by decide) ?_
  refine X.iload_n 6 (zi23 5) rfl rfl rfl ?_
  refine X.iadd 7 (zi23 6) rfl rfl (by omega) ?_
  refine X.lald 8 (zi23 7) rfl rfl (by decide) rfl (by omega) ?_
  refine X.lstore_n 9 [(0, zr g0 19), (1, zi a1), (2, zl (m g0 22 (0 + a1)))] (zi23 8) rfl rfl rfl ?_
  refine X.aload_n 10 (zi23 9) rfl rfl rfl ?_
  refine X.getR 13 (zi23 10) rfl rfl (by decide) rfl rfl ?_
  refine X.iconst 14 (zi23 13) rfl rfl (by decide) ?_
  refine X.iload_n 15 (zi23 14) rfl rfl rfl ?_
  refine X.iadd 16 (zi23 15) rfl rfl (by omega) ?_
  refine X.lald 17 (zi23 16) rfl rfl (by decide) rfl (by omega) ?_
  refine X.lstore 19 [(0, zr g0 19), (1, zi a1), (2, zl (m g0 22 (0 + a1))), (4, zl (m g0 22 (4 + a1)))] (zi23 17) rfl rfl rfl ?_
  refine X.lload_n 20 (zi23 19) rfl rfl rfl ?_
  refine X.lload_n 21 (zi23 20) rfl rfl rfl ?_
  refine X.lmulW 22 (zi23 21) rfl rfl (fun z501 ez501 hz501 => ?_)
  refine X.lload 24 (zi23 22) rfl rfl rfl ?_
  refine X.lload 26 (zi23 24) rfl rfl rfl ?_
  refine X.lmulW 27 (zi23 26) rfl rfl (fun z502 ez502 hz502 => ?_)
  refine X.laddW 28 (zi23 27) rfl rfl (fun z503 ez503 hz503 => ?_)
  refine X.calls 31 [zl z503] [] [(0, zl z503)] (zi23 28) (by decide) rfl rfl (by omega) rfl rfl t24 (Nat.le_of_ble_eq_true rfl) (Nat.le_of_ble_eq_true rfl) rfl ?_
  refine c24_1 (B := B)  z503 (by omega) (hJ.up (by omega)) (by omega)  (fun v506 hv506 hFv506 => ?_)
  show X (EE s) d 23 31 [(0, zr g0 19), (1, zi a1), (2, zl (m g0 22 (0 + a1))), (4, zl (m g0 22 (4 + a1)))] [zl v506] m _
  refine X.retl (zi23 31) rfl t23 ?_
  exact hQ v506 (by first | trivial | omega) (Eq.trans (zn_eq ez501) (Eq.trans (zn_eq ez502) (Eq.trans (zn_eq ez503) (Eq.trans (zn_eq hFv506.symm) rfl)))) 
-- WorkMeter$Wave.quadrantOf
theorem c51_2 {s : Nat × (Nat → Int32)} {S : zS} {m0 m : zM} {B : Int} {d : Nat} {Q : Option zV → zM → Prop} (a0 a1 : Int) (hd : 13 ≤ d) (hJ : J S m0 B m) (hB : B + 0 ≤ 1000000000) (hQ : ∀ (v : Int), (1 ≤ v ∧ v ≤ 4) → f51_1 a0 a1 m = v → Q (some (zi v)) m) : X (EE s) d 51 0 [(0, zl a0), (2, zl a1)] [] m Q := by
  refine X.lload_n 1 (zi51 0) rfl rfl rfl ?_
  refine X.lconst (y := 0) 2 (zi51 1) rfl rfl rfl ?_
  refine X.lcmp 3 (zi51 2) rfl rfl (fun z501 hz501 => ?_)
  refine X.iflt 18 6 (zi51 3) rfl rfl rfl (fun h502 => ?_) (fun h502 => ?_)
  · have h502c : a0 < 0 := by omega
    clear h502 hz501
    refine X.cut [(2, zl a1)] (zi51 18) rfl ?_
    refine X.lload_n 19 (zi51 18) rfl rfl rfl ?_
    refine X.lconst (y := 0) 20 (zi51 19) rfl rfl rfl ?_
    refine X.lcmp 21 (zi51 20) rfl rfl (fun z503 hz503 => ?_)
    have hK508 : ∀ (v : Int) , (2 ≤ v ∧ v ≤ 3) → (if a1 < 0 then
        (3)
        else
        (2)) = v → X (EE s) d 51 29 [] [zi v] m Q := by
      intro v505 hv505 hT509
      refine X.reti (zi51 29) rfl t51 ?_
      exact hQ v505 (by first | trivial | omega) (Eq.trans (if_pos h502c) (Eq.trans (zn_eq hT509.symm) rfl)) 
    refine X.iflt 28 24 (zi51 21) rfl rfl rfl (fun h504 => ?_) (fun h504 => ?_)
    · have h504c : a1 < 0 := by omega
      clear h504 hz503
      refine X.cut [] (zi51 28) rfl ?_
      refine X.iconst 29 (zi51 28) rfl rfl (by decide) ?_
      exact hK508 3 (by first | trivial | omega) (Eq.trans (if_pos h504c) rfl)
    · have h504c : ¬ a1 < 0 := by omega
      clear h504 hz503
      refine X.iconst 25 (zi51 24) rfl rfl (by decide) ?_
      refine X.goto 29 (zi51 25) rfl rfl ?_
      refine X.cut [] (zi51 29) rfl ?_
      exact hK508 2 (by first | trivial | omega) (Eq.trans (if_neg h504c) rfl)
  · have h502c : ¬ a0 < 0 := by omega
    clear h502 hz501
    refine X.lload_n 7 (zi51 6) rfl rfl rfl ?_
    refine X.lconst (y := 0) 8 (zi51 7) rfl rfl rfl ?_
    refine X.lcmp 9 (zi51 8) rfl rfl (fun z510 hz510 => ?_)
    have hK515 : ∀ (v : Int) , (1 ≤ v ∧ v ≤ 4) → (if a1 < 0 then
        (4)
        else
        (1)) = v → X (EE s) d 51 17 [] [zi v] m Q := by
      intro v512 hv512 hT516
      refine X.reti (zi51 17) rfl t51 ?_
      exact hQ v512 (by first | trivial | omega) (Eq.trans (if_neg h502c) (Eq.trans (zn_eq hT516.symm) rfl)) 
    refine X.iflt 16 12 (zi51 9) rfl rfl rfl (fun h511 => ?_) (fun h511 => ?_)
    · have h511c : a1 < 0 := by omega
      clear h511 hz510
      refine X.cut [] (zi51 16) rfl ?_
      refine X.iconst 17 (zi51 16) rfl rfl (by decide) ?_
      exact hK515 4 (by first | trivial | omega) (Eq.trans (if_pos h511c) rfl)
    · have h511c : ¬ a1 < 0 := by omega
      clear h511 hz510
      refine X.iconst 13 (zi51 12) rfl rfl (by decide) ?_
      refine X.goto 17 (zi51 13) rfl rfl ?_
      refine X.cut [] (zi51 17) rfl ?_
      exact hK515 1 (by first | trivial | omega) (Eq.trans (if_neg h511c) rfl)
noncomputable def fl142_5_1_b (self : Int → Int → Int) (k47 : Int → Int) (g0 : Nat) (y1 y2 : Int) (m : zM) (y3 y5 : Int) : Int :=
  if (m g0 19 3) ≤ y5 then
  (k47 y3)
  else
  (zn (if y2 = (-1) then
  ((max y3 (m g0 22 ((y1 * 4) + y5))))
  else
  (if y2 = y5 then
  ((max y3 (m g0 22 ((y1 * 4) + y5))))
  else
  (y3))) fun v524 =>
  self v524 (y5 + 1))
noncomputable def fl142_5_1 (k47 : Int → Int) (g0 : Nat) (y1 y2 : Int) (m : zM) : Nat → Int → Int → Int
  | 0 => fun y3 y5 => 0
  | n + 1 => fl142_5_1_b (fl142_5_1 k47 g0 y1 y2 m n) k47 g0 y1 y2 m
theorem l142_5_1 {s : Nat × (Nat → Int32)} {S : zS} {m0 : zM} {m : zM} {B : Int} {d : Nat} {Q : Option zV → zM → Prop} {R0 : Int} {k47 : Int → Int} (g0 : Nat) (y1 y2 : Int) (hd : 13 ≤ d) (hJ : J S m0 B m) (hB9 : B ≤ 1000000000) (hy1 : 2 ≤ y1 ∧ y1 ≤ 3) (hy2 : (-1) ≤ y2 ∧ y2 ≤ 2)
    (K47 : ∀ (x3 : Int) , (0 ≤ x3) → R0 = k47 x3 → X (EE s) d 142 47 [(0, zr g0 19), (3, zl x3)] [] m Q) :
    ∀ (n : Nat) (y3 y5 : Int) , (0 ≤ y3) → (0 ≤ y5 ∧ y5 ≤ 3) → 3 - y5 < (n : Int) → R0 = fl142_5_1 k47 g0 y1 y2 m n y3 y5 → X (EE s) d 142 5 [(0, zr g0 19), (1, zi y1), (2, zi y2), (3, zl y3), (5, zi y5)] [] m Q := by
  intro n
  induction n with
  | zero =>
    intro y3 y5 hy3 hy5 hn hR
    exfalso
    omega
  | succ n ih =>
    intro y3 y5 hy3 hy5 hn hR
    replace hR : R0 = fl142_5_1_b (fl142_5_1 k47 g0 y1 y2 m n) k47 g0 y1 y2 m y3 y5 := hR
    refine X.iload 7 (zi142 5) rfl rfl rfl ?_
    refine X.aload_n 8 (zi142 7) rfl rfl rfl ?_
    refine X.getI 11 3 (zi142 8) rfl rfl (by decide) rfl rfl rfl ?_
    have h520 := r19_3 hJ g0
    refine X.icmpge 47 14 (zi142 11) rfl rfl rfl (fun h521 => ?_) (fun h521 => ?_)
    · refine X.cut [(0, zr g0 19), (3, zl y3)] (zi142 47) rfl ?_
      exact K47 y3 (by first | trivial | omega) (Eq.trans hR (Eq.trans (if_pos h521) rfl))
    · refine X.iload_n 15 (zi142 14) rfl rfl rfl ?_
      refine X.iconst 16 (zi142 15) rfl rfl (by decide) ?_
      have hK527 : ∀ (v : Int) , (0 ≤ v) → (if y2 = (-1) then
          ((max y3 (m g0 22 ((y1 * 4) + y5))))
          else
          (if y2 = y5 then
          ((max y3 (m g0 22 ((y1 * 4) + y5))))
          else
          (y3))) = v → X (EE s) d 142 41 [(0, zr g0 19), (1, zi y1), (2, zi y2), (3, zl v), (5, zi y5)] [] m Q := by
        intro v524 hv524 hT528
        refine X.iinc 44 [(0, zr g0 19), (1, zi y1), (2, zi y2), (3, zl v524), (5, zi (y5 + 1))] (zi142 41) rfl rfl rfl (by omega) rfl ?_
        refine X.goto 5 (zi142 44) rfl rfl ?_
        exact ih v524 (y5 + 1) (by omega) (by omega) (by omega) (Eq.trans hR (Eq.trans (if_neg h521) (Eq.trans (zn_eq hT528.symm) rfl)))
      refine X.icmpeq 25 19 (zi142 16) rfl rfl rfl (fun h522 => ?_) (fun h522 => ?_)
      · refine X.lload_n 26 (zi142 25) rfl rfl rfl ?_
        refine X.aload_n 27 (zi142 26) rfl rfl rfl ?_
        refine X.getR 30 (zi142 27) rfl rfl (by decide) rfl rfl ?_
        refine X.iload_n 31 (zi142 30) rfl rfl rfl ?_
        refine X.iconst 32 (zi142 31) rfl rfl (by decide) ?_
        refine X.imul 33 (zi142 32) rfl rfl (by omega) ?_
        refine X.iload 35 (zi142 33) rfl rfl rfl ?_
        refine X.iadd 36 (zi142 35) rfl rfl (by omega) ?_
        refine X.lald 37 (zi142 36) rfl rfl (by decide) rfl (by omega) ?_
        refine X.maxL 40 (zi142 37) rfl rfl (by omega) (Nat.le_of_ble_eq_true rfl) ?_
        refine X.lstore_n 41 [(0, zr g0 19), (1, zi y1), (2, zi y2), (3, zl (max y3 (m g0 22 ((y1 * 4) + y5)))), (5, zi y5)] (zi142 40) rfl rfl rfl ?_
        exact hK527 (max y3 (m g0 22 ((y1 * 4) + y5))) (by first | trivial | omega) (Eq.trans (if_pos h522) rfl)
      · refine X.iload_n 20 (zi142 19) rfl rfl rfl ?_
        refine X.iload 22 (zi142 20) rfl rfl rfl ?_
        refine X.icmpne 41 25 (zi142 22) rfl rfl rfl (fun h523 => ?_) (fun h523 => ?_)
        · exact hK527 y3 (by first | trivial | omega) (Eq.trans (if_neg h522) (Eq.trans (if_neg h523) rfl))
        · refine X.lload_n 26 (zi142 25) rfl rfl rfl ?_
          refine X.aload_n 27 (zi142 26) rfl rfl rfl ?_
          refine X.getR 30 (zi142 27) rfl rfl (by decide) rfl rfl ?_
          refine X.iload_n 31 (zi142 30) rfl rfl rfl ?_
          refine X.iconst 32 (zi142 31) rfl rfl (by decide) ?_
          refine X.imul 33 (zi142 32) rfl rfl (by omega) ?_
          refine X.iload 35 (zi142 33) rfl rfl rfl ?_
          refine X.iadd 36 (zi142 35) rfl rfl (by omega) ?_
          refine X.lald 37 (zi142 36) rfl rfl (by decide) rfl (by omega) ?_
          refine X.maxL 40 (zi142 37) rfl rfl (by omega) (Nat.le_of_ble_eq_true rfl) ?_
          refine X.lstore_n 41 [(0, zr g0 19), (1, zi y1), (2, zi y2), (3, zl (max y3 (m g0 22 ((y1 * 4) + y5)))), (5, zi y5)] (zi142 40) rfl rfl rfl ?_
          exact hK527 (max y3 (m g0 22 ((y1 * 4) + y5))) (by first | trivial | omega) (Eq.trans (if_neg h522) (Eq.trans (if_pos h523) rfl))
-- WorkMeter$Wave.rootMean
noncomputable def f142_1 (g0 : Nat) (a1 a2 : Int) (m : zM) : Int :=
  fl142_5_1 (fun y501 =>
  zn ((y501 / (max 1 (m g0 19 4)))) fun z507 =>
  zn (f24_1 z507 m) fun v510 =>
  v510) g0 a1 a2 m (zfu 4) 0 0
-- WorkMeter$Wave.rootMean
theorem c142_1 {s : Nat × (Nat → Int32)} {S : zS} {m0 m : zM} {B : Int} {d : Nat} {Q : Option zV → zM → Prop} (g0 : Nat) (a1 a2 : Int) (hd : 14 ≤ d) (hJ : J S m0 B m) (hB : B + 0 ≤ 1000000000) (ha1 : 2 ≤ a1 ∧ a1 ≤ 3) (ha2 : (-1) ≤ a2 ∧ a2 ≤ 2) (hQ : ∀ (v : Int), (True) → f142_1 g0 a1 a2 m = v → Q (some (zl v)) m) : X (EE s) d 142 0 [(0, zr g0 19), (1, zi a1), (2, zi a2)] [] m Q := by
  refine X.lconst (y := 0) 1 (zi142 0) rfl rfl rfl ?_
  refine X.lstore_n 2 [(0, zr g0 19), (1, zi a1), (2, zi a2), (3, zl 0)] (zi142 1) rfl rfl rfl ?_
  refine X.iconst 3 (zi142 2) rfl rfl (by decide) ?_
  refine X.istore 5 [(0, zr g0 19), (1, zi a1), (2, zi a2), (3, zl 0), (5, zi 0)] (zi142 3) rfl rfl rfl ?_
  have hz4 := zfu_eq 4
  refine l142_5_1 (s := s) (m := m) (B := B) (d := d) (R0 := (f142_1 g0 a1 a2 m)) g0 a1 a2  (by omega) (hJ.up (by omega)) (by omega) (by omega) (by omega) (fun y501 hby501 hR505 => ?_) (zfu 4) 0 0 (by omega) (by omega) (by omega) rfl
  refine X.lload_n 48 (zi142 47) rfl rfl rfl ?_
  refine X.iconst 49 (zi142 48) rfl rfl (by decide) ?_
  refine X.aload_n 50 (zi142 49) rfl rfl rfl ?_
  refine X.getI 53 4 (zi142 50) rfl rfl (by decide) rfl rfl rfl ?_
  have h506 := r19_4 hJ g0
  refine X.maxI 56 (zi142 53) rfl rfl (by omega) (Nat.le_of_ble_eq_true rfl) ?_
  refine X.i2l 57 (zi142 56) rfl rfl ?_
  refine X.ldivp 58 (zi142 57) rfl rfl (by omega) ?_
  have hz507 := z_divb (x := y501) (y := (max 1 (m g0 19 4))) (by omega) (by omega)
  obtain ⟨z507, ez507⟩ : ∃ z, z = (y501 / (max 1 (m g0 19 4))) := ⟨_, rfl⟩
  rw [← ez507] at hz507 ⊢
  refine X.calls 61 [zl z507] [] [(0, zl z507)] (zi142 58) (by decide) rfl rfl (by omega) rfl rfl t24 (Nat.le_of_ble_eq_true rfl) (Nat.le_of_ble_eq_true rfl) rfl ?_
  refine c24_1 (B := B)  z507 (by omega) (hJ.up (by omega)) (by omega)  (fun v510 hv510 hFv510 => ?_)
  show X (EE s) d 142 61 [(0, zr g0 19), (3, zl y501)] [zl v510] m _
  refine X.retl (zi142 61) rfl t142 ?_
  exact hQ v510 (by first | trivial | omega) (Eq.trans hR505 (Eq.trans (zn_eq ez507) (Eq.trans (zn_eq hFv510.symm) rfl))) 
-- WorkMeter$Wave.factor
noncomputable def f143_1 (a0 a1 : Int) (m : zM) : Int :=
  zn (if a1 = 0 then
  (0)
  else
  (zn (w64 (1000 * a0)) fun z503 =>
  zn (w64 ((z503).tdiv a1)) fun z504 =>
  z504)) fun v505 =>
  v505
-- WorkMeter$Wave.factor
theorem c143_1 {s : Nat × (Nat → Int32)} {S : zS} {m0 m : zM} {B : Int} {d : Nat} {Q : Option zV → zM → Prop} (a0 a1 : Int) (hd : 13 ≤ d) (hJ : J S m0 B m) (hB : B + 0 ≤ 1000000000) (hQ : ∀ (v : Int), (True) → f143_1 a0 a1 m = v → Q (some (zl v)) m) : X (EE s) d 143 0 [(0, zl a0), (2, zl a1)] [] m Q := by
  refine X.lload_n 1 (zi143 0) rfl rfl rfl ?_
  refine X.lconst (y := 0) 2 (zi143 1) rfl rfl rfl ?_
  refine X.lcmp 3 (zi143 2) rfl rfl (fun z501 hz501 => ?_)
  have hK508 : ∀ (v : Int) , (True) → (if a1 = 0 then
      (0)
      else
      (zn (w64 (1000 * a0)) fun z503 =>
      zn (w64 ((z503).tdiv a1)) fun z504 =>
      z504)) = v → X (EE s) d 143 17 [] [zl v] m Q := by
    intro v505 hv505 hT509
    refine X.retl (zi143 17) rfl t143 ?_
    exact hQ v505 (by first | trivial | omega) (Eq.trans (zn_eq hT509.symm) rfl) 
  refine X.ifne 10 6 (zi143 3) rfl rfl rfl (fun h502 => ?_) (fun h502 => ?_)
  · have h502c : ¬ a1 = 0 := by omega
    clear h502 hz501
    refine X.ldc2 13 (zi143 10) rfl rfl (by decide) ?_
    refine X.lload_n 14 (zi143 13) rfl rfl rfl ?_
    refine X.lmulW 15 (zi143 14) rfl rfl (fun z503 ez503 hz503 => ?_)
    refine X.lload_n 16 (zi143 15) rfl rfl rfl ?_
    refine X.ldivW 17 (zi143 16) rfl rfl (by omega) (fun z504 ez504 hz504 => ?_)
    refine X.cut [] (zi143 17) rfl ?_
    exact hK508 z504 (by first | trivial | omega) (Eq.trans (if_neg h502c) (Eq.trans (zn_eq ez503) (Eq.trans (zn_eq ez504) rfl)))
  · have h502c : a1 = 0 := by omega
    clear h502 hz501
    refine X.lconst (y := 0) 7 (zi143 6) rfl rfl rfl ?_
    refine X.goto 17 (zi143 7) rfl rfl ?_
    refine X.cut [] (zi143 17) rfl ?_
    exact hK508 0 (by first | trivial | omega) (Eq.trans (if_pos h502c) rfl)
-- WorkMeter$Wave.tell
noncomputable def f141_1 (g0 : Nat) (a1 a2 : Int) (m : zM) : Int :=
  zn (if a1 = (-1) then
  (3)
  else
  (a1)) fun v502 =>
  if a2 = 4 then
  (zn (f23_1 g0 v502 m) fun v510 =>
  v510)
  else
  (if a2 = 5 then
  (zn (f51_1 (m g0 22 (0 + v502)) (m g0 22 (4 + v502)) m) fun v514 =>
  v514)
  else
  (if a2 = 6 then
  (zn (f142_1 g0 2 a1 m) fun v518 =>
  v518)
  else
  (if a2 = 7 then
  (zn (f142_1 g0 3 a1 m) fun v522 =>
  v522)
  else
  (if a2 = 8 then
  (zn (f23_1 g0 v502 m) fun v526 =>
  zn (f143_1 (m g0 22 (0 + v502)) v526 m) fun v529 =>
  v529)
  else
  (zn (if 3 < a2 then
  ((-1))
  else
  ((m g0 22 ((a2 * 4) + v502)))) fun v532 =>
  v532)))))
-- WorkMeter$Wave.tell
theorem c141_1 {s : Nat × (Nat → Int32)} {S : zS} {m0 m : zM} {B : Int} {d : Nat} {Q : Option zV → zM → Prop} (g0 : Nat) (a1 a2 : Int) (hd : 15 ≤ d) (hJ : J S m0 B m) (hB : B + 0 ≤ 1000000000) (ha1 : (-1) ≤ a1 ∧ a1 ≤ 2) (ha2 : 0 ≤ a2 ∧ a2 ≤ 8) (hQ : ∀ (v : Int), (True) → f141_1 g0 a1 a2 m = v → Q (some (zl v)) m) : X (EE s) d 141 0 [(0, zr g0 19), (1, zi a1), (2, zi a2)] [] m Q := by
  refine X.iload_n 1 (zi141 0) rfl rfl rfl ?_
  refine X.iconst 2 (zi141 1) rfl rfl (by decide) ?_
  have hK505 : ∀ (v : Int) , (0 ≤ v ∧ v ≤ 3) → (if a1 = (-1) then
      (3)
      else
      (a1)) = v → X (EE s) d 141 10 [(0, zr g0 19), (1, zi a1), (2, zi a2)] [zi v] m Q := by
    intro v502 hv502 hT506
    refine X.istore_n 11 [(0, zr g0 19), (1, zi a1), (2, zi a2), (3, zi v502)] (zi141 10) rfl rfl rfl ?_
    refine X.aload_n 12 (zi141 11) rfl rfl rfl ?_
    refine X.getR 15 (zi141 12) rfl rfl (by decide) rfl rfl ?_
    refine X.iconst 16 (zi141 15) rfl rfl (by decide) ?_
    refine X.iload_n 17 (zi141 16) rfl rfl rfl ?_
    refine X.iadd 18 (zi141 17) rfl rfl (by omega) ?_
    refine X.lald 19 (zi141 18) rfl rfl (by decide) rfl (by omega) ?_
    refine X.lstore 21 [(0, zr g0 19), (1, zi a1), (2, zi a2), (3, zi v502), (4, zl (m g0 22 (0 + v502)))] (zi141 19) rfl rfl rfl ?_
    refine X.iload_n 22 (zi141 21) rfl rfl rfl ?_
    by_cases h507 : a2 = 4
    · refine X.tsIn 56 0 (zi141 22) rfl (by omega) rfl rfl ?_
      refine X.cut [(0, zr g0 19), (3, zi v502)] (zi141 56) rfl ?_
      refine X.aload_n 57 (zi141 56) rfl rfl rfl ?_
      refine X.iload_n 58 (zi141 57) rfl rfl rfl ?_
      refine X.callv 61 [zi v502] [] [(0, zr g0 19), (1, zi v502)] (zi141 58) rfl (by decide) rfl rfl (by omega) rfl rfl (by decide) rfl t23 (Nat.le_of_ble_eq_true rfl) (Nat.le_of_ble_eq_true rfl) rfl ?_
      refine c23_2 (B := B) g0 v502 (by omega) (hJ.up (by omega)) (by omega) (by omega) (fun v510 hv510 hFv510 => ?_)
      show X (EE s) d 141 61 [(0, zr g0 19), (3, zi v502)] [zl v510] m _
      refine X.retl (zi141 61) rfl t141 ?_
      exact hQ v510 (by first | trivial | omega) (Eq.trans (zn_eq hT506.symm) (Eq.trans (if_pos h507) (Eq.trans (zn_eq hFv510.symm) rfl))) 
    by_cases h511 : a2 = 5
    · refine X.tsIn 62 1 (zi141 22) rfl (by omega) rfl rfl ?_
      refine X.cut [(0, zr g0 19), (3, zi v502), (4, zl (m g0 22 (0 + v502)))] (zi141 62) rfl ?_
      refine X.lload 64 (zi141 62) rfl rfl rfl ?_
      refine X.aload_n 65 (zi141 64) rfl rfl rfl ?_
      refine X.getR 68 (zi141 65) rfl rfl (by decide) rfl rfl ?_
      refine X.iconst 69 (zi141 68) rfl rfl (by decide) ?_
      refine X.iload_n 70 (zi141 69) rfl rfl rfl ?_
      refine X.iadd 71 (zi141 70) rfl rfl (by omega) ?_
      refine X.lald 72 (zi141 71) rfl rfl (by decide) rfl (by omega) ?_
      refine X.calls 75 [zl (m g0 22 (0 + v502)), zl (m g0 22 (4 + v502))] [] [(0, zl (m g0 22 (0 + v502))), (2, zl (m g0 22 (4 + v502)))] (zi141 72) (by decide) rfl rfl (by omega) rfl rfl t51 (Nat.le_of_ble_eq_true rfl) (Nat.le_of_ble_eq_true rfl) rfl ?_
      refine c51_2 (B := B)  (m g0 22 (0 + v502)) (m g0 22 (4 + v502)) (by omega) (hJ.up (by omega)) (by omega)  (fun v514 hv514 hFv514 => ?_)
      show X (EE s) d 141 75 [(0, zr g0 19), (3, zi v502), (4, zl (m g0 22 (0 + v502)))] [zi v514] m _
      refine X.i2l 76 (zi141 75) rfl rfl ?_
      refine X.retl (zi141 76) rfl t141 ?_
      exact hQ v514 (by first | trivial | omega) (Eq.trans (zn_eq hT506.symm) (Eq.trans (if_neg h507) (Eq.trans (if_pos h511) (Eq.trans (zn_eq hFv514.symm) rfl)))) 
    by_cases h515 : a2 = 6
    · refine X.tsIn 77 2 (zi141 22) rfl (by omega) rfl rfl ?_
      refine X.cut [(0, zr g0 19), (1, zi a1)] (zi141 77) rfl ?_
      refine X.aload_n 78 (zi141 77) rfl rfl rfl ?_
      refine X.iconst 79 (zi141 78) rfl rfl (by decide) ?_
      refine X.iload_n 80 (zi141 79) rfl rfl rfl ?_
      refine X.callv 83 [zi 2, zi a1] [] [(0, zr g0 19), (1, zi 2), (2, zi a1)] (zi141 80) rfl (by decide) rfl rfl (by omega) rfl rfl (by decide) rfl t142 (Nat.le_of_ble_eq_true rfl) (Nat.le_of_ble_eq_true rfl) rfl ?_
      refine c142_1 (B := B) g0 2 a1 (by omega) (hJ.up (by omega)) (by omega) (by omega) (by omega) (fun v518 hv518 hFv518 => ?_)
      show X (EE s) d 141 83 [(0, zr g0 19), (1, zi a1)] [zl v518] m _
      refine X.retl (zi141 83) rfl t141 ?_
      exact hQ v518 (by first | trivial | omega) (Eq.trans (zn_eq hT506.symm) (Eq.trans (if_neg h507) (Eq.trans (if_neg h511) (Eq.trans (if_pos h515) (Eq.trans (zn_eq hFv518.symm) rfl))))) 
    by_cases h519 : a2 = 7
    · refine X.tsIn 84 3 (zi141 22) rfl (by omega) rfl rfl ?_
      refine X.cut [(0, zr g0 19), (1, zi a1)] (zi141 84) rfl ?_
      refine X.aload_n 85 (zi141 84) rfl rfl rfl ?_
      refine X.iconst 86 (zi141 85) rfl rfl (by decide) ?_
      refine X.iload_n 87 (zi141 86) rfl rfl rfl ?_
      refine X.callv 90 [zi 3, zi a1] [] [(0, zr g0 19), (1, zi 3), (2, zi a1)] (zi141 87) rfl (by decide) rfl rfl (by omega) rfl rfl (by decide) rfl t142 (Nat.le_of_ble_eq_true rfl) (Nat.le_of_ble_eq_true rfl) rfl ?_
      refine c142_1 (B := B) g0 3 a1 (by omega) (hJ.up (by omega)) (by omega) (by omega) (by omega) (fun v522 hv522 hFv522 => ?_)
      show X (EE s) d 141 90 [(0, zr g0 19), (1, zi a1)] [zl v522] m _
      refine X.retl (zi141 90) rfl t141 ?_
      exact hQ v522 (by first | trivial | omega) (Eq.trans (zn_eq hT506.symm) (Eq.trans (if_neg h507) (Eq.trans (if_neg h511) (Eq.trans (if_neg h515) (Eq.trans (if_pos h519) (Eq.trans (zn_eq hFv522.symm) rfl)))))) 
    by_cases h523 : a2 = 8
    · refine X.tsIn 91 4 (zi141 22) rfl (by omega) rfl rfl ?_
      refine X.cut [(0, zr g0 19), (3, zi v502), (4, zl (m g0 22 (0 + v502)))] (zi141 91) rfl ?_
      refine X.lload 93 (zi141 91) rfl rfl rfl ?_
      refine X.aload_n 94 (zi141 93) rfl rfl rfl ?_
      refine X.iload_n 95 (zi141 94) rfl rfl rfl ?_
      refine X.callv 98 [zi v502] [zl (m g0 22 (0 + v502))] [(0, zr g0 19), (1, zi v502)] (zi141 95) rfl (by decide) rfl rfl (by omega) rfl rfl (by decide) rfl t23 (Nat.le_of_ble_eq_true rfl) (Nat.le_of_ble_eq_true rfl) rfl ?_
      refine c23_2 (B := B) g0 v502 (by omega) (hJ.up (by omega)) (by omega) (by omega) (fun v526 hv526 hFv526 => ?_)
      show X (EE s) d 141 98 [(0, zr g0 19), (3, zi v502), (4, zl (m g0 22 (0 + v502)))] [zl v526, zl (m g0 22 (0 + v502))] m _
      refine X.calls 101 [zl (m g0 22 (0 + v502)), zl v526] [] [(0, zl (m g0 22 (0 + v502))), (2, zl v526)] (zi141 98) (by decide) rfl rfl (by omega) rfl rfl t143 (Nat.le_of_ble_eq_true rfl) (Nat.le_of_ble_eq_true rfl) rfl ?_
      refine c143_1 (B := B)  (m g0 22 (0 + v502)) v526 (by omega) (hJ.up (by omega)) (by omega)  (fun v529 hv529 hFv529 => ?_)
      show X (EE s) d 141 101 [(0, zr g0 19), (3, zi v502), (4, zl (m g0 22 (0 + v502)))] [zl v529] m _
      refine X.retl (zi141 101) rfl t141 ?_
      exact hQ v529 (by first | trivial | omega) (Eq.trans (zn_eq hT506.symm) (Eq.trans (if_neg h507) (Eq.trans (if_neg h511) (Eq.trans (if_neg h515) (Eq.trans (if_neg h519) (Eq.trans (if_pos h523) (Eq.trans (zn_eq hFv526.symm) (Eq.trans (zn_eq hFv529.symm) rfl)))))))) 
    refine X.tsOut 102 (zi141 22) rfl (by omega) rfl ?_
    refine X.cut [(0, zr g0 19), (2, zi a2), (3, zi v502)] (zi141 102) rfl ?_
    refine X.iload_n 103 (zi141 102) rfl rfl rfl ?_
    refine X.iflt 124 106 (zi141 103) rfl rfl rfl (fun h530 => (by exfalso; omega)) (fun h530 => ?_)
    refine X.iload_n 107 (zi141 106) rfl rfl rfl ?_
    refine X.iconst 108 (zi141 107) rfl rfl (by decide) ?_
    have hK535 : ∀ (v : Int) , (True) → (if 3 < a2 then
        ((-1))
        else
        ((m g0 22 ((a2 * 4) + v502)))) = v → X (EE s) d 141 127 [] [zl v] m Q := by
      intro v532 hv532 hT536
      refine X.retl (zi141 127) rfl t141 ?_
      exact hQ v532 (by first | trivial | omega) (Eq.trans (zn_eq hT506.symm) (Eq.trans (if_neg h507) (Eq.trans (if_neg h511) (Eq.trans (if_neg h515) (Eq.trans (if_neg h519) (Eq.trans (if_neg h523) (Eq.trans (zn_eq hT536.symm) rfl))))))) 
    refine X.icmpgt 124 111 (zi141 108) rfl rfl rfl (fun h531 => ?_) (fun h531 => ?_)
    · refine X.cut [] (zi141 124) rfl ?_
      refine X.ldc2 127 (zi141 124) rfl rfl (by decide) ?_
      exact hK535 (-1) (by first | trivial | omega) (Eq.trans (if_pos h531) rfl)
    · refine X.aload_n 112 (zi141 111) rfl rfl rfl ?_
      refine X.getR 115 (zi141 112) rfl rfl (by decide) rfl rfl ?_
      refine X.iload_n 116 (zi141 115) rfl rfl rfl ?_
      refine X.iconst 117 (zi141 116) rfl rfl (by decide) ?_
      refine X.imul 118 (zi141 117) rfl rfl (by omega) ?_
      refine X.iload_n 119 (zi141 118) rfl rfl rfl ?_
      refine X.iadd 120 (zi141 119) rfl rfl (by omega) ?_
      refine X.lald 121 (zi141 120) rfl rfl (by decide) rfl (by omega) ?_
      refine X.goto 127 (zi141 121) rfl rfl ?_
      refine X.cut [] (zi141 127) rfl ?_
      exact hK535 (m g0 22 ((a2 * 4) + v502)) (by first | trivial | omega) (Eq.trans (if_neg h531) rfl)
  refine X.icmpne 9 5 (zi141 2) rfl rfl rfl (fun h501 => ?_) (fun h501 => ?_)
  · refine X.iload_n 10 (zi141 9) rfl rfl rfl ?_
    exact hK505 a1 (by first | trivial | omega) (Eq.trans (if_neg h501) rfl)
  · refine X.iconst 6 (zi141 5) rfl rfl (by decide) ?_
    refine X.goto 10 (zi141 6) rfl rfl ?_
    exact hK505 3 (by first | trivial | omega) (Eq.trans (if_pos h501) rfl)
-- WorkMeter.period
noncomputable def f140_1 (a1 a2 : Int) (m : zM) : Int :=
  if a1 < (-1) then
  ((-10000000000))
  else
  (if (m 0 19 3) ≤ a1 then
  ((-10000000000))
  else
  (if a2 < 0 then
  ((-10000000000))
  else
  (if a2 ≤ 8 then
  (zn (f141_1 0 a1 a2 m) fun v508 =>
  v508)
  else
  ((-10000000000)))))
-- WorkMeter.period
theorem c140_1 {s : Nat × (Nat → Int32)} {S : zS} {m0 m : zM} {B : Int} {d : Nat} {Q : Option zV → zM → Prop} (a1 a2 : Int) (hd : 16 ≤ d) (hJ : J S m0 B m) (hB : B + 0 ≤ 1000000000) (ha1 : (-2147483648) ≤ a1 ∧ a1 ≤ 2147483647) (ha2 : (-2147483648) ≤ a2 ∧ a2 ≤ 2147483647) (hQ : ∀ (v : Int), (True) → f140_1 a1 a2 m = v → Q (some (zl v)) m) : X (EE s) d 140 0 [(0, zr 4 40), (1, zi a1), (2, zi a2)] [] m Q := by
  refine X.iload_n 1 (zi140 0) rfl rfl rfl ?_
  refine X.iconst 2 (zi140 1) rfl rfl (by decide) ?_
  refine X.icmplt 29 5 (zi140 2) rfl rfl rfl (fun h501 => ?_) (fun h501 => ?_)
  · refine X.cut [] (zi140 29) rfl ?_
    refine X.ldc2 32 (zi140 29) rfl rfl (by decide) ?_
    refine X.retl (zi140 32) rfl t140 ?_
    exact hQ (-10000000000) (by first | trivial | omega) (Eq.trans (if_pos h501) rfl) 
  · refine X.iload_n 6 (zi140 5) rfl rfl rfl ?_
    refine X.aload_n 7 (zi140 6) rfl rfl rfl ?_
    refine X.getF 10 (zi140 7) rfl rfl (by decide) rfl rfl ?_
    refine X.getR 13 (zi140 10) rfl rfl (by decide) rfl rfl ?_
    refine X.getI 16 3 (zi140 13) rfl rfl (by decide) rfl rfl rfl ?_
    have h502 := r19_3 hJ 0
    refine X.icmpge 29 19 (zi140 16) rfl rfl rfl (fun h503 => ?_) (fun h503 => ?_)
    · refine X.cut [] (zi140 29) rfl ?_
      refine X.ldc2 32 (zi140 29) rfl rfl (by decide) ?_
      refine X.retl (zi140 32) rfl t140 ?_
      exact hQ (-10000000000) (by first | trivial | omega) (Eq.trans (if_neg h501) (Eq.trans (if_pos h503) rfl)) 
    · refine X.iload_n 20 (zi140 19) rfl rfl rfl ?_
      refine X.iflt 29 23 (zi140 20) rfl rfl rfl (fun h504 => ?_) (fun h504 => ?_)
      · refine X.cut [] (zi140 29) rfl ?_
        refine X.ldc2 32 (zi140 29) rfl rfl (by decide) ?_
        refine X.retl (zi140 32) rfl t140 ?_
        exact hQ (-10000000000) (by first | trivial | omega) (Eq.trans (if_neg h501) (Eq.trans (if_neg h503) (Eq.trans (if_pos h504) rfl))) 
      · refine X.iload_n 24 (zi140 23) rfl rfl rfl ?_
        refine X.bipush 26 (zi140 24) rfl rfl (by decide) ?_
        refine X.icmple 33 29 (zi140 26) rfl rfl rfl (fun h505 => ?_) (fun h505 => ?_)
        · refine X.aload_n 34 (zi140 33) rfl rfl rfl ?_
          refine X.getF 37 (zi140 34) rfl rfl (by decide) rfl rfl ?_
          refine X.getR 40 (zi140 37) rfl rfl (by decide) rfl rfl ?_
          refine X.iload_n 41 (zi140 40) rfl rfl rfl ?_
          refine X.iload_n 42 (zi140 41) rfl rfl rfl ?_
          refine X.callv 45 [zi a1, zi a2] [] [(0, zr 0 19), (1, zi a1), (2, zi a2)] (zi140 42) rfl (by decide) rfl rfl (by omega) rfl rfl (by decide) rfl t141 (Nat.le_of_ble_eq_true rfl) (Nat.le_of_ble_eq_true rfl) rfl ?_
          refine c141_1 (B := B) 0 a1 a2 (by omega) (hJ.up (by omega)) (by omega) (by omega) (by omega) (fun v508 hv508 hFv508 => ?_)
          show X (EE s) d 140 45 [(0, zr 4 40), (1, zi a1), (2, zi a2)] [zl v508] m _
          refine X.retl (zi140 45) rfl t140 ?_
          exact hQ v508 (by first | trivial | omega) (Eq.trans (if_neg h501) (Eq.trans (if_neg h503) (Eq.trans (if_neg h504) (Eq.trans (if_pos h505) (Eq.trans (zn_eq hFv508.symm) rfl))))) 
        · refine X.cut [] (zi140 29) rfl ?_
          refine X.ldc2 32 (zi140 29) rfl rfl (by decide) ?_
          refine X.retl (zi140 32) rfl t140 ?_
          exact hQ (-10000000000) (by first | trivial | omega) (Eq.trans (if_neg h501) (Eq.trans (if_neg h503) (Eq.trans (if_neg h504) (Eq.trans (if_neg h505) rfl)))) 
noncomputable def fl238_5_1_b (self : Int → Int → Int) (k52 : Int → Int) (y1 : Int) (m : zM) (y2 y4 : Int) : Int :=
  if (m 4 45 1) ≤ y4 then
  (k52 y2)
  else
  (zn (f213_1 y1 y4 m) fun v540 =>
  zn ((v540 / (m 4 45 2))) fun z542 =>
  zn (f214_1 z542 m) fun v545 =>
  zn (if v545 ≤ y2 then
  (y2)
  else
  (v545)) fun v548 =>
  self v548 (y4 + 1))
noncomputable def fl238_5_1 (k52 : Int → Int) (y1 : Int) (m : zM) : Nat → Int → Int → Int
  | 0 => fun y2 y4 => 0
  | n + 1 => fl238_5_1_b (fl238_5_1 k52 y1 m n) k52 y1 m
theorem l238_5_1 {s : Nat × (Nat → Int32)} {S : zS} {m0 : zM} {m : zM} {B : Int} {d : Nat} {Q : Option zV → zM → Prop} {R0 : Int} {k52 : Int → Int} (y1 : Int) (hd : 14 ≤ d) (hJ : J S m0 B m) (hB9 : B ≤ 1000000000) (hy1 : 95 ≤ y1 ∧ y1 ≤ 95)
    (K52 : ∀ (x2 : Int) , (0 ≤ x2 ∧ x2 ≤ 3000000000) → R0 = k52 x2 → X (EE s) d 238 52 [(2, zl x2)] [] m Q) :
    ∀ (n : Nat) (y2 y4 : Int) , (0 ≤ y2 ∧ y2 ≤ 3000000000) → (0 ≤ y4 ∧ y4 ≤ 3) → 3 - y4 < (n : Int) → R0 = fl238_5_1 k52 y1 m n y2 y4 → X (EE s) d 238 5 [(0, zr 4 44), (1, zi y1), (2, zl y2), (4, zi y4)] [] m Q := by
  intro n
  induction n with
  | zero =>
    intro y2 y4 hy2 hy4 hn hR
    exfalso
    omega
  | succ n ih =>
    intro y2 y4 hy2 hy4 hn hR
    replace hR : R0 = fl238_5_1_b (fl238_5_1 k52 y1 m n) k52 y1 m y2 y4 := hR
    refine X.iload 7 (zi238 5) rfl rfl rfl ?_
    refine X.aload_n 8 (zi238 7) rfl rfl rfl ?_
    refine X.callv 11 [] [zi y4] [(0, zr 4 44)] (zi238 8) rfl (by decide) rfl rfl (by omega) rfl rfl (by decide) rfl t206 (Nat.le_of_ble_eq_true rfl) (Nat.le_of_ble_eq_true rfl) rfl ?_
    refine X.aload_n 1 (zi206 0) rfl rfl rfl ?_
    refine X.getF 4 (zi206 1) rfl rfl (by decide) rfl rfl ?_
    refine X.iconst 5 (zi206 4) rfl rfl (by decide) ?_
    refine X.lald 6 (zi206 5) rfl rfl (by decide) rfl (by omega) ?_
    have h536 := r45_1 hJ 4
    refine X.l2i 7 (zi206 6) rfl rfl (by omega) ?_
    refine X.reti (zi206 7) rfl t206 ?_
    show X (EE s) d 238 11 [(0, zr 4 44), (1, zi y1), (2, zl y2), (4, zi y4)] [zi (m 4 45 1), zi y4] m _
    refine X.icmpge 52 14 (zi238 11) rfl rfl rfl (fun h537 => ?_) (fun h537 => ?_)
    · refine X.cut [(2, zl y2)] (zi238 52) rfl ?_
      exact K52 y2 (by first | trivial | omega) (Eq.trans hR (Eq.trans (if_pos h537) rfl))
    · refine X.aload_n 15 (zi238 14) rfl rfl rfl ?_
      refine X.iload_n 16 (zi238 15) rfl rfl rfl ?_
      refine X.iload 18 (zi238 16) rfl rfl rfl ?_
      refine X.callv 21 [zi y1, zi y4] [] [(0, zr 4 44), (1, zi y1), (2, zi y4)] (zi238 18) rfl (by decide) rfl rfl (by omega) rfl rfl (by decide) rfl t213 (Nat.le_of_ble_eq_true rfl) (Nat.le_of_ble_eq_true rfl) rfl ?_
      refine c213_1 (B := B)  y1 y4 (by omega) (hJ.up (by omega)) (by omega) (by omega) (by omega) (fun v540 hv540 hFv540 => ?_)
      show X (EE s) d 238 21 [(0, zr 4 44), (1, zi y1), (2, zl y2), (4, zi y4)] [zl v540] m _
      refine X.aload_n 22 (zi238 21) rfl rfl rfl ?_
      refine X.callv 25 [] [zl v540] [(0, zr 4 44)] (zi238 22) rfl (by decide) rfl rfl (by omega) rfl rfl (by decide) rfl t211 (Nat.le_of_ble_eq_true rfl) (Nat.le_of_ble_eq_true rfl) rfl ?_
      refine X.aload_n 1 (zi211 0) rfl rfl rfl ?_
      refine X.getF 4 (zi211 1) rfl rfl (by decide) rfl rfl ?_
      refine X.iconst 5 (zi211 4) rfl rfl (by decide) ?_
      refine X.lald 6 (zi211 5) rfl rfl (by decide) rfl (by omega) ?_
      have h541 := r45_2 hJ 4
      refine X.l2i 7 (zi211 6) rfl rfl (by omega) ?_
      refine X.reti (zi211 7) rfl t211 ?_
      show X (EE s) d 238 25 [(0, zr 4 44), (1, zi y1), (2, zl y2), (4, zi y4)] [zi (m 4 45 2), zl v540] m _
      refine X.i2l 26 (zi238 25) rfl rfl ?_
      refine X.ldivp 27 (zi238 26) rfl rfl (by omega) ?_
      have hz542 := z_divb (x := v540) (y := (m 4 45 2)) (by omega) (by omega)
      obtain ⟨z542, ez542⟩ : ∃ z, z = (v540 / (m 4 45 2)) := ⟨_, rfl⟩
      rw [← ez542] at hz542 ⊢
      refine X.calls 30 [zl z542] [] [(0, zl z542)] (zi238 27) (by decide) rfl rfl (by omega) rfl rfl t214 (Nat.le_of_ble_eq_true rfl) (Nat.le_of_ble_eq_true rfl) rfl ?_
      refine c214_1 (B := B)  z542 (by omega) (hJ.up (by omega)) (by omega) (by omega) (fun v545 hv545 hFv545 => ?_)
      show X (EE s) d 238 30 [(0, zr 4 44), (1, zi y1), (2, zl y2), (4, zi y4)] [zl v545] m _
      refine X.lstore 32 [(0, zr 4 44), (1, zi y1), (2, zl y2), (4, zi y4), (5, zl v545)] (zi238 30) rfl rfl rfl ?_
      refine X.lload 34 (zi238 32) rfl rfl rfl ?_
      refine X.lload_n 35 (zi238 34) rfl rfl rfl ?_
      refine X.lcmp 36 (zi238 35) rfl rfl (fun z546 hz546 => ?_)
      have hK551 : ∀ (v : Int) , (0 ≤ v ∧ v ≤ 3000000000) → (if v545 ≤ y2 then
          (y2)
          else
          (v545)) = v → X (EE s) d 238 45 [(0, zr 4 44), (1, zi y1), (4, zi y4)] [zl v] m Q := by
        intro v548 hv548 hT552
        refine X.lstore_n 46 [(0, zr 4 44), (1, zi y1), (2, zl v548), (4, zi y4)] (zi238 45) rfl rfl rfl ?_
        refine X.iinc 49 [(0, zr 4 44), (1, zi y1), (2, zl v548), (4, zi (y4 + 1))] (zi238 46) rfl rfl rfl (by omega) rfl ?_
        refine X.goto 5 (zi238 49) rfl rfl ?_
        exact ih v548 (y4 + 1) (by omega) (by omega) (by omega) (Eq.trans hR (Eq.trans (if_neg h537) (Eq.trans (zn_eq hFv540.symm) (Eq.trans (zn_eq ez542) (Eq.trans (zn_eq hFv545.symm) (Eq.trans (zn_eq hT552.symm) rfl))))))
      refine X.ifle 44 39 (zi238 36) rfl rfl rfl (fun h547 => ?_) (fun h547 => ?_)
      · have h547c : v545 ≤ y2 := by omega
        clear h547 hz546
        refine X.cut [(0, zr 4 44), (1, zi y1), (2, zl y2), (4, zi y4)] (zi238 44) rfl ?_
        refine X.lload_n 45 (zi238 44) rfl rfl rfl ?_
        refine X.cut [(0, zr 4 44), (1, zi y1), (4, zi y4)] (zi238 45) rfl ?_
        exact hK551 y2 (by first | trivial | omega) (Eq.trans (if_pos h547c) rfl)
      · have h547c : ¬ v545 ≤ y2 := by omega
        clear h547 hz546
        refine X.lload 41 (zi238 39) rfl rfl rfl ?_
        refine X.goto 45 (zi238 41) rfl rfl ?_
        refine X.cut [(0, zr 4 44), (1, zi y1), (4, zi y4)] (zi238 45) rfl ?_
        exact hK551 v545 (by first | trivial | omega) (Eq.trans (if_neg h547c) rfl)
-- WorkMeterModel.greatestRoot
noncomputable def f238_1 (a1 : Int) (m : zM) : Int :=
  fl238_5_1 (fun y501 =>
  y501) a1 m (zfu 4) 0 0
-- WorkMeterModel.greatestRoot
theorem c238_1 {s : Nat × (Nat → Int32)} {S : zS} {m0 m : zM} {B : Int} {d : Nat} {Q : Option zV → zM → Prop} (a1 : Int) (hd : 14 ≤ d) (hJ : J S m0 B m) (hB : B + 0 ≤ 1000000000) (ha1 : 95 ≤ a1 ∧ a1 ≤ 95) (hQ : ∀ (v : Int), (0 ≤ v ∧ v ≤ 3000000000) → f238_1 a1 m = v → Q (some (zl v)) m) : X (EE s) d 238 0 [(0, zr 4 44), (1, zi a1)] [] m Q := by
  refine X.lconst (y := 0) 1 (zi238 0) rfl rfl rfl ?_
  refine X.lstore_n 2 [(0, zr 4 44), (1, zi a1), (2, zl 0)] (zi238 1) rfl rfl rfl ?_
  refine X.iconst 3 (zi238 2) rfl rfl (by decide) ?_
  refine X.istore 5 [(0, zr 4 44), (1, zi a1), (2, zl 0), (4, zi 0)] (zi238 3) rfl rfl rfl ?_
  have hz4 := zfu_eq 4
  refine l238_5_1 (s := s) (m := m) (B := B) (d := d) (R0 := (f238_1 a1 m))  a1  (by omega) (hJ.up (by omega)) (by omega) (by omega) (fun y501 hby501 hR505 => ?_) (zfu 4) 0 0 (by omega) (by omega) (by omega) rfl
  refine X.lload_n 53 (zi238 52) rfl rfl rfl ?_
  refine X.retl (zi238 53) rfl t238 ?_
  exact hQ y501 (by first | trivial | omega) (Eq.trans hR505 rfl) 
theorem l238_5_2 {s : Nat × (Nat → Int32)} {S : zS} {m0 : zM} {m : zM} {B : Int} {d : Nat} {Q : Option zV → zM → Prop} {R0 : Int} {k52 : Int → Int} (y1 : Int) (hd : 14 ≤ d) (hJ : J S m0 B m) (hB9 : B ≤ 1000000000) (hy1 : 143 ≤ y1 ∧ y1 ≤ 143)
    (K52 : ∀ (x2 : Int) , (0 ≤ x2 ∧ x2 ≤ 3000000000) → R0 = k52 x2 → X (EE s) d 238 52 [(2, zl x2)] [] m Q) :
    ∀ (n : Nat) (y2 y4 : Int) , (0 ≤ y2 ∧ y2 ≤ 3000000000) → (0 ≤ y4 ∧ y4 ≤ 3) → 3 - y4 < (n : Int) → R0 = fl238_5_1 k52 y1 m n y2 y4 → X (EE s) d 238 5 [(0, zr 4 44), (1, zi y1), (2, zl y2), (4, zi y4)] [] m Q := by
  intro n
  induction n with
  | zero =>
    intro y2 y4 hy2 hy4 hn hR
    exfalso
    omega
  | succ n ih =>
    intro y2 y4 hy2 hy4 hn hR
    replace hR : R0 = fl238_5_1_b (fl238_5_1 k52 y1 m n) k52 y1 m y2 y4 := hR
    refine X.iload 7 (zi238 5) rfl rfl rfl ?_
    refine X.aload_n 8 (zi238 7) rfl rfl rfl ?_
    refine X.callv 11 [] [zi y4] [(0, zr 4 44)] (zi238 8) rfl (by decide) rfl rfl (by omega) rfl rfl (by decide) rfl t206 (Nat.le_of_ble_eq_true rfl) (Nat.le_of_ble_eq_true rfl) rfl ?_
    refine X.aload_n 1 (zi206 0) rfl rfl rfl ?_
    refine X.getF 4 (zi206 1) rfl rfl (by decide) rfl rfl ?_
    refine X.iconst 5 (zi206 4) rfl rfl (by decide) ?_
    refine X.lald 6 (zi206 5) rfl rfl (by decide) rfl (by omega) ?_
    have h536 := r45_1 hJ 4
    refine X.l2i 7 (zi206 6) rfl rfl (by omega) ?_
    refine X.reti (zi206 7) rfl t206 ?_
    show X (EE s) d 238 11 [(0, zr 4 44), (1, zi y1), (2, zl y2), (4, zi y4)] [zi (m 4 45 1), zi y4] m _
    refine X.icmpge 52 14 (zi238 11) rfl rfl rfl (fun h537 => ?_) (fun h537 => ?_)
    · refine X.cut [(2, zl y2)] (zi238 52) rfl ?_
      exact K52 y2 (by first | trivial | omega) (Eq.trans hR (Eq.trans (if_pos h537) rfl))
    · refine X.aload_n 15 (zi238 14) rfl rfl rfl ?_
      refine X.iload_n 16 (zi238 15) rfl rfl rfl ?_
      refine X.iload 18 (zi238 16) rfl rfl rfl ?_
      refine X.callv 21 [zi y1, zi y4] [] [(0, zr 4 44), (1, zi y1), (2, zi y4)] (zi238 18) rfl (by decide) rfl rfl (by omega) rfl rfl (by decide) rfl t213 (Nat.le_of_ble_eq_true rfl) (Nat.le_of_ble_eq_true rfl) rfl ?_
      refine c213_1 (B := B)  y1 y4 (by omega) (hJ.up (by omega)) (by omega) (by omega) (by omega) (fun v540 hv540 hFv540 => ?_)
      show X (EE s) d 238 21 [(0, zr 4 44), (1, zi y1), (2, zl y2), (4, zi y4)] [zl v540] m _
      refine X.aload_n 22 (zi238 21) rfl rfl rfl ?_
      refine X.callv 25 [] [zl v540] [(0, zr 4 44)] (zi238 22) rfl (by decide) rfl rfl (by omega) rfl rfl (by decide) rfl t211 (Nat.le_of_ble_eq_true rfl) (Nat.le_of_ble_eq_true rfl) rfl ?_
      refine X.aload_n 1 (zi211 0) rfl rfl rfl ?_
      refine X.getF 4 (zi211 1) rfl rfl (by decide) rfl rfl ?_
      refine X.iconst 5 (zi211 4) rfl rfl (by decide) ?_
      refine X.lald 6 (zi211 5) rfl rfl (by decide) rfl (by omega) ?_
      have h541 := r45_2 hJ 4
      refine X.l2i 7 (zi211 6) rfl rfl (by omega) ?_
      refine X.reti (zi211 7) rfl t211 ?_
      show X (EE s) d 238 25 [(0, zr 4 44), (1, zi y1), (2, zl y2), (4, zi y4)] [zi (m 4 45 2), zl v540] m _
      refine X.i2l 26 (zi238 25) rfl rfl ?_
      refine X.ldivp 27 (zi238 26) rfl rfl (by omega) ?_
      have hz542 := z_divb (x := v540) (y := (m 4 45 2)) (by omega) (by omega)
      obtain ⟨z542, ez542⟩ : ∃ z, z = (v540 / (m 4 45 2)) := ⟨_, rfl⟩
      rw [← ez542] at hz542 ⊢
      refine X.calls 30 [zl z542] [] [(0, zl z542)] (zi238 27) (by decide) rfl rfl (by omega) rfl rfl t214 (Nat.le_of_ble_eq_true rfl) (Nat.le_of_ble_eq_true rfl) rfl ?_
      refine c214_1 (B := B)  z542 (by omega) (hJ.up (by omega)) (by omega) (by omega) (fun v545 hv545 hFv545 => ?_)
      show X (EE s) d 238 30 [(0, zr 4 44), (1, zi y1), (2, zl y2), (4, zi y4)] [zl v545] m _
      refine X.lstore 32 [(0, zr 4 44), (1, zi y1), (2, zl y2), (4, zi y4), (5, zl v545)] (zi238 30) rfl rfl rfl ?_
      refine X.lload 34 (zi238 32) rfl rfl rfl ?_
      refine X.lload_n 35 (zi238 34) rfl rfl rfl ?_
      refine X.lcmp 36 (zi238 35) rfl rfl (fun z546 hz546 => ?_)
      have hK551 : ∀ (v : Int) , (0 ≤ v ∧ v ≤ 3000000000) → (if v545 ≤ y2 then
          (y2)
          else
          (v545)) = v → X (EE s) d 238 45 [(0, zr 4 44), (1, zi y1), (4, zi y4)] [zl v] m Q := by
        intro v548 hv548 hT552
        refine X.lstore_n 46 [(0, zr 4 44), (1, zi y1), (2, zl v548), (4, zi y4)] (zi238 45) rfl rfl rfl ?_
        refine X.iinc 49 [(0, zr 4 44), (1, zi y1), (2, zl v548), (4, zi (y4 + 1))] (zi238 46) rfl rfl rfl (by omega) rfl ?_
        refine X.goto 5 (zi238 49) rfl rfl ?_
        exact ih v548 (y4 + 1) (by omega) (by omega) (by omega) (Eq.trans hR (Eq.trans (if_neg h537) (Eq.trans (zn_eq hFv540.symm) (Eq.trans (zn_eq ez542) (Eq.trans (zn_eq hFv545.symm) (Eq.trans (zn_eq hT552.symm) rfl))))))
      refine X.ifle 44 39 (zi238 36) rfl rfl rfl (fun h547 => ?_) (fun h547 => ?_)
      · have h547c : v545 ≤ y2 := by omega
        clear h547 hz546
        refine X.cut [(0, zr 4 44), (1, zi y1), (2, zl y2), (4, zi y4)] (zi238 44) rfl ?_
        refine X.lload_n 45 (zi238 44) rfl rfl rfl ?_
        refine X.cut [(0, zr 4 44), (1, zi y1), (4, zi y4)] (zi238 45) rfl ?_
        exact hK551 y2 (by first | trivial | omega) (Eq.trans (if_pos h547c) rfl)
      · have h547c : ¬ v545 ≤ y2 := by omega
        clear h547 hz546
        refine X.lload 41 (zi238 39) rfl rfl rfl ?_
        refine X.goto 45 (zi238 41) rfl rfl ?_
        refine X.cut [(0, zr 4 44), (1, zi y1), (4, zi y4)] (zi238 45) rfl ?_
        exact hK551 v545 (by first | trivial | omega) (Eq.trans (if_neg h547c) rfl)
-- WorkMeterModel.greatestRoot
theorem c238_2 {s : Nat × (Nat → Int32)} {S : zS} {m0 m : zM} {B : Int} {d : Nat} {Q : Option zV → zM → Prop} (a1 : Int) (hd : 14 ≤ d) (hJ : J S m0 B m) (hB : B + 0 ≤ 1000000000) (ha1 : 143 ≤ a1 ∧ a1 ≤ 143) (hQ : ∀ (v : Int), (0 ≤ v ∧ v ≤ 3000000000) → f238_1 a1 m = v → Q (some (zl v)) m) : X (EE s) d 238 0 [(0, zr 4 44), (1, zi a1)] [] m Q := by
  refine X.lconst (y := 0) 1 (zi238 0) rfl rfl rfl ?_
  refine X.lstore_n 2 [(0, zr 4 44), (1, zi a1), (2, zl 0)] (zi238 1) rfl rfl rfl ?_
  refine X.iconst 3 (zi238 2) rfl rfl (by decide) ?_
  refine X.istore 5 [(0, zr 4 44), (1, zi a1), (2, zl 0), (4, zi 0)] (zi238 3) rfl rfl rfl ?_
  have hz4 := zfu_eq 4
  refine l238_5_2 (s := s) (m := m) (B := B) (d := d) (R0 := (f238_1 a1 m))  a1  (by omega) (hJ.up (by omega)) (by omega) (by omega) (fun y501 hby501 hR505 => ?_) (zfu 4) 0 0 (by omega) (by omega) (by omega) rfl
  refine X.lload_n 53 (zi238 52) rfl rfl rfl ?_
  refine X.retl (zi238 53) rfl t238 ?_
  exact hQ y501 (by first | trivial | omega) (Eq.trans hR505 rfl) 
-- WorkMeterModel.thousandths
noncomputable def f239_1 (a0 a1 : Int) (m : zM) : Int :=
  zn (if a1 = 0 then
  (0)
  else
  (if a0 < 0 then
  (zn (((1000 * (-a0)) / a1)) fun z506 =>
  (-z506))
  else
  (zn (((1000 * a0) / a1)) fun z505 =>
  z505))) fun v507 =>
  v507
-- WorkMeterModel.thousandths
theorem c239_1 {s : Nat × (Nat → Int32)} {S : zS} {m0 m : zM} {B : Int} {d : Nat} {Q : Option zV → zM → Prop} (a0 a1 : Int) (hd : 13 ≤ d) (hJ : J S m0 B m) (hB : B + 0 ≤ 1000000000) (ha0 : (-12000000) ≤ a0 ∧ a0 ≤ 12000000) (ha1 : 0 ≤ a1 ∧ a1 ≤ 3000000000) (hQ : ∀ (v : Int), ((-12000000000) ≤ v ∧ v ≤ 12000000000) → f239_1 a0 a1 m = v → Q (some (zl v)) m) : X (EE s) d 239 0 [(0, zl a0), (2, zl a1)] [] m Q := by
  refine X.lload_n 1 (zi239 0) rfl rfl rfl ?_
  refine X.lconst (y := 0) 2 (zi239 1) rfl rfl rfl ?_
  refine X.lcmp 3 (zi239 2) rfl rfl (fun z501 hz501 => ?_)
  have hK510 : ∀ (v : Int) , ((-12000000000) ≤ v ∧ v ≤ 12000000000) → (if a1 = 0 then
      (0)
      else
      (if a0 < 0 then
      (zn (((1000 * (-a0)) / a1)) fun z506 =>
      (-z506))
      else
      (zn (((1000 * a0) / a1)) fun z505 =>
      z505))) = v → X (EE s) d 239 35 [] [zl v] m Q := by
    intro v507 hv507 hT511
    refine X.retl (zi239 35) rfl t239 ?_
    exact hQ v507 (by first | trivial | omega) (Eq.trans (zn_eq hT511.symm) rfl) 
  refine X.ifne 10 6 (zi239 3) rfl rfl rfl (fun h502 => ?_) (fun h502 => ?_)
  · have h502c : ¬ a1 = 0 := by omega
    clear h502 hz501
    refine X.lload_n 11 (zi239 10) rfl rfl rfl ?_
    refine X.lconst (y := 0) 12 (zi239 11) rfl rfl rfl ?_
    refine X.lcmp 13 (zi239 12) rfl rfl (fun z503 hz503 => ?_)
    refine X.ifge 28 16 (zi239 13) rfl rfl rfl (fun h504 => ?_) (fun h504 => ?_)
    · have h504c : ¬ a0 < 0 := by omega
      clear h504 hz503
      refine X.ldc2 31 (zi239 28) rfl rfl (by decide) ?_
      refine X.lload_n 32 (zi239 31) rfl rfl rfl ?_
      refine X.lmul 33 (zi239 32) rfl rfl (by omega) ?_
      refine X.lload_n 34 (zi239 33) rfl rfl rfl ?_
      refine X.ldivp 35 (zi239 34) rfl rfl (by omega) ?_
      have hz505 := z_divb (x := (1000 * a0)) (y := a1) (by omega) (by omega)
      obtain ⟨z505, ez505⟩ : ∃ z, z = ((1000 * a0) / a1) := ⟨_, rfl⟩
      rw [← ez505] at hz505 ⊢
      refine X.cut [] (zi239 35) rfl ?_
      exact hK510 z505 (by first | trivial | omega) (Eq.trans (if_neg h502c) (Eq.trans (if_neg h504c) (Eq.trans (zn_eq ez505) rfl)))
    · have h504c : a0 < 0 := by omega
      clear h504 hz503
      refine X.ldc2 19 (zi239 16) rfl rfl (by decide) ?_
      refine X.lload_n 20 (zi239 19) rfl rfl rfl ?_
      refine X.lneg 21 (zi239 20) rfl rfl (by omega) ?_
      refine X.lmul 22 (zi239 21) rfl rfl (by omega) ?_
      refine X.lload_n 23 (zi239 22) rfl rfl rfl ?_
      refine X.ldivp 24 (zi239 23) rfl rfl (by omega) ?_
      have hz506 := z_divb (x := (1000 * (-a0))) (y := a1) (by omega) (by omega)
      obtain ⟨z506, ez506⟩ : ∃ z, z = ((1000 * (-a0)) / a1) := ⟨_, rfl⟩
      rw [← ez506] at hz506 ⊢
      refine X.lneg 25 (zi239 24) rfl rfl (by omega) ?_
      refine X.goto 35 (zi239 25) rfl rfl ?_
      refine X.cut [] (zi239 35) rfl ?_
      exact hK510 (-z506) (by first | trivial | omega) (Eq.trans (if_neg h502c) (Eq.trans (if_pos h504c) (Eq.trans (zn_eq ez506) rfl)))
  · have h502c : a1 = 0 := by omega
    clear h502 hz501
    refine X.lconst (y := 0) 7 (zi239 6) rfl rfl rfl ?_
    refine X.goto 35 (zi239 7) rfl rfl ?_
    refine X.cut [] (zi239 35) rfl ?_
    exact hK510 0 (by first | trivial | omega) (Eq.trans (if_pos h502c) rfl)
end
