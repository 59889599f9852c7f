section
-- WorkMeter$CalendarText.readSeason
theorem c106_1 {s : Nat × (Nat → Int32)} {S : zS} {m0 m : zM} {B : Int} {d : Nat} {Q : Option zV → zM → Prop} (hd : 16 ≤ d) (hJ : J S m0 B m) (hB : B + 0 ≤ 1000000000) (hp0 : m 4 41 7 + 6 ≤ 300) (hf1 : ¬ S.1 1) (hf16 : ¬ S.1 16) (hf19 : ¬ S.1 19) (hg3 : ¬ S.2.1 3) (hg4 : ¬ S.2.1 4) (hQ : ∀ (v : Int) m', (0 ≤ v ∧ v ≤ 1) → f106_1 m = (v, m') → J S m0 (B) m' → Q (some (zi v)) m') : X (EE s) d 106 0 [(0, zr 4 41)] [] m Q := by
  refine X.aload_n 1 (zi106 0) rfl rfl rfl ?_
  refine X.ldcS 3 (zi106 1) rfl rfl (by decide) ?_
  refine X.callv 6 [zr 99 5] [] [(0, zr 4 41), (1, zr 99 5)] (zi106 3) rfl (by decide) rfl rfl (by omega) rfl rfl (by decide) rfl t98 (Nat.le_of_ble_eq_true rfl) (Nat.le_of_ble_eq_true rfl) rfl ?_
  refine X.aload_n 1 (zi98 0) rfl rfl rfl ?_
  refine X.dup 2 (zi98 1) rfl rfl rfl ?_
  refine X.getI 5 7 (zi98 2) rfl rfl (by decide) rfl rfl rfl ?_
  have h501 := r41_7 hJ 4
  refine X.aload_n 6 (zi98 5) rfl rfl rfl ?_
  refine X.slen 9 (zi98 6) rfl rfl (by omega) (Nat.le_of_ble_eq_true rfl) (by decide) (show (6 : Nat) < 2147483648 by decide) ?_
  show X (EE s) (d - 1) 98 9 [(0, zr 4 41), (1, zr 99 5)] [zi 6, zi (m 4 41 7), zr 4 41] m _
  refine X.iadd 10 (zi98 9) rfl rfl (by omega) ?_
  refine X.putI' 13 7 (zi98 10) rfl rfl (by decide) rfl rfl rfl (fun hrm502 m502 hm502 => ?_)
  have hJ503 := w41_7 hJ hm502 (by omega) hf19 hg4
  have em502 : m502 4 41 7 = ((m 4 41 7) + 6) := by rw [hm502]; exact z_upd_same _ _ _ _ _
  refine X.retv (zi98 13) rfl t98 ?_
  show X (EE s) d 106 6 [(0, zr 4 41)] [] m502 _
  refine X.aload_n 7 (zi106 6) rfl rfl rfl ?_
  refine X.iconst 8 (zi106 7) rfl rfl (by decide) ?_
  refine X.aload_n 9 (zi106 8) rfl rfl rfl ?_
  refine X.getIr 12 10 (zi106 9) rfl rfl (by decide) rfl rfl rfl (fun h504 => ?_)
  refine X.callv 15 [zi 3, zi (m502 4 41 10)] [] [(0, zr 4 41), (1, zi 3), (2, zi (m502 4 41 10))] (zi106 12) rfl (by decide) rfl rfl (by omega) rfl rfl (by decide) rfl t99 (Nat.le_of_ble_eq_true rfl) (Nat.le_of_ble_eq_true rfl) rfl ?_
  refine c99_1 (B := B)  3 (m502 4 41 10) (by omega) (hJ503.up (by omega)) (by omega) (by omega) (by omega) hf16 hf19 hg4 (fun v507 m505 hv507 hFv507 hJ506 hqv507_0 => ?_)
  show X (EE s) d 106 15 [(0, zr 4 41)] [zi v507] m505 _
  refine X.istore_n 16 [(0, zr 4 41), (1, zi v507)] (zi106 15) rfl rfl rfl ?_
  refine X.iload_n 17 (zi106 16) rfl rfl rfl ?_
  refine X.iconst 18 (zi106 17) rfl rfl (by decide) ?_
  refine X.icmpne 23 21 (zi106 18) rfl rfl rfl (fun h508 => ?_) (fun h508 => ?_)
  · refine X.aload_n 24 (zi106 23) rfl rfl rfl ?_
    refine X.dup 25 (zi106 24) rfl rfl rfl ?_
    refine X.getIr 28 10 (zi106 25) rfl rfl (by decide) rfl rfl rfl (fun h509 => ?_)
    refine X.iconst 29 (zi106 28) rfl rfl (by decide) ?_
    refine X.iload_n 30 (zi106 29) rfl rfl rfl ?_
    refine X.iiE 31 .ishl (fun x y => x <<< (y &&& 31)) (zi106 30) rfl rfl rfl (fun _ _ => rfl) (fun z510 ez510 hz510 => ?_)
    refine X.iiE 32 .ior (fun x y => x ||| y) (zi106 31) rfl rfl rfl (fun _ _ => rfl) (fun z511 ez511 hz511 => ?_)
    refine X.putI' 35 10 (zi106 32) rfl rfl (by decide) rfl rfl rfl (fun hrm512 m512 hm512 => ?_)
    have hJ513 := w41_8 hJ506 hm512 (by omega) hrm512 hf19 hg4
    refine X.aload_n 36 (zi106 35) rfl rfl rfl ?_
    refine X.sipush 39 (zi106 36) rfl rfl (by decide) ?_
    refine X.callv 42 [zi 364] [] [(0, zr 4 41), (1, zi 364)] (zi106 39) rfl (by decide) rfl rfl (by omega) rfl rfl (by decide) rfl t100 (Nat.le_of_ble_eq_true rfl) (Nat.le_of_ble_eq_true rfl) rfl ?_
    refine c100_1 (B := B)  364 (by omega) (hJ513.up (by omega)) (by omega) (by omega) hf16 hf19 hg4 (fun v516 m514 hv516 hFv516 hJ515 hqv516_0 => ?_)
    show X (EE s) d 106 42 [(0, zr 4 41), (1, zi v507)] [zi v516] m514 _
    refine X.istore_n 43 [(0, zr 4 41), (1, zi v507), (2, zi v516)] (zi106 42) rfl rfl rfl ?_
    refine X.iload_n 44 (zi106 43) rfl rfl rfl ?_
    refine X.iconst 45 (zi106 44) rfl rfl (by decide) ?_
    refine X.icmpne 50 48 (zi106 45) rfl rfl rfl (fun h517 => ?_) (fun h517 => ?_)
    · refine X.aload_n 51 (zi106 50) rfl rfl rfl ?_
      refine X.getF 54 (zi106 51) rfl rfl (by decide) rfl rfl ?_
      refine X.getR 57 (zi106 54) rfl rfl (by decide) rfl rfl ?_
      refine X.iload_n 58 (zi106 57) rfl rfl rfl ?_
      refine X.iload_n 59 (zi106 58) rfl rfl rfl ?_
      refine X.iast' 60 (zi106 59) rfl rfl (by decide) rfl (by omega) (fun hrm518 m518 hm518 => ?_)
      have hJ519 := w15_0 hJ515 hm518 (by omega) (by omega) hf1 hg3
      refine X.iconst 61 (zi106 60) rfl rfl (by decide) ?_
      refine X.istore_n 62 [(0, zr 4 41), (1, zi v507), (2, zi v516), (3, zi 0)] (zi106 61) rfl rfl rfl ?_
      refine X.cut [(0, zr 4 41), (1, zi v507), (3, zi 0)] (zi106 62) rfl ?_
      have hz8 := zfu_eq 8
      refine l106_62_1 (s := s) (d := d) (R0 := (f106_1 m))  v507  (BE := B + 0) (by omega) (by omega) (by omega) hf1 hf16 hf19 hg3 hg4 (fun y520 y521 m522 B523 hJ524 hBB523 hby520 hby521 hR525 => ?_) (fun  m526 B527 hJ528 hBB527 hR529 => ?_) (zfu 8) 0 m518 (B) (hJ519.up (by omega)) (by omega) (by omega) (by omega) (Eq.trans (zs_eq hm502) (Eq.trans (zb_eq hFv507) (Eq.trans (if_neg h508) (Eq.trans (zn_eq ez510) (Eq.trans (zn_eq ez511) (Eq.trans (zs_eq hm512) (Eq.trans (zb_eq hFv516) (Eq.trans (if_neg h517) (Eq.trans (zs_eq hm518) rfl)))))))))
      · refine X.iconst 83 (zi106 82) rfl rfl (by decide) ?_
        refine X.retz (zi106 83) rfl t106 (by omega) ?_
        exact hQ 0 m522 (by first | trivial | omega) (Eq.trans hR525 rfl) (hJ524.up (by omega)) 
      · refine X.iconst 107 (zi106 106) rfl rfl (by decide) ?_
        refine X.retz (zi106 107) rfl t106 (by omega) ?_
        exact hQ 1 m526 (by first | trivial | omega) (Eq.trans hR529 rfl) (hJ528.up (by omega)) 
    · refine X.iconst 49 (zi106 48) rfl rfl (by decide) ?_
      refine X.retz (zi106 49) rfl t106 (by omega) ?_
      exact hQ 0 m514 (by first | trivial | omega) (Eq.trans (zs_eq hm502) (Eq.trans (zb_eq hFv507) (Eq.trans (if_neg h508) (Eq.trans (zn_eq ez510) (Eq.trans (zn_eq ez511) (Eq.trans (zs_eq hm512) (Eq.trans (zb_eq hFv516) (Eq.trans (if_pos h517) rfl)))))))) (hJ515.up (by omega)) 
  · refine X.iconst 22 (zi106 21) rfl rfl (by decide) ?_
    refine X.retz (zi106 22) rfl t106 (by omega) ?_
    exact hQ 0 m505 (by first | trivial | omega) (Eq.trans (zs_eq hm502) (Eq.trans (zb_eq hFv507) (Eq.trans (if_pos h508) rfl))) (hJ506.up (by omega)) 
-- WorkMeter$CalendarText.digitHere
noncomputable def f103_1 (m : zM) : Int × zM :=
  zs (f93_1 m) fun m501 =>
  zn (if (m501 4 41 3) ≤ (m501 4 41 7) then
  (0)
  else
  (if (m501 4 42 (m501 4 41 7)) < 48 then
  (0)
  else
  (if 57 < (m501 4 42 (m501 4 41 7)) then
  (0)
  else
  (1)))) fun v513 =>
  (v513, m501)
-- WorkMeter$CalendarText.digitHere
theorem c103_1 {s : Nat × (Nat → Int32)} {S : zS} {m0 m : zM} {B : Int} {d : Nat} {Q : Option zV → zM → Prop} (hd : 14 ≤ d) (hJ : J S m0 B m) (hB : B + 0 ≤ 1000000000) (hf19 : ¬ S.1 19) (hg4 : ¬ S.2.1 4) (hQ : ∀ (v : Int) m', (0 ≤ v ∧ v ≤ 1) → f103_1 m = (v, m') → J S m0 (B) m' → Q (some (zi v)) m') : X (EE s) d 103 0 [(0, zr 4 41)] [] m Q := by
  refine X.aload_n 1 (zi103 0) rfl rfl rfl ?_
  refine X.callv 4 [] [] [(0, zr 4 41)] (zi103 1) rfl (by decide) rfl rfl (by omega) rfl rfl (by decide) rfl t93 (Nat.le_of_ble_eq_true rfl) (Nat.le_of_ble_eq_true rfl) rfl ?_
  refine c93_1 (B := B)   (by omega) (hJ.up (by omega)) (by omega)  hf19 hg4 (fun m501 hFv503 hJ502 => ?_)
  show X (EE s) d 103 4 [(0, zr 4 41)] [] m501 _
  refine X.aload_n 5 (zi103 4) rfl rfl rfl ?_
  refine X.getI 8 7 (zi103 5) rfl rfl (by decide) rfl rfl rfl ?_
  have h504 := r41_7 hJ502 4
  refine X.aload_n 9 (zi103 8) rfl rfl rfl ?_
  refine X.getI 12 3 (zi103 9) rfl rfl (by decide) rfl rfl rfl ?_
  have h505 := r41_3 hJ502 4
  have hK516 : ∀ (v : Int) , (0 ≤ v ∧ v ≤ 1) → (if (m501 4 41 3) ≤ (m501 4 41 7) then
      (0)
      else
      (if (m501 4 42 (m501 4 41 7)) < 48 then
      (0)
      else
      (if 57 < (m501 4 42 (m501 4 41 7)) then
      (0)
      else
      (1)))) = v → X (EE s) d 103 35 [] [zi v] m501 Q := by
    intro v513 hv513 hT517
    refine X.retz (zi103 35) rfl t103 (by omega) ?_
    exact hQ v513 m501 (by first | trivial | omega) (Eq.trans (zs_eq hFv503.symm) (Eq.trans (zn_eq hT517.symm) rfl)) (hJ502.up (by omega)) 
  refine X.icmpge 34 15 (zi103 12) rfl rfl rfl (fun h506 => ?_) (fun h506 => ?_)
  · refine X.cut [] (zi103 34) rfl ?_
    refine X.iconst 35 (zi103 34) rfl rfl (by decide) ?_
    exact hK516 0 (by first | trivial | omega) (Eq.trans (if_pos h506) rfl)
  · refine X.aload_n 16 (zi103 15) rfl rfl rfl ?_
    refine X.getF 19 (zi103 16) rfl rfl (by decide) rfl rfl ?_
    refine X.aload_n 20 (zi103 19) rfl rfl rfl ?_
    refine X.getI 23 7 (zi103 20) rfl rfl (by decide) rfl rfl rfl ?_
    refine X.iald 24 (zi103 23) rfl rfl (by decide) rfl (by omega) ?_
    have h507 := r42_0 hJ502 4 (i := (m501 4 41 7)) (by omega)
    refine X.calls 27 [zi (m501 4 42 (m501 4 41 7))] [] [(0, zi (m501 4 42 (m501 4 41 7)))] (zi103 24) (by decide) rfl rfl (by omega) rfl rfl t101 (Nat.le_of_ble_eq_true rfl) (Nat.le_of_ble_eq_true rfl) rfl ?_
    refine X.iload_n 1 (zi101 0) rfl rfl rfl ?_
    refine X.bipush 3 (zi101 1) rfl rfl (by decide) ?_
    refine X.icmplt 16 6 (zi101 3) rfl rfl rfl (fun h508 => ?_) (fun h508 => ?_)
    · refine X.cut [] (zi101 16) rfl ?_
      refine X.iconst 17 (zi101 16) rfl rfl (by decide) ?_
      refine X.retz (zi101 17) rfl t101 (by omega) ?_
      show X (EE s) d 103 27 [(0, zr 4 41)] [zi 0] m501 _
      refine X.ifeq 34 30 (zi103 27) rfl rfl rfl (fun h509 => ?_) (fun h509 => (by exfalso; omega))
      refine X.cut [] (zi103 34) rfl ?_
      refine X.iconst 35 (zi103 34) rfl rfl (by decide) ?_
      exact hK516 0 (by first | trivial | omega) (Eq.trans (if_neg h506) (Eq.trans (if_pos h508) rfl))
    · refine X.iload_n 7 (zi101 6) rfl rfl rfl ?_
      refine X.bipush 9 (zi101 7) rfl rfl (by decide) ?_
      refine X.icmpgt 16 12 (zi101 9) rfl rfl rfl (fun h510 => ?_) (fun h510 => ?_)
      · refine X.cut [] (zi101 16) rfl ?_
        refine X.iconst 17 (zi101 16) rfl rfl (by decide) ?_
        refine X.retz (zi101 17) rfl t101 (by omega) ?_
        show X (EE s) d 103 27 [(0, zr 4 41)] [zi 0] m501 _
        refine X.ifeq 34 30 (zi103 27) rfl rfl rfl (fun h511 => ?_) (fun h511 => (by exfalso; omega))
        refine X.cut [] (zi103 34) rfl ?_
        refine X.iconst 35 (zi103 34) rfl rfl (by decide) ?_
        exact hK516 0 (by first | trivial | omega) (Eq.trans (if_neg h506) (Eq.trans (if_neg h508) (Eq.trans (if_pos h510) rfl)))
      · refine X.iconst 13 (zi101 12) rfl rfl (by decide) ?_
        refine X.goto 17 (zi101 13) rfl rfl ?_
        refine X.cut [] (zi101 17) rfl ?_
        refine X.retz (zi101 17) rfl t101 (by omega) ?_
        show X (EE s) d 103 27 [(0, zr 4 41)] [zi 1] m501 _
        refine X.ifeq 34 30 (zi103 27) rfl rfl rfl (fun h512 => (by exfalso; omega)) (fun h512 => ?_)
        refine X.iconst 31 (zi103 30) rfl rfl (by decide) ?_
        refine X.goto 35 (zi103 31) rfl rfl ?_
        refine X.cut [] (zi103 35) rfl ?_
        exact hK516 1 (by first | trivial | omega) (Eq.trans (if_neg h506) (Eq.trans (if_neg h508) (Eq.trans (if_neg h510) rfl)))
-- WorkMeter$CalendarText.readSign
noncomputable def f105_1 (a1 : Int) (m : zM) : Int × zM :=
  zs (f93_1 m) fun m501 =>
  if (m501 4 41 3) ≤ (m501 4 41 7) then
  (zb (f102_1 1 (m501 4 41 7) m501) fun v509 m507 =>
  (v509, m507))
  else
  (if (m501 4 42 (m501 4 41 7)) = a1 then
  (zs (z_upd m501 4 41 7 ((m501 4 41 7) + 1)) fun m512 =>
  (1, m512))
  else
  (zb (f102_1 1 (m501 4 41 7) m501) fun v516 m514 =>
  (v516, m514)))
-- WorkMeter$CalendarText.readSign
theorem c105_1 {s : Nat × (Nat → Int32)} {S : zS} {m0 m : zM} {B : Int} {d : Nat} {Q : Option zV → zM → Prop} (a1 : Int) (hd : 14 ≤ d) (hJ : J S m0 B m) (hB : B + 0 ≤ 1000000000) (ha1 : 58 ≤ a1 ∧ a1 ≤ 58) (hf16 : ¬ S.1 16) (hf19 : ¬ S.1 19) (hg4 : ¬ S.2.1 4) (hQ : ∀ (v : Int) m', (0 ≤ v ∧ v ≤ 1) → f105_1 a1 m = (v, m') → J S m0 (B) m' → Q (some (zi v)) m') : X (EE s) d 105 0 [(0, zr 4 41), (1, zi a1)] [] m Q := by
  refine X.aload_n 1 (zi105 0) rfl rfl rfl ?_
  refine X.callv 4 [] [] [(0, zr 4 41)] (zi105 1) rfl (by decide) rfl rfl (by omega) rfl rfl (by decide) rfl t93 (Nat.le_of_ble_eq_true rfl) (Nat.le_of_ble_eq_true rfl) rfl ?_
  refine c93_1 (B := B)   (by omega) (hJ.up (by omega)) (by omega)  hf19 hg4 (fun m501 hFv503 hJ502 => ?_)
  show X (EE s) d 105 4 [(0, zr 4 41), (1, zi a1)] [] m501 _
  refine X.aload_n 5 (zi105 4) rfl rfl rfl ?_
  refine X.getI 8 7 (zi105 5) rfl rfl (by decide) rfl rfl rfl ?_
  have h504 := r41_7 hJ502 4
  refine X.aload_n 9 (zi105 8) rfl rfl rfl ?_
  refine X.getI 12 3 (zi105 9) rfl rfl (by decide) rfl rfl rfl ?_
  have h505 := r41_3 hJ502 4
  refine X.icmpge 28 15 (zi105 12) rfl rfl rfl (fun h506 => ?_) (fun h506 => ?_)
  · refine X.cut [(0, zr 4 41)] (zi105 28) rfl ?_
    refine X.aload_n 29 (zi105 28) rfl rfl rfl ?_
    refine X.iconst 30 (zi105 29) rfl rfl (by decide) ?_
    refine X.aload_n 31 (zi105 30) rfl rfl rfl ?_
    refine X.getI 34 7 (zi105 31) rfl rfl (by decide) rfl rfl rfl ?_
    refine X.callv 37 [zi 1, zi (m501 4 41 7)] [] [(0, zr 4 41), (1, zi 1), (2, zi (m501 4 41 7))] (zi105 34) rfl (by decide) rfl rfl (by omega) rfl rfl (by decide) rfl t102 (Nat.le_of_ble_eq_true rfl) (Nat.le_of_ble_eq_true rfl) rfl ?_
    refine c102_1 (B := B)  1 (m501 4 41 7) (by omega) (hJ502.up (by omega)) (by omega) (by omega) (by omega) hf16 hg4 (fun v509 m507 hv509 hFv509 hJ508 => ?_)
    show X (EE s) d 105 37 [(0, zr 4 41)] [zi v509] m507 _
    refine X.retz (zi105 37) rfl t105 (by omega) ?_
    exact hQ v509 m507 (by first | trivial | omega) (Eq.trans (zs_eq hFv503.symm) (Eq.trans (if_pos h506) (Eq.trans (zb_eq hFv509) rfl))) (hJ508.up (by omega)) 
  · refine X.aload_n 16 (zi105 15) rfl rfl rfl ?_
    refine X.getF 19 (zi105 16) rfl rfl (by decide) rfl rfl ?_
    refine X.aload_n 20 (zi105 19) rfl rfl rfl ?_
    refine X.getI 23 7 (zi105 20) rfl rfl (by decide) rfl rfl rfl ?_
    refine X.iald 24 (zi105 23) rfl rfl (by decide) rfl (by omega) ?_
    have h510 := r42_0 hJ502 4 (i := (m501 4 41 7)) (by omega)
    refine X.iload_n 25 (zi105 24) rfl rfl rfl ?_
    refine X.icmpeq 38 28 (zi105 25) rfl rfl rfl (fun h511 => ?_) (fun h511 => ?_)
    · refine X.cut [(0, zr 4 41)] (zi105 38) rfl ?_
      refine X.aload_n 39 (zi105 38) rfl rfl rfl ?_
      refine X.dup 40 (zi105 39) rfl rfl rfl ?_
      refine X.getI 43 7 (zi105 40) rfl rfl (by decide) rfl rfl rfl ?_
      refine X.iconst 44 (zi105 43) rfl rfl (by decide) ?_
      refine X.iadd 45 (zi105 44) rfl rfl (by omega) ?_
      refine X.putI' 48 7 (zi105 45) rfl rfl (by decide) rfl rfl rfl (fun hrm512 m512 hm512 => ?_)
      have hJ513 := w41_7 hJ502 hm512 (by omega) hf19 hg4
      have em512 : m512 4 41 7 = ((m501 4 41 7) + 1) := by rw [hm512]; exact z_upd_same _ _ _ _ _
      refine X.iconst 49 (zi105 48) rfl rfl (by decide) ?_
      refine X.retz (zi105 49) rfl t105 (by omega) ?_
      exact hQ 1 m512 (by first | trivial | omega) (Eq.trans (zs_eq hFv503.symm) (Eq.trans (if_neg h506) (Eq.trans (if_pos h511) (Eq.trans (zs_eq hm512) rfl)))) (hJ513.up (by omega)) 
    · refine X.cut [(0, zr 4 41)] (zi105 28) rfl ?_
      refine X.aload_n 29 (zi105 28) rfl rfl rfl ?_
      refine X.iconst 30 (zi105 29) rfl rfl (by decide) ?_
      refine X.aload_n 31 (zi105 30) rfl rfl rfl ?_
      refine X.getI 34 7 (zi105 31) rfl rfl (by decide) rfl rfl rfl ?_
      refine X.callv 37 [zi 1, zi (m501 4 41 7)] [] [(0, zr 4 41), (1, zi 1), (2, zi (m501 4 41 7))] (zi105 34) rfl (by decide) rfl rfl (by omega) rfl rfl (by decide) rfl t102 (Nat.le_of_ble_eq_true rfl) (Nat.le_of_ble_eq_true rfl) rfl ?_
      refine c102_1 (B := B)  1 (m501 4 41 7) (by omega) (hJ502.up (by omega)) (by omega) (by omega) (by omega) hf16 hg4 (fun v516 m514 hv516 hFv516 hJ515 => ?_)
      show X (EE s) d 105 37 [(0, zr 4 41)] [zi v516] m514 _
      refine X.retz (zi105 37) rfl t105 (by omega) ?_
      exact hQ v516 m514 (by first | trivial | omega) (Eq.trans (zs_eq hFv503.symm) (Eq.trans (if_neg h506) (Eq.trans (if_neg h511) (Eq.trans (zb_eq hFv516) rfl)))) (hJ515.up (by omega)) 
-- WorkMeter$CalendarText.fail
theorem c102_6 {s : Nat × (Nat → Int32)} {S : zS} {m0 m : zM} {B : Int} {d : Nat} {Q : Option zV → zM → Prop} (a1 a2 : Int) (hd : 13 ≤ d) (hJ : J S m0 B m) (hB : B + 0 ≤ 1000000000) (ha1 : 4 ≤ a1 ∧ a1 ≤ 4) (ha2 : (-2147483648) ≤ a2 ∧ a2 ≤ 2147483647) (hf16 : ¬ S.1 16) (hg4 : ¬ S.2.1 4) (hQ : ∀ (v : Int) m', (0 ≤ v ∧ v ≤ 0) → f102_1 a1 a2 m = (v, m') → J S m0 (B) m' → Q (some (zi v)) m') : X (EE s) d 102 0 [(0, zr 4 41), (1, zi a1), (2, zi a2)] [] m Q := by
  refine X.aload_n 1 (zi102 0) rfl rfl rfl ?_
  refine X.iload_n 2 (zi102 1) rfl rfl rfl ?_
  refine X.putI' 5 4 (zi102 2) rfl rfl (by decide) rfl rfl rfl (fun hrm501 m501 hm501 => ?_)
  have hJ502 := w41_4 hJ hm501 (by omega) hrm501 hf16 hg4
  refine X.aload_n 6 (zi102 5) rfl rfl rfl ?_
  refine X.iload_n 7 (zi102 6) rfl rfl rfl ?_
  refine X.putI' 10 5 (zi102 7) rfl rfl (by decide) rfl rfl rfl (fun hrm503 m503 hm503 => ?_)
  have hJ504 := w41_4 hJ502 hm503 (by omega) hrm503 hf16 hg4
  refine X.iconst 11 (zi102 10) rfl rfl (by decide) ?_
  refine X.retz (zi102 11) rfl t102 (by omega) ?_
  exact hQ 0 m503 (by first | trivial | omega) (Eq.trans (zs_eq hm501) (Eq.trans (zs_eq hm503) rfl)) (hJ504.up (by omega)) 
-- WorkMeter$CalendarText.readSwitch
noncomputable def f104_1 (a1 : Int) (m : zM) : Int × zM :=
  zb (f100_1 23 m) fun v503 m501 =>
  if v503 = (-1) then
  ((0, m501))
  else
  (if (m501 3 12 a1) < 6 then
  (zb (f105_1 58 m501) fun v509 m507 =>
  if v509 = 0 then
  ((0, m507))
  else
  (zb (f100_1 59 m507) fun v513 m511 =>
  if v513 = (-1) then
  ((0, m511))
  else
  (zn (f82_1 3 a1 ((v503 * 3600) + (v513 * 60)) m511) fun v517 =>
  if v517 = 0 then
  (zb (f100_1 3 m511) fun v521 m519 =>
  if v521 = (-1) then
  ((0, m519))
  else
  (zb (f81_1 3 a1 ((v503 * 3600) + (v513 * 60)) v521 m519) fun v525 m523 =>
  (1, m523)))
  else
  (zb (f102_1 3 (m511 4 41 8) m511) fun v529 m527 =>
  (v529, m527)))))
  else
  (zb (f102_1 4 (m501 4 41 8) m501) fun v533 m531 =>
  (v533, m531)))
-- WorkMeter$CalendarText.readSwitch
theorem c104_1 {s : Nat × (Nat → Int32)} {S : zS} {m0 m : zM} {B : Int} {d : Nat} {Q : Option zV → zM → Prop} (a1 : Int) (hd : 16 ≤ d) (hJ : J S m0 B m) (hB : B + 0 ≤ 1000000000) (ha1 : 0 ≤ a1 ∧ a1 ≤ 7) (hf1 : ¬ S.1 1) (hf16 : ¬ S.1 16) (hf19 : ¬ S.1 19) (hg3 : ¬ S.2.1 3) (hg4 : ¬ S.2.1 4) (hQ : ∀ (v : Int) m', (0 ≤ v ∧ v ≤ 1) → f104_1 a1 m = (v, m') → J S m0 (B) m' → Q (some (zi v)) m') : X (EE s) d 104 0 [(0, zr 4 41), (1, zi a1)] [] m Q := by
  refine X.aload_n 1 (zi104 0) rfl rfl rfl ?_
  refine X.bipush 3 (zi104 1) rfl rfl (by decide) ?_
  refine X.callv 6 [zi 23] [] [(0, zr 4 41), (1, zi 23)] (zi104 3) rfl (by decide) rfl rfl (by omega) rfl rfl (by decide) rfl t100 (Nat.le_of_ble_eq_true rfl) (Nat.le_of_ble_eq_true rfl) rfl ?_
  refine c100_1 (B := B)  23 (by omega) (hJ.up (by omega)) (by omega) (by omega) hf16 hf19 hg4 (fun v503 m501 hv503 hFv503 hJ502 hqv503_0 => ?_)
  show X (EE s) d 104 6 [(0, zr 4 41), (1, zi a1)] [zi v503] m501 _
  refine X.istore_n 7 [(0, zr 4 41), (1, zi a1), (2, zi v503)] (zi104 6) rfl rfl rfl ?_
  refine X.iload_n 8 (zi104 7) rfl rfl rfl ?_
  refine X.iconst 9 (zi104 8) rfl rfl (by decide) ?_
  refine X.icmpne 14 12 (zi104 9) rfl rfl rfl (fun h504 => ?_) (fun h504 => ?_)
  · refine X.aload_n 15 (zi104 14) rfl rfl rfl ?_
    refine X.getF 18 (zi104 15) rfl rfl (by decide) rfl rfl ?_
    refine X.getR 21 (zi104 18) rfl rfl (by decide) rfl rfl ?_
    refine X.iload_n 22 (zi104 21) rfl rfl rfl ?_
    refine X.iald 23 (zi104 22) rfl rfl (by decide) rfl (by omega) ?_
    have h505 := r12_0 hJ502 3 (i := a1) (by omega)
    refine X.bipush 25 (zi104 23) rfl rfl (by decide) ?_
    refine X.icmplt 38 28 (zi104 25) rfl rfl rfl (fun h506 => ?_) (fun h506 => ?_)
    · refine X.aload_n 39 (zi104 38) rfl rfl rfl ?_
      refine X.bipush 41 (zi104 39) rfl rfl (by decide) ?_
      refine X.callv 44 [zi 58] [] [(0, zr 4 41), (1, zi 58)] (zi104 41) rfl (by decide) rfl rfl (by omega) rfl rfl (by decide) rfl t105 (Nat.le_of_ble_eq_true rfl) (Nat.le_of_ble_eq_true rfl) rfl ?_
      refine c105_1 (B := B)  58 (by omega) (hJ502.up (by omega)) (by omega) (by omega) hf16 hf19 hg4 (fun v509 m507 hv509 hFv509 hJ508 => ?_)
      show X (EE s) d 104 44 [(0, zr 4 41), (1, zi a1), (2, zi v503)] [zi v509] m507 _
      refine X.ifne 49 47 (zi104 44) rfl rfl rfl (fun h510 => ?_) (fun h510 => ?_)
      · refine X.aload_n 50 (zi104 49) rfl rfl rfl ?_
        refine X.bipush 52 (zi104 50) rfl rfl (by decide) ?_
        refine X.callv 55 [zi 59] [] [(0, zr 4 41), (1, zi 59)] (zi104 52) rfl (by decide) rfl rfl (by omega) rfl rfl (by decide) rfl t100 (Nat.le_of_ble_eq_true rfl) (Nat.le_of_ble_eq_true rfl) rfl ?_
        refine c100_1 (B := B)  59 (by omega) (hJ508.up (by omega)) (by omega) (by omega) hf16 hf19 hg4 (fun v513 m511 hv513 hFv513 hJ512 hqv513_0 => ?_)
        show X (EE s) d 104 55 [(0, zr 4 41), (1, zi a1), (2, zi v503)] [zi v513] m511 _
        refine X.istore_n 56 [(0, zr 4 41), (1, zi a1), (2, zi v503), (3, zi v513)] (zi104 55) rfl rfl rfl ?_
        refine X.iload_n 57 (zi104 56) rfl rfl rfl ?_
        refine X.iconst 58 (zi104 57) rfl rfl (by decide) ?_
        refine X.icmpne 63 61 (zi104 58) rfl rfl rfl (fun h514 => ?_) (fun h514 => ?_)
        · refine X.iload_n 64 (zi104 63) rfl rfl rfl ?_
          refine X.sipush 67 (zi104 64) rfl rfl (by decide) ?_
          refine X.imul 68 (zi104 67) rfl rfl (by omega) ?_
          refine X.iload_n 69 (zi104 68) rfl rfl rfl ?_
          refine X.bipush 71 (zi104 69) rfl rfl (by decide) ?_
          refine X.imul 72 (zi104 71) rfl rfl (by omega) ?_
          refine X.iadd 73 (zi104 72) rfl rfl (by omega) ?_
          refine X.istore 75 [(0, zr 4 41), (1, zi a1), (2, zi v503), (3, zi v513), (4, zi ((v503 * 3600) + (v513 * 60)))] (zi104 73) rfl rfl rfl ?_
          refine X.aload_n 76 (zi104 75) rfl rfl rfl ?_
          refine X.getF 79 (zi104 76) rfl rfl (by decide) rfl rfl ?_
          refine X.iload_n 80 (zi104 79) rfl rfl rfl ?_
          refine X.iload 82 (zi104 80) rfl rfl rfl ?_
          refine X.callv 85 [zi a1, zi ((v503 * 3600) + (v513 * 60))] [] [(0, zr 3 11), (1, zi a1), (2, zi ((v503 * 3600) + (v513 * 60)))] (zi104 82) rfl (by decide) rfl rfl (by omega) rfl rfl (by decide) rfl t82 (Nat.le_of_ble_eq_true rfl) (Nat.le_of_ble_eq_true rfl) rfl ?_
          refine c82_1 (B := B) 3 a1 ((v503 * 3600) + (v513 * 60)) (by omega) (hJ512.up (by omega)) (by omega) (by omega) (by omega) (fun v517 hv517 hFv517 hqv517_0 => ?_)
          show X (EE s) d 104 85 [(0, zr 4 41), (1, zi a1), (2, zi v503), (3, zi v513), (4, zi ((v503 * 3600) + (v513 * 60)))] [zi v517] m511 _
          refine X.ifeq 98 88 (zi104 85) rfl rfl rfl (fun h518 => ?_) (fun h518 => ?_)
          · refine X.cut [(0, zr 4 41), (1, zi a1), (4, zi ((v503 * 3600) + (v513 * 60)))] (zi104 98) rfl ?_
            refine X.aload_n 99 (zi104 98) rfl rfl rfl ?_
            refine X.iconst 100 (zi104 99) rfl rfl (by decide) ?_
            refine X.callv 103 [zi 3] [] [(0, zr 4 41), (1, zi 3)] (zi104 100) rfl (by decide) rfl rfl (by omega) rfl rfl (by decide) rfl t100 (Nat.le_of_ble_eq_true rfl) (Nat.le_of_ble_eq_true rfl) rfl ?_
            refine c100_1 (B := B)  3 (by omega) (hJ512.up (by omega)) (by omega) (by omega) hf16 hf19 hg4 (fun v521 m519 hv521 hFv521 hJ520 hqv521_0 => ?_)
            show X (EE s) d 104 103 [(0, zr 4 41), (1, zi a1), (4, zi ((v503 * 3600) + (v513 * 60)))] [zi v521] m519 _
            refine X.istore 105 [(0, zr 4 41), (1, zi a1), (4, zi ((v503 * 3600) + (v513 * 60))), (5, zi v521)] (zi104 103) rfl rfl rfl ?_
            refine X.iload 107 (zi104 105) rfl rfl rfl ?_
            refine X.iconst 108 (zi104 107) rfl rfl (by decide) ?_
            refine X.icmpne 113 111 (zi104 108) rfl rfl rfl (fun h522 => ?_) (fun h522 => ?_)
            · refine X.aload_n 114 (zi104 113) rfl rfl rfl ?_
              refine X.getF 117 (zi104 114) rfl rfl (by decide) rfl rfl ?_
              refine X.iload_n 118 (zi104 117) rfl rfl rfl ?_
              refine X.iload 120 (zi104 118) rfl rfl rfl ?_
              refine X.iload 122 (zi104 120) rfl rfl rfl ?_
              refine X.callv 125 [zi a1, zi ((v503 * 3600) + (v513 * 60)), zi v521] [] [(0, zr 3 11), (1, zi a1), (2, zi ((v503 * 3600) + (v513 * 60))), (3, zi v521)] (zi104 122) rfl (by decide) rfl rfl (by omega) rfl rfl (by decide) rfl t81 (Nat.le_of_ble_eq_true rfl) (Nat.le_of_ble_eq_true rfl) rfl ?_
              refine c81_1 (B := B) 3 a1 ((v503 * 3600) + (v513 * 60)) v521 (by omega) (hJ520.up (by omega)) (by omega) (by omega) (by omega) (by omega) hf1 hg3 (fun v525 m523 hv525 hFv525 hJ524 => ?_)
              show X (EE s) d 104 125 [(0, zr 4 41), (1, zi a1), (4, zi ((v503 * 3600) + (v513 * 60))), (5, zi v521)] [zi v525] m523 _
              refine X.pop 126 (zi104 125) rfl rfl rfl ?_
              refine X.iconst 127 (zi104 126) rfl rfl (by decide) ?_
              refine X.retz (zi104 127) rfl t104 (by omega) ?_
              exact hQ 1 m523 (by first | trivial | omega) (Eq.trans (zb_eq hFv503) (Eq.trans (if_neg h504) (Eq.trans (if_pos h506) (Eq.trans (zb_eq hFv509) (Eq.trans (if_neg h510) (Eq.trans (zb_eq hFv513) (Eq.trans (if_neg h514) (Eq.trans (zn_eq hFv517.symm) (Eq.trans (if_pos h518) (Eq.trans (zb_eq hFv521) (Eq.trans (if_neg h522) (Eq.trans (zb_eq hFv525) rfl)))))))))))) (hJ524.up (by omega)) 
            · refine X.iconst 112 (zi104 111) rfl rfl (by decide) ?_
              refine X.retz (zi104 112) rfl t104 (by omega) ?_
              exact hQ 0 m519 (by first | trivial | omega) (Eq.trans (zb_eq hFv503) (Eq.trans (if_neg h504) (Eq.trans (if_pos h506) (Eq.trans (zb_eq hFv509) (Eq.trans (if_neg h510) (Eq.trans (zb_eq hFv513) (Eq.trans (if_neg h514) (Eq.trans (zn_eq hFv517.symm) (Eq.trans (if_pos h518) (Eq.trans (zb_eq hFv521) (Eq.trans (if_pos h522) rfl))))))))))) (hJ520.up (by omega)) 
          · refine X.aload_n 89 (zi104 88) rfl rfl rfl ?_
            refine X.iconst 90 (zi104 89) rfl rfl (by decide) ?_
            refine X.aload_n 91 (zi104 90) rfl rfl rfl ?_
            refine X.getIr 94 8 (zi104 91) rfl rfl (by decide) rfl rfl rfl (fun h526 => ?_)
            refine X.callv 97 [zi 3, zi (m511 4 41 8)] [] [(0, zr 4 41), (1, zi 3), (2, zi (m511 4 41 8))] (zi104 94) rfl (by decide) rfl rfl (by omega) rfl rfl (by decide) rfl t102 (Nat.le_of_ble_eq_true rfl) (Nat.le_of_ble_eq_true rfl) rfl ?_
            refine c102_4 (B := B)  3 (m511 4 41 8) (by omega) (hJ512.up (by omega)) (by omega) (by omega) (by omega) hf16 hg4 (fun v529 m527 hv529 hFv529 hJ528 => ?_)
            show X (EE s) d 104 97 [(0, zr 4 41), (1, zi a1), (2, zi v503), (3, zi v513), (4, zi ((v503 * 3600) + (v513 * 60)))] [zi v529] m527 _
            refine X.retz (zi104 97) rfl t104 (by omega) ?_
            exact hQ v529 m527 (by first | trivial | omega) (Eq.trans (zb_eq hFv503) (Eq.trans (if_neg h504) (Eq.trans (if_pos h506) (Eq.trans (zb_eq hFv509) (Eq.trans (if_neg h510) (Eq.trans (zb_eq hFv513) (Eq.trans (if_neg h514) (Eq.trans (zn_eq hFv517.symm) (Eq.trans (if_neg h518) (Eq.trans (zb_eq hFv529) rfl)))))))))) (hJ528.up (by omega)) 
        · refine X.iconst 62 (zi104 61) rfl rfl (by decide) ?_
          refine X.retz (zi104 62) rfl t104 (by omega) ?_
          exact hQ 0 m511 (by first | trivial | omega) (Eq.trans (zb_eq hFv503) (Eq.trans (if_neg h504) (Eq.trans (if_pos h506) (Eq.trans (zb_eq hFv509) (Eq.trans (if_neg h510) (Eq.trans (zb_eq hFv513) (Eq.trans (if_pos h514) rfl))))))) (hJ512.up (by omega)) 
      · refine X.iconst 48 (zi104 47) rfl rfl (by decide) ?_
        refine X.retz (zi104 48) rfl t104 (by omega) ?_
        exact hQ 0 m507 (by first | trivial | omega) (Eq.trans (zb_eq hFv503) (Eq.trans (if_neg h504) (Eq.trans (if_pos h506) (Eq.trans (zb_eq hFv509) (Eq.trans (if_pos h510) rfl))))) (hJ508.up (by omega)) 
    · refine X.aload_n 29 (zi104 28) rfl rfl rfl ?_
      refine X.iconst 30 (zi104 29) rfl rfl (by decide) ?_
      refine X.aload_n 31 (zi104 30) rfl rfl rfl ?_
      refine X.getIr 34 8 (zi104 31) rfl rfl (by decide) rfl rfl rfl (fun h530 => ?_)
      refine X.callv 37 [zi 4, zi (m501 4 41 8)] [] [(0, zr 4 41), (1, zi 4), (2, zi (m501 4 41 8))] (zi104 34) rfl (by decide) rfl rfl (by omega) rfl rfl (by decide) rfl t102 (Nat.le_of_ble_eq_true rfl) (Nat.le_of_ble_eq_true rfl) rfl ?_
      refine c102_6 (B := B)  4 (m501 4 41 8) (by omega) (hJ502.up (by omega)) (by omega) (by omega) (by omega) hf16 hg4 (fun v533 m531 hv533 hFv533 hJ532 => ?_)
      show X (EE s) d 104 37 [(0, zr 4 41), (1, zi a1), (2, zi v503)] [zi v533] m531 _
      refine X.retz (zi104 37) rfl t104 (by omega) ?_
      exact hQ v533 m531 (by first | trivial | omega) (Eq.trans (zb_eq hFv503) (Eq.trans (if_neg h504) (Eq.trans (if_neg h506) (Eq.trans (zb_eq hFv533) rfl)))) (hJ532.up (by omega)) 
  · refine X.iconst 13 (zi104 12) rfl rfl (by decide) ?_
    refine X.retz (zi104 13) rfl t104 (by omega) ?_
    exact hQ 0 m501 (by first | trivial | omega) (Eq.trans (zb_eq hFv503) (Eq.trans (if_pos h504) rfl)) (hJ502.up (by omega)) 
noncomputable def fl97_38_1_b (self : Int → zM → Int × zM) (k59 : Int → zM → Int × zM) (k67 : zM → Int × zM) (y1 : Int) (y2 : Int) (m : zM) : Int × zM :=
  if 6 < y2 then
  (k67 m)
  else
  (zb (f103_1 m) fun v513 m511 =>
  if v513 = 0 then
  (k67 m511)
  else
  (zb (f104_1 y1 m511) fun v517 m515 =>
  if v517 = 0 then
  (k59 y2 m515)
  else
  (self (y2 + 1) m515)))
noncomputable def fl97_38_1 (k59 : Int → zM → Int × zM) (k67 : zM → Int × zM) (y1 : Int) : Nat → Int → zM → Int × zM
  | 0 => fun y2 m => (0, m)
  | n + 1 => fl97_38_1_b (fl97_38_1 k59 k67 y1 n) k59 k67 y1
theorem l97_38_1 {s : Nat × (Nat → Int32)} {S : zS} {m0 : zM} {d : Nat} {Q : Option zV → zM → Prop} {R0 : Int × zM} {k59 : Int → zM → Int × zM} {k67 : zM → Int × zM} (y1 : Int) (BE : Int) (hE : BE ≤ 1000000000) (hd : 17 ≤ d) (hy1 : 0 ≤ y1 ∧ y1 ≤ 7) (hf1 : ¬ S.1 1) (hf16 : ¬ S.1 16) (hf19 : ¬ S.1 19) (hg3 : ¬ S.2.1 3) (hg4 : ¬ S.2.1 4)
    (K59 : ∀ (x2 : Int) (m' : zM) (B' : Int), J S m0 B' m' → B' ≤ BE → (0 ≤ x2 ∧ x2 ≤ 6) → R0 = k59 x2 m' → X (EE s) d 97 59 [(0, zr 4 41), (1, zi y1), (2, zi x2)] [] m' Q)
    (K67 : ∀ (m' : zM) (B' : Int), J S m0 B' m' → B' ≤ BE → R0 = k67 m' → X (EE s) d 97 67 [] [] m' Q) :
    ∀ (n : Nat) (y2 : Int) (m : zM) (B : Int), J S m0 B m → B + 0 * (n : Int) ≤ BE → (0 ≤ y2 ∧ y2 ≤ 7) → 7 - y2 < (n : Int) → R0 = fl97_38_1 k59 k67 y1 n y2 m → X (EE s) d 97 38 [(0, zr 4 41), (1, zi y1), (2, zi y2)] [] m Q := by
  intro n
  induction n with
  | zero =>
    intro y2 m B hJ hB hy2 hn hR
    exfalso
    omega
  | succ n ih =>
    intro y2 m B hJ hB hy2 hn hR
    replace hR : R0 = fl97_38_1_b (fl97_38_1 k59 k67 y1 n) k59 k67 y1 y2 m := hR
    refine X.iload_n 39 (zi97 38) rfl rfl rfl ?_
    refine X.bipush 41 (zi97 39) rfl rfl (by decide) ?_
    refine X.icmpgt 67 44 (zi97 41) rfl rfl rfl (fun h510 => ?_) (fun h510 => ?_)
    · refine X.cut [] (zi97 67) rfl ?_
      exact K67  m (B) (hJ.up (by omega)) (by omega)  (Eq.trans hR (Eq.trans (if_pos h510) rfl))
    · refine X.aload_n 45 (zi97 44) rfl rfl rfl ?_
      refine X.callv 48 [] [] [(0, zr 4 41)] (zi97 45) rfl (by decide) rfl rfl (by omega) rfl rfl (by decide) rfl t103 (Nat.le_of_ble_eq_true rfl) (Nat.le_of_ble_eq_true rfl) rfl ?_
      refine c103_1 (B := B)   (by omega) (hJ.up (by omega)) (by omega)  hf19 hg4 (fun v513 m511 hv513 hFv513 hJ512 => ?_)
      show X (EE s) d 97 48 [(0, zr 4 41), (1, zi y1), (2, zi y2)] [zi v513] m511 _
      refine X.ifeq 67 51 (zi97 48) rfl rfl rfl (fun h514 => ?_) (fun h514 => ?_)
      · refine X.cut [] (zi97 67) rfl ?_
        exact K67  m511 (B) (hJ512.up (by omega)) (by omega)  (Eq.trans hR (Eq.trans (if_neg h510) (Eq.trans (zb_eq hFv513) (Eq.trans (if_pos h514) rfl))))
      · refine X.aload_n 52 (zi97 51) rfl rfl rfl ?_
        refine X.iload_n 53 (zi97 52) rfl rfl rfl ?_
        refine X.callv 56 [zi y1] [] [(0, zr 4 41), (1, zi y1)] (zi97 53) rfl (by decide) rfl rfl (by omega) rfl rfl (by decide) rfl t104 (Nat.le_of_ble_eq_true rfl) (Nat.le_of_ble_eq_true rfl) rfl ?_
        refine c104_1 (B := B)  y1 (by omega) (hJ512.up (by omega)) (by omega) (by omega) hf1 hf16 hf19 hg3 hg4 (fun v517 m515 hv517 hFv517 hJ516 => ?_)
        show X (EE s) d 97 56 [(0, zr 4 41), (1, zi y1), (2, zi y2)] [zi v517] m515 _
        refine X.ifne 61 59 (zi97 56) rfl rfl rfl (fun h518 => ?_) (fun h518 => ?_)
        · refine X.iinc 64 [(0, zr 4 41), (1, zi y1), (2, zi (y2 + 1))] (zi97 61) rfl rfl rfl (by omega) rfl ?_
          refine X.goto 38 (zi97 64) rfl rfl ?_
          exact ih (y2 + 1) m515 (B) (hJ516.up (by omega)) (by omega) (by omega) (by omega) (Eq.trans hR (Eq.trans (if_neg h510) (Eq.trans (zb_eq hFv513) (Eq.trans (if_neg h514) (Eq.trans (zb_eq hFv517) (Eq.trans (if_neg h518) rfl))))))
        · exact K59 y2 m515 (B) (hJ516.up (by omega)) (by omega) (by first | trivial | omega) (Eq.trans hR (Eq.trans (if_neg h510) (Eq.trans (zb_eq hFv513) (Eq.trans (if_neg h514) (Eq.trans (zb_eq hFv517) (Eq.trans (if_pos h518) rfl))))))
-- WorkMeter$CalendarText.readTable
noncomputable def f97_1 (m : zM) : Int × zM :=
  zs (z_upd m 4 41 7 ((m 4 41 7) + 5)) fun m502 =>
  zb (f99_1 7 (m502 4 41 9) m502) fun v507 m505 =>
  if v507 = (-1) then
  ((0, m505))
  else
  (zn (zshl 1 v507) fun z510 =>
  zn (zor (m505 4 41 9) z510) fun z511 =>
  zs (z_upd m505 4 41 9 z511) fun m512 =>
  fl97_38_1 (fun y514 m515 =>
  (0, m515)) (fun m519 =>
  (1, m519)) v507 (zfu 8) 0 m512)
-- WorkMeter$CalendarText.readTable
theorem c97_1 {s : Nat × (Nat → Int32)} {S : zS} {m0 m : zM} {B : Int} {d : Nat} {Q : Option zV → zM → Prop} (hd : 17 ≤ d) (hJ : J S m0 B m) (hB : B + 0 ≤ 1000000000) (hp0 : m 4 41 7 + 5 ≤ 300) (hf1 : ¬ S.1 1) (hf16 : ¬ S.1 16) (hf19 : ¬ S.1 19) (hg3 : ¬ S.2.1 3) (hg4 : ¬ S.2.1 4) (hQ : ∀ (v : Int) m', (0 ≤ v ∧ v ≤ 1) → f97_1 m = (v, m') → J S m0 (B) m' → Q (some (zi v)) m') : X (EE s) d 97 0 [(0, zr 4 41)] [] m Q := by
  refine X.aload_n 1 (zi97 0) rfl rfl rfl ?_
  refine X.ldcS 3 (zi97 1) rfl rfl (by decide) ?_
  refine X.callv 6 [zr 99 4] [] [(0, zr 4 41), (1, zr 99 4)] (zi97 3) rfl (by decide) rfl rfl (by omega) rfl rfl (by decide) rfl t98 (Nat.le_of_ble_eq_true rfl) (Nat.le_of_ble_eq_true rfl) rfl ?_
  refine X.aload_n 1 (zi98 0) rfl rfl rfl ?_
  refine X.dup 2 (zi98 1) rfl rfl rfl ?_
  refine X.getI 5 7 (zi98 2) rfl rfl (by decide) rfl rfl rfl ?_
  have h501 := r41_7 hJ 4
  refine X.aload_n 6 (zi98 5) rfl rfl rfl ?_
  refine X.slen 9 (zi98 6) rfl rfl (by omega) (Nat.le_of_ble_eq_true rfl) (by decide) (show (5 : Nat) < 2147483648 by decide) ?_
  show X (EE s) (d - 1) 98 9 [(0, zr 4 41), (1, zr 99 4)] [zi 5, zi (m 4 41 7), zr 4 41] m _
  refine X.iadd 10 (zi98 9) rfl rfl (by omega) ?_
  refine X.putI' 13 7 (zi98 10) rfl rfl (by decide) rfl rfl rfl (fun hrm502 m502 hm502 => ?_)
  have hJ503 := w41_7 hJ hm502 (by omega) hf19 hg4
  have em502 : m502 4 41 7 = ((m 4 41 7) + 5) := by rw [hm502]; exact z_upd_same _ _ _ _ _
  refine X.retv (zi98 13) rfl t98 ?_
  show X (EE s) d 97 6 [(0, zr 4 41)] [] m502 _
  refine X.aload_n 7 (zi97 6) rfl rfl rfl ?_
  refine X.bipush 9 (zi97 7) rfl rfl (by decide) ?_
  refine X.aload_n 10 (zi97 9) rfl rfl rfl ?_
  refine X.getIr 13 9 (zi97 10) rfl rfl (by decide) rfl rfl rfl (fun h504 => ?_)
  refine X.callv 16 [zi 7, zi (m502 4 41 9)] [] [(0, zr 4 41), (1, zi 7), (2, zi (m502 4 41 9))] (zi97 13) rfl (by decide) rfl rfl (by omega) rfl rfl (by decide) rfl t99 (Nat.le_of_ble_eq_true rfl) (Nat.le_of_ble_eq_true rfl) rfl ?_
  refine c99_1 (B := B)  7 (m502 4 41 9) (by omega) (hJ503.up (by omega)) (by omega) (by omega) (by omega) hf16 hf19 hg4 (fun v507 m505 hv507 hFv507 hJ506 hqv507_0 => ?_)
  show X (EE s) d 97 16 [(0, zr 4 41)] [zi v507] m505 _
  refine X.istore_n 17 [(0, zr 4 41), (1, zi v507)] (zi97 16) rfl rfl rfl ?_
  refine X.iload_n 18 (zi97 17) rfl rfl rfl ?_
  refine X.iconst 19 (zi97 18) rfl rfl (by decide) ?_
  refine X.icmpne 24 22 (zi97 19) rfl rfl rfl (fun h508 => ?_) (fun h508 => ?_)
  · refine X.aload_n 25 (zi97 24) rfl rfl rfl ?_
    refine X.dup 26 (zi97 25) rfl rfl rfl ?_
    refine X.getIr 29 9 (zi97 26) rfl rfl (by decide) rfl rfl rfl (fun h509 => ?_)
    refine X.iconst 30 (zi97 29) rfl rfl (by decide) ?_
    refine X.iload_n 31 (zi97 30) rfl rfl rfl ?_
    refine X.iiE 32 .ishl (fun x y => x <<< (y &&& 31)) (zi97 31) rfl rfl rfl (fun _ _ => rfl) (fun z510 ez510 hz510 => ?_)
    refine X.iiE 33 .ior (fun x y => x ||| y) (zi97 32) rfl rfl rfl (fun _ _ => rfl) (fun z511 ez511 hz511 => ?_)
    refine X.putI' 36 9 (zi97 33) rfl rfl (by decide) rfl rfl rfl (fun hrm512 m512 hm512 => ?_)
    have hJ513 := w41_8 hJ506 hm512 (by omega) hrm512 hf19 hg4
    refine X.iconst 37 (zi97 36) rfl rfl (by decide) ?_
    refine X.istore_n 38 [(0, zr 4 41), (1, zi v507), (2, zi 0)] (zi97 37) rfl rfl rfl ?_
    have hz8 := zfu_eq 8
    refine l97_38_1 (s := s) (d := d) (R0 := (f97_1 m))  v507  (BE := B + 0) (by omega) (by omega) (by omega) hf1 hf16 hf19 hg3 hg4 (fun y514 m515 B516 hJ517 hBB516 hby514 hR518 => ?_) (fun  m519 B520 hJ521 hBB520 hR522 => ?_) (zfu 8) 0 m512 (B) (hJ513.up (by omega)) (by omega) (by omega) (by omega) (Eq.trans (zs_eq hm502) (Eq.trans (zb_eq hFv507) (Eq.trans (if_neg h508) (Eq.trans (zn_eq ez510) (Eq.trans (zn_eq ez511) (Eq.trans (zs_eq hm512) rfl))))))
    · refine X.iconst 60 (zi97 59) rfl rfl (by decide) ?_
      refine X.retz (zi97 60) rfl t97 (by omega) ?_
      exact hQ 0 m515 (by first | trivial | omega) (Eq.trans hR518 rfl) (hJ517.up (by omega)) 
    · refine X.iconst 68 (zi97 67) rfl rfl (by decide) ?_
      refine X.retz (zi97 68) rfl t97 (by omega) ?_
      exact hQ 1 m519 (by first | trivial | omega) (Eq.trans hR522 rfl) (hJ521.up (by omega)) 
  · refine X.iconst 23 (zi97 22) rfl rfl (by decide) ?_
    refine X.retz (zi97 23) rfl t97 (by omega) ?_
    exact hQ 0 m505 (by first | trivial | omega) (Eq.trans (zs_eq hm502) (Eq.trans (zb_eq hFv507) (Eq.trans (if_pos h508) rfl))) (hJ506.up (by omega)) 
-- WorkMeter$CalendarText.readLine
noncomputable def f94_1 (m : zM) : Int × zM :=
  zn (f95_1 m) fun v503 =>
  zn (f96_1 v503 m) fun v506 =>
  if v506 = 0 then
  (zn (f96_2 v503 m) fun v510 =>
  if v510 = 0 then
  (zn (f96_3 v503 m) fun v514 =>
  if v514 = 0 then
  (zn (f96_4 v503 m) fun v518 =>
  if v518 = 0 then
  (zb (f102_1 1 (m 4 41 7) m) fun v523 m521 =>
  (v523, m521))
  else
  (zb (f110_1 m) fun v526 m524 =>
  (v526, m524)))
  else
  (zb (f107_1 m) fun v529 m527 =>
  (v529, m527)))
  else
  (zb (f106_1 m) fun v532 m530 =>
  (v532, m530)))
  else
  (zb (f97_1 m) fun v535 m533 =>
  (v535, m533))
-- WorkMeter$CalendarText.readLine
theorem c94_1 {s : Nat × (Nat → Int32)} {S : zS} {m0 m : zM} {B : Int} {d : Nat} {Q : Option zV → zM → Prop} (hd : 18 ≤ d) (hJ : J S m0 B m) (hB : B + 0 ≤ 1000000000) (hf1 : ¬ S.1 1) (hf16 : ¬ S.1 16) (hf19 : ¬ S.1 19) (hg3 : ¬ S.2.1 3) (hg4 : ¬ S.2.1 4) (hQ : ∀ (v : Int) m', (0 ≤ v ∧ v ≤ 1) → f94_1 m = (v, m') → J S m0 (B) m' → Q (some (zi v)) m') : X (EE s) d 94 0 [(0, zr 4 41)] [] m Q := by
  refine X.aload_n 1 (zi94 0) rfl rfl rfl ?_
  refine X.callv 4 [] [] [(0, zr 4 41)] (zi94 1) rfl (by decide) rfl rfl (by omega) rfl rfl (by decide) rfl t95 (Nat.le_of_ble_eq_true rfl) (Nat.le_of_ble_eq_true rfl) rfl ?_
  refine c95_1 (B := B)   (by omega) (hJ.up (by omega)) (by omega)  (fun v503 hv503 hFv503 => ?_)
  show X (EE s) d 94 4 [(0, zr 4 41)] [zi v503] m _
  refine X.istore_n 5 [(0, zr 4 41), (1, zi v503)] (zi94 4) rfl rfl rfl ?_
  refine X.aload_n 6 (zi94 5) rfl rfl rfl ?_
  refine X.ldcS 8 (zi94 6) rfl rfl (by decide) ?_
  refine X.iload_n 9 (zi94 8) rfl rfl rfl ?_
  refine X.callv 12 [zr 99 4, zi v503] [] [(0, zr 4 41), (1, zr 99 4), (2, zi v503)] (zi94 9) rfl (by decide) rfl rfl (by omega) rfl rfl (by decide) rfl t96 (Nat.le_of_ble_eq_true rfl) (Nat.le_of_ble_eq_true rfl) rfl ?_
  refine c96_1 (B := B)  v503 (by omega) (hJ.up (by omega)) (by omega) (by omega) (fun v506 hv506 hFv506 hqv506_0 => ?_)
  show X (EE s) d 94 12 [(0, zr 4 41), (1, zi v503)] [zi v506] m _
  refine X.ifeq 20 15 (zi94 12) rfl rfl rfl (fun h507 => ?_) (fun h507 => ?_)
  · refine X.aload_n 21 (zi94 20) rfl rfl rfl ?_
    refine X.ldcS 23 (zi94 21) rfl rfl (by decide) ?_
    refine X.iload_n 24 (zi94 23) rfl rfl rfl ?_
    refine X.callv 27 [zr 99 5, zi v503] [] [(0, zr 4 41), (1, zr 99 5), (2, zi v503)] (zi94 24) rfl (by decide) rfl rfl (by omega) rfl rfl (by decide) rfl t96 (Nat.le_of_ble_eq_true rfl) (Nat.le_of_ble_eq_true rfl) rfl ?_
    refine c96_2 (B := B)  v503 (by omega) (hJ.up (by omega)) (by omega) (by omega) (fun v510 hv510 hFv510 hqv510_0 => ?_)
    show X (EE s) d 94 27 [(0, zr 4 41), (1, zi v503)] [zi v510] m _
    refine X.ifeq 35 30 (zi94 27) rfl rfl rfl (fun h511 => ?_) (fun h511 => ?_)
    · refine X.aload_n 36 (zi94 35) rfl rfl rfl ?_
      refine X.ldcS 38 (zi94 36) rfl rfl (by decide) ?_
      refine X.iload_n 39 (zi94 38) rfl rfl rfl ?_
      refine X.callv 42 [zr 99 6, zi v503] [] [(0, zr 4 41), (1, zr 99 6), (2, zi v503)] (zi94 39) rfl (by decide) rfl rfl (by omega) rfl rfl (by decide) rfl t96 (Nat.le_of_ble_eq_true rfl) (Nat.le_of_ble_eq_true rfl) rfl ?_
      refine c96_3 (B := B)  v503 (by omega) (hJ.up (by omega)) (by omega) (by omega) (fun v514 hv514 hFv514 hqv514_0 => ?_)
      show X (EE s) d 94 42 [(0, zr 4 41), (1, zi v503)] [zi v514] m _
      refine X.ifeq 50 45 (zi94 42) rfl rfl rfl (fun h515 => ?_) (fun h515 => ?_)
      · refine X.aload_n 51 (zi94 50) rfl rfl rfl ?_
        refine X.ldcS 53 (zi94 51) rfl rfl (by decide) ?_
        refine X.iload_n 54 (zi94 53) rfl rfl rfl ?_
        refine X.callv 57 [zr 99 7, zi v503] [] [(0, zr 4 41), (1, zr 99 7), (2, zi v503)] (zi94 54) rfl (by decide) rfl rfl (by omega) rfl rfl (by decide) rfl t96 (Nat.le_of_ble_eq_true rfl) (Nat.le_of_ble_eq_true rfl) rfl ?_
        refine c96_4 (B := B)  v503 (by omega) (hJ.up (by omega)) (by omega) (by omega) (fun v518 hv518 hFv518 hqv518_0 => ?_)
        show X (EE s) d 94 57 [(0, zr 4 41), (1, zi v503)] [zi v518] m _
        refine X.ifeq 65 60 (zi94 57) rfl rfl rfl (fun h519 => ?_) (fun h519 => ?_)
        · refine X.cut [(0, zr 4 41)] (zi94 65) rfl ?_
          refine X.aload_n 66 (zi94 65) rfl rfl rfl ?_
          refine X.iconst 67 (zi94 66) rfl rfl (by decide) ?_
          refine X.aload_n 68 (zi94 67) rfl rfl rfl ?_
          refine X.getI 71 7 (zi94 68) rfl rfl (by decide) rfl rfl rfl ?_
          have h520 := r41_7 hJ 4
          refine X.callv 74 [zi 1, zi (m 4 41 7)] [] [(0, zr 4 41), (1, zi 1), (2, zi (m 4 41 7))] (zi94 71) rfl (by decide) rfl rfl (by omega) rfl rfl (by decide) rfl t102 (Nat.le_of_ble_eq_true rfl) (Nat.le_of_ble_eq_true rfl) rfl ?_
          refine c102_1 (B := B)  1 (m 4 41 7) (by omega) (hJ.up (by omega)) (by omega) (by omega) (by omega) hf16 hg4 (fun v523 m521 hv523 hFv523 hJ522 => ?_)
          show X (EE s) d 94 74 [(0, zr 4 41)] [zi v523] m521 _
          refine X.retz (zi94 74) rfl t94 (by omega) ?_
          exact hQ v523 m521 (by first | trivial | omega) (Eq.trans (zn_eq hFv503.symm) (Eq.trans (zn_eq hFv506.symm) (Eq.trans (if_pos h507) (Eq.trans (zn_eq hFv510.symm) (Eq.trans (if_pos h511) (Eq.trans (zn_eq hFv514.symm) (Eq.trans (if_pos h515) (Eq.trans (zn_eq hFv518.symm) (Eq.trans (if_pos h519) (Eq.trans (zb_eq hFv523) rfl)))))))))) (hJ522.up (by omega)) 
        · refine X.aload_n 61 (zi94 60) rfl rfl rfl ?_
          refine X.callv 64 [] [] [(0, zr 4 41)] (zi94 61) rfl (by decide) rfl rfl (by omega) rfl rfl (by decide) rfl t110 (Nat.le_of_ble_eq_true rfl) (Nat.le_of_ble_eq_true rfl) rfl ?_
          refine c110_1 (B := B)   (by omega) (hJ.up (by omega)) (by omega) (by omega) hf16 hf19 hg4 (fun v526 m524 hv526 hFv526 hJ525 => ?_)
          show X (EE s) d 94 64 [(0, zr 4 41), (1, zi v503)] [zi v526] m524 _
          refine X.retz (zi94 64) rfl t94 (by omega) ?_
          exact hQ v526 m524 (by first | trivial | omega) (Eq.trans (zn_eq hFv503.symm) (Eq.trans (zn_eq hFv506.symm) (Eq.trans (if_pos h507) (Eq.trans (zn_eq hFv510.symm) (Eq.trans (if_pos h511) (Eq.trans (zn_eq hFv514.symm) (Eq.trans (if_pos h515) (Eq.trans (zn_eq hFv518.symm) (Eq.trans (if_neg h519) (Eq.trans (zb_eq hFv526) rfl)))))))))) (hJ525.up (by omega)) 
      · refine X.aload_n 46 (zi94 45) rfl rfl rfl ?_
        refine X.callv 49 [] [] [(0, zr 4 41)] (zi94 46) rfl (by decide) rfl rfl (by omega) rfl rfl (by decide) rfl t107 (Nat.le_of_ble_eq_true rfl) (Nat.le_of_ble_eq_true rfl) rfl ?_
        refine c107_1 (B := B)   (by omega) (hJ.up (by omega)) (by omega) (by omega) hf1 hf16 hf19 hg3 hg4 (fun v529 m527 hv529 hFv529 hJ528 => ?_)
        show X (EE s) d 94 49 [(0, zr 4 41), (1, zi v503)] [zi v529] m527 _
        refine X.retz (zi94 49) rfl t94 (by omega) ?_
        exact hQ v529 m527 (by first | trivial | omega) (Eq.trans (zn_eq hFv503.symm) (Eq.trans (zn_eq hFv506.symm) (Eq.trans (if_pos h507) (Eq.trans (zn_eq hFv510.symm) (Eq.trans (if_pos h511) (Eq.trans (zn_eq hFv514.symm) (Eq.trans (if_neg h515) (Eq.trans (zb_eq hFv529) rfl)))))))) (hJ528.up (by omega)) 
    · refine X.aload_n 31 (zi94 30) rfl rfl rfl ?_
      refine X.callv 34 [] [] [(0, zr 4 41)] (zi94 31) rfl (by decide) rfl rfl (by omega) rfl rfl (by decide) rfl t106 (Nat.le_of_ble_eq_true rfl) (Nat.le_of_ble_eq_true rfl) rfl ?_
      refine c106_1 (B := B)   (by omega) (hJ.up (by omega)) (by omega) (by omega) hf1 hf16 hf19 hg3 hg4 (fun v532 m530 hv532 hFv532 hJ531 => ?_)
      show X (EE s) d 94 34 [(0, zr 4 41), (1, zi v503)] [zi v532] m530 _
      refine X.retz (zi94 34) rfl t94 (by omega) ?_
      exact hQ v532 m530 (by first | trivial | omega) (Eq.trans (zn_eq hFv503.symm) (Eq.trans (zn_eq hFv506.symm) (Eq.trans (if_pos h507) (Eq.trans (zn_eq hFv510.symm) (Eq.trans (if_neg h511) (Eq.trans (zb_eq hFv532) rfl)))))) (hJ531.up (by omega)) 
  · refine X.aload_n 16 (zi94 15) rfl rfl rfl ?_
    refine X.callv 19 [] [] [(0, zr 4 41)] (zi94 16) rfl (by decide) rfl rfl (by omega) rfl rfl (by decide) rfl t97 (Nat.le_of_ble_eq_true rfl) (Nat.le_of_ble_eq_true rfl) rfl ?_
    refine c97_1 (B := B)   (by omega) (hJ.up (by omega)) (by omega) (by omega) hf1 hf16 hf19 hg3 hg4 (fun v535 m533 hv535 hFv535 hJ534 => ?_)
    show X (EE s) d 94 19 [(0, zr 4 41), (1, zi v503)] [zi v535] m533 _
    refine X.retz (zi94 19) rfl t94 (by omega) ?_
    exact hQ v535 m533 (by first | trivial | omega) (Eq.trans (zn_eq hFv503.symm) (Eq.trans (zn_eq hFv506.symm) (Eq.trans (if_neg h507) (Eq.trans (zb_eq hFv535) rfl)))) (hJ534.up (by omega)) 
-- WorkMeter$CalendarText.readSign
theorem c105_2 {s : Nat × (Nat → Int32)} {S : zS} {m0 m : zM} {B : Int} {d : Nat} {Q : Option zV → zM → Prop} (a1 : Int) (hd : 14 ≤ d) (hJ : J S m0 B m) (hB : B + 0 ≤ 1000000000) (ha1 : 59 ≤ a1 ∧ a1 ≤ 59) (hf16 : ¬ S.1 16) (hf19 : ¬ S.1 19) (hg4 : ¬ S.2.1 4) (hQ : ∀ (v : Int) m', (0 ≤ v ∧ v ≤ 1) → f105_1 a1 m = (v, m') → J S m0 (B) m' → Q (some (zi v)) m') : X (EE s) d 105 0 [(0, zr 4 41), (1, zi a1)] [] m Q := by
  refine X.aload_n 1 (zi105 0) rfl rfl rfl ?_
  refine X.callv 4 [] [] [(0, zr 4 41)] (zi105 1) rfl (by decide) rfl rfl (by omega) rfl rfl (by decide) rfl t93 (Nat.le_of_ble_eq_true rfl) (Nat.le_of_ble_eq_true rfl) rfl ?_
  refine c93_1 (B := B)   (by omega) (hJ.up (by omega)) (by omega)  hf19 hg4 (fun m501 hFv503 hJ502 => ?_)
  show X (EE s) d 105 4 [(0, zr 4 41), (1, zi a1)] [] m501 _
  refine X.aload_n 5 (zi105 4) rfl rfl rfl ?_
  refine X.getI 8 7 (zi105 5) rfl rfl (by decide) rfl rfl rfl ?_
  have h504 := r41_7 hJ502 4
  refine X.aload_n 9 (zi105 8) rfl rfl rfl ?_
  refine X.getI 12 3 (zi105 9) rfl rfl (by decide) rfl rfl rfl ?_
  have h505 := r41_3 hJ502 4
  refine X.icmpge 28 15 (zi105 12) rfl rfl rfl (fun h506 => ?_) (fun h506 => ?_)
  · refine X.cut [(0, zr 4 41)] (zi105 28) rfl ?_
    refine X.aload_n 29 (zi105 28) rfl rfl rfl ?_
    refine X.iconst 30 (zi105 29) rfl rfl (by decide) ?_
    refine X.aload_n 31 (zi105 30) rfl rfl rfl ?_
    refine X.getI 34 7 (zi105 31) rfl rfl (by decide) rfl rfl rfl ?_
    refine X.callv 37 [zi 1, zi (m501 4 41 7)] [] [(0, zr 4 41), (1, zi 1), (2, zi (m501 4 41 7))] (zi105 34) rfl (by decide) rfl rfl (by omega) rfl rfl (by decide) rfl t102 (Nat.le_of_ble_eq_true rfl) (Nat.le_of_ble_eq_true rfl) rfl ?_
    refine c102_1 (B := B)  1 (m501 4 41 7) (by omega) (hJ502.up (by omega)) (by omega) (by omega) (by omega) hf16 hg4 (fun v509 m507 hv509 hFv509 hJ508 => ?_)
    show X (EE s) d 105 37 [(0, zr 4 41)] [zi v509] m507 _
    refine X.retz (zi105 37) rfl t105 (by omega) ?_
    exact hQ v509 m507 (by first | trivial | omega) (Eq.trans (zs_eq hFv503.symm) (Eq.trans (if_pos h506) (Eq.trans (zb_eq hFv509) rfl))) (hJ508.up (by omega)) 
  · refine X.aload_n 16 (zi105 15) rfl rfl rfl ?_
    refine X.getF 19 (zi105 16) rfl rfl (by decide) rfl rfl ?_
    refine X.aload_n 20 (zi105 19) rfl rfl rfl ?_
    refine X.getI 23 7 (zi105 20) rfl rfl (by decide) rfl rfl rfl ?_
    refine X.iald 24 (zi105 23) rfl rfl (by decide) rfl (by omega) ?_
    have h510 := r42_0 hJ502 4 (i := (m501 4 41 7)) (by omega)
    refine X.iload_n 25 (zi105 24) rfl rfl rfl ?_
    refine X.icmpeq 38 28 (zi105 25) rfl rfl rfl (fun h511 => ?_) (fun h511 => ?_)
    · refine X.cut [(0, zr 4 41)] (zi105 38) rfl ?_
      refine X.aload_n 39 (zi105 38) rfl rfl rfl ?_
      refine X.dup 40 (zi105 39) rfl rfl rfl ?_
      refine X.getI 43 7 (zi105 40) rfl rfl (by decide) rfl rfl rfl ?_
      refine X.iconst 44 (zi105 43) rfl rfl (by decide) ?_
      refine X.iadd 45 (zi105 44) rfl rfl (by omega) ?_
      refine X.putI' 48 7 (zi105 45) rfl rfl (by decide) rfl rfl rfl (fun hrm512 m512 hm512 => ?_)
      have hJ513 := w41_7 hJ502 hm512 (by omega) hf19 hg4
      have em512 : m512 4 41 7 = ((m501 4 41 7) + 1) := by rw [hm512]; exact z_upd_same _ _ _ _ _
      refine X.iconst 49 (zi105 48) rfl rfl (by decide) ?_
      refine X.retz (zi105 49) rfl t105 (by omega) ?_
      exact hQ 1 m512 (by first | trivial | omega) (Eq.trans (zs_eq hFv503.symm) (Eq.trans (if_neg h506) (Eq.trans (if_pos h511) (Eq.trans (zs_eq hm512) rfl)))) (hJ513.up (by omega)) 
    · refine X.cut [(0, zr 4 41)] (zi105 28) rfl ?_
      refine X.aload_n 29 (zi105 28) rfl rfl rfl ?_
      refine X.iconst 30 (zi105 29) rfl rfl (by decide) ?_
      refine X.aload_n 31 (zi105 30) rfl rfl rfl ?_
      refine X.getI 34 7 (zi105 31) rfl rfl (by decide) rfl rfl rfl ?_
      refine X.callv 37 [zi 1, zi (m501 4 41 7)] [] [(0, zr 4 41), (1, zi 1), (2, zi (m501 4 41 7))] (zi105 34) rfl (by decide) rfl rfl (by omega) rfl rfl (by decide) rfl t102 (Nat.le_of_ble_eq_true rfl) (Nat.le_of_ble_eq_true rfl) rfl ?_
      refine c102_1 (B := B)  1 (m501 4 41 7) (by omega) (hJ502.up (by omega)) (by omega) (by omega) (by omega) hf16 hg4 (fun v516 m514 hv516 hFv516 hJ515 => ?_)
      show X (EE s) d 105 37 [(0, zr 4 41)] [zi v516] m514 _
      refine X.retz (zi105 37) rfl t105 (by omega) ?_
      exact hQ v516 m514 (by first | trivial | omega) (Eq.trans (zs_eq hFv503.symm) (Eq.trans (if_neg h506) (Eq.trans (if_neg h511) (Eq.trans (zb_eq hFv516) rfl)))) (hJ515.up (by omega)) 
noncomputable def fl92_45_1_b (self : Int → Int → zM → Int × zM) (k99 : Int → zM → Int × zM) (y1 y2 : Int) (m : zM) : Int × zM :=
  if 300 < y2 then
  (k99 y1 m)
  else
  (if (m 4 41 3) ≤ (m 4 41 7) then
  (k99 y1 m)
  else
  (if (m 4 41 4) = 0 then
  (zb (f94_1 m) fun v526 m524 =>
  if v526 = 0 then
  (self y1 (y2 + 1) m524)
  else
  (zb (f105_1 59 m524) fun v530 m528 =>
  if v530 = 0 then
  (self y1 (y2 + 1) m528)
  else
  (zs (f93_1 m528) fun m532 =>
  self (y1 + 1) (y2 + 1) m532)))
  else
  (k99 y1 m)))
noncomputable def fl92_45_1 (k99 : Int → zM → Int × zM) : Nat → Int → Int → zM → Int × zM
  | 0 => fun y1 y2 m => (0, m)
  | n + 1 => fl92_45_1_b (fl92_45_1 k99 n) k99
theorem l92_45_1 {s : Nat × (Nat → Int32)} {S : zS} {m0 : zM} {d : Nat} {Q : Option zV → zM → Prop} {R0 : Int × zM} {k99 : Int → zM → Int × zM} (BE : Int) (hE : BE ≤ 1000000000) (hd : 19 ≤ d) (hf1 : ¬ S.1 1) (hf16 : ¬ S.1 16) (hf19 : ¬ S.1 19) (hg3 : ¬ S.2.1 3) (hg4 : ¬ S.2.1 4)
    (K99 : ∀ (x1 : Int) (m' : zM) (B' : Int), J S m0 B' m' → B' ≤ BE → (0 ≤ x1 ∧ x1 ≤ 301) → R0 = k99 x1 m' → X (EE s) d 92 99 [(0, zr 4 41), (1, zi x1)] [] m' Q) :
    ∀ (n : Nat) (y1 y2 : Int) (m : zM) (B : Int), J S m0 B m → B + 0 * (n : Int) ≤ BE → (0 ≤ y1 ∧ y1 ≤ 301) → (0 ≤ y2 ∧ y2 ≤ 301) → (y1 ≤ y2) → 301 - y2 < (n : Int) → R0 = fl92_45_1 k99 n y1 y2 m → X (EE s) d 92 45 [(0, zr 4 41), (1, zi y1), (2, zi y2)] [] m Q := by
  intro n
  induction n with
  | zero =>
    intro y1 y2 m B hJ hB hy1 hy2 hr0 hn hR
    exfalso
    omega
  | succ n ih =>
    intro y1 y2 m B hJ hB hy1 hy2 hr0 hn hR
    replace hR : R0 = fl92_45_1_b (fl92_45_1 k99 n) k99 y1 y2 m := hR
    refine X.iload_n 46 (zi92 45) rfl rfl rfl ?_
    refine X.sipush 49 (zi92 46) rfl rfl (by decide) ?_
    refine X.icmpgt 99 52 (zi92 49) rfl rfl rfl (fun h518 => ?_) (fun h518 => ?_)
    · refine X.cut [(0, zr 4 41), (1, zi y1)] (zi92 99) rfl ?_
      exact K99 y1 m (B) (hJ.up (by omega)) (by omega) (by first | trivial | omega) (Eq.trans hR (Eq.trans (if_pos h518) rfl))
    · refine X.aload_n 53 (zi92 52) rfl rfl rfl ?_
      refine X.getI 56 7 (zi92 53) rfl rfl (by decide) rfl rfl rfl ?_
      have h519 := r41_7 hJ 4
      refine X.aload_n 57 (zi92 56) rfl rfl rfl ?_
      refine X.getI 60 3 (zi92 57) rfl rfl (by decide) rfl rfl rfl ?_
      have h520 := r41_3 hJ 4
      refine X.icmpge 99 63 (zi92 60) rfl rfl rfl (fun h521 => ?_) (fun h521 => ?_)
      · refine X.cut [(0, zr 4 41), (1, zi y1)] (zi92 99) rfl ?_
        exact K99 y1 m (B) (hJ.up (by omega)) (by omega) (by first | trivial | omega) (Eq.trans hR (Eq.trans (if_neg h518) (Eq.trans (if_pos h521) rfl)))
      · refine X.aload_n 64 (zi92 63) rfl rfl rfl ?_
        refine X.getIr 67 4 (zi92 64) rfl rfl (by decide) rfl rfl rfl (fun h522 => ?_)
        refine X.ifne 99 70 (zi92 67) rfl rfl rfl (fun h523 => ?_) (fun h523 => ?_)
        · refine X.cut [(0, zr 4 41), (1, zi y1)] (zi92 99) rfl ?_
          exact K99 y1 m (B) (hJ.up (by omega)) (by omega) (by first | trivial | omega) (Eq.trans hR (Eq.trans (if_neg h518) (Eq.trans (if_neg h521) (Eq.trans (if_neg h523) rfl))))
        · refine X.aload_n 71 (zi92 70) rfl rfl rfl ?_
          refine X.callv 74 [] [] [(0, zr 4 41)] (zi92 71) rfl (by decide) rfl rfl (by omega) rfl rfl (by decide) rfl t94 (Nat.le_of_ble_eq_true rfl) (Nat.le_of_ble_eq_true rfl) rfl ?_
          refine c94_1 (B := B)   (by omega) (hJ.up (by omega)) (by omega)  hf1 hf16 hf19 hg3 hg4 (fun v526 m524 hv526 hFv526 hJ525 => ?_)
          show X (EE s) d 92 74 [(0, zr 4 41), (1, zi y1), (2, zi y2)] [zi v526] m524 _
          refine X.ifeq 93 77 (zi92 74) rfl rfl rfl (fun h527 => ?_) (fun h527 => ?_)
          · refine X.iinc 96 [(0, zr 4 41), (1, zi y1), (2, zi (y2 + 1))] (zi92 93) rfl rfl rfl (by omega) rfl ?_
            refine X.goto 45 (zi92 96) rfl rfl ?_
            exact ih y1 (y2 + 1) m524 (B) (hJ525.up (by omega)) (by omega) (by omega) (by omega) (by omega) (by omega) (Eq.trans hR (Eq.trans (if_neg h518) (Eq.trans (if_neg h521) (Eq.trans (if_pos h523) (Eq.trans (zb_eq hFv526) (Eq.trans (if_pos h527) rfl))))))
          · refine X.aload_n 78 (zi92 77) rfl rfl rfl ?_
            refine X.bipush 80 (zi92 78) rfl rfl (by decide) ?_
            refine X.callv 83 [zi 59] [] [(0, zr 4 41), (1, zi 59)] (zi92 80) rfl (by decide) rfl rfl (by omega) rfl rfl (by decide) rfl t105 (Nat.le_of_ble_eq_true rfl) (Nat.le_of_ble_eq_true rfl) rfl ?_
            refine c105_2 (B := B)  59 (by omega) (hJ525.up (by omega)) (by omega) (by omega) hf16 hf19 hg4 (fun v530 m528 hv530 hFv530 hJ529 => ?_)
            show X (EE s) d 92 83 [(0, zr 4 41), (1, zi y1), (2, zi y2)] [zi v530] m528 _
            refine X.ifeq 93 86 (zi92 83) rfl rfl rfl (fun h531 => ?_) (fun h531 => ?_)
            · refine X.iinc 96 [(0, zr 4 41), (1, zi y1), (2, zi (y2 + 1))] (zi92 93) rfl rfl rfl (by omega) rfl ?_
              refine X.goto 45 (zi92 96) rfl rfl ?_
              exact ih y1 (y2 + 1) m528 (B) (hJ529.up (by omega)) (by omega) (by omega) (by omega) (by omega) (by omega) (Eq.trans hR (Eq.trans (if_neg h518) (Eq.trans (if_neg h521) (Eq.trans (if_pos h523) (Eq.trans (zb_eq hFv526) (Eq.trans (if_neg h527) (Eq.trans (zb_eq hFv530) (Eq.trans (if_pos h531) rfl))))))))
            · refine X.iinc 89 [(0, zr 4 41), (1, zi (y1 + 1)), (2, zi y2)] (zi92 86) rfl rfl rfl (by omega) rfl ?_
              refine X.aload_n 90 (zi92 89) rfl rfl rfl ?_
              refine X.callv 93 [] [] [(0, zr 4 41)] (zi92 90) rfl (by decide) rfl rfl (by omega) rfl rfl (by decide) rfl t93 (Nat.le_of_ble_eq_true rfl) (Nat.le_of_ble_eq_true rfl) rfl ?_
              refine c93_1 (B := B)   (by omega) (hJ529.up (by omega)) (by omega)  hf19 hg4 (fun m532 hFv534 hJ533 => ?_)
              show X (EE s) d 92 93 [(0, zr 4 41), (1, zi (y1 + 1)), (2, zi y2)] [] m532 _
              refine X.iinc 96 [(0, zr 4 41), (1, zi (y1 + 1)), (2, zi (y2 + 1))] (zi92 93) rfl rfl rfl (by omega) rfl ?_
              refine X.goto 45 (zi92 96) rfl rfl ?_
              exact ih (y1 + 1) (y2 + 1) m532 (B) (hJ533.up (by omega)) (by omega) (by omega) (by omega) (by omega) (by omega) (Eq.trans hR (Eq.trans (if_neg h518) (Eq.trans (if_neg h521) (Eq.trans (if_pos h523) (Eq.trans (zb_eq hFv526) (Eq.trans (if_neg h527) (Eq.trans (zb_eq hFv530) (Eq.trans (if_neg h531) (Eq.trans (zs_eq hFv534.symm) rfl)))))))))
-- WorkMeter$CalendarText.readAll
noncomputable def f92_1 (m : zM) : Int × zM :=
  zs (f4_1 3 m) fun m501 =>
  zs (z_upd m501 4 41 4 0) fun m504 =>
  zs (z_upd m504 4 41 5 (-1)) fun m506 =>
  zs (z_upd m506 4 41 6 0) fun m508 =>
  zs (z_upd m508 4 41 7 0) fun m510 =>
  zs (z_upd m510 4 41 9 0) fun m512 =>
  zs (z_upd m512 4 41 10 0) fun m514 =>
  zs (f93_1 m514) fun m516 =>
  fl92_45_1 (fun y519 m520 =>
  zs (z_upd m520 4 41 3 0) fun m524 =>
  if (m524 4 41 4) = 0 then
  ((y519, m524))
  else
  (((-1), m524))) (zfu 302) 0 0 m516
-- WorkMeter$CalendarText.readAll
theorem c92_1 {s : Nat × (Nat → Int32)} {S : zS} {m0 m : zM} {B : Int} {d : Nat} {Q : Option zV → zM → Prop} (hd : 19 ≤ d) (hJ : J S m0 B m) (hB : B + 0 ≤ 1000000000) (hf1 : ¬ S.1 1) (hf15 : ¬ S.1 15) (hf16 : ¬ S.1 16) (hf19 : ¬ S.1 19) (hg3 : ¬ S.2.1 3) (hg4 : ¬ S.2.1 4) (hQ : ∀ (v : Int) m', ((-1) ≤ v ∧ v ≤ 301) → f92_1 m = (v, m') → J S m0 (B) m' → Q (some (zi v)) m') : X (EE s) d 92 0 [(0, zr 4 41)] [] m Q := by
  refine X.aload_n 1 (zi92 0) rfl rfl rfl ?_
  refine X.getF 4 (zi92 1) rfl rfl (by decide) rfl rfl ?_
  refine X.callv 7 [] [] [(0, zr 3 11)] (zi92 4) rfl (by decide) rfl rfl (by omega) rfl rfl (by decide) rfl t4 (Nat.le_of_ble_eq_true rfl) (Nat.le_of_ble_eq_true rfl) rfl ?_
  refine c4_1 (B := B) 3  (by omega) (hJ.up (by omega)) (by omega)  hf1 hg3 (fun m501 hFv503 hJ502 => ?_)
  show X (EE s) d 92 7 [(0, zr 4 41)] [] m501 _
  refine X.aload_n 8 (zi92 7) rfl rfl rfl ?_
  refine X.iconst 9 (zi92 8) rfl rfl (by decide) ?_
  refine X.putI' 12 4 (zi92 9) rfl rfl (by decide) rfl rfl rfl (fun hrm504 m504 hm504 => ?_)
  have hJ505 := w41_4 hJ502 hm504 (by omega) hrm504 hf16 hg4
  refine X.aload_n 13 (zi92 12) rfl rfl rfl ?_
  refine X.iconst 14 (zi92 13) rfl rfl (by decide) ?_
  refine X.putI' 17 5 (zi92 14) rfl rfl (by decide) rfl rfl rfl (fun hrm506 m506 hm506 => ?_)
  have hJ507 := w41_4 hJ505 hm506 (by omega) hrm506 hf16 hg4
  refine X.aload_n 18 (zi92 17) rfl rfl rfl ?_
  refine X.iconst 19 (zi92 18) rfl rfl (by decide) ?_
  refine X.putZ' 22 6 (zi92 19) rfl rfl (by decide) rfl rfl rfl (by omega) (fun hrm508 m508 hm508 => ?_)
  have hJ509 := w41_6 hJ507 hm508 (by omega) hf19 hg4
  refine X.aload_n 23 (zi92 22) rfl rfl rfl ?_
  refine X.iconst 24 (zi92 23) rfl rfl (by decide) ?_
  refine X.putI' 27 7 (zi92 24) rfl rfl (by decide) rfl rfl rfl (fun hrm510 m510 hm510 => ?_)
  have hJ511 := w41_7 hJ509 hm510 (by omega) hf19 hg4
  have em510 : m510 4 41 7 = 0 := by rw [hm510]; exact z_upd_same _ _ _ _ _
  refine X.aload_n 28 (zi92 27) rfl rfl rfl ?_
  refine X.iconst 29 (zi92 28) rfl rfl (by decide) ?_
  refine X.putI' 32 9 (zi92 29) rfl rfl (by decide) rfl rfl rfl (fun hrm512 m512 hm512 => ?_)
  have hJ513 := w41_8 hJ511 hm512 (by omega) hrm512 hf19 hg4
  refine X.aload_n 33 (zi92 32) rfl rfl rfl ?_
  refine X.iconst 34 (zi92 33) rfl rfl (by decide) ?_
  refine X.putI' 37 10 (zi92 34) rfl rfl (by decide) rfl rfl rfl (fun hrm514 m514 hm514 => ?_)
  have hJ515 := w41_8 hJ513 hm514 (by omega) hrm514 hf19 hg4
  refine X.iconst 38 (zi92 37) rfl rfl (by decide) ?_
  refine X.istore_n 39 [(0, zr 4 41), (1, zi 0)] (zi92 38) rfl rfl rfl ?_
  refine X.aload_n 40 (zi92 39) rfl rfl rfl ?_
  refine X.callv 43 [] [] [(0, zr 4 41)] (zi92 40) rfl (by decide) rfl rfl (by omega) rfl rfl (by decide) rfl t93 (Nat.le_of_ble_eq_true rfl) (Nat.le_of_ble_eq_true rfl) rfl ?_
  refine c93_1 (B := B)   (by omega) (hJ515.up (by omega)) (by omega)  hf19 hg4 (fun m516 hFv518 hJ517 => ?_)
  show X (EE s) d 92 43 [(0, zr 4 41), (1, zi 0)] [] m516 _
  refine X.iconst 44 (zi92 43) rfl rfl (by decide) ?_
  refine X.istore_n 45 [(0, zr 4 41), (1, zi 0), (2, zi 0)] (zi92 44) rfl rfl rfl ?_
  have hz302 := zfu_eq 302
  refine l92_45_1 (s := s) (d := d) (R0 := (f92_1 m))    (BE := B + 0) (by omega) (by omega) hf1 hf16 hf19 hg3 hg4 (fun y519 m520 B521 hJ522 hBB521 hby519 hR523 => ?_) (zfu 302) 0 0 m516 (B) (hJ517.up (by omega)) (by omega) (by omega) (by omega) (by omega) (by omega) (Eq.trans (zs_eq hFv503.symm) (Eq.trans (zs_eq hm504) (Eq.trans (zs_eq hm506) (Eq.trans (zs_eq hm508) (Eq.trans (zs_eq hm510) (Eq.trans (zs_eq hm512) (Eq.trans (zs_eq hm514) (Eq.trans (zs_eq hFv518.symm) rfl))))))))
  refine X.aload_n 100 (zi92 99) rfl rfl rfl ?_
  refine X.iconst 101 (zi92 100) rfl rfl (by decide) ?_
  refine X.putI' 104 3 (zi92 101) rfl rfl (by decide) rfl rfl rfl (fun hrm524 m524 hm524 => ?_)
  have hJ525 := w41_3 hJ522 hm524 (by omega) hf15 hg4
  have em524 : m524 4 41 3 = 0 := by rw [hm524]; exact z_upd_same _ _ _ _ _
  refine X.aload_n 105 (zi92 104) rfl rfl rfl ?_
  refine X.getIr 108 4 (zi92 105) rfl rfl (by decide) rfl rfl rfl (fun h526 => ?_)
  refine X.ifne 115 111 (zi92 108) rfl rfl rfl (fun h527 => ?_) (fun h527 => ?_)
  · refine X.cut [] (zi92 115) rfl ?_
    refine X.iconst 116 (zi92 115) rfl rfl (by decide) ?_
    refine X.reti (zi92 116) rfl t92 ?_
    exact hQ (-1) m524 (by first | trivial | omega) (Eq.trans hR523 (Eq.trans (zs_eq hm524) (Eq.trans (if_neg h527) rfl))) (hJ525.up (by omega)) 
  · refine X.iload_n 112 (zi92 111) rfl rfl rfl ?_
    refine X.goto 116 (zi92 112) rfl rfl ?_
    refine X.cut [] (zi92 116) rfl ?_
    refine X.reti (zi92 116) rfl t92 ?_
    exact hQ y519 m524 (by first | trivial | omega) (Eq.trans hR523 (Eq.trans (zs_eq hm524) (Eq.trans (if_pos h527) rfl))) (hJ525.up (by omega)) 
-- WorkMeter$Calendar.copyFrom
noncomputable def f111_1 (g0 g1 : Nat) (m : zM) : zM :=
  zs (z_cpy m g0 12 g1 12 0 0 8) fun m501 =>
  zs (z_cpy m501 g0 13 g1 13 0 0 48) fun m503 =>
  zs (z_cpy m503 g0 14 g1 14 0 0 48) fun m505 =>
  zs (z_cpy m505 g0 15 g1 15 0 0 4) fun m507 =>
  zs (z_cpy m507 g0 16 g1 16 0 0 28) fun m509 =>
  zs (z_cpy m509 g0 17 g1 17 0 0 16) fun m511 =>
  zs (z_cpy m511 g0 18 g1 18 0 0 16) fun m513 =>
  zs (z_upd m513 g0 11 7 (m513 g1 11 7)) fun m516 =>
  m516
-- WorkMeter$Calendar.copyFrom
theorem c111_1 {s : Nat × (Nat → Int32)} {S : zS} {m0 m : zM} {B : Int} {d : Nat} {Q : Option zV → zM → Prop} (g0 g1 : Nat) (hd : 13 ≤ d) (hJ : J S m0 B m) (hB : B + 0 ≤ 1000000000) (hf1 : ¬ S.1 1) (hgg0 : ¬ S.2.1 g0) (hQ : ∀ m', f111_1 g0 g1 m = m' → J S m0 (B) m' → Q none m') : X (EE s) d 111 0 [(0, zr g0 11), (1, zr g1 11)] [] m Q := by
  refine X.aload_n 1 (zi111 0) rfl rfl rfl ?_
  refine X.getR 4 (zi111 1) rfl rfl (by decide) rfl rfl ?_
  refine X.iconst 5 (zi111 4) rfl rfl (by decide) ?_
  refine X.aload_n 6 (zi111 5) rfl rfl rfl ?_
  refine X.getR 9 (zi111 6) rfl rfl (by decide) rfl rfl ?_
  refine X.iconst 10 (zi111 9) rfl rfl (by decide) ?_
  refine X.aload_n 11 (zi111 10) rfl rfl rfl ?_
  refine X.getR 14 (zi111 11) rfl rfl (by decide) rfl rfl ?_
  refine X.alen 15 (zi111 14) rfl rfl (by decide) rfl ?_
  show X (EE s) d 111 15 [(0, zr g0 11), (1, zr g1 11)] [zi 8, zi 0, zr g0 12, zi 0, zr g1 12] m _
  refine X.cpI' 18 (zi111 15) rfl rfl (by omega) (Nat.le_of_ble_eq_true rfl) (by decide) (by decide) rfl rfl (by omega) (fun m501 hm501 => ?_)
  have hJ502 := J.cpyS hJ hm501 rfl hf1 hgg0
  refine X.aload_n 19 (zi111 18) rfl rfl rfl ?_
  refine X.getR 22 (zi111 19) rfl rfl (by decide) rfl rfl ?_
  refine X.iconst 23 (zi111 22) rfl rfl (by decide) ?_
  refine X.aload_n 24 (zi111 23) rfl rfl rfl ?_
  refine X.getR 27 (zi111 24) rfl rfl (by decide) rfl rfl ?_
  refine X.iconst 28 (zi111 27) rfl rfl (by decide) ?_
  refine X.aload_n 29 (zi111 28) rfl rfl rfl ?_
  refine X.getR 32 (zi111 29) rfl rfl (by decide) rfl rfl ?_
  refine X.alen 33 (zi111 32) rfl rfl (by decide) rfl ?_
  show X (EE s) d 111 33 [(0, zr g0 11), (1, zr g1 11)] [zi 48, zi 0, zr g0 13, zi 0, zr g1 13] m501 _
  refine X.cpI' 36 (zi111 33) rfl rfl (by omega) (Nat.le_of_ble_eq_true rfl) (by decide) (by decide) rfl rfl (by omega) (fun m503 hm503 => ?_)
  have hJ504 := J.cpyS hJ502 hm503 rfl hf1 hgg0
  refine X.aload_n 37 (zi111 36) rfl rfl rfl ?_
  refine X.getR 40 (zi111 37) rfl rfl (by decide) rfl rfl ?_
  refine X.iconst 41 (zi111 40) rfl rfl (by decide) ?_
  refine X.aload_n 42 (zi111 41) rfl rfl rfl ?_
  refine X.getR 45 (zi111 42) rfl rfl (by decide) rfl rfl ?_
  refine X.iconst 46 (zi111 45) rfl rfl (by decide) ?_
  refine X.aload_n 47 (zi111 46) rfl rfl rfl ?_
  refine X.getR 50 (zi111 47) rfl rfl (by decide) rfl rfl ?_
  refine X.alen 51 (zi111 50) rfl rfl (by decide) rfl ?_
  show X (EE s) d 111 51 [(0, zr g0 11), (1, zr g1 11)] [zi 48, zi 0, zr g0 14, zi 0, zr g1 14] m503 _
  refine X.cpI' 54 (zi111 51) rfl rfl (by omega) (Nat.le_of_ble_eq_true rfl) (by decide) (by decide) rfl rfl (by omega) (fun m505 hm505 => ?_)
  have hJ506 := J.cpyS hJ504 hm505 rfl hf1 hgg0
  refine X.aload_n 55 (zi111 54) rfl rfl rfl ?_
  refine X.getR 58 (zi111 55) rfl rfl (by decide) rfl rfl ?_
  refine X.iconst 59 (zi111 58) rfl rfl (by decide) ?_
  refine X.aload_n 60 (zi111 59) rfl rfl rfl ?_
  refine X.getR 63 (zi111 60) rfl rfl (by decide) rfl rfl ?_
  refine X.iconst 64 (zi111 63) rfl rfl (by decide) ?_
  refine X.aload_n 65 (zi111 64) rfl rfl rfl ?_
  refine X.getR 68 (zi111 65) rfl rfl (by decide) rfl rfl ?_
  refine X.alen 69 (zi111 68) rfl rfl (by decide) rfl ?_
  show X (EE s) d 111 69 [(0, zr g0 11), (1, zr g1 11)] [zi 4, zi 0, zr g0 15, zi 0, zr g1 15] m505 _
  refine X.cpI' 72 (zi111 69) rfl rfl (by omega) (Nat.le_of_ble_eq_true rfl) (by decide) (by decide) rfl rfl (by omega) (fun m507 hm507 => ?_)
  have hJ508 := J.cpyS hJ506 hm507 rfl hf1 hgg0
  refine X.aload_n 73 (zi111 72) rfl rfl rfl ?_
  refine X.getR 76 (zi111 73) rfl rfl (by decide) rfl rfl ?_
  refine X.iconst 77 (zi111 76) rfl rfl (by decide) ?_
  refine X.aload_n 78 (zi111 77) rfl rfl rfl ?_
  refine X.getR 81 (zi111 78) rfl rfl (by decide) rfl rfl ?_
  refine X.iconst 82 (zi111 81) rfl rfl (by decide) ?_
  refine X.aload_n 83 (zi111 82) rfl rfl rfl ?_
  refine X.getR 86 (zi111 83) rfl rfl (by decide) rfl rfl ?_
  refine X.alen 87 (zi111 86) rfl rfl (by decide) rfl ?_
  show X (EE s) d 111 87 [(0, zr g0 11), (1, zr g1 11)] [zi 28, zi 0, zr g0 16, zi 0, zr g1 16] m507 _
  refine X.cpI' 90 (zi111 87) rfl rfl (by omega) (Nat.le_of_ble_eq_true rfl) (by decide) (by decide) rfl rfl (by omega) (fun m509 hm509 => ?_)
  have hJ510 := J.cpyS hJ508 hm509 rfl hf1 hgg0
  refine X.aload_n 91 (zi111 90) rfl rfl rfl ?_
  refine X.getR 94 (zi111 91) rfl rfl (by decide) rfl rfl ?_
  refine X.iconst 95 (zi111 94) rfl rfl (by decide) ?_
  refine X.aload_n 96 (zi111 95) rfl rfl rfl ?_
  refine X.getR 99 (zi111 96) rfl rfl (by decide) rfl rfl ?_
  refine X.iconst 100 (zi111 99) rfl rfl (by decide) ?_
  refine X.bipush 102 (zi111 100) rfl rfl (by decide) ?_
  refine X.cpI' 105 (zi111 102) rfl rfl (by omega) (Nat.le_of_ble_eq_true rfl) (by decide) (by decide) rfl rfl (by omega) (fun m511 hm511 => ?_)
  have hJ512 := J.cpyS hJ510 hm511 rfl hf1 hgg0
  refine X.aload_n 106 (zi111 105) rfl rfl rfl ?_
  refine X.getR 109 (zi111 106) rfl rfl (by decide) rfl rfl ?_
  refine X.iconst 110 (zi111 109) rfl rfl (by decide) ?_
  refine X.aload_n 111 (zi111 110) rfl rfl rfl ?_
  refine X.getR 114 (zi111 111) rfl rfl (by decide) rfl rfl ?_
  refine X.iconst 115 (zi111 114) rfl rfl (by decide) ?_
  refine X.bipush 117 (zi111 115) rfl rfl (by decide) ?_
  refine X.cpI' 120 (zi111 117) rfl rfl (by omega) (Nat.le_of_ble_eq_true rfl) (by decide) (by decide) rfl rfl (by omega) (fun m513 hm513 => ?_)
  have hJ514 := J.cpyS hJ512 hm513 rfl hf1 hgg0
  refine X.aload_n 121 (zi111 120) rfl rfl rfl ?_
  refine X.aload_n 122 (zi111 121) rfl rfl rfl ?_
  refine X.getI 125 7 (zi111 122) rfl rfl (by decide) rfl rfl rfl ?_
  have h515 := r11_7 hJ514 g1
  refine X.putI' 128 7 (zi111 125) rfl rfl (by decide) rfl rfl rfl (fun hrm516 m516 hm516 => ?_)
  have hJ517 := w11_7 hJ514 hm516 (by omega) hf1 hgg0
  have em516 : m516 g0 11 7 = (m513 g1 11 7) := by rw [hm516]; exact z_upd_same _ _ _ _ _
  refine X.retv (zi111 128) rfl t111 ?_
  exact hQ  m516  (Eq.trans (zs_eq hm501) (Eq.trans (zs_eq hm503) (Eq.trans (zs_eq hm505) (Eq.trans (zs_eq hm507) (Eq.trans (zs_eq hm509) (Eq.trans (zs_eq hm511) (Eq.trans (zs_eq hm513) (Eq.trans (zs_eq hm516) rfl)))))))) (hJ517.up (by omega)) 
-- WorkMeter$CalendarText.forget
noncomputable def f91_1 (m : zM) : zM :=
  zs (z_upd m 4 41 3 0) fun m501 =>
  zs (z_upd m501 4 41 4 0) fun m503 =>
  zs (z_upd m503 4 41 5 (-1)) fun m505 =>
  m505
-- WorkMeter$CalendarText.forget
theorem c91_1 {s : Nat × (Nat → Int32)} {S : zS} {m0 m : zM} {B : Int} {d : Nat} {Q : Option zV → zM → Prop} (hd : 13 ≤ d) (hJ : J S m0 B m) (hB : B + 0 ≤ 1000000000) (hf15 : ¬ S.1 15) (hf16 : ¬ S.1 16) (hg4 : ¬ S.2.1 4) (hQ : ∀ m', f91_1 m = m' → J S m0 (B) m' → Q none m') : X (EE s) d 91 0 [(0, zr 4 41)] [] m Q := by
  refine X.aload_n 1 (zi91 0) rfl rfl rfl ?_
  refine X.iconst 2 (zi91 1) rfl rfl (by decide) ?_
  refine X.putI' 5 3 (zi91 2) rfl rfl (by decide) rfl rfl rfl (fun hrm501 m501 hm501 => ?_)
  have hJ502 := w41_3 hJ hm501 (by omega) hf15 hg4
  have em501 : m501 4 41 3 = 0 := by rw [hm501]; exact z_upd_same _ _ _ _ _
  refine X.aload_n 6 (zi91 5) rfl rfl rfl ?_
  refine X.iconst 7 (zi91 6) rfl rfl (by decide) ?_
  refine X.putI' 10 4 (zi91 7) rfl rfl (by decide) rfl rfl rfl (fun hrm503 m503 hm503 => ?_)
  have hJ504 := w41_4 hJ502 hm503 (by omega) hrm503 hf16 hg4
  refine X.aload_n 11 (zi91 10) rfl rfl rfl ?_
  refine X.iconst 12 (zi91 11) rfl rfl (by decide) ?_
  refine X.putI' 15 5 (zi91 12) rfl rfl (by decide) rfl rfl rfl (fun hrm505 m505 hm505 => ?_)
  have hJ506 := w41_4 hJ504 hm505 (by omega) hrm505 hf16 hg4
  refine X.retv (zi91 15) rfl t91 ?_
  exact hQ  m505  (Eq.trans (zs_eq hm501) (Eq.trans (zs_eq hm503) (Eq.trans (zs_eq hm505) rfl))) (hJ506.up (by omega)) 
-- WorkMeter.calendar
noncomputable def f90_1 (m : zM) : Int × zM :=
  zb (f17_1 0 m) fun v503 m501 =>
  if v503 = 0 then
  (zb (f92_1 m501) fun v507 m505 =>
  zs (if v507 = (-1) then
  (m505)
  else
  (zs (f111_1 0 3 m505) fun m509 =>
  if (m509 4 41 6) = 0 then
  (m509)
  else
  (zs (z_cpy m509 0 10 4 43 0 6 4) fun m514 =>
  m514))) fun m517 =>
  (v507, m517))
  else
  (zs (f91_1 m501) fun m521 =>
  ((-1), m521))
-- WorkMeter.calendar
theorem c90_1 {s : Nat × (Nat → Int32)} {S : zS} {m0 m : zM} {B : Int} {d : Nat} {Q : Option zV → zM → Prop} (hd : 20 ≤ d) (hJ : J S m0 B m) (hB : B + 0 ≤ 1000000000) (hf1 : ¬ S.1 1) (hf3 : ¬ S.1 3) (hf4 : ¬ S.1 4) (hf15 : ¬ S.1 15) (hf16 : ¬ S.1 16) (hf19 : ¬ S.1 19) (hg0 : ¬ S.2.1 0) (hg3 : ¬ S.2.1 3) (hg4 : ¬ S.2.1 4) (hQ : ∀ (v : Int) m', ((-1) ≤ v ∧ v ≤ 301) → f90_1 m = (v, m') → J S m0 (B) m' → Q (some (zi v)) m') : X (EE s) d 90 0 [(0, zr 4 40)] [] m Q := by
  refine X.aload_n 1 (zi90 0) rfl rfl rfl ?_
  refine X.getF 4 (zi90 1) rfl rfl (by decide) rfl rfl ?_
  refine X.getR 7 (zi90 4) rfl rfl (by decide) rfl rfl ?_
  refine X.callv 10 [] [] [(0, zr 0 39)] (zi90 7) rfl (by decide) rfl rfl (by omega) rfl rfl (by decide) rfl t17 (Nat.le_of_ble_eq_true rfl) (Nat.le_of_ble_eq_true rfl) rfl ?_
  refine c17_1 (B := B) 0  (by omega) (hJ.up (by omega)) (by omega)  hf4 hg0 (fun v503 m501 hv503 hFv503 hJ502 => ?_)
  show X (EE s) d 90 10 [(0, zr 4 40)] [zi v503] m501 _
  refine X.ifeq 22 13 (zi90 10) rfl rfl rfl (fun h504 => ?_) (fun h504 => ?_)
  · refine X.aload_n 23 (zi90 22) rfl rfl rfl ?_
    refine X.getF 26 (zi90 23) rfl rfl (by decide) rfl rfl ?_
    refine X.callv 29 [] [] [(0, zr 4 41)] (zi90 26) rfl (by decide) rfl rfl (by omega) rfl rfl (by decide) rfl t92 (Nat.le_of_ble_eq_true rfl) (Nat.le_of_ble_eq_true rfl) rfl ?_
    refine c92_1 (B := B)   (by omega) (hJ502.up (by omega)) (by omega)  hf1 hf15 hf16 hf19 hg3 hg4 (fun v507 m505 hv507 hFv507 hJ506 => ?_)
    show X (EE s) d 90 29 [(0, zr 4 40)] [zi v507] m505 _
    refine X.istore_n 30 [(0, zr 4 40), (1, zi v507)] (zi90 29) rfl rfl rfl ?_
    refine X.iload_n 31 (zi90 30) rfl rfl rfl ?_
    refine X.iconst 32 (zi90 31) rfl rfl (by decide) ?_
    have hK519 : ∀ (m' : zM), (if v507 = (-1) then
        (m505)
        else
        (zs (f111_1 0 3 m505) fun m509 =>
        if (m509 4 41 6) = 0 then
        (m509)
        else
        (zs (z_cpy m509 0 10 4 43 0 6 4) fun m514 =>
        m514))) = m' → J S m0 (B) m' → X (EE s) d 90 79 [(1, zi v507)] [] m' Q := by
      intro m517 hT520 hJ518
      refine X.iload_n 80 (zi90 79) rfl rfl rfl ?_
      refine X.reti (zi90 80) rfl t90 ?_
      exact hQ v507 m517 (by first | trivial | omega) (Eq.trans (zb_eq hFv503) (Eq.trans (if_pos h504) (Eq.trans (zb_eq hFv507) (Eq.trans (zs_eq hT520.symm) rfl)))) (hJ518.up (by omega)) 
    refine X.icmpeq 79 35 (zi90 32) rfl rfl rfl (fun h508 => ?_) (fun h508 => ?_)
    · refine X.cut [(1, zi v507)] (zi90 79) rfl ?_
      exact hK519 m505 (Eq.trans (if_pos h508) rfl) (hJ506.up (by omega))
    · refine X.aload_n 36 (zi90 35) rfl rfl rfl ?_
      refine X.getF 39 (zi90 36) rfl rfl (by decide) rfl rfl ?_
      refine X.getR 42 (zi90 39) rfl rfl (by decide) rfl rfl ?_
      refine X.aload_n 43 (zi90 42) rfl rfl rfl ?_
      refine X.getF 46 (zi90 43) rfl rfl (by decide) rfl rfl ?_
      refine X.getF 49 (zi90 46) rfl rfl (by decide) rfl rfl ?_
      refine X.callv 52 [zr 3 11] [] [(0, zr 0 11), (1, zr 3 11)] (zi90 49) rfl (by decide) rfl rfl (by omega) rfl rfl (by decide) rfl t111 (Nat.le_of_ble_eq_true rfl) (Nat.le_of_ble_eq_true rfl) rfl ?_
      refine c111_1 (B := B) 0 3  (by omega) (hJ506.up (by omega)) (by omega)  hf1 hg0 (fun m509 hFv511 hJ510 => ?_)
      show X (EE s) d 90 52 [(0, zr 4 40), (1, zi v507)] [] m509 _
      refine X.aload_n 53 (zi90 52) rfl rfl rfl ?_
      refine X.getF 56 (zi90 53) rfl rfl (by decide) rfl rfl ?_
      refine X.getZ 59 6 (zi90 56) rfl rfl (by decide) rfl rfl rfl (fun h512 => ?_)
      refine X.ifeq 79 62 (zi90 59) rfl rfl rfl (fun h513 => ?_) (fun h513 => ?_)
      · refine X.cut [(1, zi v507)] (zi90 79) rfl ?_
        exact hK519 m509 (Eq.trans (if_neg h508) (Eq.trans (zs_eq hFv511.symm) (Eq.trans (if_pos h513) rfl))) (hJ510.up (by omega))
      · refine X.aload_n 63 (zi90 62) rfl rfl rfl ?_
        refine X.getF 66 (zi90 63) rfl rfl (by decide) rfl rfl ?_
        refine X.getR 69 (zi90 66) rfl rfl (by decide) rfl rfl ?_
        refine X.aload_n 70 (zi90 69) rfl rfl rfl ?_
        refine X.getF 73 (zi90 70) rfl rfl (by decide) rfl rfl ?_
        refine X.getF 76 (zi90 73) rfl rfl (by decide) rfl rfl ?_
        refine X.callv 79 [zr 4 43] [] [(0, zr 0 9), (1, zr 4 43)] (zi90 76) rfl (by decide) rfl rfl (by omega) rfl rfl (by decide) rfl t112 (Nat.le_of_ble_eq_true rfl) (Nat.le_of_ble_eq_true rfl) rfl ?_
        refine X.aload_n 1 (zi112 0) rfl rfl rfl ?_
        refine X.iconst 2 (zi112 1) rfl rfl (by decide) ?_
        refine X.aload_n 3 (zi112 2) rfl rfl rfl ?_
        refine X.getR 6 (zi112 3) rfl rfl (by decide) rfl rfl ?_
        refine X.bipush 8 (zi112 6) rfl rfl (by decide) ?_
        refine X.iconst 9 (zi112 8) rfl rfl (by decide) ?_
        refine X.cpI' 12 (zi112 9) rfl rfl (by omega) (Nat.le_of_ble_eq_true rfl) (by decide) (by decide) rfl rfl (by omega) (fun m514 hm514 => ?_)
        have hJ515 := J.cpyP hJ510 hm514 (by omega) hf3 hg0
        refine X.retv (zi112 12) rfl t112 ?_
        show X (EE s) d 90 79 [(0, zr 4 40), (1, zi v507)] [] m514 _
        refine X.cut [(1, zi v507)] (zi90 79) rfl ?_
        exact hK519 m514 (Eq.trans (if_neg h508) (Eq.trans (zs_eq hFv511.symm) (Eq.trans (if_neg h513) (Eq.trans (zs_eq hm514) rfl)))) (hJ515.up (by omega))
  · refine X.aload_n 14 (zi90 13) rfl rfl rfl ?_
    refine X.getF 17 (zi90 14) rfl rfl (by decide) rfl rfl ?_
    refine X.callv 20 [] [] [(0, zr 4 41)] (zi90 17) rfl (by decide) rfl rfl (by omega) rfl rfl (by decide) rfl t91 (Nat.le_of_ble_eq_true rfl) (Nat.le_of_ble_eq_true rfl) rfl ?_
    refine c91_1 (B := B)   (by omega) (hJ502.up (by omega)) (by omega)  hf15 hf16 hg4 (fun m521 hFv523 hJ522 => ?_)
    show X (EE s) d 90 20 [(0, zr 4 40)] [] m521 _
    refine X.iconst 21 (zi90 20) rfl rfl (by decide) ?_
    refine X.reti (zi90 21) rfl t90 ?_
    exact hQ (-1) m521 (by first | trivial | omega) (Eq.trans (zb_eq hFv503) (Eq.trans (if_neg h504) (Eq.trans (zs_eq hFv523.symm) rfl))) (hJ522.up (by omega)) 
noncomputable def fl262_2_1_b (self : Int → zM → zM) (k32 : zM → zM) (y1 : Int) (m : zM) : zM :=
  if 8 ≤ y1 then
  (k32 m)
  else
  (zs (z_upd m 4 45 (287 + y1) 0) fun m507 =>
  zs (z_upd m507 4 49 y1 0) fun m509 =>
  self (y1 + 1) m509)
noncomputable def fl262_2_1 (k32 : zM → zM) : Nat → Int → zM → zM
  | 0 => fun y1 m => m
  | n + 1 => fl262_2_1_b (fl262_2_1 k32 n) k32
theorem l262_2_1 {s : Nat × (Nat → Int32)} {S : zS} {m0 : zM} {d : Nat} {Q : Option zV → zM → Prop} {R0 : zM} {k32 : zM → zM} (BE : Int) (hE : BE ≤ 1000000000) (hd : 13 ≤ d) (hf21 : ¬ S.1 21) (hf39 : ¬ S.1 39) (hg4 : ¬ S.2.1 4)
    (K32 : ∀ (m' : zM) (B' : Int), J S m0 B' m' → B' ≤ BE → R0 = k32 m' → X (EE s) d 262 32 [(0, zr 4 44)] [] m' Q) :
    ∀ (n : Nat) (y1 : Int) (m : zM) (B : Int), J S m0 B m → B + 0 * (n : Int) ≤ BE → (0 ≤ y1 ∧ y1 ≤ 8) → 8 - y1 < (n : Int) → R0 = fl262_2_1 k32 n y1 m → X (EE s) d 262 2 [(0, zr 4 44), (1, zi y1)] [] m Q := by
  intro n
  induction n with
  | zero =>
    intro y1 m B hJ hB hy1 hn hR
    exfalso
    omega
  | succ n ih =>
    intro y1 m B hJ hB hy1 hn hR
    replace hR : R0 = fl262_2_1_b (fl262_2_1 k32 n) k32 y1 m := hR
    refine X.iload_n 3 (zi262 2) rfl rfl rfl ?_
    refine X.bipush 5 (zi262 3) rfl rfl (by decide) ?_
    refine X.icmpge 32 8 (zi262 5) rfl rfl rfl (fun h506 => ?_) (fun h506 => ?_)
    · refine X.cut [(0, zr 4 44)] (zi262 32) rfl ?_
      exact K32  m (B) (hJ.up (by omega)) (by omega)  (Eq.trans hR (Eq.trans (if_pos h506) rfl))
    · refine X.aload_n 9 (zi262 8) rfl rfl rfl ?_
      refine X.getF 12 (zi262 9) rfl rfl (by decide) rfl rfl ?_
      refine X.sipush 15 (zi262 12) rfl rfl (by decide) ?_
      refine X.iload_n 16 (zi262 15) rfl rfl rfl ?_
      refine X.iadd 17 (zi262 16) rfl rfl (by omega) ?_
      refine X.lconst (y := 0) 18 (zi262 17) rfl rfl rfl ?_
      refine X.last' 19 (zi262 18) rfl rfl (by decide) rfl (by omega) (fun hrm507 m507 hm507 => ?_)
      have hJ508 := w45_287 hJ hm507 (by omega) (by omega) hf21 hg4
      refine X.aload_n 20 (zi262 19) rfl rfl rfl ?_
      refine X.getF 23 (zi262 20) rfl rfl (by decide) rfl rfl ?_
      refine X.iload_n 24 (zi262 23) rfl rfl rfl ?_
      refine X.iconst 25 (zi262 24) rfl rfl (by decide) ?_
      refine X.zast' 26 (zi262 25) rfl rfl (by decide) rfl (by omega) (by omega) (fun hrm509 m509 hm509 => ?_)
      have hJ510 := w49_0 hJ508 hm509 (by omega) hrm509 hf39 hg4
      refine X.iinc 29 [(0, zr 4 44), (1, zi (y1 + 1))] (zi262 26) rfl rfl rfl (by omega) rfl ?_
      refine X.goto 2 (zi262 29) rfl rfl ?_
      exact ih (y1 + 1) m509 (B) (hJ510.up (by omega)) (by omega) (by omega) (by omega) (Eq.trans hR (Eq.trans (if_neg h506) (Eq.trans (zs_eq hm507) (Eq.trans (zs_eq hm509) rfl))))
noncomputable def fl262_34_1_b (self : Int → zM → zM) (k73 : zM → zM) (y1 : Int) (m : zM) : zM :=
  if 4 ≤ y1 then
  (k73 m)
  else
  (zn (if y1 = 0 then
  (0)
  else
  ((-1))) fun v514 =>
  zs (z_upd m 4 45 (391 + y1) v514) fun m519 =>
  zs (z_upd m519 4 50 y1 0) fun m521 =>
  self (y1 + 1) m521)
noncomputable def fl262_34_1 (k73 : zM → zM) : Nat → Int → zM → zM
  | 0 => fun y1 m => m
  | n + 1 => fl262_34_1_b (fl262_34_1 k73 n) k73
theorem l262_34_1 {s : Nat × (Nat → Int32)} {S : zS} {m0 : zM} {d : Nat} {Q : Option zV → zM → Prop} {R0 : zM} {k73 : zM → zM} (BE : Int) (hE : BE ≤ 1000000000) (hd : 13 ≤ d) (hf21 : ¬ S.1 21) (hf39 : ¬ S.1 39) (hg4 : ¬ S.2.1 4)
    (K73 : ∀ (m' : zM) (B' : Int), J S m0 B' m' → B' ≤ BE → R0 = k73 m' → X (EE s) d 262 73 [(0, zr 4 44)] [] m' Q) :
    ∀ (n : Nat) (y1 : Int) (m : zM) (B : Int), J S m0 B m → B + 0 * (n : Int) ≤ BE → (0 ≤ y1 ∧ y1 ≤ 4) → 4 - y1 < (n : Int) → R0 = fl262_34_1 k73 n y1 m → X (EE s) d 262 34 [(0, zr 4 44), (1, zi y1)] [] m Q := by
  intro n
  induction n with
  | zero =>
    intro y1 m B hJ hB hy1 hn hR
    exfalso
    omega
  | succ n ih =>
    intro y1 m B hJ hB hy1 hn hR
    replace hR : R0 = fl262_34_1_b (fl262_34_1 k73 n) k73 y1 m := hR
    refine X.iload_n 35 (zi262 34) rfl rfl rfl ?_
    refine X.iconst 36 (zi262 35) rfl rfl (by decide) ?_
    refine X.icmpge 73 39 (zi262 36) rfl rfl rfl (fun h512 => ?_) (fun h512 => ?_)
    · refine X.cut [(0, zr 4 44)] (zi262 73) rfl ?_
      exact K73  m (B) (hJ.up (by omega)) (by omega)  (Eq.trans hR (Eq.trans (if_pos h512) rfl))
    · refine X.aload_n 40 (zi262 39) rfl rfl rfl ?_
      refine X.getF 43 (zi262 40) rfl rfl (by decide) rfl rfl ?_
      refine X.sipush 46 (zi262 43) rfl rfl (by decide) ?_
      refine X.iload_n 47 (zi262 46) rfl rfl rfl ?_
      refine X.iadd 48 (zi262 47) rfl rfl (by omega) ?_
      refine X.iload_n 49 (zi262 48) rfl rfl rfl ?_
      have hK517 : ∀ (v : Int) , ((-1) ≤ v ∧ v ≤ 0) → (if y1 = 0 then
          (0)
          else
          ((-1))) = v → X (EE s) d 262 59 [(0, zr 4 44), (1, zi y1)] [zl v, zi (391 + y1), zr 4 45] m Q := by
        intro v514 hv514 hT518
        refine X.last' 60 (zi262 59) rfl rfl (by decide) rfl (by omega) (fun hrm519 m519 hm519 => ?_)
        have hJ520 := w45_391 hJ hm519 (by omega) (by omega) hf21 hg4
        refine X.aload_n 61 (zi262 60) rfl rfl rfl ?_
        refine X.getF 64 (zi262 61) rfl rfl (by decide) rfl rfl ?_
        refine X.iload_n 65 (zi262 64) rfl rfl rfl ?_
        refine X.iconst 66 (zi262 65) rfl rfl (by decide) ?_
        refine X.zast' 67 (zi262 66) rfl rfl (by decide) rfl (by omega) (by omega) (fun hrm521 m521 hm521 => ?_)
        have hJ522 := w50_0 hJ520 hm521 (by omega) hrm521 hf39 hg4
        refine X.iinc 70 [(0, zr 4 44), (1, zi (y1 + 1))] (zi262 67) rfl rfl rfl (by omega) rfl ?_
        refine X.goto 34 (zi262 70) rfl rfl ?_
        exact ih (y1 + 1) m521 (B) (hJ522.up (by omega)) (by omega) (by omega) (by omega) (Eq.trans hR (Eq.trans (if_neg h512) (Eq.trans (zn_eq hT518.symm) (Eq.trans (zs_eq hm519) (Eq.trans (zs_eq hm521) rfl)))))
      refine X.ifne 56 52 (zi262 49) rfl rfl rfl (fun h513 => ?_) (fun h513 => ?_)
      · refine X.ldc2 59 (zi262 56) rfl rfl (by decide) ?_
        exact hK517 (-1) (by first | trivial | omega) (Eq.trans (if_neg h513) rfl)
      · refine X.lconst (y := 0) 53 (zi262 52) rfl rfl rfl ?_
        refine X.goto 59 (zi262 53) rfl rfl ?_
        exact hK517 0 (by first | trivial | omega) (Eq.trans (if_pos h513) rfl)
noncomputable def fl262_75_1_b (self : Int → zM → zM) (k98 : zM → zM) (y1 : Int) (m : zM) : zM :=
  if 28 ≤ y1 then
  (k98 m)
  else
  (zs (z_upd m 4 45 (395 + y1) 0) fun m505 =>
  self (y1 + 1) m505)
noncomputable def fl262_75_1 (k98 : zM → zM) : Nat → Int → zM → zM
  | 0 => fun y1 m => m
  | n + 1 => fl262_75_1_b (fl262_75_1 k98 n) k98
theorem l262_75_1 {s : Nat × (Nat → Int32)} {S : zS} {m0 : zM} {d : Nat} {Q : Option zV → zM → Prop} {R0 : zM} {k98 : zM → zM} (BE : Int) (hE : BE ≤ 1000000000) (hd : 13 ≤ d) (hf21 : ¬ S.1 21) (hg4 : ¬ S.2.1 4)
    (K98 : ∀ (m' : zM) (B' : Int), J S m0 B' m' → B' ≤ BE → R0 = k98 m' → X (EE s) d 262 98 [(0, zr 4 44)] [] m' Q) :
    ∀ (n : Nat) (y1 : Int) (m : zM) (B : Int), J S m0 B m → B + 0 * (n : Int) ≤ BE → (0 ≤ y1 ∧ y1 ≤ 28) → 28 - y1 < (n : Int) → R0 = fl262_75_1 k98 n y1 m → X (EE s) d 262 75 [(0, zr 4 44), (1, zi y1)] [] m Q := by
  intro n
  induction n with
  | zero =>
    intro y1 m B hJ hB hy1 hn hR
    exfalso
    omega
  | succ n ih =>
    intro y1 m B hJ hB hy1 hn hR
    replace hR : R0 = fl262_75_1_b (fl262_75_1 k98 n) k98 y1 m := hR
    refine X.iload_n 76 (zi262 75) rfl rfl rfl ?_
    refine X.bipush 78 (zi262 76) rfl rfl (by decide) ?_
    refine X.icmpge 98 81 (zi262 78) rfl rfl rfl (fun h504 => ?_) (fun h504 => ?_)
    · refine X.cut [(0, zr 4 44)] (zi262 98) rfl ?_
      exact K98  m (B) (hJ.up (by omega)) (by omega)  (Eq.trans hR (Eq.trans (if_pos h504) rfl))
    · refine X.aload_n 82 (zi262 81) rfl rfl rfl ?_
      refine X.getF 85 (zi262 82) rfl rfl (by decide) rfl rfl ?_
      refine X.sipush 88 (zi262 85) rfl rfl (by decide) ?_
      refine X.iload_n 89 (zi262 88) rfl rfl rfl ?_
      refine X.iadd 90 (zi262 89) rfl rfl (by omega) ?_
      refine X.lconst (y := 0) 91 (zi262 90) rfl rfl rfl ?_
      refine X.last' 92 (zi262 91) rfl rfl (by decide) rfl (by omega) (fun hrm505 m505 hm505 => ?_)
      have hJ506 := w45_395 hJ hm505 (by omega) (by omega) hf21 hg4
      refine X.iinc 95 [(0, zr 4 44), (1, zi (y1 + 1))] (zi262 92) rfl rfl rfl (by omega) rfl ?_
      refine X.goto 75 (zi262 95) rfl rfl ?_
      exact ih (y1 + 1) m505 (B) (hJ506.up (by omega)) (by omega) (by omega) (by omega) (Eq.trans hR (Eq.trans (if_neg h504) (Eq.trans (zs_eq hm505) rfl)))
noncomputable def fl262_100_1_b (self : Int → zM → zM) (k126 : zM → zM) (y1 : Int) (m : zM) : zM :=
  if 365 ≤ y1 then
  (k126 m)
  else
  (zs (z_upd m 4 45 (423 + y1) (-1)) fun m505 =>
  self (y1 + 1) m505)
noncomputable def fl262_100_1 (k126 : zM → zM) : Nat → Int → zM → zM
  | 0 => fun y1 m => m
  | n + 1 => fl262_100_1_b (fl262_100_1 k126 n) k126
theorem l262_100_1 {s : Nat × (Nat → Int32)} {S : zS} {m0 : zM} {d : Nat} {Q : Option zV → zM → Prop} {R0 : zM} {k126 : zM → zM} (BE : Int) (hE : BE ≤ 1000000000) (hd : 13 ≤ d) (hf21 : ¬ S.1 21) (hg4 : ¬ S.2.1 4)
    (K126 : ∀ (m' : zM) (B' : Int), J S m0 B' m' → B' ≤ BE → R0 = k126 m' → X (EE s) d 262 126 [(0, zr 4 44)] [] m' Q) :
    ∀ (n : Nat) (y1 : Int) (m : zM) (B : Int), J S m0 B m → B + 0 * (n : Int) ≤ BE → (0 ≤ y1 ∧ y1 ≤ 365) → 365 - y1 < (n : Int) → R0 = fl262_100_1 k126 n y1 m → X (EE s) d 262 100 [(0, zr 4 44), (1, zi y1)] [] m Q := by
  intro n
  induction n with
  | zero =>
    intro y1 m B hJ hB hy1 hn hR
    exfalso
    omega
  | succ n ih =>
    intro y1 m B hJ hB hy1 hn hR
    replace hR : R0 = fl262_100_1_b (fl262_100_1 k126 n) k126 y1 m := hR
    refine X.iload_n 101 (zi262 100) rfl rfl rfl ?_
    refine X.sipush 104 (zi262 101) rfl rfl (by decide) ?_
    refine X.icmpge 126 107 (zi262 104) rfl rfl rfl (fun h504 => ?_) (fun h504 => ?_)
    · refine X.cut [(0, zr 4 44)] (zi262 126) rfl ?_
      exact K126  m (B) (hJ.up (by omega)) (by omega)  (Eq.trans hR (Eq.trans (if_pos h504) rfl))
    · refine X.aload_n 108 (zi262 107) rfl rfl rfl ?_
      refine X.getF 111 (zi262 108) rfl rfl (by decide) rfl rfl ?_
      refine X.sipush 114 (zi262 111) rfl rfl (by decide) ?_
      refine X.iload_n 115 (zi262 114) rfl rfl rfl ?_
      refine X.iadd 116 (zi262 115) rfl rfl (by omega) ?_
      refine X.ldc2 119 (zi262 116) rfl rfl (by decide) ?_
      refine X.last' 120 (zi262 119) rfl rfl (by decide) rfl (by omega) (fun hrm505 m505 hm505 => ?_)
      have hJ506 := w45_423 hJ hm505 (by omega) (by omega) hf21 hg4
      refine X.iinc 123 [(0, zr 4 44), (1, zi (y1 + 1))] (zi262 120) rfl rfl rfl (by omega) rfl ?_
      refine X.goto 100 (zi262 123) rfl rfl ?_
      exact ih (y1 + 1) m505 (B) (hJ506.up (by omega)) (by omega) (by omega) (by omega) (Eq.trans hR (Eq.trans (if_neg h504) (Eq.trans (zs_eq hm505) rfl)))
-- WorkMeterModel.clears
noncomputable def f262_1 (m : zM) : zM :=
  fl262_2_1 (fun m501 =>
  fl262_34_1 (fun m505 =>
  fl262_75_1 (fun m509 =>
  fl262_100_1 (fun m513 =>
  zs (z_upd m513 4 44 13 0) fun m517 =>
  zs (z_upd m517 4 44 14 0) fun m519 =>
  m519) (zfu 366) 0 m509) (zfu 29) 0 m505) (zfu 5) 0 m501) (zfu 9) 0 m
-- WorkMeterModel.clears
theorem c262_1 {s : Nat × (Nat → Int32)} {S : zS} {m0 m : zM} {B : Int} {d : Nat} {Q : Option zV → zM → Prop} (hd : 13 ≤ d) (hJ : J S m0 B m) (hB : B + 0 ≤ 1000000000) (hf21 : ¬ S.1 21) (hf39 : ¬ S.1 39) (hg4 : ¬ S.2.1 4) (hQ : ∀ m', f262_1 m = m' → J S m0 (B) m' → Q none m') : X (EE s) d 262 0 [(0, zr 4 44)] [] m Q := by
  refine X.iconst 1 (zi262 0) rfl rfl (by decide) ?_
  refine X.istore_n 2 [(0, zr 4 44), (1, zi 0)] (zi262 1) rfl rfl rfl ?_
  have hz9 := zfu_eq 9
  refine l262_2_1 (s := s) (d := d) (R0 := (f262_1 m))    (BE := B + 0) (by omega) (by omega) hf21 hf39 hg4 (fun  m501 B502 hJ503 hBB502 hR504 => ?_) (zfu 9) 0 m (B) (hJ.up (by omega)) (by omega) (by omega) (by omega) rfl
  refine X.iconst 33 (zi262 32) rfl rfl (by decide) ?_
  refine X.istore_n 34 [(0, zr 4 44), (1, zi 0)] (zi262 33) rfl rfl rfl ?_
  have hz5 := zfu_eq 5
  refine l262_34_1 (s := s) (d := d)    (BE := B502 + 0) (by omega) (by omega) hf21 hf39 hg4 (fun  m505 B506 hJ507 hBB506 hR508 => ?_) (zfu 5) 0 m501 (B502) (hJ503.up (by omega)) (by omega) (by omega) (by omega) (Eq.trans hR504 rfl)
  refine X.iconst 74 (zi262 73) rfl rfl (by decide) ?_
  refine X.istore_n 75 [(0, zr 4 44), (1, zi 0)] (zi262 74) rfl rfl rfl ?_
  have hz29 := zfu_eq 29
  refine l262_75_1 (s := s) (d := d)    (BE := B506 + 0) (by omega) (by omega) hf21 hg4 (fun  m509 B510 hJ511 hBB510 hR512 => ?_) (zfu 29) 0 m505 (B506) (hJ507.up (by omega)) (by omega) (by omega) (by omega) (Eq.trans hR508 rfl)
  refine X.iconst 99 (zi262 98) rfl rfl (by decide) ?_
  refine X.istore_n 100 [(0, zr 4 44), (1, zi 0)] (zi262 99) rfl rfl rfl ?_
  have hz366 := zfu_eq 366
  refine l262_100_1 (s := s) (d := d)    (BE := B510 + 0) (by omega) (by omega) hf21 hg4 (fun  m513 B514 hJ515 hBB514 hR516 => ?_) (zfu 366) 0 m509 (B510) (hJ511.up (by omega)) (by omega) (by omega) (by omega) (Eq.trans hR512 rfl)
  refine X.aload_n 127 (zi262 126) rfl rfl rfl ?_
  refine X.iconst 128 (zi262 127) rfl rfl (by decide) ?_
  refine X.putI' 131 13 (zi262 128) rfl rfl (by decide) rfl rfl rfl (fun hrm517 m517 hm517 => ?_)
  have hJ518 := w44_10 hJ515 hm517 (by omega) hrm517 hf39 hg4
  refine X.aload_n 132 (zi262 131) rfl rfl rfl ?_
  refine X.iconst 133 (zi262 132) rfl rfl (by decide) ?_
  refine X.putZ' 136 14 (zi262 133) rfl rfl (by decide) rfl rfl rfl (by omega) (fun hrm519 m519 hm519 => ?_)
  have hJ520 := w44_14 hJ518 hm519 (by omega) hf39 hg4
  refine X.retv (zi262 136) rfl t262 ?_
  exact hQ  m519  (Eq.trans hR516 (Eq.trans (zs_eq hm517) (Eq.trans (zs_eq hm519) rfl))) (hJ520.up (by omega)) 
noncomputable def fl263_0_1_b (self : zM → zM) (k38 : zM → zM) (m : zM) : zM :=
  if (m 4 44 5) ≤ (m 4 44 8) then
  (k38 m)
  else
  (if (m 4 48 (m 4 44 8)) = 32 then
  (zs (z_upd m 4 44 8 ((m 4 44 8) + 1)) fun m513 =>
  self m513)
  else
  (k38 m))
noncomputable def fl263_0_1 (k38 : zM → zM) : Nat → zM → zM
  | 0 => fun m => m
  | n + 1 => fl263_0_1_b (fl263_0_1 k38 n) k38
theorem l263_0_1 {s : Nat × (Nat → Int32)} {S : zS} {m0 : zM} {d : Nat} {Q : Option zV → zM → Prop} {R0 : zM} {k38 : zM → zM} (c8 c9 : Int) (BE : Int) (hE : BE ≤ 1000000000) (hd : 13 ≤ d) (hf39 : ¬ S.1 39) (hg4 : ¬ S.2.1 4)
    (K38 : ∀ (m' : zM) (B' : Int), J S m0 B' m' → B' ≤ BE → (c8 ≤ m' 4 44 8) → (c9 ≤ m' 4 44 9) → R0 = k38 m' → X (EE s) d 263 38 [] [] m' Q) :
    ∀ (n : Nat) (m : zM) (B : Int), J S m0 B m → B + 0 * (n : Int) ≤ BE → (c8 ≤ m 4 44 8) → (c9 ≤ m 4 44 9) → 300 - m 4 44 8 < (n : Int) → R0 = fl263_0_1 k38 n m → X (EE s) d 263 0 [(0, zr 4 44)] [] m Q := by
  intro n
  induction n with
  | zero =>
    intro  m B hJ hB hr0 hr1 hn hR
    have zf0 := r44_8 hJ 4
    exfalso
    omega
  | succ n ih =>
    intro  m B hJ hB hr0 hr1 hn hR
    replace hR : R0 = fl263_0_1_b (fl263_0_1 k38 n) k38 m := hR
    refine X.aload_n 1 (zi263 0) rfl rfl rfl ?_
    refine X.getI 4 8 (zi263 1) rfl rfl (by decide) rfl rfl rfl ?_
    have h508 := r44_8 hJ 4
    refine X.aload_n 5 (zi263 4) rfl rfl rfl ?_
    refine X.getI 8 5 (zi263 5) rfl rfl (by decide) rfl rfl rfl ?_
    have h509 := r44_5 hJ 4
    refine X.icmpge 38 11 (zi263 8) rfl rfl rfl (fun h510 => ?_) (fun h510 => ?_)
    · refine X.cut [] (zi263 38) rfl ?_
      exact K38  m (B) (hJ.up (by omega)) (by omega) (by omega) (by omega) (Eq.trans hR (Eq.trans (if_pos h510) rfl))
    · refine X.aload_n 12 (zi263 11) rfl rfl rfl ?_
      refine X.getF 15 (zi263 12) rfl rfl (by decide) rfl rfl ?_
      refine X.aload_n 16 (zi263 15) rfl rfl rfl ?_
      refine X.getI 19 8 (zi263 16) rfl rfl (by decide) rfl rfl rfl ?_
      refine X.bald 20 (zi263 19) rfl rfl (by decide) rfl (by omega) (fun h511 => ?_)
      refine X.bipush 22 (zi263 20) rfl rfl (by decide) ?_
      refine X.icmpne 38 25 (zi263 22) rfl rfl rfl (fun h512 => ?_) (fun h512 => ?_)
      · refine X.cut [] (zi263 38) rfl ?_
        exact K38  m (B) (hJ.up (by omega)) (by omega) (by omega) (by omega) (Eq.trans hR (Eq.trans (if_neg h510) (Eq.trans (if_neg h512) rfl)))
      · refine X.aload_n 26 (zi263 25) rfl rfl rfl ?_
        refine X.dup 27 (zi263 26) rfl rfl rfl ?_
        refine X.getI 30 8 (zi263 27) rfl rfl (by decide) rfl rfl rfl ?_
        refine X.iconst 31 (zi263 30) rfl rfl (by decide) ?_
        refine X.iadd 32 (zi263 31) rfl rfl (by omega) ?_
        refine X.putI' 35 8 (zi263 32) rfl rfl (by decide) rfl rfl rfl (fun hrm513 m513 hm513 => ?_)
        have hJ514 := w44_8 hJ hm513 (by omega) hf39 hg4
        have em513 : m513 4 44 8 = ((m 4 44 8) + 1) := by rw [hm513]; exact z_upd_same _ _ _ _ _
        have wmm513_9 : m513 4 44 9 = m 4 44 9 := by rw [hm513]; exact z_upd_o _ _ rfl
        have wmm513_10 : m513 4 44 10 = m 4 44 10 := by rw [hm513]; exact z_upd_o _ _ rfl
        refine X.goto 0 (zi263 35) rfl rfl ?_
        exact ih  m513 (B) (hJ514.up (by omega)) (by omega) (by omega) (by omega) (by omega) (Eq.trans hR (Eq.trans (if_neg h510) (Eq.trans (if_pos h512) (Eq.trans (zs_eq hm513) rfl))))
-- WorkMeterModel.blanks
noncomputable def f263_1 (m : zM) : zM :=
  fl263_0_1 (fun m501 =>
  m501) (zfu 301) m
-- WorkMeterModel.blanks
theorem c263_1 {s : Nat × (Nat → Int32)} {S : zS} {m0 m : zM} {B : Int} {d : Nat} {Q : Option zV → zM → Prop} (hd : 13 ≤ d) (hJ : J S m0 B m) (hB : B + 0 ≤ 1000000000) (hf39 : ¬ S.1 39) (hg4 : ¬ S.2.1 4) (hQ : ∀ m', f263_1 m = m' → J S m0 (B) m' → (m 4 44 8 ≤ m' 4 44 8) → (m 4 44 9 ≤ m' 4 44 9) → Q none m') : X (EE s) d 263 0 [(0, zr 4 44)] [] m Q := by
  have hz301 := zfu_eq 301
  have zf505 := r44_8 hJ 4
  refine l263_0_1 (s := s) (d := d) (R0 := (f263_1 m))   (m 4 44 8) (m 4 44 9) (BE := B + 0) (by omega) (by omega) hf39 hg4 (fun  m501 B502 hJ503 hBB502 hrlm501_0 hrlm501_1 hR504 => ?_) (zfu 301)  m (B) (hJ.up (by omega)) (by omega) (by omega) (by omega) (by omega) rfl
  refine X.retv (zi263 38) rfl t263 ?_
  exact hQ  m501  (Eq.trans hR504 rfl) (hJ503.up (by omega)) (by omega) (by omega)
noncomputable def fl267_5_1_b (self : Int → Int) (k38 : Int → Int) (m : zM) (y1 : Int) : Int :=
  if (m 4 44 5) ≤ y1 then
  (k38 y1)
  else
  (if (m 4 48 y1) < 97 then
  (k38 y1)
  else
  (if (m 4 48 y1) ≤ 122 then
  (self (y1 + 1))
  else
  (k38 y1)))
noncomputable def fl267_5_1 (k38 : Int → Int) (m : zM) : Nat → Int → Int
  | 0 => fun y1 => 0
  | n + 1 => fl267_5_1_b (fl267_5_1 k38 m n) k38 m
theorem l267_5_1 {s : Nat × (Nat → Int32)} {S : zS} {m0 : zM} {m : zM} {B : Int} {d : Nat} {Q : Option zV → zM → Prop} {R0 : Int} {k38 : Int → Int} (hd : 13 ≤ d) (hJ : J S m0 B m) (hB9 : B ≤ 1000000000)
    (K38 : ∀ (x1 : Int) , (0 ≤ x1 ∧ x1 ≤ 300) → (m 4 44 8 ≤ x1) → R0 = k38 x1 → X (EE s) d 267 38 [(1, zi x1)] [] m Q) :
    ∀ (n : Nat) (y1 : Int) , (0 ≤ y1 ∧ y1 ≤ 300) → (m 4 44 8 ≤ y1) → 300 - y1 < (n : Int) → R0 = fl267_5_1 k38 m n y1 → X (EE s) d 267 5 [(0, zr 4 44), (1, zi y1)] [] m Q := by
  intro n
  induction n with
  | zero =>
    intro y1 hy1 hr0 hn hR
    exfalso
    omega
  | succ n ih =>
    intro y1 hy1 hr0 hn hR
    replace hR : R0 = fl267_5_1_b (fl267_5_1 k38 m n) k38 m y1 := hR
    refine X.iload_n 6 (zi267 5) rfl rfl rfl ?_
    refine X.aload_n 7 (zi267 6) rfl rfl rfl ?_
    refine X.getI 10 5 (zi267 7) rfl rfl (by decide) rfl rfl rfl ?_
    have h512 := r44_5 hJ 4
    refine X.icmpge 38 13 (zi267 10) rfl rfl rfl (fun h513 => ?_) (fun h513 => ?_)
    · refine X.cut [(1, zi y1)] (zi267 38) rfl ?_
      exact K38 y1 (by first | trivial | omega) (by omega) (Eq.trans hR (Eq.trans (if_pos h513) rfl))
    · refine X.aload_n 14 (zi267 13) rfl rfl rfl ?_
      refine X.getF 17 (zi267 14) rfl rfl (by decide) rfl rfl ?_
      refine X.iload_n 18 (zi267 17) rfl rfl rfl ?_
      refine X.bald 19 (zi267 18) rfl rfl (by decide) rfl (by omega) (fun h514 => ?_)
      refine X.i2l 20 (zi267 19) rfl rfl ?_
      refine X.ldc2 23 (zi267 20) rfl rfl (by decide) ?_
      refine X.ldc2 26 (zi267 23) rfl rfl (by decide) ?_
      refine X.calls 29 [zl (m 4 48 y1), zl 97, zl 122] [] [(0, zl (m 4 48 y1)), (2, zl 97), (4, zl 122)] (zi267 26) (by decide) rfl rfl (by omega) rfl rfl t204 (Nat.le_of_ble_eq_true rfl) (Nat.le_of_ble_eq_true rfl) rfl ?_
      refine X.lload_n 1 (zi204 0) rfl rfl rfl ?_
      refine X.lload_n 2 (zi204 1) rfl rfl rfl ?_
      refine X.lcmp 3 (zi204 2) rfl rfl (fun z515 hz515 => ?_)
      refine X.iflt 17 6 (zi204 3) rfl rfl rfl (fun h516 => ?_) (fun h516 => ?_)
      · have h516c : (m 4 48 y1) < 97 := by omega
        clear h516 hz515
        refine X.cut [] (zi204 17) rfl ?_
        refine X.iconst 18 (zi204 17) rfl rfl (by decide) ?_
        refine X.retz (zi204 18) rfl t204 (by omega) ?_
        show X (EE s) d 267 29 [(0, zr 4 44), (1, zi y1)] [zi 0] m _
        refine X.ifeq 38 32 (zi267 29) rfl rfl rfl (fun h517 => ?_) (fun h517 => (by exfalso; omega))
        refine X.cut [(1, zi y1)] (zi267 38) rfl ?_
        exact K38 y1 (by first | trivial | omega) (by omega) (Eq.trans hR (Eq.trans (if_neg h513) (Eq.trans (if_pos h516c) rfl)))
      · have h516c : ¬ (m 4 48 y1) < 97 := by omega
        clear h516 hz515
        refine X.lload_n 7 (zi204 6) rfl rfl rfl ?_
        refine X.lload 9 (zi204 7) rfl rfl rfl ?_
        refine X.lcmp 10 (zi204 9) rfl rfl (fun z518 hz518 => ?_)
        refine X.ifgt 17 13 (zi204 10) rfl rfl rfl (fun h519 => ?_) (fun h519 => ?_)
        · have h519c : ¬ (m 4 48 y1) ≤ 122 := by omega
          clear h519 hz518
          refine X.cut [] (zi204 17) rfl ?_
          refine X.iconst 18 (zi204 17) rfl rfl (by decide) ?_
          refine X.retz (zi204 18) rfl t204 (by omega) ?_
          show X (EE s) d 267 29 [(0, zr 4 44), (1, zi y1)] [zi 0] m _
          refine X.ifeq 38 32 (zi267 29) rfl rfl rfl (fun h520 => ?_) (fun h520 => (by exfalso; omega))
          refine X.cut [(1, zi y1)] (zi267 38) rfl ?_
          exact K38 y1 (by first | trivial | omega) (by omega) (Eq.trans hR (Eq.trans (if_neg h513) (Eq.trans (if_neg h516c) (Eq.trans (if_neg h519c) rfl))))
        · have h519c : (m 4 48 y1) ≤ 122 := by omega
          clear h519 hz518
          refine X.iconst 14 (zi204 13) rfl rfl (by decide) ?_
          refine X.goto 18 (zi204 14) rfl rfl ?_
          refine X.cut [] (zi204 18) rfl ?_
          refine X.retz (zi204 18) rfl t204 (by omega) ?_
          show X (EE s) d 267 29 [(0, zr 4 44), (1, zi y1)] [zi 1] m _
          refine X.ifeq 38 32 (zi267 29) rfl rfl rfl (fun h521 => (by exfalso; omega)) (fun h521 => ?_)
          refine X.iinc 35 [(0, zr 4 44), (1, zi (y1 + 1))] (zi267 32) rfl rfl rfl (by omega) rfl ?_
          refine X.goto 5 (zi267 35) rfl rfl ?_
          exact ih (y1 + 1) (by omega) (by omega) (by omega) (Eq.trans hR (Eq.trans (if_neg h513) (Eq.trans (if_neg h516c) (Eq.trans (if_pos h519c) rfl))))
-- WorkMeterModel.wordEnd
noncomputable def f267_1 (m : zM) : Int :=
  fl267_5_1 (fun y502 =>
  y502) m (zfu 301) (m 4 44 8)
-- WorkMeterModel.wordEnd
theorem c267_1 {s : Nat × (Nat → Int32)} {S : zS} {m0 m : zM} {B : Int} {d : Nat} {Q : Option zV → zM → Prop} (hd : 13 ≤ d) (hJ : J S m0 B m) (hB : B + 0 ≤ 1000000000) (hQ : ∀ (v : Int), (0 ≤ v ∧ v ≤ 300) → f267_1 m = v → (m 4 44 8 ≤ v) → Q (some (zi v)) m) : X (EE s) d 267 0 [(0, zr 4 44)] [] m Q := by
  refine X.aload_n 1 (zi267 0) rfl rfl rfl ?_
  refine X.getI 4 8 (zi267 1) rfl rfl (by decide) rfl rfl rfl ?_
  have h501 := r44_8 hJ 4
  refine X.istore_n 5 [(0, zr 4 44), (1, zi (m 4 44 8))] (zi267 4) rfl rfl rfl ?_
  have hz301 := zfu_eq 301
  refine l267_5_1 (s := s) (m := m) (B := B) (d := d) (R0 := (f267_1 m))    (by omega) (hJ.up (by omega)) (by omega) (fun y502 hby502 hrlm503_0 hR506 => ?_) (zfu 301) (m 4 44 8) (by omega) (by omega) (by omega) rfl
  refine X.iload_n 39 (zi267 38) rfl rfl rfl ?_
  refine X.reti (zi267 39) rfl t267 ?_
  exact hQ y502 (by first | trivial | omega) (Eq.trans hR506 rfl) (by omega)
-- WorkMeterModel.spells
noncomputable def f266_1 (a1 a2 a3 a4 a5 a6 a7 a8 : Int) (m : zM) : Int :=
  zn (f267_1 m) fun v503 =>
  if v503 = ((m 4 44 8) + a1) then
  (if (m 4 48 (m 4 44 8)) = a2 then
  (if (m 4 48 ((m 4 44 8) + 1)) = a3 then
  (if (m 4 48 ((m 4 44 8) + 2)) = a4 then
  (if (m 4 48 ((m 4 44 8) + 3)) = a5 then
  (if (m 4 48 ((m 4 44 8) + 4)) = a6 then
  (zn (if a1 < 6 then
  (1)
  else
  (if (m 4 48 ((m 4 44 8) + 5)) = a7 then
  (if a1 < 7 then
  (1)
  else
  (if (m 4 48 ((m 4 44 8) + 6)) = a8 then
  (1)
  else
  (0)))
  else
  (0))) fun v523 =>
  v523)
  else
  (0))
  else
  (0))
  else
  (0))
  else
  (0))
  else
  (0))
  else
  (0)
end
section
-- WorkMeterModel.spells
theorem c266_1 {s : Nat × (Nat → Int32)} {S : zS} {m0 m : zM} {B : Int} {d : Nat} {Q : Option zV → zM → Prop} (a1 a2 a3 a4 a5 a6 a7 a8 : Int) (hd : 14 ≤ d) (hJ : J S m0 B m) (hB : B + 0 ≤ 1000000000) (ha1 : 5 ≤ a1 ∧ a1 ≤ 7) (ha2 : 116 ≤ a2 ∧ a2 ≤ 116) (ha3 : 97 ≤ a3 ∧ a3 ≤ 97) (ha4 : 98 ≤ a4 ∧ a4 ≤ 98) (ha5 : 108 ≤ a5 ∧ a5 ≤ 108) (ha6 : 101 ≤ a6 ∧ a6 ≤ 101) (ha7 : 0 ≤ a7 ∧ a7 ≤ 0) (ha8 : 0 ≤ a8 ∧ a8 ≤ 0) (hQ : ∀ (v : Int), (0 ≤ v ∧ v ≤ 1) → f266_1 a1 a2 a3 a4 a5 a6 a7 a8 m = v → Q (some (zi v)) m) : X (EE s) d 266 0 [(0, zr 4 44), (1, zi a1), (2, zi a2), (3, zi a3), (4, zi a4), (5, zi a5), (6, zi a6), (7, zi a7), (8, zi a8)] [] m Q := by
  refine X.aload_n 1 (zi266 0) rfl rfl rfl ?_
  refine X.callv 4 [] [] [(0, zr 4 44)] (zi266 1) rfl (by decide) rfl rfl (by omega) rfl rfl (by decide) rfl t267 (Nat.le_of_ble_eq_true rfl) (Nat.le_of_ble_eq_true rfl) rfl ?_
  refine c267_1 (B := B)   (by omega) (hJ.up (by omega)) (by omega)  (fun v503 hv503 hFv503 hqv503_0 => ?_)
  show X (EE s) d 266 4 [(0, zr 4 44), (1, zi a1), (2, zi a2), (3, zi a3), (4, zi a4), (5, zi a5), (6, zi a6), (7, zi a7), (8, zi a8)] [zi v503] m _
  refine X.aload_n 5 (zi266 4) rfl rfl rfl ?_
  refine X.getI 8 8 (zi266 5) rfl rfl (by decide) rfl rfl rfl ?_
  have h504 := r44_8 hJ 4
  refine X.iload_n 9 (zi266 8) rfl rfl rfl ?_
  refine X.iadd 10 (zi266 9) rfl rfl (by omega) ?_
  refine X.icmpne 89 13 (zi266 10) rfl rfl rfl (fun h505 => ?_) (fun h505 => ?_)
  · refine X.cut [] (zi266 89) rfl ?_
    refine X.iconst 90 (zi266 89) rfl rfl (by decide) ?_
    refine X.retz (zi266 90) rfl t266 (by omega) ?_
    exact hQ 0 (by first | trivial | omega) (Eq.trans (zn_eq hFv503.symm) (Eq.trans (if_neg h505) rfl)) 
  · refine X.aload_n 14 (zi266 13) rfl rfl rfl ?_
    refine X.getF 17 (zi266 14) rfl rfl (by decide) rfl rfl ?_
    refine X.aload_n 18 (zi266 17) rfl rfl rfl ?_
    refine X.getI 21 8 (zi266 18) rfl rfl (by decide) rfl rfl rfl ?_
    refine X.bald 22 (zi266 21) rfl rfl (by decide) rfl (by omega) (fun h506 => ?_)
    refine X.iload_n 23 (zi266 22) rfl rfl rfl ?_
    refine X.icmpne 89 26 (zi266 23) rfl rfl rfl (fun h507 => ?_) (fun h507 => ?_)
    · refine X.cut [] (zi266 89) rfl ?_
      refine X.iconst 90 (zi266 89) rfl rfl (by decide) ?_
      refine X.retz (zi266 90) rfl t266 (by omega) ?_
      exact hQ 0 (by first | trivial | omega) (Eq.trans (zn_eq hFv503.symm) (Eq.trans (if_pos h505) (Eq.trans (if_neg h507) rfl))) 
    · refine X.aload_n 27 (zi266 26) rfl rfl rfl ?_
      refine X.getF 30 (zi266 27) rfl rfl (by decide) rfl rfl ?_
      refine X.aload_n 31 (zi266 30) rfl rfl rfl ?_
      refine X.getI 34 8 (zi266 31) rfl rfl (by decide) rfl rfl rfl ?_
      refine X.iconst 35 (zi266 34) rfl rfl (by decide) ?_
      refine X.iadd 36 (zi266 35) rfl rfl (by omega) ?_
      refine X.bald 37 (zi266 36) rfl rfl (by decide) rfl (by omega) (fun h508 => ?_)
      refine X.iload_n 38 (zi266 37) rfl rfl rfl ?_
      refine X.icmpne 89 41 (zi266 38) rfl rfl rfl (fun h509 => ?_) (fun h509 => ?_)
      · refine X.cut [] (zi266 89) rfl ?_
        refine X.iconst 90 (zi266 89) rfl rfl (by decide) ?_
        refine X.retz (zi266 90) rfl t266 (by omega) ?_
        exact hQ 0 (by first | trivial | omega) (Eq.trans (zn_eq hFv503.symm) (Eq.trans (if_pos h505) (Eq.trans (if_pos h507) (Eq.trans (if_neg h509) rfl)))) 
      · refine X.aload_n 42 (zi266 41) rfl rfl rfl ?_
        refine X.getF 45 (zi266 42) rfl rfl (by decide) rfl rfl ?_
        refine X.aload_n 46 (zi266 45) rfl rfl rfl ?_
        refine X.getI 49 8 (zi266 46) rfl rfl (by decide) rfl rfl rfl ?_
        refine X.iconst 50 (zi266 49) rfl rfl (by decide) ?_
        refine X.iadd 51 (zi266 50) rfl rfl (by omega) ?_
        refine X.bald 52 (zi266 51) rfl rfl (by decide) rfl (by omega) (fun h510 => ?_)
        refine X.iload 54 (zi266 52) rfl rfl rfl ?_
        refine X.icmpne 89 57 (zi266 54) rfl rfl rfl (fun h511 => ?_) (fun h511 => ?_)
        · refine X.cut [] (zi266 89) rfl ?_
          refine X.iconst 90 (zi266 89) rfl rfl (by decide) ?_
          refine X.retz (zi266 90) rfl t266 (by omega) ?_
          exact hQ 0 (by first | trivial | omega) (Eq.trans (zn_eq hFv503.symm) (Eq.trans (if_pos h505) (Eq.trans (if_pos h507) (Eq.trans (if_pos h509) (Eq.trans (if_neg h511) rfl))))) 
        · refine X.aload_n 58 (zi266 57) rfl rfl rfl ?_
          refine X.getF 61 (zi266 58) rfl rfl (by decide) rfl rfl ?_
          refine X.aload_n 62 (zi266 61) rfl rfl rfl ?_
          refine X.getI 65 8 (zi266 62) rfl rfl (by decide) rfl rfl rfl ?_
          refine X.iconst 66 (zi266 65) rfl rfl (by decide) ?_
          refine X.iadd 67 (zi266 66) rfl rfl (by omega) ?_
          refine X.bald 68 (zi266 67) rfl rfl (by decide) rfl (by omega) (fun h512 => ?_)
          refine X.iload 70 (zi266 68) rfl rfl rfl ?_
          refine X.icmpne 89 73 (zi266 70) rfl rfl rfl (fun h513 => ?_) (fun h513 => ?_)
          · refine X.cut [] (zi266 89) rfl ?_
            refine X.iconst 90 (zi266 89) rfl rfl (by decide) ?_
            refine X.retz (zi266 90) rfl t266 (by omega) ?_
            exact hQ 0 (by first | trivial | omega) (Eq.trans (zn_eq hFv503.symm) (Eq.trans (if_pos h505) (Eq.trans (if_pos h507) (Eq.trans (if_pos h509) (Eq.trans (if_pos h511) (Eq.trans (if_neg h513) rfl)))))) 
          · refine X.aload_n 74 (zi266 73) rfl rfl rfl ?_
            refine X.getF 77 (zi266 74) rfl rfl (by decide) rfl rfl ?_
            refine X.aload_n 78 (zi266 77) rfl rfl rfl ?_
            refine X.getI 81 8 (zi266 78) rfl rfl (by decide) rfl rfl rfl ?_
            refine X.iconst 82 (zi266 81) rfl rfl (by decide) ?_
            refine X.iadd 83 (zi266 82) rfl rfl (by omega) ?_
            refine X.bald 84 (zi266 83) rfl rfl (by decide) rfl (by omega) (fun h514 => ?_)
            refine X.iload 86 (zi266 84) rfl rfl rfl ?_
            refine X.icmpeq 91 89 (zi266 86) rfl rfl rfl (fun h515 => ?_) (fun h515 => ?_)
            · refine X.cut [(0, zr 4 44), (1, zi a1), (7, zi a7), (8, zi a8)] (zi266 91) rfl ?_
              refine X.iload_n 92 (zi266 91) rfl rfl rfl ?_
              refine X.bipush 94 (zi266 92) rfl rfl (by decide) ?_
              have hK526 : ∀ (v : Int) , (0 ≤ v ∧ v ≤ 1) → (if a1 < 6 then
                  (1)
                  else
                  (if (m 4 48 ((m 4 44 8) + 5)) = a7 then
                  (if a1 < 7 then
                  (1)
                  else
                  (if (m 4 48 ((m 4 44 8) + 6)) = a8 then
                  (1)
                  else
                  (0)))
                  else
                  (0))) = v → X (EE s) d 266 141 [] [zi v] m Q := by
                intro v523 hv523 hT527
                refine X.retz (zi266 141) rfl t266 (by omega) ?_
                exact hQ v523 (by first | trivial | omega) (Eq.trans (zn_eq hFv503.symm) (Eq.trans (if_pos h505) (Eq.trans (if_pos h507) (Eq.trans (if_pos h509) (Eq.trans (if_pos h511) (Eq.trans (if_pos h513) (Eq.trans (if_pos h515) (Eq.trans (zn_eq hT527.symm) rfl)))))))) 
              refine X.icmplt 113 97 (zi266 94) rfl rfl rfl (fun h516 => ?_) (fun h516 => ?_)
              · refine X.cut [(0, zr 4 44), (1, zi a1), (8, zi a8)] (zi266 113) rfl ?_
                refine X.iload_n 114 (zi266 113) rfl rfl rfl ?_
                refine X.bipush 116 (zi266 114) rfl rfl (by decide) ?_
                refine X.icmplt 136 119 (zi266 116) rfl rfl rfl (fun h517 => ?_) (fun h517 => (by exfalso; omega))
                refine X.cut [] (zi266 136) rfl ?_
                refine X.iconst 137 (zi266 136) rfl rfl (by decide) ?_
                refine X.goto 141 (zi266 137) rfl rfl ?_
                exact hK526 1 (by first | trivial | omega) (Eq.trans (if_pos h516) rfl)
              · refine X.aload_n 98 (zi266 97) rfl rfl rfl ?_
                refine X.getF 101 (zi266 98) rfl rfl (by decide) rfl rfl ?_
                refine X.aload_n 102 (zi266 101) rfl rfl rfl ?_
                refine X.getI 105 8 (zi266 102) rfl rfl (by decide) rfl rfl rfl ?_
                refine X.iconst 106 (zi266 105) rfl rfl (by decide) ?_
                refine X.iadd 107 (zi266 106) rfl rfl (by omega) ?_
                refine X.bald 108 (zi266 107) rfl rfl (by decide) rfl (by omega) (fun h518 => ?_)
                refine X.iload 110 (zi266 108) rfl rfl rfl ?_
                refine X.icmpne 140 113 (zi266 110) rfl rfl rfl (fun h519 => ?_) (fun h519 => ?_)
                · refine X.cut [] (zi266 140) rfl ?_
                  refine X.iconst 141 (zi266 140) rfl rfl (by decide) ?_
                  exact hK526 0 (by first | trivial | omega) (Eq.trans (if_neg h516) (Eq.trans (if_neg h519) rfl))
                · refine X.cut [(0, zr 4 44), (1, zi a1), (8, zi a8)] (zi266 113) rfl ?_
                  refine X.iload_n 114 (zi266 113) rfl rfl rfl ?_
                  refine X.bipush 116 (zi266 114) rfl rfl (by decide) ?_
                  refine X.icmplt 136 119 (zi266 116) rfl rfl rfl (fun h520 => ?_) (fun h520 => ?_)
                  · refine X.cut [] (zi266 136) rfl ?_
                    refine X.iconst 137 (zi266 136) rfl rfl (by decide) ?_
                    refine X.goto 141 (zi266 137) rfl rfl ?_
                    exact hK526 1 (by first | trivial | omega) (Eq.trans (if_neg h516) (Eq.trans (if_pos h519) (Eq.trans (if_pos h520) rfl)))
                  · refine X.aload_n 120 (zi266 119) rfl rfl rfl ?_
                    refine X.getF 123 (zi266 120) rfl rfl (by decide) rfl rfl ?_
                    refine X.aload_n 124 (zi266 123) rfl rfl rfl ?_
                    refine X.getI 127 8 (zi266 124) rfl rfl (by decide) rfl rfl rfl ?_
                    refine X.bipush 129 (zi266 127) rfl rfl (by decide) ?_
                    refine X.iadd 130 (zi266 129) rfl rfl (by omega) ?_
                    refine X.bald 131 (zi266 130) rfl rfl (by decide) rfl (by omega) (fun h521 => ?_)
                    refine X.iload 133 (zi266 131) rfl rfl rfl ?_
                    refine X.icmpne 140 136 (zi266 133) rfl rfl rfl (fun h522 => ?_) (fun h522 => ?_)
                    · refine X.cut [] (zi266 140) rfl ?_
                      refine X.iconst 141 (zi266 140) rfl rfl (by decide) ?_
                      exact hK526 0 (by first | trivial | omega) (Eq.trans (if_neg h516) (Eq.trans (if_pos h519) (Eq.trans (if_neg h520) (Eq.trans (if_neg h522) rfl))))
                    · refine X.cut [] (zi266 136) rfl ?_
                      refine X.iconst 137 (zi266 136) rfl rfl (by decide) ?_
                      refine X.goto 141 (zi266 137) rfl rfl ?_
                      exact hK526 1 (by first | trivial | omega) (Eq.trans (if_neg h516) (Eq.trans (if_pos h519) (Eq.trans (if_neg h520) (Eq.trans (if_pos h522) rfl))))
            · refine X.cut [] (zi266 89) rfl ?_
              refine X.iconst 90 (zi266 89) rfl rfl (by decide) ?_
              refine X.retz (zi266 90) rfl t266 (by omega) ?_
              exact hQ 0 (by first | trivial | omega) (Eq.trans (zn_eq hFv503.symm) (Eq.trans (if_pos h505) (Eq.trans (if_pos h507) (Eq.trans (if_pos h509) (Eq.trans (if_pos h511) (Eq.trans (if_pos h513) (Eq.trans (if_neg h515) rfl))))))) 
-- WorkMeterModel.spells
theorem c266_2 {s : Nat × (Nat → Int32)} {S : zS} {m0 m : zM} {B : Int} {d : Nat} {Q : Option zV → zM → Prop} (a1 a2 a3 a4 a5 a6 a7 a8 : Int) (hd : 14 ≤ d) (hJ : J S m0 B m) (hB : B + 0 ≤ 1000000000) (ha1 : 5 ≤ a1 ∧ a1 ≤ 7) (ha2 : 115 ≤ a2 ∧ a2 ≤ 115) (ha3 : 101 ≤ a3 ∧ a3 ≤ 101) (ha4 : 97 ≤ a4 ∧ a4 ≤ 97) (ha5 : 115 ≤ a5 ∧ a5 ≤ 115) (ha6 : 111 ≤ a6 ∧ a6 ≤ 111) (ha7 : 110 ≤ a7 ∧ a7 ≤ 110) (ha8 : 0 ≤ a8 ∧ a8 ≤ 0) (hQ : ∀ (v : Int), (0 ≤ v ∧ v ≤ 1) → f266_1 a1 a2 a3 a4 a5 a6 a7 a8 m = v → Q (some (zi v)) m) : X (EE s) d 266 0 [(0, zr 4 44), (1, zi a1), (2, zi a2), (3, zi a3), (4, zi a4), (5, zi a5), (6, zi a6), (7, zi a7), (8, zi a8)] [] m Q := by
  refine X.aload_n 1 (zi266 0) rfl rfl rfl ?_
  refine X.callv 4 [] [] [(0, zr 4 44)] (zi266 1) rfl (by decide) rfl rfl (by omega) rfl rfl (by decide) rfl t267 (Nat.le_of_ble_eq_true rfl) (Nat.le_of_ble_eq_true rfl) rfl ?_
  refine c267_1 (B := B)   (by omega) (hJ.up (by omega)) (by omega)  (fun v503 hv503 hFv503 hqv503_0 => ?_)
  show X (EE s) d 266 4 [(0, zr 4 44), (1, zi a1), (2, zi a2), (3, zi a3), (4, zi a4), (5, zi a5), (6, zi a6), (7, zi a7), (8, zi a8)] [zi v503] m _
  refine X.aload_n 5 (zi266 4) rfl rfl rfl ?_
  refine X.getI 8 8 (zi266 5) rfl rfl (by decide) rfl rfl rfl ?_
  have h504 := r44_8 hJ 4
  refine X.iload_n 9 (zi266 8) rfl rfl rfl ?_
  refine X.iadd 10 (zi266 9) rfl rfl (by omega) ?_
  refine X.icmpne 89 13 (zi266 10) rfl rfl rfl (fun h505 => ?_) (fun h505 => ?_)
  · refine X.cut [] (zi266 89) rfl ?_
    refine X.iconst 90 (zi266 89) rfl rfl (by decide) ?_
    refine X.retz (zi266 90) rfl t266 (by omega) ?_
    exact hQ 0 (by first | trivial | omega) (Eq.trans (zn_eq hFv503.symm) (Eq.trans (if_neg h505) rfl)) 
  · refine X.aload_n 14 (zi266 13) rfl rfl rfl ?_
    refine X.getF 17 (zi266 14) rfl rfl (by decide) rfl rfl ?_
    refine X.aload_n 18 (zi266 17) rfl rfl rfl ?_
    refine X.getI 21 8 (zi266 18) rfl rfl (by decide) rfl rfl rfl ?_
    refine X.bald 22 (zi266 21) rfl rfl (by decide) rfl (by omega) (fun h506 => ?_)
    refine X.iload_n 23 (zi266 22) rfl rfl rfl ?_
    refine X.icmpne 89 26 (zi266 23) rfl rfl rfl (fun h507 => ?_) (fun h507 => ?_)
    · refine X.cut [] (zi266 89) rfl ?_
      refine X.iconst 90 (zi266 89) rfl rfl (by decide) ?_
      refine X.retz (zi266 90) rfl t266 (by omega) ?_
      exact hQ 0 (by first | trivial | omega) (Eq.trans (zn_eq hFv503.symm) (Eq.trans (if_pos h505) (Eq.trans (if_neg h507) rfl))) 
    · refine X.aload_n 27 (zi266 26) rfl rfl rfl ?_
      refine X.getF 30 (zi266 27) rfl rfl (by decide) rfl rfl ?_
      refine X.aload_n 31 (zi266 30) rfl rfl rfl ?_
      refine X.getI 34 8 (zi266 31) rfl rfl (by decide) rfl rfl rfl ?_
      refine X.iconst 35 (zi266 34) rfl rfl (by decide) ?_
      refine X.iadd 36 (zi266 35) rfl rfl (by omega) ?_
      refine X.bald 37 (zi266 36) rfl rfl (by decide) rfl (by omega) (fun h508 => ?_)
      refine X.iload_n 38 (zi266 37) rfl rfl rfl ?_
      refine X.icmpne 89 41 (zi266 38) rfl rfl rfl (fun h509 => ?_) (fun h509 => ?_)
      · refine X.cut [] (zi266 89) rfl ?_
        refine X.iconst 90 (zi266 89) rfl rfl (by decide) ?_
        refine X.retz (zi266 90) rfl t266 (by omega) ?_
        exact hQ 0 (by first | trivial | omega) (Eq.trans (zn_eq hFv503.symm) (Eq.trans (if_pos h505) (Eq.trans (if_pos h507) (Eq.trans (if_neg h509) rfl)))) 
      · refine X.aload_n 42 (zi266 41) rfl rfl rfl ?_
        refine X.getF 45 (zi266 42) rfl rfl (by decide) rfl rfl ?_
        refine X.aload_n 46 (zi266 45) rfl rfl rfl ?_
        refine X.getI 49 8 (zi266 46) rfl rfl (by decide) rfl rfl rfl ?_
        refine X.iconst 50 (zi266 49) rfl rfl (by decide) ?_
        refine X.iadd 51 (zi266 50) rfl rfl (by omega) ?_
        refine X.bald 52 (zi266 51) rfl rfl (by decide) rfl (by omega) (fun h510 => ?_)
        refine X.iload 54 (zi266 52) rfl rfl rfl ?_
        refine X.icmpne 89 57 (zi266 54) rfl rfl rfl (fun h511 => ?_) (fun h511 => ?_)
        · refine X.cut [] (zi266 89) rfl ?_
          refine X.iconst 90 (zi266 89) rfl rfl (by decide) ?_
          refine X.retz (zi266 90) rfl t266 (by omega) ?_
          exact hQ 0 (by first | trivial | omega) (Eq.trans (zn_eq hFv503.symm) (Eq.trans (if_pos h505) (Eq.trans (if_pos h507) (Eq.trans (if_pos h509) (Eq.trans (if_neg h511) rfl))))) 
        · refine X.aload_n 58 (zi266 57) rfl rfl rfl ?_
          refine X.getF 61 (zi266 58) rfl rfl (by decide) rfl rfl ?_
          refine X.aload_n 62 (zi266 61) rfl rfl rfl ?_
          refine X.getI 65 8 (zi266 62) rfl rfl (by decide) rfl rfl rfl ?_
          refine X.iconst 66 (zi266 65) rfl rfl (by decide) ?_
          refine X.iadd 67 (zi266 66) rfl rfl (by omega) ?_
          refine X.bald 68 (zi266 67) rfl rfl (by decide) rfl (by omega) (fun h512 => ?_)
          refine X.iload 70 (zi266 68) rfl rfl rfl ?_
          refine X.icmpne 89 73 (zi266 70) rfl rfl rfl (fun h513 => ?_) (fun h513 => ?_)
          · refine X.cut [] (zi266 89) rfl ?_
            refine X.iconst 90 (zi266 89) rfl rfl (by decide) ?_
            refine X.retz (zi266 90) rfl t266 (by omega) ?_
            exact hQ 0 (by first | trivial | omega) (Eq.trans (zn_eq hFv503.symm) (Eq.trans (if_pos h505) (Eq.trans (if_pos h507) (Eq.trans (if_pos h509) (Eq.trans (if_pos h511) (Eq.trans (if_neg h513) rfl)))))) 
          · refine X.aload_n 74 (zi266 73) rfl rfl rfl ?_
            refine X.getF 77 (zi266 74) rfl rfl (by decide) rfl rfl ?_
            refine X.aload_n 78 (zi266 77) rfl rfl rfl ?_
            refine X.getI 81 8 (zi266 78) rfl rfl (by decide) rfl rfl rfl ?_
            refine X.iconst 82 (zi266 81) rfl rfl (by decide) ?_
            refine X.iadd 83 (zi266 82) rfl rfl (by omega) ?_
            refine X.bald 84 (zi266 83) rfl rfl (by decide) rfl (by omega) (fun h514 => ?_)
            refine X.iload 86 (zi266 84) rfl rfl rfl ?_
            refine X.icmpeq 91 89 (zi266 86) rfl rfl rfl (fun h515 => ?_) (fun h515 => ?_)
            · refine X.cut [(0, zr 4 44), (1, zi a1), (7, zi a7), (8, zi a8)] (zi266 91) rfl ?_
              refine X.iload_n 92 (zi266 91) rfl rfl rfl ?_
              refine X.bipush 94 (zi266 92) rfl rfl (by decide) ?_
              have hK526 : ∀ (v : Int) , (0 ≤ v ∧ v ≤ 1) → (if a1 < 6 then
                  (1)
                  else
                  (if (m 4 48 ((m 4 44 8) + 5)) = a7 then
                  (if a1 < 7 then
                  (1)
                  else
                  (if (m 4 48 ((m 4 44 8) + 6)) = a8 then
                  (1)
                  else
                  (0)))
                  else
                  (0))) = v → X (EE s) d 266 141 [] [zi v] m Q := by
                intro v523 hv523 hT527
                refine X.retz (zi266 141) rfl t266 (by omega) ?_
                exact hQ v523 (by first | trivial | omega) (Eq.trans (zn_eq hFv503.symm) (Eq.trans (if_pos h505) (Eq.trans (if_pos h507) (Eq.trans (if_pos h509) (Eq.trans (if_pos h511) (Eq.trans (if_pos h513) (Eq.trans (if_pos h515) (Eq.trans (zn_eq hT527.symm) rfl)))))))) 
              refine X.icmplt 113 97 (zi266 94) rfl rfl rfl (fun h516 => ?_) (fun h516 => ?_)
              · refine X.cut [(0, zr 4 44), (1, zi a1), (8, zi a8)] (zi266 113) rfl ?_
                refine X.iload_n 114 (zi266 113) rfl rfl rfl ?_
                refine X.bipush 116 (zi266 114) rfl rfl (by decide) ?_
                refine X.icmplt 136 119 (zi266 116) rfl rfl rfl (fun h517 => ?_) (fun h517 => (by exfalso; omega))
                refine X.cut [] (zi266 136) rfl ?_
                refine X.iconst 137 (zi266 136) rfl rfl (by decide) ?_
                refine X.goto 141 (zi266 137) rfl rfl ?_
                exact hK526 1 (by first | trivial | omega) (Eq.trans (if_pos h516) rfl)
              · refine X.aload_n 98 (zi266 97) rfl rfl rfl ?_
                refine X.getF 101 (zi266 98) rfl rfl (by decide) rfl rfl ?_
                refine X.aload_n 102 (zi266 101) rfl rfl rfl ?_
                refine X.getI 105 8 (zi266 102) rfl rfl (by decide) rfl rfl rfl ?_
                refine X.iconst 106 (zi266 105) rfl rfl (by decide) ?_
                refine X.iadd 107 (zi266 106) rfl rfl (by omega) ?_
                refine X.bald 108 (zi266 107) rfl rfl (by decide) rfl (by omega) (fun h518 => ?_)
                refine X.iload 110 (zi266 108) rfl rfl rfl ?_
                refine X.icmpne 140 113 (zi266 110) rfl rfl rfl (fun h519 => ?_) (fun h519 => ?_)
                · refine X.cut [] (zi266 140) rfl ?_
                  refine X.iconst 141 (zi266 140) rfl rfl (by decide) ?_
                  exact hK526 0 (by first | trivial | omega) (Eq.trans (if_neg h516) (Eq.trans (if_neg h519) rfl))
                · refine X.cut [(0, zr 4 44), (1, zi a1), (8, zi a8)] (zi266 113) rfl ?_
                  refine X.iload_n 114 (zi266 113) rfl rfl rfl ?_
                  refine X.bipush 116 (zi266 114) rfl rfl (by decide) ?_
                  refine X.icmplt 136 119 (zi266 116) rfl rfl rfl (fun h520 => ?_) (fun h520 => ?_)
                  · refine X.cut [] (zi266 136) rfl ?_
                    refine X.iconst 137 (zi266 136) rfl rfl (by decide) ?_
                    refine X.goto 141 (zi266 137) rfl rfl ?_
                    exact hK526 1 (by first | trivial | omega) (Eq.trans (if_neg h516) (Eq.trans (if_pos h519) (Eq.trans (if_pos h520) rfl)))
                  · refine X.aload_n 120 (zi266 119) rfl rfl rfl ?_
                    refine X.getF 123 (zi266 120) rfl rfl (by decide) rfl rfl ?_
                    refine X.aload_n 124 (zi266 123) rfl rfl rfl ?_
                    refine X.getI 127 8 (zi266 124) rfl rfl (by decide) rfl rfl rfl ?_
                    refine X.bipush 129 (zi266 127) rfl rfl (by decide) ?_
                    refine X.iadd 130 (zi266 129) rfl rfl (by omega) ?_
                    refine X.bald 131 (zi266 130) rfl rfl (by decide) rfl (by omega) (fun h521 => ?_)
                    refine X.iload 133 (zi266 131) rfl rfl rfl ?_
                    refine X.icmpne 140 136 (zi266 133) rfl rfl rfl (fun h522 => ?_) (fun h522 => ?_)
                    · refine X.cut [] (zi266 140) rfl ?_
                      refine X.iconst 141 (zi266 140) rfl rfl (by decide) ?_
                      exact hK526 0 (by first | trivial | omega) (Eq.trans (if_neg h516) (Eq.trans (if_pos h519) (Eq.trans (if_neg h520) (Eq.trans (if_neg h522) rfl))))
                    · refine X.cut [] (zi266 136) rfl ?_
                      refine X.iconst 137 (zi266 136) rfl rfl (by decide) ?_
                      refine X.goto 141 (zi266 137) rfl rfl ?_
                      exact hK526 1 (by first | trivial | omega) (Eq.trans (if_neg h516) (Eq.trans (if_pos h519) (Eq.trans (if_neg h520) (Eq.trans (if_pos h522) rfl))))
            · refine X.cut [] (zi266 89) rfl ?_
              refine X.iconst 90 (zi266 89) rfl rfl (by decide) ?_
              refine X.retz (zi266 90) rfl t266 (by omega) ?_
              exact hQ 0 (by first | trivial | omega) (Eq.trans (zn_eq hFv503.symm) (Eq.trans (if_pos h505) (Eq.trans (if_pos h507) (Eq.trans (if_pos h509) (Eq.trans (if_pos h511) (Eq.trans (if_pos h513) (Eq.trans (if_neg h515) rfl))))))) 
-- WorkMeterModel.spells
theorem c266_3 {s : Nat × (Nat → Int32)} {S : zS} {m0 m : zM} {B : Int} {d : Nat} {Q : Option zV → zM → Prop} (a1 a2 a3 a4 a5 a6 a7 a8 : Int) (hd : 14 ≤ d) (hJ : J S m0 B m) (hB : B + 0 ≤ 1000000000) (ha1 : 5 ≤ a1 ∧ a1 ≤ 7) (ha2 : 115 ≤ a2 ∧ a2 ≤ 115) (ha3 : 112 ≤ a3 ∧ a3 ≤ 112) (ha4 : 101 ≤ a4 ∧ a4 ≤ 101) (ha5 : 99 ≤ a5 ∧ a5 ≤ 99) (ha6 : 105 ≤ a6 ∧ a6 ≤ 105) (ha7 : 97 ≤ a7 ∧ a7 ≤ 97) (ha8 : 108 ≤ a8 ∧ a8 ≤ 108) (hQ : ∀ (v : Int), (0 ≤ v ∧ v ≤ 1) → f266_1 a1 a2 a3 a4 a5 a6 a7 a8 m = v → Q (some (zi v)) m) : X (EE s) d 266 0 [(0, zr 4 44), (1, zi a1), (2, zi a2), (3, zi a3), (4, zi a4), (5, zi a5), (6, zi a6), (7, zi a7), (8, zi a8)] [] m Q := by
  refine X.aload_n 1 (zi266 0) rfl rfl rfl ?_
  refine X.callv 4 [] [] [(0, zr 4 44)] (zi266 1) rfl (by decide) rfl rfl (by omega) rfl rfl (by decide) rfl t267 (Nat.le_of_ble_eq_true rfl) (Nat.le_of_ble_eq_true rfl) rfl ?_
  refine c267_1 (B := B)   (by omega) (hJ.up (by omega)) (by omega)  (fun v503 hv503 hFv503 hqv503_0 => ?_)
  show X (EE s) d 266 4 [(0, zr 4 44), (1, zi a1), (2, zi a2), (3, zi a3), (4, zi a4), (5, zi a5), (6, zi a6), (7, zi a7), (8, zi a8)] [zi v503] m _
  refine X.aload_n 5 (zi266 4) rfl rfl rfl ?_
  refine X.getI 8 8 (zi266 5) rfl rfl (by decide) rfl rfl rfl ?_
  have h504 := r44_8 hJ 4
  refine X.iload_n 9 (zi266 8) rfl rfl rfl ?_
  refine X.iadd 10 (zi266 9) rfl rfl (by omega) ?_
  refine X.icmpne 89 13 (zi266 10) rfl rfl rfl (fun h505 => ?_) (fun h505 => ?_)
  · refine X.cut [] (zi266 89) rfl ?_
    refine X.iconst 90 (zi266 89) rfl rfl (by decide) ?_
    refine X.retz (zi266 90) rfl t266 (by omega) ?_
    exact hQ 0 (by first | trivial | omega) (Eq.trans (zn_eq hFv503.symm) (Eq.trans (if_neg h505) rfl)) 
  · refine X.aload_n 14 (zi266 13) rfl rfl rfl ?_
    refine X.getF 17 (zi266 14) rfl rfl (by decide) rfl rfl ?_
    refine X.aload_n 18 (zi266 17) rfl rfl rfl ?_
    refine X.getI 21 8 (zi266 18) rfl rfl (by decide) rfl rfl rfl ?_
    refine X.bald 22 (zi266 21) rfl rfl (by decide) rfl (by omega) (fun h506 => ?_)
    refine X.iload_n 23 (zi266 22) rfl rfl rfl ?_
    refine X.icmpne 89 26 (zi266 23) rfl rfl rfl (fun h507 => ?_) (fun h507 => ?_)
    · refine X.cut [] (zi266 89) rfl ?_
      refine X.iconst 90 (zi266 89) rfl rfl (by decide) ?_
      refine X.retz (zi266 90) rfl t266 (by omega) ?_
      exact hQ 0 (by first | trivial | omega) (Eq.trans (zn_eq hFv503.symm) (Eq.trans (if_pos h505) (Eq.trans (if_neg h507) rfl))) 
    · refine X.aload_n 27 (zi266 26) rfl rfl rfl ?_
      refine X.getF 30 (zi266 27) rfl rfl (by decide) rfl rfl ?_
      refine X.aload_n 31 (zi266 30) rfl rfl rfl ?_
      refine X.getI 34 8 (zi266 31) rfl rfl (by decide) rfl rfl rfl ?_
      refine X.iconst 35 (zi266 34) rfl rfl (by decide) ?_
      refine X.iadd 36 (zi266 35) rfl rfl (by omega) ?_
      refine X.bald 37 (zi266 36) rfl rfl (by decide) rfl (by omega) (fun h508 => ?_)
      refine X.iload_n 38 (zi266 37) rfl rfl rfl ?_
      refine X.icmpne 89 41 (zi266 38) rfl rfl rfl (fun h509 => ?_) (fun h509 => ?_)
      · refine X.cut [] (zi266 89) rfl ?_
        refine X.iconst 90 (zi266 89) rfl rfl (by decide) ?_
        refine X.retz (zi266 90) rfl t266 (by omega) ?_
        exact hQ 0 (by first | trivial | omega) (Eq.trans (zn_eq hFv503.symm) (Eq.trans (if_pos h505) (Eq.trans (if_pos h507) (Eq.trans (if_neg h509) rfl)))) 
      · refine X.aload_n 42 (zi266 41) rfl rfl rfl ?_
        refine X.getF 45 (zi266 42) rfl rfl (by decide) rfl rfl ?_
        refine X.aload_n 46 (zi266 45) rfl rfl rfl ?_
        refine X.getI 49 8 (zi266 46) rfl rfl (by decide) rfl rfl rfl ?_
        refine X.iconst 50 (zi266 49) rfl rfl (by decide) ?_
        refine X.iadd 51 (zi266 50) rfl rfl (by omega) ?_
        refine X.bald 52 (zi266 51) rfl rfl (by decide) rfl (by omega) (fun h510 => ?_)
        refine X.iload 54 (zi266 52) rfl rfl rfl ?_
        refine X.icmpne 89 57 (zi266 54) rfl rfl rfl (fun h511 => ?_) (fun h511 => ?_)
        · refine X.cut [] (zi266 89) rfl ?_
          refine X.iconst 90 (zi266 89) rfl rfl (by decide) ?_
          refine X.retz (zi266 90) rfl t266 (by omega) ?_
          exact hQ 0 (by first | trivial | omega) (Eq.trans (zn_eq hFv503.symm) (Eq.trans (if_pos h505) (Eq.trans (if_pos h507) (Eq.trans (if_pos h509) (Eq.trans (if_neg h511) rfl))))) 
        · refine X.aload_n 58 (zi266 57) rfl rfl rfl ?_
          refine X.getF 61 (zi266 58) rfl rfl (by decide) rfl rfl ?_
          refine X.aload_n 62 (zi266 61) rfl rfl rfl ?_
          refine X.getI 65 8 (zi266 62) rfl rfl (by decide) rfl rfl rfl ?_
          refine X.iconst 66 (zi266 65) rfl rfl (by decide) ?_
          refine X.iadd 67 (zi266 66) rfl rfl (by omega) ?_
          refine X.bald 68 (zi266 67) rfl rfl (by decide) rfl (by omega) (fun h512 => ?_)
          refine X.iload 70 (zi266 68) rfl rfl rfl ?_
          refine X.icmpne 89 73 (zi266 70) rfl rfl rfl (fun h513 => ?_) (fun h513 => ?_)
          · refine X.cut [] (zi266 89) rfl ?_
            refine X.iconst 90 (zi266 89) rfl rfl (by decide) ?_
            refine X.retz (zi266 90) rfl t266 (by omega) ?_
            exact hQ 0 (by first | trivial | omega) (Eq.trans (zn_eq hFv503.symm) (Eq.trans (if_pos h505) (Eq.trans (if_pos h507) (Eq.trans (if_pos h509) (Eq.trans (if_pos h511) (Eq.trans (if_neg h513) rfl)))))) 
          · refine X.aload_n 74 (zi266 73) rfl rfl rfl ?_
            refine X.getF 77 (zi266 74) rfl rfl (by decide) rfl rfl ?_
            refine X.aload_n 78 (zi266 77) rfl rfl rfl ?_
            refine X.getI 81 8 (zi266 78) rfl rfl (by decide) rfl rfl rfl ?_
            refine X.iconst 82 (zi266 81) rfl rfl (by decide) ?_
            refine X.iadd 83 (zi266 82) rfl rfl (by omega) ?_
            refine X.bald 84 (zi266 83) rfl rfl (by decide) rfl (by omega) (fun h514 => ?_)
            refine X.iload 86 (zi266 84) rfl rfl rfl ?_
            refine X.icmpeq 91 89 (zi266 86) rfl rfl rfl (fun h515 => ?_) (fun h515 => ?_)
            · refine X.cut [(0, zr 4 44), (1, zi a1), (7, zi a7), (8, zi a8)] (zi266 91) rfl ?_
              refine X.iload_n 92 (zi266 91) rfl rfl rfl ?_
              refine X.bipush 94 (zi266 92) rfl rfl (by decide) ?_
              have hK526 : ∀ (v : Int) , (0 ≤ v ∧ v ≤ 1) → (if a1 < 6 then
                  (1)
                  else
                  (if (m 4 48 ((m 4 44 8) + 5)) = a7 then
                  (if a1 < 7 then
                  (1)
                  else
                  (if (m 4 48 ((m 4 44 8) + 6)) = a8 then
                  (1)
                  else
                  (0)))
                  else
                  (0))) = v → X (EE s) d 266 141 [] [zi v] m Q := by
                intro v523 hv523 hT527
                refine X.retz (zi266 141) rfl t266 (by omega) ?_
                exact hQ v523 (by first | trivial | omega) (Eq.trans (zn_eq hFv503.symm) (Eq.trans (if_pos h505) (Eq.trans (if_pos h507) (Eq.trans (if_pos h509) (Eq.trans (if_pos h511) (Eq.trans (if_pos h513) (Eq.trans (if_pos h515) (Eq.trans (zn_eq hT527.symm) rfl)))))))) 
              refine X.icmplt 113 97 (zi266 94) rfl rfl rfl (fun h516 => ?_) (fun h516 => ?_)
              · refine X.cut [(0, zr 4 44), (1, zi a1), (8, zi a8)] (zi266 113) rfl ?_
                refine X.iload_n 114 (zi266 113) rfl rfl rfl ?_
                refine X.bipush 116 (zi266 114) rfl rfl (by decide) ?_
                refine X.icmplt 136 119 (zi266 116) rfl rfl rfl (fun h517 => ?_) (fun h517 => (by exfalso; omega))
                refine X.cut [] (zi266 136) rfl ?_
                refine X.iconst 137 (zi266 136) rfl rfl (by decide) ?_
                refine X.goto 141 (zi266 137) rfl rfl ?_
                exact hK526 1 (by first | trivial | omega) (Eq.trans (if_pos h516) rfl)
              · refine X.aload_n 98 (zi266 97) rfl rfl rfl ?_
                refine X.getF 101 (zi266 98) rfl rfl (by decide) rfl rfl ?_
                refine X.aload_n 102 (zi266 101) rfl rfl rfl ?_
                refine X.getI 105 8 (zi266 102) rfl rfl (by decide) rfl rfl rfl ?_
                refine X.iconst 106 (zi266 105) rfl rfl (by decide) ?_
                refine X.iadd 107 (zi266 106) rfl rfl (by omega) ?_
                refine X.bald 108 (zi266 107) rfl rfl (by decide) rfl (by omega) (fun h518 => ?_)
                refine X.iload 110 (zi266 108) rfl rfl rfl ?_
                refine X.icmpne 140 113 (zi266 110) rfl rfl rfl (fun h519 => ?_) (fun h519 => ?_)
                · refine X.cut [] (zi266 140) rfl ?_
                  refine X.iconst 141 (zi266 140) rfl rfl (by decide) ?_
                  exact hK526 0 (by first | trivial | omega) (Eq.trans (if_neg h516) (Eq.trans (if_neg h519) rfl))
                · refine X.cut [(0, zr 4 44), (1, zi a1), (8, zi a8)] (zi266 113) rfl ?_
                  refine X.iload_n 114 (zi266 113) rfl rfl rfl ?_
                  refine X.bipush 116 (zi266 114) rfl rfl (by decide) ?_
                  refine X.icmplt 136 119 (zi266 116) rfl rfl rfl (fun h520 => ?_) (fun h520 => ?_)
                  · refine X.cut [] (zi266 136) rfl ?_
                    refine X.iconst 137 (zi266 136) rfl rfl (by decide) ?_
                    refine X.goto 141 (zi266 137) rfl rfl ?_
                    exact hK526 1 (by first | trivial | omega) (Eq.trans (if_neg h516) (Eq.trans (if_pos h519) (Eq.trans (if_pos h520) rfl)))
                  · refine X.aload_n 120 (zi266 119) rfl rfl rfl ?_
                    refine X.getF 123 (zi266 120) rfl rfl (by decide) rfl rfl ?_
                    refine X.aload_n 124 (zi266 123) rfl rfl rfl ?_
                    refine X.getI 127 8 (zi266 124) rfl rfl (by decide) rfl rfl rfl ?_
                    refine X.bipush 129 (zi266 127) rfl rfl (by decide) ?_
                    refine X.iadd 130 (zi266 129) rfl rfl (by omega) ?_
                    refine X.bald 131 (zi266 130) rfl rfl (by decide) rfl (by omega) (fun h521 => ?_)
                    refine X.iload 133 (zi266 131) rfl rfl rfl ?_
                    refine X.icmpne 140 136 (zi266 133) rfl rfl rfl (fun h522 => ?_) (fun h522 => ?_)
                    · refine X.cut [] (zi266 140) rfl ?_
                      refine X.iconst 141 (zi266 140) rfl rfl (by decide) ?_
                      exact hK526 0 (by first | trivial | omega) (Eq.trans (if_neg h516) (Eq.trans (if_pos h519) (Eq.trans (if_neg h520) (Eq.trans (if_neg h522) rfl))))
                    · refine X.cut [] (zi266 136) rfl ?_
                      refine X.iconst 137 (zi266 136) rfl rfl (by decide) ?_
                      refine X.goto 141 (zi266 137) rfl rfl ?_
                      exact hK526 1 (by first | trivial | omega) (Eq.trans (if_neg h516) (Eq.trans (if_pos h519) (Eq.trans (if_neg h520) (Eq.trans (if_pos h522) rfl))))
            · refine X.cut [] (zi266 89) rfl ?_
              refine X.iconst 90 (zi266 89) rfl rfl (by decide) ?_
              refine X.retz (zi266 90) rfl t266 (by omega) ?_
              exact hQ 0 (by first | trivial | omega) (Eq.trans (zn_eq hFv503.symm) (Eq.trans (if_pos h505) (Eq.trans (if_pos h507) (Eq.trans (if_pos h509) (Eq.trans (if_pos h511) (Eq.trans (if_pos h513) (Eq.trans (if_neg h515) rfl))))))) 
-- WorkMeterModel.spells
theorem c266_4 {s : Nat × (Nat → Int32)} {S : zS} {m0 m : zM} {B : Int} {d : Nat} {Q : Option zV → zM → Prop} (a1 a2 a3 a4 a5 a6 a7 a8 : Int) (hd : 14 ≤ d) (hJ : J S m0 B m) (hB : B + 0 ≤ 1000000000) (ha1 : 5 ≤ a1 ∧ a1 ≤ 7) (ha2 : 112 ≤ a2 ∧ a2 ≤ 112) (ha3 : 114 ≤ a3 ∧ a3 ≤ 114) (ha4 : 105 ≤ a4 ∧ a4 ≤ 105) (ha5 : 99 ≤ a5 ∧ a5 ≤ 99) (ha6 : 101 ≤ a6 ∧ a6 ≤ 101) (ha7 : 0 ≤ a7 ∧ a7 ≤ 0) (ha8 : 0 ≤ a8 ∧ a8 ≤ 0) (hQ : ∀ (v : Int), (0 ≤ v ∧ v ≤ 1) → f266_1 a1 a2 a3 a4 a5 a6 a7 a8 m = v → Q (some (zi v)) m) : X (EE s) d 266 0 [(0, zr 4 44), (1, zi a1), (2, zi a2), (3, zi a3), (4, zi a4), (5, zi a5), (6, zi a6), (7, zi a7), (8, zi a8)] [] m Q := by
  refine X.aload_n 1 (zi266 0) rfl rfl rfl ?_
  refine X.callv 4 [] [] [(0, zr 4 44)] (zi266 1) rfl (by decide) rfl rfl (by omega) rfl rfl (by decide) rfl t267 (Nat.le_of_ble_eq_true rfl) (Nat.le_of_ble_eq_true rfl) rfl ?_
  refine c267_1 (B := B)   (by omega) (hJ.up (by omega)) (by omega)  (fun v503 hv503 hFv503 hqv503_0 => ?_)
  show X (EE s) d 266 4 [(0, zr 4 44), (1, zi a1), (2, zi a2), (3, zi a3), (4, zi a4), (5, zi a5), (6, zi a6), (7, zi a7), (8, zi a8)] [zi v503] m _
  refine X.aload_n 5 (zi266 4) rfl rfl rfl ?_
  refine X.getI 8 8 (zi266 5) rfl rfl (by decide) rfl rfl rfl ?_
  have h504 := r44_8 hJ 4
  refine X.iload_n 9 (zi266 8) rfl rfl rfl ?_
  refine X.iadd 10 (zi266 9) rfl rfl (by omega) ?_
  refine X.icmpne 89 13 (zi266 10) rfl rfl rfl (fun h505 => ?_) (fun h505 => ?_)
  · refine X.cut [] (zi266 89) rfl ?_
    refine X.iconst 90 (zi266 89) rfl rfl (by decide) ?_
    refine X.retz (zi266 90) rfl t266 (by omega) ?_
    exact hQ 0 (by first | trivial | omega) (Eq.trans (zn_eq hFv503.symm) (Eq.trans (if_neg h505) rfl)) 
  · refine X.aload_n 14 (zi266 13) rfl rfl rfl ?_
    refine X.getF 17 (zi266 14) rfl rfl (by decide) rfl rfl ?_
    refine X.aload_n 18 (zi266 17) rfl rfl rfl ?_
    refine X.getI 21 8 (zi266 18) rfl rfl (by decide) rfl rfl rfl ?_
    refine X.bald 22 (zi266 21) rfl rfl (by decide) rfl (by omega) (fun h506 => ?_)
    refine X.iload_n 23 (zi266 22) rfl rfl rfl ?_
    refine X.icmpne 89 26 (zi266 23) rfl rfl rfl (fun h507 => ?_) (fun h507 => ?_)
    · refine X.cut [] (zi266 89) rfl ?_
      refine X.iconst 90 (zi266 89) rfl rfl (by decide) ?_
      refine X.retz (zi266 90) rfl t266 (by omega) ?_
      exact hQ 0 (by first | trivial | omega) (Eq.trans (zn_eq hFv503.symm) (Eq.trans (if_pos h505) (Eq.trans (if_neg h507) rfl))) 
    · refine X.aload_n 27 (zi266 26) rfl rfl rfl ?_
      refine X.getF 30 (zi266 27) rfl rfl (by decide) rfl rfl ?_
      refine X.aload_n 31 (zi266 30) rfl rfl rfl ?_
      refine X.getI 34 8 (zi266 31) rfl rfl (by decide) rfl rfl rfl ?_
      refine X.iconst 35 (zi266 34) rfl rfl (by decide) ?_
      refine X.iadd 36 (zi266 35) rfl rfl (by omega) ?_
      refine X.bald 37 (zi266 36) rfl rfl (by decide) rfl (by omega) (fun h508 => ?_)
      refine X.iload_n 38 (zi266 37) rfl rfl rfl ?_
      refine X.icmpne 89 41 (zi266 38) rfl rfl rfl (fun h509 => ?_) (fun h509 => ?_)
      · refine X.cut [] (zi266 89) rfl ?_
        refine X.iconst 90 (zi266 89) rfl rfl (by decide) ?_
        refine X.retz (zi266 90) rfl t266 (by omega) ?_
        exact hQ 0 (by first | trivial | omega) (Eq.trans (zn_eq hFv503.symm) (Eq.trans (if_pos h505) (Eq.trans (if_pos h507) (Eq.trans (if_neg h509) rfl)))) 
      · refine X.aload_n 42 (zi266 41) rfl rfl rfl ?_
        refine X.getF 45 (zi266 42) rfl rfl (by decide) rfl rfl ?_
        refine X.aload_n 46 (zi266 45) rfl rfl rfl ?_
        refine X.getI 49 8 (zi266 46) rfl rfl (by decide) rfl rfl rfl ?_
        refine X.iconst 50 (zi266 49) rfl rfl (by decide) ?_
        refine X.iadd 51 (zi266 50) rfl rfl (by omega) ?_
        refine X.bald 52 (zi266 51) rfl rfl (by decide) rfl (by omega) (fun h510 => ?_)
        refine X.iload 54 (zi266 52) rfl rfl rfl ?_
        refine X.icmpne 89 57 (zi266 54) rfl rfl rfl (fun h511 => ?_) (fun h511 => ?_)
        · refine X.cut [] (zi266 89) rfl ?_
          refine X.iconst 90 (zi266 89) rfl rfl (by decide) ?_
          refine X.retz (zi266 90) rfl t266 (by omega) ?_
          exact hQ 0 (by first | trivial | omega) (Eq.trans (zn_eq hFv503.symm) (Eq.trans (if_pos h505) (Eq.trans (if_pos h507) (Eq.trans (if_pos h509) (Eq.trans (if_neg h511) rfl))))) 
        · refine X.aload_n 58 (zi266 57) rfl rfl rfl ?_
          refine X.getF 61 (zi266 58) rfl rfl (by decide) rfl rfl ?_
          refine X.aload_n 62 (zi266 61) rfl rfl rfl ?_
          refine X.getI 65 8 (zi266 62) rfl rfl (by decide) rfl rfl rfl ?_
          refine X.iconst 66 (zi266 65) rfl rfl (by decide) ?_
          refine X.iadd 67 (zi266 66) rfl rfl (by omega) ?_
          refine X.bald 68 (zi266 67) rfl rfl (by decide) rfl (by omega) (fun h512 => ?_)
          refine X.iload 70 (zi266 68) rfl rfl rfl ?_
          refine X.icmpne 89 73 (zi266 70) rfl rfl rfl (fun h513 => ?_) (fun h513 => ?_)
          · refine X.cut [] (zi266 89) rfl ?_
            refine X.iconst 90 (zi266 89) rfl rfl (by decide) ?_
            refine X.retz (zi266 90) rfl t266 (by omega) ?_
            exact hQ 0 (by first | trivial | omega) (Eq.trans (zn_eq hFv503.symm) (Eq.trans (if_pos h505) (Eq.trans (if_pos h507) (Eq.trans (if_pos h509) (Eq.trans (if_pos h511) (Eq.trans (if_neg h513) rfl)))))) 
          · refine X.aload_n 74 (zi266 73) rfl rfl rfl ?_
            refine X.getF 77 (zi266 74) rfl rfl (by decide) rfl rfl ?_
            refine X.aload_n 78 (zi266 77) rfl rfl rfl ?_
            refine X.getI 81 8 (zi266 78) rfl rfl (by decide) rfl rfl rfl ?_
            refine X.iconst 82 (zi266 81) rfl rfl (by decide) ?_
            refine X.iadd 83 (zi266 82) rfl rfl (by omega) ?_
            refine X.bald 84 (zi266 83) rfl rfl (by decide) rfl (by omega) (fun h514 => ?_)
            refine X.iload 86 (zi266 84) rfl rfl rfl ?_
            refine X.icmpeq 91 89 (zi266 86) rfl rfl rfl (fun h515 => ?_) (fun h515 => ?_)
            · refine X.cut [(0, zr 4 44), (1, zi a1), (7, zi a7), (8, zi a8)] (zi266 91) rfl ?_
              refine X.iload_n 92 (zi266 91) rfl rfl rfl ?_
              refine X.bipush 94 (zi266 92) rfl rfl (by decide) ?_
              have hK526 : ∀ (v : Int) , (0 ≤ v ∧ v ≤ 1) → (if a1 < 6 then
                  (1)
                  else
                  (if (m 4 48 ((m 4 44 8) + 5)) = a7 then
                  (if a1 < 7 then
                  (1)
                  else
                  (if (m 4 48 ((m 4 44 8) + 6)) = a8 then
                  (1)
                  else
                  (0)))
                  else
                  (0))) = v → X (EE s) d 266 141 [] [zi v] m Q := by
                intro v523 hv523 hT527
                refine X.retz (zi266 141) rfl t266 (by omega) ?_
                exact hQ v523 (by first | trivial | omega) (Eq.trans (zn_eq hFv503.symm) (Eq.trans (if_pos h505) (Eq.trans (if_pos h507) (Eq.trans (if_pos h509) (Eq.trans (if_pos h511) (Eq.trans (if_pos h513) (Eq.trans (if_pos h515) (Eq.trans (zn_eq hT527.symm) rfl)))))))) 
              refine X.icmplt 113 97 (zi266 94) rfl rfl rfl (fun h516 => ?_) (fun h516 => ?_)
              · refine X.cut [(0, zr 4 44), (1, zi a1), (8, zi a8)] (zi266 113) rfl ?_
                refine X.iload_n 114 (zi266 113) rfl rfl rfl ?_
                refine X.bipush 116 (zi266 114) rfl rfl (by decide) ?_
                refine X.icmplt 136 119 (zi266 116) rfl rfl rfl (fun h517 => ?_) (fun h517 => (by exfalso; omega))
                refine X.cut [] (zi266 136) rfl ?_
                refine X.iconst 137 (zi266 136) rfl rfl (by decide) ?_
                refine X.goto 141 (zi266 137) rfl rfl ?_
                exact hK526 1 (by first | trivial | omega) (Eq.trans (if_pos h516) rfl)
              · refine X.aload_n 98 (zi266 97) rfl rfl rfl ?_
                refine X.getF 101 (zi266 98) rfl rfl (by decide) rfl rfl ?_
                refine X.aload_n 102 (zi266 101) rfl rfl rfl ?_
                refine X.getI 105 8 (zi266 102) rfl rfl (by decide) rfl rfl rfl ?_
                refine X.iconst 106 (zi266 105) rfl rfl (by decide) ?_
                refine X.iadd 107 (zi266 106) rfl rfl (by omega) ?_
                refine X.bald 108 (zi266 107) rfl rfl (by decide) rfl (by omega) (fun h518 => ?_)
                refine X.iload 110 (zi266 108) rfl rfl rfl ?_
                refine X.icmpne 140 113 (zi266 110) rfl rfl rfl (fun h519 => ?_) (fun h519 => ?_)
                · refine X.cut [] (zi266 140) rfl ?_
                  refine X.iconst 141 (zi266 140) rfl rfl (by decide) ?_
                  exact hK526 0 (by first | trivial | omega) (Eq.trans (if_neg h516) (Eq.trans (if_neg h519) rfl))
                · refine X.cut [(0, zr 4 44), (1, zi a1), (8, zi a8)] (zi266 113) rfl ?_
                  refine X.iload_n 114 (zi266 113) rfl rfl rfl ?_
                  refine X.bipush 116 (zi266 114) rfl rfl (by decide) ?_
                  refine X.icmplt 136 119 (zi266 116) rfl rfl rfl (fun h520 => ?_) (fun h520 => ?_)
                  · refine X.cut [] (zi266 136) rfl ?_
                    refine X.iconst 137 (zi266 136) rfl rfl (by decide) ?_
                    refine X.goto 141 (zi266 137) rfl rfl ?_
                    exact hK526 1 (by first | trivial | omega) (Eq.trans (if_neg h516) (Eq.trans (if_pos h519) (Eq.trans (if_pos h520) rfl)))
                  · refine X.aload_n 120 (zi266 119) rfl rfl rfl ?_
                    refine X.getF 123 (zi266 120) rfl rfl (by decide) rfl rfl ?_
                    refine X.aload_n 124 (zi266 123) rfl rfl rfl ?_
                    refine X.getI 127 8 (zi266 124) rfl rfl (by decide) rfl rfl rfl ?_
                    refine X.bipush 129 (zi266 127) rfl rfl (by decide) ?_
                    refine X.iadd 130 (zi266 129) rfl rfl (by omega) ?_
                    refine X.bald 131 (zi266 130) rfl rfl (by decide) rfl (by omega) (fun h521 => ?_)
                    refine X.iload 133 (zi266 131) rfl rfl rfl ?_
                    refine X.icmpne 140 136 (zi266 133) rfl rfl rfl (fun h522 => ?_) (fun h522 => ?_)
                    · refine X.cut [] (zi266 140) rfl ?_
                      refine X.iconst 141 (zi266 140) rfl rfl (by decide) ?_
                      exact hK526 0 (by first | trivial | omega) (Eq.trans (if_neg h516) (Eq.trans (if_pos h519) (Eq.trans (if_neg h520) (Eq.trans (if_neg h522) rfl))))
                    · refine X.cut [] (zi266 136) rfl ?_
                      refine X.iconst 137 (zi266 136) rfl rfl (by decide) ?_
                      refine X.goto 141 (zi266 137) rfl rfl ?_
                      exact hK526 1 (by first | trivial | omega) (Eq.trans (if_neg h516) (Eq.trans (if_pos h519) (Eq.trans (if_neg h520) (Eq.trans (if_pos h522) rfl))))
            · refine X.cut [] (zi266 89) rfl ?_
              refine X.iconst 90 (zi266 89) rfl rfl (by decide) ?_
              refine X.retz (zi266 90) rfl t266 (by omega) ?_
              exact hQ 0 (by first | trivial | omega) (Eq.trans (zn_eq hFv503.symm) (Eq.trans (if_pos h505) (Eq.trans (if_pos h507) (Eq.trans (if_pos h509) (Eq.trans (if_pos h511) (Eq.trans (if_pos h513) (Eq.trans (if_neg h515) rfl))))))) 
-- WorkMeterModel.word
noncomputable def f265_1 (m : zM) : Int :=
  zn (f266_1 5 116 97 98 108 101 0 0 m) fun v503 =>
  if v503 = 0 then
  (zn (f266_1 6 115 101 97 115 111 110 0 m) fun v507 =>
  if v507 = 0 then
  (zn (f266_1 7 115 112 101 99 105 97 108 m) fun v511 =>
  if v511 = 0 then
  (zn (f266_1 5 112 114 105 99 101 0 0 m) fun v515 =>
  zn (if v515 = 0 then
  (0)
  else
  (4)) fun v517 =>
  v517)
  else
  (3))
  else
  (2))
  else
  (1)
-- WorkMeterModel.word
theorem c265_1 {s : Nat × (Nat → Int32)} {S : zS} {m0 m : zM} {B : Int} {d : Nat} {Q : Option zV → zM → Prop} (hd : 15 ≤ d) (hJ : J S m0 B m) (hB : B + 0 ≤ 1000000000) (hQ : ∀ (v : Int), (0 ≤ v ∧ v ≤ 4) → f265_1 m = v → Q (some (zi v)) m) : X (EE s) d 265 0 [(0, zr 4 44)] [] m Q := by
  refine X.aload_n 1 (zi265 0) rfl rfl rfl ?_
  refine X.iconst 2 (zi265 1) rfl rfl (by decide) ?_
  refine X.bipush 4 (zi265 2) rfl rfl (by decide) ?_
  refine X.bipush 6 (zi265 4) rfl rfl (by decide) ?_
  refine X.bipush 8 (zi265 6) rfl rfl (by decide) ?_
  refine X.bipush 10 (zi265 8) rfl rfl (by decide) ?_
  refine X.bipush 12 (zi265 10) rfl rfl (by decide) ?_
  refine X.iconst 13 (zi265 12) rfl rfl (by decide) ?_
  refine X.iconst 14 (zi265 13) rfl rfl (by decide) ?_
  refine X.callv 17 [zi 5, zi 116, zi 97, zi 98, zi 108, zi 101, zi 0, zi 0] [] [(0, zr 4 44), (1, zi 5), (2, zi 116), (3, zi 97), (4, zi 98), (5, zi 108), (6, zi 101), (7, zi 0), (8, zi 0)] (zi265 14) rfl (by decide) rfl rfl (by omega) rfl rfl (by decide) rfl t266 (Nat.le_of_ble_eq_true rfl) (Nat.le_of_ble_eq_true rfl) rfl ?_
  refine c266_1 (B := B)  5 116 97 98 108 101 0 0 (by omega) (hJ.up (by omega)) (by omega) (by omega) (by omega) (by omega) (by omega) (by omega) (by omega) (by omega) (by omega) (fun v503 hv503 hFv503 => ?_)
  show X (EE s) d 265 17 [(0, zr 4 44)] [zi v503] m _
  refine X.ifeq 22 20 (zi265 17) rfl rfl rfl (fun h504 => ?_) (fun h504 => ?_)
  · refine X.aload_n 23 (zi265 22) rfl rfl rfl ?_
    refine X.bipush 25 (zi265 23) rfl rfl (by decide) ?_
    refine X.bipush 27 (zi265 25) rfl rfl (by decide) ?_
    refine X.bipush 29 (zi265 27) rfl rfl (by decide) ?_
    refine X.bipush 31 (zi265 29) rfl rfl (by decide) ?_
    refine X.bipush 33 (zi265 31) rfl rfl (by decide) ?_
    refine X.bipush 35 (zi265 33) rfl rfl (by decide) ?_
    refine X.bipush 37 (zi265 35) rfl rfl (by decide) ?_
    refine X.iconst 38 (zi265 37) rfl rfl (by decide) ?_
    refine X.callv 41 [zi 6, zi 115, zi 101, zi 97, zi 115, zi 111, zi 110, zi 0] [] [(0, zr 4 44), (1, zi 6), (2, zi 115), (3, zi 101), (4, zi 97), (5, zi 115), (6, zi 111), (7, zi 110), (8, zi 0)] (zi265 38) rfl (by decide) rfl rfl (by omega) rfl rfl (by decide) rfl t266 (Nat.le_of_ble_eq_true rfl) (Nat.le_of_ble_eq_true rfl) rfl ?_
    refine c266_2 (B := B)  6 115 101 97 115 111 110 0 (by omega) (hJ.up (by omega)) (by omega) (by omega) (by omega) (by omega) (by omega) (by omega) (by omega) (by omega) (by omega) (fun v507 hv507 hFv507 => ?_)
    show X (EE s) d 265 41 [(0, zr 4 44)] [zi v507] m _
    refine X.ifeq 46 44 (zi265 41) rfl rfl rfl (fun h508 => ?_) (fun h508 => ?_)
    · refine X.aload_n 47 (zi265 46) rfl rfl rfl ?_
      refine X.bipush 49 (zi265 47) rfl rfl (by decide) ?_
      refine X.bipush 51 (zi265 49) rfl rfl (by decide) ?_
      refine X.bipush 53 (zi265 51) rfl rfl (by decide) ?_
      refine X.bipush 55 (zi265 53) rfl rfl (by decide) ?_
      refine X.bipush 57 (zi265 55) rfl rfl (by decide) ?_
      refine X.bipush 59 (zi265 57) rfl rfl (by decide) ?_
      refine X.bipush 61 (zi265 59) rfl rfl (by decide) ?_
      refine X.bipush 63 (zi265 61) rfl rfl (by decide) ?_
      refine X.callv 66 [zi 7, zi 115, zi 112, zi 101, zi 99, zi 105, zi 97, zi 108] [] [(0, zr 4 44), (1, zi 7), (2, zi 115), (3, zi 112), (4, zi 101), (5, zi 99), (6, zi 105), (7, zi 97), (8, zi 108)] (zi265 63) rfl (by decide) rfl rfl (by omega) rfl rfl (by decide) rfl t266 (Nat.le_of_ble_eq_true rfl) (Nat.le_of_ble_eq_true rfl) rfl ?_
      refine c266_3 (B := B)  7 115 112 101 99 105 97 108 (by omega) (hJ.up (by omega)) (by omega) (by omega) (by omega) (by omega) (by omega) (by omega) (by omega) (by omega) (by omega) (fun v511 hv511 hFv511 => ?_)
      show X (EE s) d 265 66 [(0, zr 4 44)] [zi v511] m _
      refine X.ifeq 71 69 (zi265 66) rfl rfl rfl (fun h512 => ?_) (fun h512 => ?_)
      · refine X.aload_n 72 (zi265 71) rfl rfl rfl ?_
        refine X.iconst 73 (zi265 72) rfl rfl (by decide) ?_
        refine X.bipush 75 (zi265 73) rfl rfl (by decide) ?_
        refine X.bipush 77 (zi265 75) rfl rfl (by decide) ?_
        refine X.bipush 79 (zi265 77) rfl rfl (by decide) ?_
        refine X.bipush 81 (zi265 79) rfl rfl (by decide) ?_
        refine X.bipush 83 (zi265 81) rfl rfl (by decide) ?_
        refine X.iconst 84 (zi265 83) rfl rfl (by decide) ?_
        refine X.iconst 85 (zi265 84) rfl rfl (by decide) ?_
        refine X.callv 88 [zi 5, zi 112, zi 114, zi 105, zi 99, zi 101, zi 0, zi 0] [] [(0, zr 4 44), (1, zi 5), (2, zi 112), (3, zi 114), (4, zi 105), (5, zi 99), (6, zi 101), (7, zi 0), (8, zi 0)] (zi265 85) rfl (by decide) rfl rfl (by omega) rfl rfl (by decide) rfl t266 (Nat.le_of_ble_eq_true rfl) (Nat.le_of_ble_eq_true rfl) rfl ?_
        refine c266_4 (B := B)  5 112 114 105 99 101 0 0 (by omega) (hJ.up (by omega)) (by omega) (by omega) (by omega) (by omega) (by omega) (by omega) (by omega) (by omega) (by omega) (fun v515 hv515 hFv515 => ?_)
        show X (EE s) d 265 88 [(0, zr 4 44)] [zi v515] m _
        have hK520 : ∀ (v : Int) , (0 ≤ v ∧ v ≤ 4) → (if v515 = 0 then
            (0)
            else
            (4)) = v → X (EE s) d 265 96 [] [zi v] m Q := by
          intro v517 hv517 hT521
          refine X.reti (zi265 96) rfl t265 ?_
          exact hQ v517 (by first | trivial | omega) (Eq.trans (zn_eq hFv503.symm) (Eq.trans (if_pos h504) (Eq.trans (zn_eq hFv507.symm) (Eq.trans (if_pos h508) (Eq.trans (zn_eq hFv511.symm) (Eq.trans (if_pos h512) (Eq.trans (zn_eq hFv515.symm) (Eq.trans (zn_eq hT521.symm) rfl)))))))) 
        refine X.ifeq 95 91 (zi265 88) rfl rfl rfl (fun h516 => ?_) (fun h516 => ?_)
        · refine X.cut [] (zi265 95) rfl ?_
          refine X.iconst 96 (zi265 95) rfl rfl (by decide) ?_
          exact hK520 0 (by first | trivial | omega) (Eq.trans (if_pos h516) rfl)
        · refine X.iconst 92 (zi265 91) rfl rfl (by decide) ?_
          refine X.goto 96 (zi265 92) rfl rfl ?_
          refine X.cut [] (zi265 96) rfl ?_
          exact hK520 4 (by first | trivial | omega) (Eq.trans (if_neg h516) rfl)
      · refine X.iconst 70 (zi265 69) rfl rfl (by decide) ?_
        refine X.reti (zi265 70) rfl t265 ?_
        exact hQ 3 (by first | trivial | omega) (Eq.trans (zn_eq hFv503.symm) (Eq.trans (if_pos h504) (Eq.trans (zn_eq hFv507.symm) (Eq.trans (if_pos h508) (Eq.trans (zn_eq hFv511.symm) (Eq.trans (if_neg h512) rfl)))))) 
    · refine X.iconst 45 (zi265 44) rfl rfl (by decide) ?_
      refine X.reti (zi265 45) rfl t265 ?_
      exact hQ 2 (by first | trivial | omega) (Eq.trans (zn_eq hFv503.symm) (Eq.trans (if_pos h504) (Eq.trans (zn_eq hFv507.symm) (Eq.trans (if_neg h508) rfl)))) 
  · refine X.iconst 21 (zi265 20) rfl rfl (by decide) ?_
    refine X.reti (zi265 21) rfl t265 ?_
    exact hQ 1 (by first | trivial | omega) (Eq.trans (zn_eq hFv503.symm) (Eq.trans (if_neg h504) rfl)) 
noncomputable def fl270_23_1_b (self : Int → zM → Int × zM) (k97 : Int → zM → Int × zM) (y1 y2 : Int) (y3 : Int) (m : zM) : Int × zM :=
  if (m 4 44 5) ≤ (m 4 44 8) then
  (k97 y3 m)
  else
  (if (m 4 48 (m 4 44 8)) < 48 then
  (k97 y3 m)
  else
  (if (m 4 48 (m 4 44 8)) ≤ 57 then
  (if y3 ≤ 100000 then
  (zs (z_upd m 4 44 8 ((m 4 44 8) + 1)) fun m531 =>
  self (((10 * y3) + (m 4 48 (m 4 44 8))) - 48) m531)
  else
  (zs (z_upd m 4 44 8 ((m 4 44 8) + 1)) fun m533 =>
  self y3 m533))
  else
  (k97 y3 m)))
noncomputable def fl270_23_1 (k97 : Int → zM → Int × zM) (y1 y2 : Int) : Nat → Int → zM → Int × zM
  | 0 => fun y3 m => (0, m)
  | n + 1 => fl270_23_1_b (fl270_23_1 k97 y1 y2 n) k97 y1 y2
theorem l270_23_1 {s : Nat × (Nat → Int32)} {S : zS} {m0 : zM} {d : Nat} {Q : Option zV → zM → Prop} {R0 : Int × zM} {k97 : Int → zM → Int × zM} (y1 y2 : Int) (c8 c9 : Int) (BE : Int) (hE : BE ≤ 1000000000) (hd : 13 ≤ d) (hy1 : 0 ≤ y1 ∧ y1 ≤ 0) (hy2 : 0 ≤ y2 ∧ y2 ≤ 1000) (hf39 : ¬ S.1 39) (hg4 : ¬ S.2.1 4)
    (K97 : ∀ (x3 : Int) (m' : zM) (B' : Int), J S m0 B' m' → B' ≤ BE → (0 ≤ x3 ∧ x3 ≤ 1000009) → (m' 4 44 10 ≤ m' 4 44 8) → (c8 ≤ m' 4 44 10) → (c8 ≤ m' 4 44 8) → (c9 ≤ m' 4 44 9) → R0 = k97 x3 m' → X (EE s) d 270 97 [(0, zr 4 44), (1, zi y1), (2, zi y2), (3, zi x3)] [] m' Q) :
    ∀ (n : Nat) (y3 : Int) (m : zM) (B : Int), J S m0 B m → B + 0 * (n : Int) ≤ BE → (0 ≤ y3 ∧ y3 ≤ 1000009) → (m 4 44 10 ≤ m 4 44 8) → (c8 ≤ m 4 44 10) → (c8 ≤ m 4 44 8) → (c9 ≤ m 4 44 9) → 300 - m 4 44 8 < (n : Int) → R0 = fl270_23_1 k97 y1 y2 n y3 m → X (EE s) d 270 23 [(0, zr 4 44), (1, zi y1), (2, zi y2), (3, zi y3)] [] m Q := by
  intro n
  induction n with
  | zero =>
    intro y3 m B hJ hB hy3 hr0 hr1 hr2 hr3 hn hR
    have zf0 := r44_8 hJ 4
    exfalso
    omega
  | succ n ih =>
    intro y3 m B hJ hB hy3 hr0 hr1 hr2 hr3 hn hR
    replace hR : R0 = fl270_23_1_b (fl270_23_1 k97 y1 y2 n) k97 y1 y2 y3 m := hR
    refine X.aload_n 24 (zi270 23) rfl rfl rfl ?_
    refine X.getI 27 8 (zi270 24) rfl rfl (by decide) rfl rfl rfl ?_
    have h518 := r44_8 hJ 4
    refine X.aload_n 28 (zi270 27) rfl rfl rfl ?_
    refine X.getI 31 5 (zi270 28) rfl rfl (by decide) rfl rfl rfl ?_
    have h519 := r44_5 hJ 4
    refine X.icmpge 97 34 (zi270 31) rfl rfl rfl (fun h520 => ?_) (fun h520 => ?_)
    · exact K97 y3 m (B) (hJ.up (by omega)) (by omega) (by first | trivial | omega) (by omega) (by omega) (by omega) (by omega) (Eq.trans hR (Eq.trans (if_pos h520) rfl))
    · refine X.aload_n 35 (zi270 34) rfl rfl rfl ?_
      refine X.getF 38 (zi270 35) rfl rfl (by decide) rfl rfl ?_
      refine X.aload_n 39 (zi270 38) rfl rfl rfl ?_
      refine X.getI 42 8 (zi270 39) rfl rfl (by decide) rfl rfl rfl ?_
      refine X.bald 43 (zi270 42) rfl rfl (by decide) rfl (by omega) (fun h521 => ?_)
      refine X.i2l 44 (zi270 43) rfl rfl ?_
      refine X.ldc2 47 (zi270 44) rfl rfl (by decide) ?_
      refine X.ldc2 50 (zi270 47) rfl rfl (by decide) ?_
      refine X.calls 53 [zl (m 4 48 (m 4 44 8)), zl 48, zl 57] [] [(0, zl (m 4 48 (m 4 44 8))), (2, zl 48), (4, zl 57)] (zi270 50) (by decide) rfl rfl (by omega) rfl rfl t204 (Nat.le_of_ble_eq_true rfl) (Nat.le_of_ble_eq_true rfl) rfl ?_
      refine X.lload_n 1 (zi204 0) rfl rfl rfl ?_
      refine X.lload_n 2 (zi204 1) rfl rfl rfl ?_
      refine X.lcmp 3 (zi204 2) rfl rfl (fun z522 hz522 => ?_)
      refine X.iflt 17 6 (zi204 3) rfl rfl rfl (fun h523 => ?_) (fun h523 => ?_)
      · have h523c : (m 4 48 (m 4 44 8)) < 48 := by omega
        clear h523 hz522
        refine X.cut [] (zi204 17) rfl ?_
        refine X.iconst 18 (zi204 17) rfl rfl (by decide) ?_
        refine X.retz (zi204 18) rfl t204 (by omega) ?_
        show X (EE s) d 270 53 [(0, zr 4 44), (1, zi y1), (2, zi y2), (3, zi y3)] [zi 0] m _
        refine X.ifeq 97 56 (zi270 53) rfl rfl rfl (fun h524 => ?_) (fun h524 => (by exfalso; omega))
        exact K97 y3 m (B) (hJ.up (by omega)) (by omega) (by first | trivial | omega) (by omega) (by omega) (by omega) (by omega) (Eq.trans hR (Eq.trans (if_neg h520) (Eq.trans (if_pos h523c) rfl)))
      · have h523c : ¬ (m 4 48 (m 4 44 8)) < 48 := by omega
        clear h523 hz522
        refine X.lload_n 7 (zi204 6) rfl rfl rfl ?_
        refine X.lload 9 (zi204 7) rfl rfl rfl ?_
        refine X.lcmp 10 (zi204 9) rfl rfl (fun z525 hz525 => ?_)
        refine X.ifgt 17 13 (zi204 10) rfl rfl rfl (fun h526 => ?_) (fun h526 => ?_)
        · have h526c : ¬ (m 4 48 (m 4 44 8)) ≤ 57 := by omega
          clear h526 hz525
          refine X.cut [] (zi204 17) rfl ?_
          refine X.iconst 18 (zi204 17) rfl rfl (by decide) ?_
          refine X.retz (zi204 18) rfl t204 (by omega) ?_
          show X (EE s) d 270 53 [(0, zr 4 44), (1, zi y1), (2, zi y2), (3, zi y3)] [zi 0] m _
          refine X.ifeq 97 56 (zi270 53) rfl rfl rfl (fun h527 => ?_) (fun h527 => (by exfalso; omega))
          exact K97 y3 m (B) (hJ.up (by omega)) (by omega) (by first | trivial | omega) (by omega) (by omega) (by omega) (by omega) (Eq.trans hR (Eq.trans (if_neg h520) (Eq.trans (if_neg h523c) (Eq.trans (if_neg h526c) rfl))))
        · have h526c : (m 4 48 (m 4 44 8)) ≤ 57 := by omega
          clear h526 hz525
          refine X.iconst 14 (zi204 13) rfl rfl (by decide) ?_
          refine X.goto 18 (zi204 14) rfl rfl ?_
          refine X.cut [] (zi204 18) rfl ?_
          refine X.retz (zi204 18) rfl t204 (by omega) ?_
          show X (EE s) d 270 53 [(0, zr 4 44), (1, zi y1), (2, zi y2), (3, zi y3)] [zi 1] m _
          refine X.ifeq 97 56 (zi270 53) rfl rfl rfl (fun h528 => (by exfalso; omega)) (fun h528 => ?_)
          refine X.iload_n 57 (zi270 56) rfl rfl rfl ?_
          refine X.ldc 59 (zi270 57) rfl rfl (by decide) ?_
          refine X.icmple 66 62 (zi270 59) rfl rfl rfl (fun h529 => ?_) (fun h529 => ?_)
          · refine X.bipush 68 (zi270 66) rfl rfl (by decide) ?_
            refine X.iload_n 69 (zi270 68) rfl rfl rfl ?_
            refine X.imul 70 (zi270 69) rfl rfl (by omega) ?_
            refine X.aload_n 71 (zi270 70) rfl rfl rfl ?_
            refine X.getF 74 (zi270 71) rfl rfl (by decide) rfl rfl ?_
            refine X.aload_n 75 (zi270 74) rfl rfl rfl ?_
            refine X.getI 78 8 (zi270 75) rfl rfl (by decide) rfl rfl rfl ?_
            refine X.bald 79 (zi270 78) rfl rfl (by decide) rfl (by omega) (fun h530 => ?_)
            refine X.iadd 80 (zi270 79) rfl rfl (by omega) ?_
            refine X.bipush 82 (zi270 80) rfl rfl (by decide) ?_
            refine X.isub 83 (zi270 82) rfl rfl (by omega) ?_
            refine X.cut [(0, zr 4 44), (1, zi y1), (2, zi y2)] (zi270 83) rfl ?_
            refine X.istore_n 84 [(0, zr 4 44), (1, zi y1), (2, zi y2), (3, zi (((10 * y3) + (m 4 48 (m 4 44 8))) - 48))] (zi270 83) rfl rfl rfl ?_
            refine X.aload_n 85 (zi270 84) rfl rfl rfl ?_
            refine X.dup 86 (zi270 85) rfl rfl rfl ?_
            refine X.getI 89 8 (zi270 86) rfl rfl (by decide) rfl rfl rfl ?_
            refine X.iconst 90 (zi270 89) rfl rfl (by decide) ?_
            refine X.iadd 91 (zi270 90) rfl rfl (by omega) ?_
            refine X.putI' 94 8 (zi270 91) rfl rfl (by decide) rfl rfl rfl (fun hrm531 m531 hm531 => ?_)
            have hJ532 := w44_8 hJ hm531 (by omega) hf39 hg4
            have em531 : m531 4 44 8 = ((m 4 44 8) + 1) := by rw [hm531]; exact z_upd_same _ _ _ _ _
            have wmm531_9 : m531 4 44 9 = m 4 44 9 := by rw [hm531]; exact z_upd_o _ _ rfl
            have wmm531_10 : m531 4 44 10 = m 4 44 10 := by rw [hm531]; exact z_upd_o _ _ rfl
            refine X.goto 23 (zi270 94) rfl rfl ?_
            exact ih (((10 * y3) + (m 4 48 (m 4 44 8))) - 48) m531 (B) (hJ532.up (by omega)) (by omega) (by omega) (by omega) (by omega) (by omega) (by omega) (by omega) (Eq.trans hR (Eq.trans (if_neg h520) (Eq.trans (if_neg h523c) (Eq.trans (if_pos h526c) (Eq.trans (if_pos h529) (Eq.trans (zs_eq hm531) rfl))))))
          · refine X.iload_n 63 (zi270 62) rfl rfl rfl ?_
            refine X.goto 83 (zi270 63) rfl rfl ?_
            refine X.cut [(0, zr 4 44), (1, zi y1), (2, zi y2)] (zi270 83) rfl ?_
            refine X.istore_n 84 [(0, zr 4 44), (1, zi y1), (2, zi y2), (3, zi y3)] (zi270 83) rfl rfl rfl ?_
            refine X.aload_n 85 (zi270 84) rfl rfl rfl ?_
            refine X.dup 86 (zi270 85) rfl rfl rfl ?_
            refine X.getI 89 8 (zi270 86) rfl rfl (by decide) rfl rfl rfl ?_
            refine X.iconst 90 (zi270 89) rfl rfl (by decide) ?_
            refine X.iadd 91 (zi270 90) rfl rfl (by omega) ?_
            refine X.putI' 94 8 (zi270 91) rfl rfl (by decide) rfl rfl rfl (fun hrm533 m533 hm533 => ?_)
            have hJ534 := w44_8 hJ hm533 (by omega) hf39 hg4
            have em533 : m533 4 44 8 = ((m 4 44 8) + 1) := by rw [hm533]; exact z_upd_same _ _ _ _ _
            have wmm533_9 : m533 4 44 9 = m 4 44 9 := by rw [hm533]; exact z_upd_o _ _ rfl
            have wmm533_10 : m533 4 44 10 = m 4 44 10 := by rw [hm533]; exact z_upd_o _ _ rfl
            refine X.goto 23 (zi270 94) rfl rfl ?_
            exact ih y3 m533 (B) (hJ534.up (by omega)) (by omega) (by omega) (by omega) (by omega) (by omega) (by omega) (by omega) (Eq.trans hR (Eq.trans (if_neg h520) (Eq.trans (if_neg h523c) (Eq.trans (if_pos h526c) (Eq.trans (if_neg h529) (Eq.trans (zs_eq hm533) rfl))))))
-- WorkMeterModel.wrong
noncomputable def f268_1 (a1 a2 : Int) (m : zM) : zM :=
  if (m 4 44 9) = 0 then
  (zs (z_upd m 4 44 9 1) fun m503 =>
  zs (z_upd m503 4 44 6 a1) fun m505 =>
  zs (z_upd m505 4 44 7 a2) fun m507 =>
  m507)
  else
  (m)
-- WorkMeterModel.wrong
theorem c268_1 {s : Nat × (Nat → Int32)} {S : zS} {m0 m : zM} {B : Int} {d : Nat} {Q : Option zV → zM → Prop} (a1 a2 : Int) (hd : 13 ≤ d) (hJ : J S m0 B m) (hB : B + 0 ≤ 1000000000) (ha1 : 2 ≤ a1 ∧ a1 ≤ 2) (ha2 : (-2147483648) ≤ a2 ∧ a2 ≤ 2147483647) (hf36 : ¬ S.1 36) (hf39 : ¬ S.1 39) (hg4 : ¬ S.2.1 4) (hQ : ∀ m', f268_1 a1 a2 m = m' → J S m0 (B) m' → (m' 4 44 9 = 1) → (m 4 44 8 ≤ m' 4 44 8) → (m 4 44 9 ≤ m' 4 44 9) → Q none m') : X (EE s) d 268 0 [(0, zr 4 44), (1, zi a1), (2, zi a2)] [] m Q := by
  refine X.aload_n 1 (zi268 0) rfl rfl rfl ?_
  refine X.getZ 4 9 (zi268 1) rfl rfl (by decide) rfl rfl rfl (fun h501 => ?_)
  refine X.ifeq 8 7 (zi268 4) rfl rfl rfl (fun h502 => ?_) (fun h502 => ?_)
  · refine X.aload_n 9 (zi268 8) rfl rfl rfl ?_
    refine X.iconst 10 (zi268 9) rfl rfl (by decide) ?_
    refine X.putZ' 13 9 (zi268 10) rfl rfl (by decide) rfl rfl rfl (by omega) (fun hrm503 m503 hm503 => ?_)
    have hJ504 := w44_9 hJ hm503 (by omega) hf39 hg4
    have em503 : m503 4 44 9 = 1 := by rw [hm503]; exact z_upd_same _ _ _ _ _
    have wmm503_8 : m503 4 44 8 = m 4 44 8 := by rw [hm503]; exact z_upd_o _ _ rfl
    have wmm503_10 : m503 4 44 10 = m 4 44 10 := by rw [hm503]; exact z_upd_o _ _ rfl
    refine X.aload_n 14 (zi268 13) rfl rfl rfl ?_
    refine X.iload_n 15 (zi268 14) rfl rfl rfl ?_
    refine X.putI' 18 6 (zi268 15) rfl rfl (by decide) rfl rfl rfl (fun hrm505 m505 hm505 => ?_)
    have hJ506 := w44_6 hJ504 hm505 (by omega) hrm505 hf36 hg4
    have wmm505_8 : m505 4 44 8 = m503 4 44 8 := by rw [hm505]; exact z_upd_o _ _ rfl
    have wmm505_9 : m505 4 44 9 = m503 4 44 9 := by rw [hm505]; exact z_upd_o _ _ rfl
    have wmm505_10 : m505 4 44 10 = m503 4 44 10 := by rw [hm505]; exact z_upd_o _ _ rfl
    refine X.aload_n 19 (zi268 18) rfl rfl rfl ?_
    refine X.iload_n 20 (zi268 19) rfl rfl rfl ?_
    refine X.putI' 23 7 (zi268 20) rfl rfl (by decide) rfl rfl rfl (fun hrm507 m507 hm507 => ?_)
    have hJ508 := w44_6 hJ506 hm507 (by omega) hrm507 hf36 hg4
    have wmm507_8 : m507 4 44 8 = m505 4 44 8 := by rw [hm507]; exact z_upd_o _ _ rfl
    have wmm507_9 : m507 4 44 9 = m505 4 44 9 := by rw [hm507]; exact z_upd_o _ _ rfl
    have wmm507_10 : m507 4 44 10 = m505 4 44 10 := by rw [hm507]; exact z_upd_o _ _ rfl
    refine X.retv (zi268 23) rfl t268 ?_
    exact hQ  m507  (Eq.trans (if_pos h502) (Eq.trans (zs_eq hm503) (Eq.trans (zs_eq hm505) (Eq.trans (zs_eq hm507) rfl)))) (hJ508.up (by omega)) (by omega) (by omega) (by omega)
  · refine X.retv (zi268 7) rfl t268 ?_
    exact hQ  m  (Eq.trans (if_neg h502) rfl) (hJ.up (by omega)) (by omega) (by omega) (by omega)
-- WorkMeterModel.wrong
theorem c268_2 {s : Nat × (Nat → Int32)} {S : zS} {m0 m : zM} {B : Int} {d : Nat} {Q : Option zV → zM → Prop} (a1 a2 : Int) (hd : 13 ≤ d) (hJ : J S m0 B m) (hB : B + 0 ≤ 1000000000) (ha1 : 1 ≤ a1 ∧ a1 ≤ 1) (ha2 : 0 ≤ a2 ∧ a2 ≤ 300) (hf36 : ¬ S.1 36) (hf39 : ¬ S.1 39) (hg4 : ¬ S.2.1 4) (hQ : ∀ m', f268_1 a1 a2 m = m' → J S m0 (B) m' → (m' 4 44 9 = 1) → (m 4 44 8 ≤ m' 4 44 8) → (m 4 44 9 ≤ m' 4 44 9) → Q none m') : X (EE s) d 268 0 [(0, zr 4 44), (1, zi a1), (2, zi a2)] [] m Q := by
  refine X.aload_n 1 (zi268 0) rfl rfl rfl ?_
  refine X.getZ 4 9 (zi268 1) rfl rfl (by decide) rfl rfl rfl (fun h501 => ?_)
  refine X.ifeq 8 7 (zi268 4) rfl rfl rfl (fun h502 => ?_) (fun h502 => ?_)
  · refine X.aload_n 9 (zi268 8) rfl rfl rfl ?_
    refine X.iconst 10 (zi268 9) rfl rfl (by decide) ?_
    refine X.putZ' 13 9 (zi268 10) rfl rfl (by decide) rfl rfl rfl (by omega) (fun hrm503 m503 hm503 => ?_)
    have hJ504 := w44_9 hJ hm503 (by omega) hf39 hg4
    have em503 : m503 4 44 9 = 1 := by rw [hm503]; exact z_upd_same _ _ _ _ _
    have wmm503_8 : m503 4 44 8 = m 4 44 8 := by rw [hm503]; exact z_upd_o _ _ rfl
    have wmm503_10 : m503 4 44 10 = m 4 44 10 := by rw [hm503]; exact z_upd_o _ _ rfl
    refine X.aload_n 14 (zi268 13) rfl rfl rfl ?_
    refine X.iload_n 15 (zi268 14) rfl rfl rfl ?_
    refine X.putI' 18 6 (zi268 15) rfl rfl (by decide) rfl rfl rfl (fun hrm505 m505 hm505 => ?_)
    have hJ506 := w44_6 hJ504 hm505 (by omega) hrm505 hf36 hg4
    have wmm505_8 : m505 4 44 8 = m503 4 44 8 := by rw [hm505]; exact z_upd_o _ _ rfl
    have wmm505_9 : m505 4 44 9 = m503 4 44 9 := by rw [hm505]; exact z_upd_o _ _ rfl
    have wmm505_10 : m505 4 44 10 = m503 4 44 10 := by rw [hm505]; exact z_upd_o _ _ rfl
    refine X.aload_n 19 (zi268 18) rfl rfl rfl ?_
    refine X.iload_n 20 (zi268 19) rfl rfl rfl ?_
    refine X.putI' 23 7 (zi268 20) rfl rfl (by decide) rfl rfl rfl (fun hrm507 m507 hm507 => ?_)
    have hJ508 := w44_6 hJ506 hm507 (by omega) hrm507 hf36 hg4
    have wmm507_8 : m507 4 44 8 = m505 4 44 8 := by rw [hm507]; exact z_upd_o _ _ rfl
    have wmm507_9 : m507 4 44 9 = m505 4 44 9 := by rw [hm507]; exact z_upd_o _ _ rfl
    have wmm507_10 : m507 4 44 10 = m505 4 44 10 := by rw [hm507]; exact z_upd_o _ _ rfl
    refine X.retv (zi268 23) rfl t268 ?_
    exact hQ  m507  (Eq.trans (if_pos h502) (Eq.trans (zs_eq hm503) (Eq.trans (zs_eq hm505) (Eq.trans (zs_eq hm507) rfl)))) (hJ508.up (by omega)) (by omega) (by omega) (by omega)
  · refine X.retv (zi268 7) rfl t268 ?_
    exact hQ  m  (Eq.trans (if_neg h502) rfl) (hJ.up (by omega)) (by omega) (by omega) (by omega)
-- WorkMeterModel.number
noncomputable def f270_1 (a1 a2 : Int) (m : zM) : Int × zM :=
  if (m 4 44 9) = 0 then
  (zs (f263_1 m) fun m503 =>
  zs (z_upd m503 4 44 10 (m503 4 44 8)) fun m507 =>
  fl270_23_1 (fun y509 m510 =>
  if (m510 4 44 8) = (m510 4 44 10) then
  (zs (f268_1 1 (m510 4 44 8) m510) fun m531 =>
  if (m531 4 44 9) = 0 then
  ((y509, m531))
  else
  ((0, m531)))
  else
  (if y509 ≤ a2 then
  (if (m510 4 44 9) = 0 then
  ((y509, m510))
  else
  ((0, m510)))
  else
  (zs (f268_1 2 (m510 4 44 10) m510) fun m523 =>
  if (m523 4 44 9) = 0 then
  ((y509, m523))
  else
  ((0, m523))))) a1 a2 (zfu 301) 0 m507)
  else
  ((0, m))
-- WorkMeterModel.number
theorem c270_1 {s : Nat × (Nat → Int32)} {S : zS} {m0 m : zM} {B : Int} {d : Nat} {Q : Option zV → zM → Prop} (a1 a2 : Int) (hd : 14 ≤ d) (hJ : J S m0 B m) (hB : B + 0 ≤ 1000000000) (ha1 : 0 ≤ a1 ∧ a1 ≤ 0) (ha2 : 0 ≤ a2 ∧ a2 ≤ 1000) (hf36 : ¬ S.1 36) (hf39 : ¬ S.1 39) (hg4 : ¬ S.2.1 4) (hQ : ∀ (v : Int) m', (0 ≤ v ∧ v ≤ 1000009) → f270_1 a1 a2 m = (v, m') → J S m0 (B) m' → (v ≤ a2) → (m' 4 44 9 = 1 ∨ m 4 44 8 < m' 4 44 8) → (m 4 44 8 ≤ m' 4 44 8) → (m 4 44 9 ≤ m' 4 44 9) → Q (some (zi v)) m') : X (EE s) d 270 0 [(0, zr 4 44), (1, zi a1), (2, zi a2)] [] m Q := by
  refine X.aload_n 1 (zi270 0) rfl rfl rfl ?_
  refine X.getZ 4 9 (zi270 1) rfl rfl (by decide) rfl rfl rfl (fun h501 => ?_)
  refine X.ifeq 9 7 (zi270 4) rfl rfl rfl (fun h502 => ?_) (fun h502 => ?_)
  · refine X.aload_n 10 (zi270 9) rfl rfl rfl ?_
    refine X.callv 13 [] [] [(0, zr 4 44)] (zi270 10) rfl (by decide) rfl rfl (by omega) rfl rfl (by decide) rfl t263 (Nat.le_of_ble_eq_true rfl) (Nat.le_of_ble_eq_true rfl) rfl ?_
    refine c263_1 (B := B)   (by omega) (hJ.up (by omega)) (by omega)  hf39 hg4 (fun m503 hFv505 hJ504 hqv505_0 hqv505_1 => ?_)
    show X (EE s) d 270 13 [(0, zr 4 44), (1, zi a1), (2, zi a2)] [] m503 _
    refine X.aload_n 14 (zi270 13) rfl rfl rfl ?_
    refine X.aload_n 15 (zi270 14) rfl rfl rfl ?_
    refine X.getI 18 8 (zi270 15) rfl rfl (by decide) rfl rfl rfl ?_
    have h506 := r44_8 hJ504 4
    refine X.putI' 21 10 (zi270 18) rfl rfl (by decide) rfl rfl rfl (fun hrm507 m507 hm507 => ?_)
    have hJ508 := w44_10 hJ504 hm507 (by omega) hrm507 hf39 hg4
    have em507 : m507 4 44 10 = (m503 4 44 8) := by rw [hm507]; exact z_upd_same _ _ _ _ _
    have wmm507_8 : m507 4 44 8 = m503 4 44 8 := by rw [hm507]; exact z_upd_o _ _ rfl
    have wmm507_9 : m507 4 44 9 = m503 4 44 9 := by rw [hm507]; exact z_upd_o _ _ rfl
    refine X.iconst 22 (zi270 21) rfl rfl (by decide) ?_
    refine X.istore_n 23 [(0, zr 4 44), (1, zi a1), (2, zi a2), (3, zi 0)] (zi270 22) rfl rfl rfl ?_
    have hz301 := zfu_eq 301
    have zf514 := r44_8 hJ508 4
    refine l270_23_1 (s := s) (d := d) (R0 := (f270_1 a1 a2 m))  a1 a2 (m507 4 44 8) (m507 4 44 9) (BE := B + 0) (by omega) (by omega) (by omega) (by omega) hf39 hg4 (fun y509 m510 B511 hJ512 hBB511 hby509 hrlm510_0 hrlm510_1 hrlm510_2 hrlm510_3 hR513 => ?_) (zfu 301) 0 m507 (B) (hJ508.up (by omega)) (by omega) (by omega) (by omega) (by omega) (by omega) (by omega) (by omega) (Eq.trans (if_pos h502) (Eq.trans (zs_eq hFv505.symm) (Eq.trans (zs_eq hm507) rfl)))
    refine X.aload_n 98 (zi270 97) rfl rfl rfl ?_
    refine X.getI 101 8 (zi270 98) rfl rfl (by decide) rfl rfl rfl ?_
    have h515 := r44_8 hJ512 4
    refine X.aload_n 102 (zi270 101) rfl rfl rfl ?_
    refine X.getIr 105 10 (zi270 102) rfl rfl (by decide) rfl rfl rfl (fun h516 => ?_)
    refine X.icmpne 120 108 (zi270 105) rfl rfl rfl (fun h517 => ?_) (fun h517 => ?_)
    · refine X.iload_n 121 (zi270 120) rfl rfl rfl ?_
      refine X.i2l 122 (zi270 121) rfl rfl ?_
      refine X.iload_n 123 (zi270 122) rfl rfl rfl ?_
      refine X.i2l 124 (zi270 123) rfl rfl ?_
      refine X.iload_n 125 (zi270 124) rfl rfl rfl ?_
      refine X.i2l 126 (zi270 125) rfl rfl ?_
      refine X.calls 129 [zl y509, zl a1, zl a2] [] [(0, zl y509), (2, zl a1), (4, zl a2)] (zi270 126) (by decide) rfl rfl (by omega) rfl rfl t204 (Nat.le_of_ble_eq_true rfl) (Nat.le_of_ble_eq_true rfl) rfl ?_
      refine X.lload_n 1 (zi204 0) rfl rfl rfl ?_
      refine X.lload_n 2 (zi204 1) rfl rfl rfl ?_
      refine X.lcmp 3 (zi204 2) rfl rfl (fun z518 hz518 => ?_)
      refine X.iflt 17 6 (zi204 3) rfl rfl rfl (fun h519 => (by exfalso; omega)) (fun h519 => ?_)
      have h519c : ¬ y509 < a1 := by omega
      clear h519 hz518
      refine X.lload_n 7 (zi204 6) rfl rfl rfl ?_
      refine X.lload 9 (zi204 7) rfl rfl rfl ?_
      refine X.lcmp 10 (zi204 9) rfl rfl (fun z520 hz520 => ?_)
      refine X.ifgt 17 13 (zi204 10) rfl rfl rfl (fun h521 => ?_) (fun h521 => ?_)
      · have h521c : ¬ y509 ≤ a2 := by omega
        clear h521 hz520
        refine X.cut [] (zi204 17) rfl ?_
        refine X.iconst 18 (zi204 17) rfl rfl (by decide) ?_
        refine X.retz (zi204 18) rfl t204 (by omega) ?_
        show X (EE s) d 270 129 [(0, zr 4 44), (1, zi a1), (2, zi a2), (3, zi y509)] [zi 0] m510 _
        refine X.ifne 141 132 (zi270 129) rfl rfl rfl (fun h522 => (by exfalso; omega)) (fun h522 => ?_)
        refine X.aload_n 133 (zi270 132) rfl rfl rfl ?_
        refine X.iconst 134 (zi270 133) rfl rfl (by decide) ?_
        refine X.aload_n 135 (zi270 134) rfl rfl rfl ?_
        refine X.getI 138 10 (zi270 135) rfl rfl (by decide) rfl rfl rfl ?_
        refine X.callv 141 [zi 2, zi (m510 4 44 10)] [] [(0, zr 4 44), (1, zi 2), (2, zi (m510 4 44 10))] (zi270 138) rfl (by decide) rfl rfl (by omega) rfl rfl (by decide) rfl t268 (Nat.le_of_ble_eq_true rfl) (Nat.le_of_ble_eq_true rfl) rfl ?_
        refine c268_1 (B := B511)  2 (m510 4 44 10) (by omega) (hJ512.up (by omega)) (by omega) (by omega) (by omega) hf36 hf39 hg4 (fun m523 hFv525 hJ524 hqv525_0 hqv525_1 hqv525_2 => ?_)
        show X (EE s) d 270 141 [(0, zr 4 44), (1, zi a1), (2, zi a2), (3, zi y509)] [] m523 _
        refine X.cut [(0, zr 4 44), (3, zi y509)] (zi270 141) rfl ?_
        refine X.aload_n 142 (zi270 141) rfl rfl rfl ?_
        refine X.getZ 145 9 (zi270 142) rfl rfl (by decide) rfl rfl rfl (fun h526 => ?_)
        refine X.ifeq 152 148 (zi270 145) rfl rfl rfl (fun h527 => ?_) (fun h527 => ?_)
        · refine X.cut [(3, zi y509)] (zi270 152) rfl ?_
          refine X.iload_n 153 (zi270 152) rfl rfl rfl ?_
          refine X.cut [] (zi270 153) rfl ?_
          refine X.reti (zi270 153) rfl t270 ?_
          exact hQ y509 m523 (by first | trivial | omega) (Eq.trans hR513 (Eq.trans (if_neg h517) (Eq.trans (if_neg h521c) (Eq.trans (zs_eq hFv525.symm) (Eq.trans (if_pos h527) rfl))))) (hJ524.up (by omega)) (by omega) (by omega) (by omega) (by omega)
        · refine X.iconst 149 (zi270 148) rfl rfl (by decide) ?_
          refine X.goto 153 (zi270 149) rfl rfl ?_
          refine X.cut [] (zi270 153) rfl ?_
          refine X.reti (zi270 153) rfl t270 ?_
          exact hQ 0 m523 (by first | trivial | omega) (Eq.trans hR513 (Eq.trans (if_neg h517) (Eq.trans (if_neg h521c) (Eq.trans (zs_eq hFv525.symm) (Eq.trans (if_neg h527) rfl))))) (hJ524.up (by omega)) (by omega) (by omega) (by omega) (by omega)
      · have h521c : y509 ≤ a2 := by omega
        clear h521 hz520
        refine X.iconst 14 (zi204 13) rfl rfl (by decide) ?_
        refine X.goto 18 (zi204 14) rfl rfl ?_
        refine X.cut [] (zi204 18) rfl ?_
        refine X.retz (zi204 18) rfl t204 (by omega) ?_
        show X (EE s) d 270 129 [(0, zr 4 44), (1, zi a1), (2, zi a2), (3, zi y509)] [zi 1] m510 _
        refine X.ifne 141 132 (zi270 129) rfl rfl rfl (fun h528 => ?_) (fun h528 => (by exfalso; omega))
        refine X.cut [(0, zr 4 44), (3, zi y509)] (zi270 141) rfl ?_
        refine X.aload_n 142 (zi270 141) rfl rfl rfl ?_
        refine X.getZ 145 9 (zi270 142) rfl rfl (by decide) rfl rfl rfl (fun h529 => ?_)
        refine X.ifeq 152 148 (zi270 145) rfl rfl rfl (fun h530 => ?_) (fun h530 => ?_)
        · refine X.cut [(3, zi y509)] (zi270 152) rfl ?_
          refine X.iload_n 153 (zi270 152) rfl rfl rfl ?_
          refine X.cut [] (zi270 153) rfl ?_
          refine X.reti (zi270 153) rfl t270 ?_
          exact hQ y509 m510 (by first | trivial | omega) (Eq.trans hR513 (Eq.trans (if_neg h517) (Eq.trans (if_pos h521c) (Eq.trans (if_pos h530) rfl)))) (hJ512.up (by omega)) (by omega) (by omega) (by omega) (by omega)
        · refine X.iconst 149 (zi270 148) rfl rfl (by decide) ?_
          refine X.goto 153 (zi270 149) rfl rfl ?_
          refine X.cut [] (zi270 153) rfl ?_
          refine X.reti (zi270 153) rfl t270 ?_
          exact hQ 0 m510 (by first | trivial | omega) (Eq.trans hR513 (Eq.trans (if_neg h517) (Eq.trans (if_pos h521c) (Eq.trans (if_neg h530) rfl)))) (hJ512.up (by omega)) (by omega) (by omega) (by omega) (by omega)
    · refine X.aload_n 109 (zi270 108) rfl rfl rfl ?_
      refine X.iconst 110 (zi270 109) rfl rfl (by decide) ?_
      refine X.aload_n 111 (zi270 110) rfl rfl rfl ?_
      refine X.getI 114 8 (zi270 111) rfl rfl (by decide) rfl rfl rfl ?_
      refine X.callv 117 [zi 1, zi (m510 4 44 8)] [] [(0, zr 4 44), (1, zi 1), (2, zi (m510 4 44 8))] (zi270 114) rfl (by decide) rfl rfl (by omega) rfl rfl (by decide) rfl t268 (Nat.le_of_ble_eq_true rfl) (Nat.le_of_ble_eq_true rfl) rfl ?_
      refine c268_2 (B := B511)  1 (m510 4 44 8) (by omega) (hJ512.up (by omega)) (by omega) (by omega) (by omega) hf36 hf39 hg4 (fun m531 hFv533 hJ532 hqv533_0 hqv533_1 hqv533_2 => ?_)
      show X (EE s) d 270 117 [(0, zr 4 44), (1, zi a1), (2, zi a2), (3, zi y509)] [] m531 _
      refine X.goto 141 (zi270 117) rfl rfl ?_
      refine X.cut [(0, zr 4 44), (3, zi y509)] (zi270 141) rfl ?_
      refine X.aload_n 142 (zi270 141) rfl rfl rfl ?_
      refine X.getZ 145 9 (zi270 142) rfl rfl (by decide) rfl rfl rfl (fun h534 => ?_)
      refine X.ifeq 152 148 (zi270 145) rfl rfl rfl (fun h535 => ?_) (fun h535 => ?_)
      · refine X.cut [(3, zi y509)] (zi270 152) rfl ?_
        refine X.iload_n 153 (zi270 152) rfl rfl rfl ?_
        refine X.cut [] (zi270 153) rfl ?_
        refine X.reti (zi270 153) rfl t270 ?_
        exact hQ y509 m531 (by first | trivial | omega) (Eq.trans hR513 (Eq.trans (if_pos h517) (Eq.trans (zs_eq hFv533.symm) (Eq.trans (if_pos h535) rfl)))) (hJ532.up (by omega)) (by omega) (by omega) (by omega) (by omega)
      · refine X.iconst 149 (zi270 148) rfl rfl (by decide) ?_
        refine X.goto 153 (zi270 149) rfl rfl ?_
        refine X.cut [] (zi270 153) rfl ?_
        refine X.reti (zi270 153) rfl t270 ?_
        exact hQ 0 m531 (by first | trivial | omega) (Eq.trans hR513 (Eq.trans (if_pos h517) (Eq.trans (zs_eq hFv533.symm) (Eq.trans (if_neg h535) rfl)))) (hJ532.up (by omega)) (by omega) (by omega) (by omega) (by omega)
  · refine X.iconst 8 (zi270 7) rfl rfl (by decide) ?_
    refine X.reti (zi270 8) rfl t270 ?_
    exact hQ 0 m (by first | trivial | omega) (Eq.trans (if_neg h502) rfl) (hJ.up (by omega)) (by omega) (by omega) (by omega) (by omega)
-- WorkMeterModel.wrong
theorem c268_3 {s : Nat × (Nat → Int32)} {S : zS} {m0 m : zM} {B : Int} {d : Nat} {Q : Option zV → zM → Prop} (a1 a2 : Int) (hd : 13 ≤ d) (hJ : J S m0 B m) (hB : B + 0 ≤ 1000000000) (ha1 : 3 ≤ a1 ∧ a1 ≤ 3) (ha2 : (-2147483648) ≤ a2 ∧ a2 ≤ 2147483647) (hf36 : ¬ S.1 36) (hf39 : ¬ S.1 39) (hg4 : ¬ S.2.1 4) (hQ : ∀ m', f268_1 a1 a2 m = m' → J S m0 (B) m' → (m' 4 44 9 = 1) → (m 4 44 8 ≤ m' 4 44 8) → (m 4 44 9 ≤ m' 4 44 9) → Q none m') : X (EE s) d 268 0 [(0, zr 4 44), (1, zi a1), (2, zi a2)] [] m Q := by
  refine X.aload_n 1 (zi268 0) rfl rfl rfl ?_
  refine X.getZ 4 9 (zi268 1) rfl rfl (by decide) rfl rfl rfl (fun h501 => ?_)
  refine X.ifeq 8 7 (zi268 4) rfl rfl rfl (fun h502 => ?_) (fun h502 => ?_)
  · refine X.aload_n 9 (zi268 8) rfl rfl rfl ?_
    refine X.iconst 10 (zi268 9) rfl rfl (by decide) ?_
    refine X.putZ' 13 9 (zi268 10) rfl rfl (by decide) rfl rfl rfl (by omega) (fun hrm503 m503 hm503 => ?_)
    have hJ504 := w44_9 hJ hm503 (by omega) hf39 hg4
    have em503 : m503 4 44 9 = 1 := by rw [hm503]; exact z_upd_same _ _ _ _ _
    have wmm503_8 : m503 4 44 8 = m 4 44 8 := by rw [hm503]; exact z_upd_o _ _ rfl
    have wmm503_10 : m503 4 44 10 = m 4 44 10 := by rw [hm503]; exact z_upd_o _ _ rfl
    refine X.aload_n 14 (zi268 13) rfl rfl rfl ?_
    refine X.iload_n 15 (zi268 14) rfl rfl rfl ?_
    refine X.putI' 18 6 (zi268 15) rfl rfl (by decide) rfl rfl rfl (fun hrm505 m505 hm505 => ?_)
    have hJ506 := w44_6 hJ504 hm505 (by omega) hrm505 hf36 hg4
    have wmm505_8 : m505 4 44 8 = m503 4 44 8 := by rw [hm505]; exact z_upd_o _ _ rfl
    have wmm505_9 : m505 4 44 9 = m503 4 44 9 := by rw [hm505]; exact z_upd_o _ _ rfl
    have wmm505_10 : m505 4 44 10 = m503 4 44 10 := by rw [hm505]; exact z_upd_o _ _ rfl
    refine X.aload_n 19 (zi268 18) rfl rfl rfl ?_
    refine X.iload_n 20 (zi268 19) rfl rfl rfl ?_
    refine X.putI' 23 7 (zi268 20) rfl rfl (by decide) rfl rfl rfl (fun hrm507 m507 hm507 => ?_)
    have hJ508 := w44_6 hJ506 hm507 (by omega) hrm507 hf36 hg4
    have wmm507_8 : m507 4 44 8 = m505 4 44 8 := by rw [hm507]; exact z_upd_o _ _ rfl
    have wmm507_9 : m507 4 44 9 = m505 4 44 9 := by rw [hm507]; exact z_upd_o _ _ rfl
    have wmm507_10 : m507 4 44 10 = m505 4 44 10 := by rw [hm507]; exact z_upd_o _ _ rfl
    refine X.retv (zi268 23) rfl t268 ?_
    exact hQ  m507  (Eq.trans (if_pos h502) (Eq.trans (zs_eq hm503) (Eq.trans (zs_eq hm505) (Eq.trans (zs_eq hm507) rfl)))) (hJ508.up (by omega)) (by omega) (by omega) (by omega)
  · refine X.retv (zi268 7) rfl t268 ?_
    exact hQ  m  (Eq.trans (if_neg h502) rfl) (hJ.up (by omega)) (by omega) (by omega) (by omega)
-- WorkMeterModel.specialLine
noncomputable def f275_1 (m : zM) : zM :=
  zb (f270_1 0 364 m) fun v503 m501 =>
  if (m501 4 44 9) = 0 then
  (if (m501 4 45 (423 + v503)) = (-1) then
  (zb (f270_1 0 7 m501) fun v516 m514 =>
  zs (z_upd m514 4 45 (423 + v503) v516) fun m517 =>
  m517)
  else
  (zs (f268_1 3 (m501 4 44 10) m501) fun m520 =>
  zb (f270_1 0 7 m520) fun v525 m523 =>
  zs (z_upd m523 4 45 (423 + v503) v525) fun m526 =>
  m526))
  else
  (zb (f270_1 0 7 m501) fun v508 m506 =>
  zs (z_upd m506 4 45 (423 + v503) v508) fun m509 =>
  m509)
-- WorkMeterModel.specialLine
theorem c275_1 {s : Nat × (Nat → Int32)} {S : zS} {m0 m : zM} {B : Int} {d : Nat} {Q : Option zV → zM → Prop} (hd : 15 ≤ d) (hJ : J S m0 B m) (hB : B + 0 ≤ 1000000000) (hf21 : ¬ S.1 21) (hf36 : ¬ S.1 36) (hf39 : ¬ S.1 39) (hg4 : ¬ S.2.1 4) (hQ : ∀ m', f275_1 m = m' → J S m0 (B) m' → (m 4 44 8 ≤ m' 4 44 8) → (m 4 44 9 ≤ m' 4 44 9) → Q none m') : X (EE s) d 275 0 [(0, zr 4 44)] [] m Q := by
  refine X.aload_n 1 (zi275 0) rfl rfl rfl ?_
  refine X.iconst 2 (zi275 1) rfl rfl (by decide) ?_
  refine X.sipush 5 (zi275 2) rfl rfl (by decide) ?_
  refine X.callv 8 [zi 0, zi 364] [] [(0, zr 4 44), (1, zi 0), (2, zi 364)] (zi275 5) rfl (by decide) rfl rfl (by omega) rfl rfl (by decide) rfl t270 (Nat.le_of_ble_eq_true rfl) (Nat.le_of_ble_eq_true rfl) rfl ?_
  refine c270_1 (B := B)  0 364 (by omega) (hJ.up (by omega)) (by omega) (by omega) (by omega) hf36 hf39 hg4 (fun v503 m501 hv503 hFv503 hJ502 hqv503_0 hqv503_1 hqv503_2 hqv503_3 => ?_)
  show X (EE s) d 275 8 [(0, zr 4 44)] [zi v503] m501 _
  refine X.istore_n 9 [(0, zr 4 44), (1, zi v503)] (zi275 8) rfl rfl rfl ?_
  refine X.aload_n 10 (zi275 9) rfl rfl rfl ?_
  refine X.getZ 13 9 (zi275 10) rfl rfl (by decide) rfl rfl rfl (fun h504 => ?_)
  refine X.ifne 42 16 (zi275 13) rfl rfl rfl (fun h505 => ?_) (fun h505 => ?_)
  · refine X.aload_n 43 (zi275 42) rfl rfl rfl ?_
    refine X.getF 46 (zi275 43) rfl rfl (by decide) rfl rfl ?_
    refine X.sipush 49 (zi275 46) rfl rfl (by decide) ?_
    refine X.iload_n 50 (zi275 49) rfl rfl rfl ?_
    refine X.iadd 51 (zi275 50) rfl rfl (by omega) ?_
    refine X.aload_n 52 (zi275 51) rfl rfl rfl ?_
    refine X.iconst 53 (zi275 52) rfl rfl (by decide) ?_
    refine X.bipush 55 (zi275 53) rfl rfl (by decide) ?_
    refine X.callv 58 [zi 0, zi 7] [zi (423 + v503), zr 4 45] [(0, zr 4 44), (1, zi 0), (2, zi 7)] (zi275 55) rfl (by decide) rfl rfl (by omega) rfl rfl (by decide) rfl t270 (Nat.le_of_ble_eq_true rfl) (Nat.le_of_ble_eq_true rfl) rfl ?_
    refine c270_1 (B := B)  0 7 (by omega) (hJ502.up (by omega)) (by omega) (by omega) (by omega) hf36 hf39 hg4 (fun v508 m506 hv508 hFv508 hJ507 hqv508_0 hqv508_1 hqv508_2 hqv508_3 => ?_)
    show X (EE s) d 275 58 [(0, zr 4 44), (1, zi v503)] [zi v508, zi (423 + v503), zr 4 45] m506 _
    refine X.i2l 59 (zi275 58) rfl rfl ?_
    refine X.last' 60 (zi275 59) rfl rfl (by decide) rfl (by omega) (fun hrm509 m509 hm509 => ?_)
    have hJ510 := w45_423 hJ507 hm509 (by omega) (by omega) hf21 hg4
    have wmm509_8 : m509 4 44 8 = m506 4 44 8 := by rw [hm509]; exact z_upd_o _ _ rfl
    have wmm509_9 : m509 4 44 9 = m506 4 44 9 := by rw [hm509]; exact z_upd_o _ _ rfl
    have wmm509_10 : m509 4 44 10 = m506 4 44 10 := by rw [hm509]; exact z_upd_o _ _ rfl
    refine X.retv (zi275 60) rfl t275 ?_
    exact hQ  m509  (Eq.trans (zb_eq hFv503) (Eq.trans (if_neg h505) (Eq.trans (zb_eq hFv508) (Eq.trans (zs_eq hm509) rfl)))) (hJ510.up (by omega)) (by omega) (by omega)
  · refine X.aload_n 17 (zi275 16) rfl rfl rfl ?_
    refine X.getF 20 (zi275 17) rfl rfl (by decide) rfl rfl ?_
    refine X.sipush 23 (zi275 20) rfl rfl (by decide) ?_
    refine X.iload_n 24 (zi275 23) rfl rfl rfl ?_
    refine X.iadd 25 (zi275 24) rfl rfl (by omega) ?_
    refine X.lald 26 (zi275 25) rfl rfl (by decide) rfl (by omega) ?_
    have h511 := r45_423 hJ502 4 (i := (423 + v503)) (by omega)
    refine X.ldc2 29 (zi275 26) rfl rfl (by decide) ?_
    refine X.lcmp 30 (zi275 29) rfl rfl (fun z512 hz512 => ?_)
    refine X.ifeq 42 33 (zi275 30) rfl rfl rfl (fun h513 => ?_) (fun h513 => ?_)
    · have h513c : (m501 4 45 (423 + v503)) = (-1) := by omega
      clear h513 hz512
      refine X.aload_n 43 (zi275 42) rfl rfl rfl ?_
      refine X.getF 46 (zi275 43) rfl rfl (by decide) rfl rfl ?_
      refine X.sipush 49 (zi275 46) rfl rfl (by decide) ?_
      refine X.iload_n 50 (zi275 49) rfl rfl rfl ?_
      refine X.iadd 51 (zi275 50) rfl rfl (by omega) ?_
      refine X.aload_n 52 (zi275 51) rfl rfl rfl ?_
      refine X.iconst 53 (zi275 52) rfl rfl (by decide) ?_
      refine X.bipush 55 (zi275 53) rfl rfl (by decide) ?_
      refine X.callv 58 [zi 0, zi 7] [zi (423 + v503), zr 4 45] [(0, zr 4 44), (1, zi 0), (2, zi 7)] (zi275 55) rfl (by decide) rfl rfl (by omega) rfl rfl (by decide) rfl t270 (Nat.le_of_ble_eq_true rfl) (Nat.le_of_ble_eq_true rfl) rfl ?_
      refine c270_1 (B := B)  0 7 (by omega) (hJ502.up (by omega)) (by omega) (by omega) (by omega) hf36 hf39 hg4 (fun v516 m514 hv516 hFv516 hJ515 hqv516_0 hqv516_1 hqv516_2 hqv516_3 => ?_)
      show X (EE s) d 275 58 [(0, zr 4 44), (1, zi v503)] [zi v516, zi (423 + v503), zr 4 45] m514 _
      refine X.i2l 59 (zi275 58) rfl rfl ?_
      refine X.last' 60 (zi275 59) rfl rfl (by decide) rfl (by omega) (fun hrm517 m517 hm517 => ?_)
      have hJ518 := w45_423 hJ515 hm517 (by omega) (by omega) hf21 hg4
      have wmm517_8 : m517 4 44 8 = m514 4 44 8 := by rw [hm517]; exact z_upd_o _ _ rfl
      have wmm517_9 : m517 4 44 9 = m514 4 44 9 := by rw [hm517]; exact z_upd_o _ _ rfl
      have wmm517_10 : m517 4 44 10 = m514 4 44 10 := by rw [hm517]; exact z_upd_o _ _ rfl
      refine X.retv (zi275 60) rfl t275 ?_
      exact hQ  m517  (Eq.trans (zb_eq hFv503) (Eq.trans (if_pos h505) (Eq.trans (if_pos h513c) (Eq.trans (zb_eq hFv516) (Eq.trans (zs_eq hm517) rfl))))) (hJ518.up (by omega)) (by omega) (by omega)
    · have h513c : ¬ (m501 4 45 (423 + v503)) = (-1) := by omega
      clear h513 hz512
      refine X.aload_n 34 (zi275 33) rfl rfl rfl ?_
      refine X.iconst 35 (zi275 34) rfl rfl (by decide) ?_
      refine X.aload_n 36 (zi275 35) rfl rfl rfl ?_
      refine X.getIr 39 10 (zi275 36) rfl rfl (by decide) rfl rfl rfl (fun h519 => ?_)
      refine X.callv 42 [zi 3, zi (m501 4 44 10)] [] [(0, zr 4 44), (1, zi 3), (2, zi (m501 4 44 10))] (zi275 39) rfl (by decide) rfl rfl (by omega) rfl rfl (by decide) rfl t268 (Nat.le_of_ble_eq_true rfl) (Nat.le_of_ble_eq_true rfl) rfl ?_
      refine c268_3 (B := B)  3 (m501 4 44 10) (by omega) (hJ502.up (by omega)) (by omega) (by omega) (by omega) hf36 hf39 hg4 (fun m520 hFv522 hJ521 hqv522_0 hqv522_1 hqv522_2 => ?_)
      show X (EE s) d 275 42 [(0, zr 4 44), (1, zi v503)] [] m520 _
      refine X.aload_n 43 (zi275 42) rfl rfl rfl ?_
      refine X.getF 46 (zi275 43) rfl rfl (by decide) rfl rfl ?_
      refine X.sipush 49 (zi275 46) rfl rfl (by decide) ?_
      refine X.iload_n 50 (zi275 49) rfl rfl rfl ?_
      refine X.iadd 51 (zi275 50) rfl rfl (by omega) ?_
      refine X.aload_n 52 (zi275 51) rfl rfl rfl ?_
      refine X.iconst 53 (zi275 52) rfl rfl (by decide) ?_
      refine X.bipush 55 (zi275 53) rfl rfl (by decide) ?_
      refine X.callv 58 [zi 0, zi 7] [zi (423 + v503), zr 4 45] [(0, zr 4 44), (1, zi 0), (2, zi 7)] (zi275 55) rfl (by decide) rfl rfl (by omega) rfl rfl (by decide) rfl t270 (Nat.le_of_ble_eq_true rfl) (Nat.le_of_ble_eq_true rfl) rfl ?_
      refine c270_1 (B := B)  0 7 (by omega) (hJ521.up (by omega)) (by omega) (by omega) (by omega) hf36 hf39 hg4 (fun v525 m523 hv525 hFv525 hJ524 hqv525_0 hqv525_1 hqv525_2 hqv525_3 => ?_)
      show X (EE s) d 275 58 [(0, zr 4 44), (1, zi v503)] [zi v525, zi (423 + v503), zr 4 45] m523 _
      refine X.i2l 59 (zi275 58) rfl rfl ?_
      refine X.last' 60 (zi275 59) rfl rfl (by decide) rfl (by omega) (fun hrm526 m526 hm526 => ?_)
      have hJ527 := w45_423 hJ524 hm526 (by omega) (by omega) hf21 hg4
      have wmm526_8 : m526 4 44 8 = m523 4 44 8 := by rw [hm526]; exact z_upd_o _ _ rfl
      have wmm526_9 : m526 4 44 9 = m523 4 44 9 := by rw [hm526]; exact z_upd_o _ _ rfl
      have wmm526_10 : m526 4 44 10 = m523 4 44 10 := by rw [hm526]; exact z_upd_o _ _ rfl
      refine X.retv (zi275 60) rfl t275 ?_
      exact hQ  m526  (Eq.trans (zb_eq hFv503) (Eq.trans (if_pos h505) (Eq.trans (if_neg h513c) (Eq.trans (zs_eq hFv522.symm) (Eq.trans (zb_eq hFv525) (Eq.trans (zs_eq hm526) rfl)))))) (hJ527.up (by omega)) (by omega) (by omega)
-- WorkMeterModel.must
noncomputable def f272_1 (a1 : Int) (m : zM) : zM :=
  zs (f263_1 m) fun m501 =>
  if (m501 4 44 5) ≤ (m501 4 44 8) then
  (zs (f268_1 1 (m501 4 44 8) m501) fun m507 =>
  m507)
  else
  (if (m501 4 48 (m501 4 44 8)) = a1 then
  (zs (z_upd m501 4 44 8 ((m501 4 44 8) + 1)) fun m515 =>
  m515)
  else
  (zs (f268_1 1 (m501 4 44 8) m501) fun m512 =>
  m512))
-- WorkMeterModel.must
theorem c272_1 {s : Nat × (Nat → Int32)} {S : zS} {m0 m : zM} {B : Int} {d : Nat} {Q : Option zV → zM → Prop} (a1 : Int) (hd : 14 ≤ d) (hJ : J S m0 B m) (hB : B + 0 ≤ 1000000000) (ha1 : 59 ≤ a1 ∧ a1 ≤ 59) (hf36 : ¬ S.1 36) (hf39 : ¬ S.1 39) (hg4 : ¬ S.2.1 4) (hQ : ∀ m', f272_1 a1 m = m' → J S m0 (B) m' → (m' 4 44 9 = 1 ∨ m 4 44 8 < m' 4 44 8) → (m 4 44 8 ≤ m' 4 44 8) → (m 4 44 9 ≤ m' 4 44 9) → Q none m') : X (EE s) d 272 0 [(0, zr 4 44), (1, zi a1)] [] m Q := by
  refine X.aload_n 1 (zi272 0) rfl rfl rfl ?_
  refine X.callv 4 [] [] [(0, zr 4 44)] (zi272 1) rfl (by decide) rfl rfl (by omega) rfl rfl (by decide) rfl t263 (Nat.le_of_ble_eq_true rfl) (Nat.le_of_ble_eq_true rfl) rfl ?_
  refine c263_1 (B := B)   (by omega) (hJ.up (by omega)) (by omega)  hf39 hg4 (fun m501 hFv503 hJ502 hqv503_0 hqv503_1 => ?_)
  show X (EE s) d 272 4 [(0, zr 4 44), (1, zi a1)] [] m501 _
  refine X.aload_n 5 (zi272 4) rfl rfl rfl ?_
  refine X.getI 8 8 (zi272 5) rfl rfl (by decide) rfl rfl rfl ?_
  have h504 := r44_8 hJ502 4
  refine X.aload_n 9 (zi272 8) rfl rfl rfl ?_
  refine X.getI 12 5 (zi272 9) rfl rfl (by decide) rfl rfl rfl ?_
  have h505 := r44_5 hJ502 4
  refine X.icmpge 41 15 (zi272 12) rfl rfl rfl (fun h506 => ?_) (fun h506 => ?_)
  · refine X.cut [(0, zr 4 44)] (zi272 41) rfl ?_
    refine X.aload_n 42 (zi272 41) rfl rfl rfl ?_
    refine X.iconst 43 (zi272 42) rfl rfl (by decide) ?_
    refine X.aload_n 44 (zi272 43) rfl rfl rfl ?_
    refine X.getI 47 8 (zi272 44) rfl rfl (by decide) rfl rfl rfl ?_
    refine X.callv 50 [zi 1, zi (m501 4 44 8)] [] [(0, zr 4 44), (1, zi 1), (2, zi (m501 4 44 8))] (zi272 47) rfl (by decide) rfl rfl (by omega) rfl rfl (by decide) rfl t268 (Nat.le_of_ble_eq_true rfl) (Nat.le_of_ble_eq_true rfl) rfl ?_
    refine c268_2 (B := B)  1 (m501 4 44 8) (by omega) (hJ502.up (by omega)) (by omega) (by omega) (by omega) hf36 hf39 hg4 (fun m507 hFv509 hJ508 hqv509_0 hqv509_1 hqv509_2 => ?_)
    show X (EE s) d 272 50 [(0, zr 4 44)] [] m507 _
    refine X.cut [] (zi272 50) rfl ?_
    refine X.retv (zi272 50) rfl t272 ?_
    exact hQ  m507  (Eq.trans (zs_eq hFv503.symm) (Eq.trans (if_pos h506) (Eq.trans (zs_eq hFv509.symm) rfl))) (hJ508.up (by omega)) (by omega) (by omega) (by omega)
  · refine X.aload_n 16 (zi272 15) rfl rfl rfl ?_
    refine X.getF 19 (zi272 16) rfl rfl (by decide) rfl rfl ?_
    refine X.aload_n 20 (zi272 19) rfl rfl rfl ?_
    refine X.getI 23 8 (zi272 20) rfl rfl (by decide) rfl rfl rfl ?_
    refine X.bald 24 (zi272 23) rfl rfl (by decide) rfl (by omega) (fun h510 => ?_)
    refine X.iload_n 25 (zi272 24) rfl rfl rfl ?_
    refine X.icmpne 41 28 (zi272 25) rfl rfl rfl (fun h511 => ?_) (fun h511 => ?_)
    · refine X.cut [(0, zr 4 44)] (zi272 41) rfl ?_
      refine X.aload_n 42 (zi272 41) rfl rfl rfl ?_
      refine X.iconst 43 (zi272 42) rfl rfl (by decide) ?_
      refine X.aload_n 44 (zi272 43) rfl rfl rfl ?_
      refine X.getI 47 8 (zi272 44) rfl rfl (by decide) rfl rfl rfl ?_
      refine X.callv 50 [zi 1, zi (m501 4 44 8)] [] [(0, zr 4 44), (1, zi 1), (2, zi (m501 4 44 8))] (zi272 47) rfl (by decide) rfl rfl (by omega) rfl rfl (by decide) rfl t268 (Nat.le_of_ble_eq_true rfl) (Nat.le_of_ble_eq_true rfl) rfl ?_
      refine c268_2 (B := B)  1 (m501 4 44 8) (by omega) (hJ502.up (by omega)) (by omega) (by omega) (by omega) hf36 hf39 hg4 (fun m512 hFv514 hJ513 hqv514_0 hqv514_1 hqv514_2 => ?_)
      show X (EE s) d 272 50 [(0, zr 4 44)] [] m512 _
      refine X.cut [] (zi272 50) rfl ?_
      refine X.retv (zi272 50) rfl t272 ?_
      exact hQ  m512  (Eq.trans (zs_eq hFv503.symm) (Eq.trans (if_neg h506) (Eq.trans (if_neg h511) (Eq.trans (zs_eq hFv514.symm) rfl)))) (hJ513.up (by omega)) (by omega) (by omega) (by omega)
    · refine X.aload_n 29 (zi272 28) rfl rfl rfl ?_
      refine X.dup 30 (zi272 29) rfl rfl rfl ?_
      refine X.getI 33 8 (zi272 30) rfl rfl (by decide) rfl rfl rfl ?_
      refine X.iconst 34 (zi272 33) rfl rfl (by decide) ?_
      refine X.iadd 35 (zi272 34) rfl rfl (by omega) ?_
      refine X.putI' 38 8 (zi272 35) rfl rfl (by decide) rfl rfl rfl (fun hrm515 m515 hm515 => ?_)
      have hJ516 := w44_8 hJ502 hm515 (by omega) hf39 hg4
      have em515 : m515 4 44 8 = ((m501 4 44 8) + 1) := by rw [hm515]; exact z_upd_same _ _ _ _ _
      have wmm515_9 : m515 4 44 9 = m501 4 44 9 := by rw [hm515]; exact z_upd_o _ _ rfl
      have wmm515_10 : m515 4 44 10 = m501 4 44 10 := by rw [hm515]; exact z_upd_o _ _ rfl
      refine X.goto 50 (zi272 38) rfl rfl ?_
      refine X.cut [] (zi272 50) rfl ?_
      refine X.retv (zi272 50) rfl t272 ?_
      exact hQ  m515  (Eq.trans (zs_eq hFv503.symm) (Eq.trans (if_neg h506) (Eq.trans (if_pos h511) (Eq.trans (zs_eq hm515) rfl)))) (hJ516.up (by omega)) (by omega) (by omega) (by omega)
noncomputable def fl274_60_1_b (self : Int → zM → zM) (k95 : zM → zM) (y1 : Int) (y2 : Int) (m : zM) : zM :=
  if 7 ≤ y2 then
  (k95 m)
  else
  (zb (f270_1 0 7 m) fun v510 m508 =>
  zs (z_upd m508 4 45 ((395 + (7 * y1)) + y2) v510) fun m511 =>
  self (y2 + 1) m511)
noncomputable def fl274_60_1 (k95 : zM → zM) (y1 : Int) : Nat → Int → zM → zM
  | 0 => fun y2 m => m
  | n + 1 => fl274_60_1_b (fl274_60_1 k95 y1 n) k95 y1
theorem l274_60_1 {s : Nat × (Nat → Int32)} {S : zS} {m0 : zM} {d : Nat} {Q : Option zV → zM → Prop} {R0 : zM} {k95 : zM → zM} (y1 : Int) (c8 c9 : Int) (BE : Int) (hE : BE ≤ 1000000000) (hd : 15 ≤ d) (hy1 : 0 ≤ y1 ∧ y1 ≤ 3) (hf21 : ¬ S.1 21) (hf36 : ¬ S.1 36) (hf39 : ¬ S.1 39) (hg4 : ¬ S.2.1 4)
    (K95 : ∀ (m' : zM) (B' : Int), J S m0 B' m' → B' ≤ BE → (c8 ≤ m' 4 44 8) → (c9 ≤ m' 4 44 9) → R0 = k95 m' → X (EE s) d 274 95 [] [] m' Q) :
    ∀ (n : Nat) (y2 : Int) (m : zM) (B : Int), J S m0 B m → B + 0 * (n : Int) ≤ BE → (0 ≤ y2 ∧ y2 ≤ 7) → (c8 ≤ m 4 44 8) → (c9 ≤ m 4 44 9) → 7 - y2 < (n : Int) → R0 = fl274_60_1 k95 y1 n y2 m → X (EE s) d 274 60 [(0, zr 4 44), (1, zi y1), (2, zi y2)] [] m Q := by
  intro n
  induction n with
  | zero =>
    intro y2 m B hJ hB hy2 hr0 hr1 hn hR
    exfalso
    omega
  | succ n ih =>
    intro y2 m B hJ hB hy2 hr0 hr1 hn hR
    replace hR : R0 = fl274_60_1_b (fl274_60_1 k95 y1 n) k95 y1 y2 m := hR
    refine X.iload_n 61 (zi274 60) rfl rfl rfl ?_
    refine X.bipush 63 (zi274 61) rfl rfl (by decide) ?_
    refine X.icmpge 95 66 (zi274 63) rfl rfl rfl (fun h507 => ?_) (fun h507 => ?_)
    · refine X.cut [] (zi274 95) rfl ?_
      exact K95  m (B) (hJ.up (by omega)) (by omega) (by omega) (by omega) (Eq.trans hR (Eq.trans (if_pos h507) rfl))
    · refine X.aload_n 67 (zi274 66) rfl rfl rfl ?_
      refine X.getF 70 (zi274 67) rfl rfl (by decide) rfl rfl ?_
      refine X.sipush 73 (zi274 70) rfl rfl (by decide) ?_
      refine X.bipush 75 (zi274 73) rfl rfl (by decide) ?_
      refine X.iload_n 76 (zi274 75) rfl rfl rfl ?_
      refine X.imul 77 (zi274 76) rfl rfl (by omega) ?_
      refine X.iadd 78 (zi274 77) rfl rfl (by omega) ?_
      refine X.iload_n 79 (zi274 78) rfl rfl rfl ?_
      refine X.iadd 80 (zi274 79) rfl rfl (by omega) ?_
      refine X.aload_n 81 (zi274 80) rfl rfl rfl ?_
      refine X.iconst 82 (zi274 81) rfl rfl (by decide) ?_
      refine X.bipush 84 (zi274 82) rfl rfl (by decide) ?_
      refine X.callv 87 [zi 0, zi 7] [zi ((395 + (7 * y1)) + y2), zr 4 45] [(0, zr 4 44), (1, zi 0), (2, zi 7)] (zi274 84) rfl (by decide) rfl rfl (by omega) rfl rfl (by decide) rfl t270 (Nat.le_of_ble_eq_true rfl) (Nat.le_of_ble_eq_true rfl) rfl ?_
      refine c270_1 (B := B)  0 7 (by omega) (hJ.up (by omega)) (by omega) (by omega) (by omega) hf36 hf39 hg4 (fun v510 m508 hv510 hFv510 hJ509 hqv510_0 hqv510_1 hqv510_2 hqv510_3 => ?_)
      show X (EE s) d 274 87 [(0, zr 4 44), (1, zi y1), (2, zi y2)] [zi v510, zi ((395 + (7 * y1)) + y2), zr 4 45] m508 _
      refine X.i2l 88 (zi274 87) rfl rfl ?_
      refine X.last' 89 (zi274 88) rfl rfl (by decide) rfl (by omega) (fun hrm511 m511 hm511 => ?_)
      have hJ512 := w45_395 hJ509 hm511 (by omega) (by omega) hf21 hg4
      have wmm511_8 : m511 4 44 8 = m508 4 44 8 := by rw [hm511]; exact z_upd_o _ _ rfl
      have wmm511_9 : m511 4 44 9 = m508 4 44 9 := by rw [hm511]; exact z_upd_o _ _ rfl
      have wmm511_10 : m511 4 44 10 = m508 4 44 10 := by rw [hm511]; exact z_upd_o _ _ rfl
      refine X.iinc 92 [(0, zr 4 44), (1, zi y1), (2, zi (y2 + 1))] (zi274 89) rfl rfl rfl (by omega) rfl ?_
      refine X.goto 60 (zi274 92) rfl rfl ?_
      exact ih (y2 + 1) m511 (B) (hJ512.up (by omega)) (by omega) (by omega) (by omega) (by omega) (by omega) (Eq.trans hR (Eq.trans (if_neg h507) (Eq.trans (zb_eq hFv510) (Eq.trans (zs_eq hm511) rfl))))
-- WorkMeterModel.seasonLine
noncomputable def f274_1 (m : zM) : zM :=
  zb (f270_1 0 3 m) fun v503 m501 =>
  if (m501 4 44 9) = 0 then
  (if (m501 4 50 v503) = 0 then
  (zs (z_upd m501 4 50 v503 1) fun m519 =>
  zb (f270_1 0 364 m519) fun v523 m521 =>
  zs (z_upd m521 4 45 (391 + v503) v523) fun m524 =>
  fl274_60_1 (fun m526 =>
  m526) v503 (zfu 8) 0 m524)
  else
  (zs (f268_1 3 (m501 4 44 10) m501) fun m531 =>
  zs (z_upd m531 4 50 v503 1) fun m534 =>
  zb (f270_1 0 364 m534) fun v538 m536 =>
  zs (z_upd m536 4 45 (391 + v503) v538) fun m539 =>
  fl274_60_1 (fun m541 =>
  m541) v503 (zfu 8) 0 m539))
  else
  (zs (z_upd m501 4 50 v503 1) fun m506 =>
  zb (f270_1 0 364 m506) fun v510 m508 =>
  zs (z_upd m508 4 45 (391 + v503) v510) fun m511 =>
  fl274_60_1 (fun m513 =>
  m513) v503 (zfu 8) 0 m511)
-- WorkMeterModel.seasonLine
theorem c274_1 {s : Nat × (Nat → Int32)} {S : zS} {m0 m : zM} {B : Int} {d : Nat} {Q : Option zV → zM → Prop} (hd : 15 ≤ d) (hJ : J S m0 B m) (hB : B + 0 ≤ 1000000000) (hf21 : ¬ S.1 21) (hf36 : ¬ S.1 36) (hf39 : ¬ S.1 39) (hg4 : ¬ S.2.1 4) (hQ : ∀ m', f274_1 m = m' → J S m0 (B) m' → (m 4 44 8 ≤ m' 4 44 8) → (m 4 44 9 ≤ m' 4 44 9) → Q none m') : X (EE s) d 274 0 [(0, zr 4 44)] [] m Q := by
  refine X.aload_n 1 (zi274 0) rfl rfl rfl ?_
  refine X.iconst 2 (zi274 1) rfl rfl (by decide) ?_
  refine X.iconst 3 (zi274 2) rfl rfl (by decide) ?_
  refine X.callv 6 [zi 0, zi 3] [] [(0, zr 4 44), (1, zi 0), (2, zi 3)] (zi274 3) rfl (by decide) rfl rfl (by omega) rfl rfl (by decide) rfl t270 (Nat.le_of_ble_eq_true rfl) (Nat.le_of_ble_eq_true rfl) rfl ?_
  refine c270_1 (B := B)  0 3 (by omega) (hJ.up (by omega)) (by omega) (by omega) (by omega) hf36 hf39 hg4 (fun v503 m501 hv503 hFv503 hJ502 hqv503_0 hqv503_1 hqv503_2 hqv503_3 => ?_)
  show X (EE s) d 274 6 [(0, zr 4 44)] [zi v503] m501 _
  refine X.istore_n 7 [(0, zr 4 44), (1, zi v503)] (zi274 6) rfl rfl rfl ?_
  refine X.aload_n 8 (zi274 7) rfl rfl rfl ?_
  refine X.getZ 11 9 (zi274 8) rfl rfl (by decide) rfl rfl rfl (fun h504 => ?_)
  refine X.ifne 32 14 (zi274 11) rfl rfl rfl (fun h505 => ?_) (fun h505 => ?_)
  · refine X.aload_n 33 (zi274 32) rfl rfl rfl ?_
    refine X.getF 36 (zi274 33) rfl rfl (by decide) rfl rfl ?_
    refine X.iload_n 37 (zi274 36) rfl rfl rfl ?_
    refine X.iconst 38 (zi274 37) rfl rfl (by decide) ?_
    refine X.zast' 39 (zi274 38) rfl rfl (by decide) rfl (by omega) (by omega) (fun hrm506 m506 hm506 => ?_)
    have hJ507 := w50_0 hJ502 hm506 (by omega) hrm506 hf39 hg4
    have wmm506_8 : m506 4 44 8 = m501 4 44 8 := by rw [hm506]; exact z_upd_o _ _ rfl
    have wmm506_9 : m506 4 44 9 = m501 4 44 9 := by rw [hm506]; exact z_upd_o _ _ rfl
    have wmm506_10 : m506 4 44 10 = m501 4 44 10 := by rw [hm506]; exact z_upd_o _ _ rfl
    refine X.aload_n 40 (zi274 39) rfl rfl rfl ?_
    refine X.getF 43 (zi274 40) rfl rfl (by decide) rfl rfl ?_
    refine X.sipush 46 (zi274 43) rfl rfl (by decide) ?_
    refine X.iload_n 47 (zi274 46) rfl rfl rfl ?_
    refine X.iadd 48 (zi274 47) rfl rfl (by omega) ?_
    refine X.aload_n 49 (zi274 48) rfl rfl rfl ?_
    refine X.iconst 50 (zi274 49) rfl rfl (by decide) ?_
    refine X.sipush 53 (zi274 50) rfl rfl (by decide) ?_
    refine X.callv 56 [zi 0, zi 364] [zi (391 + v503), zr 4 45] [(0, zr 4 44), (1, zi 0), (2, zi 364)] (zi274 53) rfl (by decide) rfl rfl (by omega) rfl rfl (by decide) rfl t270 (Nat.le_of_ble_eq_true rfl) (Nat.le_of_ble_eq_true rfl) rfl ?_
    refine c270_1 (B := B)  0 364 (by omega) (hJ507.up (by omega)) (by omega) (by omega) (by omega) hf36 hf39 hg4 (fun v510 m508 hv510 hFv510 hJ509 hqv510_0 hqv510_1 hqv510_2 hqv510_3 => ?_)
    show X (EE s) d 274 56 [(0, zr 4 44), (1, zi v503)] [zi v510, zi (391 + v503), zr 4 45] m508 _
    refine X.i2l 57 (zi274 56) rfl rfl ?_
    refine X.last' 58 (zi274 57) rfl rfl (by decide) rfl (by omega) (fun hrm511 m511 hm511 => ?_)
    have hJ512 := w45_391 hJ509 hm511 (by omega) (by omega) hf21 hg4
    have wmm511_8 : m511 4 44 8 = m508 4 44 8 := by rw [hm511]; exact z_upd_o _ _ rfl
    have wmm511_9 : m511 4 44 9 = m508 4 44 9 := by rw [hm511]; exact z_upd_o _ _ rfl
    have wmm511_10 : m511 4 44 10 = m508 4 44 10 := by rw [hm511]; exact z_upd_o _ _ rfl
    refine X.iconst 59 (zi274 58) rfl rfl (by decide) ?_
    refine X.istore_n 60 [(0, zr 4 44), (1, zi v503), (2, zi 0)] (zi274 59) rfl rfl rfl ?_
    have hz8 := zfu_eq 8
    refine l274_60_1 (s := s) (d := d) (R0 := (f274_1 m))  v503 (m511 4 44 8) (m511 4 44 9) (BE := B + 0) (by omega) (by omega) (by omega) hf21 hf36 hf39 hg4 (fun  m513 B514 hJ515 hBB514 hrlm513_0 hrlm513_1 hR516 => ?_) (zfu 8) 0 m511 (B) (hJ512.up (by omega)) (by omega) (by omega) (by omega) (by omega) (by omega) (Eq.trans (zb_eq hFv503) (Eq.trans (if_neg h505) (Eq.trans (zs_eq hm506) (Eq.trans (zb_eq hFv510) (Eq.trans (zs_eq hm511) rfl)))))
    refine X.retv (zi274 95) rfl t274 ?_
    exact hQ  m513  (Eq.trans hR516 rfl) (hJ515.up (by omega)) (by omega) (by omega)
  · refine X.aload_n 15 (zi274 14) rfl rfl rfl ?_
    refine X.getF 18 (zi274 15) rfl rfl (by decide) rfl rfl ?_
    refine X.iload_n 19 (zi274 18) rfl rfl rfl ?_
    refine X.zald 20 (zi274 19) rfl rfl (by decide) rfl (by omega) (fun h517 => ?_)
    refine X.ifeq 32 23 (zi274 20) rfl rfl rfl (fun h518 => ?_) (fun h518 => ?_)
    · refine X.aload_n 33 (zi274 32) rfl rfl rfl ?_
      refine X.getF 36 (zi274 33) rfl rfl (by decide) rfl rfl ?_
      refine X.iload_n 37 (zi274 36) rfl rfl rfl ?_
      refine X.iconst 38 (zi274 37) rfl rfl (by decide) ?_
      refine X.zast' 39 (zi274 38) rfl rfl (by decide) rfl (by omega) (by omega) (fun hrm519 m519 hm519 => ?_)
      have hJ520 := w50_0 hJ502 hm519 (by omega) hrm519 hf39 hg4
      have wmm519_8 : m519 4 44 8 = m501 4 44 8 := by rw [hm519]; exact z_upd_o _ _ rfl
      have wmm519_9 : m519 4 44 9 = m501 4 44 9 := by rw [hm519]; exact z_upd_o _ _ rfl
      have wmm519_10 : m519 4 44 10 = m501 4 44 10 := by rw [hm519]; exact z_upd_o _ _ rfl
      refine X.aload_n 40 (zi274 39) rfl rfl rfl ?_
      refine X.getF 43 (zi274 40) rfl rfl (by decide) rfl rfl ?_
      refine X.sipush 46 (zi274 43) rfl rfl (by decide) ?_
      refine X.iload_n 47 (zi274 46) rfl rfl rfl ?_
      refine X.iadd 48 (zi274 47) rfl rfl (by omega) ?_
      refine X.aload_n 49 (zi274 48) rfl rfl rfl ?_
      refine X.iconst 50 (zi274 49) rfl rfl (by decide) ?_
      refine X.sipush 53 (zi274 50) rfl rfl (by decide) ?_
      refine X.callv 56 [zi 0, zi 364] [zi (391 + v503), zr 4 45] [(0, zr 4 44), (1, zi 0), (2, zi 364)] (zi274 53) rfl (by decide) rfl rfl (by omega) rfl rfl (by decide) rfl t270 (Nat.le_of_ble_eq_true rfl) (Nat.le_of_ble_eq_true rfl) rfl ?_
      refine c270_1 (B := B)  0 364 (by omega) (hJ520.up (by omega)) (by omega) (by omega) (by omega) hf36 hf39 hg4 (fun v523 m521 hv523 hFv523 hJ522 hqv523_0 hqv523_1 hqv523_2 hqv523_3 => ?_)
      show X (EE s) d 274 56 [(0, zr 4 44), (1, zi v503)] [zi v523, zi (391 + v503), zr 4 45] m521 _
      refine X.i2l 57 (zi274 56) rfl rfl ?_
      refine X.last' 58 (zi274 57) rfl rfl (by decide) rfl (by omega) (fun hrm524 m524 hm524 => ?_)
      have hJ525 := w45_391 hJ522 hm524 (by omega) (by omega) hf21 hg4
      have wmm524_8 : m524 4 44 8 = m521 4 44 8 := by rw [hm524]; exact z_upd_o _ _ rfl
      have wmm524_9 : m524 4 44 9 = m521 4 44 9 := by rw [hm524]; exact z_upd_o _ _ rfl
      have wmm524_10 : m524 4 44 10 = m521 4 44 10 := by rw [hm524]; exact z_upd_o _ _ rfl
      refine X.iconst 59 (zi274 58) rfl rfl (by decide) ?_
      refine X.istore_n 60 [(0, zr 4 44), (1, zi v503), (2, zi 0)] (zi274 59) rfl rfl rfl ?_
      have hz8 := zfu_eq 8
      refine l274_60_1 (s := s) (d := d) (R0 := (f274_1 m))  v503 (m524 4 44 8) (m524 4 44 9) (BE := B + 0) (by omega) (by omega) (by omega) hf21 hf36 hf39 hg4 (fun  m526 B527 hJ528 hBB527 hrlm526_0 hrlm526_1 hR529 => ?_) (zfu 8) 0 m524 (B) (hJ525.up (by omega)) (by omega) (by omega) (by omega) (by omega) (by omega) (Eq.trans (zb_eq hFv503) (Eq.trans (if_pos h505) (Eq.trans (if_pos h518) (Eq.trans (zs_eq hm519) (Eq.trans (zb_eq hFv523) (Eq.trans (zs_eq hm524) rfl))))))
      refine X.retv (zi274 95) rfl t274 ?_
      exact hQ  m526  (Eq.trans hR529 rfl) (hJ528.up (by omega)) (by omega) (by omega)
    · refine X.aload_n 24 (zi274 23) rfl rfl rfl ?_
      refine X.iconst 25 (zi274 24) rfl rfl (by decide) ?_
      refine X.aload_n 26 (zi274 25) rfl rfl rfl ?_
      refine X.getIr 29 10 (zi274 26) rfl rfl (by decide) rfl rfl rfl (fun h530 => ?_)
      refine X.callv 32 [zi 3, zi (m501 4 44 10)] [] [(0, zr 4 44), (1, zi 3), (2, zi (m501 4 44 10))] (zi274 29) rfl (by decide) rfl rfl (by omega) rfl rfl (by decide) rfl t268 (Nat.le_of_ble_eq_true rfl) (Nat.le_of_ble_eq_true rfl) rfl ?_
      refine c268_3 (B := B)  3 (m501 4 44 10) (by omega) (hJ502.up (by omega)) (by omega) (by omega) (by omega) hf36 hf39 hg4 (fun m531 hFv533 hJ532 hqv533_0 hqv533_1 hqv533_2 => ?_)
      show X (EE s) d 274 32 [(0, zr 4 44), (1, zi v503)] [] m531 _
      refine X.aload_n 33 (zi274 32) rfl rfl rfl ?_
      refine X.getF 36 (zi274 33) rfl rfl (by decide) rfl rfl ?_
      refine X.iload_n 37 (zi274 36) rfl rfl rfl ?_
      refine X.iconst 38 (zi274 37) rfl rfl (by decide) ?_
      refine X.zast' 39 (zi274 38) rfl rfl (by decide) rfl (by omega) (by omega) (fun hrm534 m534 hm534 => ?_)
      have hJ535 := w50_0 hJ532 hm534 (by omega) hrm534 hf39 hg4
      have wmm534_8 : m534 4 44 8 = m531 4 44 8 := by rw [hm534]; exact z_upd_o _ _ rfl
      have wmm534_9 : m534 4 44 9 = m531 4 44 9 := by rw [hm534]; exact z_upd_o _ _ rfl
      have wmm534_10 : m534 4 44 10 = m531 4 44 10 := by rw [hm534]; exact z_upd_o _ _ rfl
      refine X.aload_n 40 (zi274 39) rfl rfl rfl ?_
      refine X.getF 43 (zi274 40) rfl rfl (by decide) rfl rfl ?_
      refine X.sipush 46 (zi274 43) rfl rfl (by decide) ?_
      refine X.iload_n 47 (zi274 46) rfl rfl rfl ?_
      refine X.iadd 48 (zi274 47) rfl rfl (by omega) ?_
      refine X.aload_n 49 (zi274 48) rfl rfl rfl ?_
      refine X.iconst 50 (zi274 49) rfl rfl (by decide) ?_
      refine X.sipush 53 (zi274 50) rfl rfl (by decide) ?_
      refine X.callv 56 [zi 0, zi 364] [zi (391 + v503), zr 4 45] [(0, zr 4 44), (1, zi 0), (2, zi 364)] (zi274 53) rfl (by decide) rfl rfl (by omega) rfl rfl (by decide) rfl t270 (Nat.le_of_ble_eq_true rfl) (Nat.le_of_ble_eq_true rfl) rfl ?_
      refine c270_1 (B := B)  0 364 (by omega) (hJ535.up (by omega)) (by omega) (by omega) (by omega) hf36 hf39 hg4 (fun v538 m536 hv538 hFv538 hJ537 hqv538_0 hqv538_1 hqv538_2 hqv538_3 => ?_)
      show X (EE s) d 274 56 [(0, zr 4 44), (1, zi v503)] [zi v538, zi (391 + v503), zr 4 45] m536 _
      refine X.i2l 57 (zi274 56) rfl rfl ?_
      refine X.last' 58 (zi274 57) rfl rfl (by decide) rfl (by omega) (fun hrm539 m539 hm539 => ?_)
      have hJ540 := w45_391 hJ537 hm539 (by omega) (by omega) hf21 hg4
      have wmm539_8 : m539 4 44 8 = m536 4 44 8 := by rw [hm539]; exact z_upd_o _ _ rfl
      have wmm539_9 : m539 4 44 9 = m536 4 44 9 := by rw [hm539]; exact z_upd_o _ _ rfl
      have wmm539_10 : m539 4 44 10 = m536 4 44 10 := by rw [hm539]; exact z_upd_o _ _ rfl
      refine X.iconst 59 (zi274 58) rfl rfl (by decide) ?_
      refine X.istore_n 60 [(0, zr 4 44), (1, zi v503), (2, zi 0)] (zi274 59) rfl rfl rfl ?_
      have hz8 := zfu_eq 8
      refine l274_60_1 (s := s) (d := d) (R0 := (f274_1 m))  v503 (m539 4 44 8) (m539 4 44 9) (BE := B + 0) (by omega) (by omega) (by omega) hf21 hf36 hf39 hg4 (fun  m541 B542 hJ543 hBB542 hrlm541_0 hrlm541_1 hR544 => ?_) (zfu 8) 0 m539 (B) (hJ540.up (by omega)) (by omega) (by omega) (by omega) (by omega) (by omega) (Eq.trans (zb_eq hFv503) (Eq.trans (if_pos h505) (Eq.trans (if_neg h518) (Eq.trans (zs_eq hFv533.symm) (Eq.trans (zs_eq hm534) (Eq.trans (zb_eq hFv538) (Eq.trans (zs_eq hm539) rfl)))))))
      refine X.retv (zi274 95) rfl t274 ?_
      exact hQ  m541  (Eq.trans hR544 rfl) (hJ543.up (by omega)) (by omega) (by omega)
-- WorkMeterModel.isDigitNext
noncomputable def f271_1 (m : zM) : Int × zM :=
  zs (f263_1 m) fun m501 =>
  if (m501 4 44 5) ≤ (m501 4 44 8) then
  ((0, m501))
  else
  (if (m501 4 48 (m501 4 44 8)) < 48 then
  ((0, m501))
  else
  (if (m501 4 48 (m501 4 44 8)) ≤ 57 then
  ((1, m501))
  else
  ((0, m501))))
-- WorkMeterModel.isDigitNext
theorem c271_1 {s : Nat × (Nat → Int32)} {S : zS} {m0 m : zM} {B : Int} {d : Nat} {Q : Option zV → zM → Prop} (hd : 14 ≤ d) (hJ : J S m0 B m) (hB : B + 0 ≤ 1000000000) (hf39 : ¬ S.1 39) (hg4 : ¬ S.2.1 4) (hQ : ∀ (v : Int) m', (0 ≤ v ∧ v ≤ 1) → f271_1 m = (v, m') → J S m0 (B) m' → (m 4 44 8 ≤ m' 4 44 8) → (m 4 44 9 ≤ m' 4 44 9) → Q (some (zi v)) m') : X (EE s) d 271 0 [(0, zr 4 44)] [] m Q := by
  refine X.aload_n 1 (zi271 0) rfl rfl rfl ?_
  refine X.callv 4 [] [] [(0, zr 4 44)] (zi271 1) rfl (by decide) rfl rfl (by omega) rfl rfl (by decide) rfl t263 (Nat.le_of_ble_eq_true rfl) (Nat.le_of_ble_eq_true rfl) rfl ?_
  refine c263_1 (B := B)   (by omega) (hJ.up (by omega)) (by omega)  hf39 hg4 (fun m501 hFv503 hJ502 hqv503_0 hqv503_1 => ?_)
  show X (EE s) d 271 4 [(0, zr 4 44)] [] m501 _
  refine X.aload_n 5 (zi271 4) rfl rfl rfl ?_
  refine X.getI 8 8 (zi271 5) rfl rfl (by decide) rfl rfl rfl ?_
  have h504 := r44_8 hJ502 4
  refine X.aload_n 9 (zi271 8) rfl rfl rfl ?_
  refine X.getI 12 5 (zi271 9) rfl rfl (by decide) rfl rfl rfl ?_
  have h505 := r44_5 hJ502 4
  refine X.icmpge 41 15 (zi271 12) rfl rfl rfl (fun h506 => ?_) (fun h506 => ?_)
  · refine X.cut [] (zi271 41) rfl ?_
    refine X.iconst 42 (zi271 41) rfl rfl (by decide) ?_
    refine X.retz (zi271 42) rfl t271 (by omega) ?_
    exact hQ 0 m501 (by first | trivial | omega) (Eq.trans (zs_eq hFv503.symm) (Eq.trans (if_pos h506) rfl)) (hJ502.up (by omega)) (by omega) (by omega)
  · refine X.aload_n 16 (zi271 15) rfl rfl rfl ?_
    refine X.getF 19 (zi271 16) rfl rfl (by decide) rfl rfl ?_
    refine X.aload_n 20 (zi271 19) rfl rfl rfl ?_
    refine X.getI 23 8 (zi271 20) rfl rfl (by decide) rfl rfl rfl ?_
    refine X.bald 24 (zi271 23) rfl rfl (by decide) rfl (by omega) (fun h507 => ?_)
    refine X.i2l 25 (zi271 24) rfl rfl ?_
    refine X.ldc2 28 (zi271 25) rfl rfl (by decide) ?_
    refine X.ldc2 31 (zi271 28) rfl rfl (by decide) ?_
    refine X.calls 34 [zl (m501 4 48 (m501 4 44 8)), zl 48, zl 57] [] [(0, zl (m501 4 48 (m501 4 44 8))), (2, zl 48), (4, zl 57)] (zi271 31) (by decide) rfl rfl (by omega) rfl rfl t204 (Nat.le_of_ble_eq_true rfl) (Nat.le_of_ble_eq_true rfl) rfl ?_
    refine X.lload_n 1 (zi204 0) rfl rfl rfl ?_
    refine X.lload_n 2 (zi204 1) rfl rfl rfl ?_
    refine X.lcmp 3 (zi204 2) rfl rfl (fun z508 hz508 => ?_)
    refine X.iflt 17 6 (zi204 3) rfl rfl rfl (fun h509 => ?_) (fun h509 => ?_)
    · have h509c : (m501 4 48 (m501 4 44 8)) < 48 := by omega
      clear h509 hz508
      refine X.cut [] (zi204 17) rfl ?_
      refine X.iconst 18 (zi204 17) rfl rfl (by decide) ?_
      refine X.retz (zi204 18) rfl t204 (by omega) ?_
      show X (EE s) d 271 34 [(0, zr 4 44)] [zi 0] m501 _
      refine X.ifeq 41 37 (zi271 34) rfl rfl rfl (fun h510 => ?_) (fun h510 => (by exfalso; omega))
      refine X.cut [] (zi271 41) rfl ?_
      refine X.iconst 42 (zi271 41) rfl rfl (by decide) ?_
      refine X.retz (zi271 42) rfl t271 (by omega) ?_
      exact hQ 0 m501 (by first | trivial | omega) (Eq.trans (zs_eq hFv503.symm) (Eq.trans (if_neg h506) (Eq.trans (if_pos h509c) rfl))) (hJ502.up (by omega)) (by omega) (by omega)
    · have h509c : ¬ (m501 4 48 (m501 4 44 8)) < 48 := by omega
      clear h509 hz508
      refine X.lload_n 7 (zi204 6) rfl rfl rfl ?_
      refine X.lload 9 (zi204 7) rfl rfl rfl ?_
      refine X.lcmp 10 (zi204 9) rfl rfl (fun z511 hz511 => ?_)
      refine X.ifgt 17 13 (zi204 10) rfl rfl rfl (fun h512 => ?_) (fun h512 => ?_)
      · have h512c : ¬ (m501 4 48 (m501 4 44 8)) ≤ 57 := by omega
        clear h512 hz511
        refine X.cut [] (zi204 17) rfl ?_
        refine X.iconst 18 (zi204 17) rfl rfl (by decide) ?_
        refine X.retz (zi204 18) rfl t204 (by omega) ?_
        show X (EE s) d 271 34 [(0, zr 4 44)] [zi 0] m501 _
        refine X.ifeq 41 37 (zi271 34) rfl rfl rfl (fun h513 => ?_) (fun h513 => (by exfalso; omega))
        refine X.cut [] (zi271 41) rfl ?_
        refine X.iconst 42 (zi271 41) rfl rfl (by decide) ?_
        refine X.retz (zi271 42) rfl t271 (by omega) ?_
        exact hQ 0 m501 (by first | trivial | omega) (Eq.trans (zs_eq hFv503.symm) (Eq.trans (if_neg h506) (Eq.trans (if_neg h509c) (Eq.trans (if_neg h512c) rfl)))) (hJ502.up (by omega)) (by omega) (by omega)
      · have h512c : (m501 4 48 (m501 4 44 8)) ≤ 57 := by omega
        clear h512 hz511
        refine X.iconst 14 (zi204 13) rfl rfl (by decide) ?_
        refine X.goto 18 (zi204 14) rfl rfl ?_
        refine X.cut [] (zi204 18) rfl ?_
        refine X.retz (zi204 18) rfl t204 (by omega) ?_
        show X (EE s) d 271 34 [(0, zr 4 44)] [zi 1] m501 _
        refine X.ifeq 41 37 (zi271 34) rfl rfl rfl (fun h514 => (by exfalso; omega)) (fun h514 => ?_)
        refine X.iconst 38 (zi271 37) rfl rfl (by decide) ?_
        refine X.goto 42 (zi271 38) rfl rfl ?_
        refine X.cut [] (zi271 42) rfl ?_
        refine X.retz (zi271 42) rfl t271 (by omega) ?_
        exact hQ 1 m501 (by first | trivial | omega) (Eq.trans (zs_eq hFv503.symm) (Eq.trans (if_neg h506) (Eq.trans (if_neg h509c) (Eq.trans (if_pos h512c) rfl)))) (hJ502.up (by omega)) (by omega) (by omega)
end
