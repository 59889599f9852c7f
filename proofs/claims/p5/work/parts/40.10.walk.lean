-- WorkMeter$CalendarText.readSeason
theorem c106_1 {s : Nat × (Nat → Int32)} {S : zS} {m0 m : zM} {B : Int} {d : Nat} {Q : Option zV → zM → Prop} (hd : 16 ≤ d) (hJ : J S m0 B m) (hB : B + 0 ≤ 1000000000) (hp0 : m 4 41 7 + 6 ≤ 300) (hf1 : ¬ S.1 1) (hf16 : ¬ S.1 16) (hf19 : ¬ S.1 19) (hg3 : ¬ S.2.1 3) (hg4 : ¬ S.2.1 4) (hQ : ∀ (v : Int) m', (0 ≤ v ∧ v ≤ 1) → f106_1 m = (v, m') → J S m0 (B) m' → Q (some (zi v)) m') : X (EE s) d 106 0 [(0, zr 4 41)] [] m Q := by
  refine X.aload_n 1 i106_0 rfl rfl rfl ?_
  refine X.ldcS 3 i106_1 rfl rfl (by decide) ?_
  refine X.callv 6 [zr 99 5] [] [(0, zr 4 41), (1, zr 99 5)] i106_3 rfl (by decide) rfl rfl (by omega) rfl rfl (by decide) rfl t98 (Nat.le_of_ble_eq_true rfl) (Nat.le_of_ble_eq_true rfl) rfl ?_
  refine X.aload_n 1 i98_0 rfl rfl rfl ?_
  refine X.dup 2 i98_1 rfl rfl rfl ?_
  refine X.getI 5 7 i98_2 rfl rfl (by decide) rfl rfl rfl ?_
  have h501 := r41_7 hJ 4
  refine X.aload_n 6 i98_5 rfl rfl rfl ?_
  refine X.slen 9 i98_6 rfl rfl (by omega) (Nat.le_of_ble_eq_true rfl) (by decide) (show (6 : Nat) < 2147483648 by decide) ?_
  show X (EE s) (d - 1) 98 9 [(0, zr 4 41), (1, zr 99 5)] [zi 6, zi (m 4 41 7), zr 4 41] m _
  refine X.iadd 10 i98_9 rfl rfl (by omega) ?_
  refine X.putI' 13 7 i98_10 rfl rfl (by decide) rfl rfl rfl (fun hrm502 m502 hm502 => ?_)
  have hJ503 := w41_7 hJ hm502 (by omega) hf19 hg4
  have em502 : m502 4 41 7 = ((m 4 41 7) + 6) := by rw [hm502]; exact z_upd_same _ _ _ _ _
  refine X.retv i98_13 rfl t98 ?_
  show X (EE s) d 106 6 [(0, zr 4 41)] [] m502 _
  refine X.aload_n 7 i106_6 rfl rfl rfl ?_
  refine X.iconst 8 i106_7 rfl rfl (by decide) ?_
  refine X.aload_n 9 i106_8 rfl rfl rfl ?_
  refine X.getIr 12 10 i106_9 rfl rfl (by decide) rfl rfl rfl (fun h504 => ?_)
  refine X.callv 15 [zi 3, zi (m502 4 41 10)] [] [(0, zr 4 41), (1, zi 3), (2, zi (m502 4 41 10))] i106_12 rfl (by decide) rfl rfl (by omega) rfl rfl (by decide) rfl t99 (Nat.le_of_ble_eq_true rfl) (Nat.le_of_ble_eq_true rfl) rfl ?_
  refine c99_1 (B := B)  3 (m502 4 41 10) (by omega) (hJ503.up (by omega)) (by omega) (by omega) (by omega) hf16 hf19 hg4 (fun v507 m505 hv507 hFv507 hJ506 hqv507_0 => ?_)
  show X (EE s) d 106 15 [(0, zr 4 41)] [zi v507] m505 _
  refine X.istore_n 16 [(0, zr 4 41), (1, zi v507)] i106_15 rfl rfl rfl ?_
  refine X.iload_n 17 i106_16 rfl rfl rfl ?_
  refine X.iconst 18 i106_17 rfl rfl (by decide) ?_
  refine X.icmpne 23 21 i106_18 rfl rfl rfl (fun h508 => ?_) (fun h508 => ?_)
  · refine X.aload_n 24 i106_23 rfl rfl rfl ?_
    refine X.dup 25 i106_24 rfl rfl rfl ?_
    refine X.getIr 28 10 i106_25 rfl rfl (by decide) rfl rfl rfl (fun h509 => ?_)
    refine X.iconst 29 i106_28 rfl rfl (by decide) ?_
    refine X.iload_n 30 i106_29 rfl rfl rfl ?_
    refine X.iiE 31 .ishl (fun x y => x <<< (y &&& 31)) i106_30 rfl rfl rfl (fun _ _ => rfl) (fun z510 ez510 hz510 => ?_)
    refine X.iiE 32 .ior (fun x y => x ||| y) i106_31 rfl rfl rfl (fun _ _ => rfl) (fun z511 ez511 hz511 => ?_)
    refine X.putI' 35 10 i106_32 rfl rfl (by decide) rfl rfl rfl (fun hrm512 m512 hm512 => ?_)
    have hJ513 := w41_8 hJ506 hm512 (by omega) hrm512 hf19 hg4
    refine X.aload_n 36 i106_35 rfl rfl rfl ?_
    refine X.sipush 39 i106_36 rfl rfl (by decide) ?_
    refine X.callv 42 [zi 364] [] [(0, zr 4 41), (1, zi 364)] i106_39 rfl (by decide) rfl rfl (by omega) rfl rfl (by decide) rfl t100 (Nat.le_of_ble_eq_true rfl) (Nat.le_of_ble_eq_true rfl) rfl ?_
    refine c100_1 (B := B)  364 (by omega) (hJ513.up (by omega)) (by omega) (by omega) hf16 hf19 hg4 (fun v516 m514 hv516 hFv516 hJ515 hqv516_0 => ?_)
    show X (EE s) d 106 42 [(0, zr 4 41), (1, zi v507)] [zi v516] m514 _
    refine X.istore_n 43 [(0, zr 4 41), (1, zi v507), (2, zi v516)] i106_42 rfl rfl rfl ?_
    refine X.iload_n 44 i106_43 rfl rfl rfl ?_
    refine X.iconst 45 i106_44 rfl rfl (by decide) ?_
    refine X.icmpne 50 48 i106_45 rfl rfl rfl (fun h517 => ?_) (fun h517 => ?_)
    · refine X.aload_n 51 i106_50 rfl rfl rfl ?_
      refine X.getF 54 i106_51 rfl rfl (by decide) rfl rfl ?_
      refine X.getR 57 i106_54 rfl rfl (by decide) rfl rfl ?_
      refine X.iload_n 58 i106_57 rfl rfl rfl ?_
      refine X.iload_n 59 i106_58 rfl rfl rfl ?_
      refine X.iast' 60 i106_59 rfl rfl (by decide) rfl (by omega) (fun hrm518 m518 hm518 => ?_)
      have hJ519 := w15_0 hJ515 hm518 (by omega) (by omega) hf1 hg3
      refine X.iconst 61 i106_60 rfl rfl (by decide) ?_
      refine X.istore_n 62 [(0, zr 4 41), (1, zi v507), (2, zi v516), (3, zi 0)] i106_61 rfl rfl rfl ?_
      refine X.cut [(0, zr 4 41), (1, zi v507), (3, zi 0)] i106_62 rfl ?_
      have hz8 := zfu_eq 8
      refine l106_62_1 (s := s) (d := d) (R0 := (f106_1 m))  v507  (BE := B + 0) (by omega) (by omega) (by omega) hf1 hf16 hf19 hg3 hg4 (fun y520 y521 m522 B523 hJ524 hBB523 hby520 hby521 hR525 => ?_) (fun  m526 B527 hJ528 hBB527 hR529 => ?_) (zfu 8) 0 m518 (B) (hJ519.up (by omega)) (by omega) (by omega) (by omega) (Eq.trans (zs_eq hm502) (Eq.trans (zb_eq hFv507) (Eq.trans (if_neg h508) (Eq.trans (zn_eq ez510) (Eq.trans (zn_eq ez511) (Eq.trans (zs_eq hm512) (Eq.trans (zb_eq hFv516) (Eq.trans (if_neg h517) (Eq.trans (zs_eq hm518) rfl)))))))))
      · refine X.iconst 83 i106_82 rfl rfl (by decide) ?_
        refine X.retz i106_83 rfl t106 (by omega) ?_
        exact hQ 0 m522 (by first | trivial | omega) (Eq.trans hR525 rfl) (hJ524.up (by omega)) 
      · refine X.iconst 107 i106_106 rfl rfl (by decide) ?_
        refine X.retz i106_107 rfl t106 (by omega) ?_
        exact hQ 1 m526 (by first | trivial | omega) (Eq.trans hR529 rfl) (hJ528.up (by omega)) 
    · refine X.iconst 49 i106_48 rfl rfl (by decide) ?_
      refine X.retz i106_49 rfl t106 (by omega) ?_
      exact hQ 0 m514 (by first | trivial | omega) (Eq.trans (zs_eq hm502) (Eq.trans (zb_eq hFv507) (Eq.trans (if_neg h508) (Eq.trans (zn_eq ez510) (Eq.trans (zn_eq ez511) (Eq.trans (zs_eq hm512) (Eq.trans (zb_eq hFv516) (Eq.trans (if_pos h517) rfl)))))))) (hJ515.up (by omega)) 
  · refine X.iconst 22 i106_21 rfl rfl (by decide) ?_
    refine X.retz i106_22 rfl t106 (by omega) ?_
    exact hQ 0 m505 (by first | trivial | omega) (Eq.trans (zs_eq hm502) (Eq.trans (zb_eq hFv507) (Eq.trans (if_pos h508) rfl))) (hJ506.up (by omega)) 
-- WorkMeter$CalendarText.digitHere
noncomputable def f103_1 (m : zM) : Int × zM :=
  zs (f93_1 m) fun m501 =>
  zn (if (m501 4 41 3) ≤ (m501 4 41 7) then
  (0)
  else
  (if (m501 4 42 (m501 4 41 7)) < 48 then
  (0)
  else
  (if 57 < (m501 4 42 (m501 4 41 7)) then
  (0)
  else
  (1)))) fun v513 =>
  (v513, m501)
-- WorkMeter$CalendarText.digitHere
theorem c103_1 {s : Nat × (Nat → Int32)} {S : zS} {m0 m : zM} {B : Int} {d : Nat} {Q : Option zV → zM → Prop} (hd : 14 ≤ d) (hJ : J S m0 B m) (hB : B + 0 ≤ 1000000000) (hf19 : ¬ S.1 19) (hg4 : ¬ S.2.1 4) (hQ : ∀ (v : Int) m', (0 ≤ v ∧ v ≤ 1) → f103_1 m = (v, m') → J S m0 (B) m' → Q (some (zi v)) m') : X (EE s) d 103 0 [(0, zr 4 41)] [] m Q := by
  refine X.aload_n 1 i103_0 rfl rfl rfl ?_
  refine X.callv 4 [] [] [(0, zr 4 41)] i103_1 rfl (by decide) rfl rfl (by omega) rfl rfl (by decide) rfl t93 (Nat.le_of_ble_eq_true rfl) (Nat.le_of_ble_eq_true rfl) rfl ?_
  refine c93_1 (B := B)   (by omega) (hJ.up (by omega)) (by omega)  hf19 hg4 (fun m501 hFv503 hJ502 => ?_)
  show X (EE s) d 103 4 [(0, zr 4 41)] [] m501 _
  refine X.aload_n 5 i103_4 rfl rfl rfl ?_
  refine X.getI 8 7 i103_5 rfl rfl (by decide) rfl rfl rfl ?_
  have h504 := r41_7 hJ502 4
  refine X.aload_n 9 i103_8 rfl rfl rfl ?_
  refine X.getI 12 3 i103_9 rfl rfl (by decide) rfl rfl rfl ?_
  have h505 := r41_3 hJ502 4
  have hK516 : ∀ (v : Int) , (0 ≤ v ∧ v ≤ 1) → (if (m501 4 41 3) ≤ (m501 4 41 7) then
      (0)
      else
      (if (m501 4 42 (m501 4 41 7)) < 48 then
      (0)
      else
      (if 57 < (m501 4 42 (m501 4 41 7)) then
      (0)
      else
      (1)))) = v → X (EE s) d 103 35 [] [zi v] m501 Q := by
    intro v513 hv513 hT517
    refine X.retz i103_35 rfl t103 (by omega) ?_
    exact hQ v513 m501 (by first | trivial | omega) (Eq.trans (zs_eq hFv503.symm) (Eq.trans (zn_eq hT517.symm) rfl)) (hJ502.up (by omega)) 
  refine X.icmpge 34 15 i103_12 rfl rfl rfl (fun h506 => ?_) (fun h506 => ?_)
  · refine X.cut [] i103_34 rfl ?_
    refine X.iconst 35 i103_34 rfl rfl (by decide) ?_
    exact hK516 0 (by first | trivial | omega) (Eq.trans (if_pos h506) rfl)
  · refine X.aload_n 16 i103_15 rfl rfl rfl ?_
    refine X.getF 19 i103_16 rfl rfl (by decide) rfl rfl ?_
    refine X.aload_n 20 i103_19 rfl rfl rfl ?_
    refine X.getI 23 7 i103_20 rfl rfl (by decide) rfl rfl rfl ?_
    refine X.iald 24 i103_23 rfl rfl (by decide) rfl (by omega) ?_
    have h507 := r42_0 hJ502 4 (i := (m501 4 41 7)) (by omega)
    refine X.calls 27 [zi (m501 4 42 (m501 4 41 7))] [] [(0, zi (m501 4 42 (m501 4 41 7)))] i103_24 (by decide) rfl rfl (by omega) rfl rfl t101 (Nat.le_of_ble_eq_true rfl) (Nat.le_of_ble_eq_true rfl) rfl ?_
    refine X.iload_n 1 i101_0 rfl rfl rfl ?_
    refine X.bipush 3 i101_1 rfl rfl (by decide) ?_
    refine X.icmplt 16 6 i101_3 rfl rfl rfl (fun h508 => ?_) (fun h508 => ?_)
    · refine X.cut [] i101_16 rfl ?_
      refine X.iconst 17 i101_16 rfl rfl (by decide) ?_
      refine X.retz i101_17 rfl t101 (by omega) ?_
      show X (EE s) d 103 27 [(0, zr 4 41)] [zi 0] m501 _
      refine X.ifeq 34 30 i103_27 rfl rfl rfl (fun h509 => ?_) (fun h509 => (by exfalso; omega))
      refine X.cut [] i103_34 rfl ?_
      refine X.iconst 35 i103_34 rfl rfl (by decide) ?_
      exact hK516 0 (by first | trivial | omega) (Eq.trans (if_neg h506) (Eq.trans (if_pos h508) rfl))
    · refine X.iload_n 7 i101_6 rfl rfl rfl ?_
      refine X.bipush 9 i101_7 rfl rfl (by decide) ?_
      refine X.icmpgt 16 12 i101_9 rfl rfl rfl (fun h510 => ?_) (fun h510 => ?_)
      · refine X.cut [] i101_16 rfl ?_
        refine X.iconst 17 i101_16 rfl rfl (by decide) ?_
        refine X.retz i101_17 rfl t101 (by omega) ?_
        show X (EE s) d 103 27 [(0, zr 4 41)] [zi 0] m501 _
        refine X.ifeq 34 30 i103_27 rfl rfl rfl (fun h511 => ?_) (fun h511 => (by exfalso; omega))
        refine X.cut [] i103_34 rfl ?_
        refine X.iconst 35 i103_34 rfl rfl (by decide) ?_
        exact hK516 0 (by first | trivial | omega) (Eq.trans (if_neg h506) (Eq.trans (if_neg h508) (Eq.trans (if_pos h510) rfl)))
      · refine X.iconst 13 i101_12 rfl rfl (by decide) ?_
        refine X.goto 17 i101_13 rfl rfl ?_
        refine X.cut [] i101_17 rfl ?_
        refine X.retz i101_17 rfl t101 (by omega) ?_
        show X (EE s) d 103 27 [(0, zr 4 41)] [zi 1] m501 _
        refine X.ifeq 34 30 i103_27 rfl rfl rfl (fun h512 => (by exfalso; omega)) (fun h512 => ?_)
        refine X.iconst 31 i103_30 rfl rfl (by decide) ?_
        refine X.goto 35 i103_31 rfl rfl ?_
        refine X.cut [] i103_35 rfl ?_
        exact hK516 1 (by first | trivial | omega) (Eq.trans (if_neg h506) (Eq.trans (if_neg h508) (Eq.trans (if_neg h510) rfl)))
-- WorkMeter$CalendarText.readSign
noncomputable def f105_1 (a1 : Int) (m : zM) : Int × zM :=
  zs (f93_1 m) fun m501 =>
  if (m501 4 41 3) ≤ (m501 4 41 7) then
  (zb (f102_1 1 (m501 4 41 7) m501) fun v509 m507 =>
  (v509, m507))
  else
  (if (m501 4 42 (m501 4 41 7)) = a1 then
  (zs (z_upd m501 4 41 7 ((m501 4 41 7) + 1)) fun m512 =>
  (1, m512))
  else
  (zb (f102_1 1 (m501 4 41 7) m501) fun v516 m514 =>
  (v516, m514)))
-- WorkMeter$CalendarText.readSign
theorem c105_1 {s : Nat × (Nat → Int32)} {S : zS} {m0 m : zM} {B : Int} {d : Nat} {Q : Option zV → zM → Prop} (a1 : Int) (hd : 14 ≤ d) (hJ : J S m0 B m) (hB : B + 0 ≤ 1000000000) (ha1 : 58 ≤ a1 ∧ a1 ≤ 58) (hf16 : ¬ S.1 16) (hf19 : ¬ S.1 19) (hg4 : ¬ S.2.1 4) (hQ : ∀ (v : Int) m', (0 ≤ v ∧ v ≤ 1) → f105_1 a1 m = (v, m') → J S m0 (B) m' → Q (some (zi v)) m') : X (EE s) d 105 0 [(0, zr 4 41), (1, zi a1)] [] m Q := by
  refine X.aload_n 1 i105_0 rfl rfl rfl ?_
  refine X.callv 4 [] [] [(0, zr 4 41)] i105_1 rfl (by decide) rfl rfl (by omega) rfl rfl (by decide) rfl t93 (Nat.le_of_ble_eq_true rfl) (Nat.le_of_ble_eq_true rfl) rfl ?_
  refine c93_1 (B := B)   (by omega) (hJ.up (by omega)) (by omega)  hf19 hg4 (fun m501 hFv503 hJ502 => ?_)
  show X (EE s) d 105 4 [(0, zr 4 41), (1, zi a1)] [] m501 _
  refine X.aload_n 5 i105_4 rfl rfl rfl ?_
  refine X.getI 8 7 i105_5 rfl rfl (by decide) rfl rfl rfl ?_
  have h504 := r41_7 hJ502 4
  refine X.aload_n 9 i105_8 rfl rfl rfl ?_
  refine X.getI 12 3 i105_9 rfl rfl (by decide) rfl rfl rfl ?_
  have h505 := r41_3 hJ502 4
  refine X.icmpge 28 15 i105_12 rfl rfl rfl (fun h506 => ?_) (fun h506 => ?_)
  · refine X.cut [(0, zr 4 41)] i105_28 rfl ?_
    refine X.aload_n 29 i105_28 rfl rfl rfl ?_
    refine X.iconst 30 i105_29 rfl rfl (by decide) ?_
    refine X.aload_n 31 i105_30 rfl rfl rfl ?_
    refine X.getI 34 7 i105_31 rfl rfl (by decide) rfl rfl rfl ?_
    refine X.callv 37 [zi 1, zi (m501 4 41 7)] [] [(0, zr 4 41), (1, zi 1), (2, zi (m501 4 41 7))] i105_34 rfl (by decide) rfl rfl (by omega) rfl rfl (by decide) rfl t102 (Nat.le_of_ble_eq_true rfl) (Nat.le_of_ble_eq_true rfl) rfl ?_
    refine c102_1 (B := B)  1 (m501 4 41 7) (by omega) (hJ502.up (by omega)) (by omega) (by omega) (by omega) hf16 hg4 (fun v509 m507 hv509 hFv509 hJ508 => ?_)
    show X (EE s) d 105 37 [(0, zr 4 41)] [zi v509] m507 _
    refine X.retz i105_37 rfl t105 (by omega) ?_
    exact hQ v509 m507 (by first | trivial | omega) (Eq.trans (zs_eq hFv503.symm) (Eq.trans (if_pos h506) (Eq.trans (zb_eq hFv509) rfl))) (hJ508.up (by omega)) 
  · refine X.aload_n 16 i105_15 rfl rfl rfl ?_
    refine X.getF 19 i105_16 rfl rfl (by decide) rfl rfl ?_
    refine X.aload_n 20 i105_19 rfl rfl rfl ?_
    refine X.getI 23 7 i105_20 rfl rfl (by decide) rfl rfl rfl ?_
    refine X.iald 24 i105_23 rfl rfl (by decide) rfl (by omega) ?_
    have h510 := r42_0 hJ502 4 (i := (m501 4 41 7)) (by omega)
    refine X.iload_n 25 i105_24 rfl rfl rfl ?_
    refine X.icmpeq 38 28 i105_25 rfl rfl rfl (fun h511 => ?_) (fun h511 => ?_)
    · refine X.cut [(0, zr 4 41)] i105_38 rfl ?_
      refine X.aload_n 39 i105_38 rfl rfl rfl ?_
      refine X.dup 40 i105_39 rfl rfl rfl ?_
      refine X.getI 43 7 i105_40 rfl rfl (by decide) rfl rfl rfl ?_
      refine X.iconst 44 i105_43 rfl rfl (by decide) ?_
      refine X.iadd 45 i105_44 rfl rfl (by omega) ?_
      refine X.putI' 48 7 i105_45 rfl rfl (by decide) rfl rfl rfl (fun hrm512 m512 hm512 => ?_)
      have hJ513 := w41_7 hJ502 hm512 (by omega) hf19 hg4
      have em512 : m512 4 41 7 = ((m501 4 41 7) + 1) := by rw [hm512]; exact z_upd_same _ _ _ _ _
      refine X.iconst 49 i105_48 rfl rfl (by decide) ?_
      refine X.retz i105_49 rfl t105 (by omega) ?_
      exact hQ 1 m512 (by first | trivial | omega) (Eq.trans (zs_eq hFv503.symm) (Eq.trans (if_neg h506) (Eq.trans (if_pos h511) (Eq.trans (zs_eq hm512) rfl)))) (hJ513.up (by omega)) 
    · refine X.cut [(0, zr 4 41)] i105_28 rfl ?_
      refine X.aload_n 29 i105_28 rfl rfl rfl ?_
      refine X.iconst 30 i105_29 rfl rfl (by decide) ?_
      refine X.aload_n 31 i105_30 rfl rfl rfl ?_
      refine X.getI 34 7 i105_31 rfl rfl (by decide) rfl rfl rfl ?_
      refine X.callv 37 [zi 1, zi (m501 4 41 7)] [] [(0, zr 4 41), (1, zi 1), (2, zi (m501 4 41 7))] i105_34 rfl (by decide) rfl rfl (by omega) rfl rfl (by decide) rfl t102 (Nat.le_of_ble_eq_true rfl) (Nat.le_of_ble_eq_true rfl) rfl ?_
      refine c102_1 (B := B)  1 (m501 4 41 7) (by omega) (hJ502.up (by omega)) (by omega) (by omega) (by omega) hf16 hg4 (fun v516 m514 hv516 hFv516 hJ515 => ?_)
      show X (EE s) d 105 37 [(0, zr 4 41)] [zi v516] m514 _
      refine X.retz i105_37 rfl t105 (by omega) ?_
      exact hQ v516 m514 (by first | trivial | omega) (Eq.trans (zs_eq hFv503.symm) (Eq.trans (if_neg h506) (Eq.trans (if_neg h511) (Eq.trans (zb_eq hFv516) rfl)))) (hJ515.up (by omega)) 
-- WorkMeter$CalendarText.fail
theorem c102_6 {s : Nat × (Nat → Int32)} {S : zS} {m0 m : zM} {B : Int} {d : Nat} {Q : Option zV → zM → Prop} (a1 a2 : Int) (hd : 13 ≤ d) (hJ : J S m0 B m) (hB : B + 0 ≤ 1000000000) (ha1 : 4 ≤ a1 ∧ a1 ≤ 4) (ha2 : (-2147483648) ≤ a2 ∧ a2 ≤ 2147483647) (hf16 : ¬ S.1 16) (hg4 : ¬ S.2.1 4) (hQ : ∀ (v : Int) m', (0 ≤ v ∧ v ≤ 0) → f102_1 a1 a2 m = (v, m') → J S m0 (B) m' → Q (some (zi v)) m') : X (EE s) d 102 0 [(0, zr 4 41), (1, zi a1), (2, zi a2)] [] m Q := by
  refine X.aload_n 1 i102_0 rfl rfl rfl ?_
  refine X.iload_n 2 i102_1 rfl rfl rfl ?_
  refine X.putI' 5 4 i102_2 rfl rfl (by decide) rfl rfl rfl (fun hrm501 m501 hm501 => ?_)
  have hJ502 := w41_4 hJ hm501 (by omega) hrm501 hf16 hg4
  refine X.aload_n 6 i102_5 rfl rfl rfl ?_
  refine X.iload_n 7 i102_6 rfl rfl rfl ?_
  refine X.putI' 10 5 i102_7 rfl rfl (by decide) rfl rfl rfl (fun hrm503 m503 hm503 => ?_)
  have hJ504 := w41_4 hJ502 hm503 (by omega) hrm503 hf16 hg4
  refine X.iconst 11 i102_10 rfl rfl (by decide) ?_
  refine X.retz i102_11 rfl t102 (by omega) ?_
  exact hQ 0 m503 (by first | trivial | omega) (Eq.trans (zs_eq hm501) (Eq.trans (zs_eq hm503) rfl)) (hJ504.up (by omega)) 
-- WorkMeter$CalendarText.readSwitch
noncomputable def f104_1 (a1 : Int) (m : zM) : Int × zM :=
  zb (f100_1 23 m) fun v503 m501 =>
  if v503 = (-1) then
  ((0, m501))
  else
  (if (m501 3 12 a1) < 6 then
  (zb (f105_1 58 m501) fun v509 m507 =>
  if v509 = 0 then
  ((0, m507))
  else
  (zb (f100_1 59 m507) fun v513 m511 =>
  if v513 = (-1) then
  ((0, m511))
  else
  (zn (f82_1 3 a1 ((v503 * 3600) + (v513 * 60)) m511) fun v517 =>
  if v517 = 0 then
  (zb (f100_1 3 m511) fun v521 m519 =>
  if v521 = (-1) then
  ((0, m519))
  else
  (zb (f81_1 3 a1 ((v503 * 3600) + (v513 * 60)) v521 m519) fun v525 m523 =>
  (1, m523)))
  else
  (zb (f102_1 3 (m511 4 41 8) m511) fun v529 m527 =>
  (v529, m527)))))
  else
  (zb (f102_1 4 (m501 4 41 8) m501) fun v533 m531 =>
  (v533, m531)))
-- WorkMeter$CalendarText.readSwitch
theorem c104_1 {s : Nat × (Nat → Int32)} {S : zS} {m0 m : zM} {B : Int} {d : Nat} {Q : Option zV → zM → Prop} (a1 : Int) (hd : 16 ≤ d) (hJ : J S m0 B m) (hB : B + 0 ≤ 1000000000) (ha1 : 0 ≤ a1 ∧ a1 ≤ 7) (hf1 : ¬ S.1 1) (hf16 : ¬ S.1 16) (hf19 : ¬ S.1 19) (hg3 : ¬ S.2.1 3) (hg4 : ¬ S.2.1 4) (hQ : ∀ (v : Int) m', (0 ≤ v ∧ v ≤ 1) → f104_1 a1 m = (v, m') → J S m0 (B) m' → Q (some (zi v)) m') : X (EE s) d 104 0 [(0, zr 4 41), (1, zi a1)] [] m Q := by
  refine X.aload_n 1 i104_0 rfl rfl rfl ?_
  refine X.bipush 3 i104_1 rfl rfl (by decide) ?_
  refine X.callv 6 [zi 23] [] [(0, zr 4 41), (1, zi 23)] i104_3 rfl (by decide) rfl rfl (by omega) rfl rfl (by decide) rfl t100 (Nat.le_of_ble_eq_true rfl) (Nat.le_of_ble_eq_true rfl) rfl ?_
  refine c100_1 (B := B)  23 (by omega) (hJ.up (by omega)) (by omega) (by omega) hf16 hf19 hg4 (fun v503 m501 hv503 hFv503 hJ502 hqv503_0 => ?_)
  show X (EE s) d 104 6 [(0, zr 4 41), (1, zi a1)] [zi v503] m501 _
  refine X.istore_n 7 [(0, zr 4 41), (1, zi a1), (2, zi v503)] i104_6 rfl rfl rfl ?_
  refine X.iload_n 8 i104_7 rfl rfl rfl ?_
  refine X.iconst 9 i104_8 rfl rfl (by decide) ?_
  refine X.icmpne 14 12 i104_9 rfl rfl rfl (fun h504 => ?_) (fun h504 => ?_)
  · refine X.aload_n 15 i104_14 rfl rfl rfl ?_
    refine X.getF 18 i104_15 rfl rfl (by decide) rfl rfl ?_
    refine X.getR 21 i104_18 rfl rfl (by decide) rfl rfl ?_
    refine X.iload_n 22 i104_21 rfl rfl rfl ?_
    refine X.iald 23 i104_22 rfl rfl (by decide) rfl (by omega) ?_
    have h505 := r12_0 hJ502 3 (i := a1) (by omega)
    refine X.bipush 25 i104_23 rfl rfl (by decide) ?_
    refine X.icmplt 38 28 i104_25 rfl rfl rfl (fun h506 => ?_) (fun h506 => ?_)
    · refine X.aload_n 39 i104_38 rfl rfl rfl ?_
      refine X.bipush 41 i104_39 rfl rfl (by decide) ?_
      refine X.callv 44 [zi 58] [] [(0, zr 4 41), (1, zi 58)] i104_41 rfl (by decide) rfl rfl (by omega) rfl rfl (by decide) rfl t105 (Nat.le_of_ble_eq_true rfl) (Nat.le_of_ble_eq_true rfl) rfl ?_
      refine c105_1 (B := B)  58 (by omega) (hJ502.up (by omega)) (by omega) (by omega) hf16 hf19 hg4 (fun v509 m507 hv509 hFv509 hJ508 => ?_)
      show X (EE s) d 104 44 [(0, zr 4 41), (1, zi a1), (2, zi v503)] [zi v509] m507 _
      refine X.ifne 49 47 i104_44 rfl rfl rfl (fun h510 => ?_) (fun h510 => ?_)
      · refine X.aload_n 50 i104_49 rfl rfl rfl ?_
        refine X.bipush 52 i104_50 rfl rfl (by decide) ?_
        refine X.callv 55 [zi 59] [] [(0, zr 4 41), (1, zi 59)] i104_52 rfl (by decide) rfl rfl (by omega) rfl rfl (by decide) rfl t100 (Nat.le_of_ble_eq_true rfl) (Nat.le_of_ble_eq_true rfl) rfl ?_
        refine c100_1 (B := B)  59 (by omega) (hJ508.up (by omega)) (by omega) (by omega) hf16 hf19 hg4 (fun v513 m511 hv513 hFv513 hJ512 hqv513_0 => ?_)
        show X (EE s) d 104 55 [(0, zr 4 41), (1, zi a1), (2, zi v503)] [zi v513] m511 _
        refine X.istore_n 56 [(0, zr 4 41), (1, zi a1), (2, zi v503), (3, zi v513)] i104_55 rfl rfl rfl ?_
        refine X.iload_n 57 i104_56 rfl rfl rfl ?_
        refine X.iconst 58 i104_57 rfl rfl (by decide) ?_
        refine X.icmpne 63 61 i104_58 rfl rfl rfl (fun h514 => ?_) (fun h514 => ?_)
        · refine X.iload_n 64 i104_63 rfl rfl rfl ?_
          refine X.sipush 67 i104_64 rfl rfl (by decide) ?_
          refine X.imul 68 i104_67 rfl rfl (by omega) ?_
          refine X.iload_n 69 i104_68 rfl rfl rfl ?_
          refine X.bipush 71 i104_69 rfl rfl (by decide) ?_
          refine X.imul 72 i104_71 rfl rfl (by omega) ?_
          refine X.iadd 73 i104_72 rfl rfl (by omega) ?_
          refine X.istore 75 [(0, zr 4 41), (1, zi a1), (2, zi v503), (3, zi v513), (4, zi ((v503 * 3600) + (v513 * 60)))] i104_73 rfl rfl rfl ?_
          refine X.aload_n 76 i104_75 rfl rfl rfl ?_
          refine X.getF 79 i104_76 rfl rfl (by decide) rfl rfl ?_
          refine X.iload_n 80 i104_79 rfl rfl rfl ?_
          refine X.iload 82 i104_80 rfl rfl rfl ?_
          refine X.callv 85 [zi a1, zi ((v503 * 3600) + (v513 * 60))] [] [(0, zr 3 11), (1, zi a1), (2, zi ((v503 * 3600) + (v513 * 60)))] i104_82 rfl (by decide) rfl rfl (by omega) rfl rfl (by decide) rfl t82 (Nat.le_of_ble_eq_true rfl) (Nat.le_of_ble_eq_true rfl) rfl ?_
          refine c82_1 (B := B) 3 a1 ((v503 * 3600) + (v513 * 60)) (by omega) (hJ512.up (by omega)) (by omega) (by omega) (by omega) (fun v517 hv517 hFv517 hqv517_0 => ?_)
          show X (EE s) d 104 85 [(0, zr 4 41), (1, zi a1), (2, zi v503), (3, zi v513), (4, zi ((v503 * 3600) + (v513 * 60)))] [zi v517] m511 _
          refine X.ifeq 98 88 i104_85 rfl rfl rfl (fun h518 => ?_) (fun h518 => ?_)
          · refine X.cut [(0, zr 4 41), (1, zi a1), (4, zi ((v503 * 3600) + (v513 * 60)))] i104_98 rfl ?_
            refine X.aload_n 99 i104_98 rfl rfl rfl ?_
            refine X.iconst 100 i104_99 rfl rfl (by decide) ?_
            refine X.callv 103 [zi 3] [] [(0, zr 4 41), (1, zi 3)] i104_100 rfl (by decide) rfl rfl (by omega) rfl rfl (by decide) rfl t100 (Nat.le_of_ble_eq_true rfl) (Nat.le_of_ble_eq_true rfl) rfl ?_
            refine c100_1 (B := B)  3 (by omega) (hJ512.up (by omega)) (by omega) (by omega) hf16 hf19 hg4 (fun v521 m519 hv521 hFv521 hJ520 hqv521_0 => ?_)
            show X (EE s) d 104 103 [(0, zr 4 41), (1, zi a1), (4, zi ((v503 * 3600) + (v513 * 60)))] [zi v521] m519 _
            refine X.istore 105 [(0, zr 4 41), (1, zi a1), (4, zi ((v503 * 3600) + (v513 * 60))), (5, zi v521)] i104_103 rfl rfl rfl ?_
            refine X.iload 107 i104_105 rfl rfl rfl ?_
            refine X.iconst 108 i104_107 rfl rfl (by decide) ?_
            refine X.icmpne 113 111 i104_108 rfl rfl rfl (fun h522 => ?_) (fun h522 => ?_)
            · refine X.aload_n 114 i104_113 rfl rfl rfl ?_
              refine X.getF 117 i104_114 rfl rfl (by decide) rfl rfl ?_
              refine X.iload_n 118 i104_117 rfl rfl rfl ?_
              refine X.iload 120 i104_118 rfl rfl rfl ?_
              refine X.iload 122 i104_120 rfl rfl rfl ?_
              refine X.callv 125 [zi a1, zi ((v503 * 3600) + (v513 * 60)), zi v521] [] [(0, zr 3 11), (1, zi a1), (2, zi ((v503 * 3600) + (v513 * 60))), (3, zi v521)] i104_122 rfl (by decide) rfl rfl (by omega) rfl rfl (by decide) rfl t81 (Nat.le_of_ble_eq_true rfl) (Nat.le_of_ble_eq_true rfl) rfl ?_
              refine c81_1 (B := B) 3 a1 ((v503 * 3600) + (v513 * 60)) v521 (by omega) (hJ520.up (by omega)) (by omega) (by omega) (by omega) (by omega) hf1 hg3 (fun v525 m523 hv525 hFv525 hJ524 => ?_)
              show X (EE s) d 104 125 [(0, zr 4 41), (1, zi a1), (4, zi ((v503 * 3600) + (v513 * 60))), (5, zi v521)] [zi v525] m523 _
              refine X.pop 126 i104_125 rfl rfl rfl ?_
              refine X.iconst 127 i104_126 rfl rfl (by decide) ?_
              refine X.retz i104_127 rfl t104 (by omega) ?_
              exact hQ 1 m523 (by first | trivial | omega) (Eq.trans (zb_eq hFv503) (Eq.trans (if_neg h504) (Eq.trans (if_pos h506) (Eq.trans (zb_eq hFv509) (Eq.trans (if_neg h510) (Eq.trans (zb_eq hFv513) (Eq.trans (if_neg h514) (Eq.trans (zn_eq hFv517.symm) (Eq.trans (if_pos h518) (Eq.trans (zb_eq hFv521) (Eq.trans (if_neg h522) (Eq.trans (zb_eq hFv525) rfl)))))))))))) (hJ524.up (by omega)) 
            · refine X.iconst 112 i104_111 rfl rfl (by decide) ?_
              refine X.retz i104_112 rfl t104 (by omega) ?_
              exact hQ 0 m519 (by first | trivial | omega) (Eq.trans (zb_eq hFv503) (Eq.trans (if_neg h504) (Eq.trans (if_pos h506) (Eq.trans (zb_eq hFv509) (Eq.trans (if_neg h510) (Eq.trans (zb_eq hFv513) (Eq.trans (if_neg h514) (Eq.trans (zn_eq hFv517.symm) (Eq.trans (if_pos h518) (Eq.trans (zb_eq hFv521) (Eq.trans (if_pos h522) rfl))))))))))) (hJ520.up (by omega)) 
          · refine X.aload_n 89 i104_88 rfl rfl rfl ?_
            refine X.iconst 90 i104_89 rfl rfl (by decide) ?_
            refine X.aload_n 91 i104_90 rfl rfl rfl ?_
            refine X.getIr 94 8 i104_91 rfl rfl (by decide) rfl rfl rfl (fun h526 => ?_)
            refine X.callv 97 [zi 3, zi (m511 4 41 8)] [] [(0, zr 4 41), (1, zi 3), (2, zi (m511 4 41 8))] i104_94 rfl (by decide) rfl rfl (by omega) rfl rfl (by decide) rfl t102 (Nat.le_of_ble_eq_true rfl) (Nat.le_of_ble_eq_true rfl) rfl ?_
            refine c102_4 (B := B)  3 (m511 4 41 8) (by omega) (hJ512.up (by omega)) (by omega) (by omega) (by omega) hf16 hg4 (fun v529 m527 hv529 hFv529 hJ528 => ?_)
            show X (EE s) d 104 97 [(0, zr 4 41), (1, zi a1), (2, zi v503), (3, zi v513), (4, zi ((v503 * 3600) + (v513 * 60)))] [zi v529] m527 _
            refine X.retz i104_97 rfl t104 (by omega) ?_
            exact hQ v529 m527 (by first | trivial | omega) (Eq.trans (zb_eq hFv503) (Eq.trans (if_neg h504) (Eq.trans (if_pos h506) (Eq.trans (zb_eq hFv509) (Eq.trans (if_neg h510) (Eq.trans (zb_eq hFv513) (Eq.trans (if_neg h514) (Eq.trans (zn_eq hFv517.symm) (Eq.trans (if_neg h518) (Eq.trans (zb_eq hFv529) rfl)))))))))) (hJ528.up (by omega)) 
        · refine X.iconst 62 i104_61 rfl rfl (by decide) ?_
          refine X.retz i104_62 rfl t104 (by omega) ?_
          exact hQ 0 m511 (by first | trivial | omega) (Eq.trans (zb_eq hFv503) (Eq.trans (if_neg h504) (Eq.trans (if_pos h506) (Eq.trans (zb_eq hFv509) (Eq.trans (if_neg h510) (Eq.trans (zb_eq hFv513) (Eq.trans (if_pos h514) rfl))))))) (hJ512.up (by omega)) 
      · refine X.iconst 48 i104_47 rfl rfl (by decide) ?_
        refine X.retz i104_48 rfl t104 (by omega) ?_
        exact hQ 0 m507 (by first | trivial | omega) (Eq.trans (zb_eq hFv503) (Eq.trans (if_neg h504) (Eq.trans (if_pos h506) (Eq.trans (zb_eq hFv509) (Eq.trans (if_pos h510) rfl))))) (hJ508.up (by omega)) 
    · refine X.aload_n 29 i104_28 rfl rfl rfl ?_
      refine X.iconst 30 i104_29 rfl rfl (by decide) ?_
      refine X.aload_n 31 i104_30 rfl rfl rfl ?_
      refine X.getIr 34 8 i104_31 rfl rfl (by decide) rfl rfl rfl (fun h530 => ?_)
      refine X.callv 37 [zi 4, zi (m501 4 41 8)] [] [(0, zr 4 41), (1, zi 4), (2, zi (m501 4 41 8))] i104_34 rfl (by decide) rfl rfl (by omega) rfl rfl (by decide) rfl t102 (Nat.le_of_ble_eq_true rfl) (Nat.le_of_ble_eq_true rfl) rfl ?_
      refine c102_6 (B := B)  4 (m501 4 41 8) (by omega) (hJ502.up (by omega)) (by omega) (by omega) (by omega) hf16 hg4 (fun v533 m531 hv533 hFv533 hJ532 => ?_)
      show X (EE s) d 104 37 [(0, zr 4 41), (1, zi a1), (2, zi v503)] [zi v533] m531 _
      refine X.retz i104_37 rfl t104 (by omega) ?_
      exact hQ v533 m531 (by first | trivial | omega) (Eq.trans (zb_eq hFv503) (Eq.trans (if_neg h504) (Eq.trans (if_neg h506) (Eq.trans (zb_eq hFv533) rfl)))) (hJ532.up (by omega)) 
  · refine X.iconst 13 i104_12 rfl rfl (by decide) ?_
    refine X.retz i104_13 rfl t104 (by omega) ?_
    exact hQ 0 m501 (by first | trivial | omega) (Eq.trans (zb_eq hFv503) (Eq.trans (if_pos h504) rfl)) (hJ502.up (by omega)) 
noncomputable def fl97_38_1_b (self : Int → zM → Int × zM) (k59 : Int → zM → Int × zM) (k67 : zM → Int × zM) (y1 : Int) (y2 : Int) (m : zM) : Int × zM :=
  if 6 < y2 then
  (k67 m)
  else
  (zb (f103_1 m) fun v513 m511 =>
  if v513 = 0 then
  (k67 m511)
  else
  (zb (f104_1 y1 m511) fun v517 m515 =>
  if v517 = 0 then
  (k59 y2 m515)
  else
  (self (y2 + 1) m515)))
noncomputable def fl97_38_1 (k59 : Int → zM → Int × zM) (k67 : zM → Int × zM) (y1 : Int) : Nat → Int → zM → Int × zM
  | 0 => fun y2 m => (0, m)
  | n + 1 => fl97_38_1_b (fl97_38_1 k59 k67 y1 n) k59 k67 y1
theorem l97_38_1 {s : Nat × (Nat → Int32)} {S : zS} {m0 : zM} {d : Nat} {Q : Option zV → zM → Prop} {R0 : Int × zM} {k59 : Int → zM → Int × zM} {k67 : zM → Int × zM} (y1 : Int) (BE : Int) (hE : BE ≤ 1000000000) (hd : 17 ≤ d) (hy1 : 0 ≤ y1 ∧ y1 ≤ 7) (hf1 : ¬ S.1 1) (hf16 : ¬ S.1 16) (hf19 : ¬ S.1 19) (hg3 : ¬ S.2.1 3) (hg4 : ¬ S.2.1 4)
    (K59 : ∀ (x2 : Int) (m' : zM) (B' : Int), J S m0 B' m' → B' ≤ BE → (0 ≤ x2 ∧ x2 ≤ 6) → R0 = k59 x2 m' → X (EE s) d 97 59 [(0, zr 4 41), (1, zi y1), (2, zi x2)] [] m' Q)
    (K67 : ∀ (m' : zM) (B' : Int), J S m0 B' m' → B' ≤ BE → R0 = k67 m' → X (EE s) d 97 67 [] [] m' Q) :
    ∀ (n : Nat) (y2 : Int) (m : zM) (B : Int), J S m0 B m → B + 0 * (n : Int) ≤ BE → (0 ≤ y2 ∧ y2 ≤ 7) → 7 - y2 < (n : Int) → R0 = fl97_38_1 k59 k67 y1 n y2 m → X (EE s) d 97 38 [(0, zr 4 41), (1, zi y1), (2, zi y2)] [] m Q := by
  intro n
  induction n with
  | zero =>
    intro y2 m B hJ hB hy2 hn hR
    exfalso
    omega
  | succ n ih =>
    intro y2 m B hJ hB hy2 hn hR
    replace hR : R0 = fl97_38_1_b (fl97_38_1 k59 k67 y1 n) k59 k67 y1 y2 m := hR
    refine X.iload_n 39 i97_38 rfl rfl rfl ?_
    refine X.bipush 41 i97_39 rfl rfl (by decide) ?_
    refine X.icmpgt 67 44 i97_41 rfl rfl rfl (fun h510 => ?_) (fun h510 => ?_)
    · refine X.cut [] i97_67 rfl ?_
      exact K67  m (B) (hJ.up (by omega)) (by omega)  (Eq.trans hR (Eq.trans (if_pos h510) rfl))
    · refine X.aload_n 45 i97_44 rfl rfl rfl ?_
      refine X.callv 48 [] [] [(0, zr 4 41)] i97_45 rfl (by decide) rfl rfl (by omega) rfl rfl (by decide) rfl t103 (Nat.le_of_ble_eq_true rfl) (Nat.le_of_ble_eq_true rfl) rfl ?_
      refine c103_1 (B := B)   (by omega) (hJ.up (by omega)) (by omega)  hf19 hg4 (fun v513 m511 hv513 hFv513 hJ512 => ?_)
      show X (EE s) d 97 48 [(0, zr 4 41), (1, zi y1), (2, zi y2)] [zi v513] m511 _
      refine X.ifeq 67 51 i97_48 rfl rfl rfl (fun h514 => ?_) (fun h514 => ?_)
      · refine X.cut [] i97_67 rfl ?_
        exact K67  m511 (B) (hJ512.up (by omega)) (by omega)  (Eq.trans hR (Eq.trans (if_neg h510) (Eq.trans (zb_eq hFv513) (Eq.trans (if_pos h514) rfl))))
      · refine X.aload_n 52 i97_51 rfl rfl rfl ?_
        refine X.iload_n 53 i97_52 rfl rfl rfl ?_
        refine X.callv 56 [zi y1] [] [(0, zr 4 41), (1, zi y1)] i97_53 rfl (by decide) rfl rfl (by omega) rfl rfl (by decide) rfl t104 (Nat.le_of_ble_eq_true rfl) (Nat.le_of_ble_eq_true rfl) rfl ?_
        refine c104_1 (B := B)  y1 (by omega) (hJ512.up (by omega)) (by omega) (by omega) hf1 hf16 hf19 hg3 hg4 (fun v517 m515 hv517 hFv517 hJ516 => ?_)
        show X (EE s) d 97 56 [(0, zr 4 41), (1, zi y1), (2, zi y2)] [zi v517] m515 _
        refine X.ifne 61 59 i97_56 rfl rfl rfl (fun h518 => ?_) (fun h518 => ?_)
        · refine X.iinc 64 [(0, zr 4 41), (1, zi y1), (2, zi (y2 + 1))] i97_61 rfl rfl rfl (by omega) rfl ?_
          refine X.goto 38 i97_64 rfl rfl ?_
          exact ih (y2 + 1) m515 (B) (hJ516.up (by omega)) (by omega) (by omega) (by omega) (Eq.trans hR (Eq.trans (if_neg h510) (Eq.trans (zb_eq hFv513) (Eq.trans (if_neg h514) (Eq.trans (zb_eq hFv517) (Eq.trans (if_neg h518) rfl))))))
        · exact K59 y2 m515 (B) (hJ516.up (by omega)) (by omega) (by first | trivial | omega) (Eq.trans hR (Eq.trans (if_neg h510) (Eq.trans (zb_eq hFv513) (Eq.trans (if_neg h514) (Eq.trans (zb_eq hFv517) (Eq.trans (if_pos h518) rfl))))))
-- WorkMeter$CalendarText.readTable
noncomputable def f97_1 (m : zM) : Int × zM :=
  zs (z_upd m 4 41 7 ((m 4 41 7) + 5)) fun m502 =>
  zb (f99_1 7 (m502 4 41 9) m502) fun v507 m505 =>
  if v507 = (-1) then
  ((0, m505))
  else
  (zn (zshl 1 v507) fun z510 =>
  zn (zor (m505 4 41 9) z510) fun z511 =>
  zs (z_upd m505 4 41 9 z511) fun m512 =>
  fl97_38_1 (fun y514 m515 =>
  (0, m515)) (fun m519 =>
  (1, m519)) v507 (zfu 8) 0 m512)
-- WorkMeter$CalendarText.readTable
theorem c97_1 {s : Nat × (Nat → Int32)} {S : zS} {m0 m : zM} {B : Int} {d : Nat} {Q : Option zV → zM → Prop} (hd : 17 ≤ d) (hJ : J S m0 B m) (hB : B + 0 ≤ 1000000000) (hp0 : m 4 41 7 + 5 ≤ 300) (hf1 : ¬ S.1 1) (hf16 : ¬ S.1 16) (hf19 : ¬ S.1 19) (hg3 : ¬ S.2.1 3) (hg4 : ¬ S.2.1 4) (hQ : ∀ (v : Int) m', (0 ≤ v ∧ v ≤ 1) → f97_1 m = (v, m') → J S m0 (B) m' → Q (some (zi v)) m') : X (EE s) d 97 0 [(0, zr 4 41)] [] m Q := by
  refine X.aload_n 1 i97_0 rfl rfl rfl ?_
  refine X.ldcS 3 i97_1 rfl rfl (by decide) ?_
  refine X.callv 6 [zr 99 4] [] [(0, zr 4 41), (1, zr 99 4)] i97_3 rfl (by decide) rfl rfl (by omega) rfl rfl (by decide) rfl t98 (Nat.le_of_ble_eq_true rfl) (Nat.le_of_ble_eq_true rfl) rfl ?_
  refine X.aload_n 1 i98_0 rfl rfl rfl ?_
  refine X.dup 2 i98_1 rfl rfl rfl ?_
  refine X.getI 5 7 i98_2 rfl rfl (by decide) rfl rfl rfl ?_
  have h501 := r41_7 hJ 4
  refine X.aload_n 6 i98_5 rfl rfl rfl ?_
  refine X.slen 9 i98_6 rfl rfl (by omega) (Nat.le_of_ble_eq_true rfl) (by decide) (show (5 : Nat) < 2147483648 by decide) ?_
  show X (EE s) (d - 1) 98 9 [(0, zr 4 41), (1, zr 99 4)] [zi 5, zi (m 4 41 7), zr 4 41] m _
  refine X.iadd 10 i98_9 rfl rfl (by omega) ?_
  refine X.putI' 13 7 i98_10 rfl rfl (by decide) rfl rfl rfl (fun hrm502 m502 hm502 => ?_)
  have hJ503 := w41_7 hJ hm502 (by omega) hf19 hg4
  have em502 : m502 4 41 7 = ((m 4 41 7) + 5) := by rw [hm502]; exact z_upd_same _ _ _ _ _
  refine X.retv i98_13 rfl t98 ?_
  show X (EE s) d 97 6 [(0, zr 4 41)] [] m502 _
  refine X.aload_n 7 i97_6 rfl rfl rfl ?_
  refine X.bipush 9 i97_7 rfl rfl (by decide) ?_
  refine X.aload_n 10 i97_9 rfl rfl rfl ?_
  refine X.getIr 13 9 i97_10 rfl rfl (by decide) rfl rfl rfl (fun h504 => ?_)
  refine X.callv 16 [zi 7, zi (m502 4 41 9)] [] [(0, zr 4 41), (1, zi 7), (2, zi (m502 4 41 9))] i97_13 rfl (by decide) rfl rfl (by omega) rfl rfl (by decide) rfl t99 (Nat.le_of_ble_eq_true rfl) (Nat.le_of_ble_eq_true rfl) rfl ?_
  refine c99_1 (B := B)  7 (m502 4 41 9) (by omega) (hJ503.up (by omega)) (by omega) (by omega) (by omega) hf16 hf19 hg4 (fun v507 m505 hv507 hFv507 hJ506 hqv507_0 => ?_)
  show X (EE s) d 97 16 [(0, zr 4 41)] [zi v507] m505 _
  refine X.istore_n 17 [(0, zr 4 41), (1, zi v507)] i97_16 rfl rfl rfl ?_
  refine X.iload_n 18 i97_17 rfl rfl rfl ?_
  refine X.iconst 19 i97_18 rfl rfl (by decide) ?_
  refine X.icmpne 24 22 i97_19 rfl rfl rfl (fun h508 => ?_) (fun h508 => ?_)
  · refine X.aload_n 25 i97_24 rfl rfl rfl ?_
    refine X.dup 26 i97_25 rfl rfl rfl ?_
    refine X.getIr 29 9 i97_26 rfl rfl (by decide) rfl rfl rfl (fun h509 => ?_)
    refine X.iconst 30 i97_29 rfl rfl (by decide) ?_
    refine X.iload_n 31 i97_30 rfl rfl rfl ?_
    refine X.iiE 32 .ishl (fun x y => x <<< (y &&& 31)) i97_31 rfl rfl rfl (fun _ _ => rfl) (fun z510 ez510 hz510 => ?_)
    refine X.iiE 33 .ior (fun x y => x ||| y) i97_32 rfl rfl rfl (fun _ _ => rfl) (fun z511 ez511 hz511 => ?_)
    refine X.putI' 36 9 i97_33 rfl rfl (by decide) rfl rfl rfl (fun hrm512 m512 hm512 => ?_)
    have hJ513 := w41_8 hJ506 hm512 (by omega) hrm512 hf19 hg4
    refine X.iconst 37 i97_36 rfl rfl (by decide) ?_
    refine X.istore_n 38 [(0, zr 4 41), (1, zi v507), (2, zi 0)] i97_37 rfl rfl rfl ?_
    have hz8 := zfu_eq 8
    refine l97_38_1 (s := s) (d := d) (R0 := (f97_1 m))  v507  (BE := B + 0) (by omega) (by omega) (by omega) hf1 hf16 hf19 hg3 hg4 (fun y514 m515 B516 hJ517 hBB516 hby514 hR518 => ?_) (fun  m519 B520 hJ521 hBB520 hR522 => ?_) (zfu 8) 0 m512 (B) (hJ513.up (by omega)) (by omega) (by omega) (by omega) (Eq.trans (zs_eq hm502) (Eq.trans (zb_eq hFv507) (Eq.trans (if_neg h508) (Eq.trans (zn_eq ez510) (Eq.trans (zn_eq ez511) (Eq.trans (zs_eq hm512) rfl))))))
    · refine X.iconst 60 i97_59 rfl rfl (by decide) ?_
      refine X.retz i97_60 rfl t97 (by omega) ?_
      exact hQ 0 m515 (by first | trivial | omega) (Eq.trans hR518 rfl) (hJ517.up (by omega)) 
    · refine X.iconst 68 i97_67 rfl rfl (by decide) ?_
      refine X.retz i97_68 rfl t97 (by omega) ?_
      exact hQ 1 m519 (by first | trivial | omega) (Eq.trans hR522 rfl) (hJ521.up (by omega)) 
  · refine X.iconst 23 i97_22 rfl rfl (by decide) ?_
    refine X.retz i97_23 rfl t97 (by omega) ?_
    exact hQ 0 m505 (by first | trivial | omega) (Eq.trans (zs_eq hm502) (Eq.trans (zb_eq hFv507) (Eq.trans (if_pos h508) rfl))) (hJ506.up (by omega)) 
-- WorkMeter$CalendarText.readLine
noncomputable def f94_1 (m : zM) : Int × zM :=
  zn (f95_1 m) fun v503 =>
  zn (f96_1 v503 m) fun v506 =>
  if v506 = 0 then
  (zn (f96_2 v503 m) fun v510 =>
  if v510 = 0 then
  (zn (f96_3 v503 m) fun v514 =>
  if v514 = 0 then
  (zn (f96_4 v503 m) fun v518 =>
  if v518 = 0 then
  (zb (f102_1 1 (m 4 41 7) m) fun v523 m521 =>
  (v523, m521))
  else
  (zb (f110_1 m) fun v526 m524 =>
  (v526, m524)))
  else
  (zb (f107_1 m) fun v529 m527 =>
  (v529, m527)))
  else
  (zb (f106_1 m) fun v532 m530 =>
  (v532, m530)))
  else
  (zb (f97_1 m) fun v535 m533 =>
  (v535, m533))
-- WorkMeter$CalendarText.readLine
theorem c94_1 {s : Nat × (Nat → Int32)} {S : zS} {m0 m : zM} {B : Int} {d : Nat} {Q : Option zV → zM → Prop} (hd : 18 ≤ d) (hJ : J S m0 B m) (hB : B + 0 ≤ 1000000000) (hf1 : ¬ S.1 1) (hf16 : ¬ S.1 16) (hf19 : ¬ S.1 19) (hg3 : ¬ S.2.1 3) (hg4 : ¬ S.2.1 4) (hQ : ∀ (v : Int) m', (0 ≤ v ∧ v ≤ 1) → f94_1 m = (v, m') → J S m0 (B) m' → Q (some (zi v)) m') : X (EE s) d 94 0 [(0, zr 4 41)] [] m Q := by
  refine X.aload_n 1 i94_0 rfl rfl rfl ?_
  refine X.callv 4 [] [] [(0, zr 4 41)] i94_1 rfl (by decide) rfl rfl (by omega) rfl rfl (by decide) rfl t95 (Nat.le_of_ble_eq_true rfl) (Nat.le_of_ble_eq_true rfl) rfl ?_
  refine c95_1 (B := B)   (by omega) (hJ.up (by omega)) (by omega)  (fun v503 hv503 hFv503 => ?_)
  show X (EE s) d 94 4 [(0, zr 4 41)] [zi v503] m _
  refine X.istore_n 5 [(0, zr 4 41), (1, zi v503)] i94_4 rfl rfl rfl ?_
  refine X.aload_n 6 i94_5 rfl rfl rfl ?_
  refine X.ldcS 8 i94_6 rfl rfl (by decide) ?_
  refine X.iload_n 9 i94_8 rfl rfl rfl ?_
  refine X.callv 12 [zr 99 4, zi v503] [] [(0, zr 4 41), (1, zr 99 4), (2, zi v503)] i94_9 rfl (by decide) rfl rfl (by omega) rfl rfl (by decide) rfl t96 (Nat.le_of_ble_eq_true rfl) (Nat.le_of_ble_eq_true rfl) rfl ?_
  refine c96_1 (B := B)  v503 (by omega) (hJ.up (by omega)) (by omega) (by omega) (fun v506 hv506 hFv506 hqv506_0 => ?_)
  show X (EE s) d 94 12 [(0, zr 4 41), (1, zi v503)] [zi v506] m _
  refine X.ifeq 20 15 i94_12 rfl rfl rfl (fun h507 => ?_) (fun h507 => ?_)
  · refine X.aload_n 21 i94_20 rfl rfl rfl ?_
    refine X.ldcS 23 i94_21 rfl rfl (by decide) ?_
    refine X.iload_n 24 i94_23 rfl rfl rfl ?_
    refine X.callv 27 [zr 99 5, zi v503] [] [(0, zr 4 41), (1, zr 99 5), (2, zi v503)] i94_24 rfl (by decide) rfl rfl (by omega) rfl rfl (by decide) rfl t96 (Nat.le_of_ble_eq_true rfl) (Nat.le_of_ble_eq_true rfl) rfl ?_
    refine c96_2 (B := B)  v503 (by omega) (hJ.up (by omega)) (by omega) (by omega) (fun v510 hv510 hFv510 hqv510_0 => ?_)
    show X (EE s) d 94 27 [(0, zr 4 41), (1, zi v503)] [zi v510] m _
    refine X.ifeq 35 30 i94_27 rfl rfl rfl (fun h511 => ?_) (fun h511 => ?_)
    · refine X.aload_n 36 i94_35 rfl rfl rfl ?_
      refine X.ldcS 38 i94_36 rfl rfl (by decide) ?_
      refine X.iload_n 39 i94_38 rfl rfl rfl ?_
      refine X.callv 42 [zr 99 6, zi v503] [] [(0, zr 4 41), (1, zr 99 6), (2, zi v503)] i94_39 rfl (by decide) rfl rfl (by omega) rfl rfl (by decide) rfl t96 (Nat.le_of_ble_eq_true rfl) (Nat.le_of_ble_eq_true rfl) rfl ?_
      refine c96_3 (B := B)  v503 (by omega) (hJ.up (by omega)) (by omega) (by omega) (fun v514 hv514 hFv514 hqv514_0 => ?_)
      show X (EE s) d 94 42 [(0, zr 4 41), (1, zi v503)] [zi v514] m _
      refine X.ifeq 50 45 i94_42 rfl rfl rfl (fun h515 => ?_) (fun h515 => ?_)
      · refine X.aload_n 51 i94_50 rfl rfl rfl ?_
        refine X.ldcS 53 i94_51 rfl rfl (by decide) ?_
        refine X.iload_n 54 i94_53 rfl rfl rfl ?_
        refine X.callv 57 [zr 99 7, zi v503] [] [(0, zr 4 41), (1, zr 99 7), (2, zi v503)] i94_54 rfl (by decide) rfl rfl (by omega) rfl rfl (by decide) rfl t96 (Nat.le_of_ble_eq_true rfl) (Nat.le_of_ble_eq_true rfl) rfl ?_
        refine c96_4 (B := B)  v503 (by omega) (hJ.up (by omega)) (by omega) (by omega) (fun v518 hv518 hFv518 hqv518_0 => ?_)
        show X (EE s) d 94 57 [(0, zr 4 41), (1, zi v503)] [zi v518] m _
        refine X.ifeq 65 60 i94_57 rfl rfl rfl (fun h519 => ?_) (fun h519 => ?_)
        · refine X.cut [(0, zr 4 41)] i94_65 rfl ?_
          refine X.aload_n 66 i94_65 rfl rfl rfl ?_
          refine X.iconst 67 i94_66 rfl rfl (by decide) ?_
          refine X.aload_n 68 i94_67 rfl rfl rfl ?_
          refine X.getI 71 7 i94_68 rfl rfl (by decide) rfl rfl rfl ?_
          have h520 := r41_7 hJ 4
          refine X.callv 74 [zi 1, zi (m 4 41 7)] [] [(0, zr 4 41), (1, zi 1), (2, zi (m 4 41 7))] i94_71 rfl (by decide) rfl rfl (by omega) rfl rfl (by decide) rfl t102 (Nat.le_of_ble_eq_true rfl) (Nat.le_of_ble_eq_true rfl) rfl ?_
          refine c102_1 (B := B)  1 (m 4 41 7) (by omega) (hJ.up (by omega)) (by omega) (by omega) (by omega) hf16 hg4 (fun v523 m521 hv523 hFv523 hJ522 => ?_)
          show X (EE s) d 94 74 [(0, zr 4 41)] [zi v523] m521 _
          refine X.retz i94_74 rfl t94 (by omega) ?_
          exact hQ v523 m521 (by first | trivial | omega) (Eq.trans (zn_eq hFv503.symm) (Eq.trans (zn_eq hFv506.symm) (Eq.trans (if_pos h507) (Eq.trans (zn_eq hFv510.symm) (Eq.trans (if_pos h511) (Eq.trans (zn_eq hFv514.symm) (Eq.trans (if_pos h515) (Eq.trans (zn_eq hFv518.symm) (Eq.trans (if_pos h519) (Eq.trans (zb_eq hFv523) rfl)))))))))) (hJ522.up (by omega)) 
        · refine X.aload_n 61 i94_60 rfl rfl rfl ?_
          refine X.callv 64 [] [] [(0, zr 4 41)] i94_61 rfl (by decide) rfl rfl (by omega) rfl rfl (by decide) rfl t110 (Nat.le_of_ble_eq_true rfl) (Nat.le_of_ble_eq_true rfl) rfl ?_
          refine c110_1 (B := B)   (by omega) (hJ.up (by omega)) (by omega) (by omega) hf16 hf19 hg4 (fun v526 m524 hv526 hFv526 hJ525 => ?_)
          show X (EE s) d 94 64 [(0, zr 4 41), (1, zi v503)] [zi v526] m524 _
          refine X.retz i94_64 rfl t94 (by omega) ?_
          exact hQ v526 m524 (by first | trivial | omega) (Eq.trans (zn_eq hFv503.symm) (Eq.trans (zn_eq hFv506.symm) (Eq.trans (if_pos h507) (Eq.trans (zn_eq hFv510.symm) (Eq.trans (if_pos h511) (Eq.trans (zn_eq hFv514.symm) (Eq.trans (if_pos h515) (Eq.trans (zn_eq hFv518.symm) (Eq.trans (if_neg h519) (Eq.trans (zb_eq hFv526) rfl)))))))))) (hJ525.up (by omega)) 
      · refine X.aload_n 46 i94_45 rfl rfl rfl ?_
        refine X.callv 49 [] [] [(0, zr 4 41)] i94_46 rfl (by decide) rfl rfl (by omega) rfl rfl (by decide) rfl t107 (Nat.le_of_ble_eq_true rfl) (Nat.le_of_ble_eq_true rfl) rfl ?_
        refine c107_1 (B := B)   (by omega) (hJ.up (by omega)) (by omega) (by omega) hf1 hf16 hf19 hg3 hg4 (fun v529 m527 hv529 hFv529 hJ528 => ?_)
        show X (EE s) d 94 49 [(0, zr 4 41), (1, zi v503)] [zi v529] m527 _
        refine X.retz i94_49 rfl t94 (by omega) ?_
        exact hQ v529 m527 (by first | trivial | omega) (Eq.trans (zn_eq hFv503.symm) (Eq.trans (zn_eq hFv506.symm) (Eq.trans (if_pos h507) (Eq.trans (zn_eq hFv510.symm) (Eq.trans (if_pos h511) (Eq.trans (zn_eq hFv514.symm) (Eq.trans (if_neg h515) (Eq.trans (zb_eq hFv529) rfl)))))))) (hJ528.up (by omega)) 
    · refine X.aload_n 31 i94_30 rfl rfl rfl ?_
      refine X.callv 34 [] [] [(0, zr 4 41)] i94_31 rfl (by decide) rfl rfl (by omega) rfl rfl (by decide) rfl t106 (Nat.le_of_ble_eq_true rfl) (Nat.le_of_ble_eq_true rfl) rfl ?_
      refine c106_1 (B := B)   (by omega) (hJ.up (by omega)) (by omega) (by omega) hf1 hf16 hf19 hg3 hg4 (fun v532 m530 hv532 hFv532 hJ531 => ?_)
      show X (EE s) d 94 34 [(0, zr 4 41), (1, zi v503)] [zi v532] m530 _
      refine X.retz i94_34 rfl t94 (by omega) ?_
      exact hQ v532 m530 (by first | trivial | omega) (Eq.trans (zn_eq hFv503.symm) (Eq.trans (zn_eq hFv506.symm) (Eq.trans (if_pos h507) (Eq.trans (zn_eq hFv510.symm) (Eq.trans (if_neg h511) (Eq.trans (zb_eq hFv532) rfl)))))) (hJ531.up (by omega)) 
  · refine X.aload_n 16 i94_15 rfl rfl rfl ?_
    refine X.callv 19 [] [] [(0, zr 4 41)] i94_16 rfl (by decide) rfl rfl (by omega) rfl rfl (by decide) rfl t97 (Nat.le_of_ble_eq_true rfl) (Nat.le_of_ble_eq_true rfl) rfl ?_
    refine c97_1 (B := B)   (by omega) (hJ.up (by omega)) (by omega) (by omega) hf1 hf16 hf19 hg3 hg4 (fun v535 m533 hv535 hFv535 hJ534 => ?_)
    show X (EE s) d 94 19 [(0, zr 4 41), (1, zi v503)] [zi v535] m533 _
    refine X.retz i94_19 rfl t94 (by omega) ?_
    exact hQ v535 m533 (by first | trivial | omega) (Eq.trans (zn_eq hFv503.symm) (Eq.trans (zn_eq hFv506.symm) (Eq.trans (if_neg h507) (Eq.trans (zb_eq hFv535) rfl)))) (hJ534.up (by omega)) 
-- WorkMeter$CalendarText.readSign
theorem c105_2 {s : Nat × (Nat → Int32)} {S : zS} {m0 m : zM} {B : Int} {d : Nat} {Q : Option zV → zM → Prop} (a1 : Int) (hd : 14 ≤ d) (hJ : J S m0 B m) (hB : B + 0 ≤ 1000000000) (ha1 : 59 ≤ a1 ∧ a1 ≤ 59) (hf16 : ¬ S.1 16) (hf19 : ¬ S.1 19) (hg4 : ¬ S.2.1 4) (hQ : ∀ (v : Int) m', (0 ≤ v ∧ v ≤ 1) → f105_1 a1 m = (v, m') → J S m0 (B) m' → Q (some (zi v)) m') : X (EE s) d 105 0 [(0, zr 4 41), (1, zi a1)] [] m Q := by
  refine X.aload_n 1 i105_0 rfl rfl rfl ?_
  refine X.callv 4 [] [] [(0, zr 4 41)] i105_1 rfl (by decide) rfl rfl (by omega) rfl rfl (by decide) rfl t93 (Nat.le_of_ble_eq_true rfl) (Nat.le_of_ble_eq_true rfl) rfl ?_
  refine c93_1 (B := B)   (by omega) (hJ.up (by omega)) (by omega)  hf19 hg4 (fun m501 hFv503 hJ502 => ?_)
  show X (EE s) d 105 4 [(0, zr 4 41), (1, zi a1)] [] m501 _
  refine X.aload_n 5 i105_4 rfl rfl rfl ?_
  refine X.getI 8 7 i105_5 rfl rfl (by decide) rfl rfl rfl ?_
  have h504 := r41_7 hJ502 4
  refine X.aload_n 9 i105_8 rfl rfl rfl ?_
  refine X.getI 12 3 i105_9 rfl rfl (by decide) rfl rfl rfl ?_
  have h505 := r41_3 hJ502 4
  refine X.icmpge 28 15 i105_12 rfl rfl rfl (fun h506 => ?_) (fun h506 => ?_)
  · refine X.cut [(0, zr 4 41)] i105_28 rfl ?_
    refine X.aload_n 29 i105_28 rfl rfl rfl ?_
    refine X.iconst 30 i105_29 rfl rfl (by decide) ?_
    refine X.aload_n 31 i105_30 rfl rfl rfl ?_
    refine X.getI 34 7 i105_31 rfl rfl (by decide) rfl rfl rfl ?_
    refine X.callv 37 [zi 1, zi (m501 4 41 7)] [] [(0, zr 4 41), (1, zi 1), (2, zi (m501 4 41 7))] i105_34 rfl (by decide) rfl rfl (by omega) rfl rfl (by decide) rfl t102 (Nat.le_of_ble_eq_true rfl) (Nat.le_of_ble_eq_true rfl) rfl ?_
    refine c102_1 (B := B)  1 (m501 4 41 7) (by omega) (hJ502.up (by omega)) (by omega) (by omega) (by omega) hf16 hg4 (fun v509 m507 hv509 hFv509 hJ508 => ?_)
    show X (EE s) d 105 37 [(0, zr 4 41)] [zi v509] m507 _
    refine X.retz i105_37 rfl t105 (by omega) ?_
    exact hQ v509 m507 (by first | trivial | omega) (Eq.trans (zs_eq hFv503.symm) (Eq.trans (if_pos h506) (Eq.trans (zb_eq hFv509) rfl))) (hJ508.up (by omega)) 
  · refine X.aload_n 16 i105_15 rfl rfl rfl ?_
    refine X.getF 19 i105_16 rfl rfl (by decide) rfl rfl ?_
    refine X.aload_n 20 i105_19 rfl rfl rfl ?_
    refine X.getI 23 7 i105_20 rfl rfl (by decide) rfl rfl rfl ?_
    refine X.iald 24 i105_23 rfl rfl (by decide) rfl (by omega) ?_
    have h510 := r42_0 hJ502 4 (i := (m501 4 41 7)) (by omega)
    refine X.iload_n 25 i105_24 rfl rfl rfl ?_
    refine X.icmpeq 38 28 i105_25 rfl rfl rfl (fun h511 => ?_) (fun h511 => ?_)
    · refine X.cut [(0, zr 4 41)] i105_38 rfl ?_
      refine X.aload_n 39 i105_38 rfl rfl rfl ?_
      refine X.dup 40 i105_39 rfl rfl rfl ?_
      refine X.getI 43 7 i105_40 rfl rfl (by decide) rfl rfl rfl ?_
      refine X.iconst 44 i105_43 rfl rfl (by decide) ?_
      refine X.iadd 45 i105_44 rfl rfl (by omega) ?_
      refine X.putI' 48 7 i105_45 rfl rfl (by decide) rfl rfl rfl (fun hrm512 m512 hm512 => ?_)
      have hJ513 := w41_7 hJ502 hm512 (by omega) hf19 hg4
      have em512 : m512 4 41 7 = ((m501 4 41 7) + 1) := by rw [hm512]; exact z_upd_same _ _ _ _ _
      refine X.iconst 49 i105_48 rfl rfl (by decide) ?_
      refine X.retz i105_49 rfl t105 (by omega) ?_
      exact hQ 1 m512 (by first | trivial | omega) (Eq.trans (zs_eq hFv503.symm) (Eq.trans (if_neg h506) (Eq.trans (if_pos h511) (Eq.trans (zs_eq hm512) rfl)))) (hJ513.up (by omega)) 
    · refine X.cut [(0, zr 4 41)] i105_28 rfl ?_
      refine X.aload_n 29 i105_28 rfl rfl rfl ?_
      refine X.iconst 30 i105_29 rfl rfl (by decide) ?_
      refine X.aload_n 31 i105_30 rfl rfl rfl ?_
      refine X.getI 34 7 i105_31 rfl rfl (by decide) rfl rfl rfl ?_
      refine X.callv 37 [zi 1, zi (m501 4 41 7)] [] [(0, zr 4 41), (1, zi 1), (2, zi (m501 4 41 7))] i105_34 rfl (by decide) rfl rfl (by omega) rfl rfl (by decide) rfl t102 (Nat.le_of_ble_eq_true rfl) (Nat.le_of_ble_eq_true rfl) rfl ?_
      refine c102_1 (B := B)  1 (m501 4 41 7) (by omega) (hJ502.up (by omega)) (by omega) (by omega) (by omega) hf16 hg4 (fun v516 m514 hv516 hFv516 hJ515 => ?_)
      show X (EE s) d 105 37 [(0, zr 4 41)] [zi v516] m514 _
      refine X.retz i105_37 rfl t105 (by omega) ?_
      exact hQ v516 m514 (by first | trivial | omega) (Eq.trans (zs_eq hFv503.symm) (Eq.trans (if_neg h506) (Eq.trans (if_neg h511) (Eq.trans (zb_eq hFv516) rfl)))) (hJ515.up (by omega)) 
noncomputable def fl92_45_1_b (self : Int → Int → zM → Int × zM) (k99 : Int → zM → Int × zM) (y1 y2 : Int) (m : zM) : Int × zM :=
  if 300 < y2 then
  (k99 y1 m)
  else
  (if (m 4 41 3) ≤ (m 4 41 7) then
  (k99 y1 m)
  else
  (if (m 4 41 4) = 0 then
  (zb (f94_1 m) fun v526 m524 =>
  if v526 = 0 then
  (self y1 (y2 + 1) m524)
  else
  (zb (f105_1 59 m524) fun v530 m528 =>
  if v530 = 0 then
  (self y1 (y2 + 1) m528)
  else
  (zs (f93_1 m528) fun m532 =>
  self (y1 + 1) (y2 + 1) m532)))
  else
  (k99 y1 m)))
noncomputable def fl92_45_1 (k99 : Int → zM → Int × zM) : Nat → Int → Int → zM → Int × zM
  | 0 => fun y1 y2 m => (0, m)
  | n + 1 => fl92_45_1_b (fl92_45_1 k99 n) k99
theorem l92_45_1 {s : Nat × (Nat → Int32)} {S : zS} {m0 : zM} {d : Nat} {Q : Option zV → zM → Prop} {R0 : Int × zM} {k99 : Int → zM → Int × zM} (BE : Int) (hE : BE ≤ 1000000000) (hd : 19 ≤ d) (hf1 : ¬ S.1 1) (hf16 : ¬ S.1 16) (hf19 : ¬ S.1 19) (hg3 : ¬ S.2.1 3) (hg4 : ¬ S.2.1 4)
    (K99 : ∀ (x1 : Int) (m' : zM) (B' : Int), J S m0 B' m' → B' ≤ BE → (0 ≤ x1 ∧ x1 ≤ 301) → R0 = k99 x1 m' → X (EE s) d 92 99 [(0, zr 4 41), (1, zi x1)] [] m' Q) :
    ∀ (n : Nat) (y1 y2 : Int) (m : zM) (B : Int), J S m0 B m → B + 0 * (n : Int) ≤ BE → (0 ≤ y1 ∧ y1 ≤ 301) → (0 ≤ y2 ∧ y2 ≤ 301) → (y1 ≤ y2) → 301 - y2 < (n : Int) → R0 = fl92_45_1 k99 n y1 y2 m → X (EE s) d 92 45 [(0, zr 4 41), (1, zi y1), (2, zi y2)] [] m Q := by
  intro n
  induction n with
  | zero =>
    intro y1 y2 m B hJ hB hy1 hy2 hr0 hn hR
    exfalso
    omega
  | succ n ih =>
    intro y1 y2 m B hJ hB hy1 hy2 hr0 hn hR
    replace hR : R0 = fl92_45_1_b (fl92_45_1 k99 n) k99 y1 y2 m := hR
    refine X.iload_n 46 i92_45 rfl rfl rfl ?_
    refine X.sipush 49 i92_46 rfl rfl (by decide) ?_
    refine X.icmpgt 99 52 i92_49 rfl rfl rfl (fun h518 => ?_) (fun h518 => ?_)
    · refine X.cut [(0, zr 4 41), (1, zi y1)] i92_99 rfl ?_
      exact K99 y1 m (B) (hJ.up (by omega)) (by omega) (by first | trivial | omega) (Eq.trans hR (Eq.trans (if_pos h518) rfl))
    · refine X.aload_n 53 i92_52 rfl rfl rfl ?_
      refine X.getI 56 7 i92_53 rfl rfl (by decide) rfl rfl rfl ?_
      have h519 := r41_7 hJ 4
      refine X.aload_n 57 i92_56 rfl rfl rfl ?_
      refine X.getI 60 3 i92_57 rfl rfl (by decide) rfl rfl rfl ?_
      have h520 := r41_3 hJ 4
      refine X.icmpge 99 63 i92_60 rfl rfl rfl (fun h521 => ?_) (fun h521 => ?_)
      · refine X.cut [(0, zr 4 41), (1, zi y1)] i92_99 rfl ?_
        exact K99 y1 m (B) (hJ.up (by omega)) (by omega) (by first | trivial | omega) (Eq.trans hR (Eq.trans (if_neg h518) (Eq.trans (if_pos h521) rfl)))
      · refine X.aload_n 64 i92_63 rfl rfl rfl ?_
        refine X.getIr 67 4 i92_64 rfl rfl (by decide) rfl rfl rfl (fun h522 => ?_)
        refine X.ifne 99 70 i92_67 rfl rfl rfl (fun h523 => ?_) (fun h523 => ?_)
        · refine X.cut [(0, zr 4 41), (1, zi y1)] i92_99 rfl ?_
          exact K99 y1 m (B) (hJ.up (by omega)) (by omega) (by first | trivial | omega) (Eq.trans hR (Eq.trans (if_neg h518) (Eq.trans (if_neg h521) (Eq.trans (if_neg h523) rfl))))
        · refine X.aload_n 71 i92_70 rfl rfl rfl ?_
          refine X.callv 74 [] [] [(0, zr 4 41)] i92_71 rfl (by decide) rfl rfl (by omega) rfl rfl (by decide) rfl t94 (Nat.le_of_ble_eq_true rfl) (Nat.le_of_ble_eq_true rfl) rfl ?_
          refine c94_1 (B := B)   (by omega) (hJ.up (by omega)) (by omega)  hf1 hf16 hf19 hg3 hg4 (fun v526 m524 hv526 hFv526 hJ525 => ?_)
          show X (EE s) d 92 74 [(0, zr 4 41), (1, zi y1), (2, zi y2)] [zi v526] m524 _
          refine X.ifeq 93 77 i92_74 rfl rfl rfl (fun h527 => ?_) (fun h527 => ?_)
          · refine X.iinc 96 [(0, zr 4 41), (1, zi y1), (2, zi (y2 + 1))] i92_93 rfl rfl rfl (by omega) rfl ?_
            refine X.goto 45 i92_96 rfl rfl ?_
            exact ih y1 (y2 + 1) m524 (B) (hJ525.up (by omega)) (by omega) (by omega) (by omega) (by omega) (by omega) (Eq.trans hR (Eq.trans (if_neg h518) (Eq.trans (if_neg h521) (Eq.trans (if_pos h523) (Eq.trans (zb_eq hFv526) (Eq.trans (if_pos h527) rfl))))))
          · refine X.aload_n 78 i92_77 rfl rfl rfl ?_
            refine X.bipush 80 i92_78 rfl rfl (by decide) ?_
            refine X.callv 83 [zi 59] [] [(0, zr 4 41), (1, zi 59)] i92_80 rfl (by decide) rfl rfl (by omega) rfl rfl (by decide) rfl t105 (Nat.le_of_ble_eq_true rfl) (Nat.le_of_ble_eq_true rfl) rfl ?_
            refine c105_2 (B := B)  59 (by omega) (hJ525.up (by omega)) (by omega) (by omega) hf16 hf19 hg4 (fun v530 m528 hv530 hFv530 hJ529 => ?_)
            show X (EE s) d 92 83 [(0, zr 4 41), (1, zi y1), (2, zi y2)] [zi v530] m528 _
            refine X.ifeq 93 86 i92_83 rfl rfl rfl (fun h531 => ?_) (fun h531 => ?_)
            · refine X.iinc 96 [(0, zr 4 41), (1, zi y1), (2, zi (y2 + 1))] i92_93 rfl rfl rfl (by omega) rfl ?_
              refine X.goto 45 i92_96 rfl rfl ?_
              exact ih y1 (y2 + 1) m528 (B) (hJ529.up (by omega)) (by omega) (by omega) (by omega) (by omega) (by omega) (Eq.trans hR (Eq.trans (if_neg h518) (Eq.trans (if_neg h521) (Eq.trans (if_pos h523) (Eq.trans (zb_eq hFv526) (Eq.trans (if_neg h527) (Eq.trans (zb_eq hFv530) (Eq.trans (if_pos h531) rfl))))))))
            · refine X.iinc 89 [(0, zr 4 41), (1, zi (y1 + 1)), (2, zi y2)] i92_86 rfl rfl rfl (by omega) rfl ?_
              refine X.aload_n 90 i92_89 rfl rfl rfl ?_
              refine X.callv 93 [] [] [(0, zr 4 41)] i92_90 rfl (by decide) rfl rfl (by omega) rfl rfl (by decide) rfl t93 (Nat.le_of_ble_eq_true rfl) (Nat.le_of_ble_eq_true rfl) rfl ?_
              refine c93_1 (B := B)   (by omega) (hJ529.up (by omega)) (by omega)  hf19 hg4 (fun m532 hFv534 hJ533 => ?_)
              show X (EE s) d 92 93 [(0, zr 4 41), (1, zi (y1 + 1)), (2, zi y2)] [] m532 _
              refine X.iinc 96 [(0, zr 4 41), (1, zi (y1 + 1)), (2, zi (y2 + 1))] i92_93 rfl rfl rfl (by omega) rfl ?_
              refine X.goto 45 i92_96 rfl rfl ?_
              exact ih (y1 + 1) (y2 + 1) m532 (B) (hJ533.up (by omega)) (by omega) (by omega) (by omega) (by omega) (by omega) (Eq.trans hR (Eq.trans (if_neg h518) (Eq.trans (if_neg h521) (Eq.trans (if_pos h523) (Eq.trans (zb_eq hFv526) (Eq.trans (if_neg h527) (Eq.trans (zb_eq hFv530) (Eq.trans (if_neg h531) (Eq.trans (zs_eq hFv534.symm) rfl)))))))))
-- WorkMeter$CalendarText.readAll
noncomputable def f92_1 (m : zM) : Int × zM :=
  zs (f4_1 3 m) fun m501 =>
  zs (z_upd m501 4 41 4 0) fun m504 =>
  zs (z_upd m504 4 41 5 (-1)) fun m506 =>
  zs (z_upd m506 4 41 6 0) fun m508 =>
  zs (z_upd m508 4 41 7 0) fun m510 =>
  zs (z_upd m510 4 41 9 0) fun m512 =>
  zs (z_upd m512 4 41 10 0) fun m514 =>
  zs (f93_1 m514) fun m516 =>
  fl92_45_1 (fun y519 m520 =>
  zs (z_upd m520 4 41 3 0) fun m524 =>
  if (m524 4 41 4) = 0 then
  ((y519, m524))
  else
  (((-1), m524))) (zfu 302) 0 0 m516
-- WorkMeter$CalendarText.readAll
theorem c92_1 {s : Nat × (Nat → Int32)} {S : zS} {m0 m : zM} {B : Int} {d : Nat} {Q : Option zV → zM → Prop} (hd : 19 ≤ d) (hJ : J S m0 B m) (hB : B + 0 ≤ 1000000000) (hf1 : ¬ S.1 1) (hf15 : ¬ S.1 15) (hf16 : ¬ S.1 16) (hf19 : ¬ S.1 19) (hg3 : ¬ S.2.1 3) (hg4 : ¬ S.2.1 4) (hQ : ∀ (v : Int) m', ((-1) ≤ v ∧ v ≤ 301) → f92_1 m = (v, m') → J S m0 (B) m' → Q (some (zi v)) m') : X (EE s) d 92 0 [(0, zr 4 41)] [] m Q := by
  refine X.aload_n 1 i92_0 rfl rfl rfl ?_
  refine X.getF 4 i92_1 rfl rfl (by decide) rfl rfl ?_
  refine X.callv 7 [] [] [(0, zr 3 11)] i92_4 rfl (by decide) rfl rfl (by omega) rfl rfl (by decide) rfl t4 (Nat.le_of_ble_eq_true rfl) (Nat.le_of_ble_eq_true rfl) rfl ?_
  refine c4_1 (B := B) 3  (by omega) (hJ.up (by omega)) (by omega)  hf1 hg3 (fun m501 hFv503 hJ502 => ?_)
  show X (EE s) d 92 7 [(0, zr 4 41)] [] m501 _
  refine X.aload_n 8 i92_7 rfl rfl rfl ?_
  refine X.iconst 9 i92_8 rfl rfl (by decide) ?_
  refine X.putI' 12 4 i92_9 rfl rfl (by decide) rfl rfl rfl (fun hrm504 m504 hm504 => ?_)
  have hJ505 := w41_4 hJ502 hm504 (by omega) hrm504 hf16 hg4
  refine X.aload_n 13 i92_12 rfl rfl rfl ?_
  refine X.iconst 14 i92_13 rfl rfl (by decide) ?_
  refine X.putI' 17 5 i92_14 rfl rfl (by decide) rfl rfl rfl (fun hrm506 m506 hm506 => ?_)
  have hJ507 := w41_4 hJ505 hm506 (by omega) hrm506 hf16 hg4
  refine X.aload_n 18 i92_17 rfl rfl rfl ?_
  refine X.iconst 19 i92_18 rfl rfl (by decide) ?_
  refine X.putZ' 22 6 i92_19 rfl rfl (by decide) rfl rfl rfl (by omega) (fun hrm508 m508 hm508 => ?_)
  have hJ509 := w41_6 hJ507 hm508 (by omega) hf19 hg4
  refine X.aload_n 23 i92_22 rfl rfl rfl ?_
  refine X.iconst 24 i92_23 rfl rfl (by decide) ?_
  refine X.putI' 27 7 i92_24 rfl rfl (by decide) rfl rfl rfl (fun hrm510 m510 hm510 => ?_)
  have hJ511 := w41_7 hJ509 hm510 (by omega) hf19 hg4
  have em510 : m510 4 41 7 = 0 := by rw [hm510]; exact z_upd_same _ _ _ _ _
  refine X.aload_n 28 i92_27 rfl rfl rfl ?_
  refine X.iconst 29 i92_28 rfl rfl (by decide) ?_
  refine X.putI' 32 9 i92_29 rfl rfl (by decide) rfl rfl rfl (fun hrm512 m512 hm512 => ?_)
  have hJ513 := w41_8 hJ511 hm512 (by omega) hrm512 hf19 hg4
  refine X.aload_n 33 i92_32 rfl rfl rfl ?_
  refine X.iconst 34 i92_33 rfl rfl (by decide) ?_
  refine X.putI' 37 10 i92_34 rfl rfl (by decide) rfl rfl rfl (fun hrm514 m514 hm514 => ?_)
  have hJ515 := w41_8 hJ513 hm514 (by omega) hrm514 hf19 hg4
  refine X.iconst 38 i92_37 rfl rfl (by decide) ?_
  refine X.istore_n 39 [(0, zr 4 41), (1, zi 0)] i92_38 rfl rfl rfl ?_
  refine X.aload_n 40 i92_39 rfl rfl rfl ?_
  refine X.callv 43 [] [] [(0, zr 4 41)] i92_40 rfl (by decide) rfl rfl (by omega) rfl rfl (by decide) rfl t93 (Nat.le_of_ble_eq_true rfl) (Nat.le_of_ble_eq_true rfl) rfl ?_
  refine c93_1 (B := B)   (by omega) (hJ515.up (by omega)) (by omega)  hf19 hg4 (fun m516 hFv518 hJ517 => ?_)
  show X (EE s) d 92 43 [(0, zr 4 41), (1, zi 0)] [] m516 _
  refine X.iconst 44 i92_43 rfl rfl (by decide) ?_
  refine X.istore_n 45 [(0, zr 4 41), (1, zi 0), (2, zi 0)] i92_44 rfl rfl rfl ?_
  have hz302 := zfu_eq 302
  refine l92_45_1 (s := s) (d := d) (R0 := (f92_1 m))    (BE := B + 0) (by omega) (by omega) hf1 hf16 hf19 hg3 hg4 (fun y519 m520 B521 hJ522 hBB521 hby519 hR523 => ?_) (zfu 302) 0 0 m516 (B) (hJ517.up (by omega)) (by omega) (by omega) (by omega) (by omega) (by omega) (Eq.trans (zs_eq hFv503.symm) (Eq.trans (zs_eq hm504) (Eq.trans (zs_eq hm506) (Eq.trans (zs_eq hm508) (Eq.trans (zs_eq hm510) (Eq.trans (zs_eq hm512) (Eq.trans (zs_eq hm514) (Eq.trans (zs_eq hFv518.symm) rfl))))))))
  refine X.aload_n 100 i92_99 rfl rfl rfl ?_
  refine X.iconst 101 i92_100 rfl rfl (by decide) ?_
  refine X.putI' 104 3 i92_101 rfl rfl (by decide) rfl rfl rfl (fun hrm524 m524 hm524 => ?_)
  have hJ525 := w41_3 hJ522 hm524 (by omega) hf15 hg4
  have em524 : m524 4 41 3 = 0 := by rw [hm524]; exact z_upd_same _ _ _ _ _
  refine X.aload_n 105 i92_104 rfl rfl rfl ?_
  refine X.getIr 108 4 i92_105 rfl rfl (by decide) rfl rfl rfl (fun h526 => ?_)
  refine X.ifne 115 111 i92_108 rfl rfl rfl (fun h527 => ?_) (fun h527 => ?_)
  · refine X.cut [] i92_115 rfl ?_
    refine X.iconst 116 i92_115 rfl rfl (by decide) ?_
    refine X.reti i92_116 rfl t92 ?_
    exact hQ (-1) m524 (by first | trivial | omega) (Eq.trans hR523 (Eq.trans (zs_eq hm524) (Eq.trans (if_neg h527) rfl))) (hJ525.up (by omega)) 
  · refine X.iload_n 112 i92_111 rfl rfl rfl ?_
    refine X.goto 116 i92_112 rfl rfl ?_
    refine X.cut [] i92_116 rfl ?_
    refine X.reti i92_116 rfl t92 ?_
    exact hQ y519 m524 (by first | trivial | omega) (Eq.trans hR523 (Eq.trans (zs_eq hm524) (Eq.trans (if_pos h527) rfl))) (hJ525.up (by omega)) 
-- WorkMeter$Calendar.copyFrom
noncomputable def f111_1 (g0 g1 : Nat) (m : zM) : zM :=
  zs (z_cpy m g0 12 g1 12 0 0 8) fun m501 =>
  zs (z_cpy m501 g0 13 g1 13 0 0 48) fun m503 =>
  zs (z_cpy m503 g0 14 g1 14 0 0 48) fun m505 =>
  zs (z_cpy m505 g0 15 g1 15 0 0 4) fun m507 =>
  zs (z_cpy m507 g0 16 g1 16 0 0 28) fun m509 =>
  zs (z_cpy m509 g0 17 g1 17 0 0 16) fun m511 =>
  zs (z_cpy m511 g0 18 g1 18 0 0 16) fun m513 =>
  zs (z_upd m513 g0 11 7 (m513 g1 11 7)) fun m516 =>
  m516
-- WorkMeter$Calendar.copyFrom
theorem c111_1 {s : Nat × (Nat → Int32)} {S : zS} {m0 m : zM} {B : Int} {d : Nat} {Q : Option zV → zM → Prop} (g0 g1 : Nat) (hd : 13 ≤ d) (hJ : J S m0 B m) (hB : B + 0 ≤ 1000000000) (hf1 : ¬ S.1 1) (hgg0 : ¬ S.2.1 g0) (hQ : ∀ m', f111_1 g0 g1 m = m' → J S m0 (B) m' → Q none m') : X (EE s) d 111 0 [(0, zr g0 11), (1, zr g1 11)] [] m Q := by
  refine X.aload_n 1 i111_0 rfl rfl rfl ?_
  refine X.getR 4 i111_1 rfl rfl (by decide) rfl rfl ?_
  refine X.iconst 5 i111_4 rfl rfl (by decide) ?_
  refine X.aload_n 6 i111_5 rfl rfl rfl ?_
  refine X.getR 9 i111_6 rfl rfl (by decide) rfl rfl ?_
  refine X.iconst 10 i111_9 rfl rfl (by decide) ?_
  refine X.aload_n 11 i111_10 rfl rfl rfl ?_
  refine X.getR 14 i111_11 rfl rfl (by decide) rfl rfl ?_
  refine X.alen 15 i111_14 rfl rfl (by decide) rfl ?_
  show X (EE s) d 111 15 [(0, zr g0 11), (1, zr g1 11)] [zi 8, zi 0, zr g0 12, zi 0, zr g1 12] m _
  refine X.cpI' 18 i111_15 rfl rfl (by omega) (Nat.le_of_ble_eq_true rfl) (by decide) (by decide) rfl rfl (by omega) (fun m501 hm501 => ?_)
  have hJ502 := J.cpyS hJ hm501 rfl hf1 hgg0
  refine X.aload_n 19 i111_18 rfl rfl rfl ?_
  refine X.getR 22 i111_19 rfl rfl (by decide) rfl rfl ?_
  refine X.iconst 23 i111_22 rfl rfl (by decide) ?_
  refine X.aload_n 24 i111_23 rfl rfl rfl ?_
  refine X.getR 27 i111_24 rfl rfl (by decide) rfl rfl ?_
  refine X.iconst 28 i111_27 rfl rfl (by decide) ?_
  refine X.aload_n 29 i111_28 rfl rfl rfl ?_
  refine X.getR 32 i111_29 rfl rfl (by decide) rfl rfl ?_
  refine X.alen 33 i111_32 rfl rfl (by decide) rfl ?_
  show X (EE s) d 111 33 [(0, zr g0 11), (1, zr g1 11)] [zi 48, zi 0, zr g0 13, zi 0, zr g1 13] m501 _
  refine X.cpI' 36 i111_33 rfl rfl (by omega) (Nat.le_of_ble_eq_true rfl) (by decide) (by decide) rfl rfl (by omega) (fun m503 hm503 => ?_)
  have hJ504 := J.cpyS hJ502 hm503 rfl hf1 hgg0
  refine X.aload_n 37 i111_36 rfl rfl rfl ?_
  refine X.getR 40 i111_37 rfl rfl (by decide) rfl rfl ?_
  refine X.iconst 41 i111_40 rfl rfl (by decide) ?_
  refine X.aload_n 42 i111_41 rfl rfl rfl ?_
  refine X.getR 45 i111_42 rfl rfl (by decide) rfl rfl ?_
  refine X.iconst 46 i111_45 rfl rfl (by decide) ?_
  refine X.aload_n 47 i111_46 rfl rfl rfl ?_
  refine X.getR 50 i111_47 rfl rfl (by decide) rfl rfl ?_
  refine X.alen 51 i111_50 rfl rfl (by decide) rfl ?_
  show X (EE s) d 111 51 [(0, zr g0 11), (1, zr g1 11)] [zi 48, zi 0, zr g0 14, zi 0, zr g1 14] m503 _
  refine X.cpI' 54 i111_51 rfl rfl (by omega) (Nat.le_of_ble_eq_true rfl) (by decide) (by decide) rfl rfl (by omega) (fun m505 hm505 => ?_)
  have hJ506 := J.cpyS hJ504 hm505 rfl hf1 hgg0
  refine X.aload_n 55 i111_54 rfl rfl rfl ?_
  refine X.getR 58 i111_55 rfl rfl (by decide) rfl rfl ?_
  refine X.iconst 59 i111_58 rfl rfl (by decide) ?_
  refine X.aload_n 60 i111_59 rfl rfl rfl ?_
  refine X.getR 63 i111_60 rfl rfl (by decide) rfl rfl ?_
  refine X.iconst 64 i111_63 rfl rfl (by decide) ?_
  refine X.aload_n 65 i111_64 rfl rfl rfl ?_
  refine X.getR 68 i111_65 rfl rfl (by decide) rfl rfl ?_
  refine X.alen 69 i111_68 rfl rfl (by decide) rfl ?_
  show X (EE s) d 111 69 [(0, zr g0 11), (1, zr g1 11)] [zi 4, zi 0, zr g0 15, zi 0, zr g1 15] m505 _
  refine X.cpI' 72 i111_69 rfl rfl (by omega) (Nat.le_of_ble_eq_true rfl) (by decide) (by decide) rfl rfl (by omega) (fun m507 hm507 => ?_)
  have hJ508 := J.cpyS hJ506 hm507 rfl hf1 hgg0
  refine X.aload_n 73 i111_72 rfl rfl rfl ?_
  refine X.getR 76 i111_73 rfl rfl (by decide) rfl rfl ?_
  refine X.iconst 77 i111_76 rfl rfl (by decide) ?_
  refine X.aload_n 78 i111_77 rfl rfl rfl ?_
  refine X.getR 81 i111_78 rfl rfl (by decide) rfl rfl ?_
  refine X.iconst 82 i111_81 rfl rfl (by decide) ?_
  refine X.aload_n 83 i111_82 rfl rfl rfl ?_
  refine X.getR 86 i111_83 rfl rfl (by decide) rfl rfl ?_
  refine X.alen 87 i111_86 rfl rfl (by decide) rfl ?_
  show X (EE s) d 111 87 [(0, zr g0 11), (1, zr g1 11)] [zi 28, zi 0, zr g0 16, zi 0, zr g1 16] m507 _
  refine X.cpI' 90 i111_87 rfl rfl (by omega) (Nat.le_of_ble_eq_true rfl) (by decide) (by decide) rfl rfl (by omega) (fun m509 hm509 => ?_)
  have hJ510 := J.cpyS hJ508 hm509 rfl hf1 hgg0
  refine X.aload_n 91 i111_90 rfl rfl rfl ?_
  refine X.getR 94 i111_91 rfl rfl (by decide) rfl rfl ?_
  refine X.iconst 95 i111_94 rfl rfl (by decide) ?_
  refine X.aload_n 96 i111_95 rfl rfl rfl ?_
  refine X.getR 99 i111_96 rfl rfl (by decide) rfl rfl ?_
  refine X.iconst 100 i111_99 rfl rfl (by decide) ?_
  refine X.bipush 102 i111_100 rfl rfl (by decide) ?_
  refine X.cpI' 105 i111_102 rfl rfl (by omega) (Nat.le_of_ble_eq_true rfl) (by decide) (by decide) rfl rfl (by omega) (fun m511 hm511 => ?_)
  have hJ512 := J.cpyS hJ510 hm511 rfl hf1 hgg0
  refine X.aload_n 106 i111_105 rfl rfl rfl ?_
  refine X.getR 109 i111_106 rfl rfl (by decide) rfl rfl ?_
  refine X.iconst 110 i111_109 rfl rfl (by decide) ?_
  refine X.aload_n 111 i111_110 rfl rfl rfl ?_
  refine X.getR 114 i111_111 rfl rfl (by decide) rfl rfl ?_
  refine X.iconst 115 i111_114 rfl rfl (by decide) ?_
  refine X.bipush 117 i111_115 rfl rfl (by decide) ?_
  refine X.cpI' 120 i111_117 rfl rfl (by omega) (Nat.le_of_ble_eq_true rfl) (by decide) (by decide) rfl rfl (by omega) (fun m513 hm513 => ?_)
  have hJ514 := J.cpyS hJ512 hm513 rfl hf1 hgg0
  refine X.aload_n 121 i111_120 rfl rfl rfl ?_
  refine X.aload_n 122 i111_121 rfl rfl rfl ?_
  refine X.getI 125 7 i111_122 rfl rfl (by decide) rfl rfl rfl ?_
  have h515 := r11_7 hJ514 g1
  refine X.putI' 128 7 i111_125 rfl rfl (by decide) rfl rfl rfl (fun hrm516 m516 hm516 => ?_)
  have hJ517 := w11_7 hJ514 hm516 (by omega) hf1 hgg0
  have em516 : m516 g0 11 7 = (m513 g1 11 7) := by rw [hm516]; exact z_upd_same _ _ _ _ _
  refine X.retv i111_128 rfl t111 ?_
  exact hQ  m516  (Eq.trans (zs_eq hm501) (Eq.trans (zs_eq hm503) (Eq.trans (zs_eq hm505) (Eq.trans (zs_eq hm507) (Eq.trans (zs_eq hm509) (Eq.trans (zs_eq hm511) (Eq.trans (zs_eq hm513) (Eq.trans (zs_eq hm516) rfl)))))))) (hJ517.up (by omega)) 
-- WorkMeter$CalendarText.forget
noncomputable def f91_1 (m : zM) : zM :=
  zs (z_upd m 4 41 3 0) fun m501 =>
  zs (z_upd m501 4 41 4 0) fun m503 =>
  zs (z_upd m503 4 41 5 (-1)) fun m505 =>
  m505
-- WorkMeter$CalendarText.forget
theorem c91_1 {s : Nat × (Nat → Int32)} {S : zS} {m0 m : zM} {B : Int} {d : Nat} {Q : Option zV → zM → Prop} (hd : 13 ≤ d) (hJ : J S m0 B m) (hB : B + 0 ≤ 1000000000) (hf15 : ¬ S.1 15) (hf16 : ¬ S.1 16) (hg4 : ¬ S.2.1 4) (hQ : ∀ m', f91_1 m = m' → J S m0 (B) m' → Q none m') : X (EE s) d 91 0 [(0, zr 4 41)] [] m Q := by
  refine X.aload_n 1 i91_0 rfl rfl rfl ?_
  refine X.iconst 2 i91_1 rfl rfl (by decide) ?_
  refine X.putI' 5 3 i91_2 rfl rfl (by decide) rfl rfl rfl (fun hrm501 m501 hm501 => ?_)
  have hJ502 := w41_3 hJ hm501 (by omega) hf15 hg4
  have em501 : m501 4 41 3 = 0 := by rw [hm501]; exact z_upd_same _ _ _ _ _
  refine X.aload_n 6 i91_5 rfl rfl rfl ?_
  refine X.iconst 7 i91_6 rfl rfl (by decide) ?_
  refine X.putI' 10 4 i91_7 rfl rfl (by decide) rfl rfl rfl (fun hrm503 m503 hm503 => ?_)
  have hJ504 := w41_4 hJ502 hm503 (by omega) hrm503 hf16 hg4
  refine X.aload_n 11 i91_10 rfl rfl rfl ?_
  refine X.iconst 12 i91_11 rfl rfl (by decide) ?_
  refine X.putI' 15 5 i91_12 rfl rfl (by decide) rfl rfl rfl (fun hrm505 m505 hm505 => ?_)
  have hJ506 := w41_4 hJ504 hm505 (by omega) hrm505 hf16 hg4
  refine X.retv i91_15 rfl t91 ?_
  exact hQ  m505  (Eq.trans (zs_eq hm501) (Eq.trans (zs_eq hm503) (Eq.trans (zs_eq hm505) rfl))) (hJ506.up (by omega)) 
-- WorkMeter.calendar
noncomputable def f90_1 (m : zM) : Int × zM :=
  zb (f17_1 0 m) fun v503 m501 =>
  if v503 = 0 then
  (zb (f92_1 m501) fun v507 m505 =>
  zs (if v507 = (-1) then
  (m505)
  else
  (zs (f111_1 0 3 m505) fun m509 =>
  if (m509 4 41 6) = 0 then
  (m509)
  else
  (zs (z_cpy m509 0 10 4 43 0 6 4) fun m514 =>
  m514))) fun m517 =>
  (v507, m517))
  else
  (zs (f91_1 m501) fun m521 =>
  ((-1), m521))
-- WorkMeter.calendar
theorem c90_1 {s : Nat × (Nat → Int32)} {S : zS} {m0 m : zM} {B : Int} {d : Nat} {Q : Option zV → zM → Prop} (hd : 20 ≤ d) (hJ : J S m0 B m) (hB : B + 0 ≤ 1000000000) (hf1 : ¬ S.1 1) (hf3 : ¬ S.1 3) (hf4 : ¬ S.1 4) (hf15 : ¬ S.1 15) (hf16 : ¬ S.1 16) (hf19 : ¬ S.1 19) (hg0 : ¬ S.2.1 0) (hg3 : ¬ S.2.1 3) (hg4 : ¬ S.2.1 4) (hQ : ∀ (v : Int) m', ((-1) ≤ v ∧ v ≤ 301) → f90_1 m = (v, m') → J S m0 (B) m' → Q (some (zi v)) m') : X (EE s) d 90 0 [(0, zr 4 40)] [] m Q := by
  refine X.aload_n 1 i90_0 rfl rfl rfl ?_
  refine X.getF 4 i90_1 rfl rfl (by decide) rfl rfl ?_
  refine X.getR 7 i90_4 rfl rfl (by decide) rfl rfl ?_
  refine X.callv 10 [] [] [(0, zr 0 39)] i90_7 rfl (by decide) rfl rfl (by omega) rfl rfl (by decide) rfl t17 (Nat.le_of_ble_eq_true rfl) (Nat.le_of_ble_eq_true rfl) rfl ?_
  refine c17_1 (B := B) 0  (by omega) (hJ.up (by omega)) (by omega)  hf4 hg0 (fun v503 m501 hv503 hFv503 hJ502 => ?_)
  show X (EE s) d 90 10 [(0, zr 4 40)] [zi v503] m501 _
  refine X.ifeq 22 13 i90_10 rfl rfl rfl (fun h504 => ?_) (fun h504 => ?_)
  · refine X.aload_n 23 i90_22 rfl rfl rfl ?_
    refine X.getF 26 i90_23 rfl rfl (by decide) rfl rfl ?_
    refine X.callv 29 [] [] [(0, zr 4 41)] i90_26 rfl (by decide) rfl rfl (by omega) rfl rfl (by decide) rfl t92 (Nat.le_of_ble_eq_true rfl) (Nat.le_of_ble_eq_true rfl) rfl ?_
    refine c92_1 (B := B)   (by omega) (hJ502.up (by omega)) (by omega)  hf1 hf15 hf16 hf19 hg3 hg4 (fun v507 m505 hv507 hFv507 hJ506 => ?_)
    show X (EE s) d 90 29 [(0, zr 4 40)] [zi v507] m505 _
    refine X.istore_n 30 [(0, zr 4 40), (1, zi v507)] i90_29 rfl rfl rfl ?_
    refine X.iload_n 31 i90_30 rfl rfl rfl ?_
    refine X.iconst 32 i90_31 rfl rfl (by decide) ?_
    have hK519 : ∀ (m' : zM), (if v507 = (-1) then
        (m505)
        else
        (zs (f111_1 0 3 m505) fun m509 =>
        if (m509 4 41 6) = 0 then
        (m509)
        else
        (zs (z_cpy m509 0 10 4 43 0 6 4) fun m514 =>
        m514))) = m' → J S m0 (B) m' → X (EE s) d 90 79 [(1, zi v507)] [] m' Q := by
      intro m517 hT520 hJ518
      refine X.iload_n 80 i90_79 rfl rfl rfl ?_
      refine X.reti i90_80 rfl t90 ?_
      exact hQ v507 m517 (by first | trivial | omega) (Eq.trans (zb_eq hFv503) (Eq.trans (if_pos h504) (Eq.trans (zb_eq hFv507) (Eq.trans (zs_eq hT520.symm) rfl)))) (hJ518.up (by omega)) 
    refine X.icmpeq 79 35 i90_32 rfl rfl rfl (fun h508 => ?_) (fun h508 => ?_)
    · refine X.cut [(1, zi v507)] i90_79 rfl ?_
      exact hK519 m505 (Eq.trans (if_pos h508) rfl) (hJ506.up (by omega))
    · refine X.aload_n 36 i90_35 rfl rfl rfl ?_
      refine X.getF 39 i90_36 rfl rfl (by decide) rfl rfl ?_
      refine X.getR 42 i90_39 rfl rfl (by decide) rfl rfl ?_
      refine X.aload_n 43 i90_42 rfl rfl rfl ?_
      refine X.getF 46 i90_43 rfl rfl (by decide) rfl rfl ?_
      refine X.getF 49 i90_46 rfl rfl (by decide) rfl rfl ?_
      refine X.callv 52 [zr 3 11] [] [(0, zr 0 11), (1, zr 3 11)] i90_49 rfl (by decide) rfl rfl (by omega) rfl rfl (by decide) rfl t111 (Nat.le_of_ble_eq_true rfl) (Nat.le_of_ble_eq_true rfl) rfl ?_
      refine c111_1 (B := B) 0 3  (by omega) (hJ506.up (by omega)) (by omega)  hf1 hg0 (fun m509 hFv511 hJ510 => ?_)
      show X (EE s) d 90 52 [(0, zr 4 40), (1, zi v507)] [] m509 _
      refine X.aload_n 53 i90_52 rfl rfl rfl ?_
      refine X.getF 56 i90_53 rfl rfl (by decide) rfl rfl ?_
      refine X.getZ 59 6 i90_56 rfl rfl (by decide) rfl rfl rfl (fun h512 => ?_)
      refine X.ifeq 79 62 i90_59 rfl rfl rfl (fun h513 => ?_) (fun h513 => ?_)
      · refine X.cut [(1, zi v507)] i90_79 rfl ?_
        exact hK519 m509 (Eq.trans (if_neg h508) (Eq.trans (zs_eq hFv511.symm) (Eq.trans (if_pos h513) rfl))) (hJ510.up (by omega))
      · refine X.aload_n 63 i90_62 rfl rfl rfl ?_
        refine X.getF 66 i90_63 rfl rfl (by decide) rfl rfl ?_
        refine X.getR 69 i90_66 rfl rfl (by decide) rfl rfl ?_
        refine X.aload_n 70 i90_69 rfl rfl rfl ?_
        refine X.getF 73 i90_70 rfl rfl (by decide) rfl rfl ?_
        refine X.getF 76 i90_73 rfl rfl (by decide) rfl rfl ?_
        refine X.callv 79 [zr 4 43] [] [(0, zr 0 9), (1, zr 4 43)] i90_76 rfl (by decide) rfl rfl (by omega) rfl rfl (by decide) rfl t112 (Nat.le_of_ble_eq_true rfl) (Nat.le_of_ble_eq_true rfl) rfl ?_
        refine X.aload_n 1 i112_0 rfl rfl rfl ?_
        refine X.iconst 2 i112_1 rfl rfl (by decide) ?_
        refine X.aload_n 3 i112_2 rfl rfl rfl ?_
        refine X.getR 6 i112_3 rfl rfl (by decide) rfl rfl ?_
        refine X.bipush 8 i112_6 rfl rfl (by decide) ?_
        refine X.iconst 9 i112_8 rfl rfl (by decide) ?_
        refine X.cpI' 12 i112_9 rfl rfl (by omega) (Nat.le_of_ble_eq_true rfl) (by decide) (by decide) rfl rfl (by omega) (fun m514 hm514 => ?_)
        have hJ515 := J.cpyP hJ510 hm514 (by omega) hf3 hg0
        refine X.retv i112_12 rfl t112 ?_
        show X (EE s) d 90 79 [(0, zr 4 40), (1, zi v507)] [] m514 _
        refine X.cut [(1, zi v507)] i90_79 rfl ?_
        exact hK519 m514 (Eq.trans (if_neg h508) (Eq.trans (zs_eq hFv511.symm) (Eq.trans (if_neg h513) (Eq.trans (zs_eq hm514) rfl)))) (hJ515.up (by omega))
  · refine X.aload_n 14 i90_13 rfl rfl rfl ?_
    refine X.getF 17 i90_14 rfl rfl (by decide) rfl rfl ?_
    refine X.callv 20 [] [] [(0, zr 4 41)] i90_17 rfl (by decide) rfl rfl (by omega) rfl rfl (by decide) rfl t91 (Nat.le_of_ble_eq_true rfl) (Nat.le_of_ble_eq_true rfl) rfl ?_
    refine c91_1 (B := B)   (by omega) (hJ502.up (by omega)) (by omega)  hf15 hf16 hg4 (fun m521 hFv523 hJ522 => ?_)
    show X (EE s) d 90 20 [(0, zr 4 40)] [] m521 _
    refine X.iconst 21 i90_20 rfl rfl (by decide) ?_
    refine X.reti i90_21 rfl t90 ?_
    exact hQ (-1) m521 (by first | trivial | omega) (Eq.trans (zb_eq hFv503) (Eq.trans (if_neg h504) (Eq.trans (zs_eq hFv523.symm) rfl))) (hJ522.up (by omega)) 
noncomputable def fl262_2_1_b (self : Int → zM → zM) (k32 : zM → zM) (y1 : Int) (m : zM) : zM :=
  if 8 ≤ y1 then
  (k32 m)
  else
  (zs (z_upd m 4 45 (287 + y1) 0) fun m507 =>
  zs (z_upd m507 4 49 y1 0) fun m509 =>
  self (y1 + 1) m509)
noncomputable def fl262_2_1 (k32 : zM → zM) : Nat → Int → zM → zM
  | 0 => fun y1 m => m
  | n + 1 => fl262_2_1_b (fl262_2_1 k32 n) k32
theorem l262_2_1 {s : Nat × (Nat → Int32)} {S : zS} {m0 : zM} {d : Nat} {Q : Option zV → zM → Prop} {R0 : zM} {k32 : zM → zM} (BE : Int) (hE : BE ≤ 1000000000) (hd : 13 ≤ d) (hf21 : ¬ S.1 21) (hf39 : ¬ S.1 39) (hg4 : ¬ S.2.1 4)
    (K32 : ∀ (m' : zM) (B' : Int), J S m0 B' m' → B' ≤ BE → R0 = k32 m' → X (EE s) d 262 32 [(0, zr 4 44)] [] m' Q) :
    ∀ (n : Nat) (y1 : Int) (m : zM) (B : Int), J S m0 B m → B + 0 * (n : Int) ≤ BE → (0 ≤ y1 ∧ y1 ≤ 8) → 8 - y1 < (n : Int) → R0 = fl262_2_1 k32 n y1 m → X (EE s) d 262 2 [(0, zr 4 44), (1, zi y1)] [] m Q := by
  intro n
  induction n with
  | zero =>
    intro y1 m B hJ hB hy1 hn hR
    exfalso
    omega
  | succ n ih =>
    intro y1 m B hJ hB hy1 hn hR
    replace hR : R0 = fl262_2_1_b (fl262_2_1 k32 n) k32 y1 m := hR
    refine X.iload_n 3 i262_2 rfl rfl rfl ?_
    refine X.bipush 5 i262_3 rfl rfl (by decide) ?_
    refine X.icmpge 32 8 i262_5 rfl rfl rfl (fun h506 => ?_) (fun h506 => ?_)
    · refine X.cut [(0, zr 4 44)] i262_32 rfl ?_
      exact K32  m (B) (hJ.up (by omega)) (by omega)  (Eq.trans hR (Eq.trans (if_pos h506) rfl))
    · refine X.aload_n 9 i262_8 rfl rfl rfl ?_
      refine X.getF 12 i262_9 rfl rfl (by decide) rfl rfl ?_
      refine X.sipush 15 i262_12 rfl rfl (by decide) ?_
      refine X.iload_n 16 i262_15 rfl rfl rfl ?_
      refine X.iadd 17 i262_16 rfl rfl (by omega) ?_
      refine X.lconst (y := 0) 18 i262_17 rfl rfl rfl ?_
      refine X.last' 19 i262_18 rfl rfl (by decide) rfl (by omega) (fun hrm507 m507 hm507 => ?_)
      have hJ508 := w45_287 hJ hm507 (by omega) (by omega) hf21 hg4
      refine X.aload_n 20 i262_19 rfl rfl rfl ?_
      refine X.getF 23 i262_20 rfl rfl (by decide) rfl rfl ?_
      refine X.iload_n 24 i262_23 rfl rfl rfl ?_
      refine X.iconst 25 i262_24 rfl rfl (by decide) ?_
      refine X.zast' 26 i262_25 rfl rfl (by decide) rfl (by omega) (by omega) (fun hrm509 m509 hm509 => ?_)
      have hJ510 := w49_0 hJ508 hm509 (by omega) hrm509 hf39 hg4
      refine X.iinc 29 [(0, zr 4 44), (1, zi (y1 + 1))] i262_26 rfl rfl rfl (by omega) rfl ?_
      refine X.goto 2 i262_29 rfl rfl ?_
      exact ih (y1 + 1) m509 (B) (hJ510.up (by omega)) (by omega) (by omega) (by omega) (Eq.trans hR (Eq.trans (if_neg h506) (Eq.trans (zs_eq hm507) (Eq.trans (zs_eq hm509) rfl))))
noncomputable def fl262_34_1_b (self : Int → zM → zM) (k73 : zM → zM) (y1 : Int) (m : zM) : zM :=
  if 4 ≤ y1 then
  (k73 m)
  else
  (zn (if y1 = 0 then
  (0)
  else
  ((-1))) fun v514 =>
  zs (z_upd m 4 45 (391 + y1) v514) fun m519 =>
  zs (z_upd m519 4 50 y1 0) fun m521 =>
  self (y1 + 1) m521)
noncomputable def fl262_34_1 (k73 : zM → zM) : Nat → Int → zM → zM
  | 0 => fun y1 m => m
  | n + 1 => fl262_34_1_b (fl262_34_1 k73 n) k73
theorem l262_34_1 {s : Nat × (Nat → Int32)} {S : zS} {m0 : zM} {d : Nat} {Q : Option zV → zM → Prop} {R0 : zM} {k73 : zM → zM} (BE : Int) (hE : BE ≤ 1000000000) (hd : 13 ≤ d) (hf21 : ¬ S.1 21) (hf39 : ¬ S.1 39) (hg4 : ¬ S.2.1 4)
    (K73 : ∀ (m' : zM) (B' : Int), J S m0 B' m' → B' ≤ BE → R0 = k73 m' → X (EE s) d 262 73 [(0, zr 4 44)] [] m' Q) :
    ∀ (n : Nat) (y1 : Int) (m : zM) (B : Int), J S m0 B m → B + 0 * (n : Int) ≤ BE → (0 ≤ y1 ∧ y1 ≤ 4) → 4 - y1 < (n : Int) → R0 = fl262_34_1 k73 n y1 m → X (EE s) d 262 34 [(0, zr 4 44), (1, zi y1)] [] m Q := by
  intro n
  induction n with
  | zero =>
    intro y1 m B hJ hB hy1 hn hR
    exfalso
    omega
  | succ n ih =>
    intro y1 m B hJ hB hy1 hn hR
    replace hR : R0 = fl262_34_1_b (fl262_34_1 k73 n) k73 y1 m := hR
    refine X.iload_n 35 i262_34 rfl rfl rfl ?_
    refine X.iconst 36 i262_35 rfl rfl (by decide) ?_
    refine X.icmpge 73 39 i262_36 rfl rfl rfl (fun h512 => ?_) (fun h512 => ?_)
    · refine X.cut [(0, zr 4 44)] i262_73 rfl ?_
      exact K73  m (B) (hJ.up (by omega)) (by omega)  (Eq.trans hR (Eq.trans (if_pos h512) rfl))
    · refine X.aload_n 40 i262_39 rfl rfl rfl ?_
      refine X.getF 43 i262_40 rfl rfl (by decide) rfl rfl ?_
      refine X.sipush 46 i262_43 rfl rfl (by decide) ?_
      refine X.iload_n 47 i262_46 rfl rfl rfl ?_
      refine X.iadd 48 i262_47 rfl rfl (by omega) ?_
      refine X.iload_n 49 i262_48 rfl rfl rfl ?_
      have hK517 : ∀ (v : Int) , ((-1) ≤ v ∧ v ≤ 0) → (if y1 = 0 then
          (0)
          else
          ((-1))) = v → X (EE s) d 262 59 [(0, zr 4 44), (1, zi y1)] [zl v, zi (391 + y1), zr 4 45] m Q := by
        intro v514 hv514 hT518
        refine X.last' 60 i262_59 rfl rfl (by decide) rfl (by omega) (fun hrm519 m519 hm519 => ?_)
        have hJ520 := w45_391 hJ hm519 (by omega) (by omega) hf21 hg4
        refine X.aload_n 61 i262_60 rfl rfl rfl ?_
        refine X.getF 64 i262_61 rfl rfl (by decide) rfl rfl ?_
        refine X.iload_n 65 i262_64 rfl rfl rfl ?_
        refine X.iconst 66 i262_65 rfl rfl (by decide) ?_
        refine X.zast' 67 i262_66 rfl rfl (by decide) rfl (by omega) (by omega) (fun hrm521 m521 hm521 => ?_)
        have hJ522 := w50_0 hJ520 hm521 (by omega) hrm521 hf39 hg4
        refine X.iinc 70 [(0, zr 4 44), (1, zi (y1 + 1))] i262_67 rfl rfl rfl (by omega) rfl ?_
        refine X.goto 34 i262_70 rfl rfl ?_
        exact ih (y1 + 1) m521 (B) (hJ522.up (by omega)) (by omega) (by omega) (by omega) (Eq.trans hR (Eq.trans (if_neg h512) (Eq.trans (zn_eq hT518.symm) (Eq.trans (zs_eq hm519) (Eq.trans (zs_eq hm521) rfl)))))
      refine X.ifne 56 52 i262_49 rfl rfl rfl (fun h513 => ?_) (fun h513 => ?_)
      · refine X.ldc2 59 i262_56 rfl rfl (by decide) ?_
        exact hK517 (-1) (by first | trivial | omega) (Eq.trans (if_neg h513) rfl)
      · refine X.lconst (y := 0) 53 i262_52 rfl rfl rfl ?_
        refine X.goto 59 i262_53 rfl rfl ?_
        exact hK517 0 (by first | trivial | omega) (Eq.trans (if_pos h513) rfl)
noncomputable def fl262_75_1_b (self : Int → zM → zM) (k98 : zM → zM) (y1 : Int) (m : zM) : zM :=
  if 28 ≤ y1 then
  (k98 m)
  else
  (zs (z_upd m 4 45 (395 + y1) 0) fun m505 =>
  self (y1 + 1) m505)
noncomputable def fl262_75_1 (k98 : zM → zM) : Nat → Int → zM → zM
  | 0 => fun y1 m => m
  | n + 1 => fl262_75_1_b (fl262_75_1 k98 n) k98
theorem l262_75_1 {s : Nat × (Nat → Int32)} {S : zS} {m0 : zM} {d : Nat} {Q : Option zV → zM → Prop} {R0 : zM} {k98 : zM → zM} (BE : Int) (hE : BE ≤ 1000000000) (hd : 13 ≤ d) (hf21 : ¬ S.1 21) (hg4 : ¬ S.2.1 4)
    (K98 : ∀ (m' : zM) (B' : Int), J S m0 B' m' → B' ≤ BE → R0 = k98 m' → X (EE s) d 262 98 [(0, zr 4 44)] [] m' Q) :
    ∀ (n : Nat) (y1 : Int) (m : zM) (B : Int), J S m0 B m → B + 0 * (n : Int) ≤ BE → (0 ≤ y1 ∧ y1 ≤ 28) → 28 - y1 < (n : Int) → R0 = fl262_75_1 k98 n y1 m → X (EE s) d 262 75 [(0, zr 4 44), (1, zi y1)] [] m Q := by
  intro n
  induction n with
  | zero =>
    intro y1 m B hJ hB hy1 hn hR
    exfalso
    omega
  | succ n ih =>
    intro y1 m B hJ hB hy1 hn hR
    replace hR : R0 = fl262_75_1_b (fl262_75_1 k98 n) k98 y1 m := hR
    refine X.iload_n 76 i262_75 rfl rfl rfl ?_
    refine X.bipush 78 i262_76 rfl rfl (by decide) ?_
    refine X.icmpge 98 81 i262_78 rfl rfl rfl (fun h504 => ?_) (fun h504 => ?_)
    · refine X.cut [(0, zr 4 44)] i262_98 rfl ?_
      exact K98  m (B) (hJ.up (by omega)) (by omega)  (Eq.trans hR (Eq.trans (if_pos h504) rfl))
    · refine X.aload_n 82 i262_81 rfl rfl rfl ?_
      refine X.getF 85 i262_82 rfl rfl (by decide) rfl rfl ?_
      refine X.sipush 88 i262_85 rfl rfl (by decide) ?_
      refine X.iload_n 89 i262_88 rfl rfl rfl ?_
      refine X.iadd 90 i262_89 rfl rfl (by omega) ?_
      refine X.lconst (y := 0) 91 i262_90 rfl rfl rfl ?_
      refine X.last' 92 i262_91 rfl rfl (by decide) rfl (by omega) (fun hrm505 m505 hm505 => ?_)
      have hJ506 := w45_395 hJ hm505 (by omega) (by omega) hf21 hg4
      refine X.iinc 95 [(0, zr 4 44), (1, zi (y1 + 1))] i262_92 rfl rfl rfl (by omega) rfl ?_
      refine X.goto 75 i262_95 rfl rfl ?_
      exact ih (y1 + 1) m505 (B) (hJ506.up (by omega)) (by omega) (by omega) (by omega) (Eq.trans hR (Eq.trans (if_neg h504) (Eq.trans (zs_eq hm505) rfl)))
noncomputable def fl262_100_1_b (self : Int → zM → zM) (k126 : zM → zM) (y1 : Int) (m : zM) : zM :=
  if 365 ≤ y1 then
  (k126 m)
  else
  (zs (z_upd m 4 45 (423 + y1) (-1)) fun m505 =>
  self (y1 + 1) m505)
noncomputable def fl262_100_1 (k126 : zM → zM) : Nat → Int → zM → zM
  | 0 => fun y1 m => m
  | n + 1 => fl262_100_1_b (fl262_100_1 k126 n) k126
theorem l262_100_1 {s : Nat × (Nat → Int32)} {S : zS} {m0 : zM} {d : Nat} {Q : Option zV → zM → Prop} {R0 : zM} {k126 : zM → zM} (BE : Int) (hE : BE ≤ 1000000000) (hd : 13 ≤ d) (hf21 : ¬ S.1 21) (hg4 : ¬ S.2.1 4)
    (K126 : ∀ (m' : zM) (B' : Int), J S m0 B' m' → B' ≤ BE → R0 = k126 m' → X (EE s) d 262 126 [(0, zr 4 44)] [] m' Q) :
    ∀ (n : Nat) (y1 : Int) (m : zM) (B : Int), J S m0 B m → B + 0 * (n : Int) ≤ BE → (0 ≤ y1 ∧ y1 ≤ 365) → 365 - y1 < (n : Int) → R0 = fl262_100_1 k126 n y1 m → X (EE s) d 262 100 [(0, zr 4 44), (1, zi y1)] [] m Q := by
  intro n
  induction n with
  | zero =>
    intro y1 m B hJ hB hy1 hn hR
    exfalso
    omega
  | succ n ih =>
    intro y1 m B hJ hB hy1 hn hR
    replace hR : R0 = fl262_100_1_b (fl262_100_1 k126 n) k126 y1 m := hR
    refine X.iload_n 101 i262_100 rfl rfl rfl ?_
    refine X.sipush 104 i262_101 rfl rfl (by decide) ?_
    refine X.icmpge 126 107 i262_104 rfl rfl rfl (fun h504 => ?_) (fun h504 => ?_)
    · refine X.cut [(0, zr 4 44)] i262_126 rfl ?_
      exact K126  m (B) (hJ.up (by omega)) (by omega)  (Eq.trans hR (Eq.trans (if_pos h504) rfl))
    · refine X.aload_n 108 i262_107 rfl rfl rfl ?_
      refine X.getF 111 i262_108 rfl rfl (by decide) rfl rfl ?_
      refine X.sipush 114 i262_111 rfl rfl (by decide) ?_
      refine X.iload_n 115 i262_114 rfl rfl rfl ?_
      refine X.iadd 116 i262_115 rfl rfl (by omega) ?_
      refine X.ldc2 119 i262_116 rfl rfl (by decide) ?_
      refine X.last' 120 i262_119 rfl rfl (by decide) rfl (by omega) (fun hrm505 m505 hm505 => ?_)
      have hJ506 := w45_423 hJ hm505 (by omega) (by omega) hf21 hg4
      refine X.iinc 123 [(0, zr 4 44), (1, zi (y1 + 1))] i262_120 rfl rfl rfl (by omega) rfl ?_
      refine X.goto 100 i262_123 rfl rfl ?_
      exact ih (y1 + 1) m505 (B) (hJ506.up (by omega)) (by omega) (by omega) (by omega) (Eq.trans hR (Eq.trans (if_neg h504) (Eq.trans (zs_eq hm505) rfl)))
-- WorkMeterModel.clears
noncomputable def f262_1 (m : zM) : zM :=
  fl262_2_1 (fun m501 =>
  fl262_34_1 (fun m505 =>
  fl262_75_1 (fun m509 =>
  fl262_100_1 (fun m513 =>
  zs (z_upd m513 4 44 13 0) fun m517 =>
  zs (z_upd m517 4 44 14 0) fun m519 =>
  m519) (zfu 366) 0 m509) (zfu 29) 0 m505) (zfu 5) 0 m501) (zfu 9) 0 m
-- WorkMeterModel.clears
theorem c262_1 {s : Nat × (Nat → Int32)} {S : zS} {m0 m : zM} {B : Int} {d : Nat} {Q : Option zV → zM → Prop} (hd : 13 ≤ d) (hJ : J S m0 B m) (hB : B + 0 ≤ 1000000000) (hf21 : ¬ S.1 21) (hf39 : ¬ S.1 39) (hg4 : ¬ S.2.1 4) (hQ : ∀ m', f262_1 m = m' → J S m0 (B) m' → Q none m') : X (EE s) d 262 0 [(0, zr 4 44)] [] m Q := by
  refine X.iconst 1 i262_0 rfl rfl (by decide) ?_
  refine X.istore_n 2 [(0, zr 4 44), (1, zi 0)] i262_1 rfl rfl rfl ?_
  have hz9 := zfu_eq 9
  refine l262_2_1 (s := s) (d := d) (R0 := (f262_1 m))    (BE := B + 0) (by omega) (by omega) hf21 hf39 hg4 (fun  m501 B502 hJ503 hBB502 hR504 => ?_) (zfu 9) 0 m (B) (hJ.up (by omega)) (by omega) (by omega) (by omega) rfl
  refine X.iconst 33 i262_32 rfl rfl (by decide) ?_
  refine X.istore_n 34 [(0, zr 4 44), (1, zi 0)] i262_33 rfl rfl rfl ?_
  have hz5 := zfu_eq 5
  refine l262_34_1 (s := s) (d := d)    (BE := B502 + 0) (by omega) (by omega) hf21 hf39 hg4 (fun  m505 B506 hJ507 hBB506 hR508 => ?_) (zfu 5) 0 m501 (B502) (hJ503.up (by omega)) (by omega) (by omega) (by omega) (Eq.trans hR504 rfl)
  refine X.iconst 74 i262_73 rfl rfl (by decide) ?_
  refine X.istore_n 75 [(0, zr 4 44), (1, zi 0)] i262_74 rfl rfl rfl ?_
  have hz29 := zfu_eq 29
  refine l262_75_1 (s := s) (d := d)    (BE := B506 + 0) (by omega) (by omega) hf21 hg4 (fun  m509 B510 hJ511 hBB510 hR512 => ?_) (zfu 29) 0 m505 (B506) (hJ507.up (by omega)) (by omega) (by omega) (by omega) (Eq.trans hR508 rfl)
  refine X.iconst 99 i262_98 rfl rfl (by decide) ?_
  refine X.istore_n 100 [(0, zr 4 44), (1, zi 0)] i262_99 rfl rfl rfl ?_
  have hz366 := zfu_eq 366
  refine l262_100_1 (s := s) (d := d)    (BE := B510 + 0) (by omega) (by omega) hf21 hg4 (fun  m513 B514 hJ515 hBB514 hR516 => ?_) (zfu 366) 0 m509 (B510) (hJ511.up (by omega)) (by omega) (by omega) (by omega) (Eq.trans hR512 rfl)
  refine X.aload_n 127 i262_126 rfl rfl rfl ?_
  refine X.iconst 128 i262_127 rfl rfl (by decide) ?_
  refine X.putI' 131 13 i262_128 rfl rfl (by decide) rfl rfl rfl (fun hrm517 m517 hm517 => ?_)
  have hJ518 := w44_10 hJ515 hm517 (by omega) hrm517 hf39 hg4
  refine X.aload_n 132 i262_131 rfl rfl rfl ?_
  refine X.iconst 133 i262_132 rfl rfl (by decide) ?_
  refine X.putZ' 136 14 i262_133 rfl rfl (by decide) rfl rfl rfl (by omega) (fun hrm519 m519 hm519 => ?_)
  have hJ520 := w44_14 hJ518 hm519 (by omega) hf39 hg4
  refine X.retv i262_136 rfl t262 ?_
  exact hQ  m519  (Eq.trans hR516 (Eq.trans (zs_eq hm517) (Eq.trans (zs_eq hm519) rfl))) (hJ520.up (by omega)) 
noncomputable def fl263_0_1_b (self : zM → zM) (k38 : zM → zM) (m : zM) : zM :=
  if (m 4 44 5) ≤ (m 4 44 8) then
  (k38 m)
  else
  (if (m 4 48 (m 4 44 8)) = 32 then
  (zs (z_upd m 4 44 8 ((m 4 44 8) + 1)) fun m513 =>
  self m513)
  else
  (k38 m))
noncomputable def fl263_0_1 (k38 : zM → zM) : Nat → zM → zM
  | 0 => fun m => m
  | n + 1 => fl263_0_1_b (fl263_0_1 k38 n) k38
theorem l263_0_1 {s : Nat × (Nat → Int32)} {S : zS} {m0 : zM} {d : Nat} {Q : Option zV → zM → Prop} {R0 : zM} {k38 : zM → zM} (c8 c9 : Int) (BE : Int) (hE : BE ≤ 1000000000) (hd : 13 ≤ d) (hf39 : ¬ S.1 39) (hg4 : ¬ S.2.1 4)
    (K38 : ∀ (m' : zM) (B' : Int), J S m0 B' m' → B' ≤ BE → (c8 ≤ m' 4 44 8) → (c9 ≤ m' 4 44 9) → R0 = k38 m' → X (EE s) d 263 38 [] [] m' Q) :
    ∀ (n : Nat) (m : zM) (B : Int), J S m0 B m → B + 0 * (n : Int) ≤ BE → (c8 ≤ m 4 44 8) → (c9 ≤ m 4 44 9) → 300 - m 4 44 8 < (n : Int) → R0 = fl263_0_1 k38 n m → X (EE s) d 263 0 [(0, zr 4 44)] [] m Q := by
  intro n
  induction n with
  | zero =>
    intro  m B hJ hB hr0 hr1 hn hR
    have zf0 := r44_8 hJ 4
    exfalso
    omega
  | succ n ih =>
    intro  m B hJ hB hr0 hr1 hn hR
    replace hR : R0 = fl263_0_1_b (fl263_0_1 k38 n) k38 m := hR
    refine X.aload_n 1 i263_0 rfl rfl rfl ?_
    refine X.getI 4 8 i263_1 rfl rfl (by decide) rfl rfl rfl ?_
    have h508 := r44_8 hJ 4
    refine X.aload_n 5 i263_4 rfl rfl rfl ?_
    refine X.getI 8 5 i263_5 rfl rfl (by decide) rfl rfl rfl ?_
    have h509 := r44_5 hJ 4
    refine X.icmpge 38 11 i263_8 rfl rfl rfl (fun h510 => ?_) (fun h510 => ?_)
    · refine X.cut [] i263_38 rfl ?_
      exact K38  m (B) (hJ.up (by omega)) (by omega) (by omega) (by omega) (Eq.trans hR (Eq.trans (if_pos h510) rfl))
    · refine X.aload_n 12 i263_11 rfl rfl rfl ?_
      refine X.getF 15 i263_12 rfl rfl (by decide) rfl rfl ?_
      refine X.aload_n 16 i263_15 rfl rfl rfl ?_
      refine X.getI 19 8 i263_16 rfl rfl (by decide) rfl rfl rfl ?_
      refine X.bald 20 i263_19 rfl rfl (by decide) rfl (by omega) (fun h511 => ?_)
      refine X.bipush 22 i263_20 rfl rfl (by decide) ?_
      refine X.icmpne 38 25 i263_22 rfl rfl rfl (fun h512 => ?_) (fun h512 => ?_)
      · refine X.cut [] i263_38 rfl ?_
        exact K38  m (B) (hJ.up (by omega)) (by omega) (by omega) (by omega) (Eq.trans hR (Eq.trans (if_neg h510) (Eq.trans (if_neg h512) rfl)))
      · refine X.aload_n 26 i263_25 rfl rfl rfl ?_
        refine X.dup 27 i263_26 rfl rfl rfl ?_
        refine X.getI 30 8 i263_27 rfl rfl (by decide) rfl rfl rfl ?_
        refine X.iconst 31 i263_30 rfl rfl (by decide) ?_
        refine X.iadd 32 i263_31 rfl rfl (by omega) ?_
        refine X.putI' 35 8 i263_32 rfl rfl (by decide) rfl rfl rfl (fun hrm513 m513 hm513 => ?_)
        have hJ514 := w44_8 hJ hm513 (by omega) hf39 hg4
        have em513 : m513 4 44 8 = ((m 4 44 8) + 1) := by rw [hm513]; exact z_upd_same _ _ _ _ _
        have wmm513_9 : m513 4 44 9 = m 4 44 9 := by rw [hm513]; exact z_upd_o _ _ rfl
        have wmm513_10 : m513 4 44 10 = m 4 44 10 := by rw [hm513]; exact z_upd_o _ _ rfl
        refine X.goto 0 i263_35 rfl rfl ?_
        exact ih  m513 (B) (hJ514.up (by omega)) (by omega) (by omega) (by omega) (by omega) (Eq.trans hR (Eq.trans (if_neg h510) (Eq.trans (if_pos h512) (Eq.trans (zs_eq hm513) rfl))))
-- WorkMeterModel.blanks
noncomputable def f263_1 (m : zM) : zM :=
  fl263_0_1 (fun m501 =>
  m501) (zfu 301) m
-- WorkMeterModel.blanks
theorem c263_1 {s : Nat × (Nat → Int32)} {S : zS} {m0 m : zM} {B : Int} {d : Nat} {Q : Option zV → zM → Prop} (hd : 13 ≤ d) (hJ : J S m0 B m) (hB : B + 0 ≤ 1000000000) (hf39 : ¬ S.1 39) (hg4 : ¬ S.2.1 4) (hQ : ∀ m', f263_1 m = m' → J S m0 (B) m' → (m 4 44 8 ≤ m' 4 44 8) → (m 4 44 9 ≤ m' 4 44 9) → Q none m') : X (EE s) d 263 0 [(0, zr 4 44)] [] m Q := by
  have hz301 := zfu_eq 301
  have zf505 := r44_8 hJ 4
  refine l263_0_1 (s := s) (d := d) (R0 := (f263_1 m))   (m 4 44 8) (m 4 44 9) (BE := B + 0) (by omega) (by omega) hf39 hg4 (fun  m501 B502 hJ503 hBB502 hrlm501_0 hrlm501_1 hR504 => ?_) (zfu 301)  m (B) (hJ.up (by omega)) (by omega) (by omega) (by omega) (by omega) rfl
  refine X.retv i263_38 rfl t263 ?_
  exact hQ  m501  (Eq.trans hR504 rfl) (hJ503.up (by omega)) (by omega) (by omega)
noncomputable def fl267_5_1_b (self : Int → Int) (k38 : Int → Int) (m : zM) (y1 : Int) : Int :=
  if (m 4 44 5) ≤ y1 then
  (k38 y1)
  else
  (if (m 4 48 y1) < 97 then
  (k38 y1)
  else
  (if (m 4 48 y1) ≤ 122 then
  (self (y1 + 1))
  else
  (k38 y1)))
noncomputable def fl267_5_1 (k38 : Int → Int) (m : zM) : Nat → Int → Int
  | 0 => fun y1 => 0
  | n + 1 => fl267_5_1_b (fl267_5_1 k38 m n) k38 m
theorem l267_5_1 {s : Nat × (Nat → Int32)} {S : zS} {m0 : zM} {m : zM} {B : Int} {d : Nat} {Q : Option zV → zM → Prop} {R0 : Int} {k38 : Int → Int} (hd : 13 ≤ d) (hJ : J S m0 B m) (hB9 : B ≤ 1000000000)
    (K38 : ∀ (x1 : Int) , (0 ≤ x1 ∧ x1 ≤ 300) → (m 4 44 8 ≤ x1) → R0 = k38 x1 → X (EE s) d 267 38 [(1, zi x1)] [] m Q) :
    ∀ (n : Nat) (y1 : Int) , (0 ≤ y1 ∧ y1 ≤ 300) → (m 4 44 8 ≤ y1) → 300 - y1 < (n : Int) → R0 = fl267_5_1 k38 m n y1 → X (EE s) d 267 5 [(0, zr 4 44), (1, zi y1)] [] m Q := by
  intro n
  induction n with
  | zero =>
    intro y1 hy1 hr0 hn hR
    exfalso
    omega
  | succ n ih =>
    intro y1 hy1 hr0 hn hR
    replace hR : R0 = fl267_5_1_b (fl267_5_1 k38 m n) k38 m y1 := hR
    refine X.iload_n 6 i267_5 rfl rfl rfl ?_
    refine X.aload_n 7 i267_6 rfl rfl rfl ?_
    refine X.getI 10 5 i267_7 rfl rfl (by decide) rfl rfl rfl ?_
    have h512 := r44_5 hJ 4
    refine X.icmpge 38 13 i267_10 rfl rfl rfl (fun h513 => ?_) (fun h513 => ?_)
    · refine X.cut [(1, zi y1)] i267_38 rfl ?_
      exact K38 y1 (by first | trivial | omega) (by omega) (Eq.trans hR (Eq.trans (if_pos h513) rfl))
    · refine X.aload_n 14 i267_13 rfl rfl rfl ?_
      refine X.getF 17 i267_14 rfl rfl (by decide) rfl rfl ?_
      refine X.iload_n 18 i267_17 rfl rfl rfl ?_
      refine X.bald 19 i267_18 rfl rfl (by decide) rfl (by omega) (fun h514 => ?_)
      refine X.i2l 20 i267_19 rfl rfl ?_
      refine X.ldc2 23 i267_20 rfl rfl (by decide) ?_
      refine X.ldc2 26 i267_23 rfl rfl (by decide) ?_
      refine X.calls 29 [zl (m 4 48 y1), zl 97, zl 122] [] [(0, zl (m 4 48 y1)), (2, zl 97), (4, zl 122)] i267_26 (by decide) rfl rfl (by omega) rfl rfl t204 (Nat.le_of_ble_eq_true rfl) (Nat.le_of_ble_eq_true rfl) rfl ?_
      refine X.lload_n 1 i204_0 rfl rfl rfl ?_
      refine X.lload_n 2 i204_1 rfl rfl rfl ?_
      refine X.lcmp 3 i204_2 rfl rfl (fun z515 hz515 => ?_)
      refine X.iflt 17 6 i204_3 rfl rfl rfl (fun h516 => ?_) (fun h516 => ?_)
      · have h516c : (m 4 48 y1) < 97 := by omega
        clear h516 hz515
        refine X.cut [] i204_17 rfl ?_
        refine X.iconst 18 i204_17 rfl rfl (by decide) ?_
        refine X.retz i204_18 rfl t204 (by omega) ?_
        show X (EE s) d 267 29 [(0, zr 4 44), (1, zi y1)] [zi 0] m _
        refine X.ifeq 38 32 i267_29 rfl rfl rfl (fun h517 => ?_) (fun h517 => (by exfalso; omega))
        refine X.cut [(1, zi y1)] i267_38 rfl ?_
        exact K38 y1 (by first | trivial | omega) (by omega) (Eq.trans hR (Eq.trans (if_neg h513) (Eq.trans (if_pos h516c) rfl)))
      · have h516c : ¬ (m 4 48 y1) < 97 := by omega
        clear h516 hz515
        refine X.lload_n 7 i204_6 rfl rfl rfl ?_
        refine X.lload 9 i204_7 rfl rfl rfl ?_
        refine X.lcmp 10 i204_9 rfl rfl (fun z518 hz518 => ?_)
        refine X.ifgt 17 13 i204_10 rfl rfl rfl (fun h519 => ?_) (fun h519 => ?_)
        · have h519c : ¬ (m 4 48 y1) ≤ 122 := by omega
          clear h519 hz518
          refine X.cut [] i204_17 rfl ?_
          refine X.iconst 18 i204_17 rfl rfl (by decide) ?_
          refine X.retz i204_18 rfl t204 (by omega) ?_
          show X (EE s) d 267 29 [(0, zr 4 44), (1, zi y1)] [zi 0] m _
          refine X.ifeq 38 32 i267_29 rfl rfl rfl (fun h520 => ?_) (fun h520 => (by exfalso; omega))
          refine X.cut [(1, zi y1)] i267_38 rfl ?_
          exact K38 y1 (by first | trivial | omega) (by omega) (Eq.trans hR (Eq.trans (if_neg h513) (Eq.trans (if_neg h516c) (Eq.trans (if_neg h519c) rfl))))
        · have h519c : (m 4 48 y1) ≤ 122 := by omega
          clear h519 hz518
          refine X.iconst 14 i204_13 rfl rfl (by decide) ?_
          refine X.goto 18 i204_14 rfl rfl ?_
          refine X.cut [] i204_18 rfl ?_
          refine X.retz i204_18 rfl t204 (by omega) ?_
          show X (EE s) d 267 29 [(0, zr 4 44), (1, zi y1)] [zi 1] m _
          refine X.ifeq 38 32 i267_29 rfl rfl rfl (fun h521 => (by exfalso; omega)) (fun h521 => ?_)
          refine X.iinc 35 [(0, zr 4 44), (1, zi (y1 + 1))] i267_32 rfl rfl rfl (by omega) rfl ?_
          refine X.goto 5 i267_35 rfl rfl ?_
          exact ih (y1 + 1) (by omega) (by omega) (by omega) (Eq.trans hR (Eq.trans (if_neg h513) (Eq.trans (if_neg h516c) (Eq.trans (if_pos h519c) rfl))))
-- WorkMeterModel.wordEnd
noncomputable def f267_1 (m : zM) : Int :=
  fl267_5_1 (fun y502 =>
  y502) m (zfu 301) (m 4 44 8)
-- WorkMeterModel.wordEnd
theorem c267_1 {s : Nat × (Nat → Int32)} {S : zS} {m0 m : zM} {B : Int} {d : Nat} {Q : Option zV → zM → Prop} (hd : 13 ≤ d) (hJ : J S m0 B m) (hB : B + 0 ≤ 1000000000) (hQ : ∀ (v : Int), (0 ≤ v ∧ v ≤ 300) → f267_1 m = v → (m 4 44 8 ≤ v) → Q (some (zi v)) m) : X (EE s) d 267 0 [(0, zr 4 44)] [] m Q := by
  refine X.aload_n 1 i267_0 rfl rfl rfl ?_
  refine X.getI 4 8 i267_1 rfl rfl (by decide) rfl rfl rfl ?_
  have h501 := r44_8 hJ 4
  refine X.istore_n 5 [(0, zr 4 44), (1, zi (m 4 44 8))] i267_4 rfl rfl rfl ?_
  have hz301 := zfu_eq 301
  refine l267_5_1 (s := s) (m := m) (B := B) (d := d) (R0 := (f267_1 m))    (by omega) (hJ.up (by omega)) (by omega) (fun y502 hby502 hrlm503_0 hR506 => ?_) (zfu 301) (m 4 44 8) (by omega) (by omega) (by omega) rfl
  refine X.iload_n 39 i267_38 rfl rfl rfl ?_
  refine X.reti i267_39 rfl t267 ?_
  exact hQ y502 (by first | trivial | omega) (Eq.trans hR506 rfl) (by omega)
-- WorkMeterModel.spells
noncomputable def f266_1 (a1 a2 a3 a4 a5 a6 a7 a8 : Int) (m : zM) : Int :=
  zn (f267_1 m) fun v503 =>
  if v503 = ((m 4 44 8) + a1) then
  (if (m 4 48 (m 4 44 8)) = a2 then
  (if (m 4 48 ((m 4 44 8) + 1)) = a3 then
  (if (m 4 48 ((m 4 44 8) + 2)) = a4 then
  (if (m 4 48 ((m 4 44 8) + 3)) = a5 then
  (if (m 4 48 ((m 4 44 8) + 4)) = a6 then
  (zn (if a1 < 6 then
  (1)
  else
  (if (m 4 48 ((m 4 44 8) + 5)) = a7 then
  (if a1 < 7 then
  (1)
  else
  (if (m 4 48 ((m 4 44 8) + 6)) = a8 then
  (1)
  else
  (0)))
  else
  (0))) fun v523 =>
  v523)
  else
  (0))
  else
  (0))
  else
  (0))
  else
  (0))
  else
  (0))
  else
  (0)
