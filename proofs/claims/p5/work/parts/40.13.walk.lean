-- WorkMeter$Seal.close
theorem c115_1 {s : Nat × (Nat → Int32)} {S : zS} {m0 m : zM} {B : Int} {d : Nat} {Q : Option zV → zM → Prop} (g0 : Nat) (a1 : Int) (hd : 13 ≤ d) (hJ : J S m0 B m) (hB : B + 0 ≤ 1000000000) (ha1 : (-2147483648) ≤ a1 ∧ a1 ≤ 2147483647) (hf4 : ¬ S.1 4) (hgg0 : ¬ S.2.1 g0) (hQ : ∀ (v : Int) m', (0 ≤ v ∧ v ≤ 1) → f115_1 g0 a1 m = (v, m') → J S m0 (B) m' → Q (some (zi v)) m') : X (EE s) d 115 0 [(0, zr g0 39), (1, zi a1)] [] m Q := by
  refine X.aload_n 1 i115_0 rfl rfl rfl ?_
  refine X.getZ 4 0 i115_1 rfl rfl (by decide) rfl rfl rfl (fun h501 => ?_)
  refine X.ifne 18 7 i115_4 rfl rfl rfl (fun h502 => ?_) (fun h502 => ?_)
  · refine X.cut [] i115_18 rfl ?_
    refine X.iconst 19 i115_18 rfl rfl (by decide) ?_
    refine X.retz i115_19 rfl t115 (by omega) ?_
    exact hQ 0 m (by first | trivial | omega) (Eq.trans (if_neg h502) rfl) (hJ.up (by omega)) 
  · refine X.iload_n 8 i115_7 rfl rfl rfl ?_
    refine X.iflt 18 11 i115_8 rfl rfl rfl (fun h503 => ?_) (fun h503 => ?_)
    · refine X.cut [] i115_18 rfl ?_
      refine X.iconst 19 i115_18 rfl rfl (by decide) ?_
      refine X.retz i115_19 rfl t115 (by omega) ?_
      exact hQ 0 m (by first | trivial | omega) (Eq.trans (if_pos h502) (Eq.trans (if_pos h503) rfl)) (hJ.up (by omega)) 
    · refine X.iload_n 12 i115_11 rfl rfl rfl ?_
      refine X.sipush 15 i115_12 rfl rfl (by decide) ?_
      refine X.icmple 20 18 i115_15 rfl rfl rfl (fun h504 => ?_) (fun h504 => ?_)
      · refine X.aload_n 21 i115_20 rfl rfl rfl ?_
        refine X.iconst 22 i115_21 rfl rfl (by decide) ?_
        refine X.putZ' 25 0 i115_22 rfl rfl (by decide) rfl rfl rfl (by omega) (fun hrm505 m505 hm505 => ?_)
        have hJ506 := w39_0 hJ hm505 (by omega) hf4 hgg0
        refine X.aload_n 26 i115_25 rfl rfl rfl ?_
        refine X.iload_n 27 i115_26 rfl rfl rfl ?_
        refine X.putI' 30 1 i115_27 rfl rfl (by decide) rfl rfl rfl (fun hrm507 m507 hm507 => ?_)
        have hJ508 := w39_1 hJ506 hm507 hrm507 hf4 hgg0
        refine X.iconst 31 i115_30 rfl rfl (by decide) ?_
        refine X.retz i115_31 rfl t115 (by omega) ?_
        exact hQ 1 m507 (by first | trivial | omega) (Eq.trans (if_pos h502) (Eq.trans (if_neg h503) (Eq.trans (if_pos h504) (Eq.trans (zs_eq hm505) (Eq.trans (zs_eq hm507) rfl))))) (hJ508.up (by omega)) 
      · refine X.cut [] i115_18 rfl ?_
        refine X.iconst 19 i115_18 rfl rfl (by decide) ?_
        refine X.retz i115_19 rfl t115 (by omega) ?_
        exact hQ 0 m (by first | trivial | omega) (Eq.trans (if_pos h502) (Eq.trans (if_neg h503) (Eq.trans (if_neg h504) rfl))) (hJ.up (by omega)) 
-- WorkMeter$Meter.note
theorem c54_2 {s : Nat × (Nat → Int32)} {S : zS} {m0 m : zM} {B : Int} {d : Nat} {Q : Option zV → zM → Prop} (g0 : Nat) (a1 a2 : Int) (hd : 14 ≤ d) (hJ : J S m0 B m) (hB : B + 1 ≤ 1000000000) (ha1 : 30 ≤ a1 ∧ a1 ≤ 30) (ha2 : 0 ≤ a2 ∧ a2 ≤ 0) (hf6 : ¬ S.1 6) (hgg0 : ¬ S.2.1 g0) (hQ : ∀ m', f54_1 g0 a1 a2 m = m' → J S m0 (B + 1) m' → Q none m') : X (EE s) d 54 0 [(0, zr g0 8), (1, zi a1), (2, zi a2)] [] m Q := by
  refine X.aload_n 1 i54_0 rfl rfl rfl ?_
  refine X.getR 4 i54_1 rfl rfl (by decide) rfl rfl ?_
  refine X.aload_n 5 i54_4 rfl rfl rfl ?_
  refine X.getI 8 9 i54_5 rfl rfl (by decide) rfl rfl rfl ?_
  have h501 := r8_9 hJ g0
  refine X.iload_n 9 i54_8 rfl rfl rfl ?_
  refine X.iload_n 10 i54_9 rfl rfl rfl ?_
  refine X.callv 13 [zi (m g0 8 9), zi a1, zi a2] [] [(0, zr g0 37), (1, zi (m g0 8 9)), (2, zi a1), (3, zi a2)] i54_10 rfl (by decide) rfl rfl (by omega) rfl rfl (by decide) rfl t55 (Nat.le_of_ble_eq_true rfl) (Nat.le_of_ble_eq_true rfl) rfl ?_
  refine c55_1 (B := B) g0 (m g0 8 9) a1 a2 (by omega) (hJ.up (by omega)) (by omega) (by omega) (by omega) (by omega) hf6 hgg0 (fun m502 hFv504 hJ503 => ?_)
  show X (EE s) d 54 13 [(0, zr g0 8), (1, zi a1), (2, zi a2)] [] m502 _
  refine X.retv i54_13 rfl t54 ?_
  exact hQ  m502  (Eq.trans (zs_eq hFv504.symm) rfl) (hJ503.up (by omega)) 
-- WorkMeter.seal
noncomputable def f114_1 (a1 : Int) (m : zM) : Int × zM :=
  zb (f115_1 0 a1 m) fun v503 m501 =>
  if v503 = 0 then
  ((0, m501))
  else
  (zs (f54_1 0 30 0 m501) fun m505 =>
  (1, m505))
-- WorkMeter.seal
theorem c114_1 {s : Nat × (Nat → Int32)} {S : zS} {m0 m : zM} {B : Int} {d : Nat} {Q : Option zV → zM → Prop} (a1 : Int) (hd : 15 ≤ d) (hJ : J S m0 B m) (hB : B + 1 ≤ 1000000000) (ha1 : (-2147483648) ≤ a1 ∧ a1 ≤ 2147483647) (hf4 : ¬ S.1 4) (hf6 : ¬ S.1 6) (hg0 : ¬ S.2.1 0) (hQ : ∀ (v : Int) m', (0 ≤ v ∧ v ≤ 1) → f114_1 a1 m = (v, m') → J S m0 (B + 1) m' → Q (some (zi v)) m') : X (EE s) d 114 0 [(0, zr 4 40), (1, zi a1)] [] m Q := by
  refine X.aload_n 1 i114_0 rfl rfl rfl ?_
  refine X.getF 4 i114_1 rfl rfl (by decide) rfl rfl ?_
  refine X.getR 7 i114_4 rfl rfl (by decide) rfl rfl ?_
  refine X.iload_n 8 i114_7 rfl rfl rfl ?_
  refine X.callv 11 [zi a1] [] [(0, zr 0 39), (1, zi a1)] i114_8 rfl (by decide) rfl rfl (by omega) rfl rfl (by decide) rfl t115 (Nat.le_of_ble_eq_true rfl) (Nat.le_of_ble_eq_true rfl) rfl ?_
  refine c115_1 (B := B) 0 a1 (by omega) (hJ.up (by omega)) (by omega) (by omega) hf4 hg0 (fun v503 m501 hv503 hFv503 hJ502 => ?_)
  show X (EE s) d 114 11 [(0, zr 4 40), (1, zi a1)] [zi v503] m501 _
  refine X.ifne 16 14 i114_11 rfl rfl rfl (fun h504 => ?_) (fun h504 => ?_)
  · refine X.cut [(0, zr 4 40)] i114_16 rfl ?_
    refine X.aload_n 17 i114_16 rfl rfl rfl ?_
    refine X.getF 20 i114_17 rfl rfl (by decide) rfl rfl ?_
    refine X.bipush 22 i114_20 rfl rfl (by decide) ?_
    refine X.iconst 23 i114_22 rfl rfl (by decide) ?_
    refine X.callv 26 [zi 30, zi 0] [] [(0, zr 0 8), (1, zi 30), (2, zi 0)] i114_23 rfl (by decide) rfl rfl (by omega) rfl rfl (by decide) rfl t54 (Nat.le_of_ble_eq_true rfl) (Nat.le_of_ble_eq_true rfl) rfl ?_
    refine c54_2 (B := B) 0 30 0 (by omega) (hJ502.up (by omega)) (by omega) (by omega) (by omega) hf6 hg0 (fun m505 hFv507 hJ506 => ?_)
    show X (EE s) d 114 26 [(0, zr 4 40)] [] m505 _
    refine X.iconst 27 i114_26 rfl rfl (by decide) ?_
    refine X.retz i114_27 rfl t114 (by omega) ?_
    exact hQ 1 m505 (by first | trivial | omega) (Eq.trans (zb_eq hFv503) (Eq.trans (if_neg h504) (Eq.trans (zs_eq hFv507.symm) rfl))) (hJ506.up (by omega)) 
  · refine X.iconst 15 i114_14 rfl rfl (by decide) ?_
    refine X.retz i114_15 rfl t114 (by omega) ?_
    exact hQ 0 m501 (by first | trivial | omega) (Eq.trans (zb_eq hFv503) (Eq.trans (if_pos h504) rfl)) (hJ502.up (by omega)) 
-- WorkMeterModel.seal
noncomputable def f276_1 (a1 : Int) (m : zM) : Int × zM :=
  if (m 4 45 1614) = 1 then
  ((0, m))
  else
  (if a1 < 0 then
  ((0, m))
  else
  (if a1 ≤ 9999 then
  (zs (z_upd m 4 45 1614 1) fun m511 =>
  zs (z_upd m511 4 45 1615 a1) fun m513 =>
  zs (f223_1 30 0 m513) fun m515 =>
  (1, m515))
  else
  ((0, m))))
-- WorkMeterModel.seal
theorem c276_1 {s : Nat × (Nat → Int32)} {S : zS} {m0 m : zM} {B : Int} {d : Nat} {Q : Option zV → zM → Prop} (a1 : Int) (hd : 14 ≤ d) (hJ : J S m0 B m) (hB : B + 1 ≤ 1000000000) (ha1 : (-2147483648) ≤ a1 ∧ a1 ≤ 2147483647) (hf24 : ¬ S.1 24) (hf26 : ¬ S.1 26) (hg4 : ¬ S.2.1 4) (hQ : ∀ (v : Int) m', (0 ≤ v ∧ v ≤ 1) → f276_1 a1 m = (v, m') → J S m0 (B + 1) m' → Q (some (zi v)) m') : X (EE s) d 276 0 [(0, zr 4 44), (1, zi a1)] [] m Q := by
  refine X.aload_n 1 i276_0 rfl rfl rfl ?_
  refine X.getF 4 i276_1 rfl rfl (by decide) rfl rfl ?_
  refine X.sipush 7 i276_4 rfl rfl (by decide) ?_
  refine X.lald 8 i276_7 rfl rfl (by decide) rfl (by omega) ?_
  have h501 := r45_1614 hJ 4
  refine X.lconst (y := 1) 9 i276_8 rfl rfl rfl ?_
  refine X.lcmp 10 i276_9 rfl rfl (fun z502 hz502 => ?_)
  refine X.ifeq 25 13 i276_10 rfl rfl rfl (fun h503 => ?_) (fun h503 => ?_)
  · have h503c : (m 4 45 1614) = 1 := by omega
    clear h503 hz502
    refine X.cut [] i276_25 rfl ?_
    refine X.iconst 26 i276_25 rfl rfl (by decide) ?_
    refine X.retz i276_26 rfl t276 (by omega) ?_
    exact hQ 0 m (by first | trivial | omega) (Eq.trans (if_pos h503c) rfl) (hJ.up (by omega)) 
  · have h503c : ¬ (m 4 45 1614) = 1 := by omega
    clear h503 hz502
    refine X.iload_n 14 i276_13 rfl rfl rfl ?_
    refine X.i2l 15 i276_14 rfl rfl ?_
    refine X.lconst (y := 0) 16 i276_15 rfl rfl rfl ?_
    refine X.ldc2 19 i276_16 rfl rfl (by decide) ?_
    refine X.calls 22 [zl a1, zl 0, zl 9999] [] [(0, zl a1), (2, zl 0), (4, zl 9999)] i276_19 (by decide) rfl rfl (by omega) rfl rfl t204 (Nat.le_of_ble_eq_true rfl) (Nat.le_of_ble_eq_true rfl) rfl ?_
    refine X.lload_n 1 i204_0 rfl rfl rfl ?_
    refine X.lload_n 2 i204_1 rfl rfl rfl ?_
    refine X.lcmp 3 i204_2 rfl rfl (fun z504 hz504 => ?_)
    refine X.iflt 17 6 i204_3 rfl rfl rfl (fun h505 => ?_) (fun h505 => ?_)
    · have h505c : a1 < 0 := by omega
      clear h505 hz504
      refine X.cut [] i204_17 rfl ?_
      refine X.iconst 18 i204_17 rfl rfl (by decide) ?_
      refine X.retz i204_18 rfl t204 (by omega) ?_
      show X (EE s) d 276 22 [(0, zr 4 44), (1, zi a1)] [zi 0] m _
      refine X.ifne 27 25 i276_22 rfl rfl rfl (fun h506 => (by exfalso; omega)) (fun h506 => ?_)
      refine X.cut [] i276_25 rfl ?_
      refine X.iconst 26 i276_25 rfl rfl (by decide) ?_
      refine X.retz i276_26 rfl t276 (by omega) ?_
      exact hQ 0 m (by first | trivial | omega) (Eq.trans (if_neg h503c) (Eq.trans (if_pos h505c) rfl)) (hJ.up (by omega)) 
    · have h505c : ¬ a1 < 0 := by omega
      clear h505 hz504
      refine X.lload_n 7 i204_6 rfl rfl rfl ?_
      refine X.lload 9 i204_7 rfl rfl rfl ?_
      refine X.lcmp 10 i204_9 rfl rfl (fun z507 hz507 => ?_)
      refine X.ifgt 17 13 i204_10 rfl rfl rfl (fun h508 => ?_) (fun h508 => ?_)
      · have h508c : ¬ a1 ≤ 9999 := by omega
        clear h508 hz507
        refine X.cut [] i204_17 rfl ?_
        refine X.iconst 18 i204_17 rfl rfl (by decide) ?_
        refine X.retz i204_18 rfl t204 (by omega) ?_
        show X (EE s) d 276 22 [(0, zr 4 44), (1, zi a1)] [zi 0] m _
        refine X.ifne 27 25 i276_22 rfl rfl rfl (fun h509 => (by exfalso; omega)) (fun h509 => ?_)
        refine X.cut [] i276_25 rfl ?_
        refine X.iconst 26 i276_25 rfl rfl (by decide) ?_
        refine X.retz i276_26 rfl t276 (by omega) ?_
        exact hQ 0 m (by first | trivial | omega) (Eq.trans (if_neg h503c) (Eq.trans (if_neg h505c) (Eq.trans (if_neg h508c) rfl))) (hJ.up (by omega)) 
      · have h508c : a1 ≤ 9999 := by omega
        clear h508 hz507
        refine X.iconst 14 i204_13 rfl rfl (by decide) ?_
        refine X.goto 18 i204_14 rfl rfl ?_
        refine X.cut [] i204_18 rfl ?_
        refine X.retz i204_18 rfl t204 (by omega) ?_
        show X (EE s) d 276 22 [(0, zr 4 44), (1, zi a1)] [zi 1] m _
        refine X.ifne 27 25 i276_22 rfl rfl rfl (fun h510 => ?_) (fun h510 => (by exfalso; omega))
        refine X.aload_n 28 i276_27 rfl rfl rfl ?_
        refine X.getF 31 i276_28 rfl rfl (by decide) rfl rfl ?_
        refine X.sipush 34 i276_31 rfl rfl (by decide) ?_
        refine X.lconst (y := 1) 35 i276_34 rfl rfl rfl ?_
        refine X.last' 36 i276_35 rfl rfl (by decide) rfl (by omega) (fun hrm511 m511 hm511 => ?_)
        have hJ512 := w45_1614 hJ hm511 (by omega) hf24 hg4
        refine X.aload_n 37 i276_36 rfl rfl rfl ?_
        refine X.getF 40 i276_37 rfl rfl (by decide) rfl rfl ?_
        refine X.sipush 43 i276_40 rfl rfl (by decide) ?_
        refine X.iload_n 44 i276_43 rfl rfl rfl ?_
        refine X.i2l 45 i276_44 rfl rfl ?_
        refine X.last' 46 i276_45 rfl rfl (by decide) rfl (by omega) (fun hrm513 m513 hm513 => ?_)
        have hJ514 := w45_1615 hJ512 hm513 hrm513 hf24 hg4
        refine X.aload_n 47 i276_46 rfl rfl rfl ?_
        refine X.bipush 49 i276_47 rfl rfl (by decide) ?_
        refine X.lconst (y := 0) 50 i276_49 rfl rfl rfl ?_
        refine X.callv 53 [zi 30, zl 0] [] [(0, zr 4 44), (1, zi 30), (2, zl 0)] i276_50 rfl (by decide) rfl rfl (by omega) rfl rfl (by decide) rfl t223 (Nat.le_of_ble_eq_true rfl) (Nat.le_of_ble_eq_true rfl) rfl ?_
        refine c223_1 (B := B)  30 0 (by omega) (hJ514.up (by omega)) (by omega) (by omega) hf26 hg4 (fun m515 hFv517 hJ516 => ?_)
        show X (EE s) d 276 53 [(0, zr 4 44), (1, zi a1)] [] m515 _
        refine X.iconst 54 i276_53 rfl rfl (by decide) ?_
        refine X.retz i276_54 rfl t276 (by omega) ?_
        exact hQ 1 m515 (by first | trivial | omega) (Eq.trans (if_neg h503c) (Eq.trans (if_neg h505c) (Eq.trans (if_pos h508c) (Eq.trans (zs_eq hm511) (Eq.trans (zs_eq hm513) (Eq.trans (zs_eq hFv517.symm) rfl)))))) (hJ516.up (by omega)) 
-- WorkMeter$Seal.lockedFor
noncomputable def f118_1 (g0 : Nat) (a1 : Int) (m : zM) : Int :=
  (max 0 ((m g0 39 4) - a1))
-- WorkMeter$Seal.lockedFor
theorem c118_1 {s : Nat × (Nat → Int32)} {S : zS} {m0 m : zM} {B : Int} {d : Nat} {Q : Option zV → zM → Prop} (g0 : Nat) (a1 : Int) (hd : 13 ≤ d) (hJ : J S m0 B m) (hB : B + 0 ≤ 1000000000) (ha1 : 0 ≤ a1 ∧ a1 ≤ 2000000000) (hQ : ∀ (v : Int), (0 ≤ v ∧ v ≤ 2000000300) → f118_1 g0 a1 m = v → Q (some (zi v)) m) : X (EE s) d 118 0 [(0, zr g0 39), (1, zi a1)] [] m Q := by
  refine X.iconst 1 i118_0 rfl rfl (by decide) ?_
  refine X.aload_n 2 i118_1 rfl rfl rfl ?_
  refine X.getI 5 4 i118_2 rfl rfl (by decide) rfl rfl rfl ?_
  have h501 := r39_4 hJ g0
  refine X.iload_n 6 i118_5 rfl rfl rfl ?_
  refine X.isub 7 i118_6 rfl rfl (by omega) ?_
  refine X.maxI 10 i118_7 rfl rfl (by omega) (Nat.le_of_ble_eq_true rfl) ?_
  refine X.reti i118_10 rfl t118 ?_
  exact hQ (max 0 ((m g0 39 4) - a1)) (by first | trivial | omega) rfl 
-- WorkMeter$Meter.note
theorem c54_3 {s : Nat × (Nat → Int32)} {S : zS} {m0 m : zM} {B : Int} {d : Nat} {Q : Option zV → zM → Prop} (g0 : Nat) (a1 a2 : Int) (hd : 14 ≤ d) (hJ : J S m0 B m) (hB : B + 1 ≤ 1000000000) (ha1 : 32 ≤ a1 ∧ a1 ≤ 32) (ha2 : 0 ≤ a2 ∧ a2 ≤ 1000000000) (hf6 : ¬ S.1 6) (hgg0 : ¬ S.2.1 g0) (hQ : ∀ m', f54_1 g0 a1 a2 m = m' → J S m0 (B + 1) m' → Q none m') : X (EE s) d 54 0 [(0, zr g0 8), (1, zi a1), (2, zi a2)] [] m Q := by
  refine X.aload_n 1 i54_0 rfl rfl rfl ?_
  refine X.getR 4 i54_1 rfl rfl (by decide) rfl rfl ?_
  refine X.aload_n 5 i54_4 rfl rfl rfl ?_
  refine X.getI 8 9 i54_5 rfl rfl (by decide) rfl rfl rfl ?_
  have h501 := r8_9 hJ g0
  refine X.iload_n 9 i54_8 rfl rfl rfl ?_
  refine X.iload_n 10 i54_9 rfl rfl rfl ?_
  refine X.callv 13 [zi (m g0 8 9), zi a1, zi a2] [] [(0, zr g0 37), (1, zi (m g0 8 9)), (2, zi a1), (3, zi a2)] i54_10 rfl (by decide) rfl rfl (by omega) rfl rfl (by decide) rfl t55 (Nat.le_of_ble_eq_true rfl) (Nat.le_of_ble_eq_true rfl) rfl ?_
  refine c55_1 (B := B) g0 (m g0 8 9) a1 a2 (by omega) (hJ.up (by omega)) (by omega) (by omega) (by omega) (by omega) hf6 hgg0 (fun m502 hFv504 hJ503 => ?_)
  show X (EE s) d 54 13 [(0, zr g0 8), (1, zi a1), (2, zi a2)] [] m502 _
  refine X.retv i54_13 rfl t54 ?_
  exact hQ  m502  (Eq.trans (zs_eq hFv504.symm) rfl) (hJ503.up (by omega)) 
-- WorkMeter$Seal.lock
noncomputable def f121_1 (g0 : Nat) (a1 : Int) (m : zM) : zM :=
  zs (z_upd m g0 39 2 0) fun m501 =>
  zs (z_upd m501 g0 39 4 (a1 + 300)) fun m503 =>
  m503
-- WorkMeter$Seal.lock
theorem c121_1 {s : Nat × (Nat → Int32)} {S : zS} {m0 m : zM} {B : Int} {d : Nat} {Q : Option zV → zM → Prop} (g0 : Nat) (a1 : Int) (hd : 13 ≤ d) (hJ : J S m0 B m) (hB : B + 1 ≤ 1000000000) (ha1 : 0 ≤ a1 ∧ a1 ≤ 2000000000) (hf4 : ¬ S.1 4) (hgg0 : ¬ S.2.1 g0) (hQ : ∀ m', f121_1 g0 a1 m = m' → J S m0 (B + 1) m' → Q none m') : X (EE s) d 121 0 [(0, zr g0 39), (1, zi a1)] [] m Q := by
  refine X.aload_n 1 i121_0 rfl rfl rfl ?_
  refine X.iconst 2 i121_1 rfl rfl (by decide) ?_
  refine X.putI' 5 2 i121_2 rfl rfl (by decide) rfl rfl rfl (fun hrm501 m501 hm501 => ?_)
  have rbm501 := r39_2 hJ g0
  have hJ502 := w39_2 (hJ.up (B' := B + 1) (by omega)) hm501 (by omega) hf4 hgg0
  refine X.aload_n 6 i121_5 rfl rfl rfl ?_
  refine X.iload_n 7 i121_6 rfl rfl rfl ?_
  refine X.sipush 10 i121_7 rfl rfl (by decide) ?_
  refine X.iadd 11 i121_10 rfl rfl (by omega) ?_
  refine X.putI' 14 4 i121_11 rfl rfl (by decide) rfl rfl rfl (fun hrm503 m503 hm503 => ?_)
  have hJ504 := w39_4 hJ502 hm503 (by omega) hf4 hgg0
  refine X.retv i121_14 rfl t121 ?_
  exact hQ  m503  (Eq.trans (zs_eq hm501) (Eq.trans (zs_eq hm503) rfl)) (hJ504.up (by omega)) 
-- WorkMeter$Meter.note
theorem c54_4 {s : Nat × (Nat → Int32)} {S : zS} {m0 m : zM} {B : Int} {d : Nat} {Q : Option zV → zM → Prop} (g0 : Nat) (a1 a2 : Int) (hd : 14 ≤ d) (hJ : J S m0 B m) (hB : B + 1 ≤ 1000000000) (ha1 : 33 ≤ a1 ∧ a1 ≤ 33) (ha2 : 0 ≤ a2 ∧ a2 ≤ 0) (hf6 : ¬ S.1 6) (hgg0 : ¬ S.2.1 g0) (hQ : ∀ m', f54_1 g0 a1 a2 m = m' → J S m0 (B + 1) m' → Q none m') : X (EE s) d 54 0 [(0, zr g0 8), (1, zi a1), (2, zi a2)] [] m Q := by
  refine X.aload_n 1 i54_0 rfl rfl rfl ?_
  refine X.getR 4 i54_1 rfl rfl (by decide) rfl rfl ?_
  refine X.aload_n 5 i54_4 rfl rfl rfl ?_
  refine X.getI 8 9 i54_5 rfl rfl (by decide) rfl rfl rfl ?_
  have h501 := r8_9 hJ g0
  refine X.iload_n 9 i54_8 rfl rfl rfl ?_
  refine X.iload_n 10 i54_9 rfl rfl rfl ?_
  refine X.callv 13 [zi (m g0 8 9), zi a1, zi a2] [] [(0, zr g0 37), (1, zi (m g0 8 9)), (2, zi a1), (3, zi a2)] i54_10 rfl (by decide) rfl rfl (by omega) rfl rfl (by decide) rfl t55 (Nat.le_of_ble_eq_true rfl) (Nat.le_of_ble_eq_true rfl) rfl ?_
  refine c55_1 (B := B) g0 (m g0 8 9) a1 a2 (by omega) (hJ.up (by omega)) (by omega) (by omega) (by omega) (by omega) hf6 hgg0 (fun m502 hFv504 hJ503 => ?_)
  show X (EE s) d 54 13 [(0, zr g0 8), (1, zi a1), (2, zi a2)] [] m502 _
  refine X.retv i54_13 rfl t54 ?_
  exact hQ  m502  (Eq.trans (zs_eq hFv504.symm) rfl) (hJ503.up (by omega)) 
-- WorkMeter$Seal.breakOpen
noncomputable def f119_1 (g0 : Nat) (m : zM) : zM :=
  zs (z_upd m g0 39 0 0) fun m501 =>
  zs (z_upd m501 g0 39 2 0) fun m503 =>
  zs (z_upd m503 g0 39 4 0) fun m505 =>
  m505
-- WorkMeter$Seal.breakOpen
theorem c119_1 {s : Nat × (Nat → Int32)} {S : zS} {m0 m : zM} {B : Int} {d : Nat} {Q : Option zV → zM → Prop} (g0 : Nat) (hd : 13 ≤ d) (hJ : J S m0 B m) (hB : B + 1 ≤ 1000000000) (hf4 : ¬ S.1 4) (hgg0 : ¬ S.2.1 g0) (hQ : ∀ m', f119_1 g0 m = m' → J S m0 (B + 1) m' → Q none m') : X (EE s) d 119 0 [(0, zr g0 39)] [] m Q := by
  refine X.aload_n 1 i119_0 rfl rfl rfl ?_
  refine X.iconst 2 i119_1 rfl rfl (by decide) ?_
  refine X.putZ' 5 0 i119_2 rfl rfl (by decide) rfl rfl rfl (by omega) (fun hrm501 m501 hm501 => ?_)
  have hJ502 := w39_0 hJ hm501 (by omega) hf4 hgg0
  refine X.aload_n 6 i119_5 rfl rfl rfl ?_
  refine X.iconst 7 i119_6 rfl rfl (by decide) ?_
  refine X.putI' 10 2 i119_7 rfl rfl (by decide) rfl rfl rfl (fun hrm503 m503 hm503 => ?_)
  have rbm503 := r39_2 hJ502 g0
  have hJ504 := w39_2 (hJ502.up (B' := B + 1) (by omega)) hm503 (by omega) hf4 hgg0
  refine X.aload_n 11 i119_10 rfl rfl rfl ?_
  refine X.iconst 12 i119_11 rfl rfl (by decide) ?_
  refine X.putI' 15 4 i119_12 rfl rfl (by decide) rfl rfl rfl (fun hrm505 m505 hm505 => ?_)
  have hJ506 := w39_4 hJ504 hm505 (by omega) hf4 hgg0
  refine X.retv i119_15 rfl t119 ?_
  exact hQ  m505  (Eq.trans (zs_eq hm501) (Eq.trans (zs_eq hm503) (Eq.trans (zs_eq hm505) rfl))) (hJ506.up (by omega)) 
-- WorkMeter$Meter.note
theorem c54_5 {s : Nat × (Nat → Int32)} {S : zS} {m0 m : zM} {B : Int} {d : Nat} {Q : Option zV → zM → Prop} (g0 : Nat) (a1 a2 : Int) (hd : 14 ≤ d) (hJ : J S m0 B m) (hB : B + 1 ≤ 1000000000) (ha1 : 31 ≤ a1 ∧ a1 ≤ 31) (ha2 : 0 ≤ a2 ∧ a2 ≤ 0) (hf6 : ¬ S.1 6) (hgg0 : ¬ S.2.1 g0) (hQ : ∀ m', f54_1 g0 a1 a2 m = m' → J S m0 (B + 1) m' → Q none m') : X (EE s) d 54 0 [(0, zr g0 8), (1, zi a1), (2, zi a2)] [] m Q := by
  refine X.aload_n 1 i54_0 rfl rfl rfl ?_
  refine X.getR 4 i54_1 rfl rfl (by decide) rfl rfl ?_
  refine X.aload_n 5 i54_4 rfl rfl rfl ?_
  refine X.getI 8 9 i54_5 rfl rfl (by decide) rfl rfl rfl ?_
  have h501 := r8_9 hJ g0
  refine X.iload_n 9 i54_8 rfl rfl rfl ?_
  refine X.iload_n 10 i54_9 rfl rfl rfl ?_
  refine X.callv 13 [zi (m g0 8 9), zi a1, zi a2] [] [(0, zr g0 37), (1, zi (m g0 8 9)), (2, zi a1), (3, zi a2)] i54_10 rfl (by decide) rfl rfl (by omega) rfl rfl (by decide) rfl t55 (Nat.le_of_ble_eq_true rfl) (Nat.le_of_ble_eq_true rfl) rfl ?_
  refine c55_1 (B := B) g0 (m g0 8 9) a1 a2 (by omega) (hJ.up (by omega)) (by omega) (by omega) (by omega) (by omega) hf6 hgg0 (fun m502 hFv504 hJ503 => ?_)
  show X (EE s) d 54 13 [(0, zr g0 8), (1, zi a1), (2, zi a2)] [] m502 _
  refine X.retv i54_13 rfl t54 ?_
  exact hQ  m502  (Eq.trans (zs_eq hFv504.symm) rfl) (hJ503.up (by omega)) 
-- WorkMeter$Meter.tryCode
noncomputable def f117_1 (g0 : Nat) (a1 : Int) (m : zM) : Int × zM :=
  if (m g0 39 0) = 0 then
  ((0, m))
  else
  (zn (f118_1 g0 (m g0 8 9) m) fun v506 =>
  if v506 ≤ 0 then
  (if a1 = (m g0 39 1) then
  (zs (f119_1 g0 m) fun m528 =>
  zs (f54_1 g0 31 0 m528) fun m531 =>
  (1, m531))
  else
  (zs (z_upd m g0 39 2 ((m g0 39 2) + 1)) fun m511 =>
  zs (f54_1 g0 32 (m511 g0 39 2) m511) fun m514 =>
  if (m514 g0 39 2) < 3 then
  ((0, m514))
  else
  (zs (f121_1 g0 (m514 g0 8 9) m514) fun m522 =>
  zs (f54_1 g0 33 0 m522) fun m525 =>
  (0, m525))))
  else
  ((0, m)))
-- WorkMeter$Meter.tryCode
theorem c117_1 {s : Nat × (Nat → Int32)} {S : zS} {m0 m : zM} {B : Int} {d : Nat} {Q : Option zV → zM → Prop} (g0 : Nat) (a1 : Int) (hd : 15 ≤ d) (hJ : J S m0 B m) (hB : B + 4 ≤ 1000000000) (ha1 : (-2147483648) ≤ a1 ∧ a1 ≤ 2147483647) (hf4 : ¬ S.1 4) (hf6 : ¬ S.1 6) (hgg0 : ¬ S.2.1 g0) (hQ : ∀ (v : Int) m', (0 ≤ v ∧ v ≤ 1) → f117_1 g0 a1 m = (v, m') → J S m0 (B + 4) m' → Q (some (zi v)) m') : X (EE s) d 117 0 [(0, zr g0 8), (1, zi a1)] [] m Q := by
  refine X.aload_n 1 i117_0 rfl rfl rfl ?_
  refine X.getR 4 i117_1 rfl rfl (by decide) rfl rfl ?_
  refine X.getZ 7 0 i117_4 rfl rfl (by decide) rfl rfl rfl (fun h501 => ?_)
  refine X.ifeq 24 10 i117_7 rfl rfl rfl (fun h502 => ?_) (fun h502 => ?_)
  · refine X.cut [] i117_24 rfl ?_
    refine X.iconst 25 i117_24 rfl rfl (by decide) ?_
    refine X.retz i117_25 rfl t117 (by omega) ?_
    exact hQ 0 m (by first | trivial | omega) (Eq.trans (if_pos h502) rfl) (hJ.up (by omega)) 
  · refine X.aload_n 11 i117_10 rfl rfl rfl ?_
    refine X.getR 14 i117_11 rfl rfl (by decide) rfl rfl ?_
    refine X.aload_n 15 i117_14 rfl rfl rfl ?_
    refine X.getI 18 9 i117_15 rfl rfl (by decide) rfl rfl rfl ?_
    have h503 := r8_9 hJ g0
    refine X.callv 21 [zi (m g0 8 9)] [] [(0, zr g0 39), (1, zi (m g0 8 9))] i117_18 rfl (by decide) rfl rfl (by omega) rfl rfl (by decide) rfl t118 (Nat.le_of_ble_eq_true rfl) (Nat.le_of_ble_eq_true rfl) rfl ?_
    refine c118_1 (B := B) g0 (m g0 8 9) (by omega) (hJ.up (by omega)) (by omega) (by omega) (fun v506 hv506 hFv506 => ?_)
    show X (EE s) d 117 21 [(0, zr g0 8), (1, zi a1)] [zi v506] m _
    refine X.ifle 26 24 i117_21 rfl rfl rfl (fun h507 => ?_) (fun h507 => ?_)
    · refine X.iload_n 27 i117_26 rfl rfl rfl ?_
      refine X.aload_n 28 i117_27 rfl rfl rfl ?_
      refine X.getR 31 i117_28 rfl rfl (by decide) rfl rfl ?_
      refine X.getIr 34 1 i117_31 rfl rfl (by decide) rfl rfl rfl (fun h508 => ?_)
      refine X.icmpne 53 37 i117_34 rfl rfl rfl (fun h509 => ?_) (fun h509 => ?_)
      · refine X.cut [(0, zr g0 8)] i117_53 rfl ?_
        refine X.aload_n 54 i117_53 rfl rfl rfl ?_
        refine X.getR 57 i117_54 rfl rfl (by decide) rfl rfl ?_
        refine X.dup 58 i117_57 rfl rfl rfl ?_
        refine X.getI 61 2 i117_58 rfl rfl (by decide) rfl rfl rfl ?_
        have h510 := r39_2 hJ g0
        refine X.iconst 62 i117_61 rfl rfl (by decide) ?_
        refine X.iadd 63 i117_62 rfl rfl (by omega) ?_
        refine X.putI' 66 2 i117_63 rfl rfl (by decide) rfl rfl rfl (fun hrm511 m511 hm511 => ?_)
        have hJ512 := w39_2 (hJ.up (B' := B + 1) (by omega)) hm511 (by omega) hf4 hgg0
        refine X.aload_n 67 i117_66 rfl rfl rfl ?_
        refine X.bipush 69 i117_67 rfl rfl (by decide) ?_
        refine X.aload_n 70 i117_69 rfl rfl rfl ?_
        refine X.getR 73 i117_70 rfl rfl (by decide) rfl rfl ?_
        refine X.getI 76 2 i117_73 rfl rfl (by decide) rfl rfl rfl ?_
        have h513 := r39_2 hJ512 g0
        refine X.callv 79 [zi 32, zi (m511 g0 39 2)] [] [(0, zr g0 8), (1, zi 32), (2, zi (m511 g0 39 2))] i117_76 rfl (by decide) rfl rfl (by omega) rfl rfl (by decide) rfl t54 (Nat.le_of_ble_eq_true rfl) (Nat.le_of_ble_eq_true rfl) rfl ?_
        refine c54_3 (B := B + 1) g0 32 (m511 g0 39 2) (by omega) (hJ512.up (by omega)) (by omega) (by omega) (by omega) hf6 hgg0 (fun m514 hFv516 hJ515 => ?_)
        show X (EE s) d 117 79 [(0, zr g0 8)] [] m514 _
        refine X.aload_n 80 i117_79 rfl rfl rfl ?_
        refine X.getR 83 i117_80 rfl rfl (by decide) rfl rfl ?_
        refine X.callv 86 [] [] [(0, zr g0 39)] i117_83 rfl (by decide) rfl rfl (by omega) rfl rfl (by decide) rfl t120 (Nat.le_of_ble_eq_true rfl) (Nat.le_of_ble_eq_true rfl) rfl ?_
        refine X.aload_n 1 i120_0 rfl rfl rfl ?_
        refine X.getI 4 2 i120_1 rfl rfl (by decide) rfl rfl rfl ?_
        have h517 := r39_2 hJ515 g0
        refine X.iconst 5 i120_4 rfl rfl (by decide) ?_
        refine X.icmplt 12 8 i120_5 rfl rfl rfl (fun h518 => ?_) (fun h518 => ?_)
        · refine X.cut [] i120_12 rfl ?_
          refine X.iconst 13 i120_12 rfl rfl (by decide) ?_
          refine X.retz i120_13 rfl t120 (by omega) ?_
          show X (EE s) d 117 86 [(0, zr g0 8)] [zi 0] m514 _
          refine X.ifeq 107 89 i117_86 rfl rfl rfl (fun h519 => ?_) (fun h519 => (by exfalso; omega))
          refine X.cut [] i117_107 rfl ?_
          refine X.iconst 108 i117_107 rfl rfl (by decide) ?_
          refine X.retz i117_108 rfl t117 (by omega) ?_
          exact hQ 0 m514 (by first | trivial | omega) (Eq.trans (if_neg h502) (Eq.trans (zn_eq hFv506.symm) (Eq.trans (if_pos h507) (Eq.trans (if_neg h509) (Eq.trans (zs_eq hm511) (Eq.trans (zs_eq hFv516.symm) (Eq.trans (if_pos h518) rfl))))))) (hJ515.up (by omega)) 
        · refine X.iconst 9 i120_8 rfl rfl (by decide) ?_
          refine X.goto 13 i120_9 rfl rfl ?_
          refine X.cut [] i120_13 rfl ?_
          refine X.retz i120_13 rfl t120 (by omega) ?_
          show X (EE s) d 117 86 [(0, zr g0 8)] [zi 1] m514 _
          refine X.ifeq 107 89 i117_86 rfl rfl rfl (fun h520 => (by exfalso; omega)) (fun h520 => ?_)
          refine X.aload_n 90 i117_89 rfl rfl rfl ?_
          refine X.getR 93 i117_90 rfl rfl (by decide) rfl rfl ?_
          refine X.aload_n 94 i117_93 rfl rfl rfl ?_
          refine X.getI 97 9 i117_94 rfl rfl (by decide) rfl rfl rfl ?_
          have h521 := r8_9 hJ515 g0
          refine X.callv 100 [zi (m514 g0 8 9)] [] [(0, zr g0 39), (1, zi (m514 g0 8 9))] i117_97 rfl (by decide) rfl rfl (by omega) rfl rfl (by decide) rfl t121 (Nat.le_of_ble_eq_true rfl) (Nat.le_of_ble_eq_true rfl) rfl ?_
          refine c121_1 (B := B + 2) g0 (m514 g0 8 9) (by omega) (hJ515.up (by omega)) (by omega) (by omega) hf4 hgg0 (fun m522 hFv524 hJ523 => ?_)
          show X (EE s) d 117 100 [(0, zr g0 8)] [] m522 _
          refine X.aload_n 101 i117_100 rfl rfl rfl ?_
          refine X.bipush 103 i117_101 rfl rfl (by decide) ?_
          refine X.iconst 104 i117_103 rfl rfl (by decide) ?_
          refine X.callv 107 [zi 33, zi 0] [] [(0, zr g0 8), (1, zi 33), (2, zi 0)] i117_104 rfl (by decide) rfl rfl (by omega) rfl rfl (by decide) rfl t54 (Nat.le_of_ble_eq_true rfl) (Nat.le_of_ble_eq_true rfl) rfl ?_
          refine c54_4 (B := B + 3) g0 33 0 (by omega) (hJ523.up (by omega)) (by omega) (by omega) (by omega) hf6 hgg0 (fun m525 hFv527 hJ526 => ?_)
          show X (EE s) d 117 107 [(0, zr g0 8)] [] m525 _
          refine X.cut [] i117_107 rfl ?_
          refine X.iconst 108 i117_107 rfl rfl (by decide) ?_
          refine X.retz i117_108 rfl t117 (by omega) ?_
          exact hQ 0 m525 (by first | trivial | omega) (Eq.trans (if_neg h502) (Eq.trans (zn_eq hFv506.symm) (Eq.trans (if_pos h507) (Eq.trans (if_neg h509) (Eq.trans (zs_eq hm511) (Eq.trans (zs_eq hFv516.symm) (Eq.trans (if_neg h518) (Eq.trans (zs_eq hFv524.symm) (Eq.trans (zs_eq hFv527.symm) rfl))))))))) (hJ526.up (by omega)) 
      · refine X.aload_n 38 i117_37 rfl rfl rfl ?_
        refine X.getR 41 i117_38 rfl rfl (by decide) rfl rfl ?_
        refine X.callv 44 [] [] [(0, zr g0 39)] i117_41 rfl (by decide) rfl rfl (by omega) rfl rfl (by decide) rfl t119 (Nat.le_of_ble_eq_true rfl) (Nat.le_of_ble_eq_true rfl) rfl ?_
        refine c119_1 (B := B) g0  (by omega) (hJ.up (by omega)) (by omega)  hf4 hgg0 (fun m528 hFv530 hJ529 => ?_)
        show X (EE s) d 117 44 [(0, zr g0 8), (1, zi a1)] [] m528 _
        refine X.aload_n 45 i117_44 rfl rfl rfl ?_
        refine X.bipush 47 i117_45 rfl rfl (by decide) ?_
        refine X.iconst 48 i117_47 rfl rfl (by decide) ?_
        refine X.callv 51 [zi 31, zi 0] [] [(0, zr g0 8), (1, zi 31), (2, zi 0)] i117_48 rfl (by decide) rfl rfl (by omega) rfl rfl (by decide) rfl t54 (Nat.le_of_ble_eq_true rfl) (Nat.le_of_ble_eq_true rfl) rfl ?_
        refine c54_5 (B := B + 1) g0 31 0 (by omega) (hJ529.up (by omega)) (by omega) (by omega) (by omega) hf6 hgg0 (fun m531 hFv533 hJ532 => ?_)
        show X (EE s) d 117 51 [(0, zr g0 8), (1, zi a1)] [] m531 _
        refine X.iconst 52 i117_51 rfl rfl (by decide) ?_
        refine X.retz i117_52 rfl t117 (by omega) ?_
        exact hQ 1 m531 (by first | trivial | omega) (Eq.trans (if_neg h502) (Eq.trans (zn_eq hFv506.symm) (Eq.trans (if_pos h507) (Eq.trans (if_pos h509) (Eq.trans (zs_eq hFv530.symm) (Eq.trans (zs_eq hFv533.symm) rfl)))))) (hJ532.up (by omega)) 
    · refine X.cut [] i117_24 rfl ?_
      refine X.iconst 25 i117_24 rfl rfl (by decide) ?_
      refine X.retz i117_25 rfl t117 (by omega) ?_
      exact hQ 0 m (by first | trivial | omega) (Eq.trans (if_neg h502) (Eq.trans (zn_eq hFv506.symm) (Eq.trans (if_neg h507) rfl))) (hJ.up (by omega)) 
-- WorkMeter.open
noncomputable def f116_1 (a1 : Int) (m : zM) : Int × zM :=
  zb (f117_1 0 a1 m) fun v503 m501 =>
  (v503, m501)
-- WorkMeter.open
theorem c116_1 {s : Nat × (Nat → Int32)} {S : zS} {m0 m : zM} {B : Int} {d : Nat} {Q : Option zV → zM → Prop} (a1 : Int) (hd : 16 ≤ d) (hJ : J S m0 B m) (hB : B + 4 ≤ 1000000000) (ha1 : (-2147483648) ≤ a1 ∧ a1 ≤ 2147483647) (hf4 : ¬ S.1 4) (hf6 : ¬ S.1 6) (hg0 : ¬ S.2.1 0) (hQ : ∀ (v : Int) m', (0 ≤ v ∧ v ≤ 1) → f116_1 a1 m = (v, m') → J S m0 (B + 4) m' → Q (some (zi v)) m') : X (EE s) d 116 0 [(0, zr 4 40), (1, zi a1)] [] m Q := by
  refine X.aload_n 1 i116_0 rfl rfl rfl ?_
  refine X.getF 4 i116_1 rfl rfl (by decide) rfl rfl ?_
  refine X.iload_n 5 i116_4 rfl rfl rfl ?_
  refine X.callv 8 [zi a1] [] [(0, zr 0 8), (1, zi a1)] i116_5 rfl (by decide) rfl rfl (by omega) rfl rfl (by decide) rfl t117 (Nat.le_of_ble_eq_true rfl) (Nat.le_of_ble_eq_true rfl) rfl ?_
  refine c117_1 (B := B) 0 a1 (by omega) (hJ.up (by omega)) (by omega) (by omega) hf4 hf6 hg0 (fun v503 m501 hv503 hFv503 hJ502 => ?_)
  show X (EE s) d 116 8 [(0, zr 4 40), (1, zi a1)] [zi v503] m501 _
  refine X.retz i116_8 rfl t116 (by omega) ?_
  exact hQ v503 m501 (by first | trivial | omega) (Eq.trans (zb_eq hFv503) rfl) (hJ502.up (by omega)) 
-- WorkMeterModel.lockedFor
noncomputable def f278_1 (m : zM) : Int :=
  zn (if (m 4 45 1617) ≤ (m 4 45 0) then
  (0)
  else
  (((m 4 45 1617) - (m 4 45 0)))) fun v505 =>
  v505
-- WorkMeterModel.lockedFor
theorem c278_1 {s : Nat × (Nat → Int32)} {S : zS} {m0 m : zM} {B : Int} {d : Nat} {Q : Option zV → zM → Prop} (hd : 13 ≤ d) (hJ : J S m0 B m) (hB : B + 0 ≤ 1000000000) (hQ : ∀ (v : Int), ((-1999999999) ≤ v ∧ v ≤ 2000000300) → f278_1 m = v → Q (some (zl v)) m) : X (EE s) d 278 0 [(0, zr 4 44)] [] m Q := by
  refine X.aload_n 1 i278_0 rfl rfl rfl ?_
  refine X.getF 4 i278_1 rfl rfl (by decide) rfl rfl ?_
  refine X.sipush 7 i278_4 rfl rfl (by decide) ?_
  refine X.lald 8 i278_7 rfl rfl (by decide) rfl (by omega) ?_
  have h501 := r45_1617 hJ 4
  refine X.aload_n 9 i278_8 rfl rfl rfl ?_
  refine X.getF 12 i278_9 rfl rfl (by decide) rfl rfl ?_
  refine X.iconst 13 i278_12 rfl rfl (by decide) ?_
  refine X.lald 14 i278_13 rfl rfl (by decide) rfl (by omega) ?_
  have h502 := r45_0 hJ 4
  refine X.lcmp 15 i278_14 rfl rfl (fun z503 hz503 => ?_)
  have hK508 : ∀ (v : Int) , ((-1999999999) ≤ v ∧ v ≤ 2000000300) → (if (m 4 45 1617) ≤ (m 4 45 0) then
      (0)
      else
      (((m 4 45 1617) - (m 4 45 0)))) = v → X (EE s) d 278 37 [] [zl v] m Q := by
    intro v505 hv505 hT509
    refine X.retl i278_37 rfl t278 ?_
    exact hQ v505 (by first | trivial | omega) (Eq.trans (zn_eq hT509.symm) rfl) 
  refine X.ifle 36 18 i278_15 rfl rfl rfl (fun h504 => ?_) (fun h504 => ?_)
  · have h504c : (m 4 45 1617) ≤ (m 4 45 0) := by omega
    clear h504 hz503
    refine X.cut [] i278_36 rfl ?_
    refine X.lconst (y := 0) 37 i278_36 rfl rfl rfl ?_
    exact hK508 0 (by first | trivial | omega) (Eq.trans (if_pos h504c) rfl)
  · have h504c : ¬ (m 4 45 1617) ≤ (m 4 45 0) := by omega
    clear h504 hz503
    refine X.aload_n 19 i278_18 rfl rfl rfl ?_
    refine X.getF 22 i278_19 rfl rfl (by decide) rfl rfl ?_
    refine X.sipush 25 i278_22 rfl rfl (by decide) ?_
    refine X.lald 26 i278_25 rfl rfl (by decide) rfl (by omega) ?_
    refine X.aload_n 27 i278_26 rfl rfl rfl ?_
    refine X.getF 30 i278_27 rfl rfl (by decide) rfl rfl ?_
    refine X.iconst 31 i278_30 rfl rfl (by decide) ?_
    refine X.lald 32 i278_31 rfl rfl (by decide) rfl (by omega) ?_
    refine X.lsub 33 i278_32 rfl rfl (by omega) ?_
    refine X.goto 37 i278_33 rfl rfl ?_
    refine X.cut [] i278_37 rfl ?_
    exact hK508 ((m 4 45 1617) - (m 4 45 0)) (by first | trivial | omega) (Eq.trans (if_neg h504c) rfl)
-- WorkMeterModel.open
noncomputable def f277_1 (a1 : Int) (m : zM) : Int × zM :=
  if (m 4 45 1614) = 0 then
  ((0, m))
  else
  (zn (f278_1 m) fun v506 =>
  if v506 ≤ 0 then
  (if a1 = (m 4 45 1615) then
  (zs (z_upd m 4 45 1614 0) fun m529 =>
  zs (z_upd m529 4 45 1616 0) fun m531 =>
  zs (z_upd m531 4 45 1617 0) fun m533 =>
  zs (f223_1 31 0 m533) fun m535 =>
  (1, m535))
  else
  (zs (z_upd m 4 45 1616 ((m 4 45 1616) + 1)) fun m512 =>
  zs (f223_1 32 (m512 4 45 1616) m512) fun m515 =>
  if (m515 4 45 1616) < 3 then
  ((0, m515))
  else
  (zs (z_upd m515 4 45 1616 0) fun m521 =>
  zs (z_upd m521 4 45 1617 ((m521 4 45 0) + 300)) fun m524 =>
  zs (f223_1 33 0 m524) fun m526 =>
  (0, m526))))
  else
  ((0, m)))
-- WorkMeterModel.open
theorem c277_1 {s : Nat × (Nat → Int32)} {S : zS} {m0 m : zM} {B : Int} {d : Nat} {Q : Option zV → zM → Prop} (a1 : Int) (hd : 14 ≤ d) (hJ : J S m0 B m) (hB : B + 4 ≤ 1000000000) (ha1 : (-2147483648) ≤ a1 ∧ a1 ≤ 2147483647) (hf24 : ¬ S.1 24) (hf26 : ¬ S.1 26) (hg4 : ¬ S.2.1 4) (hQ : ∀ (v : Int) m', (0 ≤ v ∧ v ≤ 1) → f277_1 a1 m = (v, m') → J S m0 (B + 4) m' → Q (some (zi v)) m') : X (EE s) d 277 0 [(0, zr 4 44), (1, zi a1)] [] m Q := by
  refine X.aload_n 1 i277_0 rfl rfl rfl ?_
  refine X.getF 4 i277_1 rfl rfl (by decide) rfl rfl ?_
  refine X.sipush 7 i277_4 rfl rfl (by decide) ?_
  refine X.lald 8 i277_7 rfl rfl (by decide) rfl (by omega) ?_
  have h501 := r45_1614 hJ 4
  refine X.lconst (y := 0) 9 i277_8 rfl rfl rfl ?_
  refine X.lcmp 10 i277_9 rfl rfl (fun z502 hz502 => ?_)
  refine X.ifeq 22 13 i277_10 rfl rfl rfl (fun h503 => ?_) (fun h503 => ?_)
  · have h503c : (m 4 45 1614) = 0 := by omega
    clear h503 hz502
    refine X.cut [] i277_22 rfl ?_
    refine X.iconst 23 i277_22 rfl rfl (by decide) ?_
    refine X.retz i277_23 rfl t277 (by omega) ?_
    exact hQ 0 m (by first | trivial | omega) (Eq.trans (if_pos h503c) rfl) (hJ.up (by omega)) 
  · have h503c : ¬ (m 4 45 1614) = 0 := by omega
    clear h503 hz502
    refine X.aload_n 14 i277_13 rfl rfl rfl ?_
    refine X.callv 17 [] [] [(0, zr 4 44)] i277_14 rfl (by decide) rfl rfl (by omega) rfl rfl (by decide) rfl t278 (Nat.le_of_ble_eq_true rfl) (Nat.le_of_ble_eq_true rfl) rfl ?_
    refine c278_1 (B := B)   (by omega) (hJ.up (by omega)) (by omega)  (fun v506 hv506 hFv506 => ?_)
    show X (EE s) d 277 17 [(0, zr 4 44), (1, zi a1)] [zl v506] m _
    refine X.lconst (y := 0) 18 i277_17 rfl rfl rfl ?_
    refine X.lcmp 19 i277_18 rfl rfl (fun z507 hz507 => ?_)
    refine X.ifle 24 22 i277_19 rfl rfl rfl (fun h508 => ?_) (fun h508 => ?_)
    · have h508c : v506 ≤ 0 := by omega
      clear h508 hz507
      refine X.iload_n 25 i277_24 rfl rfl rfl ?_
      refine X.i2l 26 i277_25 rfl rfl ?_
      refine X.aload_n 27 i277_26 rfl rfl rfl ?_
      refine X.getF 30 i277_27 rfl rfl (by decide) rfl rfl ?_
      refine X.sipush 33 i277_30 rfl rfl (by decide) ?_
      refine X.lald 34 i277_33 rfl rfl (by decide) rfl (by omega) ?_
      refine X.lcmp 35 i277_34 rfl rfl (fun z509 hz509 => ?_)
      refine X.ifne 74 38 i277_35 rfl rfl rfl (fun h510 => ?_) (fun h510 => ?_)
      · have h510c : ¬ a1 = (m 4 45 1615) := by omega
        clear h510 hz509
        refine X.cut [(0, zr 4 44)] i277_74 rfl ?_
        refine X.aload_n 75 i277_74 rfl rfl rfl ?_
        refine X.getF 78 i277_75 rfl rfl (by decide) rfl rfl ?_
        refine X.sipush 81 i277_78 rfl rfl (by decide) ?_
        refine X.dup2 82 i277_81 rfl rfl ?_
        refine X.lald 83 i277_82 rfl rfl (by decide) rfl (by omega) ?_
        have h511 := r45_1616 hJ 4
        refine X.lconst (y := 1) 84 i277_83 rfl rfl rfl ?_
        refine X.ladd 85 i277_84 rfl rfl (by omega) ?_
        refine X.last' 86 i277_85 rfl rfl (by decide) rfl (by omega) (fun hrm512 m512 hm512 => ?_)
        have hJ513 := w45_1616 (hJ.up (B' := B + 1) (by omega)) hm512 (by omega) hf24 hg4
        refine X.aload_n 87 i277_86 rfl rfl rfl ?_
        refine X.bipush 89 i277_87 rfl rfl (by decide) ?_
        refine X.aload_n 90 i277_89 rfl rfl rfl ?_
        refine X.getF 93 i277_90 rfl rfl (by decide) rfl rfl ?_
        refine X.sipush 96 i277_93 rfl rfl (by decide) ?_
        refine X.lald 97 i277_96 rfl rfl (by decide) rfl (by omega) ?_
        have h514 := r45_1616 hJ513 4
        refine X.callv 100 [zi 32, zl (m512 4 45 1616)] [] [(0, zr 4 44), (1, zi 32), (2, zl (m512 4 45 1616))] i277_97 rfl (by decide) rfl rfl (by omega) rfl rfl (by decide) rfl t223 (Nat.le_of_ble_eq_true rfl) (Nat.le_of_ble_eq_true rfl) rfl ?_
        refine c223_1 (B := B + 1)  32 (m512 4 45 1616) (by omega) (hJ513.up (by omega)) (by omega) (by omega) hf26 hg4 (fun m515 hFv517 hJ516 => ?_)
        show X (EE s) d 277 100 [(0, zr 4 44)] [] m515 _
        refine X.aload_n 101 i277_100 rfl rfl rfl ?_
        refine X.getF 104 i277_101 rfl rfl (by decide) rfl rfl ?_
        refine X.sipush 107 i277_104 rfl rfl (by decide) ?_
        refine X.lald 108 i277_107 rfl rfl (by decide) rfl (by omega) ?_
        have h518 := r45_1616 hJ516 4
        refine X.ldc2 111 i277_108 rfl rfl (by decide) ?_
        refine X.lcmp 112 i277_111 rfl rfl (fun z519 hz519 => ?_)
        refine X.ifge 117 115 i277_112 rfl rfl rfl (fun h520 => ?_) (fun h520 => ?_)
        · have h520c : ¬ (m515 4 45 1616) < 3 := by omega
          clear h520 hz519
          refine X.aload_n 118 i277_117 rfl rfl rfl ?_
          refine X.getF 121 i277_118 rfl rfl (by decide) rfl rfl ?_
          refine X.sipush 124 i277_121 rfl rfl (by decide) ?_
          refine X.lconst (y := 0) 125 i277_124 rfl rfl rfl ?_
          refine X.last' 126 i277_125 rfl rfl (by decide) rfl (by omega) (fun hrm521 m521 hm521 => ?_)
          have rbm521 := r45_1616 hJ516 4
          have hJ522 := w45_1616 (hJ516.up (B' := B + 3) (by omega)) hm521 (by omega) hf24 hg4
          refine X.aload_n 127 i277_126 rfl rfl rfl ?_
          refine X.getF 130 i277_127 rfl rfl (by decide) rfl rfl ?_
          refine X.sipush 133 i277_130 rfl rfl (by decide) ?_
          refine X.aload_n 134 i277_133 rfl rfl rfl ?_
          refine X.getF 137 i277_134 rfl rfl (by decide) rfl rfl ?_
          refine X.iconst 138 i277_137 rfl rfl (by decide) ?_
          refine X.lald 139 i277_138 rfl rfl (by decide) rfl (by omega) ?_
          have h523 := r45_0 hJ522 4
          refine X.ldc2 142 i277_139 rfl rfl (by decide) ?_
          refine X.ladd 143 i277_142 rfl rfl (by omega) ?_
          refine X.last' 144 i277_143 rfl rfl (by decide) rfl (by omega) (fun hrm524 m524 hm524 => ?_)
          have hJ525 := w45_1617 hJ522 hm524 (by omega) hf24 hg4
          refine X.aload_n 145 i277_144 rfl rfl rfl ?_
          refine X.bipush 147 i277_145 rfl rfl (by decide) ?_
          refine X.lconst (y := 0) 148 i277_147 rfl rfl rfl ?_
          refine X.callv 151 [zi 33, zl 0] [] [(0, zr 4 44), (1, zi 33), (2, zl 0)] i277_148 rfl (by decide) rfl rfl (by omega) rfl rfl (by decide) rfl t223 (Nat.le_of_ble_eq_true rfl) (Nat.le_of_ble_eq_true rfl) rfl ?_
          refine c223_1 (B := B + 3)  33 0 (by omega) (hJ525.up (by omega)) (by omega) (by omega) hf26 hg4 (fun m526 hFv528 hJ527 => ?_)
          show X (EE s) d 277 151 [(0, zr 4 44)] [] m526 _
          refine X.iconst 152 i277_151 rfl rfl (by decide) ?_
          refine X.retz i277_152 rfl t277 (by omega) ?_
          exact hQ 0 m526 (by first | trivial | omega) (Eq.trans (if_neg h503c) (Eq.trans (zn_eq hFv506.symm) (Eq.trans (if_pos h508c) (Eq.trans (if_neg h510c) (Eq.trans (zs_eq hm512) (Eq.trans (zs_eq hFv517.symm) (Eq.trans (if_neg h520c) (Eq.trans (zs_eq hm521) (Eq.trans (zs_eq hm524) (Eq.trans (zs_eq hFv528.symm) rfl)))))))))) (hJ527.up (by omega)) 
        · have h520c : (m515 4 45 1616) < 3 := by omega
          clear h520 hz519
          refine X.iconst 116 i277_115 rfl rfl (by decide) ?_
          refine X.retz i277_116 rfl t277 (by omega) ?_
          exact hQ 0 m515 (by first | trivial | omega) (Eq.trans (if_neg h503c) (Eq.trans (zn_eq hFv506.symm) (Eq.trans (if_pos h508c) (Eq.trans (if_neg h510c) (Eq.trans (zs_eq hm512) (Eq.trans (zs_eq hFv517.symm) (Eq.trans (if_pos h520c) rfl))))))) (hJ516.up (by omega)) 
      · have h510c : a1 = (m 4 45 1615) := by omega
        clear h510 hz509
        refine X.aload_n 39 i277_38 rfl rfl rfl ?_
        refine X.getF 42 i277_39 rfl rfl (by decide) rfl rfl ?_
        refine X.sipush 45 i277_42 rfl rfl (by decide) ?_
        refine X.lconst (y := 0) 46 i277_45 rfl rfl rfl ?_
        refine X.last' 47 i277_46 rfl rfl (by decide) rfl (by omega) (fun hrm529 m529 hm529 => ?_)
        have hJ530 := w45_1614 hJ hm529 (by omega) hf24 hg4
        refine X.aload_n 48 i277_47 rfl rfl rfl ?_
        refine X.getF 51 i277_48 rfl rfl (by decide) rfl rfl ?_
        refine X.sipush 54 i277_51 rfl rfl (by decide) ?_
        refine X.lconst (y := 0) 55 i277_54 rfl rfl rfl ?_
        refine X.last' 56 i277_55 rfl rfl (by decide) rfl (by omega) (fun hrm531 m531 hm531 => ?_)
        have rbm531 := r45_1616 hJ530 4
        have hJ532 := w45_1616 (hJ530.up (B' := B + 1) (by omega)) hm531 (by omega) hf24 hg4
        refine X.aload_n 57 i277_56 rfl rfl rfl ?_
        refine X.getF 60 i277_57 rfl rfl (by decide) rfl rfl ?_
        refine X.sipush 63 i277_60 rfl rfl (by decide) ?_
        refine X.lconst (y := 0) 64 i277_63 rfl rfl rfl ?_
        refine X.last' 65 i277_64 rfl rfl (by decide) rfl (by omega) (fun hrm533 m533 hm533 => ?_)
        have hJ534 := w45_1617 hJ532 hm533 (by omega) hf24 hg4
        refine X.aload_n 66 i277_65 rfl rfl rfl ?_
        refine X.bipush 68 i277_66 rfl rfl (by decide) ?_
        refine X.lconst (y := 0) 69 i277_68 rfl rfl rfl ?_
        refine X.callv 72 [zi 31, zl 0] [] [(0, zr 4 44), (1, zi 31), (2, zl 0)] i277_69 rfl (by decide) rfl rfl (by omega) rfl rfl (by decide) rfl t223 (Nat.le_of_ble_eq_true rfl) (Nat.le_of_ble_eq_true rfl) rfl ?_
        refine c223_1 (B := B + 1)  31 0 (by omega) (hJ534.up (by omega)) (by omega) (by omega) hf26 hg4 (fun m535 hFv537 hJ536 => ?_)
        show X (EE s) d 277 72 [(0, zr 4 44), (1, zi a1)] [] m535 _
        refine X.iconst 73 i277_72 rfl rfl (by decide) ?_
        refine X.retz i277_73 rfl t277 (by omega) ?_
        exact hQ 1 m535 (by first | trivial | omega) (Eq.trans (if_neg h503c) (Eq.trans (zn_eq hFv506.symm) (Eq.trans (if_pos h508c) (Eq.trans (if_pos h510c) (Eq.trans (zs_eq hm529) (Eq.trans (zs_eq hm531) (Eq.trans (zs_eq hm533) (Eq.trans (zs_eq hFv537.symm) rfl)))))))) (hJ536.up (by omega)) 
    · have h508c : ¬ v506 ≤ 0 := by omega
      clear h508 hz507
      refine X.cut [] i277_22 rfl ?_
      refine X.iconst 23 i277_22 rfl rfl (by decide) ?_
      refine X.retz i277_23 rfl t277 (by omega) ?_
      exact hQ 0 m (by first | trivial | omega) (Eq.trans (if_neg h503c) (Eq.trans (zn_eq hFv506.symm) (Eq.trans (if_neg h508c) rfl))) (hJ.up (by omega)) 
-- WorkMeter.season
noncomputable def f122_1 (a1 a2 : Int) (m : zM) : Int × zM :=
  zb (f17_1 0 m) fun v503 m501 =>
  if v503 = 0 then
  (if a1 < 0 then
  ((0, m501))
  else
  (if 4 ≤ a1 then
  ((0, m501))
  else
  (if a2 < (-1) then
  ((0, m501))
  else
  (if a2 < 365 then
  (if a1 = 0 then
  (if a2 = (-1) then
  ((0, m501))
  else
  (zs (z_upd m501 0 15 a1 a2) fun m516 =>
  (1, m516)))
  else
  (zs (z_upd m501 0 15 a1 a2) fun m513 =>
  (1, m513)))
  else
  ((0, m501))))))
  else
  ((0, m501))
-- WorkMeter.season
theorem c122_1 {s : Nat × (Nat → Int32)} {S : zS} {m0 m : zM} {B : Int} {d : Nat} {Q : Option zV → zM → Prop} (a1 a2 : Int) (hd : 14 ≤ d) (hJ : J S m0 B m) (hB : B + 0 ≤ 1000000000) (ha1 : (-2147483648) ≤ a1 ∧ a1 ≤ 2147483647) (ha2 : (-2147483648) ≤ a2 ∧ a2 ≤ 2147483647) (hf1 : ¬ S.1 1) (hf4 : ¬ S.1 4) (hg0 : ¬ S.2.1 0) (hQ : ∀ (v : Int) m', (0 ≤ v ∧ v ≤ 1) → f122_1 a1 a2 m = (v, m') → J S m0 (B) m' → Q (some (zi v)) m') : X (EE s) d 122 0 [(0, zr 4 40), (1, zi a1), (2, zi a2)] [] m Q := by
  refine X.aload_n 1 i122_0 rfl rfl rfl ?_
  refine X.getF 4 i122_1 rfl rfl (by decide) rfl rfl ?_
  refine X.getR 7 i122_4 rfl rfl (by decide) rfl rfl ?_
  refine X.callv 10 [] [] [(0, zr 0 39)] i122_7 rfl (by decide) rfl rfl (by omega) rfl rfl (by decide) rfl t17 (Nat.le_of_ble_eq_true rfl) (Nat.le_of_ble_eq_true rfl) rfl ?_
  refine c17_1 (B := B) 0  (by omega) (hJ.up (by omega)) (by omega)  hf4 hg0 (fun v503 m501 hv503 hFv503 hJ502 => ?_)
  show X (EE s) d 122 10 [(0, zr 4 40), (1, zi a1), (2, zi a2)] [zi v503] m501 _
  refine X.ifne 32 13 i122_10 rfl rfl rfl (fun h504 => ?_) (fun h504 => ?_)
  · refine X.cut [] i122_32 rfl ?_
    refine X.iconst 33 i122_32 rfl rfl (by decide) ?_
    refine X.retz i122_33 rfl t122 (by omega) ?_
    exact hQ 0 m501 (by first | trivial | omega) (Eq.trans (zb_eq hFv503) (Eq.trans (if_neg h504) rfl)) (hJ502.up (by omega)) 
  · refine X.iload_n 14 i122_13 rfl rfl rfl ?_
    refine X.calls 17 [zi a1] [] [(0, zi a1)] i122_14 (by decide) rfl rfl (by omega) rfl rfl t123 (Nat.le_of_ble_eq_true rfl) (Nat.le_of_ble_eq_true rfl) rfl ?_
    refine X.iload_n 1 i123_0 rfl rfl rfl ?_
    refine X.iflt 13 4 i123_1 rfl rfl rfl (fun h505 => ?_) (fun h505 => ?_)
    · refine X.cut [] i123_13 rfl ?_
      refine X.iconst 14 i123_13 rfl rfl (by decide) ?_
      refine X.retz i123_14 rfl t123 (by omega) ?_
      show X (EE s) d 122 17 [(0, zr 4 40), (1, zi a1), (2, zi a2)] [zi 0] m501 _
      refine X.ifeq 32 20 i122_17 rfl rfl rfl (fun h506 => ?_) (fun h506 => (by exfalso; omega))
      refine X.cut [] i122_32 rfl ?_
      refine X.iconst 33 i122_32 rfl rfl (by decide) ?_
      refine X.retz i122_33 rfl t122 (by omega) ?_
      exact hQ 0 m501 (by first | trivial | omega) (Eq.trans (zb_eq hFv503) (Eq.trans (if_pos h504) (Eq.trans (if_pos h505) rfl))) (hJ502.up (by omega)) 
    · refine X.iload_n 5 i123_4 rfl rfl rfl ?_
      refine X.iconst 6 i123_5 rfl rfl (by decide) ?_
      refine X.icmpge 13 9 i123_6 rfl rfl rfl (fun h507 => ?_) (fun h507 => ?_)
      · refine X.cut [] i123_13 rfl ?_
        refine X.iconst 14 i123_13 rfl rfl (by decide) ?_
        refine X.retz i123_14 rfl t123 (by omega) ?_
        show X (EE s) d 122 17 [(0, zr 4 40), (1, zi a1), (2, zi a2)] [zi 0] m501 _
        refine X.ifeq 32 20 i122_17 rfl rfl rfl (fun h508 => ?_) (fun h508 => (by exfalso; omega))
        refine X.cut [] i122_32 rfl ?_
        refine X.iconst 33 i122_32 rfl rfl (by decide) ?_
        refine X.retz i122_33 rfl t122 (by omega) ?_
        exact hQ 0 m501 (by first | trivial | omega) (Eq.trans (zb_eq hFv503) (Eq.trans (if_pos h504) (Eq.trans (if_neg h505) (Eq.trans (if_pos h507) rfl)))) (hJ502.up (by omega)) 
      · refine X.iconst 10 i123_9 rfl rfl (by decide) ?_
        refine X.goto 14 i123_10 rfl rfl ?_
        refine X.cut [] i123_14 rfl ?_
        refine X.retz i123_14 rfl t123 (by omega) ?_
        show X (EE s) d 122 17 [(0, zr 4 40), (1, zi a1), (2, zi a2)] [zi 1] m501 _
        refine X.ifeq 32 20 i122_17 rfl rfl rfl (fun h509 => (by exfalso; omega)) (fun h509 => ?_)
        refine X.iload_n 21 i122_20 rfl rfl rfl ?_
        refine X.iconst 22 i122_21 rfl rfl (by decide) ?_
        refine X.icmplt 32 25 i122_22 rfl rfl rfl (fun h510 => ?_) (fun h510 => ?_)
        · refine X.cut [] i122_32 rfl ?_
          refine X.iconst 33 i122_32 rfl rfl (by decide) ?_
          refine X.retz i122_33 rfl t122 (by omega) ?_
          exact hQ 0 m501 (by first | trivial | omega) (Eq.trans (zb_eq hFv503) (Eq.trans (if_pos h504) (Eq.trans (if_neg h505) (Eq.trans (if_neg h507) (Eq.trans (if_pos h510) rfl))))) (hJ502.up (by omega)) 
        · refine X.iload_n 26 i122_25 rfl rfl rfl ?_
          refine X.sipush 29 i122_26 rfl rfl (by decide) ?_
          refine X.icmplt 34 32 i122_29 rfl rfl rfl (fun h511 => ?_) (fun h511 => ?_)
          · refine X.iload_n 35 i122_34 rfl rfl rfl ?_
            refine X.ifne 45 38 i122_35 rfl rfl rfl (fun h512 => ?_) (fun h512 => ?_)
            · refine X.aload_n 46 i122_45 rfl rfl rfl ?_
              refine X.getF 49 i122_46 rfl rfl (by decide) rfl rfl ?_
              refine X.getR 52 i122_49 rfl rfl (by decide) rfl rfl ?_
              refine X.getR 55 i122_52 rfl rfl (by decide) rfl rfl ?_
              refine X.iload_n 56 i122_55 rfl rfl rfl ?_
              refine X.iload_n 57 i122_56 rfl rfl rfl ?_
              refine X.iast' 58 i122_57 rfl rfl (by decide) rfl (by omega) (fun hrm513 m513 hm513 => ?_)
              have hJ514 := w15_0 hJ502 hm513 (by omega) (by omega) hf1 hg0
              refine X.iconst 59 i122_58 rfl rfl (by decide) ?_
              refine X.retz i122_59 rfl t122 (by omega) ?_
              exact hQ 1 m513 (by first | trivial | omega) (Eq.trans (zb_eq hFv503) (Eq.trans (if_pos h504) (Eq.trans (if_neg h505) (Eq.trans (if_neg h507) (Eq.trans (if_neg h510) (Eq.trans (if_pos h511) (Eq.trans (if_neg h512) (Eq.trans (zs_eq hm513) rfl)))))))) (hJ514.up (by omega)) 
            · refine X.iload_n 39 i122_38 rfl rfl rfl ?_
              refine X.iconst 40 i122_39 rfl rfl (by decide) ?_
              refine X.icmpne 45 43 i122_40 rfl rfl rfl (fun h515 => ?_) (fun h515 => ?_)
              · refine X.aload_n 46 i122_45 rfl rfl rfl ?_
                refine X.getF 49 i122_46 rfl rfl (by decide) rfl rfl ?_
                refine X.getR 52 i122_49 rfl rfl (by decide) rfl rfl ?_
                refine X.getR 55 i122_52 rfl rfl (by decide) rfl rfl ?_
                refine X.iload_n 56 i122_55 rfl rfl rfl ?_
                refine X.iload_n 57 i122_56 rfl rfl rfl ?_
                refine X.iast' 58 i122_57 rfl rfl (by decide) rfl (by omega) (fun hrm516 m516 hm516 => ?_)
                have hJ517 := w15_0 hJ502 hm516 (by omega) (by omega) hf1 hg0
                refine X.iconst 59 i122_58 rfl rfl (by decide) ?_
                refine X.retz i122_59 rfl t122 (by omega) ?_
                exact hQ 1 m516 (by first | trivial | omega) (Eq.trans (zb_eq hFv503) (Eq.trans (if_pos h504) (Eq.trans (if_neg h505) (Eq.trans (if_neg h507) (Eq.trans (if_neg h510) (Eq.trans (if_pos h511) (Eq.trans (if_pos h512) (Eq.trans (if_neg h515) (Eq.trans (zs_eq hm516) rfl))))))))) (hJ517.up (by omega)) 
              · refine X.iconst 44 i122_43 rfl rfl (by decide) ?_
                refine X.retz i122_44 rfl t122 (by omega) ?_
                exact hQ 0 m501 (by first | trivial | omega) (Eq.trans (zb_eq hFv503) (Eq.trans (if_pos h504) (Eq.trans (if_neg h505) (Eq.trans (if_neg h507) (Eq.trans (if_neg h510) (Eq.trans (if_pos h511) (Eq.trans (if_pos h512) (Eq.trans (if_pos h515) rfl)))))))) (hJ502.up (by omega)) 
          · refine X.cut [] i122_32 rfl ?_
            refine X.iconst 33 i122_32 rfl rfl (by decide) ?_
            refine X.retz i122_33 rfl t122 (by omega) ?_
            exact hQ 0 m501 (by first | trivial | omega) (Eq.trans (zb_eq hFv503) (Eq.trans (if_pos h504) (Eq.trans (if_neg h505) (Eq.trans (if_neg h507) (Eq.trans (if_neg h510) (Eq.trans (if_neg h511) rfl)))))) (hJ502.up (by omega)) 
-- WorkMeterModel.season
noncomputable def f245_1 (a1 a2 : Int) (m : zM) : Int × zM :=
  zb (f203_1 m) fun v503 m501 =>
  if v503 = 0 then
  (if a1 < 0 then
  ((0, m501))
  else
  (if a1 ≤ 3 then
  (zn (if a1 = 0 then
  (0)
  else
  ((-1))) fun v513 =>
  if a2 < v513 then
  ((0, m501))
  else
  (if a2 ≤ 364 then
  (zs (z_upd m501 4 45 (391 + a1) a2) fun m525 =>
  (1, m525))
  else
  ((0, m501))))
  else
  ((0, m501))))
  else
  ((0, m501))
-- WorkMeterModel.season
theorem c245_1 {s : Nat × (Nat → Int32)} {S : zS} {m0 m : zM} {B : Int} {d : Nat} {Q : Option zV → zM → Prop} (a1 a2 : Int) (hd : 14 ≤ d) (hJ : J S m0 B m) (hB : B + 0 ≤ 1000000000) (ha1 : (-2147483648) ≤ a1 ∧ a1 ≤ 2147483647) (ha2 : (-2147483648) ≤ a2 ∧ a2 ≤ 2147483647) (hf21 : ¬ S.1 21) (hf24 : ¬ S.1 24) (hg4 : ¬ S.2.1 4) (hQ : ∀ (v : Int) m', (0 ≤ v ∧ v ≤ 1) → f245_1 a1 a2 m = (v, m') → J S m0 (B) m' → Q (some (zi v)) m') : X (EE s) d 245 0 [(0, zr 4 44), (1, zi a1), (2, zi a2)] [] m Q := by
  refine X.aload_n 1 i245_0 rfl rfl rfl ?_
  refine X.callv 4 [] [] [(0, zr 4 44)] i245_1 rfl (by decide) rfl rfl (by omega) rfl rfl (by decide) rfl t203 (Nat.le_of_ble_eq_true rfl) (Nat.le_of_ble_eq_true rfl) rfl ?_
  refine c203_1 (B := B)   (by omega) (hJ.up (by omega)) (by omega)  hf24 hg4 (fun v503 m501 hv503 hFv503 hJ502 => ?_)
  show X (EE s) d 245 4 [(0, zr 4 44), (1, zi a1), (2, zi a2)] [zi v503] m501 _
  refine X.ifne 36 7 i245_4 rfl rfl rfl (fun h504 => ?_) (fun h504 => ?_)
  · refine X.cut [] i245_36 rfl ?_
    refine X.iconst 37 i245_36 rfl rfl (by decide) ?_
    refine X.retz i245_37 rfl t245 (by omega) ?_
    exact hQ 0 m501 (by first | trivial | omega) (Eq.trans (zb_eq hFv503) (Eq.trans (if_neg h504) rfl)) (hJ502.up (by omega)) 
  · refine X.iload_n 8 i245_7 rfl rfl rfl ?_
    refine X.calls 11 [zi a1] [] [(0, zi a1)] i245_8 (by decide) rfl rfl (by omega) rfl rfl t246 (Nat.le_of_ble_eq_true rfl) (Nat.le_of_ble_eq_true rfl) rfl ?_
    refine X.iload_n 1 i246_0 rfl rfl rfl ?_
    refine X.i2l 2 i246_1 rfl rfl ?_
    refine X.lconst (y := 0) 3 i246_2 rfl rfl rfl ?_
    refine X.ldc2 6 i246_3 rfl rfl (by decide) ?_
    refine X.calls 9 [zl a1, zl 0, zl 3] [] [(0, zl a1), (2, zl 0), (4, zl 3)] i246_6 (by decide) rfl rfl (by omega) rfl rfl t204 (Nat.le_of_ble_eq_true rfl) (Nat.le_of_ble_eq_true rfl) rfl ?_
    refine X.lload_n 1 i204_0 rfl rfl rfl ?_
    refine X.lload_n 2 i204_1 rfl rfl rfl ?_
    refine X.lcmp 3 i204_2 rfl rfl (fun z505 hz505 => ?_)
    refine X.iflt 17 6 i204_3 rfl rfl rfl (fun h506 => ?_) (fun h506 => ?_)
    · have h506c : a1 < 0 := by omega
      clear h506 hz505
      refine X.cut [] i204_17 rfl ?_
      refine X.iconst 18 i204_17 rfl rfl (by decide) ?_
      refine X.retz i204_18 rfl t204 (by omega) ?_
      show X (EE s) (d - 1) 246 9 [(0, zi a1)] [zi 0] m501 _
      refine X.retz i246_9 rfl t246 (by omega) ?_
      show X (EE s) d 245 11 [(0, zr 4 44), (1, zi a1), (2, zi a2)] [zi 0] m501 _
      refine X.ifeq 36 14 i245_11 rfl rfl rfl (fun h507 => ?_) (fun h507 => (by exfalso; omega))
      refine X.cut [] i245_36 rfl ?_
      refine X.iconst 37 i245_36 rfl rfl (by decide) ?_
      refine X.retz i245_37 rfl t245 (by omega) ?_
      exact hQ 0 m501 (by first | trivial | omega) (Eq.trans (zb_eq hFv503) (Eq.trans (if_pos h504) (Eq.trans (if_pos h506c) rfl))) (hJ502.up (by omega)) 
    · have h506c : ¬ a1 < 0 := by omega
      clear h506 hz505
      refine X.lload_n 7 i204_6 rfl rfl rfl ?_
      refine X.lload 9 i204_7 rfl rfl rfl ?_
      refine X.lcmp 10 i204_9 rfl rfl (fun z508 hz508 => ?_)
      refine X.ifgt 17 13 i204_10 rfl rfl rfl (fun h509 => ?_) (fun h509 => ?_)
      · have h509c : ¬ a1 ≤ 3 := by omega
        clear h509 hz508
        refine X.cut [] i204_17 rfl ?_
        refine X.iconst 18 i204_17 rfl rfl (by decide) ?_
        refine X.retz i204_18 rfl t204 (by omega) ?_
        show X (EE s) (d - 1) 246 9 [(0, zi a1)] [zi 0] m501 _
        refine X.retz i246_9 rfl t246 (by omega) ?_
        show X (EE s) d 245 11 [(0, zr 4 44), (1, zi a1), (2, zi a2)] [zi 0] m501 _
        refine X.ifeq 36 14 i245_11 rfl rfl rfl (fun h510 => ?_) (fun h510 => (by exfalso; omega))
        refine X.cut [] i245_36 rfl ?_
        refine X.iconst 37 i245_36 rfl rfl (by decide) ?_
        refine X.retz i245_37 rfl t245 (by omega) ?_
        exact hQ 0 m501 (by first | trivial | omega) (Eq.trans (zb_eq hFv503) (Eq.trans (if_pos h504) (Eq.trans (if_neg h506c) (Eq.trans (if_neg h509c) rfl)))) (hJ502.up (by omega)) 
      · have h509c : a1 ≤ 3 := by omega
        clear h509 hz508
        refine X.iconst 14 i204_13 rfl rfl (by decide) ?_
        refine X.goto 18 i204_14 rfl rfl ?_
        refine X.cut [] i204_18 rfl ?_
        refine X.retz i204_18 rfl t204 (by omega) ?_
        show X (EE s) (d - 1) 246 9 [(0, zi a1)] [zi 1] m501 _
        refine X.retz i246_9 rfl t246 (by omega) ?_
        show X (EE s) d 245 11 [(0, zr 4 44), (1, zi a1), (2, zi a2)] [zi 1] m501 _
        refine X.ifeq 36 14 i245_11 rfl rfl rfl (fun h511 => (by exfalso; omega)) (fun h511 => ?_)
        refine X.iload_n 15 i245_14 rfl rfl rfl ?_
        refine X.i2l 16 i245_15 rfl rfl ?_
        refine X.iload_n 17 i245_16 rfl rfl rfl ?_
        have hK516 : ∀ (v : Int) , ((-1) ≤ v ∧ v ≤ 0) → (if a1 = 0 then
            (0)
            else
            ((-1))) = v → X (EE s) d 245 27 [(0, zr 4 44), (1, zi a1), (2, zi a2)] [zl v, zl a2] m501 Q := by
          intro v513 hv513 hT517
          refine X.ldc2 30 i245_27 rfl rfl (by decide) ?_
          refine X.calls 33 [zl a2, zl v513, zl 364] [] [(0, zl a2), (2, zl v513), (4, zl 364)] i245_30 (by decide) rfl rfl (by omega) rfl rfl t204 (Nat.le_of_ble_eq_true rfl) (Nat.le_of_ble_eq_true rfl) rfl ?_
          refine X.lload_n 1 i204_0 rfl rfl rfl ?_
          refine X.lload_n 2 i204_1 rfl rfl rfl ?_
          refine X.lcmp 3 i204_2 rfl rfl (fun z518 hz518 => ?_)
          refine X.iflt 17 6 i204_3 rfl rfl rfl (fun h519 => ?_) (fun h519 => ?_)
          · have h519c : a2 < v513 := by omega
            clear h519 hz518
            refine X.cut [] i204_17 rfl ?_
            refine X.iconst 18 i204_17 rfl rfl (by decide) ?_
            refine X.retz i204_18 rfl t204 (by omega) ?_
            show X (EE s) d 245 33 [(0, zr 4 44), (1, zi a1), (2, zi a2)] [zi 0] m501 _
            refine X.ifne 38 36 i245_33 rfl rfl rfl (fun h520 => (by exfalso; omega)) (fun h520 => ?_)
            refine X.cut [] i245_36 rfl ?_
            refine X.iconst 37 i245_36 rfl rfl (by decide) ?_
            refine X.retz i245_37 rfl t245 (by omega) ?_
            exact hQ 0 m501 (by first | trivial | omega) (Eq.trans (zb_eq hFv503) (Eq.trans (if_pos h504) (Eq.trans (if_neg h506c) (Eq.trans (if_pos h509c) (Eq.trans (zn_eq hT517.symm) (Eq.trans (if_pos h519c) rfl)))))) (hJ502.up (by omega)) 
          · have h519c : ¬ a2 < v513 := by omega
            clear h519 hz518
            refine X.lload_n 7 i204_6 rfl rfl rfl ?_
            refine X.lload 9 i204_7 rfl rfl rfl ?_
            refine X.lcmp 10 i204_9 rfl rfl (fun z521 hz521 => ?_)
            refine X.ifgt 17 13 i204_10 rfl rfl rfl (fun h522 => ?_) (fun h522 => ?_)
            · have h522c : ¬ a2 ≤ 364 := by omega
              clear h522 hz521
              refine X.cut [] i204_17 rfl ?_
              refine X.iconst 18 i204_17 rfl rfl (by decide) ?_
              refine X.retz i204_18 rfl t204 (by omega) ?_
              show X (EE s) d 245 33 [(0, zr 4 44), (1, zi a1), (2, zi a2)] [zi 0] m501 _
              refine X.ifne 38 36 i245_33 rfl rfl rfl (fun h523 => (by exfalso; omega)) (fun h523 => ?_)
              refine X.cut [] i245_36 rfl ?_
              refine X.iconst 37 i245_36 rfl rfl (by decide) ?_
              refine X.retz i245_37 rfl t245 (by omega) ?_
              exact hQ 0 m501 (by first | trivial | omega) (Eq.trans (zb_eq hFv503) (Eq.trans (if_pos h504) (Eq.trans (if_neg h506c) (Eq.trans (if_pos h509c) (Eq.trans (zn_eq hT517.symm) (Eq.trans (if_neg h519c) (Eq.trans (if_neg h522c) rfl))))))) (hJ502.up (by omega)) 
            · have h522c : a2 ≤ 364 := by omega
              clear h522 hz521
              refine X.iconst 14 i204_13 rfl rfl (by decide) ?_
              refine X.goto 18 i204_14 rfl rfl ?_
              refine X.cut [] i204_18 rfl ?_
              refine X.retz i204_18 rfl t204 (by omega) ?_
              show X (EE s) d 245 33 [(0, zr 4 44), (1, zi a1), (2, zi a2)] [zi 1] m501 _
              refine X.ifne 38 36 i245_33 rfl rfl rfl (fun h524 => ?_) (fun h524 => (by exfalso; omega))
              refine X.aload_n 39 i245_38 rfl rfl rfl ?_
              refine X.getF 42 i245_39 rfl rfl (by decide) rfl rfl ?_
              refine X.sipush 45 i245_42 rfl rfl (by decide) ?_
              refine X.iload_n 46 i245_45 rfl rfl rfl ?_
              refine X.iadd 47 i245_46 rfl rfl (by omega) ?_
              refine X.iload_n 48 i245_47 rfl rfl rfl ?_
              refine X.i2l 49 i245_48 rfl rfl ?_
              refine X.last' 50 i245_49 rfl rfl (by decide) rfl (by omega) (fun hrm525 m525 hm525 => ?_)
              have hJ526 := w45_391 hJ502 hm525 (by omega) (by omega) hf21 hg4
              refine X.iconst 51 i245_50 rfl rfl (by decide) ?_
              refine X.retz i245_51 rfl t245 (by omega) ?_
              exact hQ 1 m525 (by first | trivial | omega) (Eq.trans (zb_eq hFv503) (Eq.trans (if_pos h504) (Eq.trans (if_neg h506c) (Eq.trans (if_pos h509c) (Eq.trans (zn_eq hT517.symm) (Eq.trans (if_neg h519c) (Eq.trans (if_pos h522c) (Eq.trans (zs_eq hm525) rfl)))))))) (hJ526.up (by omega)) 
        refine X.ifne 24 20 i245_17 rfl rfl rfl (fun h512 => ?_) (fun h512 => ?_)
        · refine X.ldc2 27 i245_24 rfl rfl (by decide) ?_
          exact hK516 (-1) (by first | trivial | omega) (Eq.trans (if_neg h512) rfl)
        · refine X.lconst (y := 0) 21 i245_20 rfl rfl rfl ?_
          refine X.goto 27 i245_21 rfl rfl ?_
          exact hK516 0 (by first | trivial | omega) (Eq.trans (if_pos h512) rfl)
-- WorkMeter.week
noncomputable def f124_1 (a1 a2 a3 : Int) (m : zM) : Int × zM :=
  zb (f17_1 0 m) fun v503 m501 =>
  if v503 = 0 then
  (if a1 < 0 then
  ((0, m501))
  else
  (if 4 ≤ a1 then
  ((0, m501))
  else
  (if a3 < 0 then
  ((0, m501))
  else
  (if 8 ≤ a3 then
  ((0, m501))
  else
  (if a2 < 0 then
  ((0, m501))
  else
  (if a2 < 7 then
  (zs (z_upd m501 0 16 ((a1 * 7) + a2) a3) fun m517 =>
  (1, m517))
  else
  ((0, m501))))))))
  else
  ((0, m501))
-- WorkMeter.week
theorem c124_1 {s : Nat × (Nat → Int32)} {S : zS} {m0 m : zM} {B : Int} {d : Nat} {Q : Option zV → zM → Prop} (a1 a2 a3 : Int) (hd : 14 ≤ d) (hJ : J S m0 B m) (hB : B + 0 ≤ 1000000000) (ha1 : (-2147483648) ≤ a1 ∧ a1 ≤ 2147483647) (ha2 : (-2147483648) ≤ a2 ∧ a2 ≤ 2147483647) (ha3 : (-2147483648) ≤ a3 ∧ a3 ≤ 2147483647) (hf1 : ¬ S.1 1) (hf4 : ¬ S.1 4) (hg0 : ¬ S.2.1 0) (hQ : ∀ (v : Int) m', (0 ≤ v ∧ v ≤ 1) → f124_1 a1 a2 a3 m = (v, m') → J S m0 (B) m' → Q (some (zi v)) m') : X (EE s) d 124 0 [(0, zr 4 40), (1, zi a1), (2, zi a2), (3, zi a3)] [] m Q := by
  refine X.aload_n 1 i124_0 rfl rfl rfl ?_
  refine X.getF 4 i124_1 rfl rfl (by decide) rfl rfl ?_
  refine X.getR 7 i124_4 rfl rfl (by decide) rfl rfl ?_
  refine X.callv 10 [] [] [(0, zr 0 39)] i124_7 rfl (by decide) rfl rfl (by omega) rfl rfl (by decide) rfl t17 (Nat.le_of_ble_eq_true rfl) (Nat.le_of_ble_eq_true rfl) rfl ?_
  refine c17_1 (B := B) 0  (by omega) (hJ.up (by omega)) (by omega)  hf4 hg0 (fun v503 m501 hv503 hFv503 hJ502 => ?_)
  show X (EE s) d 124 10 [(0, zr 4 40), (1, zi a1), (2, zi a2), (3, zi a3)] [zi v503] m501 _
  refine X.ifne 27 13 i124_10 rfl rfl rfl (fun h504 => ?_) (fun h504 => ?_)
  · refine X.cut [] i124_27 rfl ?_
    refine X.iconst 28 i124_27 rfl rfl (by decide) ?_
    refine X.retz i124_28 rfl t124 (by omega) ?_
    exact hQ 0 m501 (by first | trivial | omega) (Eq.trans (zb_eq hFv503) (Eq.trans (if_neg h504) rfl)) (hJ502.up (by omega)) 
  · refine X.iload_n 14 i124_13 rfl rfl rfl ?_
    refine X.calls 17 [zi a1] [] [(0, zi a1)] i124_14 (by decide) rfl rfl (by omega) rfl rfl t123 (Nat.le_of_ble_eq_true rfl) (Nat.le_of_ble_eq_true rfl) rfl ?_
    refine X.iload_n 1 i123_0 rfl rfl rfl ?_
    refine X.iflt 13 4 i123_1 rfl rfl rfl (fun h505 => ?_) (fun h505 => ?_)
    · refine X.cut [] i123_13 rfl ?_
      refine X.iconst 14 i123_13 rfl rfl (by decide) ?_
      refine X.retz i123_14 rfl t123 (by omega) ?_
      show X (EE s) d 124 17 [(0, zr 4 40), (1, zi a1), (2, zi a2), (3, zi a3)] [zi 0] m501 _
      refine X.ifeq 27 20 i124_17 rfl rfl rfl (fun h506 => ?_) (fun h506 => (by exfalso; omega))
      refine X.cut [] i124_27 rfl ?_
      refine X.iconst 28 i124_27 rfl rfl (by decide) ?_
      refine X.retz i124_28 rfl t124 (by omega) ?_
      exact hQ 0 m501 (by first | trivial | omega) (Eq.trans (zb_eq hFv503) (Eq.trans (if_pos h504) (Eq.trans (if_pos h505) rfl))) (hJ502.up (by omega)) 
    · refine X.iload_n 5 i123_4 rfl rfl rfl ?_
      refine X.iconst 6 i123_5 rfl rfl (by decide) ?_
      refine X.icmpge 13 9 i123_6 rfl rfl rfl (fun h507 => ?_) (fun h507 => ?_)
      · refine X.cut [] i123_13 rfl ?_
        refine X.iconst 14 i123_13 rfl rfl (by decide) ?_
        refine X.retz i123_14 rfl t123 (by omega) ?_
        show X (EE s) d 124 17 [(0, zr 4 40), (1, zi a1), (2, zi a2), (3, zi a3)] [zi 0] m501 _
        refine X.ifeq 27 20 i124_17 rfl rfl rfl (fun h508 => ?_) (fun h508 => (by exfalso; omega))
        refine X.cut [] i124_27 rfl ?_
        refine X.iconst 28 i124_27 rfl rfl (by decide) ?_
        refine X.retz i124_28 rfl t124 (by omega) ?_
        exact hQ 0 m501 (by first | trivial | omega) (Eq.trans (zb_eq hFv503) (Eq.trans (if_pos h504) (Eq.trans (if_neg h505) (Eq.trans (if_pos h507) rfl)))) (hJ502.up (by omega)) 
      · refine X.iconst 10 i123_9 rfl rfl (by decide) ?_
        refine X.goto 14 i123_10 rfl rfl ?_
        refine X.cut [] i123_14 rfl ?_
        refine X.retz i123_14 rfl t123 (by omega) ?_
        show X (EE s) d 124 17 [(0, zr 4 40), (1, zi a1), (2, zi a2), (3, zi a3)] [zi 1] m501 _
        refine X.ifeq 27 20 i124_17 rfl rfl rfl (fun h509 => (by exfalso; omega)) (fun h509 => ?_)
        refine X.iload_n 21 i124_20 rfl rfl rfl ?_
        refine X.calls 24 [zi a3] [] [(0, zi a3)] i124_21 (by decide) rfl rfl (by omega) rfl rfl t79 (Nat.le_of_ble_eq_true rfl) (Nat.le_of_ble_eq_true rfl) rfl ?_
        refine X.iload_n 1 i79_0 rfl rfl rfl ?_
        refine X.iflt 14 4 i79_1 rfl rfl rfl (fun h510 => ?_) (fun h510 => ?_)
        · refine X.cut [] i79_14 rfl ?_
          refine X.iconst 15 i79_14 rfl rfl (by decide) ?_
          refine X.retz i79_15 rfl t79 (by omega) ?_
          show X (EE s) d 124 24 [(0, zr 4 40), (1, zi a1), (2, zi a2), (3, zi a3)] [zi 0] m501 _
          refine X.ifne 29 27 i124_24 rfl rfl rfl (fun h511 => (by exfalso; omega)) (fun h511 => ?_)
          refine X.cut [] i124_27 rfl ?_
          refine X.iconst 28 i124_27 rfl rfl (by decide) ?_
          refine X.retz i124_28 rfl t124 (by omega) ?_
          exact hQ 0 m501 (by first | trivial | omega) (Eq.trans (zb_eq hFv503) (Eq.trans (if_pos h504) (Eq.trans (if_neg h505) (Eq.trans (if_neg h507) (Eq.trans (if_pos h510) rfl))))) (hJ502.up (by omega)) 
        · refine X.iload_n 5 i79_4 rfl rfl rfl ?_
          refine X.bipush 7 i79_5 rfl rfl (by decide) ?_
          refine X.icmpge 14 10 i79_7 rfl rfl rfl (fun h512 => ?_) (fun h512 => ?_)
          · refine X.cut [] i79_14 rfl ?_
            refine X.iconst 15 i79_14 rfl rfl (by decide) ?_
            refine X.retz i79_15 rfl t79 (by omega) ?_
            show X (EE s) d 124 24 [(0, zr 4 40), (1, zi a1), (2, zi a2), (3, zi a3)] [zi 0] m501 _
            refine X.ifne 29 27 i124_24 rfl rfl rfl (fun h513 => (by exfalso; omega)) (fun h513 => ?_)
            refine X.cut [] i124_27 rfl ?_
            refine X.iconst 28 i124_27 rfl rfl (by decide) ?_
            refine X.retz i124_28 rfl t124 (by omega) ?_
            exact hQ 0 m501 (by first | trivial | omega) (Eq.trans (zb_eq hFv503) (Eq.trans (if_pos h504) (Eq.trans (if_neg h505) (Eq.trans (if_neg h507) (Eq.trans (if_neg h510) (Eq.trans (if_pos h512) rfl)))))) (hJ502.up (by omega)) 
          · refine X.iconst 11 i79_10 rfl rfl (by decide) ?_
            refine X.goto 15 i79_11 rfl rfl ?_
            refine X.cut [] i79_15 rfl ?_
            refine X.retz i79_15 rfl t79 (by omega) ?_
            show X (EE s) d 124 24 [(0, zr 4 40), (1, zi a1), (2, zi a2), (3, zi a3)] [zi 1] m501 _
            refine X.ifne 29 27 i124_24 rfl rfl rfl (fun h514 => ?_) (fun h514 => (by exfalso; omega))
            refine X.iload_n 30 i124_29 rfl rfl rfl ?_
            refine X.iflt 39 33 i124_30 rfl rfl rfl (fun h515 => ?_) (fun h515 => ?_)
            · refine X.cut [] i124_39 rfl ?_
              refine X.iconst 40 i124_39 rfl rfl (by decide) ?_
              refine X.retz i124_40 rfl t124 (by omega) ?_
              exact hQ 0 m501 (by first | trivial | omega) (Eq.trans (zb_eq hFv503) (Eq.trans (if_pos h504) (Eq.trans (if_neg h505) (Eq.trans (if_neg h507) (Eq.trans (if_neg h510) (Eq.trans (if_neg h512) (Eq.trans (if_pos h515) rfl))))))) (hJ502.up (by omega)) 
            · refine X.iload_n 34 i124_33 rfl rfl rfl ?_
              refine X.bipush 36 i124_34 rfl rfl (by decide) ?_
              refine X.icmplt 41 39 i124_36 rfl rfl rfl (fun h516 => ?_) (fun h516 => ?_)
              · refine X.aload_n 42 i124_41 rfl rfl rfl ?_
                refine X.getF 45 i124_42 rfl rfl (by decide) rfl rfl ?_
                refine X.getR 48 i124_45 rfl rfl (by decide) rfl rfl ?_
                refine X.getR 51 i124_48 rfl rfl (by decide) rfl rfl ?_
                refine X.iload_n 52 i124_51 rfl rfl rfl ?_
                refine X.bipush 54 i124_52 rfl rfl (by decide) ?_
                refine X.imul 55 i124_54 rfl rfl (by omega) ?_
                refine X.iload_n 56 i124_55 rfl rfl rfl ?_
                refine X.iadd 57 i124_56 rfl rfl (by omega) ?_
                refine X.iload_n 58 i124_57 rfl rfl rfl ?_
                refine X.iast' 59 i124_58 rfl rfl (by decide) rfl (by omega) (fun hrm517 m517 hm517 => ?_)
                have hJ518 := w16_0 hJ502 hm517 (by omega) (by omega) hf1 hg0
                refine X.iconst 60 i124_59 rfl rfl (by decide) ?_
                refine X.retz i124_60 rfl t124 (by omega) ?_
                exact hQ 1 m517 (by first | trivial | omega) (Eq.trans (zb_eq hFv503) (Eq.trans (if_pos h504) (Eq.trans (if_neg h505) (Eq.trans (if_neg h507) (Eq.trans (if_neg h510) (Eq.trans (if_neg h512) (Eq.trans (if_neg h515) (Eq.trans (if_pos h516) (Eq.trans (zs_eq hm517) rfl))))))))) (hJ518.up (by omega)) 
              · refine X.cut [] i124_39 rfl ?_
                refine X.iconst 40 i124_39 rfl rfl (by decide) ?_
                refine X.retz i124_40 rfl t124 (by omega) ?_
                exact hQ 0 m501 (by first | trivial | omega) (Eq.trans (zb_eq hFv503) (Eq.trans (if_pos h504) (Eq.trans (if_neg h505) (Eq.trans (if_neg h507) (Eq.trans (if_neg h510) (Eq.trans (if_neg h512) (Eq.trans (if_neg h515) (Eq.trans (if_neg h516) rfl)))))))) (hJ502.up (by omega)) 
-- WorkMeterModel.week
noncomputable def f247_1 (a1 a2 a3 : Int) (m : zM) : Int × zM :=
  zb (f203_1 m) fun v503 m501 =>
  if v503 = 0 then
  (if a1 < 0 then
  ((0, m501))
  else
  (if a1 ≤ 3 then
  (if a2 < 0 then
  ((0, m501))
  else
  (if a2 ≤ 6 then
  (if a3 < 0 then
  ((0, m501))
  else
  (if a3 ≤ 7 then
  (zs (z_upd m501 4 45 ((395 + (7 * a1)) + a2) a3) fun m526 =>
  (1, m526))
  else
  ((0, m501))))
  else
  ((0, m501))))
  else
  ((0, m501))))
  else
  ((0, m501))
-- WorkMeterModel.week
theorem c247_1 {s : Nat × (Nat → Int32)} {S : zS} {m0 m : zM} {B : Int} {d : Nat} {Q : Option zV → zM → Prop} (a1 a2 a3 : Int) (hd : 14 ≤ d) (hJ : J S m0 B m) (hB : B + 0 ≤ 1000000000) (ha1 : (-2147483648) ≤ a1 ∧ a1 ≤ 2147483647) (ha2 : (-2147483648) ≤ a2 ∧ a2 ≤ 2147483647) (ha3 : (-2147483648) ≤ a3 ∧ a3 ≤ 2147483647) (hf21 : ¬ S.1 21) (hf24 : ¬ S.1 24) (hg4 : ¬ S.2.1 4) (hQ : ∀ (v : Int) m', (0 ≤ v ∧ v ≤ 1) → f247_1 a1 a2 a3 m = (v, m') → J S m0 (B) m' → Q (some (zi v)) m') : X (EE s) d 247 0 [(0, zr 4 44), (1, zi a1), (2, zi a2), (3, zi a3)] [] m Q := by
  refine X.aload_n 1 i247_0 rfl rfl rfl ?_
  refine X.callv 4 [] [] [(0, zr 4 44)] i247_1 rfl (by decide) rfl rfl (by omega) rfl rfl (by decide) rfl t203 (Nat.le_of_ble_eq_true rfl) (Nat.le_of_ble_eq_true rfl) rfl ?_
  refine c203_1 (B := B)   (by omega) (hJ.up (by omega)) (by omega)  hf24 hg4 (fun v503 m501 hv503 hFv503 hJ502 => ?_)
  show X (EE s) d 247 4 [(0, zr 4 44), (1, zi a1), (2, zi a2), (3, zi a3)] [zi v503] m501 _
  refine X.ifne 33 7 i247_4 rfl rfl rfl (fun h504 => ?_) (fun h504 => ?_)
  · refine X.cut [] i247_33 rfl ?_
    refine X.iconst 34 i247_33 rfl rfl (by decide) ?_
    refine X.retz i247_34 rfl t247 (by omega) ?_
    exact hQ 0 m501 (by first | trivial | omega) (Eq.trans (zb_eq hFv503) (Eq.trans (if_neg h504) rfl)) (hJ502.up (by omega)) 
  · refine X.iload_n 8 i247_7 rfl rfl rfl ?_
    refine X.calls 11 [zi a1] [] [(0, zi a1)] i247_8 (by decide) rfl rfl (by omega) rfl rfl t246 (Nat.le_of_ble_eq_true rfl) (Nat.le_of_ble_eq_true rfl) rfl ?_
    refine X.iload_n 1 i246_0 rfl rfl rfl ?_
    refine X.i2l 2 i246_1 rfl rfl ?_
    refine X.lconst (y := 0) 3 i246_2 rfl rfl rfl ?_
    refine X.ldc2 6 i246_3 rfl rfl (by decide) ?_
    refine X.calls 9 [zl a1, zl 0, zl 3] [] [(0, zl a1), (2, zl 0), (4, zl 3)] i246_6 (by decide) rfl rfl (by omega) rfl rfl t204 (Nat.le_of_ble_eq_true rfl) (Nat.le_of_ble_eq_true rfl) rfl ?_
    refine X.lload_n 1 i204_0 rfl rfl rfl ?_
    refine X.lload_n 2 i204_1 rfl rfl rfl ?_
    refine X.lcmp 3 i204_2 rfl rfl (fun z505 hz505 => ?_)
    refine X.iflt 17 6 i204_3 rfl rfl rfl (fun h506 => ?_) (fun h506 => ?_)
    · have h506c : a1 < 0 := by omega
      clear h506 hz505
      refine X.cut [] i204_17 rfl ?_
      refine X.iconst 18 i204_17 rfl rfl (by decide) ?_
      refine X.retz i204_18 rfl t204 (by omega) ?_
      show X (EE s) (d - 1) 246 9 [(0, zi a1)] [zi 0] m501 _
      refine X.retz i246_9 rfl t246 (by omega) ?_
      show X (EE s) d 247 11 [(0, zr 4 44), (1, zi a1), (2, zi a2), (3, zi a3)] [zi 0] m501 _
      refine X.ifeq 33 14 i247_11 rfl rfl rfl (fun h507 => ?_) (fun h507 => (by exfalso; omega))
      refine X.cut [] i247_33 rfl ?_
      refine X.iconst 34 i247_33 rfl rfl (by decide) ?_
      refine X.retz i247_34 rfl t247 (by omega) ?_
      exact hQ 0 m501 (by first | trivial | omega) (Eq.trans (zb_eq hFv503) (Eq.trans (if_pos h504) (Eq.trans (if_pos h506c) rfl))) (hJ502.up (by omega)) 
    · have h506c : ¬ a1 < 0 := by omega
      clear h506 hz505
      refine X.lload_n 7 i204_6 rfl rfl rfl ?_
      refine X.lload 9 i204_7 rfl rfl rfl ?_
      refine X.lcmp 10 i204_9 rfl rfl (fun z508 hz508 => ?_)
      refine X.ifgt 17 13 i204_10 rfl rfl rfl (fun h509 => ?_) (fun h509 => ?_)
      · have h509c : ¬ a1 ≤ 3 := by omega
        clear h509 hz508
        refine X.cut [] i204_17 rfl ?_
        refine X.iconst 18 i204_17 rfl rfl (by decide) ?_
        refine X.retz i204_18 rfl t204 (by omega) ?_
        show X (EE s) (d - 1) 246 9 [(0, zi a1)] [zi 0] m501 _
        refine X.retz i246_9 rfl t246 (by omega) ?_
        show X (EE s) d 247 11 [(0, zr 4 44), (1, zi a1), (2, zi a2), (3, zi a3)] [zi 0] m501 _
        refine X.ifeq 33 14 i247_11 rfl rfl rfl (fun h510 => ?_) (fun h510 => (by exfalso; omega))
        refine X.cut [] i247_33 rfl ?_
        refine X.iconst 34 i247_33 rfl rfl (by decide) ?_
        refine X.retz i247_34 rfl t247 (by omega) ?_
        exact hQ 0 m501 (by first | trivial | omega) (Eq.trans (zb_eq hFv503) (Eq.trans (if_pos h504) (Eq.trans (if_neg h506c) (Eq.trans (if_neg h509c) rfl)))) (hJ502.up (by omega)) 
      · have h509c : a1 ≤ 3 := by omega
        clear h509 hz508
        refine X.iconst 14 i204_13 rfl rfl (by decide) ?_
        refine X.goto 18 i204_14 rfl rfl ?_
        refine X.cut [] i204_18 rfl ?_
        refine X.retz i204_18 rfl t204 (by omega) ?_
        show X (EE s) (d - 1) 246 9 [(0, zi a1)] [zi 1] m501 _
        refine X.retz i246_9 rfl t246 (by omega) ?_
        show X (EE s) d 247 11 [(0, zr 4 44), (1, zi a1), (2, zi a2), (3, zi a3)] [zi 1] m501 _
        refine X.ifeq 33 14 i247_11 rfl rfl rfl (fun h511 => (by exfalso; omega)) (fun h511 => ?_)
        refine X.iload_n 15 i247_14 rfl rfl rfl ?_
        refine X.i2l 16 i247_15 rfl rfl ?_
        refine X.lconst (y := 0) 17 i247_16 rfl rfl rfl ?_
        refine X.ldc2 20 i247_17 rfl rfl (by decide) ?_
        refine X.calls 23 [zl a2, zl 0, zl 6] [] [(0, zl a2), (2, zl 0), (4, zl 6)] i247_20 (by decide) rfl rfl (by omega) rfl rfl t204 (Nat.le_of_ble_eq_true rfl) (Nat.le_of_ble_eq_true rfl) rfl ?_
        refine X.lload_n 1 i204_0 rfl rfl rfl ?_
        refine X.lload_n 2 i204_1 rfl rfl rfl ?_
        refine X.lcmp 3 i204_2 rfl rfl (fun z512 hz512 => ?_)
        refine X.iflt 17 6 i204_3 rfl rfl rfl (fun h513 => ?_) (fun h513 => ?_)
        · have h513c : a2 < 0 := by omega
          clear h513 hz512
          refine X.cut [] i204_17 rfl ?_
          refine X.iconst 18 i204_17 rfl rfl (by decide) ?_
          refine X.retz i204_18 rfl t204 (by omega) ?_
          show X (EE s) d 247 23 [(0, zr 4 44), (1, zi a1), (2, zi a2), (3, zi a3)] [zi 0] m501 _
          refine X.ifeq 33 26 i247_23 rfl rfl rfl (fun h514 => ?_) (fun h514 => (by exfalso; omega))
          refine X.cut [] i247_33 rfl ?_
          refine X.iconst 34 i247_33 rfl rfl (by decide) ?_
          refine X.retz i247_34 rfl t247 (by omega) ?_
          exact hQ 0 m501 (by first | trivial | omega) (Eq.trans (zb_eq hFv503) (Eq.trans (if_pos h504) (Eq.trans (if_neg h506c) (Eq.trans (if_pos h509c) (Eq.trans (if_pos h513c) rfl))))) (hJ502.up (by omega)) 
        · have h513c : ¬ a2 < 0 := by omega
          clear h513 hz512
          refine X.lload_n 7 i204_6 rfl rfl rfl ?_
          refine X.lload 9 i204_7 rfl rfl rfl ?_
          refine X.lcmp 10 i204_9 rfl rfl (fun z515 hz515 => ?_)
          refine X.ifgt 17 13 i204_10 rfl rfl rfl (fun h516 => ?_) (fun h516 => ?_)
          · have h516c : ¬ a2 ≤ 6 := by omega
            clear h516 hz515
            refine X.cut [] i204_17 rfl ?_
            refine X.iconst 18 i204_17 rfl rfl (by decide) ?_
            refine X.retz i204_18 rfl t204 (by omega) ?_
            show X (EE s) d 247 23 [(0, zr 4 44), (1, zi a1), (2, zi a2), (3, zi a3)] [zi 0] m501 _
            refine X.ifeq 33 26 i247_23 rfl rfl rfl (fun h517 => ?_) (fun h517 => (by exfalso; omega))
            refine X.cut [] i247_33 rfl ?_
            refine X.iconst 34 i247_33 rfl rfl (by decide) ?_
            refine X.retz i247_34 rfl t247 (by omega) ?_
            exact hQ 0 m501 (by first | trivial | omega) (Eq.trans (zb_eq hFv503) (Eq.trans (if_pos h504) (Eq.trans (if_neg h506c) (Eq.trans (if_pos h509c) (Eq.trans (if_neg h513c) (Eq.trans (if_neg h516c) rfl)))))) (hJ502.up (by omega)) 
          · have h516c : a2 ≤ 6 := by omega
            clear h516 hz515
            refine X.iconst 14 i204_13 rfl rfl (by decide) ?_
            refine X.goto 18 i204_14 rfl rfl ?_
            refine X.cut [] i204_18 rfl ?_
            refine X.retz i204_18 rfl t204 (by omega) ?_
            show X (EE s) d 247 23 [(0, zr 4 44), (1, zi a1), (2, zi a2), (3, zi a3)] [zi 1] m501 _
            refine X.ifeq 33 26 i247_23 rfl rfl rfl (fun h518 => (by exfalso; omega)) (fun h518 => ?_)
            refine X.iload_n 27 i247_26 rfl rfl rfl ?_
            refine X.calls 30 [zi a3] [] [(0, zi a3)] i247_27 (by decide) rfl rfl (by omega) rfl rfl t241 (Nat.le_of_ble_eq_true rfl) (Nat.le_of_ble_eq_true rfl) rfl ?_
            refine X.iload_n 1 i241_0 rfl rfl rfl ?_
            refine X.i2l 2 i241_1 rfl rfl ?_
            refine X.lconst (y := 0) 3 i241_2 rfl rfl rfl ?_
            refine X.ldc2 6 i241_3 rfl rfl (by decide) ?_
            refine X.calls 9 [zl a3, zl 0, zl 7] [] [(0, zl a3), (2, zl 0), (4, zl 7)] i241_6 (by decide) rfl rfl (by omega) rfl rfl t204 (Nat.le_of_ble_eq_true rfl) (Nat.le_of_ble_eq_true rfl) rfl ?_
            refine X.lload_n 1 i204_0 rfl rfl rfl ?_
            refine X.lload_n 2 i204_1 rfl rfl rfl ?_
            refine X.lcmp 3 i204_2 rfl rfl (fun z519 hz519 => ?_)
            refine X.iflt 17 6 i204_3 rfl rfl rfl (fun h520 => ?_) (fun h520 => ?_)
            · have h520c : a3 < 0 := by omega
              clear h520 hz519
              refine X.cut [] i204_17 rfl ?_
              refine X.iconst 18 i204_17 rfl rfl (by decide) ?_
              refine X.retz i204_18 rfl t204 (by omega) ?_
              show X (EE s) (d - 1) 241 9 [(0, zi a3)] [zi 0] m501 _
              refine X.retz i241_9 rfl t241 (by omega) ?_
              show X (EE s) d 247 30 [(0, zr 4 44), (1, zi a1), (2, zi a2), (3, zi a3)] [zi 0] m501 _
              refine X.ifne 35 33 i247_30 rfl rfl rfl (fun h521 => (by exfalso; omega)) (fun h521 => ?_)
              refine X.cut [] i247_33 rfl ?_
              refine X.iconst 34 i247_33 rfl rfl (by decide) ?_
              refine X.retz i247_34 rfl t247 (by omega) ?_
              exact hQ 0 m501 (by first | trivial | omega) (Eq.trans (zb_eq hFv503) (Eq.trans (if_pos h504) (Eq.trans (if_neg h506c) (Eq.trans (if_pos h509c) (Eq.trans (if_neg h513c) (Eq.trans (if_pos h516c) (Eq.trans (if_pos h520c) rfl))))))) (hJ502.up (by omega)) 
            · have h520c : ¬ a3 < 0 := by omega
              clear h520 hz519
              refine X.lload_n 7 i204_6 rfl rfl rfl ?_
              refine X.lload 9 i204_7 rfl rfl rfl ?_
              refine X.lcmp 10 i204_9 rfl rfl (fun z522 hz522 => ?_)
              refine X.ifgt 17 13 i204_10 rfl rfl rfl (fun h523 => ?_) (fun h523 => ?_)
              · have h523c : ¬ a3 ≤ 7 := by omega
                clear h523 hz522
                refine X.cut [] i204_17 rfl ?_
                refine X.iconst 18 i204_17 rfl rfl (by decide) ?_
                refine X.retz i204_18 rfl t204 (by omega) ?_
                show X (EE s) (d - 1) 241 9 [(0, zi a3)] [zi 0] m501 _
                refine X.retz i241_9 rfl t241 (by omega) ?_
                show X (EE s) d 247 30 [(0, zr 4 44), (1, zi a1), (2, zi a2), (3, zi a3)] [zi 0] m501 _
                refine X.ifne 35 33 i247_30 rfl rfl rfl (fun h524 => (by exfalso; omega)) (fun h524 => ?_)
                refine X.cut [] i247_33 rfl ?_
                refine X.iconst 34 i247_33 rfl rfl (by decide) ?_
                refine X.retz i247_34 rfl t247 (by omega) ?_
                exact hQ 0 m501 (by first | trivial | omega) (Eq.trans (zb_eq hFv503) (Eq.trans (if_pos h504) (Eq.trans (if_neg h506c) (Eq.trans (if_pos h509c) (Eq.trans (if_neg h513c) (Eq.trans (if_pos h516c) (Eq.trans (if_neg h520c) (Eq.trans (if_neg h523c) rfl)))))))) (hJ502.up (by omega)) 
              · have h523c : a3 ≤ 7 := by omega
                clear h523 hz522
                refine X.iconst 14 i204_13 rfl rfl (by decide) ?_
                refine X.goto 18 i204_14 rfl rfl ?_
                refine X.cut [] i204_18 rfl ?_
                refine X.retz i204_18 rfl t204 (by omega) ?_
                show X (EE s) (d - 1) 241 9 [(0, zi a3)] [zi 1] m501 _
                refine X.retz i241_9 rfl t241 (by omega) ?_
                show X (EE s) d 247 30 [(0, zr 4 44), (1, zi a1), (2, zi a2), (3, zi a3)] [zi 1] m501 _
                refine X.ifne 35 33 i247_30 rfl rfl rfl (fun h525 => ?_) (fun h525 => (by exfalso; omega))
                refine X.aload_n 36 i247_35 rfl rfl rfl ?_
                refine X.getF 39 i247_36 rfl rfl (by decide) rfl rfl ?_
                refine X.sipush 42 i247_39 rfl rfl (by decide) ?_
                refine X.bipush 44 i247_42 rfl rfl (by decide) ?_
                refine X.iload_n 45 i247_44 rfl rfl rfl ?_
                refine X.imul 46 i247_45 rfl rfl (by omega) ?_
                refine X.iadd 47 i247_46 rfl rfl (by omega) ?_
                refine X.iload_n 48 i247_47 rfl rfl rfl ?_
                refine X.iadd 49 i247_48 rfl rfl (by omega) ?_
                refine X.iload_n 50 i247_49 rfl rfl rfl ?_
                refine X.i2l 51 i247_50 rfl rfl ?_
                refine X.last' 52 i247_51 rfl rfl (by decide) rfl (by omega) (fun hrm526 m526 hm526 => ?_)
                have hJ527 := w45_395 hJ502 hm526 (by omega) (by omega) hf21 hg4
                refine X.iconst 53 i247_52 rfl rfl (by decide) ?_
                refine X.retz i247_53 rfl t247 (by omega) ?_
                exact hQ 1 m526 (by first | trivial | omega) (Eq.trans (zb_eq hFv503) (Eq.trans (if_pos h504) (Eq.trans (if_neg h506c) (Eq.trans (if_pos h509c) (Eq.trans (if_neg h513c) (Eq.trans (if_pos h516c) (Eq.trans (if_neg h520c) (Eq.trans (if_pos h523c) (Eq.trans (zs_eq hm526) rfl))))))))) (hJ527.up (by omega)) 
-- WorkMeter$Calendar.dropSpecial
noncomputable def f126_1 (g0 : Nat) (a1 : Int) (m : zM) : Int × zM :=
  zn (f29_1 g0 a1 m) fun v503 =>
  if v503 = (-1) then
  ((0, m))
  else
  (zs (z_upd m g0 11 7 ((m g0 11 7) - 1)) fun m506 =>
  zs (z_upd m506 g0 17 v503 (m506 g0 17 (m506 g0 11 7))) fun m509 =>
  zs (z_upd m509 g0 18 v503 (m509 g0 18 (m509 g0 11 7))) fun m513 =>
  (1, m513))
-- WorkMeter$Calendar.dropSpecial
theorem c126_1 {s : Nat × (Nat → Int32)} {S : zS} {m0 m : zM} {B : Int} {d : Nat} {Q : Option zV → zM → Prop} (g0 : Nat) (a1 : Int) (hd : 14 ≤ d) (hJ : J S m0 B m) (hB : B + 0 ≤ 1000000000) (ha1 : 0 ≤ a1 ∧ a1 ≤ 364) (hf1 : ¬ S.1 1) (hgg0 : ¬ S.2.1 g0) (hQ : ∀ (v : Int) m', (0 ≤ v ∧ v ≤ 1) → f126_1 g0 a1 m = (v, m') → J S m0 (B) m' → Q (some (zi v)) m') : X (EE s) d 126 0 [(0, zr g0 11), (1, zi a1)] [] m Q := by
  refine X.aload_n 1 i126_0 rfl rfl rfl ?_
  refine X.iload_n 2 i126_1 rfl rfl rfl ?_
  refine X.callv 5 [zi a1] [] [(0, zr g0 11), (1, zi a1)] i126_2 rfl (by decide) rfl rfl (by omega) rfl rfl (by decide) rfl t29 (Nat.le_of_ble_eq_true rfl) (Nat.le_of_ble_eq_true rfl) rfl ?_
  refine c29_1 (B := B) g0 a1 (by omega) (hJ.up (by omega)) (by omega) (by omega) (fun v503 hv503 hFv503 hqv503_0 => ?_)
  show X (EE s) d 126 5 [(0, zr g0 11), (1, zi a1)] [zi v503] m _
  refine X.istore_n 6 [(0, zr g0 11), (1, zi a1), (2, zi v503)] i126_5 rfl rfl rfl ?_
  refine X.iload_n 7 i126_6 rfl rfl rfl ?_
  refine X.iconst 8 i126_7 rfl rfl (by decide) ?_
  refine X.icmpne 13 11 i126_8 rfl rfl rfl (fun h504 => ?_) (fun h504 => ?_)
  · refine X.cut [(0, zr g0 11), (2, zi v503)] i126_13 rfl ?_
    refine X.aload_n 14 i126_13 rfl rfl rfl ?_
    refine X.dup 15 i126_14 rfl rfl rfl ?_
    refine X.getI 18 7 i126_15 rfl rfl (by decide) rfl rfl rfl ?_
    have h505 := r11_7 hJ g0
    refine X.iconst 19 i126_18 rfl rfl (by decide) ?_
    refine X.isub 20 i126_19 rfl rfl (by omega) ?_
    refine X.putI' 23 7 i126_20 rfl rfl (by decide) rfl rfl rfl (fun hrm506 m506 hm506 => ?_)
    have hJ507 := w11_7 hJ hm506 (by omega) hf1 hgg0
    have em506 : m506 g0 11 7 = ((m g0 11 7) - 1) := by rw [hm506]; exact z_upd_same _ _ _ _ _
    refine X.aload_n 24 i126_23 rfl rfl rfl ?_
    refine X.getR 27 i126_24 rfl rfl (by decide) rfl rfl ?_
    refine X.iload_n 28 i126_27 rfl rfl rfl ?_
    refine X.aload_n 29 i126_28 rfl rfl rfl ?_
    refine X.getR 32 i126_29 rfl rfl (by decide) rfl rfl ?_
    refine X.aload_n 33 i126_32 rfl rfl rfl ?_
    refine X.getI 36 7 i126_33 rfl rfl (by decide) rfl rfl rfl ?_
    refine X.iald 37 i126_36 rfl rfl (by decide) rfl (by omega) ?_
    have h508 := r17_0 hJ507 g0 (i := (m506 g0 11 7)) (by omega)
    refine X.iast' 38 i126_37 rfl rfl (by decide) rfl (by omega) (fun hrm509 m509 hm509 => ?_)
    have hJ510 := w17_0 hJ507 hm509 (by omega) (by omega) hf1 hgg0
    have wtm509_0 : m509 g0 11 7 = m506 g0 11 7 := by rw [hm509]; exact z_upd_o _ _ rfl
    refine X.aload_n 39 i126_38 rfl rfl rfl ?_
    refine X.getR 42 i126_39 rfl rfl (by decide) rfl rfl ?_
    refine X.iload_n 43 i126_42 rfl rfl rfl ?_
    refine X.aload_n 44 i126_43 rfl rfl rfl ?_
    refine X.getR 47 i126_44 rfl rfl (by decide) rfl rfl ?_
    refine X.aload_n 48 i126_47 rfl rfl rfl ?_
    refine X.getI 51 7 i126_48 rfl rfl (by decide) rfl rfl rfl ?_
    have h511 := r11_7 hJ510 g0
    refine X.iald 52 i126_51 rfl rfl (by decide) rfl (by omega) ?_
    have h512 := r18_0 hJ510 g0 (i := (m509 g0 11 7)) (by omega)
    refine X.iast' 53 i126_52 rfl rfl (by decide) rfl (by omega) (fun hrm513 m513 hm513 => ?_)
    have hJ514 := w18_0 hJ510 hm513 (by omega) (by omega) hf1 hgg0
    have wtm513_0 : m513 g0 11 7 = m509 g0 11 7 := by rw [hm513]; exact z_upd_o _ _ rfl
    refine X.iconst 54 i126_53 rfl rfl (by decide) ?_
    refine X.retz i126_54 rfl t126 (by omega) ?_
    exact hQ 1 m513 (by first | trivial | omega) (Eq.trans (zn_eq hFv503.symm) (Eq.trans (if_neg h504) (Eq.trans (zs_eq hm506) (Eq.trans (zs_eq hm509) (Eq.trans (zs_eq hm513) rfl))))) (hJ514.up (by omega)) 
  · refine X.iconst 12 i126_11 rfl rfl (by decide) ?_
    refine X.retz i126_12 rfl t126 (by omega) ?_
    exact hQ 0 m (by first | trivial | omega) (Eq.trans (zn_eq hFv503.symm) (Eq.trans (if_pos h504) rfl)) (hJ.up (by omega)) 
-- WorkMeter.special
noncomputable def f125_1 (a1 a2 : Int) (m : zM) : Int × zM :=
  zb (f17_1 0 m) fun v503 m501 =>
  if v503 = 0 then
  (if a1 < 0 then
  ((0, m501))
  else
  (if a1 < 365 then
  (if a2 = (-1) then
  (zb (f126_1 0 a1 m501) fun v524 m522 =>
  (v524, m522))
  else
  (if a2 < 0 then
  ((0, m501))
  else
  (if 8 ≤ a2 then
  ((0, m501))
  else
  (zb (f109_1 0 a1 a2 m501) fun v515 m513 =>
  zn (if v515 = 0 then
  (0)
  else
  (1)) fun v517 =>
  (v517, m513)))))
  else
  ((0, m501))))
  else
  ((0, m501))
-- WorkMeter.special
theorem c125_1 {s : Nat × (Nat → Int32)} {S : zS} {m0 m : zM} {B : Int} {d : Nat} {Q : Option zV → zM → Prop} (a1 a2 : Int) (hd : 15 ≤ d) (hJ : J S m0 B m) (hB : B + 0 ≤ 1000000000) (ha1 : (-2147483648) ≤ a1 ∧ a1 ≤ 2147483647) (ha2 : (-2147483648) ≤ a2 ∧ a2 ≤ 2147483647) (hf1 : ¬ S.1 1) (hf4 : ¬ S.1 4) (hg0 : ¬ S.2.1 0) (hQ : ∀ (v : Int) m', (0 ≤ v ∧ v ≤ 1) → f125_1 a1 a2 m = (v, m') → J S m0 (B) m' → Q (some (zi v)) m') : X (EE s) d 125 0 [(0, zr 4 40), (1, zi a1), (2, zi a2)] [] m Q := by
  refine X.aload_n 1 i125_0 rfl rfl rfl ?_
  refine X.getF 4 i125_1 rfl rfl (by decide) rfl rfl ?_
  refine X.getR 7 i125_4 rfl rfl (by decide) rfl rfl ?_
  refine X.callv 10 [] [] [(0, zr 0 39)] i125_7 rfl (by decide) rfl rfl (by omega) rfl rfl (by decide) rfl t17 (Nat.le_of_ble_eq_true rfl) (Nat.le_of_ble_eq_true rfl) rfl ?_
  refine c17_1 (B := B) 0  (by omega) (hJ.up (by omega)) (by omega)  hf4 hg0 (fun v503 m501 hv503 hFv503 hJ502 => ?_)
  show X (EE s) d 125 10 [(0, zr 4 40), (1, zi a1), (2, zi a2)] [zi v503] m501 _
  refine X.ifne 24 13 i125_10 rfl rfl rfl (fun h504 => ?_) (fun h504 => ?_)
  · refine X.cut [] i125_24 rfl ?_
    refine X.iconst 25 i125_24 rfl rfl (by decide) ?_
    refine X.retz i125_25 rfl t125 (by omega) ?_
    exact hQ 0 m501 (by first | trivial | omega) (Eq.trans (zb_eq hFv503) (Eq.trans (if_neg h504) rfl)) (hJ502.up (by omega)) 
  · refine X.iload_n 14 i125_13 rfl rfl rfl ?_
    refine X.iflt 24 17 i125_14 rfl rfl rfl (fun h505 => ?_) (fun h505 => ?_)
    · refine X.cut [] i125_24 rfl ?_
      refine X.iconst 25 i125_24 rfl rfl (by decide) ?_
      refine X.retz i125_25 rfl t125 (by omega) ?_
      exact hQ 0 m501 (by first | trivial | omega) (Eq.trans (zb_eq hFv503) (Eq.trans (if_pos h504) (Eq.trans (if_pos h505) rfl))) (hJ502.up (by omega)) 
    · refine X.iload_n 18 i125_17 rfl rfl rfl ?_
      refine X.sipush 21 i125_18 rfl rfl (by decide) ?_
      refine X.icmplt 26 24 i125_21 rfl rfl rfl (fun h506 => ?_) (fun h506 => ?_)
      · refine X.iload_n 27 i125_26 rfl rfl rfl ?_
        refine X.iconst 28 i125_27 rfl rfl (by decide) ?_
        refine X.icmpne 43 31 i125_28 rfl rfl rfl (fun h507 => ?_) (fun h507 => ?_)
        · refine X.iload_n 44 i125_43 rfl rfl rfl ?_
          refine X.calls 47 [zi a2] [] [(0, zi a2)] i125_44 (by decide) rfl rfl (by omega) rfl rfl t79 (Nat.le_of_ble_eq_true rfl) (Nat.le_of_ble_eq_true rfl) rfl ?_
          refine X.iload_n 1 i79_0 rfl rfl rfl ?_
          refine X.iflt 14 4 i79_1 rfl rfl rfl (fun h508 => ?_) (fun h508 => ?_)
          · refine X.cut [] i79_14 rfl ?_
            refine X.iconst 15 i79_14 rfl rfl (by decide) ?_
            refine X.retz i79_15 rfl t79 (by omega) ?_
            show X (EE s) d 125 47 [(0, zr 4 40), (1, zi a1), (2, zi a2)] [zi 0] m501 _
            refine X.ifeq 69 50 i125_47 rfl rfl rfl (fun h509 => ?_) (fun h509 => (by exfalso; omega))
            refine X.cut [] i125_69 rfl ?_
            refine X.iconst 70 i125_69 rfl rfl (by decide) ?_
            refine X.retz i125_70 rfl t125 (by omega) ?_
            exact hQ 0 m501 (by first | trivial | omega) (Eq.trans (zb_eq hFv503) (Eq.trans (if_pos h504) (Eq.trans (if_neg h505) (Eq.trans (if_pos h506) (Eq.trans (if_neg h507) (Eq.trans (if_pos h508) rfl)))))) (hJ502.up (by omega)) 
          · refine X.iload_n 5 i79_4 rfl rfl rfl ?_
            refine X.bipush 7 i79_5 rfl rfl (by decide) ?_
            refine X.icmpge 14 10 i79_7 rfl rfl rfl (fun h510 => ?_) (fun h510 => ?_)
            · refine X.cut [] i79_14 rfl ?_
              refine X.iconst 15 i79_14 rfl rfl (by decide) ?_
              refine X.retz i79_15 rfl t79 (by omega) ?_
              show X (EE s) d 125 47 [(0, zr 4 40), (1, zi a1), (2, zi a2)] [zi 0] m501 _
              refine X.ifeq 69 50 i125_47 rfl rfl rfl (fun h511 => ?_) (fun h511 => (by exfalso; omega))
              refine X.cut [] i125_69 rfl ?_
              refine X.iconst 70 i125_69 rfl rfl (by decide) ?_
              refine X.retz i125_70 rfl t125 (by omega) ?_
              exact hQ 0 m501 (by first | trivial | omega) (Eq.trans (zb_eq hFv503) (Eq.trans (if_pos h504) (Eq.trans (if_neg h505) (Eq.trans (if_pos h506) (Eq.trans (if_neg h507) (Eq.trans (if_neg h508) (Eq.trans (if_pos h510) rfl))))))) (hJ502.up (by omega)) 
            · refine X.iconst 11 i79_10 rfl rfl (by decide) ?_
              refine X.goto 15 i79_11 rfl rfl ?_
              refine X.cut [] i79_15 rfl ?_
              refine X.retz i79_15 rfl t79 (by omega) ?_
              show X (EE s) d 125 47 [(0, zr 4 40), (1, zi a1), (2, zi a2)] [zi 1] m501 _
              refine X.ifeq 69 50 i125_47 rfl rfl rfl (fun h512 => (by exfalso; omega)) (fun h512 => ?_)
              refine X.aload_n 51 i125_50 rfl rfl rfl ?_
              refine X.getF 54 i125_51 rfl rfl (by decide) rfl rfl ?_
              refine X.getR 57 i125_54 rfl rfl (by decide) rfl rfl ?_
              refine X.iload_n 58 i125_57 rfl rfl rfl ?_
              refine X.iload_n 59 i125_58 rfl rfl rfl ?_
              refine X.callv 62 [zi a1, zi a2] [] [(0, zr 0 11), (1, zi a1), (2, zi a2)] i125_59 rfl (by decide) rfl rfl (by omega) rfl rfl (by decide) rfl t109 (Nat.le_of_ble_eq_true rfl) (Nat.le_of_ble_eq_true rfl) rfl ?_
              refine c109_1 (B := B) 0 a1 a2 (by omega) (hJ502.up (by omega)) (by omega) (by omega) (by omega) hf1 hg0 (fun v515 m513 hv515 hFv515 hJ514 => ?_)
              show X (EE s) d 125 62 [(0, zr 4 40), (1, zi a1), (2, zi a2)] [zi v515] m513 _
              have hK520 : ∀ (v : Int) , (0 ≤ v ∧ v ≤ 1) → (if v515 = 0 then
                  (0)
                  else
                  (1)) = v → X (EE s) d 125 70 [] [zi v] m513 Q := by
                intro v517 hv517 hT521
                refine X.retz i125_70 rfl t125 (by omega) ?_
                exact hQ v517 m513 (by first | trivial | omega) (Eq.trans (zb_eq hFv503) (Eq.trans (if_pos h504) (Eq.trans (if_neg h505) (Eq.trans (if_pos h506) (Eq.trans (if_neg h507) (Eq.trans (if_neg h508) (Eq.trans (if_neg h510) (Eq.trans (zb_eq hFv515) (Eq.trans (zn_eq hT521.symm) rfl))))))))) (hJ514.up (by omega)) 
              refine X.ifeq 69 65 i125_62 rfl rfl rfl (fun h516 => ?_) (fun h516 => ?_)
              · refine X.cut [] i125_69 rfl ?_
                refine X.iconst 70 i125_69 rfl rfl (by decide) ?_
                exact hK520 0 (by first | trivial | omega) (Eq.trans (if_pos h516) rfl)
              · refine X.iconst 66 i125_65 rfl rfl (by decide) ?_
                refine X.goto 70 i125_66 rfl rfl ?_
                refine X.cut [] i125_70 rfl ?_
                exact hK520 1 (by first | trivial | omega) (Eq.trans (if_neg h516) rfl)
        · refine X.aload_n 32 i125_31 rfl rfl rfl ?_
          refine X.getF 35 i125_32 rfl rfl (by decide) rfl rfl ?_
          refine X.getR 38 i125_35 rfl rfl (by decide) rfl rfl ?_
          refine X.iload_n 39 i125_38 rfl rfl rfl ?_
          refine X.callv 42 [zi a1] [] [(0, zr 0 11), (1, zi a1)] i125_39 rfl (by decide) rfl rfl (by omega) rfl rfl (by decide) rfl t126 (Nat.le_of_ble_eq_true rfl) (Nat.le_of_ble_eq_true rfl) rfl ?_
          refine c126_1 (B := B) 0 a1 (by omega) (hJ502.up (by omega)) (by omega) (by omega) hf1 hg0 (fun v524 m522 hv524 hFv524 hJ523 => ?_)
          show X (EE s) d 125 42 [(0, zr 4 40), (1, zi a1), (2, zi a2)] [zi v524] m522 _
          refine X.retz i125_42 rfl t125 (by omega) ?_
          exact hQ v524 m522 (by first | trivial | omega) (Eq.trans (zb_eq hFv503) (Eq.trans (if_pos h504) (Eq.trans (if_neg h505) (Eq.trans (if_pos h506) (Eq.trans (if_pos h507) (Eq.trans (zb_eq hFv524) rfl)))))) (hJ523.up (by omega)) 
      · refine X.cut [] i125_24 rfl ?_
        refine X.iconst 25 i125_24 rfl rfl (by decide) ?_
        refine X.retz i125_25 rfl t125 (by omega) ?_
        exact hQ 0 m501 (by first | trivial | omega) (Eq.trans (zb_eq hFv503) (Eq.trans (if_pos h504) (Eq.trans (if_neg h505) (Eq.trans (if_neg h506) rfl)))) (hJ502.up (by omega)) 
noncomputable def fl249_4_1_b (self : Int → Int → Int) (k42 : Int → Int) (m : zM) (y1 y2 : Int) : Int :=
  if 365 ≤ y2 then
  (k42 y1)
  else
  (zn (if (m 4 45 (423 + y2)) = (-1) then
  (0)
  else
  (1)) fun v514 =>
  self (y1 + v514) (y2 + 1))
noncomputable def fl249_4_1 (k42 : Int → Int) (m : zM) : Nat → Int → Int → Int
  | 0 => fun y1 y2 => 0
  | n + 1 => fl249_4_1_b (fl249_4_1 k42 m n) k42 m
theorem l249_4_1 {s : Nat × (Nat → Int32)} {S : zS} {m0 : zM} {m : zM} {B : Int} {d : Nat} {Q : Option zV → zM → Prop} {R0 : Int} {k42 : Int → Int} (hd : 13 ≤ d) (hJ : J S m0 B m) (hB9 : B ≤ 1000000000)
    (K42 : ∀ (x1 : Int) , (0 ≤ x1 ∧ x1 ≤ 365) → (0 ≤ x1) → R0 = k42 x1 → X (EE s) d 249 42 [(1, zi x1)] [] m Q) :
    ∀ (n : Nat) (y1 y2 : Int) , (0 ≤ y1 ∧ y1 ≤ 365) → (0 ≤ y2 ∧ y2 ≤ 365) → (0 ≤ y1) → (y1 ≤ y2) → 365 - y2 < (n : Int) → R0 = fl249_4_1 k42 m n y1 y2 → X (EE s) d 249 4 [(0, zr 4 44), (1, zi y1), (2, zi y2)] [] m Q := by
  intro n
  induction n with
  | zero =>
    intro y1 y2 hy1 hy2 hr0 hr1 hn hR
    exfalso
    omega
  | succ n ih =>
    intro y1 y2 hy1 hy2 hr0 hr1 hn hR
    replace hR : R0 = fl249_4_1_b (fl249_4_1 k42 m n) k42 m y1 y2 := hR
    refine X.iload_n 5 i249_4 rfl rfl rfl ?_
    refine X.sipush 8 i249_5 rfl rfl (by decide) ?_
    refine X.icmpge 42 11 i249_8 rfl rfl rfl (fun h510 => ?_) (fun h510 => ?_)
    · refine X.cut [(1, zi y1)] i249_42 rfl ?_
      exact K42 y1 (by first | trivial | omega) (by omega) (Eq.trans hR (Eq.trans (if_pos h510) rfl))
    · refine X.iload_n 12 i249_11 rfl rfl rfl ?_
      refine X.aload_n 13 i249_12 rfl rfl rfl ?_
      refine X.getF 16 i249_13 rfl rfl (by decide) rfl rfl ?_
      refine X.sipush 19 i249_16 rfl rfl (by decide) ?_
      refine X.iload_n 20 i249_19 rfl rfl rfl ?_
      refine X.iadd 21 i249_20 rfl rfl (by omega) ?_
      refine X.lald 22 i249_21 rfl rfl (by decide) rfl (by omega) ?_
      have h511 := r45_423 hJ 4 (i := (423 + y2)) (by omega)
      refine X.ldc2 25 i249_22 rfl rfl (by decide) ?_
      refine X.lcmp 26 i249_25 rfl rfl (fun z512 hz512 => ?_)
      have hK517 : ∀ (v : Int) , (0 ≤ v ∧ v ≤ 1) → (if (m 4 45 (423 + y2)) = (-1) then
          (0)
          else
          (1)) = v → X (EE s) d 249 34 [(0, zr 4 44), (2, zi y2)] [zi v, zi y1] m Q := by
        intro v514 hv514 hT518
        refine X.iadd 35 i249_34 rfl rfl (by omega) ?_
        refine X.istore_n 36 [(0, zr 4 44), (1, zi (y1 + v514)), (2, zi y2)] i249_35 rfl rfl rfl ?_
        refine X.iinc 39 [(0, zr 4 44), (1, zi (y1 + v514)), (2, zi (y2 + 1))] i249_36 rfl rfl rfl (by omega) rfl ?_
        refine X.goto 4 i249_39 rfl rfl ?_
        exact ih (y1 + v514) (y2 + 1) (by omega) (by omega) (by omega) (by omega) (by omega) (Eq.trans hR (Eq.trans (if_neg h510) (Eq.trans (zn_eq hT518.symm) rfl)))
      refine X.ifne 33 29 i249_26 rfl rfl rfl (fun h513 => ?_) (fun h513 => ?_)
      · have h513c : ¬ (m 4 45 (423 + y2)) = (-1) := by omega
        clear h513 hz512
        refine X.cut [(0, zr 4 44), (2, zi y2)] i249_33 rfl ?_
        refine X.iconst 34 i249_33 rfl rfl (by decide) ?_
        exact hK517 1 (by first | trivial | omega) (Eq.trans (if_neg h513c) rfl)
      · have h513c : (m 4 45 (423 + y2)) = (-1) := by omega
        clear h513 hz512
        refine X.iconst 30 i249_29 rfl rfl (by decide) ?_
        refine X.goto 34 i249_30 rfl rfl ?_
        refine X.cut [(0, zr 4 44), (2, zi y2)] i249_34 rfl ?_
        exact hK517 0 (by first | trivial | omega) (Eq.trans (if_pos h513c) rfl)
-- WorkMeterModel.specials
noncomputable def f249_1 (m : zM) : Int :=
  fl249_4_1 (fun y501 =>
  y501) m (zfu 366) 0 0
-- WorkMeterModel.specials
theorem c249_1 {s : Nat × (Nat → Int32)} {S : zS} {m0 m : zM} {B : Int} {d : Nat} {Q : Option zV → zM → Prop} (hd : 13 ≤ d) (hJ : J S m0 B m) (hB : B + 0 ≤ 1000000000) (hQ : ∀ (v : Int), (0 ≤ v ∧ v ≤ 365) → f249_1 m = v → Q (some (zi v)) m) : X (EE s) d 249 0 [(0, zr 4 44)] [] m Q := by
  refine X.iconst 1 i249_0 rfl rfl (by decide) ?_
  refine X.istore_n 2 [(0, zr 4 44), (1, zi 0)] i249_1 rfl rfl rfl ?_
  refine X.iconst 3 i249_2 rfl rfl (by decide) ?_
  refine X.istore_n 4 [(0, zr 4 44), (1, zi 0), (2, zi 0)] i249_3 rfl rfl rfl ?_
  have hz366 := zfu_eq 366
  refine l249_4_1 (s := s) (m := m) (B := B) (d := d) (R0 := (f249_1 m))    (by omega) (hJ.up (by omega)) (by omega) (fun y501 hby501 hrlm502_0 hR505 => ?_) (zfu 366) 0 0 (by omega) (by omega) (by omega) (by omega) (by omega) rfl
  refine X.iload_n 43 i249_42 rfl rfl rfl ?_
  refine X.reti i249_43 rfl t249 ?_
  exact hQ y501 (by first | trivial | omega) (Eq.trans hR505 rfl) 
