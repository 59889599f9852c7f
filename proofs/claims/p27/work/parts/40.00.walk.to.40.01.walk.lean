section
-- WorkMeter$Seal.refuses
noncomputable def f17_1 (g0 : Nat) (m : zM) : Int × zM :=
  zs (if (m g0 39 0) = 0 then
  (m)
  else
  (zn (w32 ((m g0 39 3) + 1)) fun z504 =>
  zs (z_upd m g0 39 3 z504) fun m505 =>
  m505)) fun m508 =>
  ((m508 g0 39 0), m508)
-- WorkMeter$Seal.refuses
theorem c17_1 {s : Nat × (Nat → Int32)} {S : zS} {m0 m : zM} {B : Int} {d : Nat} {Q : Option zV → zM → Prop} (g0 : Nat) (hd : 13 ≤ d) (hJ : J S m0 B m) (hB : B + 0 ≤ 1000000000) (hf4 : ¬ S.1 4) (hgg0 : ¬ S.2.1 g0) (hQ : ∀ (v : Int) m', (0 ≤ v ∧ v ≤ 1) → f17_1 g0 m = (v, m') → J S m0 (B) m' → Q (some (zi v)) m') : X (EE s) d 17 0 [(0, zr g0 39)] [] m Q := by
  refine X.aload_n 1 i17_0 rfl rfl rfl ?_
  refine X.getZ 4 0 i17_1 rfl rfl (by decide) rfl rfl rfl (fun h501 => ?_)
  have hK510 : ∀ (m' : zM), (if (m g0 39 0) = 0 then
      (m)
      else
      (zn (w32 ((m g0 39 3) + 1)) fun z504 =>
      zs (z_upd m g0 39 3 z504) fun m505 =>
      m505)) = m' → J S m0 (B) m' → X (EE s) d 17 17 [(0, zr g0 39)] [] m' Q := by
    intro m508 hT511 hJ509
    refine X.aload_n 18 i17_17 rfl rfl rfl ?_
    refine X.getZ 21 0 i17_18 rfl rfl (by decide) rfl rfl rfl (fun h512 => ?_)
    refine X.retz i17_21 rfl t17 (by omega) ?_
    exact hQ (m508 g0 39 0) m508 (by first | trivial | omega) (Eq.trans (zs_eq hT511.symm) rfl) (hJ509.up (by omega)) 
  refine X.ifeq 17 7 i17_4 rfl rfl rfl (fun h502 => ?_) (fun h502 => ?_)
  · exact hK510 m (Eq.trans (if_pos h502) rfl) (hJ.up (by omega))
  · refine X.aload_n 8 i17_7 rfl rfl rfl ?_
    refine X.dup 9 i17_8 rfl rfl rfl ?_
    refine X.getIr 12 3 i17_9 rfl rfl (by decide) rfl rfl rfl (fun h503 => ?_)
    refine X.iconst 13 i17_12 rfl rfl (by decide) ?_
    refine X.iaddW 14 i17_13 rfl rfl (fun z504 ez504 hz504 => ?_)
    refine X.putI' 17 3 i17_14 rfl rfl (by decide) rfl rfl rfl (fun hrm505 m505 hm505 => ?_)
    have hJ506 := w39_3 hJ hm505 hrm505 hf4 hgg0
    exact hK510 m505 (Eq.trans (if_neg h502) (Eq.trans (zn_eq ez504) (Eq.trans (zs_eq hm505) rfl))) (hJ506.up (by omega))
noncomputable def fl11_6_1_b (self : Int → zM → zM) (k22 : zM → zM) (g0 : Nat) (y1 y4 : Int) (y3 : Int) (m : zM) : zM :=
  if y4 ≤ y3 then
  (k22 m)
  else
  (zs (z_upd m g0 22 y3 y1) fun m505 =>
  self (y3 + 1) m505)
noncomputable def fl11_6_1 (k22 : zM → zM) (g0 : Nat) (y1 y4 : Int) : Nat → Int → zM → zM
  | 0 => fun y3 m => m
  | n + 1 => fl11_6_1_b (fl11_6_1 k22 g0 y1 y4 n) k22 g0 y1 y4
theorem l11_6_1 {s : Nat × (Nat → Int32)} {S : zS} {m0 : zM} {d : Nat} {Q : Option zV → zM → Prop} {R0 : zM} {k22 : zM → zM} (g0 : Nat) (y1 y4 : Int) (BE : Int) (hE : BE ≤ 1000000000) (hd : 13 ≤ d) (hy1 : 0 ≤ y1 ∧ y1 ≤ 0) (hy4 : 16 ≤ y4 ∧ y4 ≤ 16) (hf2 : ¬ S.1 2) (hgg0 : ¬ S.2.1 g0)
    (K22 : ∀ (m' : zM) (B' : Int), J S m0 B' m' → B' ≤ BE → R0 = k22 m' → X (EE s) d 11 22 [] [] m' Q) :
    ∀ (n : Nat) (y3 : Int) (m : zM) (B : Int), J S m0 B m → B + 0 * (n : Int) ≤ BE → (0 ≤ y3 ∧ y3 ≤ 16) → 16 - y3 < (n : Int) → R0 = fl11_6_1 k22 g0 y1 y4 n y3 m → X (EE s) d 11 6 [(0, zr g0 22), (1, zl y1), (3, zi y3), (4, zi y4)] [] m Q := by
  intro n
  induction n with
  | zero =>
    intro y3 m B hJ hB hy3 hn hR
    exfalso
    omega
  | succ n ih =>
    intro y3 m B hJ hB hy3 hn hR
    replace hR : R0 = fl11_6_1_b (fl11_6_1 k22 g0 y1 y4 n) k22 g0 y1 y4 y3 m := hR
    refine X.iload_n 7 i11_6 rfl rfl rfl ?_
    refine X.iload 9 i11_7 rfl rfl rfl ?_
    refine X.icmpge 22 12 i11_9 rfl rfl rfl (fun h504 => ?_) (fun h504 => ?_)
    · refine X.cut [] i11_22 rfl ?_
      exact K22  m (B) (hJ.up (by omega)) (by omega)  (Eq.trans hR (Eq.trans (if_pos h504) rfl))
    · refine X.aload_n 13 i11_12 rfl rfl rfl ?_
      refine X.iload_n 14 i11_13 rfl rfl rfl ?_
      refine X.lload_n 15 i11_14 rfl rfl rfl ?_
      refine X.last' 16 i11_15 rfl rfl (by decide) rfl (by omega) (fun hrm505 m505 hm505 => ?_)
      have hJ506 := w22_0 hJ hm505 (by omega) hrm505 hf2 hgg0
      refine X.iinc 19 [(0, zr g0 22), (1, zl y1), (3, zi (y3 + 1)), (4, zi y4)] i11_16 rfl rfl rfl (by omega) rfl ?_
      refine X.goto 6 i11_19 rfl rfl ?_
      exact ih (y3 + 1) m505 (B) (hJ506.up (by omega)) (by omega) (by omega) (by omega) (Eq.trans hR (Eq.trans (if_neg h504) (Eq.trans (zs_eq hm505) rfl)))
-- java/util/Arrays.fill
noncomputable def f11_1 (g0 : Nat) (a1 : Int) (m : zM) : zM :=
  fl11_6_1 (fun m501 =>
  m501) g0 a1 16 (zfu 17) 0 m
-- java/util/Arrays.fill
theorem c11_1 {s : Nat × (Nat → Int32)} {S : zS} {m0 m : zM} {B : Int} {d : Nat} {Q : Option zV → zM → Prop} (g0 : Nat) (a1 : Int) (hd : 13 ≤ d) (hJ : J S m0 B m) (hB : B + 0 ≤ 1000000000) (ha1 : 0 ≤ a1 ∧ a1 ≤ 0) (hf2 : ¬ S.1 2) (hgg0 : ¬ S.2.1 g0) (hQ : ∀ m', f11_1 g0 a1 m = m' → J S m0 (B) m' → Q none m') : X (EE s) d 11 0 [(0, zr g0 22), (1, zl a1)] [] m Q := by
  refine X.iconst 1 i11_0 rfl rfl (by decide) ?_
  refine X.istore_n 2 [(0, zr g0 22), (1, zl a1), (3, zi 0)] i11_1 rfl rfl rfl ?_
  refine X.aload_n 3 i11_2 rfl rfl rfl ?_
  refine X.alen 4 i11_3 rfl rfl (by decide) rfl ?_
  show X (EE s) d 11 4 [(0, zr g0 22), (1, zl a1), (3, zi 0)] [zi 16] m _
  refine X.istore 6 [(0, zr g0 22), (1, zl a1), (3, zi 0), (4, zi 16)] i11_4 rfl rfl rfl ?_
  have hz17 := zfu_eq 17
  refine l11_6_1 (s := s) (d := d) (R0 := (f11_1 g0 a1 m)) g0 a1 16  (BE := B + 0) (by omega) (by omega) (by omega) (by omega) hf2 hgg0 (fun  m501 B502 hJ503 hBB502 hR504 => ?_) (zfu 17) 0 m (B) (hJ.up (by omega)) (by omega) (by omega) (by omega) rfl
  refine X.retv i11_22 rfl t11 ?_
  exact hQ  m501  (Eq.trans hR504 rfl) (hJ503.up (by omega)) 
-- WorkMeter$Wave.tellShape
noncomputable def f18_1 (g0 : Nat) (a1 a2 : Int) (m : zM) : Int × zM :=
  if a1 < 1 then
  ((0, m))
  else
  (if 3 < a1 then
  ((0, m))
  else
  (if a2 < 4 then
  ((0, m))
  else
  (if 16 < a2 then
  ((0, m))
  else
  (if (a2 % 4) = 0 then
  (zs (z_upd m g0 19 3 a1) fun m506 =>
  zs (z_upd m506 g0 19 4 a2) fun m508 =>
  zs (z_upd m508 g0 19 5 0) fun m510 =>
  zs (z_upd m510 g0 19 6 0) fun m512 =>
  zs (f11_1 g0 0 m512) fun m514 =>
  (1, m514))
  else
  ((0, m))))))
-- WorkMeter$Wave.tellShape
theorem c18_1 {s : Nat × (Nat → Int32)} {S : zS} {m0 m : zM} {B : Int} {d : Nat} {Q : Option zV → zM → Prop} (g0 : Nat) (a1 a2 : Int) (hd : 14 ≤ d) (hJ : J S m0 B m) (hB : B + 0 ≤ 1000000000) (ha1 : (-2147483648) ≤ a1 ∧ a1 ≤ 2147483647) (ha2 : (-2147483648) ≤ a2 ∧ a2 ≤ 2147483647) (hf2 : ¬ S.1 2) (hgg0 : ¬ S.2.1 g0) (hQ : ∀ (v : Int) m', (0 ≤ v ∧ v ≤ 1) → f18_1 g0 a1 a2 m = (v, m') → J S m0 (B) m' → Q (some (zi v)) m') : X (EE s) d 18 0 [(0, zr g0 19), (1, zi a1), (2, zi a2)] [] m Q := by
  refine X.iload_n 1 i18_0 rfl rfl rfl ?_
  refine X.iconst 2 i18_1 rfl rfl (by decide) ?_
  refine X.icmplt 27 5 i18_2 rfl rfl rfl (fun h501 => ?_) (fun h501 => ?_)
  · refine X.cut [] i18_27 rfl ?_
    refine X.iconst 28 i18_27 rfl rfl (by decide) ?_
    refine X.retz i18_28 rfl t18 (by omega) ?_
    exact hQ 0 m (by first | trivial | omega) (Eq.trans (if_pos h501) rfl) (hJ.up (by omega)) 
  · refine X.iload_n 6 i18_5 rfl rfl rfl ?_
    refine X.iconst 7 i18_6 rfl rfl (by decide) ?_
    refine X.icmpgt 27 10 i18_7 rfl rfl rfl (fun h502 => ?_) (fun h502 => ?_)
    · refine X.cut [] i18_27 rfl ?_
      refine X.iconst 28 i18_27 rfl rfl (by decide) ?_
      refine X.retz i18_28 rfl t18 (by omega) ?_
      exact hQ 0 m (by first | trivial | omega) (Eq.trans (if_neg h501) (Eq.trans (if_pos h502) rfl)) (hJ.up (by omega)) 
    · refine X.iload_n 11 i18_10 rfl rfl rfl ?_
      refine X.iconst 12 i18_11 rfl rfl (by decide) ?_
      refine X.icmplt 27 15 i18_12 rfl rfl rfl (fun h503 => ?_) (fun h503 => ?_)
      · refine X.cut [] i18_27 rfl ?_
        refine X.iconst 28 i18_27 rfl rfl (by decide) ?_
        refine X.retz i18_28 rfl t18 (by omega) ?_
        exact hQ 0 m (by first | trivial | omega) (Eq.trans (if_neg h501) (Eq.trans (if_neg h502) (Eq.trans (if_pos h503) rfl))) (hJ.up (by omega)) 
      · refine X.iload_n 16 i18_15 rfl rfl rfl ?_
        refine X.bipush 18 i18_16 rfl rfl (by decide) ?_
        refine X.icmpgt 27 21 i18_18 rfl rfl rfl (fun h504 => ?_) (fun h504 => ?_)
        · refine X.cut [] i18_27 rfl ?_
          refine X.iconst 28 i18_27 rfl rfl (by decide) ?_
          refine X.retz i18_28 rfl t18 (by omega) ?_
          exact hQ 0 m (by first | trivial | omega) (Eq.trans (if_neg h501) (Eq.trans (if_neg h502) (Eq.trans (if_neg h503) (Eq.trans (if_pos h504) rfl)))) (hJ.up (by omega)) 
        · refine X.iload_n 22 i18_21 rfl rfl rfl ?_
          refine X.iconst 23 i18_22 rfl rfl (by decide) ?_
          refine X.irem 24 i18_23 rfl rfl (by omega) ?_
          refine X.ifeq 29 27 i18_24 rfl rfl rfl (fun h505 => ?_) (fun h505 => ?_)
          · refine X.aload_n 30 i18_29 rfl rfl rfl ?_
            refine X.iload_n 31 i18_30 rfl rfl rfl ?_
            refine X.putI' 34 3 i18_31 rfl rfl (by decide) rfl rfl rfl (fun hrm506 m506 hm506 => ?_)
            have hJ507 := w19_3 hJ hm506 (by omega) hf2 hgg0
            refine X.aload_n 35 i18_34 rfl rfl rfl ?_
            refine X.iload_n 36 i18_35 rfl rfl rfl ?_
            refine X.putI' 39 4 i18_36 rfl rfl (by decide) rfl rfl rfl (fun hrm508 m508 hm508 => ?_)
            have hJ509 := w19_4 hJ507 hm508 (by omega) hf2 hgg0
            refine X.aload_n 40 i18_39 rfl rfl rfl ?_
            refine X.iconst 41 i18_40 rfl rfl (by decide) ?_
            refine X.putI' 44 5 i18_41 rfl rfl (by decide) rfl rfl rfl (fun hrm510 m510 hm510 => ?_)
            have hJ511 := w19_5 hJ509 hm510 (by omega) hf2 hgg0
            have em510 : m510 g0 19 5 = 0 := by rw [hm510]; exact z_upd_same _ _ _ _ _
            refine X.aload_n 45 i18_44 rfl rfl rfl ?_
            refine X.lconst (y := 0) 46 i18_45 rfl rfl rfl ?_
            refine X.putL' 49 6 i18_46 rfl rfl (by decide) rfl rfl rfl (fun hrm512 m512 hm512 => ?_)
            have hJ513 := w19_6 hJ511 hm512 hrm512 hf2 hgg0
            refine X.aload_n 50 i18_49 rfl rfl rfl ?_
            refine X.getR 53 i18_50 rfl rfl (by decide) rfl rfl ?_
            refine X.lconst (y := 0) 54 i18_53 rfl rfl rfl ?_
            refine X.calls 57 [zr g0 22, zl 0] [] [(0, zr g0 22), (1, zl 0)] i18_54 (by decide) rfl rfl (by omega) rfl rfl t11 (Nat.le_of_ble_eq_true rfl) (Nat.le_of_ble_eq_true rfl) rfl ?_
            refine c11_1 (B := B) g0 0 (by omega) (hJ513.up (by omega)) (by omega) (by omega) hf2 hgg0 (fun m514 hFv516 hJ515 => ?_)
            show X (EE s) d 18 57 [(0, zr g0 19), (1, zi a1), (2, zi a2)] [] m514 _
            refine X.iconst 58 i18_57 rfl rfl (by decide) ?_
            refine X.retz i18_58 rfl t18 (by omega) ?_
            exact hQ 1 m514 (by first | trivial | omega) (Eq.trans (if_neg h501) (Eq.trans (if_neg h502) (Eq.trans (if_neg h503) (Eq.trans (if_neg h504) (Eq.trans (if_pos h505) (Eq.trans (zs_eq hm506) (Eq.trans (zs_eq hm508) (Eq.trans (zs_eq hm510) (Eq.trans (zs_eq hm512) (Eq.trans (zs_eq hFv516.symm) rfl)))))))))) (hJ515.up (by omega)) 
          · refine X.cut [] i18_27 rfl ?_
            refine X.iconst 28 i18_27 rfl rfl (by decide) ?_
            refine X.retz i18_28 rfl t18 (by omega) ?_
            exact hQ 0 m (by first | trivial | omega) (Eq.trans (if_neg h501) (Eq.trans (if_neg h502) (Eq.trans (if_neg h503) (Eq.trans (if_neg h504) (Eq.trans (if_neg h505) rfl))))) (hJ.up (by omega)) 
-- WorkMeter.phases
noncomputable def f16_1 (a1 a2 : Int) (m : zM) : Int × zM :=
  zb (f17_1 0 m) fun v503 m501 =>
  if v503 = 0 then
  (zb (f18_1 0 a1 a2 m501) fun v507 m505 =>
  (v507, m505))
  else
  ((0, m501))
-- WorkMeter.phases
theorem c16_1 {s : Nat × (Nat → Int32)} {S : zS} {m0 m : zM} {B : Int} {d : Nat} {Q : Option zV → zM → Prop} (a1 a2 : Int) (hd : 15 ≤ d) (hJ : J S m0 B m) (hB : B + 0 ≤ 1000000000) (ha1 : (-2147483648) ≤ a1 ∧ a1 ≤ 2147483647) (ha2 : (-2147483648) ≤ a2 ∧ a2 ≤ 2147483647) (hf2 : ¬ S.1 2) (hf4 : ¬ S.1 4) (hg0 : ¬ S.2.1 0) (hQ : ∀ (v : Int) m', (0 ≤ v ∧ v ≤ 1) → f16_1 a1 a2 m = (v, m') → J S m0 (B) m' → Q (some (zi v)) m') : X (EE s) d 16 0 [(0, zr 4 40), (1, zi a1), (2, zi a2)] [] m Q := by
  refine X.aload_n 1 i16_0 rfl rfl rfl ?_
  refine X.getF 4 i16_1 rfl rfl (by decide) rfl rfl ?_
  refine X.getR 7 i16_4 rfl rfl (by decide) rfl rfl ?_
  refine X.callv 10 [] [] [(0, zr 0 39)] i16_7 rfl (by decide) rfl rfl (by omega) rfl rfl (by decide) rfl t17 (Nat.le_of_ble_eq_true rfl) (Nat.le_of_ble_eq_true rfl) rfl ?_
  refine c17_1 (B := B) 0  (by omega) (hJ.up (by omega)) (by omega)  hf4 hg0 (fun v503 m501 hv503 hFv503 hJ502 => ?_)
  show X (EE s) d 16 10 [(0, zr 4 40), (1, zi a1), (2, zi a2)] [zi v503] m501 _
  refine X.ifeq 15 13 i16_10 rfl rfl rfl (fun h504 => ?_) (fun h504 => ?_)
  · refine X.aload_n 16 i16_15 rfl rfl rfl ?_
    refine X.getF 19 i16_16 rfl rfl (by decide) rfl rfl ?_
    refine X.getR 22 i16_19 rfl rfl (by decide) rfl rfl ?_
    refine X.iload_n 23 i16_22 rfl rfl rfl ?_
    refine X.iload_n 24 i16_23 rfl rfl rfl ?_
    refine X.callv 27 [zi a1, zi a2] [] [(0, zr 0 19), (1, zi a1), (2, zi a2)] i16_24 rfl (by decide) rfl rfl (by omega) rfl rfl (by decide) rfl t18 (Nat.le_of_ble_eq_true rfl) (Nat.le_of_ble_eq_true rfl) rfl ?_
    refine c18_1 (B := B) 0 a1 a2 (by omega) (hJ502.up (by omega)) (by omega) (by omega) (by omega) hf2 hg0 (fun v507 m505 hv507 hFv507 hJ506 => ?_)
    show X (EE s) d 16 27 [(0, zr 4 40), (1, zi a1), (2, zi a2)] [zi v507] m505 _
    refine X.retz i16_27 rfl t16 (by omega) ?_
    exact hQ v507 m505 (by first | trivial | omega) (Eq.trans (zb_eq hFv503) (Eq.trans (if_pos h504) (Eq.trans (zb_eq hFv507) rfl))) (hJ506.up (by omega)) 
  · refine X.iconst 14 i16_13 rfl rfl (by decide) ?_
    refine X.retz i16_14 rfl t16 (by omega) ?_
    exact hQ 0 m501 (by first | trivial | omega) (Eq.trans (zb_eq hFv503) (Eq.trans (if_neg h504) rfl)) (hJ502.up (by omega)) 
-- WorkMeterModel.isShut
noncomputable def f203_1 (m : zM) : Int × zM :=
  zn (w64 ((m 4 45 1618) + (m 4 45 1614))) fun z502 =>
  zs (z_upd m 4 45 1618 z502) fun m503 =>
  zn (if (m503 4 45 1614) = 1 then
  (1)
  else
  (0)) fun v508 =>
  (v508, m503)
-- WorkMeterModel.isShut
theorem c203_1 {s : Nat × (Nat → Int32)} {S : zS} {m0 m : zM} {B : Int} {d : Nat} {Q : Option zV → zM → Prop} (hd : 13 ≤ d) (hJ : J S m0 B m) (hB : B + 0 ≤ 1000000000) (hf24 : ¬ S.1 24) (hg4 : ¬ S.2.1 4) (hQ : ∀ (v : Int) m', (0 ≤ v ∧ v ≤ 1) → f203_1 m = (v, m') → J S m0 (B) m' → Q (some (zi v)) m') : X (EE s) d 203 0 [(0, zr 4 44)] [] m Q := by
  refine X.aload_n 1 i203_0 rfl rfl rfl ?_
  refine X.getF 4 i203_1 rfl rfl (by decide) rfl rfl ?_
  refine X.sipush 7 i203_4 rfl rfl (by decide) ?_
  refine X.dup2 8 i203_7 rfl rfl ?_
  refine X.lald 9 i203_8 rfl rfl (by decide) rfl (by omega) ?_
  refine X.aload_n 10 i203_9 rfl rfl rfl ?_
  refine X.getF 13 i203_10 rfl rfl (by decide) rfl rfl ?_
  refine X.sipush 16 i203_13 rfl rfl (by decide) ?_
  refine X.lald 17 i203_16 rfl rfl (by decide) rfl (by omega) ?_
  have h501 := r45_1614 hJ 4
  refine X.laddW 18 i203_17 rfl rfl (fun z502 ez502 hz502 => ?_)
  refine X.last' 19 i203_18 rfl rfl (by decide) rfl (by omega) (fun hrm503 m503 hm503 => ?_)
  have hJ504 := w45_1618 hJ hm503 hrm503 hf24 hg4
  refine X.aload_n 20 i203_19 rfl rfl rfl ?_
  refine X.getF 23 i203_20 rfl rfl (by decide) rfl rfl ?_
  refine X.sipush 26 i203_23 rfl rfl (by decide) ?_
  refine X.lald 27 i203_26 rfl rfl (by decide) rfl (by omega) ?_
  have h505 := r45_1614 hJ504 4
  refine X.lconst (y := 1) 28 i203_27 rfl rfl rfl ?_
  refine X.lcmp 29 i203_28 rfl rfl (fun z506 hz506 => ?_)
  have hK511 : ∀ (v : Int) , (0 ≤ v ∧ v ≤ 1) → (if (m503 4 45 1614) = 1 then
      (1)
      else
      (0)) = v → X (EE s) d 203 37 [] [zi v] m503 Q := by
    intro v508 hv508 hT512
    refine X.retz i203_37 rfl t203 (by omega) ?_
    exact hQ v508 m503 (by first | trivial | omega) (Eq.trans (zn_eq ez502) (Eq.trans (zs_eq hm503) (Eq.trans (zn_eq hT512.symm) rfl))) (hJ504.up (by omega)) 
  refine X.ifne 36 32 i203_29 rfl rfl rfl (fun h507 => ?_) (fun h507 => ?_)
  · have h507c : ¬ (m503 4 45 1614) = 1 := by omega
    clear h507 hz506
    refine X.cut [] i203_36 rfl ?_
    refine X.iconst 37 i203_36 rfl rfl (by decide) ?_
    exact hK511 0 (by first | trivial | omega) (Eq.trans (if_neg h507c) rfl)
  · have h507c : (m503 4 45 1614) = 1 := by omega
    clear h507 hz506
    refine X.iconst 33 i203_32 rfl rfl (by decide) ?_
    refine X.goto 37 i203_33 rfl rfl ?_
    refine X.cut [] i203_37 rfl ?_
    exact hK511 1 (by first | trivial | omega) (Eq.trans (if_pos h507c) rfl)
noncomputable def fl202_67_1_b (self : Int → zM → Int × zM) (k87 : zM → Int × zM) (y3 : Int) (m : zM) : Int × zM :=
  if 191 ≤ y3 then
  (k87 m)
  else
  (zs (z_upd m 4 45 y3 0) fun m505 =>
  self (y3 + 1) m505)
noncomputable def fl202_67_1 (k87 : zM → Int × zM) : Nat → Int → zM → Int × zM
  | 0 => fun y3 m => (0, m)
  | n + 1 => fl202_67_1_b (fl202_67_1 k87 n) k87
theorem l202_67_1 {s : Nat × (Nat → Int32)} {S : zS} {m0 : zM} {d : Nat} {Q : Option zV → zM → Prop} {R0 : Int × zM} {k87 : zM → Int × zM} (BE : Int) (hE : BE ≤ 1000000000) (hd : 13 ≤ d) (hf22 : ¬ S.1 22) (hg4 : ¬ S.2.1 4)
    (K87 : ∀ (m' : zM) (B' : Int), J S m0 B' m' → B' ≤ BE → R0 = k87 m' → X (EE s) d 202 87 [] [] m' Q) :
    ∀ (n : Nat) (y3 : Int) (m : zM) (B : Int), J S m0 B m → B + 0 * (n : Int) ≤ BE → (95 ≤ y3 ∧ y3 ≤ 191) → 191 - y3 < (n : Int) → R0 = fl202_67_1 k87 n y3 m → X (EE s) d 202 67 [(0, zr 4 44), (3, zi y3)] [] m Q := by
  intro n
  induction n with
  | zero =>
    intro y3 m B hJ hB hy3 hn hR
    exfalso
    omega
  | succ n ih =>
    intro y3 m B hJ hB hy3 hn hR
    replace hR : R0 = fl202_67_1_b (fl202_67_1 k87 n) k87 y3 m := hR
    refine X.iload_n 68 i202_67 rfl rfl rfl ?_
    refine X.sipush 71 i202_68 rfl rfl (by decide) ?_
    refine X.icmpge 87 74 i202_71 rfl rfl rfl (fun h504 => ?_) (fun h504 => ?_)
    · refine X.cut [] i202_87 rfl ?_
      exact K87  m (B) (hJ.up (by omega)) (by omega)  (Eq.trans hR (Eq.trans (if_pos h504) rfl))
    · refine X.aload_n 75 i202_74 rfl rfl rfl ?_
      refine X.getF 78 i202_75 rfl rfl (by decide) rfl rfl ?_
      refine X.iload_n 79 i202_78 rfl rfl rfl ?_
      refine X.lconst (y := 0) 80 i202_79 rfl rfl rfl ?_
      refine X.last' 81 i202_80 rfl rfl (by decide) rfl (by omega) (fun hrm505 m505 hm505 => ?_)
      have hJ506 := w45_95 hJ hm505 (by omega) (by omega) hf22 hg4
      refine X.iinc 84 [(0, zr 4 44), (3, zi (y3 + 1))] i202_81 rfl rfl rfl (by omega) rfl ?_
      refine X.goto 67 i202_84 rfl rfl ?_
      exact ih (y3 + 1) m505 (B) (hJ506.up (by omega)) (by omega) (by omega) (by omega) (Eq.trans hR (Eq.trans (if_neg h504) (Eq.trans (zs_eq hm505) rfl)))
-- WorkMeterModel.phases
noncomputable def f202_1 (a1 a2 : Int) (m : zM) : Int × zM :=
  zb (f203_1 m) fun v503 m501 =>
  if v503 = 0 then
  (if a1 < 1 then
  ((0, m501))
  else
  (if a1 ≤ 3 then
  (if a2 < 4 then
  ((0, m501))
  else
  (if a2 ≤ 16 then
  (if (a2 % 4) = 0 then
  (zs (z_upd m501 4 45 1 a1) fun m520 =>
  zs (z_upd m520 4 45 2 a2) fun m522 =>
  zs (z_upd m522 4 45 3 0) fun m524 =>
  fl202_67_1 (fun m526 =>
  (1, m526)) (zfu 97) 95 m524)
  else
  ((0, m501)))
  else
  ((0, m501))))
  else
  ((0, m501))))
  else
  ((0, m501))
-- WorkMeterModel.phases
theorem c202_1 {s : Nat × (Nat → Int32)} {S : zS} {m0 m : zM} {B : Int} {d : Nat} {Q : Option zV → zM → Prop} (a1 a2 : Int) (hd : 14 ≤ d) (hJ : J S m0 B m) (hB : B + 0 ≤ 1000000000) (ha1 : (-2147483648) ≤ a1 ∧ a1 ≤ 2147483647) (ha2 : (-2147483648) ≤ a2 ∧ a2 ≤ 2147483647) (hf22 : ¬ S.1 22) (hf24 : ¬ S.1 24) (hg4 : ¬ S.2.1 4) (hQ : ∀ (v : Int) m', (0 ≤ v ∧ v ≤ 1) → f202_1 a1 a2 m = (v, m') → J S m0 (B) m' → Q (some (zi v)) m') : X (EE s) d 202 0 [(0, zr 4 44), (1, zi a1), (2, zi a2)] [] m Q := by
  refine X.aload_n 1 i202_0 rfl rfl rfl ?_
  refine X.callv 4 [] [] [(0, zr 4 44)] i202_1 rfl (by decide) rfl rfl (by omega) rfl rfl (by decide) rfl t203 (Nat.le_of_ble_eq_true rfl) (Nat.le_of_ble_eq_true rfl) rfl ?_
  refine c203_1 (B := B)   (by omega) (hJ.up (by omega)) (by omega)  hf24 hg4 (fun v503 m501 hv503 hFv503 hJ502 => ?_)
  show X (EE s) d 202 4 [(0, zr 4 44), (1, zi a1), (2, zi a2)] [zi v503] m501 _
  refine X.ifne 39 7 i202_4 rfl rfl rfl (fun h504 => ?_) (fun h504 => ?_)
  · refine X.cut [] i202_39 rfl ?_
    refine X.iconst 40 i202_39 rfl rfl (by decide) ?_
    refine X.retz i202_40 rfl t202 (by omega) ?_
    exact hQ 0 m501 (by first | trivial | omega) (Eq.trans (zb_eq hFv503) (Eq.trans (if_neg h504) rfl)) (hJ502.up (by omega)) 
  · refine X.iload_n 8 i202_7 rfl rfl rfl ?_
    refine X.i2l 9 i202_8 rfl rfl ?_
    refine X.lconst (y := 1) 10 i202_9 rfl rfl rfl ?_
    refine X.ldc2 13 i202_10 rfl rfl (by decide) ?_
    refine X.calls 16 [zl a1, zl 1, zl 3] [] [(0, zl a1), (2, zl 1), (4, zl 3)] i202_13 (by decide) rfl rfl (by omega) rfl rfl t204 (Nat.le_of_ble_eq_true rfl) (Nat.le_of_ble_eq_true rfl) rfl ?_
    refine X.lload_n 1 i204_0 rfl rfl rfl ?_
    refine X.lload_n 2 i204_1 rfl rfl rfl ?_
    refine X.lcmp 3 i204_2 rfl rfl (fun z505 hz505 => ?_)
    refine X.iflt 17 6 i204_3 rfl rfl rfl (fun h506 => ?_) (fun h506 => ?_)
    · have h506c : a1 < 1 := by omega
      clear h506 hz505
      refine X.cut [] i204_17 rfl ?_
      refine X.iconst 18 i204_17 rfl rfl (by decide) ?_
      refine X.retz i204_18 rfl t204 (by omega) ?_
      show X (EE s) d 202 16 [(0, zr 4 44), (1, zi a1), (2, zi a2)] [zi 0] m501 _
      refine X.ifeq 39 19 i202_16 rfl rfl rfl (fun h507 => ?_) (fun h507 => (by exfalso; omega))
      refine X.cut [] i202_39 rfl ?_
      refine X.iconst 40 i202_39 rfl rfl (by decide) ?_
      refine X.retz i202_40 rfl t202 (by omega) ?_
      exact hQ 0 m501 (by first | trivial | omega) (Eq.trans (zb_eq hFv503) (Eq.trans (if_pos h504) (Eq.trans (if_pos h506c) rfl))) (hJ502.up (by omega)) 
    · have h506c : ¬ a1 < 1 := by omega
      clear h506 hz505
      refine X.lload_n 7 i204_6 rfl rfl rfl ?_
      refine X.lload 9 i204_7 rfl rfl rfl ?_
      refine X.lcmp 10 i204_9 rfl rfl (fun z508 hz508 => ?_)
      refine X.ifgt 17 13 i204_10 rfl rfl rfl (fun h509 => ?_) (fun h509 => ?_)
      · have h509c : ¬ a1 ≤ 3 := by omega
        clear h509 hz508
        refine X.cut [] i204_17 rfl ?_
        refine X.iconst 18 i204_17 rfl rfl (by decide) ?_
        refine X.retz i204_18 rfl t204 (by omega) ?_
        show X (EE s) d 202 16 [(0, zr 4 44), (1, zi a1), (2, zi a2)] [zi 0] m501 _
        refine X.ifeq 39 19 i202_16 rfl rfl rfl (fun h510 => ?_) (fun h510 => (by exfalso; omega))
        refine X.cut [] i202_39 rfl ?_
        refine X.iconst 40 i202_39 rfl rfl (by decide) ?_
        refine X.retz i202_40 rfl t202 (by omega) ?_
        exact hQ 0 m501 (by first | trivial | omega) (Eq.trans (zb_eq hFv503) (Eq.trans (if_pos h504) (Eq.trans (if_neg h506c) (Eq.trans (if_neg h509c) rfl)))) (hJ502.up (by omega)) 
      · have h509c : a1 ≤ 3 := by omega
        clear h509 hz508
        refine X.iconst 14 i204_13 rfl rfl (by decide) ?_
        refine X.goto 18 i204_14 rfl rfl ?_
        refine X.cut [] i204_18 rfl ?_
        refine X.retz i204_18 rfl t204 (by omega) ?_
        show X (EE s) d 202 16 [(0, zr 4 44), (1, zi a1), (2, zi a2)] [zi 1] m501 _
        refine X.ifeq 39 19 i202_16 rfl rfl rfl (fun h511 => (by exfalso; omega)) (fun h511 => ?_)
        refine X.iload_n 20 i202_19 rfl rfl rfl ?_
        refine X.i2l 21 i202_20 rfl rfl ?_
        refine X.ldc2 24 i202_21 rfl rfl (by decide) ?_
        refine X.ldc2 27 i202_24 rfl rfl (by decide) ?_
        refine X.calls 30 [zl a2, zl 4, zl 16] [] [(0, zl a2), (2, zl 4), (4, zl 16)] i202_27 (by decide) rfl rfl (by omega) rfl rfl t204 (Nat.le_of_ble_eq_true rfl) (Nat.le_of_ble_eq_true rfl) rfl ?_
        refine X.lload_n 1 i204_0 rfl rfl rfl ?_
        refine X.lload_n 2 i204_1 rfl rfl rfl ?_
        refine X.lcmp 3 i204_2 rfl rfl (fun z512 hz512 => ?_)
        refine X.iflt 17 6 i204_3 rfl rfl rfl (fun h513 => ?_) (fun h513 => ?_)
        · have h513c : a2 < 4 := by omega
          clear h513 hz512
          refine X.cut [] i204_17 rfl ?_
          refine X.iconst 18 i204_17 rfl rfl (by decide) ?_
          refine X.retz i204_18 rfl t204 (by omega) ?_
          show X (EE s) d 202 30 [(0, zr 4 44), (1, zi a1), (2, zi a2)] [zi 0] m501 _
          refine X.ifeq 39 33 i202_30 rfl rfl rfl (fun h514 => ?_) (fun h514 => (by exfalso; omega))
          refine X.cut [] i202_39 rfl ?_
          refine X.iconst 40 i202_39 rfl rfl (by decide) ?_
          refine X.retz i202_40 rfl t202 (by omega) ?_
          exact hQ 0 m501 (by first | trivial | omega) (Eq.trans (zb_eq hFv503) (Eq.trans (if_pos h504) (Eq.trans (if_neg h506c) (Eq.trans (if_pos h509c) (Eq.trans (if_pos h513c) rfl))))) (hJ502.up (by omega)) 
        · have h513c : ¬ a2 < 4 := by omega
          clear h513 hz512
          refine X.lload_n 7 i204_6 rfl rfl rfl ?_
          refine X.lload 9 i204_7 rfl rfl rfl ?_
          refine X.lcmp 10 i204_9 rfl rfl (fun z515 hz515 => ?_)
          refine X.ifgt 17 13 i204_10 rfl rfl rfl (fun h516 => ?_) (fun h516 => ?_)
          · have h516c : ¬ a2 ≤ 16 := by omega
            clear h516 hz515
            refine X.cut [] i204_17 rfl ?_
            refine X.iconst 18 i204_17 rfl rfl (by decide) ?_
            refine X.retz i204_18 rfl t204 (by omega) ?_
            show X (EE s) d 202 30 [(0, zr 4 44), (1, zi a1), (2, zi a2)] [zi 0] m501 _
            refine X.ifeq 39 33 i202_30 rfl rfl rfl (fun h517 => ?_) (fun h517 => (by exfalso; omega))
            refine X.cut [] i202_39 rfl ?_
            refine X.iconst 40 i202_39 rfl rfl (by decide) ?_
            refine X.retz i202_40 rfl t202 (by omega) ?_
            exact hQ 0 m501 (by first | trivial | omega) (Eq.trans (zb_eq hFv503) (Eq.trans (if_pos h504) (Eq.trans (if_neg h506c) (Eq.trans (if_pos h509c) (Eq.trans (if_neg h513c) (Eq.trans (if_neg h516c) rfl)))))) (hJ502.up (by omega)) 
          · have h516c : a2 ≤ 16 := by omega
            clear h516 hz515
            refine X.iconst 14 i204_13 rfl rfl (by decide) ?_
            refine X.goto 18 i204_14 rfl rfl ?_
            refine X.cut [] i204_18 rfl ?_
            refine X.retz i204_18 rfl t204 (by omega) ?_
            show X (EE s) d 202 30 [(0, zr 4 44), (1, zi a1), (2, zi a2)] [zi 1] m501 _
            refine X.ifeq 39 33 i202_30 rfl rfl rfl (fun h518 => (by exfalso; omega)) (fun h518 => ?_)
            refine X.iload_n 34 i202_33 rfl rfl rfl ?_
            refine X.iconst 35 i202_34 rfl rfl (by decide) ?_
            refine X.irem 36 i202_35 rfl rfl (by omega) ?_
            refine X.ifeq 41 39 i202_36 rfl rfl rfl (fun h519 => ?_) (fun h519 => ?_)
            · refine X.aload_n 42 i202_41 rfl rfl rfl ?_
              refine X.getF 45 i202_42 rfl rfl (by decide) rfl rfl ?_
              refine X.iconst 46 i202_45 rfl rfl (by decide) ?_
              refine X.iload_n 47 i202_46 rfl rfl rfl ?_
              refine X.i2l 48 i202_47 rfl rfl ?_
              refine X.last' 49 i202_48 rfl rfl (by decide) rfl (by omega) (fun hrm520 m520 hm520 => ?_)
              have hJ521 := w45_1 hJ502 hm520 (by omega) hf22 hg4
              refine X.aload_n 50 i202_49 rfl rfl rfl ?_
              refine X.getF 53 i202_50 rfl rfl (by decide) rfl rfl ?_
              refine X.iconst 54 i202_53 rfl rfl (by decide) ?_
              refine X.iload_n 55 i202_54 rfl rfl rfl ?_
              refine X.i2l 56 i202_55 rfl rfl ?_
              refine X.last' 57 i202_56 rfl rfl (by decide) rfl (by omega) (fun hrm522 m522 hm522 => ?_)
              have hJ523 := w45_2 hJ521 hm522 (by omega) hf22 hg4
              refine X.aload_n 58 i202_57 rfl rfl rfl ?_
              refine X.getF 61 i202_58 rfl rfl (by decide) rfl rfl ?_
              refine X.iconst 62 i202_61 rfl rfl (by decide) ?_
              refine X.lconst (y := 0) 63 i202_62 rfl rfl rfl ?_
              refine X.last' 64 i202_63 rfl rfl (by decide) rfl (by omega) (fun hrm524 m524 hm524 => ?_)
              have hJ525 := w45_3 hJ523 hm524 (by omega) hf22 hg4
              refine X.bipush 66 i202_64 rfl rfl (by decide) ?_
              refine X.istore_n 67 [(0, zr 4 44), (1, zi a1), (2, zi a2), (3, zi 95)] i202_66 rfl rfl rfl ?_
              refine X.cut [(0, zr 4 44), (3, zi 95)] i202_67 rfl ?_
              have hz97 := zfu_eq 97
              refine l202_67_1 (s := s) (d := d) (R0 := (f202_1 a1 a2 m))    (BE := B + 0) (by omega) (by omega) hf22 hg4 (fun  m526 B527 hJ528 hBB527 hR529 => ?_) (zfu 97) 95 m524 (B) (hJ525.up (by omega)) (by omega) (by omega) (by omega) (Eq.trans (zb_eq hFv503) (Eq.trans (if_pos h504) (Eq.trans (if_neg h506c) (Eq.trans (if_pos h509c) (Eq.trans (if_neg h513c) (Eq.trans (if_pos h516c) (Eq.trans (if_pos h519) (Eq.trans (zs_eq hm520) (Eq.trans (zs_eq hm522) (Eq.trans (zs_eq hm524) rfl))))))))))
              refine X.iconst 88 i202_87 rfl rfl (by decide) ?_
              refine X.retz i202_88 rfl t202 (by omega) ?_
              exact hQ 1 m526 (by first | trivial | omega) (Eq.trans hR529 rfl) (hJ528.up (by omega)) 
            · refine X.cut [] i202_39 rfl ?_
              refine X.iconst 40 i202_39 rfl rfl (by decide) ?_
              refine X.retz i202_40 rfl t202 (by omega) ?_
              exact hQ 0 m501 (by first | trivial | omega) (Eq.trans (zb_eq hFv503) (Eq.trans (if_pos h504) (Eq.trans (if_neg h506c) (Eq.trans (if_pos h509c) (Eq.trans (if_neg h513c) (Eq.trans (if_pos h516c) (Eq.trans (if_neg h519) rfl))))))) (hJ502.up (by omega)) 
-- WorkMeter$Wave.addTo
noncomputable def f22_1 (g0 : Nat) (a1 a2 a3 : Int) (m : zM) : zM :=
  zn (w64 ((m g0 22 ((a1 * 4) + a2)) + a3)) fun z501 =>
  zs (z_upd m g0 22 ((a1 * 4) + a2) z501) fun m502 =>
  zn (w64 ((m502 g0 22 ((a1 * 4) + 3)) + a3)) fun z504 =>
  zs (z_upd m502 g0 22 ((a1 * 4) + 3) z504) fun m505 =>
  m505
-- WorkMeter$Wave.addTo
theorem c22_1 {s : Nat × (Nat → Int32)} {S : zS} {m0 m : zM} {B : Int} {d : Nat} {Q : Option zV → zM → Prop} (g0 : Nat) (a1 a2 a3 : Int) (hd : 13 ≤ d) (hJ : J S m0 B m) (hB : B + 0 ≤ 1000000000) (ha1 : 0 ≤ a1 ∧ a1 ≤ 0) (ha2 : 0 ≤ a2 ∧ a2 ≤ 2) (ha3 : (-250000) ≤ a3 ∧ a3 ≤ 250000) (hf2 : ¬ S.1 2) (hgg0 : ¬ S.2.1 g0) (hQ : ∀ m', f22_1 g0 a1 a2 a3 m = m' → J S m0 (B) m' → Q none m') : X (EE s) d 22 0 [(0, zr g0 19), (1, zi a1), (2, zi a2), (3, zi a3)] [] m Q := by
  refine X.aload_n 1 i22_0 rfl rfl rfl ?_
  refine X.getR 4 i22_1 rfl rfl (by decide) rfl rfl ?_
  refine X.iload_n 5 i22_4 rfl rfl rfl ?_
  refine X.iconst 6 i22_5 rfl rfl (by decide) ?_
  refine X.imul 7 i22_6 rfl rfl (by omega) ?_
  refine X.iload_n 8 i22_7 rfl rfl rfl ?_
  refine X.iadd 9 i22_8 rfl rfl (by omega) ?_
  refine X.dup2 10 i22_9 rfl rfl ?_
  refine X.lald 11 i22_10 rfl rfl (by decide) rfl (by omega) ?_
  refine X.iload_n 12 i22_11 rfl rfl rfl ?_
  refine X.i2l 13 i22_12 rfl rfl ?_
  refine X.laddW 14 i22_13 rfl rfl (fun z501 ez501 hz501 => ?_)
  refine X.last' 15 i22_14 rfl rfl (by decide) rfl (by omega) (fun hrm502 m502 hm502 => ?_)
  have hJ503 := w22_0 hJ hm502 (by omega) hrm502 hf2 hgg0
  refine X.aload_n 16 i22_15 rfl rfl rfl ?_
  refine X.getR 19 i22_16 rfl rfl (by decide) rfl rfl ?_
  refine X.iload_n 20 i22_19 rfl rfl rfl ?_
  refine X.iconst 21 i22_20 rfl rfl (by decide) ?_
  refine X.imul 22 i22_21 rfl rfl (by omega) ?_
  refine X.iconst 23 i22_22 rfl rfl (by decide) ?_
  refine X.iadd 24 i22_23 rfl rfl (by omega) ?_
  refine X.dup2 25 i22_24 rfl rfl ?_
  refine X.lald 26 i22_25 rfl rfl (by decide) rfl (by omega) ?_
  refine X.iload_n 27 i22_26 rfl rfl rfl ?_
  refine X.i2l 28 i22_27 rfl rfl ?_
  refine X.laddW 29 i22_28 rfl rfl (fun z504 ez504 hz504 => ?_)
  refine X.last' 30 i22_29 rfl rfl (by decide) rfl (by omega) (fun hrm505 m505 hm505 => ?_)
  have hJ506 := w22_0 hJ503 hm505 (by omega) hrm505 hf2 hgg0
  refine X.retv i22_30 rfl t22 ?_
  exact hQ  m505  (Eq.trans (zn_eq ez501) (Eq.trans (zs_eq hm502) (Eq.trans (zn_eq ez504) (Eq.trans (zs_eq hm505) rfl)))) (hJ506.up (by omega)) 
-- WorkMeter$Wave.addTo
theorem c22_2 {s : Nat × (Nat → Int32)} {S : zS} {m0 m : zM} {B : Int} {d : Nat} {Q : Option zV → zM → Prop} (g0 : Nat) (a1 a2 a3 : Int) (hd : 13 ≤ d) (hJ : J S m0 B m) (hB : B + 0 ≤ 1000000000) (ha1 : 1 ≤ a1 ∧ a1 ≤ 1) (ha2 : 0 ≤ a2 ∧ a2 ≤ 2) (ha3 : (-250000) ≤ a3 ∧ a3 ≤ 250000) (hf2 : ¬ S.1 2) (hgg0 : ¬ S.2.1 g0) (hQ : ∀ m', f22_1 g0 a1 a2 a3 m = m' → J S m0 (B) m' → Q none m') : X (EE s) d 22 0 [(0, zr g0 19), (1, zi a1), (2, zi a2), (3, zi a3)] [] m Q := by
  refine X.aload_n 1 i22_0 rfl rfl rfl ?_
  refine X.getR 4 i22_1 rfl rfl (by decide) rfl rfl ?_
  refine X.iload_n 5 i22_4 rfl rfl rfl ?_
  refine X.iconst 6 i22_5 rfl rfl (by decide) ?_
  refine X.imul 7 i22_6 rfl rfl (by omega) ?_
  refine X.iload_n 8 i22_7 rfl rfl rfl ?_
  refine X.iadd 9 i22_8 rfl rfl (by omega) ?_
  refine X.dup2 10 i22_9 rfl rfl ?_
  refine X.lald 11 i22_10 rfl rfl (by decide) rfl (by omega) ?_
  refine X.iload_n 12 i22_11 rfl rfl rfl ?_
  refine X.i2l 13 i22_12 rfl rfl ?_
  refine X.laddW 14 i22_13 rfl rfl (fun z501 ez501 hz501 => ?_)
  refine X.last' 15 i22_14 rfl rfl (by decide) rfl (by omega) (fun hrm502 m502 hm502 => ?_)
  have hJ503 := w22_0 hJ hm502 (by omega) hrm502 hf2 hgg0
  refine X.aload_n 16 i22_15 rfl rfl rfl ?_
  refine X.getR 19 i22_16 rfl rfl (by decide) rfl rfl ?_
  refine X.iload_n 20 i22_19 rfl rfl rfl ?_
  refine X.iconst 21 i22_20 rfl rfl (by decide) ?_
  refine X.imul 22 i22_21 rfl rfl (by omega) ?_
  refine X.iconst 23 i22_22 rfl rfl (by decide) ?_
  refine X.iadd 24 i22_23 rfl rfl (by omega) ?_
  refine X.dup2 25 i22_24 rfl rfl ?_
  refine X.lald 26 i22_25 rfl rfl (by decide) rfl (by omega) ?_
  refine X.iload_n 27 i22_26 rfl rfl rfl ?_
  refine X.i2l 28 i22_27 rfl rfl ?_
  refine X.laddW 29 i22_28 rfl rfl (fun z504 ez504 hz504 => ?_)
  refine X.last' 30 i22_29 rfl rfl (by decide) rfl (by omega) (fun hrm505 m505 hm505 => ?_)
  have hJ506 := w22_0 hJ503 hm505 (by omega) hrm505 hf2 hgg0
  refine X.retv i22_30 rfl t22 ?_
  exact hQ  m505  (Eq.trans (zn_eq ez501) (Eq.trans (zs_eq hm502) (Eq.trans (zn_eq ez504) (Eq.trans (zs_eq hm505) rfl)))) (hJ506.up (by omega)) 
-- WorkMeter$Wave.addTo
theorem c22_3 {s : Nat × (Nat → Int32)} {S : zS} {m0 m : zM} {B : Int} {d : Nat} {Q : Option zV → zM → Prop} (g0 : Nat) (a1 a2 a3 : Int) (hd : 13 ≤ d) (hJ : J S m0 B m) (hB : B + 0 ≤ 1000000000) (ha1 : 2 ≤ a1 ∧ a1 ≤ 2) (ha2 : 0 ≤ a2 ∧ a2 ≤ 2) (ha3 : 0 ≤ a3 ∧ a3 ≤ 250000) (hf2 : ¬ S.1 2) (hgg0 : ¬ S.2.1 g0) (hQ : ∀ m', f22_1 g0 a1 a2 a3 m = m' → J S m0 (B) m' → Q none m') : X (EE s) d 22 0 [(0, zr g0 19), (1, zi a1), (2, zi a2), (3, zi a3)] [] m Q := by
  refine X.aload_n 1 i22_0 rfl rfl rfl ?_
  refine X.getR 4 i22_1 rfl rfl (by decide) rfl rfl ?_
  refine X.iload_n 5 i22_4 rfl rfl rfl ?_
  refine X.iconst 6 i22_5 rfl rfl (by decide) ?_
  refine X.imul 7 i22_6 rfl rfl (by omega) ?_
  refine X.iload_n 8 i22_7 rfl rfl rfl ?_
  refine X.iadd 9 i22_8 rfl rfl (by omega) ?_
  refine X.dup2 10 i22_9 rfl rfl ?_
  refine X.lald 11 i22_10 rfl rfl (by decide) rfl (by omega) ?_
  refine X.iload_n 12 i22_11 rfl rfl rfl ?_
  refine X.i2l 13 i22_12 rfl rfl ?_
  refine X.laddW 14 i22_13 rfl rfl (fun z501 ez501 hz501 => ?_)
  refine X.last' 15 i22_14 rfl rfl (by decide) rfl (by omega) (fun hrm502 m502 hm502 => ?_)
  have hJ503 := w22_0 hJ hm502 (by omega) hrm502 hf2 hgg0
  refine X.aload_n 16 i22_15 rfl rfl rfl ?_
  refine X.getR 19 i22_16 rfl rfl (by decide) rfl rfl ?_
  refine X.iload_n 20 i22_19 rfl rfl rfl ?_
  refine X.iconst 21 i22_20 rfl rfl (by decide) ?_
  refine X.imul 22 i22_21 rfl rfl (by omega) ?_
  refine X.iconst 23 i22_22 rfl rfl (by decide) ?_
  refine X.iadd 24 i22_23 rfl rfl (by omega) ?_
  refine X.dup2 25 i22_24 rfl rfl ?_
  refine X.lald 26 i22_25 rfl rfl (by decide) rfl (by omega) ?_
  refine X.iload_n 27 i22_26 rfl rfl rfl ?_
  refine X.i2l 28 i22_27 rfl rfl ?_
  refine X.laddW 29 i22_28 rfl rfl (fun z504 ez504 hz504 => ?_)
  refine X.last' 30 i22_29 rfl rfl (by decide) rfl (by omega) (fun hrm505 m505 hm505 => ?_)
  have hJ506 := w22_0 hJ503 hm505 (by omega) hrm505 hf2 hgg0
  refine X.retv i22_30 rfl t22 ?_
  exact hQ  m505  (Eq.trans (zn_eq ez501) (Eq.trans (zs_eq hm502) (Eq.trans (zn_eq ez504) (Eq.trans (zs_eq hm505) rfl)))) (hJ506.up (by omega)) 
-- WorkMeter$Wave.addTo
theorem c22_4 {s : Nat × (Nat → Int32)} {S : zS} {m0 m : zM} {B : Int} {d : Nat} {Q : Option zV → zM → Prop} (g0 : Nat) (a1 a2 a3 : Int) (hd : 13 ≤ d) (hJ : J S m0 B m) (hB : B + 0 ≤ 1000000000) (ha1 : 3 ≤ a1 ∧ a1 ≤ 3) (ha2 : 0 ≤ a2 ∧ a2 ≤ 2) (ha3 : 0 ≤ a3 ∧ a3 ≤ 250000) (hf2 : ¬ S.1 2) (hgg0 : ¬ S.2.1 g0) (hQ : ∀ m', f22_1 g0 a1 a2 a3 m = m' → J S m0 (B) m' → Q none m') : X (EE s) d 22 0 [(0, zr g0 19), (1, zi a1), (2, zi a2), (3, zi a3)] [] m Q := by
  refine X.aload_n 1 i22_0 rfl rfl rfl ?_
  refine X.getR 4 i22_1 rfl rfl (by decide) rfl rfl ?_
  refine X.iload_n 5 i22_4 rfl rfl rfl ?_
  refine X.iconst 6 i22_5 rfl rfl (by decide) ?_
  refine X.imul 7 i22_6 rfl rfl (by omega) ?_
  refine X.iload_n 8 i22_7 rfl rfl rfl ?_
  refine X.iadd 9 i22_8 rfl rfl (by omega) ?_
  refine X.dup2 10 i22_9 rfl rfl ?_
  refine X.lald 11 i22_10 rfl rfl (by decide) rfl (by omega) ?_
  refine X.iload_n 12 i22_11 rfl rfl rfl ?_
  refine X.i2l 13 i22_12 rfl rfl ?_
  refine X.laddW 14 i22_13 rfl rfl (fun z501 ez501 hz501 => ?_)
  refine X.last' 15 i22_14 rfl rfl (by decide) rfl (by omega) (fun hrm502 m502 hm502 => ?_)
  have hJ503 := w22_0 hJ hm502 (by omega) hrm502 hf2 hgg0
  refine X.aload_n 16 i22_15 rfl rfl rfl ?_
  refine X.getR 19 i22_16 rfl rfl (by decide) rfl rfl ?_
  refine X.iload_n 20 i22_19 rfl rfl rfl ?_
  refine X.iconst 21 i22_20 rfl rfl (by decide) ?_
  refine X.imul 22 i22_21 rfl rfl (by omega) ?_
  refine X.iconst 23 i22_22 rfl rfl (by decide) ?_
  refine X.iadd 24 i22_23 rfl rfl (by omega) ?_
  refine X.dup2 25 i22_24 rfl rfl ?_
  refine X.lald 26 i22_25 rfl rfl (by decide) rfl (by omega) ?_
  refine X.iload_n 27 i22_26 rfl rfl rfl ?_
  refine X.i2l 28 i22_27 rfl rfl ?_
  refine X.laddW 29 i22_28 rfl rfl (fun z504 ez504 hz504 => ?_)
  refine X.last' 30 i22_29 rfl rfl (by decide) rfl (by omega) (fun hrm505 m505 hm505 => ?_)
  have hJ506 := w22_0 hJ503 hm505 (by omega) hrm505 hf2 hgg0
  refine X.retv i22_30 rfl t22 ?_
  exact hQ  m505  (Eq.trans (zn_eq ez501) (Eq.trans (zs_eq hm502) (Eq.trans (zn_eq ez504) (Eq.trans (zs_eq hm505) rfl)))) (hJ506.up (by omega)) 
noncomputable def fl21_37_1_b (self : Int → zM → zM) (k158 : zM → zM) (g0 : Nat) (y1 y2 y3 : Int) (y4 : Int) (m : zM) : zM :=
  if (m g0 19 3) ≤ y4 then
  (k158 m)
  else
  (zn ((y2 * (m g0 19 3))) fun z531 =>
  zn (((m g0 20 (z531 + y4)) * (m g0 21 (z531 + y4)))) fun z534 =>
  zs (f22_1 g0 0 y4 z534 m) fun m535 =>
  zn ((y3 * (m535 g0 19 3))) fun z540 =>
  zn (((m535 g0 20 (z531 + y4)) * (m535 g0 21 (z540 + y4)))) fun z542 =>
  zs (f22_1 g0 1 y4 z542 m535) fun m543 =>
  zn (((m543 g0 20 (z531 + y4)) * (m543 g0 20 (z531 + y4)))) fun z547 =>
  zs (f22_1 g0 2 y4 z547 m543) fun m548 =>
  zn (((m548 g0 21 (z531 + y4)) * (m548 g0 21 (z531 + y4)))) fun z552 =>
  zs (f22_1 g0 3 y4 z552 m548) fun m553 =>
  self (y4 + 1) m553)
noncomputable def fl21_37_1 (k158 : zM → zM) (g0 : Nat) (y1 y2 y3 : Int) : Nat → Int → zM → zM
  | 0 => fun y4 m => m
  | n + 1 => fl21_37_1_b (fl21_37_1 k158 g0 y1 y2 y3 n) k158 g0 y1 y2 y3
theorem l21_37_1 {s : Nat × (Nat → Int32)} {S : zS} {m0 : zM} {d : Nat} {Q : Option zV → zM → Prop} {R0 : zM} {k158 : zM → zM} (g0 : Nat) (y1 y2 y3 : Int) (BE : Int) (hE : BE ≤ 1000000000) (hd : 14 ≤ d) (hy1 : 1 ≤ y1 ∧ y1 ≤ 4) (hy2 : 0 ≤ y2 ∧ y2 ≤ 15) (hy3 : 0 ≤ y3 ∧ y3 ≤ 15) (hf2 : ¬ S.1 2) (hgg0 : ¬ S.2.1 g0)
    (K158 : ∀ (m' : zM) (B' : Int), J S m0 B' m' → B' ≤ BE → R0 = k158 m' → X (EE s) d 21 158 [(0, zr g0 19), (1, zi y1), (2, zi y2)] [] m' Q) :
    ∀ (n : Nat) (y4 : Int) (m : zM) (B : Int), J S m0 B m → B + 0 * (n : Int) ≤ BE → (0 ≤ y4 ∧ y4 ≤ 3) → 3 - y4 < (n : Int) → R0 = fl21_37_1 k158 g0 y1 y2 y3 n y4 m → X (EE s) d 21 37 [(0, zr g0 19), (1, zi y1), (2, zi y2), (3, zi y3), (4, zi y4)] [] m Q := by
  intro n
  induction n with
  | zero =>
    intro y4 m B hJ hB hy4 hn hR
    exfalso
    omega
  | succ n ih =>
    intro y4 m B hJ hB hy4 hn hR
    replace hR : R0 = fl21_37_1_b (fl21_37_1 k158 g0 y1 y2 y3 n) k158 g0 y1 y2 y3 y4 m := hR
    refine X.iload 39 i21_37 rfl rfl rfl ?_
    refine X.aload_n 40 i21_39 rfl rfl rfl ?_
    refine X.getI 43 3 i21_40 rfl rfl (by decide) rfl rfl rfl ?_
    have h529 := r19_3 hJ g0
    refine X.icmpge 158 46 i21_43 rfl rfl rfl (fun h530 => ?_) (fun h530 => ?_)
    · refine X.cut [(0, zr g0 19), (1, zi y1), (2, zi y2)] i21_158 rfl ?_
      exact K158  m (B) (hJ.up (by omega)) (by omega)  (Eq.trans hR (Eq.trans (if_pos h530) rfl))
    · refine X.iload_n 47 i21_46 rfl rfl rfl ?_
      refine X.aload_n 48 i21_47 rfl rfl rfl ?_
      refine X.getI 51 3 i21_48 rfl rfl (by decide) rfl rfl rfl ?_
      have hz531 := z_mulr (a := 0) (b := 15) (c := 1) (e := 3) (x := y2) (y := (m g0 19 3)) (by omega) (by omega)
      refine X.imul 52 i21_51 rfl rfl (z_in3 hz531 (by decide) (by decide)) ?_
      obtain ⟨z531, ez531⟩ : ∃ z, z = (y2 * (m g0 19 3)) := ⟨_, rfl⟩
      rw [← ez531] at hz531 ⊢
      have gz531 : 0 ≤ z531 ∧ z531 ≤ 45 := z_in3 hz531 (by decide) (by decide)
      clear hz531
      refine X.iload 54 i21_52 rfl rfl rfl ?_
      refine X.iadd 55 i21_54 rfl rfl (by omega) ?_
      refine X.istore 57 [(0, zr g0 19), (1, zi y1), (2, zi y2), (3, zi y3), (4, zi y4), (5, zi (z531 + y4))] i21_55 rfl rfl rfl ?_
      refine X.aload_n 58 i21_57 rfl rfl rfl ?_
      refine X.iconst 59 i21_58 rfl rfl (by decide) ?_
      refine X.iload 61 i21_59 rfl rfl rfl ?_
      refine X.aload_n 62 i21_61 rfl rfl rfl ?_
      refine X.getR 65 i21_62 rfl rfl (by decide) rfl rfl ?_
      refine X.iload 67 i21_65 rfl rfl rfl ?_
      refine X.iald 68 i21_67 rfl rfl (by decide) rfl (by omega) ?_
      have h532 := r20_0 hJ g0 (i := (z531 + y4)) (by omega)
      refine X.aload_n 69 i21_68 rfl rfl rfl ?_
      refine X.getR 72 i21_69 rfl rfl (by decide) rfl rfl ?_
      refine X.iload 74 i21_72 rfl rfl rfl ?_
      refine X.iald 75 i21_74 rfl rfl (by decide) rfl (by omega) ?_
      have h533 := r21_0 hJ g0 (i := (z531 + y4)) (by omega)
      have hz534 := z_mulr (a := (-500)) (b := 500) (c := (-500)) (e := 500) (x := (m g0 20 (z531 + y4))) (y := (m g0 21 (z531 + y4))) (by omega) (by omega)
      refine X.imul 76 i21_75 rfl rfl (z_in3 hz534 (by decide) (by decide)) ?_
      obtain ⟨z534, ez534⟩ : ∃ z, z = ((m g0 20 (z531 + y4)) * (m g0 21 (z531 + y4))) := ⟨_, rfl⟩
      rw [← ez534] at hz534 ⊢
      have gz534 : (-250000) ≤ z534 ∧ z534 ≤ 250000 := z_in3 hz534 (by decide) (by decide)
      clear hz534
      refine X.callv 79 [zi 0, zi y4, zi z534] [] [(0, zr g0 19), (1, zi 0), (2, zi y4), (3, zi z534)] i21_76 rfl (by decide) rfl rfl (by omega) rfl rfl (by decide) rfl t22 (Nat.le_of_ble_eq_true rfl) (Nat.le_of_ble_eq_true rfl) rfl ?_
      refine c22_1 (B := B) g0 0 y4 z534 (by omega) (hJ.up (by omega)) (by omega) (by omega) (by omega) (by omega) hf2 hgg0 (fun m535 hFv537 hJ536 => ?_)
      show X (EE s) d 21 79 [(0, zr g0 19), (1, zi y1), (2, zi y2), (3, zi y3), (4, zi y4), (5, zi (z531 + y4))] [] m535 _
      refine X.aload_n 80 i21_79 rfl rfl rfl ?_
      refine X.iconst 81 i21_80 rfl rfl (by decide) ?_
      refine X.iload 83 i21_81 rfl rfl rfl ?_
      refine X.aload_n 84 i21_83 rfl rfl rfl ?_
      refine X.getR 87 i21_84 rfl rfl (by decide) rfl rfl ?_
      refine X.iload 89 i21_87 rfl rfl rfl ?_
      refine X.iald 90 i21_89 rfl rfl (by decide) rfl (by omega) ?_
      have h538 := r20_0 hJ536 g0 (i := (z531 + y4)) (by omega)
      refine X.aload_n 91 i21_90 rfl rfl rfl ?_
      refine X.getR 94 i21_91 rfl rfl (by decide) rfl rfl ?_
      refine X.iload_n 95 i21_94 rfl rfl rfl ?_
      refine X.aload_n 96 i21_95 rfl rfl rfl ?_
      refine X.getI 99 3 i21_96 rfl rfl (by decide) rfl rfl rfl ?_
      have h539 := r19_3 hJ536 g0
      have hz540 := z_mulr (a := 0) (b := 15) (c := 1) (e := 3) (x := y3) (y := (m535 g0 19 3)) (by omega) (by omega)
      refine X.imul 100 i21_99 rfl rfl (z_in3 hz540 (by decide) (by decide)) ?_
      obtain ⟨z540, ez540⟩ : ∃ z, z = (y3 * (m535 g0 19 3)) := ⟨_, rfl⟩
      rw [← ez540] at hz540 ⊢
      have gz540 : 0 ≤ z540 ∧ z540 ≤ 45 := z_in3 hz540 (by decide) (by decide)
      clear hz540
      refine X.iload 102 i21_100 rfl rfl rfl ?_
      refine X.iadd 103 i21_102 rfl rfl (by omega) ?_
      refine X.iald 104 i21_103 rfl rfl (by decide) rfl (by omega) ?_
      have h541 := r21_0 hJ536 g0 (i := (z540 + y4)) (by omega)
      have hz542 := z_mulr (a := (-500)) (b := 500) (c := (-500)) (e := 500) (x := (m535 g0 20 (z531 + y4))) (y := (m535 g0 21 (z540 + y4))) (by omega) (by omega)
      refine X.imul 105 i21_104 rfl rfl (z_in3 hz542 (by decide) (by decide)) ?_
      obtain ⟨z542, ez542⟩ : ∃ z, z = ((m535 g0 20 (z531 + y4)) * (m535 g0 21 (z540 + y4))) := ⟨_, rfl⟩
      rw [← ez542] at hz542 ⊢
      have gz542 : (-250000) ≤ z542 ∧ z542 ≤ 250000 := z_in3 hz542 (by decide) (by decide)
      clear hz542
      refine X.callv 108 [zi 1, zi y4, zi z542] [] [(0, zr g0 19), (1, zi 1), (2, zi y4), (3, zi z542)] i21_105 rfl (by decide) rfl rfl (by omega) rfl rfl (by decide) rfl t22 (Nat.le_of_ble_eq_true rfl) (Nat.le_of_ble_eq_true rfl) rfl ?_
      refine c22_2 (B := B) g0 1 y4 z542 (by omega) (hJ536.up (by omega)) (by omega) (by omega) (by omega) (by omega) hf2 hgg0 (fun m543 hFv545 hJ544 => ?_)
      show X (EE s) d 21 108 [(0, zr g0 19), (1, zi y1), (2, zi y2), (3, zi y3), (4, zi y4), (5, zi (z531 + y4))] [] m543 _
      refine X.aload_n 109 i21_108 rfl rfl rfl ?_
      refine X.iconst 110 i21_109 rfl rfl (by decide) ?_
      refine X.iload 112 i21_110 rfl rfl rfl ?_
      refine X.aload_n 113 i21_112 rfl rfl rfl ?_
      refine X.getR 116 i21_113 rfl rfl (by decide) rfl rfl ?_
      refine X.iload 118 i21_116 rfl rfl rfl ?_
      refine X.iald 119 i21_118 rfl rfl (by decide) rfl (by omega) ?_
      have h546 := r20_0 hJ544 g0 (i := (z531 + y4)) (by omega)
      refine X.aload_n 120 i21_119 rfl rfl rfl ?_
      refine X.getR 123 i21_120 rfl rfl (by decide) rfl rfl ?_
      refine X.iload 125 i21_123 rfl rfl rfl ?_
      refine X.iald 126 i21_125 rfl rfl (by decide) rfl (by omega) ?_
      have hz547 := z_sqr (e := 500) (x := (m543 g0 20 (z531 + y4))) (by omega)
      refine X.imul 127 i21_126 rfl rfl (z_in3 hz547 (by decide) (by decide)) ?_
      obtain ⟨z547, ez547⟩ : ∃ z, z = ((m543 g0 20 (z531 + y4)) * (m543 g0 20 (z531 + y4))) := ⟨_, rfl⟩
      rw [← ez547] at hz547 ⊢
      have gz547 : 0 ≤ z547 ∧ z547 ≤ 250000 := z_in3 hz547 (by decide) (by decide)
      clear hz547
      refine X.callv 130 [zi 2, zi y4, zi z547] [] [(0, zr g0 19), (1, zi 2), (2, zi y4), (3, zi z547)] i21_127 rfl (by decide) rfl rfl (by omega) rfl rfl (by decide) rfl t22 (Nat.le_of_ble_eq_true rfl) (Nat.le_of_ble_eq_true rfl) rfl ?_
      refine c22_3 (B := B) g0 2 y4 z547 (by omega) (hJ544.up (by omega)) (by omega) (by omega) (by omega) (by omega) hf2 hgg0 (fun m548 hFv550 hJ549 => ?_)
      show X (EE s) d 21 130 [(0, zr g0 19), (1, zi y1), (2, zi y2), (3, zi y3), (4, zi y4), (5, zi (z531 + y4))] [] m548 _
      refine X.aload_n 131 i21_130 rfl rfl rfl ?_
      refine X.iconst 132 i21_131 rfl rfl (by decide) ?_
      refine X.iload 134 i21_132 rfl rfl rfl ?_
      refine X.aload_n 135 i21_134 rfl rfl rfl ?_
      refine X.getR 138 i21_135 rfl rfl (by decide) rfl rfl ?_
      refine X.iload 140 i21_138 rfl rfl rfl ?_
      refine X.iald 141 i21_140 rfl rfl (by decide) rfl (by omega) ?_
      have h551 := r21_0 hJ549 g0 (i := (z531 + y4)) (by omega)
      refine X.aload_n 142 i21_141 rfl rfl rfl ?_
      refine X.getR 145 i21_142 rfl rfl (by decide) rfl rfl ?_
      refine X.iload 147 i21_145 rfl rfl rfl ?_
      refine X.iald 148 i21_147 rfl rfl (by decide) rfl (by omega) ?_
      have hz552 := z_sqr (e := 500) (x := (m548 g0 21 (z531 + y4))) (by omega)
      refine X.imul 149 i21_148 rfl rfl (z_in3 hz552 (by decide) (by decide)) ?_
      obtain ⟨z552, ez552⟩ : ∃ z, z = ((m548 g0 21 (z531 + y4)) * (m548 g0 21 (z531 + y4))) := ⟨_, rfl⟩
      rw [← ez552] at hz552 ⊢
      have gz552 : 0 ≤ z552 ∧ z552 ≤ 250000 := z_in3 hz552 (by decide) (by decide)
      clear hz552
      refine X.callv 152 [zi 3, zi y4, zi z552] [] [(0, zr g0 19), (1, zi 3), (2, zi y4), (3, zi z552)] i21_149 rfl (by decide) rfl rfl (by omega) rfl rfl (by decide) rfl t22 (Nat.le_of_ble_eq_true rfl) (Nat.le_of_ble_eq_true rfl) rfl ?_
      refine c22_4 (B := B) g0 3 y4 z552 (by omega) (hJ549.up (by omega)) (by omega) (by omega) (by omega) (by omega) hf2 hgg0 (fun m553 hFv555 hJ554 => ?_)
      show X (EE s) d 21 152 [(0, zr g0 19), (1, zi y1), (2, zi y2), (3, zi y3), (4, zi y4), (5, zi (z531 + y4))] [] m553 _
      refine X.iinc 155 [(0, zr g0 19), (1, zi y1), (2, zi y2), (3, zi y3), (4, zi (y4 + 1)), (5, zi (z531 + y4))] i21_152 rfl rfl rfl (by omega) rfl ?_
      refine X.goto 37 i21_155 rfl rfl ?_
      refine X.cut [(0, zr g0 19), (1, zi y1), (2, zi y2), (3, zi y3), (4, zi (y4 + 1))] i21_37 rfl ?_
      exact ih (y4 + 1) m553 (B) (hJ554.up (by omega)) (by omega) (by omega) (by omega) (Eq.trans hR (Eq.trans (if_neg h530) (Eq.trans (zn_eq ez531) (Eq.trans (zn_eq ez534) (Eq.trans (zs_eq hFv537.symm) (Eq.trans (zn_eq ez540) (Eq.trans (zn_eq ez542) (Eq.trans (zs_eq hFv545.symm) (Eq.trans (zn_eq ez547) (Eq.trans (zs_eq hFv550.symm) (Eq.trans (zn_eq ez552) (Eq.trans (zs_eq hFv555.symm) rfl))))))))))))
noncomputable def fl21_17_1_b (self : Int → zM → zM) (k164 : zM → zM) (g0 : Nat) (y1 : Int) (y2 : Int) (m : zM) : zM :=
  if (m g0 19 4) ≤ y2 then
  (k164 m)
  else
  (zn (((y2 + y1) % (m g0 19 4))) fun z511 =>
  fl21_37_1 (fun m512 =>
  self (y2 + 1) m512) g0 y1 y2 z511 (zfu 4) 0 m)
noncomputable def fl21_17_1 (k164 : zM → zM) (g0 : Nat) (y1 : Int) : Nat → Int → zM → zM
  | 0 => fun y2 m => m
  | n + 1 => fl21_17_1_b (fl21_17_1 k164 g0 y1 n) k164 g0 y1
theorem l21_17_1 {s : Nat × (Nat → Int32)} {S : zS} {m0 : zM} {d : Nat} {Q : Option zV → zM → Prop} {R0 : zM} {k164 : zM → zM} (g0 : Nat) (y1 : Int) (BE : Int) (hE : BE ≤ 1000000000) (hd : 14 ≤ d) (hy1 : 1 ≤ y1 ∧ y1 ≤ 4) (hf2 : ¬ S.1 2) (hgg0 : ¬ S.2.1 g0)
    (K164 : ∀ (m' : zM) (B' : Int), J S m0 B' m' → B' ≤ BE → R0 = k164 m' → X (EE s) d 21 164 [(0, zr g0 19)] [] m' Q) :
    ∀ (n : Nat) (y2 : Int) (m : zM) (B : Int), J S m0 B m → B + 0 * (n : Int) ≤ BE → (0 ≤ y2 ∧ y2 ≤ 16) → 16 - y2 < (n : Int) → R0 = fl21_17_1 k164 g0 y1 n y2 m → X (EE s) d 21 17 [(0, zr g0 19), (1, zi y1), (2, zi y2)] [] m Q := by
  intro n
  induction n with
  | zero =>
    intro y2 m B hJ hB hy2 hn hR
    exfalso
    omega
  | succ n ih =>
    intro y2 m B hJ hB hy2 hn hR
    replace hR : R0 = fl21_17_1_b (fl21_17_1 k164 g0 y1 n) k164 g0 y1 y2 m := hR
    refine X.iload_n 18 i21_17 rfl rfl rfl ?_
    refine X.aload_n 19 i21_18 rfl rfl rfl ?_
    refine X.getI 22 4 i21_19 rfl rfl (by decide) rfl rfl rfl ?_
    have h509 := r19_4 hJ g0
    refine X.icmpge 164 25 i21_22 rfl rfl rfl (fun h510 => ?_) (fun h510 => ?_)
    · refine X.cut [(0, zr g0 19)] i21_164 rfl ?_
      exact K164  m (B) (hJ.up (by omega)) (by omega)  (Eq.trans hR (Eq.trans (if_pos h510) rfl))
    · refine X.iload_n 26 i21_25 rfl rfl rfl ?_
      refine X.iload_n 27 i21_26 rfl rfl rfl ?_
      refine X.iadd 28 i21_27 rfl rfl (by omega) ?_
      refine X.aload_n 29 i21_28 rfl rfl rfl ?_
      refine X.getI 32 4 i21_29 rfl rfl (by decide) rfl rfl rfl ?_
      refine X.irem 33 i21_32 rfl rfl (by omega) ?_
      have hz511 := z_modb (x := (y2 + y1)) (y := (m g0 19 4)) (by omega) (by omega)
      obtain ⟨z511, ez511⟩ : ∃ z, z = ((y2 + y1) % (m g0 19 4)) := ⟨_, rfl⟩
      rw [← ez511] at hz511 ⊢
      refine X.istore_n 34 [(0, zr g0 19), (1, zi y1), (2, zi y2), (3, zi z511)] i21_33 rfl rfl rfl ?_
      refine X.iconst 35 i21_34 rfl rfl (by decide) ?_
      refine X.istore 37 [(0, zr g0 19), (1, zi y1), (2, zi y2), (3, zi z511), (4, zi 0)] i21_35 rfl rfl rfl ?_
      have hz4 := zfu_eq 4
      refine l21_37_1 (s := s) (d := d) g0 y1 y2 z511  (BE := B + 0) (by omega) (by omega) (by omega) (by omega) (by omega) hf2 hgg0 (fun  m512 B513 hJ514 hBB513 hR515 => ?_) (zfu 4) 0 m (B) (hJ.up (by omega)) (by omega) (by omega) (by omega) (Eq.trans hR (Eq.trans (if_neg h510) (Eq.trans (zn_eq ez511) rfl)))
      refine X.iinc 161 [(0, zr g0 19), (1, zi y1), (2, zi (y2 + 1))] i21_158 rfl rfl rfl (by omega) rfl ?_
      refine X.goto 17 i21_161 rfl rfl ?_
      exact ih (y2 + 1) m512 (B513) (hJ514.up (by omega)) (by omega) (by omega) (by omega) (Eq.trans hR515 rfl)
noncomputable def fl24_6_1_b (self : Int → Int → Int) (k38 : Int → Int) (y0 : Int) (m : zM) (y2 y4 : Int) : Int :=
  if y4 < 0 then
  (k38 y2)
  else
  (zn (zshlL 1 y4) fun z523 =>
  zn (w64 (y2 + z523)) fun z524 =>
  zn (w64 (z524 * z524)) fun z525 =>
  zn (if z525 ≤ y0 then
  (z524)
  else
  (y2)) fun v528 =>
  self v528 (y4 + (-1)))
noncomputable def fl24_6_1 (k38 : Int → Int) (y0 : Int) (m : zM) : Nat → Int → Int → Int
  | 0 => fun y2 y4 => 0
  | n + 1 => fl24_6_1_b (fl24_6_1 k38 y0 m n) k38 y0 m
theorem l24_6_1 {s : Nat × (Nat → Int32)} {S : zS} {m0 : zM} {m : zM} {B : Int} {d : Nat} {Q : Option zV → zM → Prop} {R0 : Int} {k38 : Int → Int} (y0 : Int) (hd : 13 ≤ d) (hJ : J S m0 B m) (hB9 : B ≤ 1000000000)
    (K38 : ∀ (x2 : Int) , (True) → R0 = k38 x2 → X (EE s) d 24 38 [(2, zl x2)] [] m Q) :
    ∀ (n : Nat) (y2 y4 : Int) , ((-1) ≤ y4 ∧ y4 ≤ 25) → y4 - (-1) < (n : Int) → R0 = fl24_6_1 k38 y0 m n y2 y4 → X (EE s) d 24 6 [(0, zl y0), (2, zl y2), (4, zi y4)] [] m Q := by
  intro n
  induction n with
  | zero =>
    intro y2 y4 hy4 hn hR
    exfalso
    omega
  | succ n ih =>
    intro y2 y4 hy4 hn hR
    replace hR : R0 = fl24_6_1_b (fl24_6_1 k38 y0 m n) k38 y0 m y2 y4 := hR
    refine X.iload 8 i24_6 rfl rfl rfl ?_
    refine X.iflt 38 11 i24_8 rfl rfl rfl (fun h522 => ?_) (fun h522 => ?_)
    · refine X.cut [(2, zl y2)] i24_38 rfl ?_
      exact K38 y2 (by first | trivial | omega) (Eq.trans hR (Eq.trans (if_pos h522) rfl))
    · refine X.lload_n 12 i24_11 rfl rfl rfl ?_
      refine X.lconst (y := 1) 13 i24_12 rfl rfl rfl ?_
      refine X.iload 15 i24_13 rfl rfl rfl ?_
      refine X.lshlE 16 i24_15 rfl rfl (fun z523 ez523 hz523 => ?_)
      refine X.laddW 17 i24_16 rfl rfl (fun z524 ez524 hz524 => ?_)
      refine X.lstore 19 [(0, zl y0), (2, zl y2), (4, zi y4), (5, zl z524)] i24_17 rfl rfl rfl ?_
      refine X.lload 21 i24_19 rfl rfl rfl ?_
      refine X.lload 23 i24_21 rfl rfl rfl ?_
      refine X.lmulW 24 i24_23 rfl rfl (fun z525 ez525 hz525 => ?_)
      refine X.lload_n 25 i24_24 rfl rfl rfl ?_
      refine X.lcmp 26 i24_25 rfl rfl (fun z526 hz526 => ?_)
      have hK531 : ∀ (v : Int) , (True) → (if z525 ≤ y0 then
          (z524)
          else
          (y2)) = v → X (EE s) d 24 32 [(0, zl y0), (2, zl v), (4, zi y4)] [] m Q := by
        intro v528 hv528 hT532
        refine X.iinc 35 [(0, zl y0), (2, zl v528), (4, zi (y4 + (-1)))] i24_32 rfl rfl rfl (by omega) rfl ?_
        refine X.goto 6 i24_35 rfl rfl ?_
        exact ih v528 (y4 + (-1)) (by omega) (by omega) (Eq.trans hR (Eq.trans (if_neg h522) (Eq.trans (zn_eq ez523) (Eq.trans (zn_eq ez524) (Eq.trans (zn_eq ez525) (Eq.trans (zn_eq hT532.symm) rfl))))))
      refine X.ifgt 32 29 i24_26 rfl rfl rfl (fun h527 => ?_) (fun h527 => ?_)
      · have h527c : ¬ z525 ≤ y0 := by omega
        clear h527 hz526
        refine X.cut [(0, zl y0), (2, zl y2), (4, zi y4)] i24_32 rfl ?_
        exact hK531 y2 (by first | trivial | omega) (Eq.trans (if_neg h527c) rfl)
      · have h527c : z525 ≤ y0 := by omega
        clear h527 hz526
        refine X.lload 31 i24_29 rfl rfl rfl ?_
        refine X.lstore_n 32 [(0, zl y0), (2, zl z524), (4, zi y4), (5, zl z524)] i24_31 rfl rfl rfl ?_
        refine X.cut [(0, zl y0), (2, zl z524), (4, zi y4)] i24_32 rfl ?_
        exact hK531 z524 (by first | trivial | omega) (Eq.trans (if_pos h527c) rfl)
-- WorkMeter$Wave.wholeRoot
noncomputable def f24_1 (a0 : Int) (m : zM) : Int :=
  fl24_6_1 (fun y501 =>
  y501) a0 m (zfu 27) 0 25
-- WorkMeter$Wave.wholeRoot
theorem c24_1 {s : Nat × (Nat → Int32)} {S : zS} {m0 m : zM} {B : Int} {d : Nat} {Q : Option zV → zM → Prop} (a0 : Int) (hd : 13 ≤ d) (hJ : J S m0 B m) (hB : B + 0 ≤ 1000000000) (hQ : ∀ (v : Int), (True) → f24_1 a0 m = v → Q (some (zl v)) m) : X (EE s) d 24 0 [(0, zl a0)] [] m Q := by
  refine X.lconst (y := 0) 1 i24_0 rfl rfl rfl ?_
  refine X.lstore_n 2 [(0, zl a0), (2, zl 0)] i24_1 rfl rfl rfl ?_
  refine X.bipush 4 i24_2 rfl rfl (by decide) ?_
  refine X.istore 6 [(0, zl a0), (2, zl 0), (4, zi 25)] i24_4 rfl rfl rfl ?_
  have hz27 := zfu_eq 27
  refine l24_6_1 (s := s) (m := m) (B := B) (d := d) (R0 := (f24_1 a0 m))  a0  (by omega) (hJ.up (by omega)) (by omega) (fun y501 hby501 hR505 => ?_) (zfu 27) 0 25 (by omega) (by omega) rfl
  refine X.lload_n 39 i24_38 rfl rfl rfl ?_
  refine X.retl i24_39 rfl t24 ?_
  exact hQ y501 (by first | trivial | omega) (Eq.trans hR505 rfl) 
-- WorkMeter$Wave.apparentOf
noncomputable def f23_1 (g0 : Nat) (a1 : Int) (m : zM) : Int :=
  zn (w64 ((m g0 22 (0 + a1)) * (m g0 22 (0 + a1)))) fun z501 =>
  zn (w64 ((m g0 22 (4 + a1)) * (m g0 22 (4 + a1)))) fun z502 =>
  zn (w64 (z501 + z502)) fun z503 =>
  zn (f24_1 z503 m) fun v506 =>
  v506
-- WorkMeter$Wave.apparentOf
theorem c23_1 {s : Nat × (Nat → Int32)} {S : zS} {m0 m : zM} {B : Int} {d : Nat} {Q : Option zV → zM → Prop} (g0 : Nat) (a1 : Int) (hd : 14 ≤ d) (hJ : J S m0 B m) (hB : B + 0 ≤ 1000000000) (ha1 : 3 ≤ a1 ∧ a1 ≤ 3) (hQ : ∀ (v : Int), (True) → f23_1 g0 a1 m = v → Q (some (zl v)) m) : X (EE s) d 23 0 [(0, zr g0 19), (1, zi a1)] [] m Q := by
  refine X.aload_n 1 i23_0 rfl rfl rfl ?_
  refine X.getR 4 i23_1 rfl rfl (by decide) rfl rfl ?_
  refine X.iconst 5 i23_4 rfl rfl (by decide) ?_
  refine X.iload_n 6 i23_5 rfl rfl rfl ?_
  refine X.iadd 7 i23_6 rfl rfl (by omega) ?_
  refine X.lald 8 i23_7 rfl rfl (by decide) rfl (by omega) ?_
  refine X.lstore_n 9 [(0, zr g0 19), (1, zi a1), (2, zl (m g0 22 (0 + a1)))] i23_8 rfl rfl rfl ?_
  refine X.aload_n 10 i23_9 rfl rfl rfl ?_
  refine X.getR 13 i23_10 rfl rfl (by decide) rfl rfl ?_
  refine X.iconst 14 i23_13 rfl rfl (by decide) ?_
  refine X.iload_n 15 i23_14 rfl rfl rfl ?_
  refine X.iadd 16 i23_15 rfl rfl (by omega) ?_
  refine X.lald 17 i23_16 rfl rfl (by decide) rfl (by omega) ?_
  refine X.lstore 19 [(0, zr g0 19), (1, zi a1), (2, zl (m g0 22 (0 + a1))), (4, zl (m g0 22 (4 + a1)))] i23_17 rfl rfl rfl ?_
  refine X.lload_n 20 i23_19 rfl rfl rfl ?_
  refine X.lload_n 21 i23_20 rfl rfl rfl ?_
  refine X.lmulW 22 i23_21 rfl rfl (fun z501 ez501 hz501 => ?_)
  refine X.lload 24 i23_22 rfl rfl rfl ?_
  refine X.lload 26 i23_24 rfl rfl rfl ?_
  refine X.lmulW 27 i23_26 rfl rfl (fun z502 ez502 hz502 => ?_)
  refine X.laddW 28 i23_27 rfl rfl (fun z503 ez503 hz503 => ?_)
  refine X.calls 31 [zl z503] [] [(0, zl z503)] i23_28 (by decide) rfl rfl (by omega) rfl rfl t24 (Nat.le_of_ble_eq_true rfl) (Nat.le_of_ble_eq_true rfl) rfl ?_
  refine c24_1 (B := B)  z503 (by omega) (hJ.up (by omega)) (by omega)  (fun v506 hv506 hFv506 => ?_)
  show X (EE s) d 23 31 [(0, zr g0 19), (1, zi a1), (2, zl (m g0 22 (0 + a1))), (4, zl (m g0 22 (4 + a1)))] [zl v506] m _
  refine X.retl i23_31 rfl t23 ?_
  exact hQ v506 (by first | trivial | omega) (Eq.trans (zn_eq ez501) (Eq.trans (zn_eq ez502) (Eq.trans (zn_eq ez503) (Eq.trans (zn_eq hFv506.symm) rfl)))) 
-- WorkMeter$Wave.sumUp
noncomputable def f21_1 (g0 : Nat) (m : zM) : zM :=
  zs (f11_1 g0 0 m) fun m501 =>
  fl21_17_1 (fun m505 =>
  zn (f23_1 g0 3 m505) fun v511 =>
  zs (z_upd m505 g0 19 6 v511) fun m512 =>
  m512) g0 ((m501 g0 19 4) / 4) (zfu 17) 0 m501
-- WorkMeter$Wave.sumUp
theorem c21_1 {s : Nat × (Nat → Int32)} {S : zS} {m0 m : zM} {B : Int} {d : Nat} {Q : Option zV → zM → Prop} (g0 : Nat) (hd : 15 ≤ d) (hJ : J S m0 B m) (hB : B + 0 ≤ 1000000000) (hf2 : ¬ S.1 2) (hgg0 : ¬ S.2.1 g0) (hQ : ∀ m', f21_1 g0 m = m' → J S m0 (B) m' → Q none m') : X (EE s) d 21 0 [(0, zr g0 19)] [] m Q := by
  refine X.aload_n 1 i21_0 rfl rfl rfl ?_
  refine X.getR 4 i21_1 rfl rfl (by decide) rfl rfl ?_
  refine X.lconst (y := 0) 5 i21_4 rfl rfl rfl ?_
  refine X.calls 8 [zr g0 22, zl 0] [] [(0, zr g0 22), (1, zl 0)] i21_5 (by decide) rfl rfl (by omega) rfl rfl t11 (Nat.le_of_ble_eq_true rfl) (Nat.le_of_ble_eq_true rfl) rfl ?_
  refine c11_1 (B := B) g0 0 (by omega) (hJ.up (by omega)) (by omega) (by omega) hf2 hgg0 (fun m501 hFv503 hJ502 => ?_)
  show X (EE s) d 21 8 [(0, zr g0 19)] [] m501 _
  refine X.aload_n 9 i21_8 rfl rfl rfl ?_
  refine X.getI 12 4 i21_9 rfl rfl (by decide) rfl rfl rfl ?_
  have h504 := r19_4 hJ502 g0
  refine X.iconst 13 i21_12 rfl rfl (by decide) ?_
  refine X.idiv 14 i21_13 rfl rfl (by omega) ?_
  refine X.istore_n 15 [(0, zr g0 19), (1, zi ((m501 g0 19 4) / 4))] i21_14 rfl rfl rfl ?_
  refine X.iconst 16 i21_15 rfl rfl (by decide) ?_
  refine X.istore_n 17 [(0, zr g0 19), (1, zi ((m501 g0 19 4) / 4)), (2, zi 0)] i21_16 rfl rfl rfl ?_
  have hz17 := zfu_eq 17
  refine l21_17_1 (s := s) (d := d) (R0 := (f21_1 g0 m)) g0 ((m501 g0 19 4) / 4)  (BE := B + 0) (by omega) (by omega) (by omega) hf2 hgg0 (fun  m505 B506 hJ507 hBB506 hR508 => ?_) (zfu 17) 0 m501 (B) (hJ502.up (by omega)) (by omega) (by omega) (by omega) (Eq.trans (zs_eq hFv503.symm) rfl)
  refine X.aload_n 165 i21_164 rfl rfl rfl ?_
  refine X.aload_n 166 i21_165 rfl rfl rfl ?_
  refine X.iconst 167 i21_166 rfl rfl (by decide) ?_
  refine X.callv 170 [zi 3] [zr g0 19] [(0, zr g0 19), (1, zi 3)] i21_167 rfl (by decide) rfl rfl (by omega) rfl rfl (by decide) rfl t23 (Nat.le_of_ble_eq_true rfl) (Nat.le_of_ble_eq_true rfl) rfl ?_
  refine c23_1 (B := B506) g0 3 (by omega) (hJ507.up (by omega)) (by omega) (by omega) (fun v511 hv511 hFv511 => ?_)
  show X (EE s) d 21 170 [(0, zr g0 19)] [zl v511, zr g0 19] m505 _
  refine X.putL' 173 6 i21_170 rfl rfl (by decide) rfl rfl rfl (fun hrm512 m512 hm512 => ?_)
  have hJ513 := w19_6 hJ507 hm512 hrm512 hf2 hgg0
  refine X.retv i21_173 rfl t21 ?_
  exact hQ  m512  (Eq.trans hR508 (Eq.trans (zn_eq hFv511.symm) (Eq.trans (zs_eq hm512) rfl))) (hJ513.up (by omega)) 
-- WorkMeter$Wave.takeSample
noncomputable def f20_1 (g0 : Nat) (a1 a2 : Int) (m : zM) : Int × zM :=
  zs (z_upd m g0 20 (m g0 19 5) a1) fun m502 =>
  zs (z_upd m502 g0 21 (m502 g0 19 5) a2) fun m505 =>
  zs (z_upd m505 g0 19 5 ((m505 g0 19 5) + 1)) fun m508 =>
  zn (((m508 g0 19 3) * (m508 g0 19 4))) fun z510 =>
  if z510 ≤ (m508 g0 19 5) then
  (zs (z_upd m508 g0 19 5 0) fun m512 =>
  zs (f21_1 g0 m512) fun m514 =>
  (1, m514))
  else
  ((0, m508))
-- WorkMeter$Wave.takeSample
theorem c20_1 {s : Nat × (Nat → Int32)} {S : zS} {m0 m : zM} {B : Int} {d : Nat} {Q : Option zV → zM → Prop} (g0 : Nat) (a1 a2 : Int) (hd : 16 ≤ d) (hJ : J S m0 B m) (hB : B + 0 ≤ 1000000000) (ha1 : (-500) ≤ a1 ∧ a1 ≤ 500) (ha2 : (-500) ≤ a2 ∧ a2 ≤ 500) (hf2 : ¬ S.1 2) (hgg0 : ¬ S.2.1 g0) (hQ : ∀ (v : Int) m', (0 ≤ v ∧ v ≤ 1) → f20_1 g0 a1 a2 m = (v, m') → J S m0 (B) m' → Q (some (zi v)) m') : X (EE s) d 20 0 [(0, zr g0 19), (1, zi a1), (2, zi a2)] [] m Q := by
  refine X.aload_n 1 i20_0 rfl rfl rfl ?_
  refine X.getR 4 i20_1 rfl rfl (by decide) rfl rfl ?_
  refine X.aload_n 5 i20_4 rfl rfl rfl ?_
  refine X.getI 8 5 i20_5 rfl rfl (by decide) rfl rfl rfl ?_
  have h501 := r19_5 hJ g0
  refine X.iload_n 9 i20_8 rfl rfl rfl ?_
  refine X.iast' 10 i20_9 rfl rfl (by decide) rfl (by omega) (fun hrm502 m502 hm502 => ?_)
  have hJ503 := w20_0 hJ hm502 (by omega) (by omega) hf2 hgg0
  refine X.aload_n 11 i20_10 rfl rfl rfl ?_
  refine X.getR 14 i20_11 rfl rfl (by decide) rfl rfl ?_
  refine X.aload_n 15 i20_14 rfl rfl rfl ?_
  refine X.getI 18 5 i20_15 rfl rfl (by decide) rfl rfl rfl ?_
  have h504 := r19_5 hJ503 g0
  refine X.iload_n 19 i20_18 rfl rfl rfl ?_
  refine X.iast' 20 i20_19 rfl rfl (by decide) rfl (by omega) (fun hrm505 m505 hm505 => ?_)
  have hJ506 := w21_0 hJ503 hm505 (by omega) (by omega) hf2 hgg0
  refine X.aload_n 21 i20_20 rfl rfl rfl ?_
  refine X.dup 22 i20_21 rfl rfl rfl ?_
  refine X.getI 25 5 i20_22 rfl rfl (by decide) rfl rfl rfl ?_
  have h507 := r19_5 hJ506 g0
  refine X.iconst 26 i20_25 rfl rfl (by decide) ?_
  refine X.iadd 27 i20_26 rfl rfl (by omega) ?_
  refine X.putI' 30 5 i20_27 rfl rfl (by decide) rfl rfl rfl (fun hrm508 m508 hm508 => ?_)
  have em508 : m508 g0 19 5 = ((m505 g0 19 5) + 1) := by rw [hm508]; exact z_upd_same _ _ _ _ _
  have qm508_3 : m508 g0 19 3 = m505 g0 19 3 := by rw [hm508]; exact z_upd_o _ _ rfl
  have qqm508_3 := r19_3 hJ506 g0
  have qm508_4 : m508 g0 19 4 = m505 g0 19 4 := by rw [hm508]; exact z_upd_o _ _ rfl
  have qqm508_4 := r19_4 hJ506 g0
  refine X.aload_n 31 i20_30 rfl rfl rfl ?_
  refine X.getI 34 5 i20_31 rfl rfl (by decide) rfl rfl rfl ?_
  refine X.aload_n 35 i20_34 rfl rfl rfl ?_
  refine X.getI 38 3 i20_35 rfl rfl (by decide) rfl rfl rfl ?_
  refine X.aload_n 39 i20_38 rfl rfl rfl ?_
  refine X.getI 42 4 i20_39 rfl rfl (by decide) rfl rfl rfl ?_
  have hz510 := z_mulr (a := 1) (b := 3) (c := 4) (e := 16) (x := (m508 g0 19 3)) (y := (m508 g0 19 4)) (by omega) (by omega)
  refine X.imul 43 i20_42 rfl rfl (z_in3 hz510 (by decide) (by decide)) ?_
  obtain ⟨z510, ez510⟩ : ∃ z, z = ((m508 g0 19 3) * (m508 g0 19 4)) := ⟨_, rfl⟩
  rw [← ez510] at hz510 ⊢
  have gz510 : 4 ≤ z510 ∧ z510 ≤ 48 := z_in3 hz510 (by decide) (by decide)
  clear hz510
  refine X.icmpge 48 46 i20_43 rfl rfl rfl (fun h511 => ?_) (fun h511 => ?_)
  · refine X.cut [(0, zr g0 19)] i20_48 rfl ?_
    refine X.aload_n 49 i20_48 rfl rfl rfl ?_
    refine X.iconst 50 i20_49 rfl rfl (by decide) ?_
    refine X.putI' 53 5 i20_50 rfl rfl (by decide) rfl rfl rfl (fun hrm512 m512 hm512 => ?_)
    have hJ513 := w19_5 (x := 0) hJ506 (show m512 = z_upd m505 g0 19 5 0 by rw [hm512, hm508]; exact z_upd_upd _ _ _ _ _ _) (by omega) hf2 hgg0
    have em512 : m512 g0 19 5 = 0 := by rw [hm512]; exact z_upd_same _ _ _ _ _
    refine X.aload_n 54 i20_53 rfl rfl rfl ?_
    refine X.callv 57 [] [] [(0, zr g0 19)] i20_54 rfl (by decide) rfl rfl (by omega) rfl rfl (by decide) rfl t21 (Nat.le_of_ble_eq_true rfl) (Nat.le_of_ble_eq_true rfl) rfl ?_
    refine c21_1 (B := B) g0  (by omega) (hJ513.up (by omega)) (by omega)  hf2 hgg0 (fun m514 hFv516 hJ515 => ?_)
    show X (EE s) d 20 57 [(0, zr g0 19)] [] m514 _
    refine X.iconst 58 i20_57 rfl rfl (by decide) ?_
    refine X.retz i20_58 rfl t20 (by omega) ?_
    exact hQ 1 m514 (by first | trivial | omega) (Eq.trans (zs_eq hm502) (Eq.trans (zs_eq hm505) (Eq.trans (zs_eq hm508) (Eq.trans (zn_eq ez510) (Eq.trans (if_pos h511) (Eq.trans (zs_eq hm512) (Eq.trans (zs_eq hFv516.symm) rfl))))))) (hJ515.up (by omega)) 
  · refine X.iconst 47 i20_46 rfl rfl (by decide) ?_
    have hJ517 := w19_5 hJ506 hm508 (by omega) hf2 hgg0
    refine X.retz i20_47 rfl t20 (by omega) ?_
    exact hQ 0 m508 (by first | trivial | omega) (Eq.trans (zs_eq hm502) (Eq.trans (zs_eq hm505) (Eq.trans (zs_eq hm508) (Eq.trans (zn_eq ez510) (Eq.trans (if_neg h511) rfl))))) (hJ517.up (by omega)) 
noncomputable def fl29_2_1_b (self : Int → Int) (k20 : Int → Int) (k28 : Int) (g0 : Nat) (y1 : Int) (m : zM) (y2 : Int) : Int :=
  if (m g0 11 7) ≤ y2 then
  (k28)
  else
  (if (m g0 17 y2) = y1 then
  (k20 y2)
  else
  (self (y2 + 1)))
noncomputable def fl29_2_1 (k20 : Int → Int) (k28 : Int) (g0 : Nat) (y1 : Int) (m : zM) : Nat → Int → Int
  | 0 => fun y2 => 0
  | n + 1 => fl29_2_1_b (fl29_2_1 k20 k28 g0 y1 m n) k20 k28 g0 y1 m
theorem l29_2_1 {s : Nat × (Nat → Int32)} {S : zS} {m0 : zM} {m : zM} {B : Int} {d : Nat} {Q : Option zV → zM → Prop} {R0 : Int} {k20 : Int → Int} {k28 : Int} (g0 : Nat) (y1 : Int) (hd : 13 ≤ d) (hJ : J S m0 B m) (hB9 : B ≤ 1000000000) (hy1 : 0 ≤ y1 ∧ y1 ≤ 364)
    (K20 : ∀ (x2 : Int) , (0 ≤ x2 ∧ x2 ≤ 15) → (x2 < m g0 11 7) → R0 = k20 x2 → X (EE s) d 29 20 [(0, zr g0 11), (1, zi y1), (2, zi x2)] [] m Q)
    (K28 : R0 = k28 → X (EE s) d 29 28 [] [] m Q) :
    ∀ (n : Nat) (y2 : Int) , (0 ≤ y2 ∧ y2 ≤ 16) → 16 - y2 < (n : Int) → R0 = fl29_2_1 k20 k28 g0 y1 m n y2 → X (EE s) d 29 2 [(0, zr g0 11), (1, zi y1), (2, zi y2)] [] m Q := by
  intro n
  induction n with
  | zero =>
    intro y2 hy2 hn hR
    exfalso
    omega
  | succ n ih =>
    intro y2 hy2 hn hR
    replace hR : R0 = fl29_2_1_b (fl29_2_1 k20 k28 g0 y1 m n) k20 k28 g0 y1 m y2 := hR
    refine X.iload_n 3 i29_2 rfl rfl rfl ?_
    refine X.aload_n 4 i29_3 rfl rfl rfl ?_
    refine X.getI 7 7 i29_4 rfl rfl (by decide) rfl rfl rfl ?_
    have h506 := r11_7 hJ g0
    refine X.icmpge 28 10 i29_7 rfl rfl rfl (fun h507 => ?_) (fun h507 => ?_)
    · refine X.cut [] i29_28 rfl ?_
      exact K28   (Eq.trans hR (Eq.trans (if_pos h507) rfl))
    · refine X.aload_n 11 i29_10 rfl rfl rfl ?_
      refine X.getR 14 i29_11 rfl rfl (by decide) rfl rfl ?_
      refine X.iload_n 15 i29_14 rfl rfl rfl ?_
      refine X.iald 16 i29_15 rfl rfl (by decide) rfl (by omega) ?_
      have h508 := r17_0 hJ g0 (i := y2) (by omega)
      refine X.iload_n 17 i29_16 rfl rfl rfl ?_
      refine X.icmpne 22 20 i29_17 rfl rfl rfl (fun h509 => ?_) (fun h509 => ?_)
      · refine X.iinc 25 [(0, zr g0 11), (1, zi y1), (2, zi (y2 + 1))] i29_22 rfl rfl rfl (by omega) rfl ?_
        refine X.goto 2 i29_25 rfl rfl ?_
        exact ih (y2 + 1) (by omega) (by omega) (Eq.trans hR (Eq.trans (if_neg h507) (Eq.trans (if_neg h509) rfl)))
      · exact K20 y2 (by first | trivial | omega) (by omega) (Eq.trans hR (Eq.trans (if_neg h507) (Eq.trans (if_pos h509) rfl)))
-- WorkMeter$Calendar.specialPlace
noncomputable def f29_1 (g0 : Nat) (a1 : Int) (m : zM) : Int :=
  fl29_2_1 (fun y501 =>
  y501) ((-1)) g0 a1 m (zfu 17) 0
-- WorkMeter$Calendar.specialPlace
theorem c29_1 {s : Nat × (Nat → Int32)} {S : zS} {m0 m : zM} {B : Int} {d : Nat} {Q : Option zV → zM → Prop} (g0 : Nat) (a1 : Int) (hd : 13 ≤ d) (hJ : J S m0 B m) (hB : B + 0 ≤ 1000000000) (ha1 : 0 ≤ a1 ∧ a1 ≤ 364) (hQ : ∀ (v : Int), ((-1) ≤ v ∧ v ≤ 15) → f29_1 g0 a1 m = v → (v < m g0 11 7) → Q (some (zi v)) m) : X (EE s) d 29 0 [(0, zr g0 11), (1, zi a1)] [] m Q := by
  have f0 := r11_7 hJ g0
  refine X.iconst 1 i29_0 rfl rfl (by decide) ?_
  refine X.istore_n 2 [(0, zr g0 11), (1, zi a1), (2, zi 0)] i29_1 rfl rfl rfl ?_
  have hz17 := zfu_eq 17
  refine l29_2_1 (s := s) (m := m) (B := B) (d := d) (R0 := (f29_1 g0 a1 m)) g0 a1  (by omega) (hJ.up (by omega)) (by omega) (by omega) (fun y501 hby501 hrlm502_0 hR505 => ?_) (fun  hR509 => ?_) (zfu 17) 0 (by omega) (by omega) rfl
  · refine X.iload_n 21 i29_20 rfl rfl rfl ?_
    refine X.reti i29_21 rfl t29 ?_
    exact hQ y501 (by first | trivial | omega) (Eq.trans hR505 rfl) (by omega)
  · refine X.iconst 29 i29_28 rfl rfl (by decide) ?_
    refine X.reti i29_29 rfl t29 ?_
    exact hQ (-1) (by first | trivial | omega) (Eq.trans hR509 rfl) (by omega)
noncomputable def fl30_7_1_b (self : Int → Int → Int → Int) (k87 : Int → Int → Int) (g0 : Nat) (y1 : Int) (m : zM) (y2 y3 y4 : Int) : Int :=
  if 4 ≤ y4 then
  (k87 y2 y3)
  else
  (if (m g0 15 y4) = (-1) then
  (self y2 y3 (y4 + 1))
  else
  (zn (if y1 < (m g0 15 y4) then
  (y2)
  else
  (if y2 = (-1) then
  (y4)
  else
  (if (m g0 15 y4) ≤ (m g0 15 y2) then
  (y2)
  else
  (y4)))) fun v544 =>
  zn (if (m g0 15 y4) ≤ (m g0 15 y3) then
  (y3)
  else
  (y4)) fun v551 =>
  self v544 v551 (y4 + 1)))
noncomputable def fl30_7_1 (k87 : Int → Int → Int) (g0 : Nat) (y1 : Int) (m : zM) : Nat → Int → Int → Int → Int
  | 0 => fun y2 y3 y4 => 0
  | n + 1 => fl30_7_1_b (fl30_7_1 k87 g0 y1 m n) k87 g0 y1 m
theorem l30_7_1 {s : Nat × (Nat → Int32)} {S : zS} {m0 : zM} {m : zM} {B : Int} {d : Nat} {Q : Option zV → zM → Prop} {R0 : Int} {k87 : Int → Int → Int} (g0 : Nat) (y1 : Int) (hd : 13 ≤ d) (hJ : J S m0 B m) (hB9 : B ≤ 1000000000) (hy1 : 0 ≤ y1 ∧ y1 ≤ 364)
    (K87 : ∀ (x2 x3 : Int) , ((-1) ≤ x2 ∧ x2 ≤ 3) → (0 ≤ x3 ∧ x3 ≤ 3) → R0 = k87 x2 x3 → X (EE s) d 30 87 [(2, zi x2), (3, zi x3)] [] m Q) :
    ∀ (n : Nat) (y2 y3 y4 : Int) , ((-1) ≤ y2 ∧ y2 ≤ 3) → (0 ≤ y3 ∧ y3 ≤ 3) → (0 ≤ y4 ∧ y4 ≤ 4) → 4 - y4 < (n : Int) → R0 = fl30_7_1 k87 g0 y1 m n y2 y3 y4 → X (EE s) d 30 7 [(0, zr g0 11), (1, zi y1), (2, zi y2), (3, zi y3), (4, zi y4)] [] m Q := by
  intro n
  induction n with
  | zero =>
    intro y2 y3 y4 hy2 hy3 hy4 hn hR
    exfalso
    omega
  | succ n ih =>
    intro y2 y3 y4 hy2 hy3 hy4 hn hR
    replace hR : R0 = fl30_7_1_b (fl30_7_1 k87 g0 y1 m n) k87 g0 y1 m y2 y3 y4 := hR
    refine X.iload 9 i30_7 rfl rfl rfl ?_
    refine X.iconst 10 i30_9 rfl rfl (by decide) ?_
    refine X.icmpge 87 13 i30_10 rfl rfl rfl (fun h537 => ?_) (fun h537 => ?_)
    · refine X.cut [(2, zi y2), (3, zi y3)] i30_87 rfl ?_
      exact K87 y2 y3 (by first | trivial | omega) (by first | trivial | omega) (Eq.trans hR (Eq.trans (if_pos h537) rfl))
    · refine X.aload_n 14 i30_13 rfl rfl rfl ?_
      refine X.getR 17 i30_14 rfl rfl (by decide) rfl rfl ?_
      refine X.iload 19 i30_17 rfl rfl rfl ?_
      refine X.iald 20 i30_19 rfl rfl (by decide) rfl (by omega) ?_
      have h538 := r15_0 hJ g0 (i := y4) (by omega)
      refine X.iconst 21 i30_20 rfl rfl (by decide) ?_
      refine X.icmpne 27 24 i30_21 rfl rfl rfl (fun h539 => ?_) (fun h539 => ?_)
      · refine X.aload_n 28 i30_27 rfl rfl rfl ?_
        refine X.getR 31 i30_28 rfl rfl (by decide) rfl rfl ?_
        refine X.iload 33 i30_31 rfl rfl rfl ?_
        refine X.iald 34 i30_33 rfl rfl (by decide) rfl (by omega) ?_
        refine X.iload_n 35 i30_34 rfl rfl rfl ?_
        have hK547 : ∀ (v : Int) , ((-1) ≤ v ∧ v ≤ 3) → (if y1 < (m g0 15 y4) then
            (y2)
            else
            (if y2 = (-1) then
            (y4)
            else
            (if (m g0 15 y4) ≤ (m g0 15 y2) then
            (y2)
            else
            (y4)))) = v → X (EE s) d 30 62 [(0, zr g0 11), (1, zi y1), (2, zi v), (3, zi y3), (4, zi y4)] [] m Q := by
          intro v544 hv544 hT548
          refine X.aload_n 63 i30_62 rfl rfl rfl ?_
          refine X.getR 66 i30_63 rfl rfl (by decide) rfl rfl ?_
          refine X.iload 68 i30_66 rfl rfl rfl ?_
          refine X.iald 69 i30_68 rfl rfl (by decide) rfl (by omega) ?_
          refine X.aload_n 70 i30_69 rfl rfl rfl ?_
          refine X.getR 73 i30_70 rfl rfl (by decide) rfl rfl ?_
          refine X.iload_n 74 i30_73 rfl rfl rfl ?_
          refine X.iald 75 i30_74 rfl rfl (by decide) rfl (by omega) ?_
          have h549 := r15_0 hJ g0 (i := y3) (by omega)
          have hK554 : ∀ (v : Int) , (0 ≤ v ∧ v ≤ 3) → (if (m g0 15 y4) ≤ (m g0 15 y3) then
              (y3)
              else
              (y4)) = v → X (EE s) d 30 81 [(0, zr g0 11), (1, zi y1), (2, zi v544), (3, zi v), (4, zi y4)] [] m Q := by
            intro v551 hv551 hT555
            refine X.iinc 84 [(0, zr g0 11), (1, zi y1), (2, zi v544), (3, zi v551), (4, zi (y4 + 1))] i30_81 rfl rfl rfl (by omega) rfl ?_
            refine X.goto 7 i30_84 rfl rfl ?_
            exact ih v544 v551 (y4 + 1) (by omega) (by omega) (by omega) (by omega) (Eq.trans hR (Eq.trans (if_neg h537) (Eq.trans (if_neg h539) (Eq.trans (zn_eq hT548.symm) (Eq.trans (zn_eq hT555.symm) rfl)))))
          refine X.icmple 81 78 i30_75 rfl rfl rfl (fun h550 => ?_) (fun h550 => ?_)
          · exact hK554 y3 (by first | trivial | omega) (Eq.trans (if_pos h550) rfl)
          · refine X.iload 80 i30_78 rfl rfl rfl ?_
            refine X.istore_n 81 [(0, zr g0 11), (1, zi y1), (2, zi v544), (3, zi y4), (4, zi y4)] i30_80 rfl rfl rfl ?_
            exact hK554 y4 (by first | trivial | omega) (Eq.trans (if_neg h550) rfl)
        refine X.icmpgt 62 38 i30_35 rfl rfl rfl (fun h540 => ?_) (fun h540 => ?_)
        · exact hK547 y2 (by first | trivial | omega) (Eq.trans (if_pos h540) rfl)
        · refine X.iload_n 39 i30_38 rfl rfl rfl ?_
          refine X.iconst 40 i30_39 rfl rfl (by decide) ?_
          refine X.icmpeq 59 43 i30_40 rfl rfl rfl (fun h541 => ?_) (fun h541 => ?_)
          · refine X.cut [(0, zr g0 11), (1, zi y1), (3, zi y3), (4, zi y4)] i30_59 rfl ?_
            refine X.iload 61 i30_59 rfl rfl rfl ?_
            refine X.istore_n 62 [(0, zr g0 11), (1, zi y1), (2, zi y4), (3, zi y3), (4, zi y4)] i30_61 rfl rfl rfl ?_
            exact hK547 y4 (by first | trivial | omega) (Eq.trans (if_neg h540) (Eq.trans (if_pos h541) rfl))
          · refine X.aload_n 44 i30_43 rfl rfl rfl ?_
            refine X.getR 47 i30_44 rfl rfl (by decide) rfl rfl ?_
            refine X.iload 49 i30_47 rfl rfl rfl ?_
            refine X.iald 50 i30_49 rfl rfl (by decide) rfl (by omega) ?_
            refine X.aload_n 51 i30_50 rfl rfl rfl ?_
            refine X.getR 54 i30_51 rfl rfl (by decide) rfl rfl ?_
            refine X.iload_n 55 i30_54 rfl rfl rfl ?_
            refine X.iald 56 i30_55 rfl rfl (by decide) rfl (by omega) ?_
            have h542 := r15_0 hJ g0 (i := y2) (by omega)
            refine X.icmple 62 59 i30_56 rfl rfl rfl (fun h543 => ?_) (fun h543 => ?_)
            · exact hK547 y2 (by first | trivial | omega) (Eq.trans (if_neg h540) (Eq.trans (if_neg h541) (Eq.trans (if_pos h543) rfl)))
            · refine X.cut [(0, zr g0 11), (1, zi y1), (3, zi y3), (4, zi y4)] i30_59 rfl ?_
              refine X.iload 61 i30_59 rfl rfl rfl ?_
              refine X.istore_n 62 [(0, zr g0 11), (1, zi y1), (2, zi y4), (3, zi y3), (4, zi y4)] i30_61 rfl rfl rfl ?_
              exact hK547 y4 (by first | trivial | omega) (Eq.trans (if_neg h540) (Eq.trans (if_neg h541) (Eq.trans (if_neg h543) rfl)))
      · refine X.goto 81 i30_24 rfl rfl ?_
        refine X.iinc 84 [(0, zr g0 11), (1, zi y1), (2, zi y2), (3, zi y3), (4, zi (y4 + 1))] i30_81 rfl rfl rfl (by omega) rfl ?_
        refine X.goto 7 i30_84 rfl rfl ?_
        exact ih y2 y3 (y4 + 1) (by omega) (by omega) (by omega) (by omega) (Eq.trans hR (Eq.trans (if_neg h537) (Eq.trans (if_pos h539) rfl)))
-- WorkMeter$Calendar.seasonOf
noncomputable def f30_1 (g0 : Nat) (a1 : Int) (m : zM) : Int :=
  fl30_7_1 (fun y501 y502 =>
  zn (if y501 = (-1) then
  (y502)
  else
  (y501)) fun v508 =>
  v508) g0 a1 m (zfu 5) (-1) 0 0
-- WorkMeter$Calendar.seasonOf
theorem c30_1 {s : Nat × (Nat → Int32)} {S : zS} {m0 m : zM} {B : Int} {d : Nat} {Q : Option zV → zM → Prop} (g0 : Nat) (a1 : Int) (hd : 13 ≤ d) (hJ : J S m0 B m) (hB : B + 0 ≤ 1000000000) (ha1 : 0 ≤ a1 ∧ a1 ≤ 364) (hQ : ∀ (v : Int), (0 ≤ v ∧ v ≤ 3) → f30_1 g0 a1 m = v → Q (some (zi v)) m) : X (EE s) d 30 0 [(0, zr g0 11), (1, zi a1)] [] m Q := by
  refine X.iconst 1 i30_0 rfl rfl (by decide) ?_
  refine X.istore_n 2 [(0, zr g0 11), (1, zi a1), (2, zi (-1))] i30_1 rfl rfl rfl ?_
  refine X.iconst 3 i30_2 rfl rfl (by decide) ?_
  refine X.istore_n 4 [(0, zr g0 11), (1, zi a1), (2, zi (-1)), (3, zi 0)] i30_3 rfl rfl rfl ?_
  refine X.iconst 5 i30_4 rfl rfl (by decide) ?_
  refine X.istore 7 [(0, zr g0 11), (1, zi a1), (2, zi (-1)), (3, zi 0), (4, zi 0)] i30_5 rfl rfl rfl ?_
  have hz5 := zfu_eq 5
  refine l30_7_1 (s := s) (m := m) (B := B) (d := d) (R0 := (f30_1 g0 a1 m)) g0 a1  (by omega) (hJ.up (by omega)) (by omega) (by omega) (fun y501 y502 hby501 hby502 hR506 => ?_) (zfu 5) (-1) 0 0 (by omega) (by omega) (by omega) (by omega) rfl
  refine X.iload_n 88 i30_87 rfl rfl rfl ?_
  refine X.iconst 89 i30_88 rfl rfl (by decide) ?_
  have hK511 : ∀ (v : Int) , (0 ≤ v ∧ v ≤ 3) → (if y501 = (-1) then
      (y502)
      else
      (y501)) = v → X (EE s) d 30 97 [] [zi v] m Q := by
    intro v508 hv508 hT512
    refine X.reti i30_97 rfl t30 ?_
    exact hQ v508 (by first | trivial | omega) (Eq.trans hR506 (Eq.trans (zn_eq hT512.symm) rfl)) 
  refine X.icmpne 96 92 i30_89 rfl rfl rfl (fun h507 => ?_) (fun h507 => ?_)
  · refine X.cut [(2, zi y501)] i30_96 rfl ?_
    refine X.iload_n 97 i30_96 rfl rfl rfl ?_
    refine X.cut [] i30_97 rfl ?_
    exact hK511 y501 (by first | trivial | omega) (Eq.trans (if_neg h507) rfl)
  · refine X.iload_n 93 i30_92 rfl rfl rfl ?_
    refine X.goto 97 i30_93 rfl rfl ?_
    refine X.cut [] i30_97 rfl ?_
    exact hK511 y502 (by first | trivial | omega) (Eq.trans (if_pos h507) rfl)
-- WorkMeter$Calendar.tableFor
noncomputable def f28_1 (g0 : Nat) (a1 : Int) (m : zM) : Int :=
  zn (f29_1 g0 (a1 % 365) m) fun v503 =>
  if v503 = (-1) then
  (zn (f30_1 g0 (a1 % 365) m) fun v507 =>
  (m g0 16 ((v507 * 7) + (a1 % 7))))
  else
  ((m g0 18 v503))
-- WorkMeter$Calendar.tableFor
theorem c28_1 {s : Nat × (Nat → Int32)} {S : zS} {m0 m : zM} {B : Int} {d : Nat} {Q : Option zV → zM → Prop} (g0 : Nat) (a1 : Int) (hd : 14 ≤ d) (hJ : J S m0 B m) (hB : B + 0 ≤ 1000000000) (ha1 : 0 ≤ a1 ∧ a1 ≤ 23150) (hQ : ∀ (v : Int), (0 ≤ v ∧ v ≤ 7) → f28_1 g0 a1 m = v → Q (some (zi v)) m) : X (EE s) d 28 0 [(0, zr g0 11), (1, zi a1)] [] m Q := by
  refine X.aload_n 1 i28_0 rfl rfl rfl ?_
  refine X.iload_n 2 i28_1 rfl rfl rfl ?_
  refine X.sipush 5 i28_2 rfl rfl (by decide) ?_
  refine X.irem 6 i28_5 rfl rfl (by omega) ?_
  refine X.callv 9 [zi (a1 % 365)] [] [(0, zr g0 11), (1, zi (a1 % 365))] i28_6 rfl (by decide) rfl rfl (by omega) rfl rfl (by decide) rfl t29 (Nat.le_of_ble_eq_true rfl) (Nat.le_of_ble_eq_true rfl) rfl ?_
  refine c29_1 (B := B) g0 (a1 % 365) (by omega) (hJ.up (by omega)) (by omega) (by omega) (fun v503 hv503 hFv503 hqv503_0 => ?_)
  show X (EE s) d 28 9 [(0, zr g0 11), (1, zi a1)] [zi v503] m _
  refine X.istore_n 10 [(0, zr g0 11), (1, zi a1), (2, zi v503)] i28_9 rfl rfl rfl ?_
  refine X.iload_n 11 i28_10 rfl rfl rfl ?_
  refine X.iconst 12 i28_11 rfl rfl (by decide) ?_
  refine X.icmpeq 22 15 i28_12 rfl rfl rfl (fun h504 => ?_) (fun h504 => ?_)
  · refine X.cut [(0, zr g0 11), (1, zi a1)] i28_22 rfl ?_
    refine X.aload_n 23 i28_22 rfl rfl rfl ?_
    refine X.getR 26 i28_23 rfl rfl (by decide) rfl rfl ?_
    refine X.aload_n 27 i28_26 rfl rfl rfl ?_
    refine X.iload_n 28 i28_27 rfl rfl rfl ?_
    refine X.sipush 31 i28_28 rfl rfl (by decide) ?_
    refine X.irem 32 i28_31 rfl rfl (by omega) ?_
    refine X.callv 35 [zi (a1 % 365)] [zr g0 16] [(0, zr g0 11), (1, zi (a1 % 365))] i28_32 rfl (by decide) rfl rfl (by omega) rfl rfl (by decide) rfl t30 (Nat.le_of_ble_eq_true rfl) (Nat.le_of_ble_eq_true rfl) rfl ?_
    refine c30_1 (B := B) g0 (a1 % 365) (by omega) (hJ.up (by omega)) (by omega) (by omega) (fun v507 hv507 hFv507 => ?_)
    show X (EE s) d 28 35 [(0, zr g0 11), (1, zi a1)] [zi v507, zr g0 16] m _
    refine X.bipush 37 i28_35 rfl rfl (by decide) ?_
    refine X.imul 38 i28_37 rfl rfl (by omega) ?_
    refine X.iload_n 39 i28_38 rfl rfl rfl ?_
    refine X.bipush 41 i28_39 rfl rfl (by decide) ?_
    refine X.irem 42 i28_41 rfl rfl (by omega) ?_
    refine X.iadd 43 i28_42 rfl rfl (by omega) ?_
    refine X.iald 44 i28_43 rfl rfl (by decide) rfl (by omega) ?_
    have h508 := r16_0 hJ g0 (i := ((v507 * 7) + (a1 % 7))) (by omega)
    refine X.reti i28_44 rfl t28 ?_
    exact hQ (m g0 16 ((v507 * 7) + (a1 % 7))) (by first | trivial | omega) (Eq.trans (zn_eq hFv503.symm) (Eq.trans (if_pos h504) (Eq.trans (zn_eq hFv507.symm) rfl))) 
  · refine X.aload_n 16 i28_15 rfl rfl rfl ?_
    refine X.getR 19 i28_16 rfl rfl (by decide) rfl rfl ?_
    refine X.iload_n 20 i28_19 rfl rfl rfl ?_
    refine X.iald 21 i28_20 rfl rfl (by decide) rfl (by omega) ?_
    have h509 := r18_0 hJ g0 (i := v503) (by omega)
    refine X.reti i28_21 rfl t28 ?_
    exact hQ (m g0 18 v503) (by first | trivial | omega) (Eq.trans (zn_eq hFv503.symm) (Eq.trans (if_neg h504) rfl)) 
noncomputable def fl32_8_1_b (self : Int → Int) (k38 : Int → Int) (g0 : Nat) (y1 y2 y3 : Int) (m : zM) (y4 : Int) : Int :=
  if (m g0 12 y1) ≤ y4 then
  (k38 y4)
  else
  (if y2 ≤ (m g0 13 (y3 + y4)) then
  (k38 y4)
  else
  (self (y4 + 1)))
noncomputable def fl32_8_1 (k38 : Int → Int) (g0 : Nat) (y1 y2 y3 : Int) (m : zM) : Nat → Int → Int
  | 0 => fun y4 => 0
  | n + 1 => fl32_8_1_b (fl32_8_1 k38 g0 y1 y2 y3 m n) k38 g0 y1 y2 y3 m
theorem l32_8_1 {s : Nat × (Nat → Int32)} {S : zS} {m0 : zM} {m : zM} {B : Int} {d : Nat} {Q : Option zV → zM → Prop} {R0 : Int} {k38 : Int → Int} (g0 : Nat) (y1 y2 y3 : Int) (hd : 13 ≤ d) (hJ : J S m0 B m) (hB9 : B ≤ 1000000000) (hy1 : 0 ≤ y1 ∧ y1 ≤ 7) (hy2 : (-2147483648) ≤ y2 ∧ y2 ≤ 2147483647) (hy3 : 0 ≤ y3 ∧ y3 ≤ 42)
    (K38 : ∀ (x4 : Int) , (0 ≤ x4 ∧ x4 ≤ 6) → (x4 ≤ m g0 12 y1) → (x4 ≤ m g0 12 y1) → (x4 < m g0 12 y1 → y2 ≤ m g0 13 (y3 + x4)) → R0 = k38 x4 → X (EE s) d 32 38 [(4, zi x4)] [] m Q) :
    ∀ (n : Nat) (y4 : Int) , (0 ≤ y4 ∧ y4 ≤ 6) → (y4 ≤ m g0 12 y1) → 6 - y4 < (n : Int) → R0 = fl32_8_1 k38 g0 y1 y2 y3 m n y4 → X (EE s) d 32 8 [(0, zr g0 11), (1, zi y1), (2, zi y2), (3, zi y3), (4, zi y4)] [] m Q := by
  intro n
  induction n with
  | zero =>
    intro y4 hy4 hr0 hn hR
    exfalso
    omega
  | succ n ih =>
    intro y4 hy4 hr0 hn hR
    replace hR : R0 = fl32_8_1_b (fl32_8_1 k38 g0 y1 y2 y3 m n) k38 g0 y1 y2 y3 m y4 := hR
    refine X.iload 10 i32_8 rfl rfl rfl ?_
    refine X.aload_n 11 i32_10 rfl rfl rfl ?_
    refine X.getR 14 i32_11 rfl rfl (by decide) rfl rfl ?_
    refine X.iload_n 15 i32_14 rfl rfl rfl ?_
    refine X.iald 16 i32_15 rfl rfl (by decide) rfl (by omega) ?_
    have h506 := r12_0 hJ g0 (i := y1) (by omega)
    refine X.icmpge 38 19 i32_16 rfl rfl rfl (fun h507 => ?_) (fun h507 => ?_)
    · refine X.cut [(4, zi y4)] i32_38 rfl ?_
      exact K38 y4 (by first | trivial | omega) (by omega) (by omega) (by omega) (Eq.trans hR (Eq.trans (if_pos h507) rfl))
    · refine X.aload_n 20 i32_19 rfl rfl rfl ?_
      refine X.getR 23 i32_20 rfl rfl (by decide) rfl rfl ?_
      refine X.iload_n 24 i32_23 rfl rfl rfl ?_
      refine X.iload 26 i32_24 rfl rfl rfl ?_
      refine X.iadd 27 i32_26 rfl rfl (by omega) ?_
      refine X.iald 28 i32_27 rfl rfl (by decide) rfl (by omega) ?_
      have h508 := r13_0 hJ g0 (i := (y3 + y4)) (by omega)
      refine X.iload_n 29 i32_28 rfl rfl rfl ?_
      refine X.icmpge 38 32 i32_29 rfl rfl rfl (fun h509 => ?_) (fun h509 => ?_)
      · refine X.cut [(4, zi y4)] i32_38 rfl ?_
        exact K38 y4 (by first | trivial | omega) (by omega) (by omega) (by omega) (Eq.trans hR (Eq.trans (if_neg h507) (Eq.trans (if_pos h509) rfl)))
      · refine X.iinc 35 [(0, zr g0 11), (1, zi y1), (2, zi y2), (3, zi y3), (4, zi (y4 + 1))] i32_32 rfl rfl rfl (by omega) rfl ?_
        refine X.goto 8 i32_35 rfl rfl ?_
        exact ih (y4 + 1) (by omega) (by omega) (by omega) (Eq.trans hR (Eq.trans (if_neg h507) (Eq.trans (if_neg h509) rfl)))
-- WorkMeter$Calendar.switchesBefore
noncomputable def f32_1 (g0 : Nat) (a1 a2 : Int) (m : zM) : Int :=
  fl32_8_1 (fun y501 =>
  y501) g0 a1 a2 (a1 * 6) m (zfu 7) 0
-- WorkMeter$Calendar.switchesBefore
theorem c32_1 {s : Nat × (Nat → Int32)} {S : zS} {m0 m : zM} {B : Int} {d : Nat} {Q : Option zV → zM → Prop} (g0 : Nat) (a1 a2 : Int) (hd : 13 ≤ d) (hJ : J S m0 B m) (hB : B + 0 ≤ 1000000000) (ha1 : 0 ≤ a1 ∧ a1 ≤ 7) (ha2 : (-2147483648) ≤ a2 ∧ a2 ≤ 2147483647) (hQ : ∀ (v : Int), (0 ≤ v ∧ v ≤ 6) → f32_1 g0 a1 a2 m = v → (v ≤ m g0 12 a1) → (v < m g0 12 a1 → a2 ≤ m g0 13 (a1 * 6 + v)) → Q (some (zi v)) m) : X (EE s) d 32 0 [(0, zr g0 11), (1, zi a1), (2, zi a2)] [] m Q := by
  have f0 := r12_0 hJ g0 (i := a1) (by omega)
  refine X.iload_n 1 i32_0 rfl rfl rfl ?_
  refine X.bipush 3 i32_1 rfl rfl (by decide) ?_
  refine X.imul 4 i32_3 rfl rfl (by omega) ?_
  refine X.istore_n 5 [(0, zr g0 11), (1, zi a1), (2, zi a2), (3, zi (a1 * 6))] i32_4 rfl rfl rfl ?_
  refine X.iconst 6 i32_5 rfl rfl (by decide) ?_
  refine X.istore 8 [(0, zr g0 11), (1, zi a1), (2, zi a2), (3, zi (a1 * 6)), (4, zi 0)] i32_6 rfl rfl rfl ?_
  have hz7 := zfu_eq 7
  refine l32_8_1 (s := s) (m := m) (B := B) (d := d) (R0 := (f32_1 g0 a1 a2 m)) g0 a1 a2 (a1 * 6)  (by omega) (hJ.up (by omega)) (by omega) (by omega) (by omega) (by omega) (fun y501 hby501 hrlm502_0 hrlm502_1 hrlm502_2 hR505 => ?_) (zfu 7) 0 (by omega) (by omega) (by omega) rfl
  refine X.iload 40 i32_38 rfl rfl rfl ?_
  refine X.reti i32_40 rfl t32 ?_
  exact hQ y501 (by first | trivial | omega) (Eq.trans hR505 rfl) (by omega) (by omega)
-- WorkMeter$Calendar.tariffIn
noncomputable def f31_1 (g0 : Nat) (a1 a2 : Int) (m : zM) : Int :=
  zn (f32_1 g0 a1 (a2 + 1) m) fun v503 =>
  zn (if v503 = 0 then
  (0)
  else
  ((m g0 14 (((a1 * 6) + v503) - 1)))) fun v506 =>
  v506
-- WorkMeter$Calendar.tariffIn
theorem c31_1 {s : Nat × (Nat → Int32)} {S : zS} {m0 m : zM} {B : Int} {d : Nat} {Q : Option zV → zM → Prop} (g0 : Nat) (a1 a2 : Int) (hd : 14 ≤ d) (hJ : J S m0 B m) (hB : B + 0 ≤ 1000000000) (ha1 : 0 ≤ a1 ∧ a1 ≤ 7) (ha2 : 0 ≤ a2 ∧ a2 ≤ 86399) (hQ : ∀ (v : Int), (0 ≤ v ∧ v ≤ 3) → f31_1 g0 a1 a2 m = v → Q (some (zi v)) m) : X (EE s) d 31 0 [(0, zr g0 11), (1, zi a1), (2, zi a2)] [] m Q := by
  refine X.aload_n 1 i31_0 rfl rfl rfl ?_
  refine X.iload_n 2 i31_1 rfl rfl rfl ?_
  refine X.iload_n 3 i31_2 rfl rfl rfl ?_
  refine X.iconst 4 i31_3 rfl rfl (by decide) ?_
  refine X.iadd 5 i31_4 rfl rfl (by omega) ?_
  refine X.callv 8 [zi a1, zi (a2 + 1)] [] [(0, zr g0 11), (1, zi a1), (2, zi (a2 + 1))] i31_5 rfl (by decide) rfl rfl (by omega) rfl rfl (by decide) rfl t32 (Nat.le_of_ble_eq_true rfl) (Nat.le_of_ble_eq_true rfl) rfl ?_
  refine c32_1 (B := B) g0 a1 (a2 + 1) (by omega) (hJ.up (by omega)) (by omega) (by omega) (by omega) (fun v503 hv503 hFv503 hqv503_0 hqv503_1 => ?_)
  show X (EE s) d 31 8 [(0, zr g0 11), (1, zi a1), (2, zi a2)] [zi v503] m _
  refine X.istore_n 9 [(0, zr g0 11), (1, zi a1), (2, zi a2), (3, zi v503)] i31_8 rfl rfl rfl ?_
  refine X.iload_n 10 i31_9 rfl rfl rfl ?_
  have hK509 : ∀ (v : Int) , (0 ≤ v ∧ v ≤ 3) → (if v503 = 0 then
      (0)
      else
      ((m g0 14 (((a1 * 6) + v503) - 1)))) = v → X (EE s) d 31 30 [] [zi v] m Q := by
    intro v506 hv506 hT510
    refine X.reti i31_30 rfl t31 ?_
    exact hQ v506 (by first | trivial | omega) (Eq.trans (zn_eq hFv503.symm) (Eq.trans (zn_eq hT510.symm) rfl)) 
  refine X.ifne 17 13 i31_10 rfl rfl rfl (fun h504 => ?_) (fun h504 => ?_)
  · refine X.cut [(0, zr g0 11), (1, zi a1), (3, zi v503)] i31_17 rfl ?_
    refine X.aload_n 18 i31_17 rfl rfl rfl ?_
    refine X.getR 21 i31_18 rfl rfl (by decide) rfl rfl ?_
    refine X.iload_n 22 i31_21 rfl rfl rfl ?_
    refine X.bipush 24 i31_22 rfl rfl (by decide) ?_
    refine X.imul 25 i31_24 rfl rfl (by omega) ?_
    refine X.iload_n 26 i31_25 rfl rfl rfl ?_
    refine X.iadd 27 i31_26 rfl rfl (by omega) ?_
    refine X.iconst 28 i31_27 rfl rfl (by decide) ?_
    refine X.isub 29 i31_28 rfl rfl (by omega) ?_
    refine X.iald 30 i31_29 rfl rfl (by decide) rfl (by omega) ?_
    have h505 := r14_0 hJ g0 (i := (((a1 * 6) + v503) - 1)) (by omega)
    refine X.cut [] i31_30 rfl ?_
    exact hK509 (m g0 14 (((a1 * 6) + v503) - 1)) (by first | trivial | omega) (Eq.trans (if_neg h504) rfl)
  · refine X.iconst 14 i31_13 rfl rfl (by decide) ?_
    refine X.goto 30 i31_14 rfl rfl ?_
    refine X.cut [] i31_30 rfl ?_
    exact hK509 0 (by first | trivial | omega) (Eq.trans (if_pos h504) rfl)
-- WorkMeter$Calendar.tariffOn
noncomputable def f27_1 (g0 : Nat) (a1 : Int) (m : zM) : Int :=
  zn (f28_1 g0 (a1 / 86400) m) fun v503 =>
  zn (f31_1 g0 v503 (a1 % 86400) m) fun v506 =>
  v506
-- WorkMeter$Calendar.tariffOn
theorem c27_1 {s : Nat × (Nat → Int32)} {S : zS} {m0 m : zM} {B : Int} {d : Nat} {Q : Option zV → zM → Prop} (g0 : Nat) (a1 : Int) (hd : 15 ≤ d) (hJ : J S m0 B m) (hB : B + 0 ≤ 1000000000) (ha1 : 0 ≤ a1 ∧ a1 ≤ 2000185600) (hQ : ∀ (v : Int), (0 ≤ v ∧ v ≤ 3) → f27_1 g0 a1 m = v → Q (some (zi v)) m) : X (EE s) d 27 0 [(0, zr g0 11), (1, zi a1)] [] m Q := by
  refine X.aload_n 1 i27_0 rfl rfl rfl ?_
  refine X.aload_n 2 i27_1 rfl rfl rfl ?_
  refine X.iload_n 3 i27_2 rfl rfl rfl ?_
  refine X.ldc 5 i27_3 rfl rfl (by decide) ?_
  refine X.idiv 6 i27_5 rfl rfl (by omega) ?_
  refine X.callv 9 [zi (a1 / 86400)] [zr g0 11] [(0, zr g0 11), (1, zi (a1 / 86400))] i27_6 rfl (by decide) rfl rfl (by omega) rfl rfl (by decide) rfl t28 (Nat.le_of_ble_eq_true rfl) (Nat.le_of_ble_eq_true rfl) rfl ?_
  refine c28_1 (B := B) g0 (a1 / 86400) (by omega) (hJ.up (by omega)) (by omega) (by omega) (fun v503 hv503 hFv503 => ?_)
  show X (EE s) d 27 9 [(0, zr g0 11), (1, zi a1)] [zi v503, zr g0 11] m _
  refine X.iload_n 10 i27_9 rfl rfl rfl ?_
  refine X.ldc 12 i27_10 rfl rfl (by decide) ?_
  refine X.irem 13 i27_12 rfl rfl (by omega) ?_
  refine X.callv 16 [zi v503, zi (a1 % 86400)] [] [(0, zr g0 11), (1, zi v503), (2, zi (a1 % 86400))] i27_13 rfl (by decide) rfl rfl (by omega) rfl rfl (by decide) rfl t31 (Nat.le_of_ble_eq_true rfl) (Nat.le_of_ble_eq_true rfl) rfl ?_
  refine c31_1 (B := B) g0 v503 (a1 % 86400) (by omega) (hJ.up (by omega)) (by omega) (by omega) (by omega) (fun v506 hv506 hFv506 => ?_)
  show X (EE s) d 27 16 [(0, zr g0 11), (1, zi a1)] [zi v506] m _
  refine X.reti i27_16 rfl t27 ?_
  exact hQ v506 (by first | trivial | omega) (Eq.trans (zn_eq hFv503.symm) (Eq.trans (zn_eq hFv506.symm) rfl)) 
noncomputable def fl34_16_1_b (self : Int → Int → Int → Int → Int → Int → Int) (k177 : Int → Int → Int → Int → Int → Int) (g0 : Nat) (y1 : Int) (m : zM) (y2 y3 y4 y5 y6 y7 : Int) : Int :=
  if (m g0 19 3) ≤ y7 then
  (k177 y2 y3 y4 y5 y6)
  else
  (zn (((m g0 19 4) * y1)) fun z607 =>
  zn (if (m g0 22 (8 + y7)) < z607 then
  (1)
  else
  (0)) fun v610 =>
  zn (if y2 = 0 then
  (if v610 = 0 then
  (0)
  else
  (1))
  else
  (1)) fun v617 =>
  zn (if y3 = 0 then
  (if v610 = 0 then
  (1)
  else
  (0))
  else
  (1)) fun v624 =>
  zn (if y4 = 0 then
  (if (m g0 22 (0 + y7)) ≤ 0 then
  (0)
  else
  (1))
  else
  (1)) fun v632 =>
  zn (if y5 = 0 then
  (if (m g0 22 (0 + y7)) < 0 then
  (1)
  else
  (0))
  else
  (1)) fun v640 =>
  zn (if y6 = 0 then
  (if (m g0 22 (8 + y7)) = 0 then
  (if (m g0 22 (12 + y7)) ≤ 0 then
  (0)
  else
  (1))
  else
  (0))
  else
  (1)) fun v650 =>
  self v617 v624 v632 v640 v650 (y7 + 1))
noncomputable def fl34_16_1 (k177 : Int → Int → Int → Int → Int → Int) (g0 : Nat) (y1 : Int) (m : zM) : Nat → Int → Int → Int → Int → Int → Int → Int
  | 0 => fun y2 y3 y4 y5 y6 y7 => 0
  | n + 1 => fl34_16_1_b (fl34_16_1 k177 g0 y1 m n) k177 g0 y1 m
end
section
theorem l34_16_1 {s : Nat × (Nat → Int32)} {S : zS} {m0 : zM} {m : zM} {B : Int} {d : Nat} {Q : Option zV → zM → Prop} {R0 : Int} {k177 : Int → Int → Int → Int → Int → Int} (g0 : Nat) (y1 : Int) (hd : 13 ≤ d) (hJ : J S m0 B m) (hB9 : B ≤ 1000000000) (hy1 : 0 ≤ y1 ∧ y1 ≤ 1000000)
    (K177 : ∀ (x2 x3 x4 x5 x6 : Int) , (0 ≤ x2 ∧ x2 ≤ 1) → (0 ≤ x3 ∧ x3 ≤ 1) → (0 ≤ x4 ∧ x4 ≤ 1) → (0 ≤ x5 ∧ x5 ≤ 1) → (0 ≤ x6 ∧ x6 ≤ 1) → R0 = k177 x2 x3 x4 x5 x6 → X (EE s) d 34 177 [(2, zi x2), (3, zi x3), (4, zi x4), (5, zi x5), (6, zi x6)] [] m Q) :
    ∀ (n : Nat) (y2 y3 y4 y5 y6 y7 : Int) , (0 ≤ y2 ∧ y2 ≤ 1) → (0 ≤ y3 ∧ y3 ≤ 1) → (0 ≤ y4 ∧ y4 ≤ 1) → (0 ≤ y5 ∧ y5 ≤ 1) → (0 ≤ y6 ∧ y6 ≤ 1) → (0 ≤ y7 ∧ y7 ≤ 3) → 3 - y7 < (n : Int) → R0 = fl34_16_1 k177 g0 y1 m n y2 y3 y4 y5 y6 y7 → X (EE s) d 34 16 [(0, zr g0 19), (1, zi y1), (2, zi y2), (3, zi y3), (4, zi y4), (5, zi y5), (6, zi y6), (7, zi y7)] [] m Q := by
  intro n
  induction n with
  | zero =>
    intro y2 y3 y4 y5 y6 y7 hy2 hy3 hy4 hy5 hy6 hy7 hn hR
    exfalso
    omega
  | succ n ih =>
    intro y2 y3 y4 y5 y6 y7 hy2 hy3 hy4 hy5 hy6 hy7 hn hR
    replace hR : R0 = fl34_16_1_b (fl34_16_1 k177 g0 y1 m n) k177 g0 y1 m y2 y3 y4 y5 y6 y7 := hR
    refine X.iload 18 i34_16 rfl rfl rfl ?_
    refine X.aload_n 19 i34_18 rfl rfl rfl ?_
    refine X.getI 22 3 i34_19 rfl rfl (by decide) rfl rfl rfl ?_
    have h604 := r19_3 hJ g0
    refine X.icmpge 177 25 i34_22 rfl rfl rfl (fun h605 => ?_) (fun h605 => ?_)
    · refine X.cut [(2, zi y2), (3, zi y3), (4, zi y4), (5, zi y5), (6, zi y6)] i34_177 rfl ?_
      exact K177 y2 y3 y4 y5 y6 (by first | trivial | omega) (by first | trivial | omega) (by first | trivial | omega) (by first | trivial | omega) (by first | trivial | omega) (Eq.trans hR (Eq.trans (if_pos h605) rfl))
    · refine X.aload_n 26 i34_25 rfl rfl rfl ?_
      refine X.getR 29 i34_26 rfl rfl (by decide) rfl rfl ?_
      refine X.bipush 31 i34_29 rfl rfl (by decide) ?_
      refine X.iload 33 i34_31 rfl rfl rfl ?_
      refine X.iadd 34 i34_33 rfl rfl (by omega) ?_
      refine X.lald 35 i34_34 rfl rfl (by decide) rfl (by omega) ?_
      refine X.lstore 37 [(0, zr g0 19), (1, zi y1), (2, zi y2), (3, zi y3), (4, zi y4), (5, zi y5), (6, zi y6), (7, zi y7), (8, zl (m g0 22 (8 + y7)))] i34_35 rfl rfl rfl ?_
      refine X.aload_n 38 i34_37 rfl rfl rfl ?_
      refine X.getR 41 i34_38 rfl rfl (by decide) rfl rfl ?_
      refine X.iconst 42 i34_41 rfl rfl (by decide) ?_
      refine X.iload 44 i34_42 rfl rfl rfl ?_
      refine X.iadd 45 i34_44 rfl rfl (by omega) ?_
      refine X.lald 46 i34_45 rfl rfl (by decide) rfl (by omega) ?_
      refine X.lstore 48 [(0, zr g0 19), (1, zi y1), (2, zi y2), (3, zi y3), (4, zi y4), (5, zi y5), (6, zi y6), (7, zi y7), (8, zl (m g0 22 (8 + y7))), (10, zl (m g0 22 (0 + y7)))] i34_46 rfl rfl rfl ?_
      refine X.lload 50 i34_48 rfl rfl rfl ?_
      refine X.aload_n 51 i34_50 rfl rfl rfl ?_
      refine X.getI 54 4 i34_51 rfl rfl (by decide) rfl rfl rfl ?_
      have h606 := r19_4 hJ g0
      refine X.i2l 55 i34_54 rfl rfl ?_
      refine X.iload_n 56 i34_55 rfl rfl rfl ?_
      refine X.i2l 57 i34_56 rfl rfl ?_
      have hz607 := z_mulr (a := 4) (b := 16) (c := 0) (e := 1000000) (x := (m g0 19 4)) (y := y1) (by omega) (by omega)
      refine X.lmul 58 i34_57 rfl rfl (z_in3 hz607 (by decide) (by decide)) ?_
      obtain ⟨z607, ez607⟩ : ∃ z, z = ((m g0 19 4) * y1) := ⟨_, rfl⟩
      rw [← ez607] at hz607 ⊢
      have gz607 : 0 ≤ z607 ∧ z607 ≤ 16000000 := z_in3 hz607 (by decide) (by decide)
      clear hz607
      refine X.lcmp 59 i34_58 rfl rfl (fun z608 hz608 => ?_)
      have hK613 : ∀ (v : Int) , (0 ≤ v ∧ v ≤ 1) → (if (m g0 22 (8 + y7)) < z607 then
          (1)
          else
          (0)) = v → X (EE s) d 34 67 [(0, zr g0 19), (1, zi y1), (2, zi y2), (3, zi y3), (4, zi y4), (5, zi y5), (6, zi y6), (7, zi y7), (8, zl (m g0 22 (8 + y7))), (10, zl (m g0 22 (0 + y7)))] [zi v] m Q := by
        intro v610 hv610 hT614
        refine X.istore 69 [(0, zr g0 19), (1, zi y1), (2, zi y2), (3, zi y3), (4, zi y4), (5, zi y5), (6, zi y6), (7, zi y7), (8, zl (m g0 22 (8 + y7))), (10, zl (m g0 22 (0 + y7))), (12, zi v610)] i34_67 rfl rfl rfl ?_
        refine X.iload_n 70 i34_69 rfl rfl rfl ?_
        have hK620 : ∀ (v : Int) , (0 ≤ v ∧ v ≤ 1) → (if y2 = 0 then
            (if v610 = 0 then
            (0)
            else
            (1))
            else
            (1)) = v → X (EE s) d 34 83 [(0, zr g0 19), (1, zi y1), (3, zi y3), (4, zi y4), (5, zi y5), (6, zi y6), (7, zi y7), (8, zl (m g0 22 (8 + y7))), (10, zl (m g0 22 (0 + y7))), (12, zi v610)] [zi v] m Q := by
          intro v617 hv617 hT621
          refine X.istore_n 84 [(0, zr g0 19), (1, zi y1), (2, zi v617), (3, zi y3), (4, zi y4), (5, zi y5), (6, zi y6), (7, zi y7), (8, zl (m g0 22 (8 + y7))), (10, zl (m g0 22 (0 + y7))), (12, zi v610)] i34_83 rfl rfl rfl ?_
          refine X.iload_n 85 i34_84 rfl rfl rfl ?_
          have hK627 : ∀ (v : Int) , (0 ≤ v ∧ v ≤ 1) → (if y3 = 0 then
              (if v610 = 0 then
              (1)
              else
              (0))
              else
              (1)) = v → X (EE s) d 34 98 [(0, zr g0 19), (1, zi y1), (2, zi v617), (4, zi y4), (5, zi y5), (6, zi y6), (7, zi y7), (8, zl (m g0 22 (8 + y7))), (10, zl (m g0 22 (0 + y7)))] [zi v] m Q := by
            intro v624 hv624 hT628
            refine X.istore_n 99 [(0, zr g0 19), (1, zi y1), (2, zi v617), (3, zi v624), (4, zi y4), (5, zi y5), (6, zi y6), (7, zi y7), (8, zl (m g0 22 (8 + y7))), (10, zl (m g0 22 (0 + y7)))] i34_98 rfl rfl rfl ?_
            refine X.iload 101 i34_99 rfl rfl rfl ?_
            have hK635 : ∀ (v : Int) , (0 ≤ v ∧ v ≤ 1) → (if y4 = 0 then
                (if (m g0 22 (0 + y7)) ≤ 0 then
                (0)
                else
                (1))
                else
                (1)) = v → X (EE s) d 34 116 [(0, zr g0 19), (1, zi y1), (2, zi v617), (3, zi v624), (5, zi y5), (6, zi y6), (7, zi y7), (8, zl (m g0 22 (8 + y7))), (10, zl (m g0 22 (0 + y7)))] [zi v] m Q := by
              intro v632 hv632 hT636
              refine X.istore 118 [(0, zr g0 19), (1, zi y1), (2, zi v617), (3, zi v624), (4, zi v632), (5, zi y5), (6, zi y6), (7, zi y7), (8, zl (m g0 22 (8 + y7))), (10, zl (m g0 22 (0 + y7)))] i34_116 rfl rfl rfl ?_
              refine X.iload 120 i34_118 rfl rfl rfl ?_
              have hK643 : ∀ (v : Int) , (0 ≤ v ∧ v ≤ 1) → (if y5 = 0 then
                  (if (m g0 22 (0 + y7)) < 0 then
                  (1)
                  else
                  (0))
                  else
                  (1)) = v → X (EE s) d 34 135 [(0, zr g0 19), (1, zi y1), (2, zi v617), (3, zi v624), (4, zi v632), (6, zi y6), (7, zi y7), (8, zl (m g0 22 (8 + y7)))] [zi v] m Q := by
                intro v640 hv640 hT644
                refine X.istore 137 [(0, zr g0 19), (1, zi y1), (2, zi v617), (3, zi v624), (4, zi v632), (5, zi v640), (6, zi y6), (7, zi y7), (8, zl (m g0 22 (8 + y7)))] i34_135 rfl rfl rfl ?_
                refine X.iload 139 i34_137 rfl rfl rfl ?_
                have hK653 : ∀ (v : Int) , (0 ≤ v ∧ v ≤ 1) → (if y6 = 0 then
                    (if (m g0 22 (8 + y7)) = 0 then
                    (if (m g0 22 (12 + y7)) ≤ 0 then
                    (0)
                    else
                    (1))
                    else
                    (0))
                    else
                    (1)) = v → X (EE s) d 34 169 [(0, zr g0 19), (1, zi y1), (2, zi v617), (3, zi v624), (4, zi v632), (5, zi v640), (7, zi y7)] [zi v] m Q := by
                  intro v650 hv650 hT654
                  refine X.istore 171 [(0, zr g0 19), (1, zi y1), (2, zi v617), (3, zi v624), (4, zi v632), (5, zi v640), (6, zi v650), (7, zi y7)] i34_169 rfl rfl rfl ?_
                  refine X.iinc 174 [(0, zr g0 19), (1, zi y1), (2, zi v617), (3, zi v624), (4, zi v632), (5, zi v640), (6, zi v650), (7, zi (y7 + 1))] i34_171 rfl rfl rfl (by omega) rfl ?_
                  refine X.goto 16 i34_174 rfl rfl ?_
                  exact ih v617 v624 v632 v640 v650 (y7 + 1) (by omega) (by omega) (by omega) (by omega) (by omega) (by omega) (by omega) (Eq.trans hR (Eq.trans (if_neg h605) (Eq.trans (zn_eq ez607) (Eq.trans (zn_eq hT614.symm) (Eq.trans (zn_eq hT621.symm) (Eq.trans (zn_eq hT628.symm) (Eq.trans (zn_eq hT636.symm) (Eq.trans (zn_eq hT644.symm) (Eq.trans (zn_eq hT654.symm) rfl)))))))))
                refine X.ifne 164 142 i34_139 rfl rfl rfl (fun h645 => ?_) (fun h645 => ?_)
                · refine X.cut [(0, zr g0 19), (1, zi y1), (2, zi v617), (3, zi v624), (4, zi v632), (5, zi v640), (7, zi y7)] i34_164 rfl ?_
                  refine X.iconst 165 i34_164 rfl rfl (by decide) ?_
                  refine X.goto 169 i34_165 rfl rfl ?_
                  exact hK653 1 (by first | trivial | omega) (Eq.trans (if_neg h645) rfl)
                · refine X.lload 144 i34_142 rfl rfl rfl ?_
                  refine X.lconst (y := 0) 145 i34_144 rfl rfl rfl ?_
                  refine X.lcmp 146 i34_145 rfl rfl (fun z646 hz646 => ?_)
                  refine X.ifne 168 149 i34_146 rfl rfl rfl (fun h647 => ?_) (fun h647 => ?_)
                  · have h647c : ¬ (m g0 22 (8 + y7)) = 0 := by omega
                    clear h647 hz646
                    refine X.cut [(0, zr g0 19), (1, zi y1), (2, zi v617), (3, zi v624), (4, zi v632), (5, zi v640), (7, zi y7)] i34_168 rfl ?_
                    refine X.iconst 169 i34_168 rfl rfl (by decide) ?_
                    exact hK653 0 (by first | trivial | omega) (Eq.trans (if_pos h645) (Eq.trans (if_neg h647c) rfl))
                  · have h647c : (m g0 22 (8 + y7)) = 0 := by omega
                    clear h647 hz646
                    refine X.aload_n 150 i34_149 rfl rfl rfl ?_
                    refine X.getR 153 i34_150 rfl rfl (by decide) rfl rfl ?_
                    refine X.bipush 155 i34_153 rfl rfl (by decide) ?_
                    refine X.iload 157 i34_155 rfl rfl rfl ?_
                    refine X.iadd 158 i34_157 rfl rfl (by omega) ?_
                    refine X.lald 159 i34_158 rfl rfl (by decide) rfl (by omega) ?_
                    refine X.lconst (y := 0) 160 i34_159 rfl rfl rfl ?_
                    refine X.lcmp 161 i34_160 rfl rfl (fun z648 hz648 => ?_)
                    refine X.ifle 168 164 i34_161 rfl rfl rfl (fun h649 => ?_) (fun h649 => ?_)
                    · have h649c : (m g0 22 (12 + y7)) ≤ 0 := by omega
                      clear h649 hz648
                      refine X.cut [(0, zr g0 19), (1, zi y1), (2, zi v617), (3, zi v624), (4, zi v632), (5, zi v640), (7, zi y7)] i34_168 rfl ?_
                      refine X.iconst 169 i34_168 rfl rfl (by decide) ?_
                      exact hK653 0 (by first | trivial | omega) (Eq.trans (if_pos h645) (Eq.trans (if_pos h647c) (Eq.trans (if_pos h649c) rfl)))
                    · have h649c : ¬ (m g0 22 (12 + y7)) ≤ 0 := by omega
                      clear h649 hz648
                      refine X.cut [(0, zr g0 19), (1, zi y1), (2, zi v617), (3, zi v624), (4, zi v632), (5, zi v640), (7, zi y7)] i34_164 rfl ?_
                      refine X.iconst 165 i34_164 rfl rfl (by decide) ?_
                      refine X.goto 169 i34_165 rfl rfl ?_
                      exact hK653 1 (by first | trivial | omega) (Eq.trans (if_pos h645) (Eq.trans (if_pos h647c) (Eq.trans (if_neg h649c) rfl)))
              refine X.ifne 130 123 i34_120 rfl rfl rfl (fun h637 => ?_) (fun h637 => ?_)
              · refine X.cut [(0, zr g0 19), (1, zi y1), (2, zi v617), (3, zi v624), (4, zi v632), (6, zi y6), (7, zi y7), (8, zl (m g0 22 (8 + y7)))] i34_130 rfl ?_
                refine X.iconst 131 i34_130 rfl rfl (by decide) ?_
                refine X.goto 135 i34_131 rfl rfl ?_
                exact hK643 1 (by first | trivial | omega) (Eq.trans (if_neg h637) rfl)
              · refine X.lload 125 i34_123 rfl rfl rfl ?_
                refine X.lconst (y := 0) 126 i34_125 rfl rfl rfl ?_
                refine X.lcmp 127 i34_126 rfl rfl (fun z638 hz638 => ?_)
                refine X.ifge 134 130 i34_127 rfl rfl rfl (fun h639 => ?_) (fun h639 => ?_)
                · have h639c : ¬ (m g0 22 (0 + y7)) < 0 := by omega
                  clear h639 hz638
                  refine X.cut [(0, zr g0 19), (1, zi y1), (2, zi v617), (3, zi v624), (4, zi v632), (6, zi y6), (7, zi y7), (8, zl (m g0 22 (8 + y7)))] i34_134 rfl ?_
                  refine X.iconst 135 i34_134 rfl rfl (by decide) ?_
                  exact hK643 0 (by first | trivial | omega) (Eq.trans (if_pos h637) (Eq.trans (if_neg h639c) rfl))
                · have h639c : (m g0 22 (0 + y7)) < 0 := by omega
                  clear h639 hz638
                  refine X.cut [(0, zr g0 19), (1, zi y1), (2, zi v617), (3, zi v624), (4, zi v632), (6, zi y6), (7, zi y7), (8, zl (m g0 22 (8 + y7)))] i34_130 rfl ?_
                  refine X.iconst 131 i34_130 rfl rfl (by decide) ?_
                  refine X.goto 135 i34_131 rfl rfl ?_
                  exact hK643 1 (by first | trivial | omega) (Eq.trans (if_pos h637) (Eq.trans (if_pos h639c) rfl))
            refine X.ifne 111 104 i34_101 rfl rfl rfl (fun h629 => ?_) (fun h629 => ?_)
            · refine X.cut [(0, zr g0 19), (1, zi y1), (2, zi v617), (3, zi v624), (5, zi y5), (6, zi y6), (7, zi y7), (8, zl (m g0 22 (8 + y7))), (10, zl (m g0 22 (0 + y7)))] i34_111 rfl ?_
              refine X.iconst 112 i34_111 rfl rfl (by decide) ?_
              refine X.goto 116 i34_112 rfl rfl ?_
              exact hK635 1 (by first | trivial | omega) (Eq.trans (if_neg h629) rfl)
            · refine X.lload 106 i34_104 rfl rfl rfl ?_
              refine X.lconst (y := 0) 107 i34_106 rfl rfl rfl ?_
              refine X.lcmp 108 i34_107 rfl rfl (fun z630 hz630 => ?_)
              refine X.ifle 115 111 i34_108 rfl rfl rfl (fun h631 => ?_) (fun h631 => ?_)
              · have h631c : (m g0 22 (0 + y7)) ≤ 0 := by omega
                clear h631 hz630
                refine X.cut [(0, zr g0 19), (1, zi y1), (2, zi v617), (3, zi v624), (5, zi y5), (6, zi y6), (7, zi y7), (8, zl (m g0 22 (8 + y7))), (10, zl (m g0 22 (0 + y7)))] i34_115 rfl ?_
                refine X.iconst 116 i34_115 rfl rfl (by decide) ?_
                exact hK635 0 (by first | trivial | omega) (Eq.trans (if_pos h629) (Eq.trans (if_pos h631c) rfl))
              · have h631c : ¬ (m g0 22 (0 + y7)) ≤ 0 := by omega
                clear h631 hz630
                refine X.cut [(0, zr g0 19), (1, zi y1), (2, zi v617), (3, zi v624), (5, zi y5), (6, zi y6), (7, zi y7), (8, zl (m g0 22 (8 + y7))), (10, zl (m g0 22 (0 + y7)))] i34_111 rfl ?_
                refine X.iconst 112 i34_111 rfl rfl (by decide) ?_
                refine X.goto 116 i34_112 rfl rfl ?_
                exact hK635 1 (by first | trivial | omega) (Eq.trans (if_pos h629) (Eq.trans (if_neg h631c) rfl))
          refine X.ifne 93 88 i34_85 rfl rfl rfl (fun h622 => ?_) (fun h622 => ?_)
          · refine X.cut [(0, zr g0 19), (1, zi y1), (2, zi v617), (4, zi y4), (5, zi y5), (6, zi y6), (7, zi y7), (8, zl (m g0 22 (8 + y7))), (10, zl (m g0 22 (0 + y7)))] i34_93 rfl ?_
            refine X.iconst 94 i34_93 rfl rfl (by decide) ?_
            refine X.goto 98 i34_94 rfl rfl ?_
            exact hK627 1 (by first | trivial | omega) (Eq.trans (if_neg h622) rfl)
          · refine X.iload 90 i34_88 rfl rfl rfl ?_
            refine X.ifne 97 93 i34_90 rfl rfl rfl (fun h623 => ?_) (fun h623 => ?_)
            · refine X.cut [(0, zr g0 19), (1, zi y1), (2, zi v617), (4, zi y4), (5, zi y5), (6, zi y6), (7, zi y7), (8, zl (m g0 22 (8 + y7))), (10, zl (m g0 22 (0 + y7)))] i34_97 rfl ?_
              refine X.iconst 98 i34_97 rfl rfl (by decide) ?_
              exact hK627 0 (by first | trivial | omega) (Eq.trans (if_pos h622) (Eq.trans (if_neg h623) rfl))
            · refine X.cut [(0, zr g0 19), (1, zi y1), (2, zi v617), (4, zi y4), (5, zi y5), (6, zi y6), (7, zi y7), (8, zl (m g0 22 (8 + y7))), (10, zl (m g0 22 (0 + y7)))] i34_93 rfl ?_
              refine X.iconst 94 i34_93 rfl rfl (by decide) ?_
              refine X.goto 98 i34_94 rfl rfl ?_
              exact hK627 1 (by first | trivial | omega) (Eq.trans (if_pos h622) (Eq.trans (if_pos h623) rfl))
        refine X.ifne 78 73 i34_70 rfl rfl rfl (fun h615 => ?_) (fun h615 => ?_)
        · refine X.cut [(0, zr g0 19), (1, zi y1), (3, zi y3), (4, zi y4), (5, zi y5), (6, zi y6), (7, zi y7), (8, zl (m g0 22 (8 + y7))), (10, zl (m g0 22 (0 + y7))), (12, zi v610)] i34_78 rfl ?_
          refine X.iconst 79 i34_78 rfl rfl (by decide) ?_
          refine X.goto 83 i34_79 rfl rfl ?_
          exact hK620 1 (by first | trivial | omega) (Eq.trans (if_neg h615) rfl)
        · refine X.iload 75 i34_73 rfl rfl rfl ?_
          refine X.ifeq 82 78 i34_75 rfl rfl rfl (fun h616 => ?_) (fun h616 => ?_)
          · refine X.cut [(0, zr g0 19), (1, zi y1), (3, zi y3), (4, zi y4), (5, zi y5), (6, zi y6), (7, zi y7), (8, zl (m g0 22 (8 + y7))), (10, zl (m g0 22 (0 + y7))), (12, zi v610)] i34_82 rfl ?_
            refine X.iconst 83 i34_82 rfl rfl (by decide) ?_
            exact hK620 0 (by first | trivial | omega) (Eq.trans (if_pos h615) (Eq.trans (if_pos h616) rfl))
          · refine X.cut [(0, zr g0 19), (1, zi y1), (3, zi y3), (4, zi y4), (5, zi y5), (6, zi y6), (7, zi y7), (8, zl (m g0 22 (8 + y7))), (10, zl (m g0 22 (0 + y7))), (12, zi v610)] i34_78 rfl ?_
            refine X.iconst 79 i34_78 rfl rfl (by decide) ?_
            refine X.goto 83 i34_79 rfl rfl ?_
            exact hK620 1 (by first | trivial | omega) (Eq.trans (if_pos h615) (Eq.trans (if_neg h616) rfl))
      refine X.ifge 66 62 i34_59 rfl rfl rfl (fun h609 => ?_) (fun h609 => ?_)
      · have h609c : ¬ (m g0 22 (8 + y7)) < z607 := by omega
        clear h609 hz608
        refine X.iconst 67 i34_66 rfl rfl (by decide) ?_
        exact hK613 0 (by first | trivial | omega) (Eq.trans (if_neg h609c) rfl)
      · have h609c : (m g0 22 (8 + y7)) < z607 := by omega
        clear h609 hz608
        refine X.iconst 63 i34_62 rfl rfl (by decide) ?_
        refine X.goto 67 i34_63 rfl rfl ?_
        exact hK613 1 (by first | trivial | omega) (Eq.trans (if_pos h609c) rfl)
-- WorkMeter$Wave.marksSeen
noncomputable def f34_1 (g0 : Nat) (a1 : Int) (m : zM) : Int :=
  fl34_16_1 (fun y501 y502 y503 y504 y505 =>
  zn (if y501 = 0 then
  (0)
  else
  (if y502 = 0 then
  (0)
  else
  (4))) fun v512 =>
  zn (if y503 = 0 then
  (0)
  else
  (if y504 = 0 then
  (0)
  else
  (8))) fun v519 =>
  zn (zor v512 v519) fun z524 =>
  zn (if y505 = 0 then
  (0)
  else
  (16)) fun v526 =>
  zn (zor z524 v526) fun z531 =>
  z531) g0 a1 m (zfu 4) 0 0 0 0 0 0
-- WorkMeter$Wave.marksSeen
theorem c34_1 {s : Nat × (Nat → Int32)} {S : zS} {m0 m : zM} {B : Int} {d : Nat} {Q : Option zV → zM → Prop} (g0 : Nat) (a1 : Int) (hd : 13 ≤ d) (hJ : J S m0 B m) (hB : B + 0 ≤ 1000000000) (ha1 : 0 ≤ a1 ∧ a1 ≤ 1000000) (hQ : ∀ (v : Int), ((-2147483648) ≤ v ∧ v ≤ 2147483647) → f34_1 g0 a1 m = v → Q (some (zi v)) m) : X (EE s) d 34 0 [(0, zr g0 19), (1, zi a1)] [] m Q := by
  refine X.iconst 1 i34_0 rfl rfl (by decide) ?_
  refine X.istore_n 2 [(0, zr g0 19), (1, zi a1), (2, zi 0)] i34_1 rfl rfl rfl ?_
  refine X.iconst 3 i34_2 rfl rfl (by decide) ?_
  refine X.istore_n 4 [(0, zr g0 19), (1, zi a1), (2, zi 0), (3, zi 0)] i34_3 rfl rfl rfl ?_
  refine X.iconst 5 i34_4 rfl rfl (by decide) ?_
  refine X.istore 7 [(0, zr g0 19), (1, zi a1), (2, zi 0), (3, zi 0), (4, zi 0)] i34_5 rfl rfl rfl ?_
  refine X.iconst 8 i34_7 rfl rfl (by decide) ?_
  refine X.istore 10 [(0, zr g0 19), (1, zi a1), (2, zi 0), (3, zi 0), (4, zi 0), (5, zi 0)] i34_8 rfl rfl rfl ?_
  refine X.iconst 11 i34_10 rfl rfl (by decide) ?_
  refine X.istore 13 [(0, zr g0 19), (1, zi a1), (2, zi 0), (3, zi 0), (4, zi 0), (5, zi 0), (6, zi 0)] i34_11 rfl rfl rfl ?_
  refine X.iconst 14 i34_13 rfl rfl (by decide) ?_
  refine X.istore 16 [(0, zr g0 19), (1, zi a1), (2, zi 0), (3, zi 0), (4, zi 0), (5, zi 0), (6, zi 0), (7, zi 0)] i34_14 rfl rfl rfl ?_
  have hz4 := zfu_eq 4
  refine l34_16_1 (s := s) (m := m) (B := B) (d := d) (R0 := (f34_1 g0 a1 m)) g0 a1  (by omega) (hJ.up (by omega)) (by omega) (by omega) (fun y501 y502 y503 y504 y505 hby501 hby502 hby503 hby504 hby505 hR509 => ?_) (zfu 4) 0 0 0 0 0 0 (by omega) (by omega) (by omega) (by omega) (by omega) (by omega) (by omega) rfl
  refine X.iload_n 178 i34_177 rfl rfl rfl ?_
  have hK515 : ∀ (v : Int) , (0 ≤ v ∧ v ≤ 4) → (if y501 = 0 then
      (0)
      else
      (if y502 = 0 then
      (0)
      else
      (4))) = v → X (EE s) d 34 190 [(4, zi y503), (5, zi y504), (6, zi y505)] [zi v] m Q := by
    intro v512 hv512 hT516
    refine X.iload 192 i34_190 rfl rfl rfl ?_
    have hK522 : ∀ (v : Int) , (0 ≤ v ∧ v ≤ 8) → (if y503 = 0 then
        (0)
        else
        (if y504 = 0 then
        (0)
        else
        (8))) = v → X (EE s) d 34 206 [(6, zi y505)] [zi v, zi v512] m Q := by
      intro v519 hv519 hT523
      refine X.iiE 207 .ior (fun x y => x ||| y) i34_206 rfl rfl rfl (fun _ _ => rfl) (fun z524 ez524 hz524 => ?_)
      refine X.iload 209 i34_207 rfl rfl rfl ?_
      have hK529 : ∀ (v : Int) , (0 ≤ v ∧ v ≤ 16) → (if y505 = 0 then
          (0)
          else
          (16)) = v → X (EE s) d 34 218 [] [zi v, zi z524] m Q := by
        intro v526 hv526 hT530
        refine X.iiE 219 .ior (fun x y => x ||| y) i34_218 rfl rfl rfl (fun _ _ => rfl) (fun z531 ez531 hz531 => ?_)
        refine X.reti i34_219 rfl t34 ?_
        exact hQ z531 (by first | trivial | omega) (Eq.trans hR509 (Eq.trans (zn_eq hT516.symm) (Eq.trans (zn_eq hT523.symm) (Eq.trans (zn_eq ez524) (Eq.trans (zn_eq hT530.symm) (Eq.trans (zn_eq ez531) rfl)))))) 
      refine X.ifeq 217 212 i34_209 rfl rfl rfl (fun h525 => ?_) (fun h525 => ?_)
      · refine X.cut [] i34_217 rfl ?_
        refine X.iconst 218 i34_217 rfl rfl (by decide) ?_
        exact hK529 0 (by first | trivial | omega) (Eq.trans (if_pos h525) rfl)
      · refine X.bipush 214 i34_212 rfl rfl (by decide) ?_
        refine X.goto 218 i34_214 rfl rfl ?_
        refine X.cut [] i34_218 rfl ?_
        exact hK529 16 (by first | trivial | omega) (Eq.trans (if_neg h525) rfl)
    refine X.ifeq 205 195 i34_192 rfl rfl rfl (fun h517 => ?_) (fun h517 => ?_)
    · refine X.cut [(6, zi y505)] i34_205 rfl ?_
      refine X.iconst 206 i34_205 rfl rfl (by decide) ?_
      exact hK522 0 (by first | trivial | omega) (Eq.trans (if_pos h517) rfl)
    · refine X.iload 197 i34_195 rfl rfl rfl ?_
      refine X.ifeq 205 200 i34_197 rfl rfl rfl (fun h518 => ?_) (fun h518 => ?_)
      · refine X.cut [(6, zi y505)] i34_205 rfl ?_
        refine X.iconst 206 i34_205 rfl rfl (by decide) ?_
        exact hK522 0 (by first | trivial | omega) (Eq.trans (if_neg h517) (Eq.trans (if_pos h518) rfl))
      · refine X.bipush 202 i34_200 rfl rfl (by decide) ?_
        refine X.goto 206 i34_202 rfl rfl ?_
        refine X.cut [(6, zi y505)] i34_206 rfl ?_
        exact hK522 8 (by first | trivial | omega) (Eq.trans (if_neg h517) (Eq.trans (if_neg h518) rfl))
  refine X.ifeq 189 181 i34_178 rfl rfl rfl (fun h510 => ?_) (fun h510 => ?_)
  · refine X.cut [(4, zi y503), (5, zi y504), (6, zi y505)] i34_189 rfl ?_
    refine X.iconst 190 i34_189 rfl rfl (by decide) ?_
    exact hK515 0 (by first | trivial | omega) (Eq.trans (if_pos h510) rfl)
  · refine X.iload_n 182 i34_181 rfl rfl rfl ?_
    refine X.ifeq 189 185 i34_182 rfl rfl rfl (fun h511 => ?_) (fun h511 => ?_)
    · refine X.cut [(4, zi y503), (5, zi y504), (6, zi y505)] i34_189 rfl ?_
      refine X.iconst 190 i34_189 rfl rfl (by decide) ?_
      exact hK515 0 (by first | trivial | omega) (Eq.trans (if_neg h510) (Eq.trans (if_pos h511) rfl))
    · refine X.iconst 186 i34_185 rfl rfl (by decide) ?_
      refine X.goto 190 i34_186 rfl rfl ?_
      refine X.cut [(4, zi y503), (5, zi y504), (6, zi y505)] i34_190 rfl ?_
      exact hK515 4 (by first | trivial | omega) (Eq.trans (if_neg h510) (Eq.trans (if_neg h511) rfl))
-- WorkMeter$Calendar.heldUntil
noncomputable def f37_1 (g0 : Nat) (a1 : Int) (m : zM) : Int :=
  zn (f28_1 g0 (a1 / 86400) m) fun v503 =>
  zn (f32_1 g0 v503 ((a1 % 86400) + 1) m) fun v506 =>
  zn (if (m g0 12 v503) ≤ v506 then
  (86400)
  else
  ((m g0 13 ((v503 * 6) + v506)))) fun v510 =>
  (((a1 / 86400) * 86400) + v510)
-- WorkMeter$Calendar.heldUntil
theorem c37_1 {s : Nat × (Nat → Int32)} {S : zS} {m0 m : zM} {B : Int} {d : Nat} {Q : Option zV → zM → Prop} (g0 : Nat) (a1 : Int) (hd : 15 ≤ d) (hJ : J S m0 B m) (hB : B + 0 ≤ 1000000000) (ha1 : 0 ≤ a1 ∧ a1 ≤ 2000185600) (hQ : ∀ (v : Int), (0 ≤ v ∧ v ≤ 2000246400) → f37_1 g0 a1 m = v → (a1 < v) → Q (some (zi v)) m) : X (EE s) d 37 0 [(0, zr g0 11), (1, zi a1)] [] m Q := by
  refine X.iload_n 1 i37_0 rfl rfl rfl ?_
  refine X.ldc 3 i37_1 rfl rfl (by decide) ?_
  refine X.idiv 4 i37_3 rfl rfl (by omega) ?_
  refine X.istore_n 5 [(0, zr g0 11), (1, zi a1), (2, zi (a1 / 86400))] i37_4 rfl rfl rfl ?_
  refine X.aload_n 6 i37_5 rfl rfl rfl ?_
  refine X.iload_n 7 i37_6 rfl rfl rfl ?_
  refine X.callv 10 [zi (a1 / 86400)] [] [(0, zr g0 11), (1, zi (a1 / 86400))] i37_7 rfl (by decide) rfl rfl (by omega) rfl rfl (by decide) rfl t28 (Nat.le_of_ble_eq_true rfl) (Nat.le_of_ble_eq_true rfl) rfl ?_
  refine c28_1 (B := B) g0 (a1 / 86400) (by omega) (hJ.up (by omega)) (by omega) (by omega) (fun v503 hv503 hFv503 => ?_)
  show X (EE s) d 37 10 [(0, zr g0 11), (1, zi a1), (2, zi (a1 / 86400))] [zi v503] m _
  refine X.istore_n 11 [(0, zr g0 11), (1, zi a1), (2, zi (a1 / 86400)), (3, zi v503)] i37_10 rfl rfl rfl ?_
  refine X.aload_n 12 i37_11 rfl rfl rfl ?_
  refine X.iload_n 13 i37_12 rfl rfl rfl ?_
  refine X.iload_n 14 i37_13 rfl rfl rfl ?_
  refine X.ldc 16 i37_14 rfl rfl (by decide) ?_
  refine X.irem 17 i37_16 rfl rfl (by omega) ?_
  refine X.iconst 18 i37_17 rfl rfl (by decide) ?_
  refine X.iadd 19 i37_18 rfl rfl (by omega) ?_
  refine X.callv 22 [zi v503, zi ((a1 % 86400) + 1)] [] [(0, zr g0 11), (1, zi v503), (2, zi ((a1 % 86400) + 1))] i37_19 rfl (by decide) rfl rfl (by omega) rfl rfl (by decide) rfl t32 (Nat.le_of_ble_eq_true rfl) (Nat.le_of_ble_eq_true rfl) rfl ?_
  refine c32_1 (B := B) g0 v503 ((a1 % 86400) + 1) (by omega) (hJ.up (by omega)) (by omega) (by omega) (by omega) (fun v506 hv506 hFv506 hqv506_0 hqv506_1 => ?_)
  show X (EE s) d 37 22 [(0, zr g0 11), (1, zi a1), (2, zi (a1 / 86400)), (3, zi v503)] [zi v506] m _
  refine X.istore 24 [(0, zr g0 11), (1, zi a1), (2, zi (a1 / 86400)), (3, zi v503), (4, zi v506)] i37_22 rfl rfl rfl ?_
  refine X.iload 26 i37_24 rfl rfl rfl ?_
  refine X.aload_n 27 i37_26 rfl rfl rfl ?_
  refine X.getR 30 i37_27 rfl rfl (by decide) rfl rfl ?_
  refine X.iload_n 31 i37_30 rfl rfl rfl ?_
  refine X.iald 32 i37_31 rfl rfl (by decide) rfl (by omega) ?_
  have h507 := r12_0 hJ g0 (i := v503) (by omega)
  have hK513 : ∀ (v : Int) , (0 ≤ v ∧ v ≤ 86400) → (if (m g0 12 v503) ≤ v506 then
      (86400)
      else
      ((m g0 13 ((v503 * 6) + v506)))) = v → X (EE s) d 37 52 [(2, zi (a1 / 86400))] [zi v] m Q := by
    intro v510 hv510 hT514
    refine X.istore 54 [(2, zi (a1 / 86400)), (5, zi v510)] i37_52 rfl rfl rfl ?_
    refine X.iload_n 55 i37_54 rfl rfl rfl ?_
    refine X.ldc 57 i37_55 rfl rfl (by decide) ?_
    refine X.imul 58 i37_57 rfl rfl (by omega) ?_
    refine X.iload 60 i37_58 rfl rfl rfl ?_
    refine X.iadd 61 i37_60 rfl rfl (by omega) ?_
    refine X.reti i37_61 rfl t37 ?_
    exact hQ (((a1 / 86400) * 86400) + v510) (by first | trivial | omega) (Eq.trans (zn_eq hFv503.symm) (Eq.trans (zn_eq hFv506.symm) (Eq.trans (zn_eq hT514.symm) rfl))) (by omega)
  refine X.icmpge 50 35 i37_32 rfl rfl rfl (fun h508 => ?_) (fun h508 => ?_)
  · refine X.cut [(2, zi (a1 / 86400))] i37_50 rfl ?_
    refine X.ldc 52 i37_50 rfl rfl (by decide) ?_
    exact hK513 86400 (by first | trivial | omega) (Eq.trans (if_pos h508) rfl)
  · refine X.aload_n 36 i37_35 rfl rfl rfl ?_
    refine X.getR 39 i37_36 rfl rfl (by decide) rfl rfl ?_
    refine X.iload_n 40 i37_39 rfl rfl rfl ?_
    refine X.bipush 42 i37_40 rfl rfl (by decide) ?_
    refine X.imul 43 i37_42 rfl rfl (by omega) ?_
    refine X.iload 45 i37_43 rfl rfl rfl ?_
    refine X.iadd 46 i37_45 rfl rfl (by omega) ?_
    refine X.iald 47 i37_46 rfl rfl (by decide) rfl (by omega) ?_
    have h509 := r13_0 hJ g0 (i := ((v503 * 6) + v506)) (by omega)
    refine X.goto 52 i37_47 rfl rfl ?_
    refine X.cut [(2, zi (a1 / 86400))] i37_52 rfl ?_
    exact hK513 (m g0 13 ((v503 * 6) + v506)) (by first | trivial | omega) (Eq.trans (if_neg h508) rfl)
-- WorkMeter$Marks.isOn
noncomputable def f40_1 (g0 : Nat) (a1 : Int) (m : zM) : Int :=
  zn (zshr (m g0 33 3) a1) fun z502 =>
  zn (zand z502 1) fun z503 =>
  zn (if z503 = 1 then
  (1)
  else
  (0)) fun v505 =>
  v505
-- WorkMeter$Marks.isOn
theorem c40_1 {s : Nat × (Nat → Int32)} {S : zS} {m0 m : zM} {B : Int} {d : Nat} {Q : Option zV → zM → Prop} (g0 : Nat) (a1 : Int) (hd : 13 ≤ d) (hJ : J S m0 B m) (hB : B + 0 ≤ 1000000000) (ha1 : 2 ≤ a1 ∧ a1 ≤ 4) (hQ : ∀ (v : Int), (0 ≤ v ∧ v ≤ 1) → f40_1 g0 a1 m = v → Q (some (zi v)) m) : X (EE s) d 40 0 [(0, zr g0 33), (1, zi a1)] [] m Q := by
  refine X.aload_n 1 i40_0 rfl rfl rfl ?_
  refine X.getIr 4 3 i40_1 rfl rfl (by decide) rfl rfl rfl (fun h501 => ?_)
  refine X.iload_n 5 i40_4 rfl rfl rfl ?_
  refine X.iiE 6 .ishr (fun x y => x >>> (y &&& 31)) i40_5 rfl rfl rfl (fun _ _ => rfl) (fun z502 ez502 hz502 => ?_)
  refine X.iconst 7 i40_6 rfl rfl (by decide) ?_
  refine X.andE 8 1 i40_7 rfl rfl (by decide) (.inl rfl) (fun z503 ez503 hz503 => ?_)
  refine X.iconst 9 i40_8 rfl rfl (by decide) ?_
  have hK508 : ∀ (v : Int) , (0 ≤ v ∧ v ≤ 1) → (if z503 = 1 then
      (1)
      else
      (0)) = v → X (EE s) d 40 17 [] [zi v] m Q := by
    intro v505 hv505 hT509
    refine X.retz i40_17 rfl t40 (by omega) ?_
    exact hQ v505 (by first | trivial | omega) (Eq.trans (zn_eq ez502) (Eq.trans (zn_eq ez503) (Eq.trans (zn_eq hT509.symm) rfl))) 
  refine X.icmpne 16 12 i40_9 rfl rfl rfl (fun h504 => ?_) (fun h504 => ?_)
  · refine X.cut [] i40_16 rfl ?_
    refine X.iconst 17 i40_16 rfl rfl (by decide) ?_
    exact hK508 0 (by first | trivial | omega) (Eq.trans (if_neg h504) rfl)
  · refine X.iconst 13 i40_12 rfl rfl (by decide) ?_
    refine X.goto 17 i40_13 rfl rfl ?_
    refine X.cut [] i40_17 rfl ?_
    exact hK508 1 (by first | trivial | omega) (Eq.trans (if_pos h504) rfl)
noncomputable def fl39_6_1_b (self : Int → Int → Int) (k43 : Int → Int → Int → Int) (k87 : Int → Int) (g0 : Nat) (y1 y2 y3 : Int) (m : zM) (y4 y5 : Int) : Int :=
  if 5 ≤ y5 then
  (k87 y4)
  else
  (zn (zshr y1 y5) fun z532 =>
  zn (zand z532 1) fun z533 =>
  if z533 = 1 then
  (zn (f40_1 g0 y5 m) fun v547 =>
  if v547 = 0 then
  (zn (f40_1 g0 y5 m) fun v551 =>
  zn (w32 ((y2 + 1) - (m g0 36 y5))) fun z555 =>
  self (min y4 (max 1 z555)) (y5 + 1))
  else
  (zn (f40_1 g0 y5 m) fun v559 =>
  self y4 (y5 + 1)))
  else
  (zn (f40_1 g0 y5 m) fun v537 =>
  if v537 = 0 then
  (zn (f40_1 g0 y5 m) fun v541 =>
  self y4 (y5 + 1))
  else
  (k43 y4 y5 0)))
noncomputable def fl39_6_1 (k43 : Int → Int → Int → Int) (k87 : Int → Int) (g0 : Nat) (y1 y2 y3 : Int) (m : zM) : Nat → Int → Int → Int
  | 0 => fun y4 y5 => 0
  | n + 1 => fl39_6_1_b (fl39_6_1 k43 k87 g0 y1 y2 y3 m n) k43 k87 g0 y1 y2 y3 m
theorem l39_6_1 {s : Nat × (Nat → Int32)} {S : zS} {m0 : zM} {m : zM} {B : Int} {d : Nat} {Q : Option zV → zM → Prop} {R0 : Int} {k43 : Int → Int → Int → Int} {k87 : Int → Int} (g0 : Nat) (y1 y2 y3 : Int) (hd : 14 ≤ d) (hJ : J S m0 B m) (hB9 : B ≤ 1000000000) (hy1 : (-2147483648) ≤ y1 ∧ y1 ≤ 2147483647) (hy2 : 0 ≤ y2 ∧ y2 ≤ 1000000) (hy3 : (-1999999999) ≤ y3 ∧ y3 ≤ 3600)
    (K43 : ∀ (x4 x5 x6 : Int) , ((-1999999999) ≤ x4 ∧ x4 ≤ 3600) → (2 ≤ x5 ∧ x5 ≤ 4) → (0 ≤ x6 ∧ x6 ≤ 0) → (1 ≤ x4) → (x4 ≤ y3) → R0 = k43 x4 x5 x6 → X (EE s) d 39 43 [(0, zr g0 33), (1, zi y1), (2, zi y2), (4, zi x4), (5, zi x5), (6, zi x6)] [] m Q)
    (K87 : ∀ (x4 : Int) , ((-1999999999) ≤ x4 ∧ x4 ≤ 3600) → (1 ≤ x4) → (x4 ≤ y3) → R0 = k87 x4 → X (EE s) d 39 87 [(4, zi x4)] [] m Q) :
    ∀ (n : Nat) (y4 y5 : Int) , ((-1999999999) ≤ y4 ∧ y4 ≤ 3600) → (2 ≤ y5 ∧ y5 ≤ 5) → (1 ≤ y4) → (y4 ≤ y3) → 5 - y5 < (n : Int) → R0 = fl39_6_1 k43 k87 g0 y1 y2 y3 m n y4 y5 → X (EE s) d 39 6 [(0, zr g0 33), (1, zi y1), (2, zi y2), (4, zi y4), (5, zi y5)] [] m Q := by
  intro n
  induction n with
  | zero =>
    intro y4 y5 hy4 hy5 hr0 hr1 hn hR
    exfalso
    omega
  | succ n ih =>
    intro y4 y5 hy4 hy5 hr0 hr1 hn hR
    replace hR : R0 = fl39_6_1_b (fl39_6_1 k43 k87 g0 y1 y2 y3 m n) k43 k87 g0 y1 y2 y3 m y4 y5 := hR
    refine X.iload 8 i39_6 rfl rfl rfl ?_
    refine X.iconst 9 i39_8 rfl rfl (by decide) ?_
    refine X.icmpge 87 12 i39_9 rfl rfl rfl (fun h531 => ?_) (fun h531 => ?_)
    · refine X.cut [(4, zi y4)] i39_87 rfl ?_
      exact K87 y4 (by first | trivial | omega) (by omega) (by omega) (Eq.trans hR (Eq.trans (if_pos h531) rfl))
    · refine X.iload_n 13 i39_12 rfl rfl rfl ?_
      refine X.iload 15 i39_13 rfl rfl rfl ?_
      refine X.iiE 16 .ishr (fun x y => x >>> (y &&& 31)) i39_15 rfl rfl rfl (fun _ _ => rfl) (fun z532 ez532 hz532 => ?_)
      refine X.iconst 17 i39_16 rfl rfl (by decide) ?_
      refine X.andE 18 1 i39_17 rfl rfl (by decide) (.inl rfl) (fun z533 ez533 hz533 => ?_)
      refine X.iconst 19 i39_18 rfl rfl (by decide) ?_
      refine X.icmpne 26 22 i39_19 rfl rfl rfl (fun h534 => ?_) (fun h534 => ?_)
      · refine X.iconst 27 i39_26 rfl rfl (by decide) ?_
        refine X.istore 29 [(0, zr g0 33), (1, zi y1), (2, zi y2), (4, zi y4), (5, zi y5), (6, zi 0)] i39_27 rfl rfl rfl ?_
        refine X.aload_n 30 i39_29 rfl rfl rfl ?_
        refine X.iload 32 i39_30 rfl rfl rfl ?_
        refine X.callv 35 [zi y5] [] [(0, zr g0 33), (1, zi y5)] i39_32 rfl (by decide) rfl rfl (by omega) rfl rfl (by decide) rfl t40 (Nat.le_of_ble_eq_true rfl) (Nat.le_of_ble_eq_true rfl) rfl ?_
        refine c40_1 (B := B) g0 y5 (by omega) (hJ.up (by omega)) (by omega) (by omega) (fun v537 hv537 hFv537 => ?_)
        show X (EE s) d 39 35 [(0, zr g0 33), (1, zi y1), (2, zi y2), (4, zi y4), (5, zi y5), (6, zi 0)] [zi v537] m _
        refine X.ifeq 45 38 i39_35 rfl rfl rfl (fun h538 => ?_) (fun h538 => ?_)
        · refine X.aload_n 46 i39_45 rfl rfl rfl ?_
          refine X.iload 48 i39_46 rfl rfl rfl ?_
          refine X.callv 51 [zi y5] [] [(0, zr g0 33), (1, zi y5)] i39_48 rfl (by decide) rfl rfl (by omega) rfl rfl (by decide) rfl t40 (Nat.le_of_ble_eq_true rfl) (Nat.le_of_ble_eq_true rfl) rfl ?_
          refine c40_1 (B := B) g0 y5 (by omega) (hJ.up (by omega)) (by omega) (by omega) (fun v541 hv541 hFv541 => ?_)
          show X (EE s) d 39 51 [(0, zr g0 33), (1, zi y1), (2, zi y2), (4, zi y4), (5, zi y5), (6, zi 0)] [zi v541] m _
          refine X.ifne 81 54 i39_51 rfl rfl rfl (fun h542 => (by exfalso; omega)) (fun h542 => ?_)
          refine X.iload 56 i39_54 rfl rfl rfl ?_
          refine X.ifeq 81 59 i39_56 rfl rfl rfl (fun h543 => ?_) (fun h543 => (by exfalso; omega))
          refine X.cut [(0, zr g0 33), (1, zi y1), (2, zi y2), (4, zi y4), (5, zi y5)] i39_81 rfl ?_
          refine X.iinc 84 [(0, zr g0 33), (1, zi y1), (2, zi y2), (4, zi y4), (5, zi (y5 + 1))] i39_81 rfl rfl rfl (by omega) rfl ?_
          refine X.goto 6 i39_84 rfl rfl ?_
          exact ih y4 (y5 + 1) (by omega) (by omega) (by omega) (by omega) (by omega) (Eq.trans hR (Eq.trans (if_neg h531) (Eq.trans (zn_eq ez532) (Eq.trans (zn_eq ez533) (Eq.trans (if_neg h534) (Eq.trans (zn_eq hFv537.symm) (Eq.trans (if_pos h538) (Eq.trans (zn_eq hFv541.symm) rfl))))))))
        · refine X.iload 40 i39_38 rfl rfl rfl ?_
          refine X.ifne 45 43 i39_40 rfl rfl rfl (fun h544 => (by exfalso; omega)) (fun h544 => ?_)
          exact K43 y4 y5 0 (by first | trivial | omega) (by first | trivial | omega) (by first | trivial | omega) (by omega) (by omega) (Eq.trans hR (Eq.trans (if_neg h531) (Eq.trans (zn_eq ez532) (Eq.trans (zn_eq ez533) (Eq.trans (if_neg h534) (Eq.trans (zn_eq hFv537.symm) (Eq.trans (if_neg h538) rfl)))))))
      · refine X.iconst 23 i39_22 rfl rfl (by decide) ?_
        refine X.goto 27 i39_23 rfl rfl ?_
        refine X.istore 29 [(0, zr g0 33), (1, zi y1), (2, zi y2), (4, zi y4), (5, zi y5), (6, zi 1)] i39_27 rfl rfl rfl ?_
        refine X.aload_n 30 i39_29 rfl rfl rfl ?_
        refine X.iload 32 i39_30 rfl rfl rfl ?_
        refine X.callv 35 [zi y5] [] [(0, zr g0 33), (1, zi y5)] i39_32 rfl (by decide) rfl rfl (by omega) rfl rfl (by decide) rfl t40 (Nat.le_of_ble_eq_true rfl) (Nat.le_of_ble_eq_true rfl) rfl ?_
        refine c40_1 (B := B) g0 y5 (by omega) (hJ.up (by omega)) (by omega) (by omega) (fun v547 hv547 hFv547 => ?_)
        show X (EE s) d 39 35 [(0, zr g0 33), (1, zi y1), (2, zi y2), (4, zi y4), (5, zi y5), (6, zi 1)] [zi v547] m _
        refine X.ifeq 45 38 i39_35 rfl rfl rfl (fun h548 => ?_) (fun h548 => ?_)
        · refine X.aload_n 46 i39_45 rfl rfl rfl ?_
          refine X.iload 48 i39_46 rfl rfl rfl ?_
          refine X.callv 51 [zi y5] [] [(0, zr g0 33), (1, zi y5)] i39_48 rfl (by decide) rfl rfl (by omega) rfl rfl (by decide) rfl t40 (Nat.le_of_ble_eq_true rfl) (Nat.le_of_ble_eq_true rfl) rfl ?_
          refine c40_1 (B := B) g0 y5 (by omega) (hJ.up (by omega)) (by omega) (by omega) (fun v551 hv551 hFv551 => ?_)
          show X (EE s) d 39 51 [(0, zr g0 33), (1, zi y1), (2, zi y2), (4, zi y4), (5, zi y5), (6, zi 1)] [zi v551] m _
          refine X.ifne 81 54 i39_51 rfl rfl rfl (fun h552 => (by exfalso; omega)) (fun h552 => ?_)
          refine X.iload 56 i39_54 rfl rfl rfl ?_
          refine X.ifeq 81 59 i39_56 rfl rfl rfl (fun h553 => (by exfalso; omega)) (fun h553 => ?_)
          refine X.iload 61 i39_59 rfl rfl rfl ?_
          refine X.iconst 62 i39_61 rfl rfl (by decide) ?_
          refine X.iload_n 63 i39_62 rfl rfl rfl ?_
          refine X.iconst 64 i39_63 rfl rfl (by decide) ?_
          refine X.iadd 65 i39_64 rfl rfl (by omega) ?_
          refine X.aload_n 66 i39_65 rfl rfl rfl ?_
          refine X.getR 69 i39_66 rfl rfl (by decide) rfl rfl ?_
          refine X.iload 71 i39_69 rfl rfl rfl ?_
          refine X.ialdr 72 i39_71 rfl rfl (by decide) rfl (by omega) (fun h554 => ?_)
          refine X.isubW 73 i39_72 rfl rfl (fun z555 ez555 hz555 => ?_)
          refine X.maxI 76 i39_73 rfl rfl (by omega) (Nat.le_of_ble_eq_true rfl) ?_
          refine X.minI 79 i39_76 rfl rfl (by omega) (Nat.le_of_ble_eq_true rfl) ?_
          refine X.istore 81 [(0, zr g0 33), (1, zi y1), (2, zi y2), (4, zi (min y4 (max 1 z555))), (5, zi y5), (6, zi 1)] i39_79 rfl rfl rfl ?_
          refine X.cut [(0, zr g0 33), (1, zi y1), (2, zi y2), (4, zi (min y4 (max 1 z555))), (5, zi y5)] i39_81 rfl ?_
          refine X.iinc 84 [(0, zr g0 33), (1, zi y1), (2, zi y2), (4, zi (min y4 (max 1 z555))), (5, zi (y5 + 1))] i39_81 rfl rfl rfl (by omega) rfl ?_
          refine X.goto 6 i39_84 rfl rfl ?_
          exact ih (min y4 (max 1 z555)) (y5 + 1) (by omega) (by omega) (by omega) (by omega) (by omega) (Eq.trans hR (Eq.trans (if_neg h531) (Eq.trans (zn_eq ez532) (Eq.trans (zn_eq ez533) (Eq.trans (if_pos h534) (Eq.trans (zn_eq hFv547.symm) (Eq.trans (if_pos h548) (Eq.trans (zn_eq hFv551.symm) (Eq.trans (zn_eq ez555) rfl)))))))))
        · refine X.iload 40 i39_38 rfl rfl rfl ?_
          refine X.ifne 45 43 i39_40 rfl rfl rfl (fun h556 => ?_) (fun h556 => (by exfalso; omega))
          refine X.aload_n 46 i39_45 rfl rfl rfl ?_
          refine X.iload 48 i39_46 rfl rfl rfl ?_
          refine X.callv 51 [zi y5] [] [(0, zr g0 33), (1, zi y5)] i39_48 rfl (by decide) rfl rfl (by omega) rfl rfl (by decide) rfl t40 (Nat.le_of_ble_eq_true rfl) (Nat.le_of_ble_eq_true rfl) rfl ?_
          refine c40_1 (B := B) g0 y5 (by omega) (hJ.up (by omega)) (by omega) (by omega) (fun v559 hv559 hFv559 => ?_)
          show X (EE s) d 39 51 [(0, zr g0 33), (1, zi y1), (2, zi y2), (4, zi y4), (5, zi y5), (6, zi 1)] [zi v559] m _
          refine X.ifne 81 54 i39_51 rfl rfl rfl (fun h560 => ?_) (fun h560 => (by exfalso; omega))
          refine X.cut [(0, zr g0 33), (1, zi y1), (2, zi y2), (4, zi y4), (5, zi y5)] i39_81 rfl ?_
          refine X.iinc 84 [(0, zr g0 33), (1, zi y1), (2, zi y2), (4, zi y4), (5, zi (y5 + 1))] i39_81 rfl rfl rfl (by omega) rfl ?_
          refine X.goto 6 i39_84 rfl rfl ?_
          exact ih y4 (y5 + 1) (by omega) (by omega) (by omega) (by omega) (by omega) (Eq.trans hR (Eq.trans (if_neg h531) (Eq.trans (zn_eq ez532) (Eq.trans (zn_eq ez533) (Eq.trans (if_pos h534) (Eq.trans (zn_eq hFv547.symm) (Eq.trans (if_neg h548) (Eq.trans (zn_eq hFv559.symm) rfl))))))))
-- WorkMeter$Marks.secondsToTurn
noncomputable def f39_1 (g0 : Nat) (a1 a2 a3 : Int) (m : zM) : Int :=
  fl39_6_1 (fun y501 y502 y503 =>
  1) (fun y508 =>
  y508) g0 a1 a2 a3 m (zfu 4) a3 2
-- WorkMeter$Marks.secondsToTurn
theorem c39_1 {s : Nat × (Nat → Int32)} {S : zS} {m0 m : zM} {B : Int} {d : Nat} {Q : Option zV → zM → Prop} (g0 : Nat) (a1 a2 a3 : Int) (hd : 14 ≤ d) (hJ : J S m0 B m) (hB : B + 0 ≤ 1000000000) (ha1 : (-2147483648) ≤ a1 ∧ a1 ≤ 2147483647) (ha2 : 0 ≤ a2 ∧ a2 ≤ 1000000) (ha3 : (-1999999999) ≤ a3 ∧ a3 ≤ 3600) (hp0 : 1 ≤ a3) (hQ : ∀ (v : Int), ((-1999999999) ≤ v ∧ v ≤ 3600) → f39_1 g0 a1 a2 a3 m = v → (1 ≤ v) → (v ≤ a3) → Q (some (zi v)) m) : X (EE s) d 39 0 [(0, zr g0 33), (1, zi a1), (2, zi a2), (3, zi a3)] [] m Q := by
  refine X.iload_n 1 i39_0 rfl rfl rfl ?_
  refine X.istore 3 [(0, zr g0 33), (1, zi a1), (2, zi a2), (3, zi a3), (4, zi a3)] i39_1 rfl rfl rfl ?_
  refine X.iconst 4 i39_3 rfl rfl (by decide) ?_
  refine X.istore 6 [(0, zr g0 33), (1, zi a1), (2, zi a2), (3, zi a3), (4, zi a3), (5, zi 2)] i39_4 rfl rfl rfl ?_
  refine X.cut [(0, zr g0 33), (1, zi a1), (2, zi a2), (4, zi a3), (5, zi 2)] i39_6 rfl ?_
  have hz4 := zfu_eq 4
  refine l39_6_1 (s := s) (m := m) (B := B) (d := d) (R0 := (f39_1 g0 a1 a2 a3 m)) g0 a1 a2 a3  (by omega) (hJ.up (by omega)) (by omega) (by omega) (by omega) (by omega) (fun y501 y502 y503 hby501 hby502 hby503 hrlm504_0 hrlm504_1 hR507 => ?_) (fun y508 hby508 hrlm509_0 hrlm509_1 hR512 => ?_) (zfu 4) a3 2 (by omega) (by omega) (by omega) (by omega) (by omega) rfl
  · refine X.iconst 44 i39_43 rfl rfl (by decide) ?_
    refine X.reti i39_44 rfl t39 ?_
    exact hQ 1 (by first | trivial | omega) (Eq.trans hR507 rfl) (by omega) (by omega)
  · refine X.iload 89 i39_87 rfl rfl rfl ?_
    refine X.reti i39_89 rfl t39 ?_
    exact hQ y508 (by first | trivial | omega) (Eq.trans hR512 rfl) (by omega) (by omega)
-- WorkMeter$Meter.isCreeping
noncomputable def f44_1 (g0 : Nat) (m : zM) : Int :=
  zn (if (m g0 8 12) = 0 then
  ((m g0 22 3))
  else
  (0)) fun v504 =>
  zn (if (m g0 8 12) = 0 then
  ((m g0 22 7))
  else
  (0)) fun v511 =>
  zn (w64 (max v504 (-v504))) fun z516 =>
  zn (if z516 < (m g0 10 0) then
  (zn (w64 (max v511 (-v511))) fun z519 =>
  if z519 < (m g0 10 0) then
  (1)
  else
  (0))
  else
  (0)) fun v522 =>
  v522
-- WorkMeter$Meter.isCreeping
theorem c44_1 {s : Nat × (Nat → Int32)} {S : zS} {m0 m : zM} {B : Int} {d : Nat} {Q : Option zV → zM → Prop} (g0 : Nat) (hd : 13 ≤ d) (hJ : J S m0 B m) (hB : B + 0 ≤ 1000000000) (hQ : ∀ (v : Int), (0 ≤ v ∧ v ≤ 1) → f44_1 g0 m = v → Q (some (zi v)) m) : X (EE s) d 44 0 [(0, zr g0 8)] [] m Q := by
  refine X.aload_n 1 i44_0 rfl rfl rfl ?_
  refine X.getR 4 i44_1 rfl rfl (by decide) rfl rfl ?_
  refine X.callv 7 [] [] [(0, zr g0 9)] i44_4 rfl (by decide) rfl rfl (by omega) rfl rfl (by decide) rfl t45 (Nat.le_of_ble_eq_true rfl) (Nat.le_of_ble_eq_true rfl) rfl ?_
  refine X.aload_n 1 i45_0 rfl rfl rfl ?_
  refine X.getR 4 i45_1 rfl rfl (by decide) rfl rfl ?_
  refine X.iconst 5 i45_4 rfl rfl (by decide) ?_
  refine X.iald 6 i45_5 rfl rfl (by decide) rfl (by omega) ?_
  have h501 := r10_0 hJ g0 (i := 0) (by omega)
  refine X.reti i45_6 rfl t45 ?_
  show X (EE s) d 44 7 [(0, zr g0 8)] [zi (m g0 10 0)] m _
  refine X.istore_n 8 [(0, zr g0 8), (1, zi (m g0 10 0))] i44_7 rfl rfl rfl ?_
  refine X.aload_n 9 i44_8 rfl rfl rfl ?_
  refine X.getZ 12 12 i44_9 rfl rfl (by decide) rfl rfl rfl (fun h502 => ?_)
  have hK507 : ∀ (v : Int) , (True) → (if (m g0 8 12) = 0 then
      ((m g0 22 3))
      else
      (0)) = v → X (EE s) d 44 26 [(0, zr g0 8), (1, zi (m g0 10 0))] [zl v] m Q := by
    intro v504 hv504 hT508
    refine X.lstore_n 27 [(0, zr g0 8), (1, zi (m g0 10 0)), (2, zl v504)] i44_26 rfl rfl rfl ?_
    refine X.aload_n 28 i44_27 rfl rfl rfl ?_
    refine X.getZ 31 12 i44_28 rfl rfl (by decide) rfl rfl rfl (fun h509 => ?_)
    have hK514 : ∀ (v : Int) , (True) → (if (m g0 8 12) = 0 then
        ((m g0 22 7))
        else
        (0)) = v → X (EE s) d 44 45 [(1, zi (m g0 10 0)), (2, zl v504)] [zl v] m Q := by
      intro v511 hv511 hT515
      refine X.lstore 47 [(1, zi (m g0 10 0)), (2, zl v504), (4, zl v511)] i44_45 rfl rfl rfl ?_
      refine X.lload_n 48 i44_47 rfl rfl rfl ?_
      refine X.absW 51 i44_48 rfl rfl (by omega) (Nat.le_of_ble_eq_true rfl) (fun z516 ez516 hz516 => ?_)
      refine X.iload_n 52 i44_51 rfl rfl rfl ?_
      refine X.i2l 53 i44_52 rfl rfl ?_
      refine X.lcmp 54 i44_53 rfl rfl (fun z517 hz517 => ?_)
      have hK525 : ∀ (v : Int) , (0 ≤ v ∧ v ≤ 1) → (if z516 < (m g0 10 0) then
          (zn (w64 (max v511 (-v511))) fun z519 =>
          if z519 < (m g0 10 0) then
          (1)
          else
          (0))
          else
          (0)) = v → X (EE s) d 44 73 [] [zi v] m Q := by
        intro v522 hv522 hT526
        refine X.retz i44_73 rfl t44 (by omega) ?_
        exact hQ v522 (by first | trivial | omega) (Eq.trans (zn_eq hT508.symm) (Eq.trans (zn_eq hT515.symm) (Eq.trans (zn_eq ez516) (Eq.trans (zn_eq hT526.symm) rfl)))) 
      refine X.ifge 72 57 i44_54 rfl rfl rfl (fun h518 => ?_) (fun h518 => ?_)
      · have h518c : ¬ z516 < (m g0 10 0) := by omega
        clear h518 hz517
        refine X.cut [] i44_72 rfl ?_
        refine X.iconst 73 i44_72 rfl rfl (by decide) ?_
        exact hK525 0 (by first | trivial | omega) (Eq.trans (if_neg h518c) rfl)
      · have h518c : z516 < (m g0 10 0) := by omega
        clear h518 hz517
        refine X.lload 59 i44_57 rfl rfl rfl ?_
        refine X.absW 62 i44_59 rfl rfl (by omega) (Nat.le_of_ble_eq_true rfl) (fun z519 ez519 hz519 => ?_)
        refine X.iload_n 63 i44_62 rfl rfl rfl ?_
        refine X.i2l 64 i44_63 rfl rfl ?_
        refine X.lcmp 65 i44_64 rfl rfl (fun z520 hz520 => ?_)
        refine X.ifge 72 68 i44_65 rfl rfl rfl (fun h521 => ?_) (fun h521 => ?_)
        · have h521c : ¬ z519 < (m g0 10 0) := by omega
          clear h521 hz520
          refine X.cut [] i44_72 rfl ?_
          refine X.iconst 73 i44_72 rfl rfl (by decide) ?_
          exact hK525 0 (by first | trivial | omega) (Eq.trans (if_pos h518c) (Eq.trans (zn_eq ez519) (Eq.trans (if_neg h521c) rfl)))
        · have h521c : z519 < (m g0 10 0) := by omega
          clear h521 hz520
          refine X.iconst 69 i44_68 rfl rfl (by decide) ?_
          refine X.goto 73 i44_69 rfl rfl ?_
          refine X.cut [] i44_73 rfl ?_
          exact hK525 1 (by first | trivial | omega) (Eq.trans (if_pos h518c) (Eq.trans (zn_eq ez519) (Eq.trans (if_pos h521c) rfl)))
    refine X.ifeq 38 34 i44_31 rfl rfl rfl (fun h510 => ?_) (fun h510 => ?_)
    · refine X.aload_n 39 i44_38 rfl rfl rfl ?_
      refine X.getR 42 i44_39 rfl rfl (by decide) rfl rfl ?_
      refine X.callv 45 [] [] [(0, zr g0 19)] i44_42 rfl (by decide) rfl rfl (by omega) rfl rfl (by decide) rfl t46 (Nat.le_of_ble_eq_true rfl) (Nat.le_of_ble_eq_true rfl) rfl ?_
      refine X.aload_n 1 i46_0 rfl rfl rfl ?_
      refine X.getR 4 i46_1 rfl rfl (by decide) rfl rfl ?_
      refine X.bipush 6 i46_4 rfl rfl (by decide) ?_
      refine X.lald 7 i46_6 rfl rfl (by decide) rfl (by omega) ?_
      refine X.retl i46_7 rfl t46 ?_
      show X (EE s) d 44 45 [(0, zr g0 8), (1, zi (m g0 10 0)), (2, zl v504)] [zl (m g0 22 7)] m _
      refine X.cut [(1, zi (m g0 10 0)), (2, zl v504)] i44_45 rfl ?_
      exact hK514 (m g0 22 7) (by first | trivial | omega) (Eq.trans (if_pos h510) rfl)
    · refine X.lconst (y := 0) 35 i44_34 rfl rfl rfl ?_
      refine X.goto 45 i44_35 rfl rfl ?_
      refine X.cut [(1, zi (m g0 10 0)), (2, zl v504)] i44_45 rfl ?_
      exact hK514 0 (by first | trivial | omega) (Eq.trans (if_neg h510) rfl)
  refine X.ifeq 19 15 i44_12 rfl rfl rfl (fun h503 => ?_) (fun h503 => ?_)
  · refine X.aload_n 20 i44_19 rfl rfl rfl ?_
    refine X.getR 23 i44_20 rfl rfl (by decide) rfl rfl ?_
    refine X.callv 26 [] [] [(0, zr g0 19)] i44_23 rfl (by decide) rfl rfl (by omega) rfl rfl (by decide) rfl t42 (Nat.le_of_ble_eq_true rfl) (Nat.le_of_ble_eq_true rfl) rfl ?_
    refine X.aload_n 1 i42_0 rfl rfl rfl ?_
    refine X.getR 4 i42_1 rfl rfl (by decide) rfl rfl ?_
    refine X.iconst 5 i42_4 rfl rfl (by decide) ?_
    refine X.lald 6 i42_5 rfl rfl (by decide) rfl (by omega) ?_
    refine X.retl i42_6 rfl t42 ?_
    show X (EE s) d 44 26 [(0, zr g0 8), (1, zi (m g0 10 0))] [zl (m g0 22 3)] m _
    exact hK507 (m g0 22 3) (by first | trivial | omega) (Eq.trans (if_pos h503) rfl)
  · refine X.lconst (y := 0) 16 i44_15 rfl rfl rfl ?_
    refine X.goto 26 i44_16 rfl rfl ?_
    exact hK507 0 (by first | trivial | omega) (Eq.trans (if_neg h503) rfl)
-- WorkMeter$Meter.secondsToOpen
noncomputable def f41_1 (g0 : Nat) (a1 a2 : Int) (m : zM) : Int :=
  if (m g0 8 11) = 0 then
  (a2)
  else
  (if (m g0 8 12) = 0 then
  (if (m g0 22 3) ≤ 0 then
  (a2)
  else
  (if (m g0 10 (6 + a1)) ≤ 0 then
  (a2)
  else
  (zn (f44_1 g0 m) fun v511 =>
  if v511 = 0 then
  (zn (w64 ((m g0 8 10) + (m g0 10 (6 + a1)))) fun z513 =>
  zn (w64 (z513 - 1)) fun z514 =>
  zn (w64 ((z514).tdiv (m g0 10 (6 + a1)))) fun z515 =>
  zn (w64 (((m g0 24 (0 + a1))).tdiv (max 1 (m g0 10 1)))) fun z517 =>
  zn (w64 (z517 + z515)) fun z518 =>
  zn (w64 (z518 * (max 1 (m g0 10 1)))) fun z519 =>
  zn (w64 (z519 - (m g0 24 (0 + a1)))) fun z520 =>
  zn (w64 (z520 + (m g0 22 3))) fun z521 =>
  zn (w64 (z521 - 1)) fun z522 =>
  zn (w64 ((z522).tdiv (m g0 22 3))) fun z523 =>
  (max 1 (min a2 z523)))
  else
  (a2))))
  else
  (a2))
-- WorkMeter$Meter.secondsToOpen
theorem c41_1 {s : Nat × (Nat → Int32)} {S : zS} {m0 m : zM} {B : Int} {d : Nat} {Q : Option zV → zM → Prop} (g0 : Nat) (a1 a2 : Int) (hd : 14 ≤ d) (hJ : J S m0 B m) (hB : B + 0 ≤ 1000000000) (ha1 : 0 ≤ a1 ∧ a1 ≤ 3) (ha2 : 1 ≤ a2 ∧ a2 ≤ 3600) (hp0 : 1 ≤ a2) (hQ : ∀ (v : Int), (1 ≤ v ∧ v ≤ 3600) → f41_1 g0 a1 a2 m = v → (1 ≤ v) → (v ≤ a2) → Q (some (zi v)) m) : X (EE s) d 41 0 [(0, zr g0 8), (1, zi a1), (2, zi a2)] [] m Q := by
  refine X.aload_n 1 i41_0 rfl rfl rfl ?_
  refine X.getR 4 i41_1 rfl rfl (by decide) rfl rfl ?_
  refine X.callv 7 [] [] [(0, zr g0 19)] i41_4 rfl (by decide) rfl rfl (by omega) rfl rfl (by decide) rfl t42 (Nat.le_of_ble_eq_true rfl) (Nat.le_of_ble_eq_true rfl) rfl ?_
  refine X.aload_n 1 i42_0 rfl rfl rfl ?_
  refine X.getR 4 i42_1 rfl rfl (by decide) rfl rfl ?_
  refine X.iconst 5 i42_4 rfl rfl (by decide) ?_
  refine X.lald 6 i42_5 rfl rfl (by decide) rfl (by omega) ?_
  refine X.retl i42_6 rfl t42 ?_
  show X (EE s) d 41 7 [(0, zr g0 8), (1, zi a1), (2, zi a2)] [zl (m g0 22 3)] m _
  refine X.lstore_n 8 [(0, zr g0 8), (1, zi a1), (2, zi a2), (3, zl (m g0 22 3))] i41_7 rfl rfl rfl ?_
  refine X.aload_n 9 i41_8 rfl rfl rfl ?_
  refine X.getR 12 i41_9 rfl rfl (by decide) rfl rfl ?_
  refine X.iload_n 13 i41_12 rfl rfl rfl ?_
  refine X.callv 16 [zi a1] [] [(0, zr g0 9), (1, zi a1)] i41_13 rfl (by decide) rfl rfl (by omega) rfl rfl (by decide) rfl t43 (Nat.le_of_ble_eq_true rfl) (Nat.le_of_ble_eq_true rfl) rfl ?_
  refine X.aload_n 1 i43_0 rfl rfl rfl ?_
  refine X.getR 4 i43_1 rfl rfl (by decide) rfl rfl ?_
  refine X.bipush 6 i43_4 rfl rfl (by decide) ?_
  refine X.iload_n 7 i43_6 rfl rfl rfl ?_
  refine X.iadd 8 i43_7 rfl rfl (by omega) ?_
  refine X.iald 9 i43_8 rfl rfl (by decide) rfl (by omega) ?_
  have h501 := r10_6 hJ g0 (i := (6 + a1)) (by omega)
  refine X.reti i43_9 rfl t43 ?_
  show X (EE s) d 41 16 [(0, zr g0 8), (1, zi a1), (2, zi a2), (3, zl (m g0 22 3))] [zi (m g0 10 (6 + a1))] m _
  refine X.istore 18 [(0, zr g0 8), (1, zi a1), (2, zi a2), (3, zl (m g0 22 3)), (5, zi (m g0 10 (6 + a1)))] i41_16 rfl rfl rfl ?_
  refine X.aload_n 19 i41_18 rfl rfl rfl ?_
  refine X.getZ 22 11 i41_19 rfl rfl (by decide) rfl rfl rfl (fun h502 => ?_)
  refine X.ifeq 50 25 i41_22 rfl rfl rfl (fun h503 => ?_) (fun h503 => ?_)
  · refine X.cut [(2, zi a2)] i41_50 rfl ?_
    refine X.iload_n 51 i41_50 rfl rfl rfl ?_
    refine X.reti i41_51 rfl t41 ?_
    exact hQ a2 (by first | trivial | omega) (Eq.trans (if_pos h503) rfl) (by omega) (by omega)
  · refine X.aload_n 26 i41_25 rfl rfl rfl ?_
    refine X.getZ 29 12 i41_26 rfl rfl (by decide) rfl rfl rfl (fun h504 => ?_)
    refine X.ifne 50 32 i41_29 rfl rfl rfl (fun h505 => ?_) (fun h505 => ?_)
    · refine X.cut [(2, zi a2)] i41_50 rfl ?_
      refine X.iload_n 51 i41_50 rfl rfl rfl ?_
      refine X.reti i41_51 rfl t41 ?_
      exact hQ a2 (by first | trivial | omega) (Eq.trans (if_neg h503) (Eq.trans (if_neg h505) rfl)) (by omega) (by omega)
    · refine X.lload_n 33 i41_32 rfl rfl rfl ?_
      refine X.lconst (y := 0) 34 i41_33 rfl rfl rfl ?_
      refine X.lcmp 35 i41_34 rfl rfl (fun z506 hz506 => ?_)
      refine X.ifle 50 38 i41_35 rfl rfl rfl (fun h507 => ?_) (fun h507 => ?_)
      · have h507c : (m g0 22 3) ≤ 0 := by omega
        clear h507 hz506
        refine X.cut [(2, zi a2)] i41_50 rfl ?_
        refine X.iload_n 51 i41_50 rfl rfl rfl ?_
        refine X.reti i41_51 rfl t41 ?_
        exact hQ a2 (by first | trivial | omega) (Eq.trans (if_neg h503) (Eq.trans (if_pos h505) (Eq.trans (if_pos h507c) rfl))) (by omega) (by omega)
      · have h507c : ¬ (m g0 22 3) ≤ 0 := by omega
        clear h507 hz506
        refine X.iload 40 i41_38 rfl rfl rfl ?_
        refine X.ifle 50 43 i41_40 rfl rfl rfl (fun h508 => ?_) (fun h508 => ?_)
        · refine X.cut [(2, zi a2)] i41_50 rfl ?_
          refine X.iload_n 51 i41_50 rfl rfl rfl ?_
          refine X.reti i41_51 rfl t41 ?_
          exact hQ a2 (by first | trivial | omega) (Eq.trans (if_neg h503) (Eq.trans (if_pos h505) (Eq.trans (if_neg h507c) (Eq.trans (if_pos h508) rfl)))) (by omega) (by omega)
        · refine X.aload_n 44 i41_43 rfl rfl rfl ?_
          refine X.callv 47 [] [] [(0, zr g0 8)] i41_44 rfl (by decide) rfl rfl (by omega) rfl rfl (by decide) rfl t44 (Nat.le_of_ble_eq_true rfl) (Nat.le_of_ble_eq_true rfl) rfl ?_
          refine c44_1 (B := B) g0  (by omega) (hJ.up (by omega)) (by omega)  (fun v511 hv511 hFv511 => ?_)
          show X (EE s) d 41 47 [(0, zr g0 8), (1, zi a1), (2, zi a2), (3, zl (m g0 22 3)), (5, zi (m g0 10 (6 + a1)))] [zi v511] m _
          refine X.ifeq 52 50 i41_47 rfl rfl rfl (fun h512 => ?_) (fun h512 => ?_)
          · refine X.aload_n 53 i41_52 rfl rfl rfl ?_
            refine X.getL 56 10 i41_53 rfl rfl (by decide) rfl rfl rfl ?_
            refine X.iload 58 i41_56 rfl rfl rfl ?_
            refine X.i2l 59 i41_58 rfl rfl ?_
            refine X.laddW 60 i41_59 rfl rfl (fun z513 ez513 hz513 => ?_)
            refine X.lconst (y := 1) 61 i41_60 rfl rfl rfl ?_
            refine X.lsubW 62 i41_61 rfl rfl (fun z514 ez514 hz514 => ?_)
            refine X.iload 64 i41_62 rfl rfl rfl ?_
            refine X.i2l 65 i41_64 rfl rfl ?_
            refine X.ldivW 66 i41_65 rfl rfl (by omega) (fun z515 ez515 hz515 => ?_)
            refine X.lstore 68 [(0, zr g0 8), (1, zi a1), (2, zi a2), (3, zl (m g0 22 3)), (5, zi (m g0 10 (6 + a1))), (6, zl z515)] i41_66 rfl rfl rfl ?_
            refine X.aload_n 69 i41_68 rfl rfl rfl ?_
            refine X.getR 72 i41_69 rfl rfl (by decide) rfl rfl ?_
            refine X.iload_n 73 i41_72 rfl rfl rfl ?_
            refine X.callv 76 [zi a1] [] [(0, zr g0 23), (1, zi a1)] i41_73 rfl (by decide) rfl rfl (by omega) rfl rfl (by decide) rfl t47 (Nat.le_of_ble_eq_true rfl) (Nat.le_of_ble_eq_true rfl) rfl ?_
            refine X.aload_n 1 i47_0 rfl rfl rfl ?_
            refine X.getR 4 i47_1 rfl rfl (by decide) rfl rfl ?_
            refine X.iconst 5 i47_4 rfl rfl (by decide) ?_
            refine X.iload_n 6 i47_5 rfl rfl rfl ?_
            refine X.iadd 7 i47_6 rfl rfl (by omega) ?_
            refine X.lald 8 i47_7 rfl rfl (by decide) rfl (by omega) ?_
            refine X.retl i47_8 rfl t47 ?_
            show X (EE s) d 41 76 [(0, zr g0 8), (1, zi a1), (2, zi a2), (3, zl (m g0 22 3)), (5, zi (m g0 10 (6 + a1))), (6, zl z515)] [zl (m g0 24 (0 + a1))] m _
            refine X.lstore 78 [(0, zr g0 8), (1, zi a1), (2, zi a2), (3, zl (m g0 22 3)), (5, zi (m g0 10 (6 + a1))), (6, zl z515), (8, zl (m g0 24 (0 + a1)))] i41_76 rfl rfl rfl ?_
            refine X.lload 80 i41_78 rfl rfl rfl ?_
            refine X.aload_n 81 i41_80 rfl rfl rfl ?_
            refine X.getR 84 i41_81 rfl rfl (by decide) rfl rfl ?_
            refine X.callv 87 [] [zl (m g0 24 (0 + a1))] [(0, zr g0 9)] i41_84 rfl (by decide) rfl rfl (by omega) rfl rfl (by decide) rfl t48 (Nat.le_of_ble_eq_true rfl) (Nat.le_of_ble_eq_true rfl) rfl ?_
            refine X.iconst 1 i48_0 rfl rfl (by decide) ?_
            refine X.aload_n 2 i48_1 rfl rfl rfl ?_
            refine X.getR 5 i48_2 rfl rfl (by decide) rfl rfl ?_
            refine X.iconst 6 i48_5 rfl rfl (by decide) ?_
            refine X.iald 7 i48_6 rfl rfl (by decide) rfl (by omega) ?_
            have h516 := r10_0 hJ g0 (i := 1) (by omega)
            refine X.maxI 10 i48_7 rfl rfl (by omega) (Nat.le_of_ble_eq_true rfl) ?_
            refine X.reti i48_10 rfl t48 ?_
            show X (EE s) d 41 87 [(0, zr g0 8), (1, zi a1), (2, zi a2), (3, zl (m g0 22 3)), (5, zi (m g0 10 (6 + a1))), (6, zl z515), (8, zl (m g0 24 (0 + a1)))] [zi (max 1 (m g0 10 1)), zl (m g0 24 (0 + a1))] m _
            refine X.i2l 88 i41_87 rfl rfl ?_
            refine X.ldivW 89 i41_88 rfl rfl (by omega) (fun z517 ez517 hz517 => ?_)
            refine X.lload 91 i41_89 rfl rfl rfl ?_
            refine X.laddW 92 i41_91 rfl rfl (fun z518 ez518 hz518 => ?_)
            refine X.aload_n 93 i41_92 rfl rfl rfl ?_
            refine X.getR 96 i41_93 rfl rfl (by decide) rfl rfl ?_
            refine X.callv 99 [] [zl z518] [(0, zr g0 9)] i41_96 rfl (by decide) rfl rfl (by omega) rfl rfl (by decide) rfl t48 (Nat.le_of_ble_eq_true rfl) (Nat.le_of_ble_eq_true rfl) rfl ?_
            refine X.iconst 1 i48_0 rfl rfl (by decide) ?_
            refine X.aload_n 2 i48_1 rfl rfl rfl ?_
            refine X.getR 5 i48_2 rfl rfl (by decide) rfl rfl ?_
            refine X.iconst 6 i48_5 rfl rfl (by decide) ?_
            refine X.iald 7 i48_6 rfl rfl (by decide) rfl (by omega) ?_
            refine X.maxI 10 i48_7 rfl rfl (by omega) (Nat.le_of_ble_eq_true rfl) ?_
            refine X.reti i48_10 rfl t48 ?_
            show X (EE s) d 41 99 [(0, zr g0 8), (1, zi a1), (2, zi a2), (3, zl (m g0 22 3)), (5, zi (m g0 10 (6 + a1))), (6, zl z515), (8, zl (m g0 24 (0 + a1)))] [zi (max 1 (m g0 10 1)), zl z518] m _
            refine X.i2l 100 i41_99 rfl rfl ?_
            refine X.lmulW 101 i41_100 rfl rfl (fun z519 ez519 hz519 => ?_)
            refine X.lload 103 i41_101 rfl rfl rfl ?_
            refine X.lsubW 104 i41_103 rfl rfl (fun z520 ez520 hz520 => ?_)
            refine X.lstore 106 [(0, zr g0 8), (1, zi a1), (2, zi a2), (3, zl (m g0 22 3)), (5, zi (m g0 10 (6 + a1))), (6, zl z515), (8, zl (m g0 24 (0 + a1))), (10, zl z520)] i41_104 rfl rfl rfl ?_
            refine X.lconst (y := 1) 107 i41_106 rfl rfl rfl ?_
            refine X.iload_n 108 i41_107 rfl rfl rfl ?_
            refine X.i2l 109 i41_108 rfl rfl ?_
            refine X.lload 111 i41_109 rfl rfl rfl ?_
            refine X.lload_n 112 i41_111 rfl rfl rfl ?_
            refine X.laddW 113 i41_112 rfl rfl (fun z521 ez521 hz521 => ?_)
            refine X.lconst (y := 1) 114 i41_113 rfl rfl rfl ?_
            refine X.lsubW 115 i41_114 rfl rfl (fun z522 ez522 hz522 => ?_)
            refine X.lload_n 116 i41_115 rfl rfl rfl ?_
            refine X.ldivW 117 i41_116 rfl rfl (by omega) (fun z523 ez523 hz523 => ?_)
            refine X.minL 120 i41_117 rfl rfl (by omega) (Nat.le_of_ble_eq_true rfl) ?_
            refine X.maxL 123 i41_120 rfl rfl (by omega) (Nat.le_of_ble_eq_true rfl) ?_
            refine X.l2i 124 i41_123 rfl rfl (by omega) ?_
            refine X.reti i41_124 rfl t41 ?_
            exact hQ (max 1 (min a2 z523)) (by first | trivial | omega) (Eq.trans (if_neg h503) (Eq.trans (if_pos h505) (Eq.trans (if_neg h507c) (Eq.trans (if_neg h508) (Eq.trans (zn_eq hFv511.symm) (Eq.trans (if_pos h512) (Eq.trans (zn_eq ez513) (Eq.trans (zn_eq ez514) (Eq.trans (zn_eq ez515) (Eq.trans (zn_eq ez517) (Eq.trans (zn_eq ez518) (Eq.trans (zn_eq ez519) (Eq.trans (zn_eq ez520) (Eq.trans (zn_eq ez521) (Eq.trans (zn_eq ez522) (Eq.trans (zn_eq ez523) rfl)))))))))))))))) (by omega) (by omega)
          · refine X.cut [(2, zi a2)] i41_50 rfl ?_
            refine X.iload_n 51 i41_50 rfl rfl rfl ?_
            refine X.reti i41_51 rfl t41 ?_
            exact hQ a2 (by first | trivial | omega) (Eq.trans (if_neg h503) (Eq.trans (if_pos h505) (Eq.trans (if_neg h507c) (Eq.trans (if_neg h508) (Eq.trans (zn_eq hFv511.symm) (Eq.trans (if_neg h512) rfl)))))) (by omega) (by omega)
-- WorkMeter$Meter.stretch
noncomputable def f35_1 (g0 : Nat) (a1 a2 a3 : Int) (m : zM) : Int :=
  if (m g0 8 9) < 2000000000 then
  (zn (f37_1 g0 (m g0 8 9) m) fun v506 =>
  zn (((m g0 8 9) % (max 1 (m g0 10 4)))) fun z507 =>
  zn (f39_1 g0 a3 (m g0 10 3) (min (min (min a1 (2000000000 - (m g0 8 9))) (v506 - (m g0 8 9))) ((max 1 (m g0 10 4)) - z507)) m) fun v511 =>
  zn (f41_1 g0 a2 v511 m) fun v514 =>
  v514)
  else
  (1)
-- WorkMeter$Meter.stretch
theorem c35_1 {s : Nat × (Nat → Int32)} {S : zS} {m0 m : zM} {B : Int} {d : Nat} {Q : Option zV → zM → Prop} (g0 : Nat) (a1 a2 a3 : Int) (hd : 16 ≤ d) (hJ : J S m0 B m) (hB : B + 0 ≤ 1000000000) (ha1 : 1 ≤ a1 ∧ a1 ≤ 3600) (ha2 : 0 ≤ a2 ∧ a2 ≤ 3) (ha3 : (-2147483648) ≤ a3 ∧ a3 ≤ 2147483647) (hp0 : 1 ≤ a1) (hQ : ∀ (v : Int), (1 ≤ v ∧ v ≤ 3600) → f35_1 g0 a1 a2 a3 m = v → (1 ≤ v) → (v + m g0 8 9 ≤ 2000000001) → (v ≤ a1) → Q (some (zi v)) m) : X (EE s) d 35 0 [(0, zr g0 8), (1, zi a1), (2, zi a2), (3, zi a3)] [] m Q := by
  refine X.aload_n 1 i35_0 rfl rfl rfl ?_
  refine X.getI 4 9 i35_1 rfl rfl (by decide) rfl rfl rfl ?_
  have h501 := r8_9 hJ g0
  refine X.ldc 6 i35_4 rfl rfl (by decide) ?_
  refine X.icmplt 11 9 i35_6 rfl rfl rfl (fun h502 => ?_) (fun h502 => ?_)
  · refine X.aload_n 12 i35_11 rfl rfl rfl ?_
    refine X.getR 15 i35_12 rfl rfl (by decide) rfl rfl ?_
    refine X.callv 18 [] [] [(0, zr g0 9)] i35_15 rfl (by decide) rfl rfl (by omega) rfl rfl (by decide) rfl t36 (Nat.le_of_ble_eq_true rfl) (Nat.le_of_ble_eq_true rfl) rfl ?_
    refine X.iconst 1 i36_0 rfl rfl (by decide) ?_
    refine X.aload_n 2 i36_1 rfl rfl rfl ?_
    refine X.getR 5 i36_2 rfl rfl (by decide) rfl rfl ?_
    refine X.iconst 6 i36_5 rfl rfl (by decide) ?_
    refine X.iald 7 i36_6 rfl rfl (by decide) rfl (by omega) ?_
    have h503 := r10_0 hJ g0 (i := 4) (by omega)
    refine X.maxI 10 i36_7 rfl rfl (by omega) (Nat.le_of_ble_eq_true rfl) ?_
    refine X.reti i36_10 rfl t36 ?_
    show X (EE s) d 35 18 [(0, zr g0 8), (1, zi a1), (2, zi a2), (3, zi a3)] [zi (max 1 (m g0 10 4))] m _
    refine X.istore 20 [(0, zr g0 8), (1, zi a1), (2, zi a2), (3, zi a3), (4, zi (max 1 (m g0 10 4)))] i35_18 rfl rfl rfl ?_
    refine X.iload_n 21 i35_20 rfl rfl rfl ?_
    refine X.ldc 23 i35_21 rfl rfl (by decide) ?_
    refine X.aload_n 24 i35_23 rfl rfl rfl ?_
    refine X.getI 27 9 i35_24 rfl rfl (by decide) rfl rfl rfl ?_
    refine X.isub 28 i35_27 rfl rfl (by omega) ?_
    refine X.minI 31 i35_28 rfl rfl (by omega) (Nat.le_of_ble_eq_true rfl) ?_
    refine X.istore 33 [(0, zr g0 8), (1, zi a1), (2, zi a2), (3, zi a3), (4, zi (max 1 (m g0 10 4))), (5, zi (min a1 (2000000000 - (m g0 8 9))))] i35_31 rfl rfl rfl ?_
    refine X.iload 35 i35_33 rfl rfl rfl ?_
    refine X.aload_n 36 i35_35 rfl rfl rfl ?_
    refine X.getR 39 i35_36 rfl rfl (by decide) rfl rfl ?_
    refine X.aload_n 40 i35_39 rfl rfl rfl ?_
    refine X.getI 43 9 i35_40 rfl rfl (by decide) rfl rfl rfl ?_
    refine X.callv 46 [zi (m g0 8 9)] [zi (min a1 (2000000000 - (m g0 8 9)))] [(0, zr g0 11), (1, zi (m g0 8 9))] i35_43 rfl (by decide) rfl rfl (by omega) rfl rfl (by decide) rfl t37 (Nat.le_of_ble_eq_true rfl) (Nat.le_of_ble_eq_true rfl) rfl ?_
    refine c37_1 (B := B) g0 (m g0 8 9) (by omega) (hJ.up (by omega)) (by omega) (by omega) (fun v506 hv506 hFv506 hqv506_0 => ?_)
    show X (EE s) d 35 46 [(0, zr g0 8), (1, zi a1), (2, zi a2), (3, zi a3), (4, zi (max 1 (m g0 10 4))), (5, zi (min a1 (2000000000 - (m g0 8 9))))] [zi v506, zi (min a1 (2000000000 - (m g0 8 9)))] m _
    refine X.aload_n 47 i35_46 rfl rfl rfl ?_
    refine X.getI 50 9 i35_47 rfl rfl (by decide) rfl rfl rfl ?_
    refine X.isub 51 i35_50 rfl rfl (by omega) ?_
    refine X.minI 54 i35_51 rfl rfl (by omega) (Nat.le_of_ble_eq_true rfl) ?_
    refine X.istore 56 [(0, zr g0 8), (1, zi a1), (2, zi a2), (3, zi a3), (4, zi (max 1 (m g0 10 4))), (5, zi (min (min a1 (2000000000 - (m g0 8 9))) (v506 - (m g0 8 9))))] i35_54 rfl rfl rfl ?_
    refine X.iload 58 i35_56 rfl rfl rfl ?_
    refine X.iload 60 i35_58 rfl rfl rfl ?_
    refine X.aload_n 61 i35_60 rfl rfl rfl ?_
    refine X.getI 64 9 i35_61 rfl rfl (by decide) rfl rfl rfl ?_
    refine X.iload 66 i35_64 rfl rfl rfl ?_
    refine X.irem 67 i35_66 rfl rfl (by omega) ?_
    have hz507 := z_modb (x := (m g0 8 9)) (y := (max 1 (m g0 10 4))) (by omega) (by omega)
    obtain ⟨z507, ez507⟩ : ∃ z, z = ((m g0 8 9) % (max 1 (m g0 10 4))) := ⟨_, rfl⟩
    rw [← ez507] at hz507 ⊢
    refine X.isub 68 i35_67 rfl rfl (by omega) ?_
    refine X.minI 71 i35_68 rfl rfl (by omega) (Nat.le_of_ble_eq_true rfl) ?_
    refine X.istore 73 [(0, zr g0 8), (1, zi a1), (2, zi a2), (3, zi a3), (4, zi (max 1 (m g0 10 4))), (5, zi (min (min (min a1 (2000000000 - (m g0 8 9))) (v506 - (m g0 8 9))) ((max 1 (m g0 10 4)) - z507)))] i35_71 rfl rfl rfl ?_
    refine X.aload_n 74 i35_73 rfl rfl rfl ?_
    refine X.getR 77 i35_74 rfl rfl (by decide) rfl rfl ?_
    refine X.iload_n 78 i35_77 rfl rfl rfl ?_
    refine X.aload_n 79 i35_78 rfl rfl rfl ?_
    refine X.getR 82 i35_79 rfl rfl (by decide) rfl rfl ?_
    refine X.callv 85 [] [zi a3, zr g0 33] [(0, zr g0 9)] i35_82 rfl (by decide) rfl rfl (by omega) rfl rfl (by decide) rfl t38 (Nat.le_of_ble_eq_true rfl) (Nat.le_of_ble_eq_true rfl) rfl ?_
    refine X.aload_n 1 i38_0 rfl rfl rfl ?_
    refine X.getR 4 i38_1 rfl rfl (by decide) rfl rfl ?_
    refine X.iconst 5 i38_4 rfl rfl (by decide) ?_
    refine X.iald 6 i38_5 rfl rfl (by decide) rfl (by omega) ?_
    have h508 := r10_0 hJ g0 (i := 3) (by omega)
    refine X.reti i38_6 rfl t38 ?_
    show X (EE s) d 35 85 [(0, zr g0 8), (1, zi a1), (2, zi a2), (3, zi a3), (4, zi (max 1 (m g0 10 4))), (5, zi (min (min (min a1 (2000000000 - (m g0 8 9))) (v506 - (m g0 8 9))) ((max 1 (m g0 10 4)) - z507)))] [zi (m g0 10 3), zi a3, zr g0 33] m _
    refine X.iload 87 i35_85 rfl rfl rfl ?_
    refine X.callv 90 [zi a3, zi (m g0 10 3), zi (min (min (min a1 (2000000000 - (m g0 8 9))) (v506 - (m g0 8 9))) ((max 1 (m g0 10 4)) - z507))] [] [(0, zr g0 33), (1, zi a3), (2, zi (m g0 10 3)), (3, zi (min (min (min a1 (2000000000 - (m g0 8 9))) (v506 - (m g0 8 9))) ((max 1 (m g0 10 4)) - z507)))] i35_87 rfl (by decide) rfl rfl (by omega) rfl rfl (by decide) rfl t39 (Nat.le_of_ble_eq_true rfl) (Nat.le_of_ble_eq_true rfl) rfl ?_
    refine c39_1 (B := B) g0 a3 (m g0 10 3) (min (min (min a1 (2000000000 - (m g0 8 9))) (v506 - (m g0 8 9))) ((max 1 (m g0 10 4)) - z507)) (by omega) (hJ.up (by omega)) (by omega) (by omega) (by omega) (by omega) (by omega) (fun v511 hv511 hFv511 hqv511_0 hqv511_1 => ?_)
    show X (EE s) d 35 90 [(0, zr g0 8), (1, zi a1), (2, zi a2), (3, zi a3), (4, zi (max 1 (m g0 10 4))), (5, zi (min (min (min a1 (2000000000 - (m g0 8 9))) (v506 - (m g0 8 9))) ((max 1 (m g0 10 4)) - z507)))] [zi v511] m _
    refine X.istore 92 [(0, zr g0 8), (1, zi a1), (2, zi a2), (3, zi a3), (4, zi (max 1 (m g0 10 4))), (5, zi v511)] i35_90 rfl rfl rfl ?_
    refine X.aload_n 93 i35_92 rfl rfl rfl ?_
    refine X.iload_n 94 i35_93 rfl rfl rfl ?_
    refine X.iload 96 i35_94 rfl rfl rfl ?_
    refine X.callv 99 [zi a2, zi v511] [] [(0, zr g0 8), (1, zi a2), (2, zi v511)] i35_96 rfl (by decide) rfl rfl (by omega) rfl rfl (by decide) rfl t41 (Nat.le_of_ble_eq_true rfl) (Nat.le_of_ble_eq_true rfl) rfl ?_
    refine c41_1 (B := B) g0 a2 v511 (by omega) (hJ.up (by omega)) (by omega) (by omega) (by omega) (by omega) (fun v514 hv514 hFv514 hqv514_0 hqv514_1 => ?_)
    show X (EE s) d 35 99 [(0, zr g0 8), (1, zi a1), (2, zi a2), (3, zi a3), (4, zi (max 1 (m g0 10 4))), (5, zi v511)] [zi v514] m _
    refine X.reti i35_99 rfl t35 ?_
    exact hQ v514 (by first | trivial | omega) (Eq.trans (if_pos h502) (Eq.trans (zn_eq hFv506.symm) (Eq.trans (zn_eq ez507) (Eq.trans (zn_eq hFv511.symm) (Eq.trans (zn_eq hFv514.symm) rfl))))) (by omega) (by omega) (by omega)
  · refine X.iconst 10 i35_9 rfl rfl (by decide) ?_
    refine X.reti i35_10 rfl t35 ?_
    exact hQ 1 (by first | trivial | omega) (Eq.trans (if_neg h502) rfl) (by omega) (by omega) (by omega)
-- WorkMeter$Wave.quadrantOf
noncomputable def f51_1 (a0 a1 : Int) (m : zM) : Int :=
  if a0 < 0 then
  (zn (if a1 < 0 then
  (3)
  else
  (2)) fun v505 =>
  v505)
  else
  (zn (if a1 < 0 then
  (4)
  else
  (1)) fun v512 =>
  v512)
-- WorkMeter$Wave.quadrantOf
theorem c51_1 {s : Nat × (Nat → Int32)} {S : zS} {m0 m : zM} {B : Int} {d : Nat} {Q : Option zV → zM → Prop} (a0 a1 : Int) (hd : 13 ≤ d) (hJ : J S m0 B m) (hB : B + 0 ≤ 1000000000) (hQ : ∀ (v : Int), (1 ≤ v ∧ v ≤ 4) → f51_1 a0 a1 m = v → Q (some (zi v)) m) : X (EE s) d 51 0 [(0, zl a0), (2, zl a1)] [] m Q := by
  refine X.lload_n 1 i51_0 rfl rfl rfl ?_
  refine X.lconst (y := 0) 2 i51_1 rfl rfl rfl ?_
  refine X.lcmp 3 i51_2 rfl rfl (fun z501 hz501 => ?_)
  refine X.iflt 18 6 i51_3 rfl rfl rfl (fun h502 => ?_) (fun h502 => ?_)
  · have h502c : a0 < 0 := by omega
    clear h502 hz501
    refine X.cut [(2, zl a1)] i51_18 rfl ?_
    refine X.lload_n 19 i51_18 rfl rfl rfl ?_
    refine X.lconst (y := 0) 20 i51_19 rfl rfl rfl ?_
    refine X.lcmp 21 i51_20 rfl rfl (fun z503 hz503 => ?_)
    have hK508 : ∀ (v : Int) , (2 ≤ v ∧ v ≤ 3) → (if a1 < 0 then
        (3)
        else
        (2)) = v → X (EE s) d 51 29 [] [zi v] m Q := by
      intro v505 hv505 hT509
      refine X.reti i51_29 rfl t51 ?_
      exact hQ v505 (by first | trivial | omega) (Eq.trans (if_pos h502c) (Eq.trans (zn_eq hT509.symm) rfl)) 
    refine X.iflt 28 24 i51_21 rfl rfl rfl (fun h504 => ?_) (fun h504 => ?_)
    · have h504c : a1 < 0 := by omega
      clear h504 hz503
      refine X.cut [] i51_28 rfl ?_
      refine X.iconst 29 i51_28 rfl rfl (by decide) ?_
      exact hK508 3 (by first | trivial | omega) (Eq.trans (if_pos h504c) rfl)
    · have h504c : ¬ a1 < 0 := by omega
      clear h504 hz503
      refine X.iconst 25 i51_24 rfl rfl (by decide) ?_
      refine X.goto 29 i51_25 rfl rfl ?_
      refine X.cut [] i51_29 rfl ?_
      exact hK508 2 (by first | trivial | omega) (Eq.trans (if_neg h504c) rfl)
  · have h502c : ¬ a0 < 0 := by omega
    clear h502 hz501
    refine X.lload_n 7 i51_6 rfl rfl rfl ?_
    refine X.lconst (y := 0) 8 i51_7 rfl rfl rfl ?_
    refine X.lcmp 9 i51_8 rfl rfl (fun z510 hz510 => ?_)
    have hK515 : ∀ (v : Int) , (1 ≤ v ∧ v ≤ 4) → (if a1 < 0 then
        (4)
        else
        (1)) = v → X (EE s) d 51 17 [] [zi v] m Q := by
      intro v512 hv512 hT516
      refine X.reti i51_17 rfl t51 ?_
      exact hQ v512 (by first | trivial | omega) (Eq.trans (if_neg h502c) (Eq.trans (zn_eq hT516.symm) rfl)) 
    refine X.iflt 16 12 i51_9 rfl rfl rfl (fun h511 => ?_) (fun h511 => ?_)
    · have h511c : a1 < 0 := by omega
      clear h511 hz510
      refine X.cut [] i51_16 rfl ?_
      refine X.iconst 17 i51_16 rfl rfl (by decide) ?_
      exact hK515 4 (by first | trivial | omega) (Eq.trans (if_pos h511c) rfl)
    · have h511c : ¬ a1 < 0 := by omega
      clear h511 hz510
      refine X.iconst 13 i51_12 rfl rfl (by decide) ?_
      refine X.goto 17 i51_13 rfl rfl ?_
      refine X.cut [] i51_17 rfl ?_
      exact hK515 1 (by first | trivial | omega) (Eq.trans (if_neg h511c) rfl)
-- WorkMeter$Registers.count
noncomputable def f50_1 (g0 : Nat) (a1 a2 a3 a4 : Int) (m : zM) : zM :=
  zs (if a2 ≤ 0 then
  (zn (w64 ((m g0 24 (4 + a1)) - a2)) fun z503 =>
  zs (z_upd m g0 24 (4 + a1) z503) fun m504 =>
  m504)
  else
  (zn (w64 ((m g0 24 (0 + a1)) + a2)) fun z506 =>
  zs (z_upd m g0 24 (0 + a1) z506) fun m507 =>
  m507)) fun m510 =>
  zn (f51_1 a2 a3 m510) fun v516 =>
  zn (w64 (max a3 (-a3))) fun z517 =>
  zn (w64 ((m510 g0 24 ((((2 + v516) - 1) * 4) + a1)) + z517)) fun z518 =>
  zs (z_upd m510 g0 24 ((((2 + v516) - 1) * 4) + a1) z518) fun m519 =>
  zn (w64 ((m519 g0 24 (24 + a1)) + a4)) fun z521 =>
  zs (z_upd m519 g0 24 (24 + a1) z521) fun m522 =>
  m522
-- WorkMeter$Registers.count
theorem c50_1 {s : Nat × (Nat → Int32)} {S : zS} {m0 m : zM} {B : Int} {d : Nat} {Q : Option zV → zM → Prop} (g0 : Nat) (a1 a2 a3 a4 : Int) (hd : 14 ≤ d) (hJ : J S m0 B m) (hB : B + 0 ≤ 1000000000) (ha1 : 0 ≤ a1 ∧ a1 ≤ 3) (hf10 : ¬ S.1 10) (hgg0 : ¬ S.2.1 g0) (hQ : ∀ m', f50_1 g0 a1 a2 a3 a4 m = m' → J S m0 (B) m' → Q none m') : X (EE s) d 50 0 [(0, zr g0 23), (1, zi a1), (2, zl a2), (4, zl a3), (6, zl a4)] [] m Q := by
  refine X.lload_n 1 i50_0 rfl rfl rfl ?_
  refine X.lconst (y := 0) 2 i50_1 rfl rfl rfl ?_
  refine X.lcmp 3 i50_2 rfl rfl (fun z501 hz501 => ?_)
  have hK512 : ∀ (m' : zM), (if a2 ≤ 0 then
      (zn (w64 ((m g0 24 (4 + a1)) - a2)) fun z503 =>
      zs (z_upd m g0 24 (4 + a1) z503) fun m504 =>
      m504)
      else
      (zn (w64 ((m g0 24 (0 + a1)) + a2)) fun z506 =>
      zs (z_upd m g0 24 (0 + a1) z506) fun m507 =>
      m507)) = m' → J S m0 (B) m' → X (EE s) d 50 33 [(0, zr g0 23), (1, zi a1), (2, zl a2), (4, zl a3), (6, zl a4)] [] m' Q := by
    intro m510 hT513 hJ511
    refine X.iconst 34 i50_33 rfl rfl (by decide) ?_
    refine X.lload_n 35 i50_34 rfl rfl rfl ?_
    refine X.lload 37 i50_35 rfl rfl rfl ?_
    refine X.calls 40 [zl a2, zl a3] [zi 2] [(0, zl a2), (2, zl a3)] i50_37 (by decide) rfl rfl (by omega) rfl rfl t51 (Nat.le_of_ble_eq_true rfl) (Nat.le_of_ble_eq_true rfl) rfl ?_
    refine c51_1 (B := B)  a2 a3 (by omega) (hJ511.up (by omega)) (by omega)  (fun v516 hv516 hFv516 => ?_)
    show X (EE s) d 50 40 [(0, zr g0 23), (1, zi a1), (2, zl a2), (4, zl a3), (6, zl a4)] [zi v516, zi 2] m510 _
    refine X.iadd 41 i50_40 rfl rfl (by omega) ?_
    refine X.iconst 42 i50_41 rfl rfl (by decide) ?_
    refine X.isub 43 i50_42 rfl rfl (by omega) ?_
    refine X.istore 45 [(0, zr g0 23), (1, zi a1), (2, zl a2), (4, zl a3), (6, zl a4), (8, zi ((2 + v516) - 1))] i50_43 rfl rfl rfl ?_
    refine X.aload_n 46 i50_45 rfl rfl rfl ?_
    refine X.getR 49 i50_46 rfl rfl (by decide) rfl rfl ?_
    refine X.iload 51 i50_49 rfl rfl rfl ?_
    refine X.iconst 52 i50_51 rfl rfl (by decide) ?_
    refine X.imul 53 i50_52 rfl rfl (by omega) ?_
    refine X.iload_n 54 i50_53 rfl rfl rfl ?_
    refine X.iadd 55 i50_54 rfl rfl (by omega) ?_
    refine X.dup2 56 i50_55 rfl rfl ?_
    refine X.lald 57 i50_56 rfl rfl (by decide) rfl (by omega) ?_
    refine X.lload 59 i50_57 rfl rfl rfl ?_
    refine X.absW 62 i50_59 rfl rfl (by omega) (Nat.le_of_ble_eq_true rfl) (fun z517 ez517 hz517 => ?_)
    refine X.laddW 63 i50_62 rfl rfl (fun z518 ez518 hz518 => ?_)
    refine X.last' 64 i50_63 rfl rfl (by decide) rfl (by omega) (fun hrm519 m519 hm519 => ?_)
    have hJ520 := w24_0 hJ511 hm519 (by omega) hrm519 hf10 hgg0
    refine X.aload_n 65 i50_64 rfl rfl rfl ?_
    refine X.getR 68 i50_65 rfl rfl (by decide) rfl rfl ?_
    refine X.bipush 70 i50_68 rfl rfl (by decide) ?_
    refine X.iload_n 71 i50_70 rfl rfl rfl ?_
    refine X.iadd 72 i50_71 rfl rfl (by omega) ?_
    refine X.dup2 73 i50_72 rfl rfl ?_
    refine X.lald 74 i50_73 rfl rfl (by decide) rfl (by omega) ?_
    refine X.lload 76 i50_74 rfl rfl rfl ?_
    refine X.laddW 77 i50_76 rfl rfl (fun z521 ez521 hz521 => ?_)
    refine X.last' 78 i50_77 rfl rfl (by decide) rfl (by omega) (fun hrm522 m522 hm522 => ?_)
    have hJ523 := w24_0 hJ520 hm522 (by omega) hrm522 hf10 hgg0
    refine X.retv i50_78 rfl t50 ?_
    exact hQ  m522  (Eq.trans (zs_eq hT513.symm) (Eq.trans (zn_eq hFv516.symm) (Eq.trans (zn_eq ez517) (Eq.trans (zn_eq ez518) (Eq.trans (zs_eq hm519) (Eq.trans (zn_eq ez521) (Eq.trans (zs_eq hm522) rfl))))))) (hJ523.up (by omega)) 
  refine X.ifle 21 6 i50_3 rfl rfl rfl (fun h502 => ?_) (fun h502 => ?_)
  · have h502c : a2 ≤ 0 := by omega
    clear h502 hz501
    refine X.aload_n 22 i50_21 rfl rfl rfl ?_
    refine X.getR 25 i50_22 rfl rfl (by decide) rfl rfl ?_
    refine X.iconst 26 i50_25 rfl rfl (by decide) ?_
    refine X.iload_n 27 i50_26 rfl rfl rfl ?_
    refine X.iadd 28 i50_27 rfl rfl (by omega) ?_
    refine X.dup2 29 i50_28 rfl rfl ?_
    refine X.lald 30 i50_29 rfl rfl (by decide) rfl (by omega) ?_
    refine X.lload_n 31 i50_30 rfl rfl rfl ?_
    refine X.lsubW 32 i50_31 rfl rfl (fun z503 ez503 hz503 => ?_)
    refine X.last' 33 i50_32 rfl rfl (by decide) rfl (by omega) (fun hrm504 m504 hm504 => ?_)
    have hJ505 := w24_0 hJ hm504 (by omega) hrm504 hf10 hgg0
    exact hK512 m504 (Eq.trans (if_pos h502c) (Eq.trans (zn_eq ez503) (Eq.trans (zs_eq hm504) rfl))) (hJ505.up (by omega))
  · have h502c : ¬ a2 ≤ 0 := by omega
    clear h502 hz501
    refine X.aload_n 7 i50_6 rfl rfl rfl ?_
    refine X.getR 10 i50_7 rfl rfl (by decide) rfl rfl ?_
    refine X.iconst 11 i50_10 rfl rfl (by decide) ?_
    refine X.iload_n 12 i50_11 rfl rfl rfl ?_
    refine X.iadd 13 i50_12 rfl rfl (by omega) ?_
    refine X.dup2 14 i50_13 rfl rfl ?_
    refine X.lald 15 i50_14 rfl rfl (by decide) rfl (by omega) ?_
    refine X.lload_n 16 i50_15 rfl rfl rfl ?_
    refine X.laddW 17 i50_16 rfl rfl (fun z506 ez506 hz506 => ?_)
    refine X.last' 18 i50_17 rfl rfl (by decide) rfl (by omega) (fun hrm507 m507 hm507 => ?_)
    have hJ508 := w24_0 hJ hm507 (by omega) hrm507 hf10 hgg0
    refine X.goto 33 i50_18 rfl rfl ?_
    exact hK512 m507 (Eq.trans (if_neg h502c) (Eq.trans (zn_eq ez506) (Eq.trans (zs_eq hm507) rfl))) (hJ508.up (by omega))
-- WorkMeter$Load.addPower
noncomputable def f52_1 (g0 : Nat) (a1 a2 : Int) (m : zM) : zM :=
  zs (if a1 ≤ 0 then
  (zn (w64 ((m g0 27 4) - a1)) fun z503 =>
  zs (z_upd m g0 27 4 z503) fun m504 =>
  m504)
  else
  (zn (w64 ((m g0 27 3) + a1)) fun z506 =>
  zs (z_upd m g0 27 3 z506) fun m507 =>
  m507)) fun m510 =>
  zn (w64 ((m510 g0 27 5) + a2)) fun z514 =>
  zs (z_upd m510 g0 27 5 z514) fun m515 =>
  m515
-- WorkMeter$Load.addPower
theorem c52_1 {s : Nat × (Nat → Int32)} {S : zS} {m0 m : zM} {B : Int} {d : Nat} {Q : Option zV → zM → Prop} (g0 : Nat) (a1 a2 : Int) (hd : 13 ≤ d) (hJ : J S m0 B m) (hB : B + 0 ≤ 1000000000) (hf7 : ¬ S.1 7) (hgg0 : ¬ S.2.1 g0) (hQ : ∀ m', f52_1 g0 a1 a2 m = m' → J S m0 (B) m' → Q none m') : X (EE s) d 52 0 [(0, zr g0 27), (1, zl a1), (3, zl a2)] [] m Q := by
  refine X.lload_n 1 i52_0 rfl rfl rfl ?_
  refine X.lconst (y := 0) 2 i52_1 rfl rfl rfl ?_
  refine X.lcmp 3 i52_2 rfl rfl (fun z501 hz501 => ?_)
  have hK512 : ∀ (m' : zM), (if a1 ≤ 0 then
      (zn (w64 ((m g0 27 4) - a1)) fun z503 =>
      zs (z_upd m g0 27 4 z503) fun m504 =>
      m504)
      else
      (zn (w64 ((m g0 27 3) + a1)) fun z506 =>
      zs (z_upd m g0 27 3 z506) fun m507 =>
      m507)) = m' → J S m0 (B) m' → X (EE s) d 52 29 [(0, zr g0 27), (3, zl a2)] [] m' Q := by
    intro m510 hT513 hJ511
    refine X.aload_n 30 i52_29 rfl rfl rfl ?_
    refine X.dup 31 i52_30 rfl rfl rfl ?_
    refine X.getL 34 5 i52_31 rfl rfl (by decide) rfl rfl rfl ?_
    refine X.lload_n 35 i52_34 rfl rfl rfl ?_
    refine X.laddW 36 i52_35 rfl rfl (fun z514 ez514 hz514 => ?_)
    refine X.putL' 39 5 i52_36 rfl rfl (by decide) rfl rfl rfl (fun hrm515 m515 hm515 => ?_)
    have hJ516 := w27_3 hJ511 hm515 (by omega) hrm515 hf7 hgg0
    refine X.retv i52_39 rfl t52 ?_
    exact hQ  m515  (Eq.trans (zs_eq hT513.symm) (Eq.trans (zn_eq ez514) (Eq.trans (zs_eq hm515) rfl))) (hJ516.up (by omega)) 
  refine X.ifle 19 6 i52_3 rfl rfl rfl (fun h502 => ?_) (fun h502 => ?_)
  · have h502c : a1 ≤ 0 := by omega
    clear h502 hz501
    refine X.aload_n 20 i52_19 rfl rfl rfl ?_
    refine X.dup 21 i52_20 rfl rfl rfl ?_
    refine X.getL 24 4 i52_21 rfl rfl (by decide) rfl rfl rfl ?_
    refine X.lload_n 25 i52_24 rfl rfl rfl ?_
    refine X.lsubW 26 i52_25 rfl rfl (fun z503 ez503 hz503 => ?_)
    refine X.putL' 29 4 i52_26 rfl rfl (by decide) rfl rfl rfl (fun hrm504 m504 hm504 => ?_)
    have hJ505 := w27_3 hJ hm504 (by omega) hrm504 hf7 hgg0
    refine X.cut [(0, zr g0 27), (3, zl a2)] i52_29 rfl ?_
    exact hK512 m504 (Eq.trans (if_pos h502c) (Eq.trans (zn_eq ez503) (Eq.trans (zs_eq hm504) rfl))) (hJ505.up (by omega))
  · have h502c : ¬ a1 ≤ 0 := by omega
    clear h502 hz501
    refine X.aload_n 7 i52_6 rfl rfl rfl ?_
    refine X.dup 8 i52_7 rfl rfl rfl ?_
    refine X.getL 11 3 i52_8 rfl rfl (by decide) rfl rfl rfl ?_
    refine X.lload_n 12 i52_11 rfl rfl rfl ?_
    refine X.laddW 13 i52_12 rfl rfl (fun z506 ez506 hz506 => ?_)
    refine X.putL' 16 3 i52_13 rfl rfl (by decide) rfl rfl rfl (fun hrm507 m507 hm507 => ?_)
    have hJ508 := w27_3 hJ hm507 (by omega) hrm507 hf7 hgg0
    refine X.goto 29 i52_16 rfl rfl ?_
    refine X.cut [(0, zr g0 27), (3, zl a2)] i52_29 rfl ?_
    exact hK512 m507 (Eq.trans (if_neg h502c) (Eq.trans (zn_eq ez506) (Eq.trans (zs_eq hm507) rfl))) (hJ508.up (by omega))
-- WorkMeter$Meter.meterPower
noncomputable def f49_1 (g0 : Nat) (a1 a2 : Int) (m : zM) : zM :=
  zn (f44_1 g0 m) fun v503 =>
  if v503 = 0 then
  (if (m g0 8 12) = 0 then
  (zn (w64 ((m g0 22 3) * a1)) fun z507 =>
  zn (w64 ((m g0 19 6) * a1)) fun z508 =>
  zn (w64 (((m g0 24 (0 + a2))).tdiv (max 1 (m g0 10 1)))) fun z510 =>
  zn (w64 ((m g0 22 7) * a1)) fun z511 =>
  zs (f50_1 g0 a2 z507 z511 z508 m) fun m512 =>
  zn (w64 (((m512 g0 24 (0 + a2))).tdiv (max 1 (m512 g0 10 1)))) fun z516 =>
  zn (w64 (z516 - z510)) fun z517 =>
  zn (w64 (z517 * (m512 g0 10 (6 + a2)))) fun z519 =>
  zn (w64 ((m512 g0 8 10) - z519)) fun z520 =>
  zs (z_upd m512 g0 8 10 z520) fun m521 =>
  zs (f52_1 g0 z507 z508 m521) fun m523 =>
  m523)
  else
  (m))
  else
  (zn (w32 ((m g0 8 14) + a1)) fun z527 =>
  zs (z_upd m g0 8 14 z527) fun m528 =>
  m528)
-- WorkMeter$Meter.meterPower
theorem c49_1 {s : Nat × (Nat → Int32)} {S : zS} {m0 m : zM} {B : Int} {d : Nat} {Q : Option zV → zM → Prop} (g0 : Nat) (a1 a2 : Int) (hd : 15 ≤ d) (hJ : J S m0 B m) (hB : B + 0 ≤ 1000000000) (ha1 : 1 ≤ a1 ∧ a1 ≤ 3600) (ha2 : 0 ≤ a2 ∧ a2 ≤ 3) (hf7 : ¬ S.1 7) (hf10 : ¬ S.1 10) (hf12 : ¬ S.1 12) (hf13 : ¬ S.1 13) (hgg0 : ¬ S.2.1 g0) (hQ : ∀ m', f49_1 g0 a1 a2 m = m' → J S m0 (B) m' → Q none m') : X (EE s) d 49 0 [(0, zr g0 8), (1, zi a1), (2, zi a2)] [] m Q := by
  refine X.aload_n 1 i49_0 rfl rfl rfl ?_
  refine X.callv 4 [] [] [(0, zr g0 8)] i49_1 rfl (by decide) rfl rfl (by omega) rfl rfl (by decide) rfl t44 (Nat.le_of_ble_eq_true rfl) (Nat.le_of_ble_eq_true rfl) rfl ?_
  refine c44_1 (B := B) g0  (by omega) (hJ.up (by omega)) (by omega)  (fun v503 hv503 hFv503 => ?_)
  show X (EE s) d 49 4 [(0, zr g0 8), (1, zi a1), (2, zi a2)] [zi v503] m _
  refine X.ifeq 18 7 i49_4 rfl rfl rfl (fun h504 => ?_) (fun h504 => ?_)
  · refine X.aload_n 19 i49_18 rfl rfl rfl ?_
    refine X.getZ 22 12 i49_19 rfl rfl (by decide) rfl rfl rfl (fun h505 => ?_)
    refine X.ifeq 26 25 i49_22 rfl rfl rfl (fun h506 => ?_) (fun h506 => ?_)
    · refine X.aload_n 27 i49_26 rfl rfl rfl ?_
      refine X.getR 30 i49_27 rfl rfl (by decide) rfl rfl ?_
      refine X.callv 33 [] [] [(0, zr g0 19)] i49_30 rfl (by decide) rfl rfl (by omega) rfl rfl (by decide) rfl t42 (Nat.le_of_ble_eq_true rfl) (Nat.le_of_ble_eq_true rfl) rfl ?_
      refine X.aload_n 1 i42_0 rfl rfl rfl ?_
      refine X.getR 4 i42_1 rfl rfl (by decide) rfl rfl ?_
      refine X.iconst 5 i42_4 rfl rfl (by decide) ?_
      refine X.lald 6 i42_5 rfl rfl (by decide) rfl (by omega) ?_
      refine X.retl i42_6 rfl t42 ?_
      show X (EE s) d 49 33 [(0, zr g0 8), (1, zi a1), (2, zi a2)] [zl (m g0 22 3)] m _
      refine X.iload_n 34 i49_33 rfl rfl rfl ?_
      refine X.i2l 35 i49_34 rfl rfl ?_
      refine X.lmulW 36 i49_35 rfl rfl (fun z507 ez507 hz507 => ?_)
      refine X.lstore_n 37 [(0, zr g0 8), (1, zi a1), (2, zi a2), (3, zl z507)] i49_36 rfl rfl rfl ?_
      refine X.aload_n 38 i49_37 rfl rfl rfl ?_
      refine X.getR 41 i49_38 rfl rfl (by decide) rfl rfl ?_
      refine X.getL 44 6 i49_41 rfl rfl (by decide) rfl rfl rfl ?_
      refine X.iload_n 45 i49_44 rfl rfl rfl ?_
      refine X.i2l 46 i49_45 rfl rfl ?_
      refine X.lmulW 47 i49_46 rfl rfl (fun z508 ez508 hz508 => ?_)
      refine X.lstore 49 [(0, zr g0 8), (1, zi a1), (2, zi a2), (3, zl z507), (5, zl z508)] i49_47 rfl rfl rfl ?_
      refine X.aload_n 50 i49_49 rfl rfl rfl ?_
      refine X.getR 53 i49_50 rfl rfl (by decide) rfl rfl ?_
      refine X.iload_n 54 i49_53 rfl rfl rfl ?_
      refine X.callv 57 [zi a2] [] [(0, zr g0 23), (1, zi a2)] i49_54 rfl (by decide) rfl rfl (by omega) rfl rfl (by decide) rfl t47 (Nat.le_of_ble_eq_true rfl) (Nat.le_of_ble_eq_true rfl) rfl ?_
      refine X.aload_n 1 i47_0 rfl rfl rfl ?_
      refine X.getR 4 i47_1 rfl rfl (by decide) rfl rfl ?_
      refine X.iconst 5 i47_4 rfl rfl (by decide) ?_
      refine X.iload_n 6 i47_5 rfl rfl rfl ?_
      refine X.iadd 7 i47_6 rfl rfl (by omega) ?_
      refine X.lald 8 i47_7 rfl rfl (by decide) rfl (by omega) ?_
      refine X.retl i47_8 rfl t47 ?_
      show X (EE s) d 49 57 [(0, zr g0 8), (1, zi a1), (2, zi a2), (3, zl z507), (5, zl z508)] [zl (m g0 24 (0 + a2))] m _
      refine X.aload_n 58 i49_57 rfl rfl rfl ?_
      refine X.getR 61 i49_58 rfl rfl (by decide) rfl rfl ?_
      refine X.callv 64 [] [zl (m g0 24 (0 + a2))] [(0, zr g0 9)] i49_61 rfl (by decide) rfl rfl (by omega) rfl rfl (by decide) rfl t48 (Nat.le_of_ble_eq_true rfl) (Nat.le_of_ble_eq_true rfl) rfl ?_
      refine X.iconst 1 i48_0 rfl rfl (by decide) ?_
      refine X.aload_n 2 i48_1 rfl rfl rfl ?_
      refine X.getR 5 i48_2 rfl rfl (by decide) rfl rfl ?_
      refine X.iconst 6 i48_5 rfl rfl (by decide) ?_
      refine X.iald 7 i48_6 rfl rfl (by decide) rfl (by omega) ?_
      have h509 := r10_0 hJ g0 (i := 1) (by omega)
      refine X.maxI 10 i48_7 rfl rfl (by omega) (Nat.le_of_ble_eq_true rfl) ?_
      refine X.reti i48_10 rfl t48 ?_
      show X (EE s) d 49 64 [(0, zr g0 8), (1, zi a1), (2, zi a2), (3, zl z507), (5, zl z508)] [zi (max 1 (m g0 10 1)), zl (m g0 24 (0 + a2))] m _
      refine X.i2l 65 i49_64 rfl rfl ?_
      refine X.ldivW 66 i49_65 rfl rfl (by omega) (fun z510 ez510 hz510 => ?_)
      refine X.lstore 68 [(0, zr g0 8), (1, zi a1), (2, zi a2), (3, zl z507), (5, zl z508), (7, zl z510)] i49_66 rfl rfl rfl ?_
      refine X.aload_n 69 i49_68 rfl rfl rfl ?_
      refine X.getR 72 i49_69 rfl rfl (by decide) rfl rfl ?_
      refine X.iload_n 73 i49_72 rfl rfl rfl ?_
      refine X.lload_n 74 i49_73 rfl rfl rfl ?_
      refine X.aload_n 75 i49_74 rfl rfl rfl ?_
      refine X.getR 78 i49_75 rfl rfl (by decide) rfl rfl ?_
      refine X.callv 81 [] [zl z507, zi a2, zr g0 23] [(0, zr g0 19)] i49_78 rfl (by decide) rfl rfl (by omega) rfl rfl (by decide) rfl t46 (Nat.le_of_ble_eq_true rfl) (Nat.le_of_ble_eq_true rfl) rfl ?_
      refine X.aload_n 1 i46_0 rfl rfl rfl ?_
      refine X.getR 4 i46_1 rfl rfl (by decide) rfl rfl ?_
      refine X.bipush 6 i46_4 rfl rfl (by decide) ?_
      refine X.lald 7 i46_6 rfl rfl (by decide) rfl (by omega) ?_
      refine X.retl i46_7 rfl t46 ?_
      show X (EE s) d 49 81 [(0, zr g0 8), (1, zi a1), (2, zi a2), (3, zl z507), (5, zl z508), (7, zl z510)] [zl (m g0 22 7), zl z507, zi a2, zr g0 23] m _
      refine X.iload_n 82 i49_81 rfl rfl rfl ?_
      refine X.i2l 83 i49_82 rfl rfl ?_
      refine X.lmulW 84 i49_83 rfl rfl (fun z511 ez511 hz511 => ?_)
      refine X.lload 86 i49_84 rfl rfl rfl ?_
      refine X.callv 89 [zi a2, zl z507, zl z511, zl z508] [] [(0, zr g0 23), (1, zi a2), (2, zl z507), (4, zl z511), (6, zl z508)] i49_86 rfl (by decide) rfl rfl (by omega) rfl rfl (by decide) rfl t50 (Nat.le_of_ble_eq_true rfl) (Nat.le_of_ble_eq_true rfl) rfl ?_
      refine c50_1 (B := B) g0 a2 z507 z511 z508 (by omega) (hJ.up (by omega)) (by omega) (by omega) hf10 hgg0 (fun m512 hFv514 hJ513 => ?_)
      show X (EE s) d 49 89 [(0, zr g0 8), (1, zi a1), (2, zi a2), (3, zl z507), (5, zl z508), (7, zl z510)] [] m512 _
      refine X.aload_n 90 i49_89 rfl rfl rfl ?_
      refine X.getR 93 i49_90 rfl rfl (by decide) rfl rfl ?_
      refine X.iload_n 94 i49_93 rfl rfl rfl ?_
      refine X.callv 97 [zi a2] [] [(0, zr g0 23), (1, zi a2)] i49_94 rfl (by decide) rfl rfl (by omega) rfl rfl (by decide) rfl t47 (Nat.le_of_ble_eq_true rfl) (Nat.le_of_ble_eq_true rfl) rfl ?_
      refine X.aload_n 1 i47_0 rfl rfl rfl ?_
      refine X.getR 4 i47_1 rfl rfl (by decide) rfl rfl ?_
      refine X.iconst 5 i47_4 rfl rfl (by decide) ?_
      refine X.iload_n 6 i47_5 rfl rfl rfl ?_
      refine X.iadd 7 i47_6 rfl rfl (by omega) ?_
      refine X.lald 8 i47_7 rfl rfl (by decide) rfl (by omega) ?_
      refine X.retl i47_8 rfl t47 ?_
      show X (EE s) d 49 97 [(0, zr g0 8), (1, zi a1), (2, zi a2), (3, zl z507), (5, zl z508), (7, zl z510)] [zl (m512 g0 24 (0 + a2))] m512 _
      refine X.aload_n 98 i49_97 rfl rfl rfl ?_
      refine X.getR 101 i49_98 rfl rfl (by decide) rfl rfl ?_
      refine X.callv 104 [] [zl (m512 g0 24 (0 + a2))] [(0, zr g0 9)] i49_101 rfl (by decide) rfl rfl (by omega) rfl rfl (by decide) rfl t48 (Nat.le_of_ble_eq_true rfl) (Nat.le_of_ble_eq_true rfl) rfl ?_
      refine X.iconst 1 i48_0 rfl rfl (by decide) ?_
      refine X.aload_n 2 i48_1 rfl rfl rfl ?_
      refine X.getR 5 i48_2 rfl rfl (by decide) rfl rfl ?_
      refine X.iconst 6 i48_5 rfl rfl (by decide) ?_
      refine X.iald 7 i48_6 rfl rfl (by decide) rfl (by omega) ?_
      have h515 := r10_0 hJ513 g0 (i := 1) (by omega)
      refine X.maxI 10 i48_7 rfl rfl (by omega) (Nat.le_of_ble_eq_true rfl) ?_
      refine X.reti i48_10 rfl t48 ?_
      show X (EE s) d 49 104 [(0, zr g0 8), (1, zi a1), (2, zi a2), (3, zl z507), (5, zl z508), (7, zl z510)] [zi (max 1 (m512 g0 10 1)), zl (m512 g0 24 (0 + a2))] m512 _
      refine X.i2l 105 i49_104 rfl rfl ?_
      refine X.ldivW 106 i49_105 rfl rfl (by omega) (fun z516 ez516 hz516 => ?_)
      refine X.lload 108 i49_106 rfl rfl rfl ?_
      refine X.lsubW 109 i49_108 rfl rfl (fun z517 ez517 hz517 => ?_)
      refine X.lstore 111 [(0, zr g0 8), (1, zi a1), (2, zi a2), (3, zl z507), (5, zl z508), (7, zl z510), (9, zl z517)] i49_109 rfl rfl rfl ?_
      refine X.aload_n 112 i49_111 rfl rfl rfl ?_
      refine X.dup 113 i49_112 rfl rfl rfl ?_
      refine X.getL 116 10 i49_113 rfl rfl (by decide) rfl rfl rfl ?_
      refine X.lload 118 i49_116 rfl rfl rfl ?_
      refine X.aload_n 119 i49_118 rfl rfl rfl ?_
      refine X.getR 122 i49_119 rfl rfl (by decide) rfl rfl ?_
      refine X.iload_n 123 i49_122 rfl rfl rfl ?_
      refine X.callv 126 [zi a2] [zl z517, zl (m512 g0 8 10), zr g0 8] [(0, zr g0 9), (1, zi a2)] i49_123 rfl (by decide) rfl rfl (by omega) rfl rfl (by decide) rfl t43 (Nat.le_of_ble_eq_true rfl) (Nat.le_of_ble_eq_true rfl) rfl ?_
      refine X.aload_n 1 i43_0 rfl rfl rfl ?_
      refine X.getR 4 i43_1 rfl rfl (by decide) rfl rfl ?_
      refine X.bipush 6 i43_4 rfl rfl (by decide) ?_
      refine X.iload_n 7 i43_6 rfl rfl rfl ?_
      refine X.iadd 8 i43_7 rfl rfl (by omega) ?_
      refine X.iald 9 i43_8 rfl rfl (by decide) rfl (by omega) ?_
      have h518 := r10_6 hJ513 g0 (i := (6 + a2)) (by omega)
      refine X.reti i43_9 rfl t43 ?_
      show X (EE s) d 49 126 [(0, zr g0 8), (1, zi a1), (2, zi a2), (3, zl z507), (5, zl z508), (7, zl z510), (9, zl z517)] [zi (m512 g0 10 (6 + a2)), zl z517, zl (m512 g0 8 10), zr g0 8] m512 _
      refine X.i2l 127 i49_126 rfl rfl ?_
      refine X.lmulW 128 i49_127 rfl rfl (fun z519 ez519 hz519 => ?_)
      refine X.lsubW 129 i49_128 rfl rfl (fun z520 ez520 hz520 => ?_)
      refine X.putL' 132 10 i49_129 rfl rfl (by decide) rfl rfl rfl (fun hrm521 m521 hm521 => ?_)
      have hJ522 := w8_10 hJ513 hm521 hrm521 hf12 hgg0
      refine X.aload_n 133 i49_132 rfl rfl rfl ?_
      refine X.getR 136 i49_133 rfl rfl (by decide) rfl rfl ?_
      refine X.lload_n 137 i49_136 rfl rfl rfl ?_
      refine X.lload 139 i49_137 rfl rfl rfl ?_
      refine X.callv 142 [zl z507, zl z508] [] [(0, zr g0 27), (1, zl z507), (3, zl z508)] i49_139 rfl (by decide) rfl rfl (by omega) rfl rfl (by decide) rfl t52 (Nat.le_of_ble_eq_true rfl) (Nat.le_of_ble_eq_true rfl) rfl ?_
      refine c52_1 (B := B) g0 z507 z508 (by omega) (hJ522.up (by omega)) (by omega)  hf7 hgg0 (fun m523 hFv525 hJ524 => ?_)
      show X (EE s) d 49 142 [(0, zr g0 8), (1, zi a1), (2, zi a2), (3, zl z507), (5, zl z508), (7, zl z510), (9, zl z517)] [] m523 _
      refine X.retv i49_142 rfl t49 ?_
      exact hQ  m523  (Eq.trans (zn_eq hFv503.symm) (Eq.trans (if_pos h504) (Eq.trans (if_pos h506) (Eq.trans (zn_eq ez507) (Eq.trans (zn_eq ez508) (Eq.trans (zn_eq ez510) (Eq.trans (zn_eq ez511) (Eq.trans (zs_eq hFv514.symm) (Eq.trans (zn_eq ez516) (Eq.trans (zn_eq ez517) (Eq.trans (zn_eq ez519) (Eq.trans (zn_eq ez520) (Eq.trans (zs_eq hm521) (Eq.trans (zs_eq hFv525.symm) rfl)))))))))))))) (hJ524.up (by omega)) 
    · refine X.retv i49_25 rfl t49 ?_
      exact hQ  m  (Eq.trans (zn_eq hFv503.symm) (Eq.trans (if_pos h504) (Eq.trans (if_neg h506) rfl))) (hJ.up (by omega)) 
  · refine X.aload_n 8 i49_7 rfl rfl rfl ?_
    refine X.dup 9 i49_8 rfl rfl rfl ?_
    refine X.getIr 12 14 i49_9 rfl rfl (by decide) rfl rfl rfl (fun h526 => ?_)
    refine X.iload_n 13 i49_12 rfl rfl rfl ?_
    refine X.iaddW 14 i49_13 rfl rfl (fun z527 ez527 hz527 => ?_)
    refine X.putI' 17 14 i49_14 rfl rfl (by decide) rfl rfl rfl (fun hrm528 m528 hm528 => ?_)
    have hJ529 := w8_13 hJ hm528 (by omega) hrm528 hf13 hgg0
    refine X.retv i49_17 rfl t49 ?_
    exact hQ  m528  (Eq.trans (zn_eq hFv503.symm) (Eq.trans (if_neg h504) (Eq.trans (zn_eq ez527) (Eq.trans (zs_eq hm528) rfl)))) (hJ529.up (by omega)) 
-- WorkMeter$Logbook.add
noncomputable def f55_1 (g0 : Nat) (a1 a2 a3 : Int) (m : zM) : zM :=
  zs (z_upd m g0 38 (((m g0 37 1) % 40) * 3) a1) fun m502 =>
  zs (z_upd m502 g0 38 ((((m g0 37 1) % 40) * 3) + 1) a2) fun m504 =>
  zs (z_upd m504 g0 38 ((((m g0 37 1) % 40) * 3) + 2) a3) fun m506 =>
  zs (z_upd m506 g0 37 1 ((m506 g0 37 1) + 1)) fun m509 =>
  m509
-- WorkMeter$Logbook.add
theorem c55_1 {s : Nat × (Nat → Int32)} {S : zS} {m0 m : zM} {B : Int} {d : Nat} {Q : Option zV → zM → Prop} (g0 : Nat) (a1 a2 a3 : Int) (hd : 13 ≤ d) (hJ : J S m0 B m) (hB : B + 1 ≤ 1000000000) (ha1 : (-2147483648) ≤ a1 ∧ a1 ≤ 2147483647) (ha2 : 0 ≤ a2 ∧ a2 ≤ 40) (ha3 : (-2147483648) ≤ a3 ∧ a3 ≤ 2147483647) (hf6 : ¬ S.1 6) (hgg0 : ¬ S.2.1 g0) (hQ : ∀ m', f55_1 g0 a1 a2 a3 m = m' → J S m0 (B + 1) m' → Q none m') : X (EE s) d 55 0 [(0, zr g0 37), (1, zi a1), (2, zi a2), (3, zi a3)] [] m Q := by
  refine X.aload_n 1 i55_0 rfl rfl rfl ?_
  refine X.getI 4 1 i55_1 rfl rfl (by decide) rfl rfl rfl ?_
  have h501 := r37_1 hJ g0
  refine X.bipush 6 i55_4 rfl rfl (by decide) ?_
  refine X.irem 7 i55_6 rfl rfl (by omega) ?_
  refine X.iconst 8 i55_7 rfl rfl (by decide) ?_
  refine X.imul 9 i55_8 rfl rfl (by omega) ?_
  refine X.istore 11 [(0, zr g0 37), (1, zi a1), (2, zi a2), (3, zi a3), (4, zi (((m g0 37 1) % 40) * 3))] i55_9 rfl rfl rfl ?_
  refine X.aload_n 12 i55_11 rfl rfl rfl ?_
  refine X.getR 15 i55_12 rfl rfl (by decide) rfl rfl ?_
  refine X.iload 17 i55_15 rfl rfl rfl ?_
  refine X.iload_n 18 i55_17 rfl rfl rfl ?_
  refine X.iast' 19 i55_18 rfl rfl (by decide) rfl (by omega) (fun hrm502 m502 hm502 => ?_)
  have hJ503 := w38_0 hJ hm502 (by omega) hrm502 hf6 hgg0
  refine X.aload_n 20 i55_19 rfl rfl rfl ?_
  refine X.getR 23 i55_20 rfl rfl (by decide) rfl rfl ?_
  refine X.iload 25 i55_23 rfl rfl rfl ?_
  refine X.iconst 26 i55_25 rfl rfl (by decide) ?_
  refine X.iadd 27 i55_26 rfl rfl (by omega) ?_
  refine X.iload_n 28 i55_27 rfl rfl rfl ?_
  refine X.iast' 29 i55_28 rfl rfl (by decide) rfl (by omega) (fun hrm504 m504 hm504 => ?_)
  have hJ505 := w38_0 hJ503 hm504 (by omega) hrm504 hf6 hgg0
  refine X.aload_n 30 i55_29 rfl rfl rfl ?_
  refine X.getR 33 i55_30 rfl rfl (by decide) rfl rfl ?_
  refine X.iload 35 i55_33 rfl rfl rfl ?_
  refine X.iconst 36 i55_35 rfl rfl (by decide) ?_
  refine X.iadd 37 i55_36 rfl rfl (by omega) ?_
  refine X.iload_n 38 i55_37 rfl rfl rfl ?_
  refine X.iast' 39 i55_38 rfl rfl (by decide) rfl (by omega) (fun hrm506 m506 hm506 => ?_)
  have hJ507 := w38_0 hJ505 hm506 (by omega) hrm506 hf6 hgg0
  refine X.aload_n 40 i55_39 rfl rfl rfl ?_
  refine X.dup 41 i55_40 rfl rfl rfl ?_
  refine X.getI 44 1 i55_41 rfl rfl (by decide) rfl rfl rfl ?_
  have h508 := r37_1 hJ507 g0
  refine X.iconst 45 i55_44 rfl rfl (by decide) ?_
  refine X.iadd 46 i55_45 rfl rfl (by omega) ?_
  refine X.putI' 49 1 i55_46 rfl rfl (by decide) rfl rfl rfl (fun hrm509 m509 hm509 => ?_)
  have hJ510 := w37_1 (hJ507.up (B' := B + 1) (by omega)) hm509 (by omega) hf6 hgg0
  refine X.retv i55_49 rfl t55 ?_
  exact hQ  m509  (Eq.trans (zs_eq hm502) (Eq.trans (zs_eq hm504) (Eq.trans (zs_eq hm506) (Eq.trans (zs_eq hm509) rfl)))) (hJ510.up (by omega)) 
-- WorkMeter$Meter.note
noncomputable def f54_1 (g0 : Nat) (a1 a2 : Int) (m : zM) : zM :=
  zs (f55_1 g0 (m g0 8 9) a1 a2 m) fun m502 =>
  m502
-- WorkMeter$Meter.note
theorem c54_1 {s : Nat × (Nat → Int32)} {S : zS} {m0 m : zM} {B : Int} {d : Nat} {Q : Option zV → zM → Prop} (g0 : Nat) (a1 a2 : Int) (hd : 14 ≤ d) (hJ : J S m0 B m) (hB : B + 1 ≤ 1000000000) (ha1 : 22 ≤ a1 ∧ a1 ≤ 23) (ha2 : 0 ≤ a2 ∧ a2 ≤ 0) (hf6 : ¬ S.1 6) (hgg0 : ¬ S.2.1 g0) (hQ : ∀ m', f54_1 g0 a1 a2 m = m' → J S m0 (B + 1) m' → Q none m') : X (EE s) d 54 0 [(0, zr g0 8), (1, zi a1), (2, zi a2)] [] m Q := by
  refine X.aload_n 1 i54_0 rfl rfl rfl ?_
  refine X.getR 4 i54_1 rfl rfl (by decide) rfl rfl ?_
  refine X.aload_n 5 i54_4 rfl rfl rfl ?_
  refine X.getI 8 9 i54_5 rfl rfl (by decide) rfl rfl rfl ?_
  have h501 := r8_9 hJ g0
  refine X.iload_n 9 i54_8 rfl rfl rfl ?_
  refine X.iload_n 10 i54_9 rfl rfl rfl ?_
  refine X.callv 13 [zi (m g0 8 9), zi a1, zi a2] [] [(0, zr g0 37), (1, zi (m g0 8 9)), (2, zi a1), (3, zi a2)] i54_10 rfl (by decide) rfl rfl (by omega) rfl rfl (by decide) rfl t55 (Nat.le_of_ble_eq_true rfl) (Nat.le_of_ble_eq_true rfl) rfl ?_
  refine c55_1 (B := B) g0 (m g0 8 9) a1 a2 (by omega) (hJ.up (by omega)) (by omega) (by omega) (by omega) (by omega) hf6 hgg0 (fun m502 hFv504 hJ503 => ?_)
  show X (EE s) d 54 13 [(0, zr g0 8), (1, zi a1), (2, zi a2)] [] m502 _
  refine X.retv i54_13 rfl t54 ?_
  exact hQ  m502  (Eq.trans (zs_eq hFv504.symm) rfl) (hJ503.up (by omega)) 
-- WorkMeter$Meter.settleSwitch
noncomputable def f53_1 (g0 : Nat) (m : zM) : zM :=
  zn (if (m g0 8 11) = 0 then
  (0)
  else
  (if (m g0 8 10) ≤ 0 then
  (1)
  else
  (0))) fun v505 =>
  zs (if v505 = (m g0 8 12) then
  (m)
  else
  (zs (z_upd m g0 8 12 v505) fun m512 =>
  zn (if (m512 g0 8 12) = 0 then
  (23)
  else
  (22)) fun v516 =>
  zs (f54_1 g0 v516 0 m512) fun m521 =>
  m521)) fun m525 =>
  m525
end
