-- WorkMeter$Seal.refuses
noncomputable def f17_1 (g0 : Nat) (m : zM) : Int × zM :=
  zs (if (m g0 39 0) = 0 then
  (m)
  else
  (zn (w32 ((m g0 39 3) + 1)) fun z504 =>
  zs (z_upd m g0 39 3 z504) fun m505 =>
  m505)) fun m508 =>
  ((m508 g0 39 0), m508)
-- WorkMeter$Seal.refuses
theorem c17_1 {s : Nat × (Nat → Int32)} {S : zS} {m0 m : zM} {B : Int} {d : Nat} {Q : Option zV → zM → Prop} (g0 : Nat) (hd : 13 ≤ d) (hJ : J S m0 B m) (hB : B + 0 ≤ 1000000000) (hf4 : ¬ S.1 4) (hgg0 : ¬ S.2.1 g0) (hQ : ∀ (v : Int) m', (0 ≤ v ∧ v ≤ 1) → f17_1 g0 m = (v, m') → J S m0 (B) m' → Q (some (zi v)) m') : X (EE s) d 17 0 [(0, zr g0 39)] [] m Q := by
  refine X.aload_n 1 i17_0 rfl rfl rfl ?_
  refine X.getZ 4 0 i17_1 rfl rfl (by decide) rfl rfl rfl (fun h501 => ?_)
  have hK510 : ∀ (m' : zM), (if (m g0 39 0) = 0 then
      (m)
      else
      (zn (w32 ((m g0 39 3) + 1)) fun z504 =>
      zs (z_upd m g0 39 3 z504) fun m505 =>
      m505)) = m' → J S m0 (B) m' → X (EE s) d 17 17 [(0, zr g0 39)] [] m' Q := by
    intro m508 hT511 hJ509
    refine X.aload_n 18 i17_17 rfl rfl rfl ?_
    refine X.getZ 21 0 i17_18 rfl rfl (by decide) rfl rfl rfl (fun h512 => ?_)
    refine X.retz i17_21 rfl t17 (by omega) ?_
    exact hQ (m508 g0 39 0) m508 (by first | trivial | omega) (Eq.trans (zs_eq hT511.symm) rfl) (hJ509.up (by omega)) 
  refine X.ifeq 17 7 i17_4 rfl rfl rfl (fun h502 => ?_) (fun h502 => ?_)
  · exact hK510 m (Eq.trans (if_pos h502) rfl) (hJ.up (by omega))
  · refine X.aload_n 8 i17_7 rfl rfl rfl ?_
    refine X.dup 9 i17_8 rfl rfl rfl ?_
    refine X.getIr 12 3 i17_9 rfl rfl (by decide) rfl rfl rfl (fun h503 => ?_)
    refine X.iconst 13 i17_12 rfl rfl (by decide) ?_
    refine X.iaddW 14 i17_13 rfl rfl (fun z504 ez504 hz504 => ?_)
    refine X.putI' 17 3 i17_14 rfl rfl (by decide) rfl rfl rfl (fun hrm505 m505 hm505 => ?_)
    have hJ506 := w39_3 hJ hm505 hrm505 hf4 hgg0
    exact hK510 m505 (Eq.trans (if_neg h502) (Eq.trans (zn_eq ez504) (Eq.trans (zs_eq hm505) rfl))) (hJ506.up (by omega))
noncomputable def fl11_6_1_b (self : Int → zM → zM) (k22 : zM → zM) (g0 : Nat) (y1 y4 : Int) (y3 : Int) (m : zM) : zM :=
  if y4 ≤ y3 then
  (k22 m)
  else
  (zs (z_upd m g0 22 y3 y1) fun m505 =>
  self (y3 + 1) m505)
noncomputable def fl11_6_1 (k22 : zM → zM) (g0 : Nat) (y1 y4 : Int) : Nat → Int → zM → zM
  | 0 => fun y3 m => m
  | n + 1 => fl11_6_1_b (fl11_6_1 k22 g0 y1 y4 n) k22 g0 y1 y4
theorem l11_6_1 {s : Nat × (Nat → Int32)} {S : zS} {m0 : zM} {d : Nat} {Q : Option zV → zM → Prop} {R0 : zM} {k22 : zM → zM} (g0 : Nat) (y1 y4 : Int) (BE : Int) (hE : BE ≤ 1000000000) (hd : 13 ≤ d) (hy1 : 0 ≤ y1 ∧ y1 ≤ 0) (hy4 : 16 ≤ y4 ∧ y4 ≤ 16) (hf2 : ¬ S.1 2) (hgg0 : ¬ S.2.1 g0)
    (K22 : ∀ (m' : zM) (B' : Int), J S m0 B' m' → B' ≤ BE → R0 = k22 m' → X (EE s) d 11 22 [] [] m' Q) :
    ∀ (n : Nat) (y3 : Int) (m : zM) (B : Int), J S m0 B m → B + 0 * (n : Int) ≤ BE → (0 ≤ y3 ∧ y3 ≤ 16) → 16 - y3 < (n : Int) → R0 = fl11_6_1 k22 g0 y1 y4 n y3 m → X (EE s) d 11 6 [(0, zr g0 22), (1, zl y1), (3, zi y3), (4, zi y4)] [] m Q := by
  intro n
  induction n with
  | zero =>
    intro y3 m B hJ hB hy3 hn hR
    exfalso
    omega
  | succ n ih =>
    intro y3 m B hJ hB hy3 hn hR
    replace hR : R0 = fl11_6_1_b (fl11_6_1 k22 g0 y1 y4 n) k22 g0 y1 y4 y3 m := hR
    refine X.iload_n 7 i11_6 rfl rfl rfl ?_
    refine X.iload 9 i11_7 rfl rfl rfl ?_
    refine X.icmpge 22 12 i11_9 rfl rfl rfl (fun h504 => ?_) (fun h504 => ?_)
    · refine X.cut [] i11_22 rfl ?_
      exact K22  m (B) (hJ.up (by omega)) (by omega)  (Eq.trans hR (Eq.trans (if_pos h504) rfl))
    · refine X.aload_n 13 i11_12 rfl rfl rfl ?_
      refine X.iload_n 14 i11_13 rfl rfl rfl ?_
      refine X.lload_n 15 i11_14 rfl rfl rfl ?_
      refine X.last' 16 i11_15 rfl rfl (by decide) rfl (by omega) (fun hrm505 m505 hm505 => ?_)
      have hJ506 := w22_0 hJ hm505 (by omega) hrm505 hf2 hgg0
      refine X.iinc 19 [(0, zr g0 22), (1, zl y1), (3, zi (y3 + 1)), (4, zi y4)] i11_16 rfl rfl rfl (by omega) rfl ?_
      refine X.goto 6 i11_19 rfl rfl ?_
      exact ih (y3 + 1) m505 (B) (hJ506.up (by omega)) (by omega) (by omega) (by omega) (Eq.trans hR (Eq.trans (if_neg h504) (Eq.trans (zs_eq hm505) rfl)))
-- java/util/Arrays.fill
noncomputable def f11_1 (g0 : Nat) (a1 : Int) (m : zM) : zM :=
  fl11_6_1 (fun m501 =>
  m501) g0 a1 16 (zfu 17) 0 m
-- java/util/Arrays.fill
theorem c11_1 {s : Nat × (Nat → Int32)} {S : zS} {m0 m : zM} {B : Int} {d : Nat} {Q : Option zV → zM → Prop} (g0 : Nat) (a1 : Int) (hd : 13 ≤ d) (hJ : J S m0 B m) (hB : B + 0 ≤ 1000000000) (ha1 : 0 ≤ a1 ∧ a1 ≤ 0) (hf2 : ¬ S.1 2) (hgg0 : ¬ S.2.1 g0) (hQ : ∀ m', f11_1 g0 a1 m = m' → J S m0 (B) m' → Q none m') : X (EE s) d 11 0 [(0, zr g0 22), (1, zl a1)] [] m Q := by
  refine X.iconst 1 i11_0 rfl rfl (by decide) ?_
  refine X.istore_n 2 [(0, zr g0 22), (1, zl a1), (3, zi 0)] i11_1 rfl rfl rfl ?_
  refine X.aload_n 3 i11_2 rfl rfl rfl ?_
  refine X.alen 4 i11_3 rfl rfl (by decide) rfl ?_
  show X (EE s) d 11 4 [(0, zr g0 22), (1, zl a1), (3, zi 0)] [zi 16] m _
  refine X.istore 6 [(0, zr g0 22), (1, zl a1), (3, zi 0), (4, zi 16)] i11_4 rfl rfl rfl ?_
  have hz17 := zfu_eq 17
  refine l11_6_1 (s := s) (d := d) (R0 := (f11_1 g0 a1 m)) g0 a1 16  (BE := B + 0) (by omega) (by omega) (by omega) (by omega) hf2 hgg0 (fun  m501 B502 hJ503 hBB502 hR504 => ?_) (zfu 17) 0 m (B) (hJ.up (by omega)) (by omega) (by omega) (by omega) rfl
  refine X.retv i11_22 rfl t11 ?_
  exact hQ  m501  (Eq.trans hR504 rfl) (hJ503.up (by omega)) 
-- WorkMeter$Wave.tellShape
noncomputable def f18_1 (g0 : Nat) (a1 a2 : Int) (m : zM) : Int × zM :=
  if a1 < 1 then
  ((0, m))
  else
  (if 3 < a1 then
  ((0, m))
  else
  (if a2 < 4 then
  ((0, m))
  else
  (if 16 < a2 then
  ((0, m))
  else
  (if (a2 % 4) = 0 then
  (zs (z_upd m g0 19 3 a1) fun m506 =>
  zs (z_upd m506 g0 19 4 a2) fun m508 =>
  zs (z_upd m508 g0 19 5 0) fun m510 =>
  zs (z_upd m510 g0 19 6 0) fun m512 =>
  zs (f11_1 g0 0 m512) fun m514 =>
  (1, m514))
  else
  ((0, m))))))
-- WorkMeter$Wave.tellShape
theorem c18_1 {s : Nat × (Nat → Int32)} {S : zS} {m0 m : zM} {B : Int} {d : Nat} {Q : Option zV → zM → Prop} (g0 : Nat) (a1 a2 : Int) (hd : 14 ≤ d) (hJ : J S m0 B m) (hB : B + 0 ≤ 1000000000) (ha1 : (-2147483648) ≤ a1 ∧ a1 ≤ 2147483647) (ha2 : (-2147483648) ≤ a2 ∧ a2 ≤ 2147483647) (hf2 : ¬ S.1 2) (hgg0 : ¬ S.2.1 g0) (hQ : ∀ (v : Int) m', (0 ≤ v ∧ v ≤ 1) → f18_1 g0 a1 a2 m = (v, m') → J S m0 (B) m' → Q (some (zi v)) m') : X (EE s) d 18 0 [(0, zr g0 19), (1, zi a1), (2, zi a2)] [] m Q := by
  refine X.iload_n 1 i18_0 rfl rfl rfl ?_
  refine X.iconst 2 i18_1 rfl rfl (by decide) ?_
  refine X.icmplt 27 5 i18_2 rfl rfl rfl (fun h501 => ?_) (fun h501 => ?_)
  · refine X.cut [] i18_27 rfl ?_
    refine X.iconst 28 i18_27 rfl rfl (by decide) ?_
    refine X.retz i18_28 rfl t18 (by omega) ?_
    exact hQ 0 m (by first | trivial | omega) (Eq.trans (if_pos h501) rfl) (hJ.up (by omega)) 
  · refine X.iload_n 6 i18_5 rfl rfl rfl ?_
    refine X.iconst 7 i18_6 rfl rfl (by decide) ?_
    refine X.icmpgt 27 10 i18_7 rfl rfl rfl (fun h502 => ?_) (fun h502 => ?_)
    · refine X.cut [] i18_27 rfl ?_
      refine X.iconst 28 i18_27 rfl rfl (by decide) ?_
      refine X.retz i18_28 rfl t18 (by omega) ?_
      exact hQ 0 m (by first | trivial | omega) (Eq.trans (if_neg h501) (Eq.trans (if_pos h502) rfl)) (hJ.up (by omega)) 
    · refine X.iload_n 11 i18_10 rfl rfl rfl ?_
      refine X.iconst 12 i18_11 rfl rfl (by decide) ?_
      refine X.icmplt 27 15 i18_12 rfl rfl rfl (fun h503 => ?_) (fun h503 => ?_)
      · refine X.cut [] i18_27 rfl ?_
        refine X.iconst 28 i18_27 rfl rfl (by decide) ?_
        refine X.retz i18_28 rfl t18 (by omega) ?_
        exact hQ 0 m (by first | trivial | omega) (Eq.trans (if_neg h501) (Eq.trans (if_neg h502) (Eq.trans (if_pos h503) rfl))) (hJ.up (by omega)) 
      · refine X.iload_n 16 i18_15 rfl rfl rfl ?_
        refine X.bipush 18 i18_16 rfl rfl (by decide) ?_
        refine X.icmpgt 27 21 i18_18 rfl rfl rfl (fun h504 => ?_) (fun h504 => ?_)
        · refine X.cut [] i18_27 rfl ?_
          refine X.iconst 28 i18_27 rfl rfl (by decide) ?_
          refine X.retz i18_28 rfl t18 (by omega) ?_
          exact hQ 0 m (by first | trivial | omega) (Eq.trans (if_neg h501) (Eq.trans (if_neg h502) (Eq.trans (if_neg h503) (Eq.trans (if_pos h504) rfl)))) (hJ.up (by omega)) 
        · refine X.iload_n 22 i18_21 rfl rfl rfl ?_
          refine X.iconst 23 i18_22 rfl rfl (by decide) ?_
          refine X.irem 24 i18_23 rfl rfl (by omega) ?_
          refine X.ifeq 29 27 i18_24 rfl rfl rfl (fun h505 => ?_) (fun h505 => ?_)
          · refine X.aload_n 30 i18_29 rfl rfl rfl ?_
            refine X.iload_n 31 i18_30 rfl rfl rfl ?_
            refine X.putI' 34 3 i18_31 rfl rfl (by decide) rfl rfl rfl (fun hrm506 m506 hm506 => ?_)
            have hJ507 := w19_3 hJ hm506 (by omega) hf2 hgg0
            refine X.aload_n 35 i18_34 rfl rfl rfl ?_
            refine X.iload_n 36 i18_35 rfl rfl rfl ?_
            refine X.putI' 39 4 i18_36 rfl rfl (by decide) rfl rfl rfl (fun hrm508 m508 hm508 => ?_)
            have hJ509 := w19_4 hJ507 hm508 (by omega) hf2 hgg0
            refine X.aload_n 40 i18_39 rfl rfl rfl ?_
            refine X.iconst 41 i18_40 rfl rfl (by decide) ?_
            refine X.putI' 44 5 i18_41 rfl rfl (by decide) rfl rfl rfl (fun hrm510 m510 hm510 => ?_)
            have hJ511 := w19_5 hJ509 hm510 (by omega) hf2 hgg0
            have em510 : m510 g0 19 5 = 0 := by rw [hm510]; exact z_upd_same _ _ _ _ _
            refine X.aload_n 45 i18_44 rfl rfl rfl ?_
            refine X.lconst (y := 0) 46 i18_45 rfl rfl rfl ?_
            refine X.putL' 49 6 i18_46 rfl rfl (by decide) rfl rfl rfl (fun hrm512 m512 hm512 => ?_)
            have hJ513 := w19_6 hJ511 hm512 hrm512 hf2 hgg0
            refine X.aload_n 50 i18_49 rfl rfl rfl ?_
            refine X.getR 53 i18_50 rfl rfl (by decide) rfl rfl ?_
            refine X.lconst (y := 0) 54 i18_53 rfl rfl rfl ?_
            refine X.calls 57 [zr g0 22, zl 0] [] [(0, zr g0 22), (1, zl 0)] i18_54 (by decide) rfl rfl (by omega) rfl rfl t11 (Nat.le_of_ble_eq_true rfl) (Nat.le_of_ble_eq_true rfl) rfl ?_
            refine c11_1 (B := B) g0 0 (by omega) (hJ513.up (by omega)) (by omega) (by omega) hf2 hgg0 (fun m514 hFv516 hJ515 => ?_)
            show X (EE s) d 18 57 [(0, zr g0 19), (1, zi a1), (2, zi a2)] [] m514 _
            refine X.iconst 58 i18_57 rfl rfl (by decide) ?_
            refine X.retz i18_58 rfl t18 (by omega) ?_
            exact hQ 1 m514 (by first | trivial | omega) (Eq.trans (if_neg h501) (Eq.trans (if_neg h502) (Eq.trans (if_neg h503) (Eq.trans (if_neg h504) (Eq.trans (if_pos h505) (Eq.trans (zs_eq hm506) (Eq.trans (zs_eq hm508) (Eq.trans (zs_eq hm510) (Eq.trans (zs_eq hm512) (Eq.trans (zs_eq hFv516.symm) rfl)))))))))) (hJ515.up (by omega)) 
          · refine X.cut [] i18_27 rfl ?_
            refine X.iconst 28 i18_27 rfl rfl (by decide) ?_
            refine X.retz i18_28 rfl t18 (by omega) ?_
            exact hQ 0 m (by first | trivial | omega) (Eq.trans (if_neg h501) (Eq.trans (if_neg h502) (Eq.trans (if_neg h503) (Eq.trans (if_neg h504) (Eq.trans (if_neg h505) rfl))))) (hJ.up (by omega)) 
-- WorkMeter.phases
noncomputable def f16_1 (a1 a2 : Int) (m : zM) : Int × zM :=
  zb (f17_1 0 m) fun v503 m501 =>
  if v503 = 0 then
  (zb (f18_1 0 a1 a2 m501) fun v507 m505 =>
  (v507, m505))
  else
  ((0, m501))
-- WorkMeter.phases
theorem c16_1 {s : Nat × (Nat → Int32)} {S : zS} {m0 m : zM} {B : Int} {d : Nat} {Q : Option zV → zM → Prop} (a1 a2 : Int) (hd : 15 ≤ d) (hJ : J S m0 B m) (hB : B + 0 ≤ 1000000000) (ha1 : (-2147483648) ≤ a1 ∧ a1 ≤ 2147483647) (ha2 : (-2147483648) ≤ a2 ∧ a2 ≤ 2147483647) (hf2 : ¬ S.1 2) (hf4 : ¬ S.1 4) (hg0 : ¬ S.2.1 0) (hQ : ∀ (v : Int) m', (0 ≤ v ∧ v ≤ 1) → f16_1 a1 a2 m = (v, m') → J S m0 (B) m' → Q (some (zi v)) m') : X (EE s) d 16 0 [(0, zr 4 40), (1, zi a1), (2, zi a2)] [] m Q := by
  refine X.aload_n 1 i16_0 rfl rfl rfl ?_
  refine X.getF 4 i16_1 rfl rfl (by decide) rfl rfl ?_
  refine X.getR 7 i16_4 rfl rfl (by decide) rfl rfl ?_
  refine X.callv 10 [] [] [(0, zr 0 39)] i16_7 rfl (by decide) rfl rfl (by omega) rfl rfl (by decide) rfl t17 (Nat.le_of_ble_eq_true rfl) (Nat.le_of_ble_eq_true rfl) rfl ?_
  refine c17_1 (B := B) 0  (by omega) (hJ.up (by omega)) (by omega)  hf4 hg0 (fun v503 m501 hv503 hFv503 hJ502 => ?_)
  show X (EE s) d 16 10 [(0, zr 4 40), (1, zi a1), (2, zi a2)] [zi v503] m501 _
  refine X.ifeq 15 13 i16_10 rfl rfl rfl (fun h504 => ?_) (fun h504 => ?_)
  · refine X.aload_n 16 i16_15 rfl rfl rfl ?_
    refine X.getF 19 i16_16 rfl rfl (by decide) rfl rfl ?_
    refine X.getR 22 i16_19 rfl rfl (by decide) rfl rfl ?_
    refine X.iload_n 23 i16_22 rfl rfl rfl ?_
    refine X.iload_n 24 i16_23 rfl rfl rfl ?_
    refine X.callv 27 [zi a1, zi a2] [] [(0, zr 0 19), (1, zi a1), (2, zi a2)] i16_24 rfl (by decide) rfl rfl (by omega) rfl rfl (by decide) rfl t18 (Nat.le_of_ble_eq_true rfl) (Nat.le_of_ble_eq_true rfl) rfl ?_
    refine c18_1 (B := B) 0 a1 a2 (by omega) (hJ502.up (by omega)) (by omega) (by omega) (by omega) hf2 hg0 (fun v507 m505 hv507 hFv507 hJ506 => ?_)
    show X (EE s) d 16 27 [(0, zr 4 40), (1, zi a1), (2, zi a2)] [zi v507] m505 _
    refine X.retz i16_27 rfl t16 (by omega) ?_
    exact hQ v507 m505 (by first | trivial | omega) (Eq.trans (zb_eq hFv503) (Eq.trans (if_pos h504) (Eq.trans (zb_eq hFv507) rfl))) (hJ506.up (by omega)) 
  · refine X.iconst 14 i16_13 rfl rfl (by decide) ?_
    refine X.retz i16_14 rfl t16 (by omega) ?_
    exact hQ 0 m501 (by first | trivial | omega) (Eq.trans (zb_eq hFv503) (Eq.trans (if_neg h504) rfl)) (hJ502.up (by omega)) 
-- WorkMeterModel.isShut
noncomputable def f203_1 (m : zM) : Int × zM :=
  zn (w64 ((m 4 45 1618) + (m 4 45 1614))) fun z502 =>
  zs (z_upd m 4 45 1618 z502) fun m503 =>
  zn (if (m503 4 45 1614) = 1 then
  (1)
  else
  (0)) fun v508 =>
  (v508, m503)
-- WorkMeterModel.isShut
theorem c203_1 {s : Nat × (Nat → Int32)} {S : zS} {m0 m : zM} {B : Int} {d : Nat} {Q : Option zV → zM → Prop} (hd : 13 ≤ d) (hJ : J S m0 B m) (hB : B + 0 ≤ 1000000000) (hf24 : ¬ S.1 24) (hg4 : ¬ S.2.1 4) (hQ : ∀ (v : Int) m', (0 ≤ v ∧ v ≤ 1) → f203_1 m = (v, m') → J S m0 (B) m' → Q (some (zi v)) m') : X (EE s) d 203 0 [(0, zr 4 44)] [] m Q := by
  refine X.aload_n 1 i203_0 rfl rfl rfl ?_
  refine X.getF 4 i203_1 rfl rfl (by decide) rfl rfl ?_
  refine X.sipush 7 i203_4 rfl rfl (by decide) ?_
  refine X.dup2 8 i203_7 rfl rfl ?_
  refine X.lald 9 i203_8 rfl rfl (by decide) rfl (by omega) ?_
  refine X.aload_n 10 i203_9 rfl rfl rfl ?_
  refine X.getF 13 i203_10 rfl rfl (by decide) rfl rfl ?_
  refine X.sipush 16 i203_13 rfl rfl (by decide) ?_
  refine X.lald 17 i203_16 rfl rfl (by decide) rfl (by omega) ?_
  have h501 := r45_1614 hJ 4
  refine X.laddW 18 i203_17 rfl rfl (fun z502 ez502 hz502 => ?_)
  refine X.last' 19 i203_18 rfl rfl (by decide) rfl (by omega) (fun hrm503 m503 hm503 => ?_)
  have hJ504 := w45_1618 hJ hm503 hrm503 hf24 hg4
  refine X.aload_n 20 i203_19 rfl rfl rfl ?_
  refine X.getF 23 i203_20 rfl rfl (by decide) rfl rfl ?_
  refine X.sipush 26 i203_23 rfl rfl (by decide) ?_
  refine X.lald 27 i203_26 rfl rfl (by decide) rfl (by omega) ?_
  have h505 := r45_1614 hJ504 4
  refine X.lconst (y := 1) 28 i203_27 rfl rfl rfl ?_
  refine X.lcmp 29 i203_28 rfl rfl (fun z506 hz506 => ?_)
  have hK511 : ∀ (v : Int) , (0 ≤ v ∧ v ≤ 1) → (if (m503 4 45 1614) = 1 then
      (1)
      else
      (0)) = v → X (EE s) d 203 37 [] [zi v] m503 Q := by
    intro v508 hv508 hT512
    refine X.retz i203_37 rfl t203 (by omega) ?_
    exact hQ v508 m503 (by first | trivial | omega) (Eq.trans (zn_eq ez502) (Eq.trans (zs_eq hm503) (Eq.trans (zn_eq hT512.symm) rfl))) (hJ504.up (by omega)) 
  refine X.ifne 36 32 i203_29 rfl rfl rfl (fun h507 => ?_) (fun h507 => ?_)
  · have h507c : ¬ (m503 4 45 1614) = 1 := by omega
    clear h507 hz506
    refine X.cut [] i203_36 rfl ?_
    refine X.iconst 37 i203_36 rfl rfl (by decide) ?_
    exact hK511 0 (by first | trivial | omega) (Eq.trans (if_neg h507c) rfl)
  · have h507c : (m503 4 45 1614) = 1 := by omega
    clear h507 hz506
    refine X.iconst 33 i203_32 rfl rfl (by decide) ?_
    refine X.goto 37 i203_33 rfl rfl ?_
    refine X.cut [] i203_37 rfl ?_
    exact hK511 1 (by first | trivial | omega) (Eq.trans (if_pos h507c) rfl)
noncomputable def fl202_67_1_b (self : Int → zM → Int × zM) (k87 : zM → Int × zM) (y3 : Int) (m : zM) : Int × zM :=
  if 191 ≤ y3 then
  (k87 m)
  else
  (zs (z_upd m 4 45 y3 0) fun m505 =>
  self (y3 + 1) m505)
noncomputable def fl202_67_1 (k87 : zM → Int × zM) : Nat → Int → zM → Int × zM
  | 0 => fun y3 m => (0, m)
  | n + 1 => fl202_67_1_b (fl202_67_1 k87 n) k87
theorem l202_67_1 {s : Nat × (Nat → Int32)} {S : zS} {m0 : zM} {d : Nat} {Q : Option zV → zM → Prop} {R0 : Int × zM} {k87 : zM → Int × zM} (BE : Int) (hE : BE ≤ 1000000000) (hd : 13 ≤ d) (hf22 : ¬ S.1 22) (hg4 : ¬ S.2.1 4)
    (K87 : ∀ (m' : zM) (B' : Int), J S m0 B' m' → B' ≤ BE → R0 = k87 m' → X (EE s) d 202 87 [] [] m' Q) :
    ∀ (n : Nat) (y3 : Int) (m : zM) (B : Int), J S m0 B m → B + 0 * (n : Int) ≤ BE → (95 ≤ y3 ∧ y3 ≤ 191) → 191 - y3 < (n : Int) → R0 = fl202_67_1 k87 n y3 m → X (EE s) d 202 67 [(0, zr 4 44), (3, zi y3)] [] m Q := by
  intro n
  induction n with
  | zero =>
    intro y3 m B hJ hB hy3 hn hR
    exfalso
    omega
  | succ n ih =>
    intro y3 m B hJ hB hy3 hn hR
    replace hR : R0 = fl202_67_1_b (fl202_67_1 k87 n) k87 y3 m := hR
    refine X.iload_n 68 i202_67 rfl rfl rfl ?_
    refine X.sipush 71 i202_68 rfl rfl (by decide) ?_
    refine X.icmpge 87 74 i202_71 rfl rfl rfl (fun h504 => ?_) (fun h504 => ?_)
    · refine X.cut [] i202_87 rfl ?_
      exact K87  m (B) (hJ.up (by omega)) (by omega)  (Eq.trans hR (Eq.trans (if_pos h504) rfl))
    · refine X.aload_n 75 i202_74 rfl rfl rfl ?_
      refine X.getF 78 i202_75 rfl rfl (by decide) rfl rfl ?_
      refine X.iload_n 79 i202_78 rfl rfl rfl ?_
      refine X.lconst (y := 0) 80 i202_79 rfl rfl rfl ?_
      refine X.last' 81 i202_80 rfl rfl (by decide) rfl (by omega) (fun hrm505 m505 hm505 => ?_)
      have hJ506 := w45_95 hJ hm505 (by omega) (by omega) hf22 hg4
      refine X.iinc 84 [(0, zr 4 44), (3, zi (y3 + 1))] i202_81 rfl rfl rfl (by omega) rfl ?_
      refine X.goto 67 i202_84 rfl rfl ?_
      exact ih (y3 + 1) m505 (B) (hJ506.up (by omega)) (by omega) (by omega) (by omega) (Eq.trans hR (Eq.trans (if_neg h504) (Eq.trans (zs_eq hm505) rfl)))
-- WorkMeterModel.phases
noncomputable def f202_1 (a1 a2 : Int) (m : zM) : Int × zM :=
  zb (f203_1 m) fun v503 m501 =>
  if v503 = 0 then
  (if a1 < 1 then
  ((0, m501))
  else
  (if a1 ≤ 3 then
  (if a2 < 4 then
  ((0, m501))
  else
  (if a2 ≤ 16 then
  (if (a2 % 4) = 0 then
  (zs (z_upd m501 4 45 1 a1) fun m520 =>
  zs (z_upd m520 4 45 2 a2) fun m522 =>
  zs (z_upd m522 4 45 3 0) fun m524 =>
  fl202_67_1 (fun m526 =>
  (1, m526)) (zfu 97) 95 m524)
  else
  ((0, m501)))
  else
  ((0, m501))))
  else
  ((0, m501))))
  else
  ((0, m501))
-- WorkMeterModel.phases
theorem c202_1 {s : Nat × (Nat → Int32)} {S : zS} {m0 m : zM} {B : Int} {d : Nat} {Q : Option zV → zM → Prop} (a1 a2 : Int) (hd : 14 ≤ d) (hJ : J S m0 B m) (hB : B + 0 ≤ 1000000000) (ha1 : (-2147483648) ≤ a1 ∧ a1 ≤ 2147483647) (ha2 : (-2147483648) ≤ a2 ∧ a2 ≤ 2147483647) (hf22 : ¬ S.1 22) (hf24 : ¬ S.1 24) (hg4 : ¬ S.2.1 4) (hQ : ∀ (v : Int) m', (0 ≤ v ∧ v ≤ 1) → f202_1 a1 a2 m = (v, m') → J S m0 (B) m' → Q (some (zi v)) m') : X (EE s) d 202 0 [(0, zr 4 44), (1, zi a1), (2, zi a2)] [] m Q := by
  refine X.aload_n 1 i202_0 rfl rfl rfl ?_
  refine X.callv 4 [] [] [(0, zr 4 44)] i202_1 rfl (by decide) rfl rfl (by omega) rfl rfl (by decide) rfl t203 (Nat.le_of_ble_eq_true rfl) (Nat.le_of_ble_eq_true rfl) rfl ?_
  refine c203_1 (B := B)   (by omega) (hJ.up (by omega)) (by omega)  hf24 hg4 (fun v503 m501 hv503 hFv503 hJ502 => ?_)
  show X (EE s) d 202 4 [(0, zr 4 44), (1, zi a1), (2, zi a2)] [zi v503] m501 _
  refine X.ifne 39 7 i202_4 rfl rfl rfl (fun h504 => ?_) (fun h504 => ?_)
  · refine X.cut [] i202_39 rfl ?_
    refine X.iconst 40 i202_39 rfl rfl (by decide) ?_
    refine X.retz i202_40 rfl t202 (by omega) ?_
    exact hQ 0 m501 (by first | trivial | omega) (Eq.trans (zb_eq hFv503) (Eq.trans (if_neg h504) rfl)) (hJ502.up (by omega)) 
  · refine X.iload_n 8 i202_7 rfl rfl rfl ?_
    refine X.i2l 9 i202_8 rfl rfl ?_
    refine X.lconst (y := 1) 10 i202_9 rfl rfl rfl ?_
    refine X.ldc2 13 i202_10 rfl rfl (by decide) ?_
    refine X.calls 16 [zl a1, zl 1, zl 3] [] [(0, zl a1), (2, zl 1), (4, zl 3)] i202_13 (by decide) rfl rfl (by omega) rfl rfl t204 (Nat.le_of_ble_eq_true rfl) (Nat.le_of_ble_eq_true rfl) rfl ?_
    refine X.lload_n 1 i204_0 rfl rfl rfl ?_
    refine X.lload_n 2 i204_1 rfl rfl rfl ?_
    refine X.lcmp 3 i204_2 rfl rfl (fun z505 hz505 => ?_)
    refine X.iflt 17 6 i204_3 rfl rfl rfl (fun h506 => ?_) (fun h506 => ?_)
    · have h506c : a1 < 1 := by omega
      clear h506 hz505
      refine X.cut [] i204_17 rfl ?_
      refine X.iconst 18 i204_17 rfl rfl (by decide) ?_
      refine X.retz i204_18 rfl t204 (by omega) ?_
      show X (EE s) d 202 16 [(0, zr 4 44), (1, zi a1), (2, zi a2)] [zi 0] m501 _
      refine X.ifeq 39 19 i202_16 rfl rfl rfl (fun h507 => ?_) (fun h507 => (by exfalso; omega))
      refine X.cut [] i202_39 rfl ?_
      refine X.iconst 40 i202_39 rfl rfl (by decide) ?_
      refine X.retz i202_40 rfl t202 (by omega) ?_
      exact hQ 0 m501 (by first | trivial | omega) (Eq.trans (zb_eq hFv503) (Eq.trans (if_pos h504) (Eq.trans (if_pos h506c) rfl))) (hJ502.up (by omega)) 
    · have h506c : ¬ a1 < 1 := by omega
      clear h506 hz505
      refine X.lload_n 7 i204_6 rfl rfl rfl ?_
      refine X.lload 9 i204_7 rfl rfl rfl ?_
      refine X.lcmp 10 i204_9 rfl rfl (fun z508 hz508 => ?_)
      refine X.ifgt 17 13 i204_10 rfl rfl rfl (fun h509 => ?_) (fun h509 => ?_)
      · have h509c : ¬ a1 ≤ 3 := by omega
        clear h509 hz508
        refine X.cut [] i204_17 rfl ?_
        refine X.iconst 18 i204_17 rfl rfl (by decide) ?_
        refine X.retz i204_18 rfl t204 (by omega) ?_
        show X (EE s) d 202 16 [(0, zr 4 44), (1, zi a1), (2, zi a2)] [zi 0] m501 _
        refine X.ifeq 39 19 i202_16 rfl rfl rfl (fun h510 => ?_) (fun h510 => (by exfalso; omega))
        refine X.cut [] i202_39 rfl ?_
        refine X.iconst 40 i202_39 rfl rfl (by decide) ?_
        refine X.retz i202_40 rfl t202 (by omega) ?_
        exact hQ 0 m501 (by first | trivial | omega) (Eq.trans (zb_eq hFv503) (Eq.trans (if_pos h504) (Eq.trans (if_neg h506c) (Eq.trans (if_neg h509c) rfl)))) (hJ502.up (by omega)) 
      · have h509c : a1 ≤ 3 := by omega
        clear h509 hz508
        refine X.iconst 14 i204_13 rfl rfl (by decide) ?_
        refine X.goto 18 i204_14 rfl rfl ?_
        refine X.cut [] i204_18 rfl ?_
        refine X.retz i204_18 rfl t204 (by omega) ?_
        show X (EE s) d 202 16 [(0, zr 4 44), (1, zi a1), (2, zi a2)] [zi 1] m501 _
        refine X.ifeq 39 19 i202_16 rfl rfl rfl (fun h511 => (by exfalso; omega)) (fun h511 => ?_)
        refine X.iload_n 20 i202_19 rfl rfl rfl ?_
        refine X.i2l 21 i202_20 rfl rfl ?_
        refine X.ldc2 24 i202_21 rfl rfl (by decide) ?_
        refine X.ldc2 27 i202_24 rfl rfl (by decide) ?_
        refine X.calls 30 [zl a2, zl 4, zl 16] [] [(0, zl a2), (2, zl 4), (4, zl 16)] i202_27 (by decide) rfl rfl (by omega) rfl rfl t204 (Nat.le_of_ble_eq_true rfl) (Nat.le_of_ble_eq_true rfl) rfl ?_
        refine X.lload_n 1 i204_0 rfl rfl rfl ?_
        refine X.lload_n 2 i204_1 rfl rfl rfl ?_
        refine X.lcmp 3 i204_2 rfl rfl (fun z512 hz512 => ?_)
        refine X.iflt 17 6 i204_3 rfl rfl rfl (fun h513 => ?_) (fun h513 => ?_)
        · have h513c : a2 < 4 := by omega
          clear h513 hz512
          refine X.cut [] i204_17 rfl ?_
          refine X.iconst 18 i204_17 rfl rfl (by decide) ?_
          refine X.retz i204_18 rfl t204 (by omega) ?_
          show X (EE s) d 202 30 [(0, zr 4 44), (1, zi a1), (2, zi a2)] [zi 0] m501 _
          refine X.ifeq 39 33 i202_30 rfl rfl rfl (fun h514 => ?_) (fun h514 => (by exfalso; omega))
          refine X.cut [] i202_39 rfl ?_
          refine X.iconst 40 i202_39 rfl rfl (by decide) ?_
          refine X.retz i202_40 rfl t202 (by omega) ?_
          exact hQ 0 m501 (by first | trivial | omega) (Eq.trans (zb_eq hFv503) (Eq.trans (if_pos h504) (Eq.trans (if_neg h506c) (Eq.trans (if_pos h509c) (Eq.trans (if_pos h513c) rfl))))) (hJ502.up (by omega)) 
        · have h513c : ¬ a2 < 4 := by omega
          clear h513 hz512
          refine X.lload_n 7 i204_6 rfl rfl rfl ?_
          refine X.lload 9 i204_7 rfl rfl rfl ?_
          refine X.lcmp 10 i204_9 rfl rfl (fun z515 hz515 => ?_)
          refine X.ifgt 17 13 i204_10 rfl rfl rfl (fun h516 => ?_) (fun h516 => ?_)
          · have h516c : ¬ a2 ≤ 16 := by omega
            clear h516 hz515
            refine X.cut [] i204_17 rfl ?_
            refine X.iconst 18 i204_17 rfl rfl (by decide) ?_
            refine X.retz i204_18 rfl t204 (by omega) ?_
            show X (EE s) d 202 30 [(0, zr 4 44), (1, zi a1), (2, zi a2)] [zi 0] m501 _
            refine X.ifeq 39 33 i202_30 rfl rfl rfl (fun h517 => ?_) (fun h517 => (by exfalso; omega))
            refine X.cut [] i202_39 rfl ?_
            refine X.iconst 40 i202_39 rfl rfl (by decide) ?_
            refine X.retz i202_40 rfl t202 (by omega) ?_
            exact hQ 0 m501 (by first | trivial | omega) (Eq.trans (zb_eq hFv503) (Eq.trans (if_pos h504) (Eq.trans (if_neg h506c) (Eq.trans (if_pos h509c) (Eq.trans (if_neg h513c) (Eq.trans (if_neg h516c) rfl)))))) (hJ502.up (by omega)) 
          · have h516c : a2 ≤ 16 := by omega
            clear h516 hz515
            refine X.iconst 14 i204_13 rfl rfl (by decide) ?_
            refine X.goto 18 i204_14 rfl rfl ?_
            refine X.cut [] i204_18 rfl ?_
            refine X.retz i204_18 rfl t204 (by omega) ?_
            show X (EE s) d 202 30 [(0, zr 4 44), (1, zi a1), (2, zi a2)] [zi 1] m501 _
            refine X.ifeq 39 33 i202_30 rfl rfl rfl (fun h518 => (by exfalso; omega)) (fun h518 => ?_)
            refine X.iload_n 34 i202_33 rfl rfl rfl ?_
            refine X.iconst 35 i202_34 rfl rfl (by decide) ?_
            refine X.irem 36 i202_35 rfl rfl (by omega) ?_
            refine X.ifeq 41 39 i202_36 rfl rfl rfl (fun h519 => ?_) (fun h519 => ?_)
            · refine X.aload_n 42 i202_41 rfl rfl rfl ?_
              refine X.getF 45 i202_42 rfl rfl (by decide) rfl rfl ?_
              refine X.iconst 46 i202_45 rfl rfl (by decide) ?_
              refine X.iload_n 47 i202_46 rfl rfl rfl ?_
              refine X.i2l 48 i202_47 rfl rfl ?_
              refine X.last' 49 i202_48 rfl rfl (by decide) rfl (by omega) (fun hrm520 m520 hm520 => ?_)
              have hJ521 := w45_1 hJ502 hm520 (by omega) hf22 hg4
              refine X.aload_n 50 i202_49 rfl rfl rfl ?_
              refine X.getF 53 i202_50 rfl rfl (by decide) rfl rfl ?_
              refine X.iconst 54 i202_53 rfl rfl (by decide) ?_
              refine X.iload_n 55 i202_54 rfl rfl rfl ?_
              refine X.i2l 56 i202_55 rfl rfl ?_
              refine X.last' 57 i202_56 rfl rfl (by decide) rfl (by omega) (fun hrm522 m522 hm522 => ?_)
              have hJ523 := w45_2 hJ521 hm522 (by omega) hf22 hg4
              refine X.aload_n 58 i202_57 rfl rfl rfl ?_
              refine X.getF 61 i202_58 rfl rfl (by decide) rfl rfl ?_
              refine X.iconst 62 i202_61 rfl rfl (by decide) ?_
              refine X.lconst (y := 0) 63 i202_62 rfl rfl rfl ?_
              refine X.last' 64 i202_63 rfl rfl (by decide) rfl (by omega) (fun hrm524 m524 hm524 => ?_)
              have hJ525 := w45_3 hJ523 hm524 (by omega) hf22 hg4
              refine X.bipush 66 i202_64 rfl rfl (by decide) ?_
              refine X.istore_n 67 [(0, zr 4 44), (1, zi a1), (2, zi a2), (3, zi 95)] i202_66 rfl rfl rfl ?_
              refine X.cut [(0, zr 4 44), (3, zi 95)] i202_67 rfl ?_
              have hz97 := zfu_eq 97
              refine l202_67_1 (s := s) (d := d) (R0 := (f202_1 a1 a2 m))    (BE := B + 0) (by omega) (by omega) hf22 hg4 (fun  m526 B527 hJ528 hBB527 hR529 => ?_) (zfu 97) 95 m524 (B) (hJ525.up (by omega)) (by omega) (by omega) (by omega) (Eq.trans (zb_eq hFv503) (Eq.trans (if_pos h504) (Eq.trans (if_neg h506c) (Eq.trans (if_pos h509c) (Eq.trans (if_neg h513c) (Eq.trans (if_pos h516c) (Eq.trans (if_pos h519) (Eq.trans (zs_eq hm520) (Eq.trans (zs_eq hm522) (Eq.trans (zs_eq hm524) rfl))))))))))
              refine X.iconst 88 i202_87 rfl rfl (by decide) ?_
              refine X.retz i202_88 rfl t202 (by omega) ?_
              exact hQ 1 m526 (by first | trivial | omega) (Eq.trans hR529 rfl) (hJ528.up (by omega)) 
            · refine X.cut [] i202_39 rfl ?_
              refine X.iconst 40 i202_39 rfl rfl (by decide) ?_
              refine X.retz i202_40 rfl t202 (by omega) ?_
              exact hQ 0 m501 (by first | trivial | omega) (Eq.trans (zb_eq hFv503) (Eq.trans (if_pos h504) (Eq.trans (if_neg h506c) (Eq.trans (if_pos h509c) (Eq.trans (if_neg h513c) (Eq.trans (if_pos h516c) (Eq.trans (if_neg h519) rfl))))))) (hJ502.up (by omega)) 
-- WorkMeter$Wave.addTo
noncomputable def f22_1 (g0 : Nat) (a1 a2 a3 : Int) (m : zM) : zM :=
  zn (w64 ((m g0 22 ((a1 * 4) + a2)) + a3)) fun z501 =>
  zs (z_upd m g0 22 ((a1 * 4) + a2) z501) fun m502 =>
  zn (w64 ((m502 g0 22 ((a1 * 4) + 3)) + a3)) fun z504 =>
  zs (z_upd m502 g0 22 ((a1 * 4) + 3) z504) fun m505 =>
  m505
-- WorkMeter$Wave.addTo
theorem c22_1 {s : Nat × (Nat → Int32)} {S : zS} {m0 m : zM} {B : Int} {d : Nat} {Q : Option zV → zM → Prop} (g0 : Nat) (a1 a2 a3 : Int) (hd : 13 ≤ d) (hJ : J S m0 B m) (hB : B + 0 ≤ 1000000000) (ha1 : 0 ≤ a1 ∧ a1 ≤ 0) (ha2 : 0 ≤ a2 ∧ a2 ≤ 2) (ha3 : (-250000) ≤ a3 ∧ a3 ≤ 250000) (hf2 : ¬ S.1 2) (hgg0 : ¬ S.2.1 g0) (hQ : ∀ m', f22_1 g0 a1 a2 a3 m = m' → J S m0 (B) m' → Q none m') : X (EE s) d 22 0 [(0, zr g0 19), (1, zi a1), (2, zi a2), (3, zi a3)] [] m Q := by
  refine X.aload_n 1 i22_0 rfl rfl rfl ?_
  refine X.getR 4 i22_1 rfl rfl (by decide) rfl rfl ?_
  refine X.iload_n 5 i22_4 rfl rfl rfl ?_
  refine X.iconst 6 i22_5 rfl rfl (by decide) ?_
  refine X.imul 7 i22_6 rfl rfl (by omega) ?_
  refine X.iload_n 8 i22_7 rfl rfl rfl ?_
  refine X.iadd 9 i22_8 rfl rfl (by omega) ?_
  refine X.dup2 10 i22_9 rfl rfl ?_
  refine X.lald 11 i22_10 rfl rfl (by decide) rfl (by omega) ?_
  refine X.iload_n 12 i22_11 rfl rfl rfl ?_
  refine X.i2l 13 i22_12 rfl rfl ?_
  refine X.laddW 14 i22_13 rfl rfl (fun z501 ez501 hz501 => ?_)
  refine X.last' 15 i22_14 rfl rfl (by decide) rfl (by omega) (fun hrm502 m502 hm502 => ?_)
  have hJ503 := w22_0 hJ hm502 (by omega) hrm502 hf2 hgg0
  refine X.aload_n 16 i22_15 rfl rfl rfl ?_
  refine X.getR 19 i22_16 rfl rfl (by decide) rfl rfl ?_
  refine X.iload_n 20 i22_19 rfl rfl rfl ?_
  refine X.iconst 21 i22_20 rfl rfl (by decide) ?_
  refine X.imul 22 i22_21 rfl rfl (by omega) ?_
  refine X.iconst 23 i22_22 rfl rfl (by decide) ?_
  refine X.iadd 24 i22_23 rfl rfl (by omega) ?_
  refine X.dup2 25 i22_24 rfl rfl ?_
  refine X.lald 26 i22_25 rfl rfl (by decide) rfl (by omega) ?_
  refine X.iload_n 27 i22_26 rfl rfl rfl ?_
  refine X.i2l 28 i22_27 rfl rfl ?_
  refine X.laddW 29 i22_28 rfl rfl (fun z504 ez504 hz504 => ?_)
  refine X.last' 30 i22_29 rfl rfl (by decide) rfl (by omega) (fun hrm505 m505 hm505 => ?_)
  have hJ506 := w22_0 hJ503 hm505 (by omega) hrm505 hf2 hgg0
  refine X.retv i22_30 rfl t22 ?_
  exact hQ  m505  (Eq.trans (zn_eq ez501) (Eq.trans (zs_eq hm502) (Eq.trans (zn_eq ez504) (Eq.trans (zs_eq hm505) rfl)))) (hJ506.up (by omega)) 
-- WorkMeter$Wave.addTo
theorem c22_2 {s : Nat × (Nat → Int32)} {S : zS} {m0 m : zM} {B : Int} {d : Nat} {Q : Option zV → zM → Prop} (g0 : Nat) (a1 a2 a3 : Int) (hd : 13 ≤ d) (hJ : J S m0 B m) (hB : B + 0 ≤ 1000000000) (ha1 : 1 ≤ a1 ∧ a1 ≤ 1) (ha2 : 0 ≤ a2 ∧ a2 ≤ 2) (ha3 : (-250000) ≤ a3 ∧ a3 ≤ 250000) (hf2 : ¬ S.1 2) (hgg0 : ¬ S.2.1 g0) (hQ : ∀ m', f22_1 g0 a1 a2 a3 m = m' → J S m0 (B) m' → Q none m') : X (EE s) d 22 0 [(0, zr g0 19), (1, zi a1), (2, zi a2), (3, zi a3)] [] m Q := by
  refine X.aload_n 1 i22_0 rfl rfl rfl ?_
  refine X.getR 4 i22_1 rfl rfl (by decide) rfl rfl ?_
  refine X.iload_n 5 i22_4 rfl rfl rfl ?_
  refine X.iconst 6 i22_5 rfl rfl (by decide) ?_
  refine X.imul 7 i22_6 rfl rfl (by omega) ?_
  refine X.iload_n 8 i22_7 rfl rfl rfl ?_
  refine X.iadd 9 i22_8 rfl rfl (by omega) ?_
  refine X.dup2 10 i22_9 rfl rfl ?_
  refine X.lald 11 i22_10 rfl rfl (by decide) rfl (by omega) ?_
  refine X.iload_n 12 i22_11 rfl rfl rfl ?_
  refine X.i2l 13 i22_12 rfl rfl ?_
  refine X.laddW 14 i22_13 rfl rfl (fun z501 ez501 hz501 => ?_)
  refine X.last' 15 i22_14 rfl rfl (by decide) rfl (by omega) (fun hrm502 m502 hm502 => ?_)
  have hJ503 := w22_0 hJ hm502 (by omega) hrm502 hf2 hgg0
  refine X.aload_n 16 i22_15 rfl rfl rfl ?_
  refine X.getR 19 i22_16 rfl rfl (by decide) rfl rfl ?_
  refine X.iload_n 20 i22_19 rfl rfl rfl ?_
  refine X.iconst 21 i22_20 rfl rfl (by decide) ?_
  refine X.imul 22 i22_21 rfl rfl (by omega) ?_
  refine X.iconst 23 i22_22 rfl rfl (by decide) ?_
  refine X.iadd 24 i22_23 rfl rfl (by omega) ?_
  refine X.dup2 25 i22_24 rfl rfl ?_
  refine X.lald 26 i22_25 rfl rfl (by decide) rfl (by omega) ?_
  refine X.iload_n 27 i22_26 rfl rfl rfl ?_
  refine X.i2l 28 i22_27 rfl rfl ?_
  refine X.laddW 29 i22_28 rfl rfl (fun z504 ez504 hz504 => ?_)
  refine X.last' 30 i22_29 rfl rfl (by decide) rfl (by omega) (fun hrm505 m505 hm505 => ?_)
  have hJ506 := w22_0 hJ503 hm505 (by omega) hrm505 hf2 hgg0
  refine X.retv i22_30 rfl t22 ?_
  exact hQ  m505  (Eq.trans (zn_eq ez501) (Eq.trans (zs_eq hm502) (Eq.trans (zn_eq ez504) (Eq.trans (zs_eq hm505) rfl)))) (hJ506.up (by omega)) 
-- WorkMeter$Wave.addTo
theorem c22_3 {s : Nat × (Nat → Int32)} {S : zS} {m0 m : zM} {B : Int} {d : Nat} {Q : Option zV → zM → Prop} (g0 : Nat) (a1 a2 a3 : Int) (hd : 13 ≤ d) (hJ : J S m0 B m) (hB : B + 0 ≤ 1000000000) (ha1 : 2 ≤ a1 ∧ a1 ≤ 2) (ha2 : 0 ≤ a2 ∧ a2 ≤ 2) (ha3 : 0 ≤ a3 ∧ a3 ≤ 250000) (hf2 : ¬ S.1 2) (hgg0 : ¬ S.2.1 g0) (hQ : ∀ m', f22_1 g0 a1 a2 a3 m = m' → J S m0 (B) m' → Q none m') : X (EE s) d 22 0 [(0, zr g0 19), (1, zi a1), (2, zi a2), (3, zi a3)] [] m Q := by
  refine X.aload_n 1 i22_0 rfl rfl rfl ?_
  refine X.getR 4 i22_1 rfl rfl (by decide) rfl rfl ?_
  refine X.iload_n 5 i22_4 rfl rfl rfl ?_
  refine X.iconst 6 i22_5 rfl rfl (by decide) ?_
  refine X.imul 7 i22_6 rfl rfl (by omega) ?_
  refine X.iload_n 8 i22_7 rfl rfl rfl ?_
  refine X.iadd 9 i22_8 rfl rfl (by omega) ?_
  refine X.dup2 10 i22_9 rfl rfl ?_
  refine X.lald 11 i22_10 rfl rfl (by decide) rfl (by omega) ?_
  refine X.iload_n 12 i22_11 rfl rfl rfl ?_
  refine X.i2l 13 i22_12 rfl rfl ?_
  refine X.laddW 14 i22_13 rfl rfl (fun z501 ez501 hz501 => ?_)
  refine X.last' 15 i22_14 rfl rfl (by decide) rfl (by omega) (fun hrm502 m502 hm502 => ?_)
  have hJ503 := w22_0 hJ hm502 (by omega) hrm502 hf2 hgg0
  refine X.aload_n 16 i22_15 rfl rfl rfl ?_
  refine X.getR 19 i22_16 rfl rfl (by decide) rfl rfl ?_
  refine X.iload_n 20 i22_19 rfl rfl rfl ?_
  refine X.iconst 21 i22_20 rfl rfl (by decide) ?_
  refine X.imul 22 i22_21 rfl rfl (by omega) ?_
  refine X.iconst 23 i22_22 rfl rfl (by decide) ?_
  refine X.iadd 24 i22_23 rfl rfl (by omega) ?_
  refine X.dup2 25 i22_24 rfl rfl ?_
  refine X.lald 26 i22_25 rfl rfl (by decide) rfl (by omega) ?_
  refine X.iload_n 27 i22_26 rfl rfl rfl ?_
  refine X.i2l 28 i22_27 rfl rfl ?_
  refine X.laddW 29 i22_28 rfl rfl (fun z504 ez504 hz504 => ?_)
  refine X.last' 30 i22_29 rfl rfl (by decide) rfl (by omega) (fun hrm505 m505 hm505 => ?_)
  have hJ506 := w22_0 hJ503 hm505 (by omega) hrm505 hf2 hgg0
  refine X.retv i22_30 rfl t22 ?_
  exact hQ  m505  (Eq.trans (zn_eq ez501) (Eq.trans (zs_eq hm502) (Eq.trans (zn_eq ez504) (Eq.trans (zs_eq hm505) rfl)))) (hJ506.up (by omega)) 
-- WorkMeter$Wave.addTo
theorem c22_4 {s : Nat × (Nat → Int32)} {S : zS} {m0 m : zM} {B : Int} {d : Nat} {Q : Option zV → zM → Prop} (g0 : Nat) (a1 a2 a3 : Int) (hd : 13 ≤ d) (hJ : J S m0 B m) (hB : B + 0 ≤ 1000000000) (ha1 : 3 ≤ a1 ∧ a1 ≤ 3) (ha2 : 0 ≤ a2 ∧ a2 ≤ 2) (ha3 : 0 ≤ a3 ∧ a3 ≤ 250000) (hf2 : ¬ S.1 2) (hgg0 : ¬ S.2.1 g0) (hQ : ∀ m', f22_1 g0 a1 a2 a3 m = m' → J S m0 (B) m' → Q none m') : X (EE s) d 22 0 [(0, zr g0 19), (1, zi a1), (2, zi a2), (3, zi a3)] [] m Q := by
  refine X.aload_n 1 i22_0 rfl rfl rfl ?_
  refine X.getR 4 i22_1 rfl rfl (by decide) rfl rfl ?_
  refine X.iload_n 5 i22_4 rfl rfl rfl ?_
  refine X.iconst 6 i22_5 rfl rfl (by decide) ?_
  refine X.imul 7 i22_6 rfl rfl (by omega) ?_
  refine X.iload_n 8 i22_7 rfl rfl rfl ?_
  refine X.iadd 9 i22_8 rfl rfl (by omega) ?_
  refine X.dup2 10 i22_9 rfl rfl ?_
  refine X.lald 11 i22_10 rfl rfl (by decide) rfl (by omega) ?_
  refine X.iload_n 12 i22_11 rfl rfl rfl ?_
  refine X.i2l 13 i22_12 rfl rfl ?_
  refine X.laddW 14 i22_13 rfl rfl (fun z501 ez501 hz501 => ?_)
  refine X.last' 15 i22_14 rfl rfl (by decide) rfl (by omega) (fun hrm502 m502 hm502 => ?_)
  have hJ503 := w22_0 hJ hm502 (by omega) hrm502 hf2 hgg0
  refine X.aload_n 16 i22_15 rfl rfl rfl ?_
  refine X.getR 19 i22_16 rfl rfl (by decide) rfl rfl ?_
  refine X.iload_n 20 i22_19 rfl rfl rfl ?_
  refine X.iconst 21 i22_20 rfl rfl (by decide) ?_
  refine X.imul 22 i22_21 rfl rfl (by omega) ?_
  refine X.iconst 23 i22_22 rfl rfl (by decide) ?_
  refine X.iadd 24 i22_23 rfl rfl (by omega) ?_
  refine X.dup2 25 i22_24 rfl rfl ?_
  refine X.lald 26 i22_25 rfl rfl (by decide) rfl (by omega) ?_
  refine X.iload_n 27 i22_26 rfl rfl rfl ?_
  refine X.i2l 28 i22_27 rfl rfl ?_
  refine X.laddW 29 i22_28 rfl rfl (fun z504 ez504 hz504 => ?_)
  refine X.last' 30 i22_29 rfl rfl (by decide) rfl (by omega) (fun hrm505 m505 hm505 => ?_)
  have hJ506 := w22_0 hJ503 hm505 (by omega) hrm505 hf2 hgg0
  refine X.retv i22_30 rfl t22 ?_
  exact hQ  m505  (Eq.trans (zn_eq ez501) (Eq.trans (zs_eq hm502) (Eq.trans (zn_eq ez504) (Eq.trans (zs_eq hm505) rfl)))) (hJ506.up (by omega)) 
noncomputable def fl21_37_1_b (self : Int → zM → zM) (k158 : zM → zM) (g0 : Nat) (y1 y2 y3 : Int) (y4 : Int) (m : zM) : zM :=
  if (m g0 19 3) ≤ y4 then
  (k158 m)
  else
  (zn ((y2 * (m g0 19 3))) fun z531 =>
  zn (((m g0 20 (z531 + y4)) * (m g0 21 (z531 + y4)))) fun z534 =>
  zs (f22_1 g0 0 y4 z534 m) fun m535 =>
  zn ((y3 * (m535 g0 19 3))) fun z540 =>
  zn (((m535 g0 20 (z531 + y4)) * (m535 g0 21 (z540 + y4)))) fun z542 =>
  zs (f22_1 g0 1 y4 z542 m535) fun m543 =>
  zn (((m543 g0 20 (z531 + y4)) * (m543 g0 20 (z531 + y4)))) fun z547 =>
  zs (f22_1 g0 2 y4 z547 m543) fun m548 =>
  zn (((m548 g0 21 (z531 + y4)) * (m548 g0 21 (z531 + y4)))) fun z552 =>
  zs (f22_1 g0 3 y4 z552 m548) fun m553 =>
  self (y4 + 1) m553)
noncomputable def fl21_37_1 (k158 : zM → zM) (g0 : Nat) (y1 y2 y3 : Int) : Nat → Int → zM → zM
  | 0 => fun y4 m => m
  | n + 1 => fl21_37_1_b (fl21_37_1 k158 g0 y1 y2 y3 n) k158 g0 y1 y2 y3
theorem l21_37_1 {s : Nat × (Nat → Int32)} {S : zS} {m0 : zM} {d : Nat} {Q : Option zV → zM → Prop} {R0 : zM} {k158 : zM → zM} (g0 : Nat) (y1 y2 y3 : Int) (BE : Int) (hE : BE ≤ 1000000000) (hd : 14 ≤ d) (hy1 : 1 ≤ y1 ∧ y1 ≤ 4) (hy2 : 0 ≤ y2 ∧ y2 ≤ 15) (hy3 : 0 ≤ y3 ∧ y3 ≤ 15) (hf2 : ¬ S.1 2) (hgg0 : ¬ S.2.1 g0)
    (K158 : ∀ (m' : zM) (B' : Int), J S m0 B' m' → B' ≤ BE → R0 = k158 m' → X (EE s) d 21 158 [(0, zr g0 19), (1, zi y1), (2, zi y2)] [] m' Q) :
    ∀ (n : Nat) (y4 : Int) (m : zM) (B : Int), J S m0 B m → B + 0 * (n : Int) ≤ BE → (0 ≤ y4 ∧ y4 ≤ 3) → 3 - y4 < (n : Int) → R0 = fl21_37_1 k158 g0 y1 y2 y3 n y4 m → X (EE s) d 21 37 [(0, zr g0 19), (1, zi y1), (2, zi y2), (3, zi y3), (4, zi y4)] [] m Q := by
  intro n
  induction n with
  | zero =>
    intro y4 m B hJ hB hy4 hn hR
    exfalso
    omega
  | succ n ih =>
    intro y4 m B hJ hB hy4 hn hR
    replace hR : R0 = fl21_37_1_b (fl21_37_1 k158 g0 y1 y2 y3 n) k158 g0 y1 y2 y3 y4 m := hR
    refine X.iload 39 i21_37 rfl rfl rfl ?_
    refine X.aload_n 40 i21_39 rfl rfl rfl ?_
    refine X.getI 43 3 i21_40 rfl rfl (by decide) rfl rfl rfl ?_
    have h529 := r19_3 hJ g0
    refine X.icmpge 158 46 i21_43 rfl rfl rfl (fun h530 => ?_) (fun h530 => ?_)
    · refine X.cut [(0, zr g0 19), (1, zi y1), (2, zi y2)] i21_158 rfl ?_
      exact K158  m (B) (hJ.up (by omega)) (by omega)  (Eq.trans hR (Eq.trans (if_pos h530) rfl))
    · refine X.iload_n 47 i21_46 rfl rfl rfl ?_
      refine X.aload_n 48 i21_47 rfl rfl rfl ?_
      refine X.getI 51 3 i21_48 rfl rfl (by decide) rfl rfl rfl ?_
      have hz531 := z_mulr (a := 0) (b := 15) (c := 1) (e := 3) (x := y2) (y := (m g0 19 3)) (by omega) (by omega)
      refine X.imul 52 i21_51 rfl rfl (z_in3 hz531 (by decide) (by decide)) ?_
      obtain ⟨z531, ez531⟩ : ∃ z, z = (y2 * (m g0 19 3)) := ⟨_, rfl⟩
      rw [← ez531] at hz531 ⊢
      have gz531 : 0 ≤ z531 ∧ z531 ≤ 45 := z_in3 hz531 (by decide) (by decide)
      clear hz531
      refine X.iload 54 i21_52 rfl rfl rfl ?_
      refine X.iadd 55 i21_54 rfl rfl (by omega) ?_
      refine X.istore 57 [(0, zr g0 19), (1, zi y1), (2, zi y2), (3, zi y3), (4, zi y4), (5, zi (z531 + y4))] i21_55 rfl rfl rfl ?_
      refine X.aload_n 58 i21_57 rfl rfl rfl ?_
      refine X.iconst 59 i21_58 rfl rfl (by decide) ?_
      refine X.iload 61 i21_59 rfl rfl rfl ?_
      refine X.aload_n 62 i21_61 rfl rfl rfl ?_
      refine X.getR 65 i21_62 rfl rfl (by decide) rfl rfl ?_
      refine X.iload 67 i21_65 rfl rfl rfl ?_
      refine X.iald 68 i21_67 rfl rfl (by decide) rfl (by omega) ?_
      have h532 := r20_0 hJ g0 (i := (z531 + y4)) (by omega)
      refine X.aload_n 69 i21_68 rfl rfl rfl ?_
      refine X.getR 72 i21_69 rfl rfl (by decide) rfl rfl ?_
      refine X.iload 74 i21_72 rfl rfl rfl ?_
      refine X.iald 75 i21_74 rfl rfl (by decide) rfl (by omega) ?_
      have h533 := r21_0 hJ g0 (i := (z531 + y4)) (by omega)
      have hz534 := z_mulr (a := (-500)) (b := 500) (c := (-500)) (e := 500) (x := (m g0 20 (z531 + y4))) (y := (m g0 21 (z531 + y4))) (by omega) (by omega)
      refine X.imul 76 i21_75 rfl rfl (z_in3 hz534 (by decide) (by decide)) ?_
      obtain ⟨z534, ez534⟩ : ∃ z, z = ((m g0 20 (z531 + y4)) * (m g0 21 (z531 + y4))) := ⟨_, rfl⟩
      rw [← ez534] at hz534 ⊢
      have gz534 : (-250000) ≤ z534 ∧ z534 ≤ 250000 := z_in3 hz534 (by decide) (by decide)
      clear hz534
      refine X.callv 79 [zi 0, zi y4, zi z534] [] [(0, zr g0 19), (1, zi 0), (2, zi y4), (3, zi z534)] i21_76 rfl (by decide) rfl rfl (by omega) rfl rfl (by decide) rfl t22 (Nat.le_of_ble_eq_true rfl) (Nat.le_of_ble_eq_true rfl) rfl ?_
      refine c22_1 (B := B) g0 0 y4 z534 (by omega) (hJ.up (by omega)) (by omega) (by omega) (by omega) (by omega) hf2 hgg0 (fun m535 hFv537 hJ536 => ?_)
      show X (EE s) d 21 79 [(0, zr g0 19), (1, zi y1), (2, zi y2), (3, zi y3), (4, zi y4), (5, zi (z531 + y4))] [] m535 _
      refine X.aload_n 80 i21_79 rfl rfl rfl ?_
      refine X.iconst 81 i21_80 rfl rfl (by decide) ?_
      refine X.iload 83 i21_81 rfl rfl rfl ?_
      refine X.aload_n 84 i21_83 rfl rfl rfl ?_
      refine X.getR 87 i21_84 rfl rfl (by decide) rfl rfl ?_
      refine X.iload 89 i21_87 rfl rfl rfl ?_
      refine X.iald 90 i21_89 rfl rfl (by decide) rfl (by omega) ?_
      have h538 := r20_0 hJ536 g0 (i := (z531 + y4)) (by omega)
      refine X.aload_n 91 i21_90 rfl rfl rfl ?_
      refine X.getR 94 i21_91 rfl rfl (by decide) rfl rfl ?_
      refine X.iload_n 95 i21_94 rfl rfl rfl ?_
      refine X.aload_n 96 i21_95 rfl rfl rfl ?_
      refine X.getI 99 3 i21_96 rfl rfl (by decide) rfl rfl rfl ?_
      have h539 := r19_3 hJ536 g0
      have hz540 := z_mulr (a := 0) (b := 15) (c := 1) (e := 3) (x := y3) (y := (m535 g0 19 3)) (by omega) (by omega)
      refine X.imul 100 i21_99 rfl rfl (z_in3 hz540 (by decide) (by decide)) ?_
      obtain ⟨z540, ez540⟩ : ∃ z, z = (y3 * (m535 g0 19 3)) := ⟨_, rfl⟩
      rw [← ez540] at hz540 ⊢
      have gz540 : 0 ≤ z540 ∧ z540 ≤ 45 := z_in3 hz540 (by decide) (by decide)
      clear hz540
      refine X.iload 102 i21_100 rfl rfl rfl ?_
      refine X.iadd 103 i21_102 rfl rfl (by omega) ?_
      refine X.iald 104 i21_103 rfl rfl (by decide) rfl (by omega) ?_
      have h541 := r21_0 hJ536 g0 (i := (z540 + y4)) (by omega)
      have hz542 := z_mulr (a := (-500)) (b := 500) (c := (-500)) (e := 500) (x := (m535 g0 20 (z531 + y4))) (y := (m535 g0 21 (z540 + y4))) (by omega) (by omega)
      refine X.imul 105 i21_104 rfl rfl (z_in3 hz542 (by decide) (by decide)) ?_
      obtain ⟨z542, ez542⟩ : ∃ z, z = ((m535 g0 20 (z531 + y4)) * (m535 g0 21 (z540 + y4))) := ⟨_, rfl⟩
      rw [← ez542] at hz542 ⊢
      have gz542 : (-250000) ≤ z542 ∧ z542 ≤ 250000 := z_in3 hz542 (by decide) (by decide)
      clear hz542
      refine X.callv 108 [zi 1, zi y4, zi z542] [] [(0, zr g0 19), (1, zi 1), (2, zi y4), (3, zi z542)] i21_105 rfl (by decide) rfl rfl (by omega) rfl rfl (by decide) rfl t22 (Nat.le_of_ble_eq_true rfl) (Nat.le_of_ble_eq_true rfl) rfl ?_
      refine c22_2 (B := B) g0 1 y4 z542 (by omega) (hJ536.up (by omega)) (by omega) (by omega) (by omega) (by omega) hf2 hgg0 (fun m543 hFv545 hJ544 => ?_)
      show X (EE s) d 21 108 [(0, zr g0 19), (1, zi y1), (2, zi y2), (3, zi y3), (4, zi y4), (5, zi (z531 + y4))] [] m543 _
      refine X.aload_n 109 i21_108 rfl rfl rfl ?_
      refine X.iconst 110 i21_109 rfl rfl (by decide) ?_
      refine X.iload 112 i21_110 rfl rfl rfl ?_
      refine X.aload_n 113 i21_112 rfl rfl rfl ?_
      refine X.getR 116 i21_113 rfl rfl (by decide) rfl rfl ?_
      refine X.iload 118 i21_116 rfl rfl rfl ?_
      refine X.iald 119 i21_118 rfl rfl (by decide) rfl (by omega) ?_
      have h546 := r20_0 hJ544 g0 (i := (z531 + y4)) (by omega)
      refine X.aload_n 120 i21_119 rfl rfl rfl ?_
      refine X.getR 123 i21_120 rfl rfl (by decide) rfl rfl ?_
      refine X.iload 125 i21_123 rfl rfl rfl ?_
      refine X.iald 126 i21_125 rfl rfl (by decide) rfl (by omega) ?_
      have hz547 := z_sqr (e := 500) (x := (m543 g0 20 (z531 + y4))) (by omega)
      refine X.imul 127 i21_126 rfl rfl (z_in3 hz547 (by decide) (by decide)) ?_
      obtain ⟨z547, ez547⟩ : ∃ z, z = ((m543 g0 20 (z531 + y4)) * (m543 g0 20 (z531 + y4))) := ⟨_, rfl⟩
      rw [← ez547] at hz547 ⊢
      have gz547 : 0 ≤ z547 ∧ z547 ≤ 250000 := z_in3 hz547 (by decide) (by decide)
      clear hz547
      refine X.callv 130 [zi 2, zi y4, zi z547] [] [(0, zr g0 19), (1, zi 2), (2, zi y4), (3, zi z547)] i21_127 rfl (by decide) rfl rfl (by omega) rfl rfl (by decide) rfl t22 (Nat.le_of_ble_eq_true rfl) (Nat.le_of_ble_eq_true rfl) rfl ?_
      refine c22_3 (B := B) g0 2 y4 z547 (by omega) (hJ544.up (by omega)) (by omega) (by omega) (by omega) (by omega) hf2 hgg0 (fun m548 hFv550 hJ549 => ?_)
      show X (EE s) d 21 130 [(0, zr g0 19), (1, zi y1), (2, zi y2), (3, zi y3), (4, zi y4), (5, zi (z531 + y4))] [] m548 _
      refine X.aload_n 131 i21_130 rfl rfl rfl ?_
      refine X.iconst 132 i21_131 rfl rfl (by decide) ?_
      refine X.iload 134 i21_132 rfl rfl rfl ?_
      refine X.aload_n 135 i21_134 rfl rfl rfl ?_
      refine X.getR 138 i21_135 rfl rfl (by decide) rfl rfl ?_
      refine X.iload 140 i21_138 rfl rfl rfl ?_
      refine X.iald 141 i21_140 rfl rfl (by decide) rfl (by omega) ?_
      have h551 := r21_0 hJ549 g0 (i := (z531 + y4)) (by omega)
      refine X.aload_n 142 i21_141 rfl rfl rfl ?_
      refine X.getR 145 i21_142 rfl rfl (by decide) rfl rfl ?_
      refine X.iload 147 i21_145 rfl rfl rfl ?_
      refine X.iald 148 i21_147 rfl rfl (by decide) rfl (by omega) ?_
      have hz552 := z_sqr (e := 500) (x := (m548 g0 21 (z531 + y4))) (by omega)
      refine X.imul 149 i21_148 rfl rfl (z_in3 hz552 (by decide) (by decide)) ?_
      obtain ⟨z552, ez552⟩ : ∃ z, z = ((m548 g0 21 (z531 + y4)) * (m548 g0 21 (z531 + y4))) := ⟨_, rfl⟩
      rw [← ez552] at hz552 ⊢
      have gz552 : 0 ≤ z552 ∧ z552 ≤ 250000 := z_in3 hz552 (by decide) (by decide)
      clear hz552
      refine X.callv 152 [zi 3, zi y4, zi z552] [] [(0, zr g0 19), (1, zi 3), (2, zi y4), (3, zi z552)] i21_149 rfl (by decide) rfl rfl (by omega) rfl rfl (by decide) rfl t22 (Nat.le_of_ble_eq_true rfl) (Nat.le_of_ble_eq_true rfl) rfl ?_
      refine c22_4 (B := B) g0 3 y4 z552 (by omega) (hJ549.up (by omega)) (by omega) (by omega) (by omega) (by omega) hf2 hgg0 (fun m553 hFv555 hJ554 => ?_)
      show X (EE s) d 21 152 [(0, zr g0 19), (1, zi y1), (2, zi y2), (3, zi y3), (4, zi y4), (5, zi (z531 + y4))] [] m553 _
      refine X.iinc 155 [(0, zr g0 19), (1, zi y1), (2, zi y2), (3, zi y3), (4, zi (y4 + 1)), (5, zi (z531 + y4))] i21_152 rfl rfl rfl (by omega) rfl ?_
      refine X.goto 37 i21_155 rfl rfl ?_
      refine X.cut [(0, zr g0 19), (1, zi y1), (2, zi y2), (3, zi y3), (4, zi (y4 + 1))] i21_37 rfl ?_
      exact ih (y4 + 1) m553 (B) (hJ554.up (by omega)) (by omega) (by omega) (by omega) (Eq.trans hR (Eq.trans (if_neg h530) (Eq.trans (zn_eq ez531) (Eq.trans (zn_eq ez534) (Eq.trans (zs_eq hFv537.symm) (Eq.trans (zn_eq ez540) (Eq.trans (zn_eq ez542) (Eq.trans (zs_eq hFv545.symm) (Eq.trans (zn_eq ez547) (Eq.trans (zs_eq hFv550.symm) (Eq.trans (zn_eq ez552) (Eq.trans (zs_eq hFv555.symm) rfl))))))))))))
noncomputable def fl21_17_1_b (self : Int → zM → zM) (k164 : zM → zM) (g0 : Nat) (y1 : Int) (y2 : Int) (m : zM) : zM :=
  if (m g0 19 4) ≤ y2 then
  (k164 m)
  else
  (zn (((y2 + y1) % (m g0 19 4))) fun z511 =>
  fl21_37_1 (fun m512 =>
  self (y2 + 1) m512) g0 y1 y2 z511 (zfu 4) 0 m)
noncomputable def fl21_17_1 (k164 : zM → zM) (g0 : Nat) (y1 : Int) : Nat → Int → zM → zM
  | 0 => fun y2 m => m
  | n + 1 => fl21_17_1_b (fl21_17_1 k164 g0 y1 n) k164 g0 y1
theorem l21_17_1 {s : Nat × (Nat → Int32)} {S : zS} {m0 : zM} {d : Nat} {Q : Option zV → zM → Prop} {R0 : zM} {k164 : zM → zM} (g0 : Nat) (y1 : Int) (BE : Int) (hE : BE ≤ 1000000000) (hd : 14 ≤ d) (hy1 : 1 ≤ y1 ∧ y1 ≤ 4) (hf2 : ¬ S.1 2) (hgg0 : ¬ S.2.1 g0)
    (K164 : ∀ (m' : zM) (B' : Int), J S m0 B' m' → B' ≤ BE → R0 = k164 m' → X (EE s) d 21 164 [(0, zr g0 19)] [] m' Q) :
    ∀ (n : Nat) (y2 : Int) (m : zM) (B : Int), J S m0 B m → B + 0 * (n : Int) ≤ BE → (0 ≤ y2 ∧ y2 ≤ 16) → 16 - y2 < (n : Int) → R0 = fl21_17_1 k164 g0 y1 n y2 m → X (EE s) d 21 17 [(0, zr g0 19), (1, zi y1), (2, zi y2)] [] m Q := by
  intro n
  induction n with
  | zero =>
    intro y2 m B hJ hB hy2 hn hR
    exfalso
    omega
  | succ n ih =>
    intro y2 m B hJ hB hy2 hn hR
    replace hR : R0 = fl21_17_1_b (fl21_17_1 k164 g0 y1 n) k164 g0 y1 y2 m := hR
    refine X.iload_n 18 i21_17 rfl rfl rfl ?_
    refine X.aload_n 19 i21_18 rfl rfl rfl ?_
    refine X.getI 22 4 i21_19 rfl rfl (by decide) rfl rfl rfl ?_
    have h509 := r19_4 hJ g0
    refine X.icmpge 164 25 i21_22 rfl rfl rfl (fun h510 => ?_) (fun h510 => ?_)
    · refine X.cut [(0, zr g0 19)] i21_164 rfl ?_
      exact K164  m (B) (hJ.up (by omega)) (by omega)  (Eq.trans hR (Eq.trans (if_pos h510) rfl))
    · refine X.iload_n 26 i21_25 rfl rfl rfl ?_
      refine X.iload_n 27 i21_26 rfl rfl rfl ?_
      refine X.iadd 28 i21_27 rfl rfl (by omega) ?_
      refine X.aload_n 29 i21_28 rfl rfl rfl ?_
      refine X.getI 32 4 i21_29 rfl rfl (by decide) rfl rfl rfl ?_
      refine X.irem 33 i21_32 rfl rfl (by omega) ?_
      have hz511 := z_modb (x := (y2 + y1)) (y := (m g0 19 4)) (by omega) (by omega)
      obtain ⟨z511, ez511⟩ : ∃ z, z = ((y2 + y1) % (m g0 19 4)) := ⟨_, rfl⟩
      rw [← ez511] at hz511 ⊢
      refine X.istore_n 34 [(0, zr g0 19), (1, zi y1), (2, zi y2), (3, zi z511)] i21_33 rfl rfl rfl ?_
      refine X.iconst 35 i21_34 rfl rfl (by decide) ?_
      refine X.istore 37 [(0, zr g0 19), (1, zi y1), (2, zi y2), (3, zi z511), (4, zi 0)] i21_35 rfl rfl rfl ?_
      have hz4 := zfu_eq 4
      refine l21_37_1 (s := s) (d := d) g0 y1 y2 z511  (BE := B + 0) (by omega) (by omega) (by omega) (by omega) (by omega) hf2 hgg0 (fun  m512 B513 hJ514 hBB513 hR515 => ?_) (zfu 4) 0 m (B) (hJ.up (by omega)) (by omega) (by omega) (by omega) (Eq.trans hR (Eq.trans (if_neg h510) (Eq.trans (zn_eq ez511) rfl)))
      refine X.iinc 161 [(0, zr g0 19), (1, zi y1), (2, zi (y2 + 1))] i21_158 rfl rfl rfl (by omega) rfl ?_
      refine X.goto 17 i21_161 rfl rfl ?_
      exact ih (y2 + 1) m512 (B513) (hJ514.up (by omega)) (by omega) (by omega) (by omega) (Eq.trans hR515 rfl)
noncomputable def fl24_6_1_b (self : Int → Int → Int) (k38 : Int → Int) (y0 : Int) (m : zM) (y2 y4 : Int) : Int :=
  if y4 < 0 then
  (k38 y2)
  else
  (zn (zshlL 1 y4) fun z523 =>
  zn (w64 (y2 + z523)) fun z524 =>
  zn (w64 (z524 * z524)) fun z525 =>
  zn (if z525 ≤ y0 then
  (z524)
  else
  (y2)) fun v528 =>
  self v528 (y4 + (-1)))
noncomputable def fl24_6_1 (k38 : Int → Int) (y0 : Int) (m : zM) : Nat → Int → Int → Int
  | 0 => fun y2 y4 => 0
  | n + 1 => fl24_6_1_b (fl24_6_1 k38 y0 m n) k38 y0 m
theorem l24_6_1 {s : Nat × (Nat → Int32)} {S : zS} {m0 : zM} {m : zM} {B : Int} {d : Nat} {Q : Option zV → zM → Prop} {R0 : Int} {k38 : Int → Int} (y0 : Int) (hd : 13 ≤ d) (hJ : J S m0 B m) (hB9 : B ≤ 1000000000)
    (K38 : ∀ (x2 : Int) , (True) → R0 = k38 x2 → X (EE s) d 24 38 [(2, zl x2)] [] m Q) :
    ∀ (n : Nat) (y2 y4 : Int) , ((-1) ≤ y4 ∧ y4 ≤ 25) → y4 - (-1) < (n : Int) → R0 = fl24_6_1 k38 y0 m n y2 y4 → X (EE s) d 24 6 [(0, zl y0), (2, zl y2), (4, zi y4)] [] m Q := by
  intro n
  induction n with
  | zero =>
    intro y2 y4 hy4 hn hR
    exfalso
    omega
  | succ n ih =>
    intro y2 y4 hy4 hn hR
    replace hR : R0 = fl24_6_1_b (fl24_6_1 k38 y0 m n) k38 y0 m y2 y4 := hR
    refine X.iload 8 i24_6 rfl rfl rfl ?_
    refine X.iflt 38 11 i24_8 rfl rfl rfl (fun h522 => ?_) (fun h522 => ?_)
    · refine X.cut [(2, zl y2)] i24_38 rfl ?_
      exact K38 y2 (by first | trivial | omega) (Eq.trans hR (Eq.trans (if_pos h522) rfl))
    · refine X.lload_n 12 i24_11 rfl rfl rfl ?_
      refine X.lconst (y := 1) 13 i24_12 rfl rfl rfl ?_
      refine X.iload 15 i24_13 rfl rfl rfl ?_
      refine X.lshlE 16 i24_15 rfl rfl (fun z523 ez523 hz523 => ?_)
      refine X.laddW 17 i24_16 rfl rfl (fun z524 ez524 hz524 => ?_)
      refine X.lstore 19 [(0, zl y0), (2, zl y2), (4, zi y4), (5, zl z524)] i24_17 rfl rfl rfl ?_
      refine X.lload 21 i24_19 rfl rfl rfl ?_
      refine X.lload 23 i24_21 rfl rfl rfl ?_
      refine X.lmulW 24 i24_23 rfl rfl (fun z525 ez525 hz525 => ?_)
      refine X.lload_n 25 i24_24 rfl rfl rfl ?_
      refine X.lcmp 26 i24_25 rfl rfl (fun z526 hz526 => ?_)
      have hK531 : ∀ (v : Int) , (True) → (if z525 ≤ y0 then
          (z524)
          else
          (y2)) = v → X (EE s) d 24 32 [(0, zl y0), (2, zl v), (4, zi y4)] [] m Q := by
        intro v528 hv528 hT532
        refine X.iinc 35 [(0, zl y0), (2, zl v528), (4, zi (y4 + (-1)))] i24_32 rfl rfl rfl (by omega) rfl ?_
        refine X.goto 6 i24_35 rfl rfl ?_
        exact ih v528 (y4 + (-1)) (by omega) (by omega) (Eq.trans hR (Eq.trans (if_neg h522) (Eq.trans (zn_eq ez523) (Eq.trans (zn_eq ez524) (Eq.trans (zn_eq ez525) (Eq.trans (zn_eq hT532.symm) rfl))))))
      refine X.ifgt 32 29 i24_26 rfl rfl rfl (fun h527 => ?_) (fun h527 => ?_)
      · have h527c : ¬ z525 ≤ y0 := by omega
        clear h527 hz526
        refine X.cut [(0, zl y0), (2, zl y2), (4, zi y4)] i24_32 rfl ?_
        exact hK531 y2 (by first | trivial | omega) (Eq.trans (if_neg h527c) rfl)
      · have h527c : z525 ≤ y0 := by omega
        clear h527 hz526
        refine X.lload 31 i24_29 rfl rfl rfl ?_
        refine X.lstore_n 32 [(0, zl y0), (2, zl z524), (4, zi y4), (5, zl z524)] i24_31 rfl rfl rfl ?_
        refine X.cut [(0, zl y0), (2, zl z524), (4, zi y4)] i24_32 rfl ?_
        exact hK531 z524 (by first | trivial | omega) (Eq.trans (if_pos h527c) rfl)
-- WorkMeter$Wave.wholeRoot
noncomputable def f24_1 (a0 : Int) (m : zM) : Int :=
  fl24_6_1 (fun y501 =>
  y501) a0 m (zfu 27) 0 25
-- WorkMeter$Wave.wholeRoot
theorem c24_1 {s : Nat × (Nat → Int32)} {S : zS} {m0 m : zM} {B : Int} {d : Nat} {Q : Option zV → zM → Prop} (a0 : Int) (hd : 13 ≤ d) (hJ : J S m0 B m) (hB : B + 0 ≤ 1000000000) (hQ : ∀ (v : Int), (True) → f24_1 a0 m = v → Q (some (zl v)) m) : X (EE s) d 24 0 [(0, zl a0)] [] m Q := by
  refine X.lconst (y := 0) 1 i24_0 rfl rfl rfl ?_
  refine X.lstore_n 2 [(0, zl a0), (2, zl 0)] i24_1 rfl rfl rfl ?_
  refine X.bipush 4 i24_2 rfl rfl (by decide) ?_
  refine X.istore 6 [(0, zl a0), (2, zl 0), (4, zi 25)] i24_4 rfl rfl rfl ?_
  have hz27 := zfu_eq 27
  refine l24_6_1 (s := s) (m := m) (B := B) (d := d) (R0 := (f24_1 a0 m))  a0  (by omega) (hJ.up (by omega)) (by omega) (fun y501 hby501 hR505 => ?_) (zfu 27) 0 25 (by omega) (by omega) rfl
  refine X.lload_n 39 i24_38 rfl rfl rfl ?_
  refine X.retl i24_39 rfl t24 ?_
  exact hQ y501 (by first | trivial | omega) (Eq.trans hR505 rfl) 
-- WorkMeter$Wave.apparentOf
noncomputable def f23_1 (g0 : Nat) (a1 : Int) (m : zM) : Int :=
  zn (w64 ((m g0 22 (0 + a1)) * (m g0 22 (0 + a1)))) fun z501 =>
  zn (w64 ((m g0 22 (4 + a1)) * (m g0 22 (4 + a1)))) fun z502 =>
  zn (w64 (z501 + z502)) fun z503 =>
  zn (f24_1 z503 m) fun v506 =>
  v506
-- WorkMeter$Wave.apparentOf
theorem c23_1 {s : Nat × (Nat → Int32)} {S : zS} {m0 m : zM} {B : Int} {d : Nat} {Q : Option zV → zM → Prop} (g0 : Nat) (a1 : Int) (hd : 14 ≤ d) (hJ : J S m0 B m) (hB : B + 0 ≤ 1000000000) (ha1 : 3 ≤ a1 ∧ a1 ≤ 3) (hQ : ∀ (v : Int), (True) → f23_1 g0 a1 m = v → Q (some (zl v)) m) : X (EE s) d 23 0 [(0, zr g0 19), (1, zi a1)] [] m Q := by
  refine X.aload_n 1 i23_0 rfl rfl rfl ?_
  refine X.getR 4 i23_1 rfl rfl (by decide) rfl rfl ?_
  refine X.iconst 5 i23_4 rfl rfl (by decide) ?_
  refine X.iload_n 6 i23_5 rfl rfl rfl ?_
  refine X.iadd 7 i23_6 rfl rfl (by omega) ?_
  refine X.lald 8 i23_7 rfl rfl (by decide) rfl (by omega) ?_
  refine X.lstore_n 9 [(0, zr g0 19), (1, zi a1), (2, zl (m g0 22 (0 + a1)))] i23_8 rfl rfl rfl ?_
  refine X.aload_n 10 i23_9 rfl rfl rfl ?_
  refine X.getR 13 i23_10 rfl rfl (by decide) rfl rfl ?_
  refine X.iconst 14 i23_13 rfl rfl (by decide) ?_
  refine X.iload_n 15 i23_14 rfl rfl rfl ?_
  refine X.iadd 16 i23_15 rfl rfl (by omega) ?_
  refine X.lald 17 i23_16 rfl rfl (by decide) rfl (by omega) ?_
  refine X.lstore 19 [(0, zr g0 19), (1, zi a1), (2, zl (m g0 22 (0 + a1))), (4, zl (m g0 22 (4 + a1)))] i23_17 rfl rfl rfl ?_
  refine X.lload_n 20 i23_19 rfl rfl rfl ?_
  refine X.lload_n 21 i23_20 rfl rfl rfl ?_
  refine X.lmulW 22 i23_21 rfl rfl (fun z501 ez501 hz501 => ?_)
  refine X.lload 24 i23_22 rfl rfl rfl ?_
  refine X.lload 26 i23_24 rfl rfl rfl ?_
  refine X.lmulW 27 i23_26 rfl rfl (fun z502 ez502 hz502 => ?_)
  refine X.laddW 28 i23_27 rfl rfl (fun z503 ez503 hz503 => ?_)
  refine X.calls 31 [zl z503] [] [(0, zl z503)] i23_28 (by decide) rfl rfl (by omega) rfl rfl t24 (Nat.le_of_ble_eq_true rfl) (Nat.le_of_ble_eq_true rfl) rfl ?_
  refine c24_1 (B := B)  z503 (by omega) (hJ.up (by omega)) (by omega)  (fun v506 hv506 hFv506 => ?_)
  show X (EE s) d 23 31 [(0, zr g0 19), (1, zi a1), (2, zl (m g0 22 (0 + a1))), (4, zl (m g0 22 (4 + a1)))] [zl v506] m _
  refine X.retl i23_31 rfl t23 ?_
  exact hQ v506 (by first | trivial | omega) (Eq.trans (zn_eq ez501) (Eq.trans (zn_eq ez502) (Eq.trans (zn_eq ez503) (Eq.trans (zn_eq hFv506.symm) rfl)))) 
-- WorkMeter$Wave.sumUp
noncomputable def f21_1 (g0 : Nat) (m : zM) : zM :=
  zs (f11_1 g0 0 m) fun m501 =>
  fl21_17_1 (fun m505 =>
  zn (f23_1 g0 3 m505) fun v511 =>
  zs (z_upd m505 g0 19 6 v511) fun m512 =>
  m512) g0 ((m501 g0 19 4) / 4) (zfu 17) 0 m501
-- WorkMeter$Wave.sumUp
theorem c21_1 {s : Nat × (Nat → Int32)} {S : zS} {m0 m : zM} {B : Int} {d : Nat} {Q : Option zV → zM → Prop} (g0 : Nat) (hd : 15 ≤ d) (hJ : J S m0 B m) (hB : B + 0 ≤ 1000000000) (hf2 : ¬ S.1 2) (hgg0 : ¬ S.2.1 g0) (hQ : ∀ m', f21_1 g0 m = m' → J S m0 (B) m' → Q none m') : X (EE s) d 21 0 [(0, zr g0 19)] [] m Q := by
  refine X.aload_n 1 i21_0 rfl rfl rfl ?_
  refine X.getR 4 i21_1 rfl rfl (by decide) rfl rfl ?_
  refine X.lconst (y := 0) 5 i21_4 rfl rfl rfl ?_
  refine X.calls 8 [zr g0 22, zl 0] [] [(0, zr g0 22), (1, zl 0)] i21_5 (by decide) rfl rfl (by omega) rfl rfl t11 (Nat.le_of_ble_eq_true rfl) (Nat.le_of_ble_eq_true rfl) rfl ?_
  refine c11_1 (B := B) g0 0 (by omega) (hJ.up (by omega)) (by omega) (by omega) hf2 hgg0 (fun m501 hFv503 hJ502 => ?_)
  show X (EE s) d 21 8 [(0, zr g0 19)] [] m501 _
  refine X.aload_n 9 i21_8 rfl rfl rfl ?_
  refine X.getI 12 4 i21_9 rfl rfl (by decide) rfl rfl rfl ?_
  have h504 := r19_4 hJ502 g0
  refine X.iconst 13 i21_12 rfl rfl (by decide) ?_
  refine X.idiv 14 i21_13 rfl rfl (by omega) ?_
  refine X.istore_n 15 [(0, zr g0 19), (1, zi ((m501 g0 19 4) / 4))] i21_14 rfl rfl rfl ?_
  refine X.iconst 16 i21_15 rfl rfl (by decide) ?_
  refine X.istore_n 17 [(0, zr g0 19), (1, zi ((m501 g0 19 4) / 4)), (2, zi 0)] i21_16 rfl rfl rfl ?_
  have hz17 := zfu_eq 17
  refine l21_17_1 (s := s) (d := d) (R0 := (f21_1 g0 m)) g0 ((m501 g0 19 4) / 4)  (BE := B + 0) (by omega) (by omega) (by omega) hf2 hgg0 (fun  m505 B506 hJ507 hBB506 hR508 => ?_) (zfu 17) 0 m501 (B) (hJ502.up (by omega)) (by omega) (by omega) (by omega) (Eq.trans (zs_eq hFv503.symm) rfl)
  refine X.aload_n 165 i21_164 rfl rfl rfl ?_
  refine X.aload_n 166 i21_165 rfl rfl rfl ?_
  refine X.iconst 167 i21_166 rfl rfl (by decide) ?_
  refine X.callv 170 [zi 3] [zr g0 19] [(0, zr g0 19), (1, zi 3)] i21_167 rfl (by decide) rfl rfl (by omega) rfl rfl (by decide) rfl t23 (Nat.le_of_ble_eq_true rfl) (Nat.le_of_ble_eq_true rfl) rfl ?_
  refine c23_1 (B := B506) g0 3 (by omega) (hJ507.up (by omega)) (by omega) (by omega) (fun v511 hv511 hFv511 => ?_)
  show X (EE s) d 21 170 [(0, zr g0 19)] [zl v511, zr g0 19] m505 _
  refine X.putL' 173 6 i21_170 rfl rfl (by decide) rfl rfl rfl (fun hrm512 m512 hm512 => ?_)
  have hJ513 := w19_6 hJ507 hm512 hrm512 hf2 hgg0
  refine X.retv i21_173 rfl t21 ?_
  exact hQ  m512  (Eq.trans hR508 (Eq.trans (zn_eq hFv511.symm) (Eq.trans (zs_eq hm512) rfl))) (hJ513.up (by omega)) 
-- WorkMeter$Wave.takeSample
noncomputable def f20_1 (g0 : Nat) (a1 a2 : Int) (m : zM) : Int × zM :=
  zs (z_upd m g0 20 (m g0 19 5) a1) fun m502 =>
  zs (z_upd m502 g0 21 (m502 g0 19 5) a2) fun m505 =>
  zs (z_upd m505 g0 19 5 ((m505 g0 19 5) + 1)) fun m508 =>
  zn (((m508 g0 19 3) * (m508 g0 19 4))) fun z510 =>
  if z510 ≤ (m508 g0 19 5) then
  (zs (z_upd m508 g0 19 5 0) fun m512 =>
  zs (f21_1 g0 m512) fun m514 =>
  (1, m514))
  else
  ((0, m508))
-- WorkMeter$Wave.takeSample
theorem c20_1 {s : Nat × (Nat → Int32)} {S : zS} {m0 m : zM} {B : Int} {d : Nat} {Q : Option zV → zM → Prop} (g0 : Nat) (a1 a2 : Int) (hd : 16 ≤ d) (hJ : J S m0 B m) (hB : B + 0 ≤ 1000000000) (ha1 : (-500) ≤ a1 ∧ a1 ≤ 500) (ha2 : (-500) ≤ a2 ∧ a2 ≤ 500) (hf2 : ¬ S.1 2) (hgg0 : ¬ S.2.1 g0) (hQ : ∀ (v : Int) m', (0 ≤ v ∧ v ≤ 1) → f20_1 g0 a1 a2 m = (v, m') → J S m0 (B) m' → Q (some (zi v)) m') : X (EE s) d 20 0 [(0, zr g0 19), (1, zi a1), (2, zi a2)] [] m Q := by
  refine X.aload_n 1 i20_0 rfl rfl rfl ?_
  refine X.getR 4 i20_1 rfl rfl (by decide) rfl rfl ?_
  refine X.aload_n 5 i20_4 rfl rfl rfl ?_
  refine X.getI 8 5 i20_5 rfl rfl (by decide) rfl rfl rfl ?_
  have h501 := r19_5 hJ g0
  refine X.iload_n 9 i20_8 rfl rfl rfl ?_
  refine X.iast' 10 i20_9 rfl rfl (by decide) rfl (by omega) (fun hrm502 m502 hm502 => ?_)
  have hJ503 := w20_0 hJ hm502 (by omega) (by omega) hf2 hgg0
  refine X.aload_n 11 i20_10 rfl rfl rfl ?_
  refine X.getR 14 i20_11 rfl rfl (by decide) rfl rfl ?_
  refine X.aload_n 15 i20_14 rfl rfl rfl ?_
  refine X.getI 18 5 i20_15 rfl rfl (by decide) rfl rfl rfl ?_
  have h504 := r19_5 hJ503 g0
  refine X.iload_n 19 i20_18 rfl rfl rfl ?_
  refine X.iast' 20 i20_19 rfl rfl (by decide) rfl (by omega) (fun hrm505 m505 hm505 => ?_)
  have hJ506 := w21_0 hJ503 hm505 (by omega) (by omega) hf2 hgg0
  refine X.aload_n 21 i20_20 rfl rfl rfl ?_
  refine X.dup 22 i20_21 rfl rfl rfl ?_
  refine X.getI 25 5 i20_22 rfl rfl (by decide) rfl rfl rfl ?_
  have h507 := r19_5 hJ506 g0
  refine X.iconst 26 i20_25 rfl rfl (by decide) ?_
  refine X.iadd 27 i20_26 rfl rfl (by omega) ?_
  refine X.putI' 30 5 i20_27 rfl rfl (by decide) rfl rfl rfl (fun hrm508 m508 hm508 => ?_)
  have em508 : m508 g0 19 5 = ((m505 g0 19 5) + 1) := by rw [hm508]; exact z_upd_same _ _ _ _ _
  have qm508_3 : m508 g0 19 3 = m505 g0 19 3 := by rw [hm508]; exact z_upd_o _ _ rfl
  have qqm508_3 := r19_3 hJ506 g0
  have qm508_4 : m508 g0 19 4 = m505 g0 19 4 := by rw [hm508]; exact z_upd_o _ _ rfl
  have qqm508_4 := r19_4 hJ506 g0
  refine X.aload_n 31 i20_30 rfl rfl rfl ?_
  refine X.getI 34 5 i20_31 rfl rfl (by decide) rfl rfl rfl ?_
  refine X.aload_n 35 i20_34 rfl rfl rfl ?_
  refine X.getI 38 3 i20_35 rfl rfl (by decide) rfl rfl rfl ?_
  refine X.aload_n 39 i20_38 rfl rfl rfl ?_
  refine X.getI 42 4 i20_39 rfl rfl (by decide) rfl rfl rfl ?_
  have hz510 := z_mulr (a := 1) (b := 3) (c := 4) (e := 16) (x := (m508 g0 19 3)) (y := (m508 g0 19 4)) (by omega) (by omega)
  refine X.imul 43 i20_42 rfl rfl (z_in3 hz510 (by decide) (by decide)) ?_
  obtain ⟨z510, ez510⟩ : ∃ z, z = ((m508 g0 19 3) * (m508 g0 19 4)) := ⟨_, rfl⟩
  rw [← ez510] at hz510 ⊢
  have gz510 : 4 ≤ z510 ∧ z510 ≤ 48 := z_in3 hz510 (by decide) (by decide)
  clear hz510
  refine X.icmpge 48 46 i20_43 rfl rfl rfl (fun h511 => ?_) (fun h511 => ?_)
  · refine X.cut [(0, zr g0 19)] i20_48 rfl ?_
    refine X.aload_n 49 i20_48 rfl rfl rfl ?_
    refine X.iconst 50 i20_49 rfl rfl (by decide) ?_
    refine X.putI' 53 5 i20_50 rfl rfl (by decide) rfl rfl rfl (fun hrm512 m512 hm512 => ?_)
    have hJ513 := w19_5 (x := 0) hJ506 (show m512 = z_upd m505 g0 19 5 0 by rw [hm512, hm508]; exact z_upd_upd _ _ _ _ _ _) (by omega) hf2 hgg0
    have em512 : m512 g0 19 5 = 0 := by rw [hm512]; exact z_upd_same _ _ _ _ _
    refine X.aload_n 54 i20_53 rfl rfl rfl ?_
    refine X.callv 57 [] [] [(0, zr g0 19)] i20_54 rfl (by decide) rfl rfl (by omega) rfl rfl (by decide) rfl t21 (Nat.le_of_ble_eq_true rfl) (Nat.le_of_ble_eq_true rfl) rfl ?_
    refine c21_1 (B := B) g0  (by omega) (hJ513.up (by omega)) (by omega)  hf2 hgg0 (fun m514 hFv516 hJ515 => ?_)
    show X (EE s) d 20 57 [(0, zr g0 19)] [] m514 _
    refine X.iconst 58 i20_57 rfl rfl (by decide) ?_
    refine X.retz i20_58 rfl t20 (by omega) ?_
    exact hQ 1 m514 (by first | trivial | omega) (Eq.trans (zs_eq hm502) (Eq.trans (zs_eq hm505) (Eq.trans (zs_eq hm508) (Eq.trans (zn_eq ez510) (Eq.trans (if_pos h511) (Eq.trans (zs_eq hm512) (Eq.trans (zs_eq hFv516.symm) rfl))))))) (hJ515.up (by omega)) 
  · refine X.iconst 47 i20_46 rfl rfl (by decide) ?_
    have hJ517 := w19_5 hJ506 hm508 (by omega) hf2 hgg0
    refine X.retz i20_47 rfl t20 (by omega) ?_
    exact hQ 0 m508 (by first | trivial | omega) (Eq.trans (zs_eq hm502) (Eq.trans (zs_eq hm505) (Eq.trans (zs_eq hm508) (Eq.trans (zn_eq ez510) (Eq.trans (if_neg h511) rfl))))) (hJ517.up (by omega)) 
noncomputable def fl29_2_1_b (self : Int → Int) (k20 : Int → Int) (k28 : Int) (g0 : Nat) (y1 : Int) (m : zM) (y2 : Int) : Int :=
  if (m g0 11 7) ≤ y2 then
  (k28)
  else
  (if (m g0 17 y2) = y1 then
  (k20 y2)
  else
  (self (y2 + 1)))
noncomputable def fl29_2_1 (k20 : Int → Int) (k28 : Int) (g0 : Nat) (y1 : Int) (m : zM) : Nat → Int → Int
  | 0 => fun y2 => 0
  | n + 1 => fl29_2_1_b (fl29_2_1 k20 k28 g0 y1 m n) k20 k28 g0 y1 m
theorem l29_2_1 {s : Nat × (Nat → Int32)} {S : zS} {m0 : zM} {m : zM} {B : Int} {d : Nat} {Q : Option zV → zM → Prop} {R0 : Int} {k20 : Int → Int} {k28 : Int} (g0 : Nat) (y1 : Int) (hd : 13 ≤ d) (hJ : J S m0 B m) (hB9 : B ≤ 1000000000) (hy1 : 0 ≤ y1 ∧ y1 ≤ 364)
    (K20 : ∀ (x2 : Int) , (0 ≤ x2 ∧ x2 ≤ 15) → (x2 < m g0 11 7) → R0 = k20 x2 → X (EE s) d 29 20 [(0, zr g0 11), (1, zi y1), (2, zi x2)] [] m Q)
    (K28 : R0 = k28 → X (EE s) d 29 28 [] [] m Q) :
    ∀ (n : Nat) (y2 : Int) , (0 ≤ y2 ∧ y2 ≤ 16) → 16 - y2 < (n : Int) → R0 = fl29_2_1 k20 k28 g0 y1 m n y2 → X (EE s) d 29 2 [(0, zr g0 11), (1, zi y1), (2, zi y2)] [] m Q := by
  intro n
  induction n with
  | zero =>
    intro y2 hy2 hn hR
    exfalso
    omega
  | succ n ih =>
    intro y2 hy2 hn hR
    replace hR : R0 = fl29_2_1_b (fl29_2_1 k20 k28 g0 y1 m n) k20 k28 g0 y1 m y2 := hR
    refine X.iload_n 3 i29_2 rfl rfl rfl ?_
    refine X.aload_n 4 i29_3 rfl rfl rfl ?_
    refine X.getI 7 7 i29_4 rfl rfl (by decide) rfl rfl rfl ?_
    have h506 := r11_7 hJ g0
    refine X.icmpge 28 10 i29_7 rfl rfl rfl (fun h507 => ?_) (fun h507 => ?_)
    · refine X.cut [] i29_28 rfl ?_
      exact K28   (Eq.trans hR (Eq.trans (if_pos h507) rfl))
    · refine X.aload_n 11 i29_10 rfl rfl rfl ?_
      refine X.getR 14 i29_11 rfl rfl (by decide) rfl rfl ?_
      refine X.iload_n 15 i29_14 rfl rfl rfl ?_
      refine X.iald 16 i29_15 rfl rfl (by decide) rfl (by omega) ?_
      have h508 := r17_0 hJ g0 (i := y2) (by omega)
      refine X.iload_n 17 i29_16 rfl rfl rfl ?_
      refine X.icmpne 22 20 i29_17 rfl rfl rfl (fun h509 => ?_) (fun h509 => ?_)
      · refine X.iinc 25 [(0, zr g0 11), (1, zi y1), (2, zi (y2 + 1))] i29_22 rfl rfl rfl (by omega) rfl ?_
        refine X.goto 2 i29_25 rfl rfl ?_
        exact ih (y2 + 1) (by omega) (by omega) (Eq.trans hR (Eq.trans (if_neg h507) (Eq.trans (if_neg h509) rfl)))
      · exact K20 y2 (by first | trivial | omega) (by omega) (Eq.trans hR (Eq.trans (if_neg h507) (Eq.trans (if_pos h509) rfl)))
-- WorkMeter$Calendar.specialPlace
noncomputable def f29_1 (g0 : Nat) (a1 : Int) (m : zM) : Int :=
  fl29_2_1 (fun y501 =>
  y501) ((-1)) g0 a1 m (zfu 17) 0
-- WorkMeter$Calendar.specialPlace
theorem c29_1 {s : Nat × (Nat → Int32)} {S : zS} {m0 m : zM} {B : Int} {d : Nat} {Q : Option zV → zM → Prop} (g0 : Nat) (a1 : Int) (hd : 13 ≤ d) (hJ : J S m0 B m) (hB : B + 0 ≤ 1000000000) (ha1 : 0 ≤ a1 ∧ a1 ≤ 364) (hQ : ∀ (v : Int), ((-1) ≤ v ∧ v ≤ 15) → f29_1 g0 a1 m = v → (v < m g0 11 7) → Q (some (zi v)) m) : X (EE s) d 29 0 [(0, zr g0 11), (1, zi a1)] [] m Q := by
  have f0 := r11_7 hJ g0
  refine X.iconst 1 i29_0 rfl rfl (by decide) ?_
  refine X.istore_n 2 [(0, zr g0 11), (1, zi a1), (2, zi 0)] i29_1 rfl rfl rfl ?_
  have hz17 := zfu_eq 17
  refine l29_2_1 (s := s) (m := m) (B := B) (d := d) (R0 := (f29_1 g0 a1 m)) g0 a1  (by omega) (hJ.up (by omega)) (by omega) (by omega) (fun y501 hby501 hrlm502_0 hR505 => ?_) (fun  hR509 => ?_) (zfu 17) 0 (by omega) (by omega) rfl
  · refine X.iload_n 21 i29_20 rfl rfl rfl ?_
    refine X.reti i29_21 rfl t29 ?_
    exact hQ y501 (by first | trivial | omega) (Eq.trans hR505 rfl) (by omega)
  · refine X.iconst 29 i29_28 rfl rfl (by decide) ?_
    refine X.reti i29_29 rfl t29 ?_
    exact hQ (-1) (by first | trivial | omega) (Eq.trans hR509 rfl) (by omega)
noncomputable def fl30_7_1_b (self : Int → Int → Int → Int) (k87 : Int → Int → Int) (g0 : Nat) (y1 : Int) (m : zM) (y2 y3 y4 : Int) : Int :=
  if 4 ≤ y4 then
  (k87 y2 y3)
  else
  (if (m g0 15 y4) = (-1) then
  (self y2 y3 (y4 + 1))
  else
  (zn (if y1 < (m g0 15 y4) then
  (y2)
  else
  (if y2 = (-1) then
  (y4)
  else
  (if (m g0 15 y4) ≤ (m g0 15 y2) then
  (y2)
  else
  (y4)))) fun v544 =>
  zn (if (m g0 15 y4) ≤ (m g0 15 y3) then
  (y3)
  else
  (y4)) fun v551 =>
  self v544 v551 (y4 + 1)))
noncomputable def fl30_7_1 (k87 : Int → Int → Int) (g0 : Nat) (y1 : Int) (m : zM) : Nat → Int → Int → Int → Int
  | 0 => fun y2 y3 y4 => 0
  | n + 1 => fl30_7_1_b (fl30_7_1 k87 g0 y1 m n) k87 g0 y1 m
theorem l30_7_1 {s : Nat × (Nat → Int32)} {S : zS} {m0 : zM} {m : zM} {B : Int} {d : Nat} {Q : Option zV → zM → Prop} {R0 : Int} {k87 : Int → Int → Int} (g0 : Nat) (y1 : Int) (hd : 13 ≤ d) (hJ : J S m0 B m) (hB9 : B ≤ 1000000000) (hy1 : 0 ≤ y1 ∧ y1 ≤ 364)
    (K87 : ∀ (x2 x3 : Int) , ((-1) ≤ x2 ∧ x2 ≤ 3) → (0 ≤ x3 ∧ x3 ≤ 3) → R0 = k87 x2 x3 → X (EE s) d 30 87 [(2, zi x2), (3, zi x3)] [] m Q) :
    ∀ (n : Nat) (y2 y3 y4 : Int) , ((-1) ≤ y2 ∧ y2 ≤ 3) → (0 ≤ y3 ∧ y3 ≤ 3) → (0 ≤ y4 ∧ y4 ≤ 4) → 4 - y4 < (n : Int) → R0 = fl30_7_1 k87 g0 y1 m n y2 y3 y4 → X (EE s) d 30 7 [(0, zr g0 11), (1, zi y1), (2, zi y2), (3, zi y3), (4, zi y4)] [] m Q := by
  intro n
  induction n with
  | zero =>
    intro y2 y3 y4 hy2 hy3 hy4 hn hR
    exfalso
    omega
  | succ n ih =>
    intro y2 y3 y4 hy2 hy3 hy4 hn hR
    replace hR : R0 = fl30_7_1_b (fl30_7_1 k87 g0 y1 m n) k87 g0 y1 m y2 y3 y4 := hR
    refine X.iload 9 i30_7 rfl rfl rfl ?_
    refine X.iconst 10 i30_9 rfl rfl (by decide) ?_
    refine X.icmpge 87 13 i30_10 rfl rfl rfl (fun h537 => ?_) (fun h537 => ?_)
    · refine X.cut [(2, zi y2), (3, zi y3)] i30_87 rfl ?_
      exact K87 y2 y3 (by first | trivial | omega) (by first | trivial | omega) (Eq.trans hR (Eq.trans (if_pos h537) rfl))
    · refine X.aload_n 14 i30_13 rfl rfl rfl ?_
      refine X.getR 17 i30_14 rfl rfl (by decide) rfl rfl ?_
      refine X.iload 19 i30_17 rfl rfl rfl ?_
      refine X.iald 20 i30_19 rfl rfl (by decide) rfl (by omega) ?_
      have h538 := r15_0 hJ g0 (i := y4) (by omega)
      refine X.iconst 21 i30_20 rfl rfl (by decide) ?_
      refine X.icmpne 27 24 i30_21 rfl rfl rfl (fun h539 => ?_) (fun h539 => ?_)
      · refine X.aload_n 28 i30_27 rfl rfl rfl ?_
        refine X.getR 31 i30_28 rfl rfl (by decide) rfl rfl ?_
        refine X.iload 33 i30_31 rfl rfl rfl ?_
        refine X.iald 34 i30_33 rfl rfl (by decide) rfl (by omega) ?_
        refine X.iload_n 35 i30_34 rfl rfl rfl ?_
        have hK547 : ∀ (v : Int) , ((-1) ≤ v ∧ v ≤ 3) → (if y1 < (m g0 15 y4) then
            (y2)
            else
            (if y2 = (-1) then
            (y4)
            else
            (if (m g0 15 y4) ≤ (m g0 15 y2) then
            (y2)
            else
            (y4)))) = v → X (EE s) d 30 62 [(0, zr g0 11), (1, zi y1), (2, zi v), (3, zi y3), (4, zi y4)] [] m Q := by
          intro v544 hv544 hT548
          refine X.aload_n 63 i30_62 rfl rfl rfl ?_
          refine X.getR 66 i30_63 rfl rfl (by decide) rfl rfl ?_
          refine X.iload 68 i30_66 rfl rfl rfl ?_
          refine X.iald 69 i30_68 rfl rfl (by decide) rfl (by omega) ?_
          refine X.aload_n 70 i30_69 rfl rfl rfl ?_
          refine X.getR 73 i30_70 rfl rfl (by decide) rfl rfl ?_
          refine X.iload_n 74 i30_73 rfl rfl rfl ?_
          refine X.iald 75 i30_74 rfl rfl (by decide) rfl (by omega) ?_
          have h549 := r15_0 hJ g0 (i := y3) (by omega)
          have hK554 : ∀ (v : Int) , (0 ≤ v ∧ v ≤ 3) → (if (m g0 15 y4) ≤ (m g0 15 y3) then
              (y3)
              else
              (y4)) = v → X (EE s) d 30 81 [(0, zr g0 11), (1, zi y1), (2, zi v544), (3, zi v), (4, zi y4)] [] m Q := by
            intro v551 hv551 hT555
            refine X.iinc 84 [(0, zr g0 11), (1, zi y1), (2, zi v544), (3, zi v551), (4, zi (y4 + 1))] i30_81 rfl rfl rfl (by omega) rfl ?_
            refine X.goto 7 i30_84 rfl rfl ?_
            exact ih v544 v551 (y4 + 1) (by omega) (by omega) (by omega) (by omega) (Eq.trans hR (Eq.trans (if_neg h537) (Eq.trans (if_neg h539) (Eq.trans (zn_eq hT548.symm) (Eq.trans (zn_eq hT555.symm) rfl)))))
          refine X.icmple 81 78 i30_75 rfl rfl rfl (fun h550 => ?_) (fun h550 => ?_)
          · exact hK554 y3 (by first | trivial | omega) (Eq.trans (if_pos h550) rfl)
          · refine X.iload 80 i30_78 rfl rfl rfl ?_
            refine X.istore_n 81 [(0, zr g0 11), (1, zi y1), (2, zi v544), (3, zi y4), (4, zi y4)] i30_80 rfl rfl rfl ?_
            exact hK554 y4 (by first | trivial | omega) (Eq.trans (if_neg h550) rfl)
        refine X.icmpgt 62 38 i30_35 rfl rfl rfl (fun h540 => ?_) (fun h540 => ?_)
        · exact hK547 y2 (by first | trivial | omega) (Eq.trans (if_pos h540) rfl)
        · refine X.iload_n 39 i30_38 rfl rfl rfl ?_
          refine X.iconst 40 i30_39 rfl rfl (by decide) ?_
          refine X.icmpeq 59 43 i30_40 rfl rfl rfl (fun h541 => ?_) (fun h541 => ?_)
          · refine X.cut [(0, zr g0 11), (1, zi y1), (3, zi y3), (4, zi y4)] i30_59 rfl ?_
            refine X.iload 61 i30_59 rfl rfl rfl ?_
            refine X.istore_n 62 [(0, zr g0 11), (1, zi y1), (2, zi y4), (3, zi y3), (4, zi y4)] i30_61 rfl rfl rfl ?_
            exact hK547 y4 (by first | trivial | omega) (Eq.trans (if_neg h540) (Eq.trans (if_pos h541) rfl))
          · refine X.aload_n 44 i30_43 rfl rfl rfl ?_
            refine X.getR 47 i30_44 rfl rfl (by decide) rfl rfl ?_
            refine X.iload 49 i30_47 rfl rfl rfl ?_
            refine X.iald 50 i30_49 rfl rfl (by decide) rfl (by omega) ?_
            refine X.aload_n 51 i30_50 rfl rfl rfl ?_
            refine X.getR 54 i30_51 rfl rfl (by decide) rfl rfl ?_
            refine X.iload_n 55 i30_54 rfl rfl rfl ?_
            refine X.iald 56 i30_55 rfl rfl (by decide) rfl (by omega) ?_
            have h542 := r15_0 hJ g0 (i := y2) (by omega)
            refine X.icmple 62 59 i30_56 rfl rfl rfl (fun h543 => ?_) (fun h543 => ?_)
            · exact hK547 y2 (by first | trivial | omega) (Eq.trans (if_neg h540) (Eq.trans (if_neg h541) (Eq.trans (if_pos h543) rfl)))
            · refine X.cut [(0, zr g0 11), (1, zi y1), (3, zi y3), (4, zi y4)] i30_59 rfl ?_
              refine X.iload 61 i30_59 rfl rfl rfl ?_
              refine X.istore_n 62 [(0, zr g0 11), (1, zi y1), (2, zi y4), (3, zi y3), (4, zi y4)] i30_61 rfl rfl rfl ?_
              exact hK547 y4 (by first | trivial | omega) (Eq.trans (if_neg h540) (Eq.trans (if_neg h541) (Eq.trans (if_neg h543) rfl)))
      · refine X.goto 81 i30_24 rfl rfl ?_
        refine X.iinc 84 [(0, zr g0 11), (1, zi y1), (2, zi y2), (3, zi y3), (4, zi (y4 + 1))] i30_81 rfl rfl rfl (by omega) rfl ?_
        refine X.goto 7 i30_84 rfl rfl ?_
        exact ih y2 y3 (y4 + 1) (by omega) (by omega) (by omega) (by omega) (Eq.trans hR (Eq.trans (if_neg h537) (Eq.trans (if_pos h539) rfl)))
-- WorkMeter$Calendar.seasonOf
noncomputable def f30_1 (g0 : Nat) (a1 : Int) (m : zM) : Int :=
  fl30_7_1 (fun y501 y502 =>
  zn (if y501 = (-1) then
  (y502)
  else
  (y501)) fun v508 =>
  v508) g0 a1 m (zfu 5) (-1) 0 0
-- WorkMeter$Calendar.seasonOf
theorem c30_1 {s : Nat × (Nat → Int32)} {S : zS} {m0 m : zM} {B : Int} {d : Nat} {Q : Option zV → zM → Prop} (g0 : Nat) (a1 : Int) (hd : 13 ≤ d) (hJ : J S m0 B m) (hB : B + 0 ≤ 1000000000) (ha1 : 0 ≤ a1 ∧ a1 ≤ 364) (hQ : ∀ (v : Int), (0 ≤ v ∧ v ≤ 3) → f30_1 g0 a1 m = v → Q (some (zi v)) m) : X (EE s) d 30 0 [(0, zr g0 11), (1, zi a1)] [] m Q := by
  refine X.iconst 1 i30_0 rfl rfl (by decide) ?_
  refine X.istore_n 2 [(0, zr g0 11), (1, zi a1), (2, zi (-1))] i30_1 rfl rfl rfl ?_
  refine X.iconst 3 i30_2 rfl rfl (by decide) ?_
  refine X.istore_n 4 [(0, zr g0 11), (1, zi a1), (2, zi (-1)), (3, zi 0)] i30_3 rfl rfl rfl ?_
  refine X.iconst 5 i30_4 rfl rfl (by decide) ?_
  refine X.istore 7 [(0, zr g0 11), (1, zi a1), (2, zi (-1)), (3, zi 0), (4, zi 0)] i30_5 rfl rfl rfl ?_
  have hz5 := zfu_eq 5
  refine l30_7_1 (s := s) (m := m) (B := B) (d := d) (R0 := (f30_1 g0 a1 m)) g0 a1  (by omega) (hJ.up (by omega)) (by omega) (by omega) (fun y501 y502 hby501 hby502 hR506 => ?_) (zfu 5) (-1) 0 0 (by omega) (by omega) (by omega) (by omega) rfl
  refine X.iload_n 88 i30_87 rfl rfl rfl ?_
  refine X.iconst 89 i30_88 rfl rfl (by decide) ?_
  have hK511 : ∀ (v : Int) , (0 ≤ v ∧ v ≤ 3) → (if y501 = (-1) then
      (y502)
      else
      (y501)) = v → X (EE s) d 30 97 [] [zi v] m Q := by
    intro v508 hv508 hT512
    refine X.reti i30_97 rfl t30 ?_
    exact hQ v508 (by first | trivial | omega) (Eq.trans hR506 (Eq.trans (zn_eq hT512.symm) rfl)) 
  refine X.icmpne 96 92 i30_89 rfl rfl rfl (fun h507 => ?_) (fun h507 => ?_)
  · refine X.cut [(2, zi y501)] i30_96 rfl ?_
    refine X.iload_n 97 i30_96 rfl rfl rfl ?_
    refine X.cut [] i30_97 rfl ?_
    exact hK511 y501 (by first | trivial | omega) (Eq.trans (if_neg h507) rfl)
  · refine X.iload_n 93 i30_92 rfl rfl rfl ?_
    refine X.goto 97 i30_93 rfl rfl ?_
    refine X.cut [] i30_97 rfl ?_
    exact hK511 y502 (by first | trivial | omega) (Eq.trans (if_pos h507) rfl)
-- WorkMeter$Calendar.tableFor
noncomputable def f28_1 (g0 : Nat) (a1 : Int) (m : zM) : Int :=
  zn (f29_1 g0 (a1 % 365) m) fun v503 =>
  if v503 = (-1) then
  (zn (f30_1 g0 (a1 % 365) m) fun v507 =>
  (m g0 16 ((v507 * 7) + (a1 % 7))))
  else
  ((m g0 18 v503))
-- WorkMeter$Calendar.tableFor
theorem c28_1 {s : Nat × (Nat → Int32)} {S : zS} {m0 m : zM} {B : Int} {d : Nat} {Q : Option zV → zM → Prop} (g0 : Nat) (a1 : Int) (hd : 14 ≤ d) (hJ : J S m0 B m) (hB : B + 0 ≤ 1000000000) (ha1 : 0 ≤ a1 ∧ a1 ≤ 23150) (hQ : ∀ (v : Int), (0 ≤ v ∧ v ≤ 7) → f28_1 g0 a1 m = v → Q (some (zi v)) m) : X (EE s) d 28 0 [(0, zr g0 11), (1, zi a1)] [] m Q := by
  refine X.aload_n 1 i28_0 rfl rfl rfl ?_
  refine X.iload_n 2 i28_1 rfl rfl rfl ?_
  refine X.sipush 5 i28_2 rfl rfl (by decide) ?_
  refine X.irem 6 i28_5 rfl rfl (by omega) ?_
  refine X.callv 9 [zi (a1 % 365)] [] [(0, zr g0 11), (1, zi (a1 % 365))] i28_6 rfl (by decide) rfl rfl (by omega) rfl rfl (by decide) rfl t29 (Nat.le_of_ble_eq_true rfl) (Nat.le_of_ble_eq_true rfl) rfl ?_
  refine c29_1 (B := B) g0 (a1 % 365) (by omega) (hJ.up (by omega)) (by omega) (by omega) (fun v503 hv503 hFv503 hqv503_0 => ?_)
  show X (EE s) d 28 9 [(0, zr g0 11), (1, zi a1)] [zi v503] m _
  refine X.istore_n 10 [(0, zr g0 11), (1, zi a1), (2, zi v503)] i28_9 rfl rfl rfl ?_
  refine X.iload_n 11 i28_10 rfl rfl rfl ?_
  refine X.iconst 12 i28_11 rfl rfl (by decide) ?_
  refine X.icmpeq 22 15 i28_12 rfl rfl rfl (fun h504 => ?_) (fun h504 => ?_)
  · refine X.cut [(0, zr g0 11), (1, zi a1)] i28_22 rfl ?_
    refine X.aload_n 23 i28_22 rfl rfl rfl ?_
    refine X.getR 26 i28_23 rfl rfl (by decide) rfl rfl ?_
    refine X.aload_n 27 i28_26 rfl rfl rfl ?_
    refine X.iload_n 28 i28_27 rfl rfl rfl ?_
    refine X.sipush 31 i28_28 rfl rfl (by decide) ?_
    refine X.irem 32 i28_31 rfl rfl (by omega) ?_
    refine X.callv 35 [zi (a1 % 365)] [zr g0 16] [(0, zr g0 11), (1, zi (a1 % 365))] i28_32 rfl (by decide) rfl rfl (by omega) rfl rfl (by decide) rfl t30 (Nat.le_of_ble_eq_true rfl) (Nat.le_of_ble_eq_true rfl) rfl ?_
    refine c30_1 (B := B) g0 (a1 % 365) (by omega) (hJ.up (by omega)) (by omega) (by omega) (fun v507 hv507 hFv507 => ?_)
    show X (EE s) d 28 35 [(0, zr g0 11), (1, zi a1)] [zi v507, zr g0 16] m _
    refine X.bipush 37 i28_35 rfl rfl (by decide) ?_
    refine X.imul 38 i28_37 rfl rfl (by omega) ?_
    refine X.iload_n 39 i28_38 rfl rfl rfl ?_
    refine X.bipush 41 i28_39 rfl rfl (by decide) ?_
    refine X.irem 42 i28_41 rfl rfl (by omega) ?_
    refine X.iadd 43 i28_42 rfl rfl (by omega) ?_
    refine X.iald 44 i28_43 rfl rfl (by decide) rfl (by omega) ?_
    have h508 := r16_0 hJ g0 (i := ((v507 * 7) + (a1 % 7))) (by omega)
    refine X.reti i28_44 rfl t28 ?_
    exact hQ (m g0 16 ((v507 * 7) + (a1 % 7))) (by first | trivial | omega) (Eq.trans (zn_eq hFv503.symm) (Eq.trans (if_pos h504) (Eq.trans (zn_eq hFv507.symm) rfl))) 
  · refine X.aload_n 16 i28_15 rfl rfl rfl ?_
    refine X.getR 19 i28_16 rfl rfl (by decide) rfl rfl ?_
    refine X.iload_n 20 i28_19 rfl rfl rfl ?_
    refine X.iald 21 i28_20 rfl rfl (by decide) rfl (by omega) ?_
    have h509 := r18_0 hJ g0 (i := v503) (by omega)
    refine X.reti i28_21 rfl t28 ?_
    exact hQ (m g0 18 v503) (by first | trivial | omega) (Eq.trans (zn_eq hFv503.symm) (Eq.trans (if_neg h504) rfl)) 
noncomputable def fl32_8_1_b (self : Int → Int) (k38 : Int → Int) (g0 : Nat) (y1 y2 y3 : Int) (m : zM) (y4 : Int) : Int :=
  if (m g0 12 y1) ≤ y4 then
  (k38 y4)
  else
  (if y2 ≤ (m g0 13 (y3 + y4)) then
  (k38 y4)
  else
  (self (y4 + 1)))
noncomputable def fl32_8_1 (k38 : Int → Int) (g0 : Nat) (y1 y2 y3 : Int) (m : zM) : Nat → Int → Int
  | 0 => fun y4 => 0
  | n + 1 => fl32_8_1_b (fl32_8_1 k38 g0 y1 y2 y3 m n) k38 g0 y1 y2 y3 m
theorem l32_8_1 {s : Nat × (Nat → Int32)} {S : zS} {m0 : zM} {m : zM} {B : Int} {d : Nat} {Q : Option zV → zM → Prop} {R0 : Int} {k38 : Int → Int} (g0 : Nat) (y1 y2 y3 : Int) (hd : 13 ≤ d) (hJ : J S m0 B m) (hB9 : B ≤ 1000000000) (hy1 : 0 ≤ y1 ∧ y1 ≤ 7) (hy2 : (-2147483648) ≤ y2 ∧ y2 ≤ 2147483647) (hy3 : 0 ≤ y3 ∧ y3 ≤ 42)
    (K38 : ∀ (x4 : Int) , (0 ≤ x4 ∧ x4 ≤ 6) → (x4 ≤ m g0 12 y1) → (x4 ≤ m g0 12 y1) → (x4 < m g0 12 y1 → y2 ≤ m g0 13 (y3 + x4)) → R0 = k38 x4 → X (EE s) d 32 38 [(4, zi x4)] [] m Q) :
    ∀ (n : Nat) (y4 : Int) , (0 ≤ y4 ∧ y4 ≤ 6) → (y4 ≤ m g0 12 y1) → 6 - y4 < (n : Int) → R0 = fl32_8_1 k38 g0 y1 y2 y3 m n y4 → X (EE s) d 32 8 [(0, zr g0 11), (1, zi y1), (2, zi y2), (3, zi y3), (4, zi y4)] [] m Q := by
  intro n
  induction n with
  | zero =>
    intro y4 hy4 hr0 hn hR
    exfalso
    omega
  | succ n ih =>
    intro y4 hy4 hr0 hn hR
    replace hR : R0 = fl32_8_1_b (fl32_8_1 k38 g0 y1 y2 y3 m n) k38 g0 y1 y2 y3 m y4 := hR
    refine X.iload 10 i32_8 rfl rfl rfl ?_
    refine X.aload_n 11 i32_10 rfl rfl rfl ?_
    refine X.getR 14 i32_11 rfl rfl (by decide) rfl rfl ?_
    refine X.iload_n 15 i32_14 rfl rfl rfl ?_
    refine X.iald 16 i32_15 rfl rfl (by decide) rfl (by omega) ?_
    have h506 := r12_0 hJ g0 (i := y1) (by omega)
    refine X.icmpge 38 19 i32_16 rfl rfl rfl (fun h507 => ?_) (fun h507 => ?_)
    · refine X.cut [(4, zi y4)] i32_38 rfl ?_
      exact K38 y4 (by first | trivial | omega) (by omega) (by omega) (by omega) (Eq.trans hR (Eq.trans (if_pos h507) rfl))
    · refine X.aload_n 20 i32_19 rfl rfl rfl ?_
      refine X.getR 23 i32_20 rfl rfl (by decide) rfl rfl ?_
      refine X.iload_n 24 i32_23 rfl rfl rfl ?_
      refine X.iload 26 i32_24 rfl rfl rfl ?_
      refine X.iadd 27 i32_26 rfl rfl (by omega) ?_
      refine X.iald 28 i32_27 rfl rfl (by decide) rfl (by omega) ?_
      have h508 := r13_0 hJ g0 (i := (y3 + y4)) (by omega)
      refine X.iload_n 29 i32_28 rfl rfl rfl ?_
      refine X.icmpge 38 32 i32_29 rfl rfl rfl (fun h509 => ?_) (fun h509 => ?_)
      · refine X.cut [(4, zi y4)] i32_38 rfl ?_
        exact K38 y4 (by first | trivial | omega) (by omega) (by omega) (by omega) (Eq.trans hR (Eq.trans (if_neg h507) (Eq.trans (if_pos h509) rfl)))
      · refine X.iinc 35 [(0, zr g0 11), (1, zi y1), (2, zi y2), (3, zi y3), (4, zi (y4 + 1))] i32_32 rfl rfl rfl (by omega) rfl ?_
        refine X.goto 8 i32_35 rfl rfl ?_
        exact ih (y4 + 1) (by omega) (by omega) (by omega) (Eq.trans hR (Eq.trans (if_neg h507) (Eq.trans (if_neg h509) rfl)))
-- WorkMeter$Calendar.switchesBefore
noncomputable def f32_1 (g0 : Nat) (a1 a2 : Int) (m : zM) : Int :=
  fl32_8_1 (fun y501 =>
  y501) g0 a1 a2 (a1 * 6) m (zfu 7) 0
-- WorkMeter$Calendar.switchesBefore
theorem c32_1 {s : Nat × (Nat → Int32)} {S : zS} {m0 m : zM} {B : Int} {d : Nat} {Q : Option zV → zM → Prop} (g0 : Nat) (a1 a2 : Int) (hd : 13 ≤ d) (hJ : J S m0 B m) (hB : B + 0 ≤ 1000000000) (ha1 : 0 ≤ a1 ∧ a1 ≤ 7) (ha2 : (-2147483648) ≤ a2 ∧ a2 ≤ 2147483647) (hQ : ∀ (v : Int), (0 ≤ v ∧ v ≤ 6) → f32_1 g0 a1 a2 m = v → (v ≤ m g0 12 a1) → (v < m g0 12 a1 → a2 ≤ m g0 13 (a1 * 6 + v)) → Q (some (zi v)) m) : X (EE s) d 32 0 [(0, zr g0 11), (1, zi a1), (2, zi a2)] [] m Q := by
  have f0 := r12_0 hJ g0 (i := a1) (by omega)
  refine X.iload_n 1 i32_0 rfl rfl rfl ?_
  refine X.bipush 3 i32_1 rfl rfl (by decide) ?_
  refine X.imul 4 i32_3 rfl rfl (by omega) ?_
  refine X.istore_n 5 [(0, zr g0 11), (1, zi a1), (2, zi a2), (3, zi (a1 * 6))] i32_4 rfl rfl rfl ?_
  refine X.iconst 6 i32_5 rfl rfl (by decide) ?_
  refine X.istore 8 [(0, zr g0 11), (1, zi a1), (2, zi a2), (3, zi (a1 * 6)), (4, zi 0)] i32_6 rfl rfl rfl ?_
  have hz7 := zfu_eq 7
  refine l32_8_1 (s := s) (m := m) (B := B) (d := d) (R0 := (f32_1 g0 a1 a2 m)) g0 a1 a2 (a1 * 6)  (by omega) (hJ.up (by omega)) (by omega) (by omega) (by omega) (by omega) (fun y501 hby501 hrlm502_0 hrlm502_1 hrlm502_2 hR505 => ?_) (zfu 7) 0 (by omega) (by omega) (by omega) rfl
  refine X.iload 40 i32_38 rfl rfl rfl ?_
  refine X.reti i32_40 rfl t32 ?_
  exact hQ y501 (by first | trivial | omega) (Eq.trans hR505 rfl) (by omega) (by omega)
-- WorkMeter$Calendar.tariffIn
noncomputable def f31_1 (g0 : Nat) (a1 a2 : Int) (m : zM) : Int :=
  zn (f32_1 g0 a1 (a2 + 1) m) fun v503 =>
  zn (if v503 = 0 then
  (0)
  else
  ((m g0 14 (((a1 * 6) + v503) - 1)))) fun v506 =>
  v506
-- WorkMeter$Calendar.tariffIn
theorem c31_1 {s : Nat × (Nat → Int32)} {S : zS} {m0 m : zM} {B : Int} {d : Nat} {Q : Option zV → zM → Prop} (g0 : Nat) (a1 a2 : Int) (hd : 14 ≤ d) (hJ : J S m0 B m) (hB : B + 0 ≤ 1000000000) (ha1 : 0 ≤ a1 ∧ a1 ≤ 7) (ha2 : 0 ≤ a2 ∧ a2 ≤ 86399) (hQ : ∀ (v : Int), (0 ≤ v ∧ v ≤ 3) → f31_1 g0 a1 a2 m = v → Q (some (zi v)) m) : X (EE s) d 31 0 [(0, zr g0 11), (1, zi a1), (2, zi a2)] [] m Q := by
  refine X.aload_n 1 i31_0 rfl rfl rfl ?_
  refine X.iload_n 2 i31_1 rfl rfl rfl ?_
  refine X.iload_n 3 i31_2 rfl rfl rfl ?_
  refine X.iconst 4 i31_3 rfl rfl (by decide) ?_
  refine X.iadd 5 i31_4 rfl rfl (by omega) ?_
  refine X.callv 8 [zi a1, zi (a2 + 1)] [] [(0, zr g0 11), (1, zi a1), (2, zi (a2 + 1))] i31_5 rfl (by decide) rfl rfl (by omega) rfl rfl (by decide) rfl t32 (Nat.le_of_ble_eq_true rfl) (Nat.le_of_ble_eq_true rfl) rfl ?_
  refine c32_1 (B := B) g0 a1 (a2 + 1) (by omega) (hJ.up (by omega)) (by omega) (by omega) (by omega) (fun v503 hv503 hFv503 hqv503_0 hqv503_1 => ?_)
  show X (EE s) d 31 8 [(0, zr g0 11), (1, zi a1), (2, zi a2)] [zi v503] m _
  refine X.istore_n 9 [(0, zr g0 11), (1, zi a1), (2, zi a2), (3, zi v503)] i31_8 rfl rfl rfl ?_
  refine X.iload_n 10 i31_9 rfl rfl rfl ?_
  have hK509 : ∀ (v : Int) , (0 ≤ v ∧ v ≤ 3) → (if v503 = 0 then
      (0)
      else
      ((m g0 14 (((a1 * 6) + v503) - 1)))) = v → X (EE s) d 31 30 [] [zi v] m Q := by
    intro v506 hv506 hT510
    refine X.reti i31_30 rfl t31 ?_
    exact hQ v506 (by first | trivial | omega) (Eq.trans (zn_eq hFv503.symm) (Eq.trans (zn_eq hT510.symm) rfl)) 
  refine X.ifne 17 13 i31_10 rfl rfl rfl (fun h504 => ?_) (fun h504 => ?_)
  · refine X.cut [(0, zr g0 11), (1, zi a1), (3, zi v503)] i31_17 rfl ?_
    refine X.aload_n 18 i31_17 rfl rfl rfl ?_
    refine X.getR 21 i31_18 rfl rfl (by decide) rfl rfl ?_
    refine X.iload_n 22 i31_21 rfl rfl rfl ?_
    refine X.bipush 24 i31_22 rfl rfl (by decide) ?_
    refine X.imul 25 i31_24 rfl rfl (by omega) ?_
    refine X.iload_n 26 i31_25 rfl rfl rfl ?_
    refine X.iadd 27 i31_26 rfl rfl (by omega) ?_
    refine X.iconst 28 i31_27 rfl rfl (by decide) ?_
    refine X.isub 29 i31_28 rfl rfl (by omega) ?_
    refine X.iald 30 i31_29 rfl rfl (by decide) rfl (by omega) ?_
    have h505 := r14_0 hJ g0 (i := (((a1 * 6) + v503) - 1)) (by omega)
    refine X.cut [] i31_30 rfl ?_
    exact hK509 (m g0 14 (((a1 * 6) + v503) - 1)) (by first | trivial | omega) (Eq.trans (if_neg h504) rfl)
  · refine X.iconst 14 i31_13 rfl rfl (by decide) ?_
    refine X.goto 30 i31_14 rfl rfl ?_
    refine X.cut [] i31_30 rfl ?_
    exact hK509 0 (by first | trivial | omega) (Eq.trans (if_pos h504) rfl)
-- WorkMeter$Calendar.tariffOn
noncomputable def f27_1 (g0 : Nat) (a1 : Int) (m : zM) : Int :=
  zn (f28_1 g0 (a1 / 86400) m) fun v503 =>
  zn (f31_1 g0 v503 (a1 % 86400) m) fun v506 =>
  v506
-- WorkMeter$Calendar.tariffOn
theorem c27_1 {s : Nat × (Nat → Int32)} {S : zS} {m0 m : zM} {B : Int} {d : Nat} {Q : Option zV → zM → Prop} (g0 : Nat) (a1 : Int) (hd : 15 ≤ d) (hJ : J S m0 B m) (hB : B + 0 ≤ 1000000000) (ha1 : 0 ≤ a1 ∧ a1 ≤ 2000185600) (hQ : ∀ (v : Int), (0 ≤ v ∧ v ≤ 3) → f27_1 g0 a1 m = v → Q (some (zi v)) m) : X (EE s) d 27 0 [(0, zr g0 11), (1, zi a1)] [] m Q := by
  refine X.aload_n 1 i27_0 rfl rfl rfl ?_
  refine X.aload_n 2 i27_1 rfl rfl rfl ?_
  refine X.iload_n 3 i27_2 rfl rfl rfl ?_
  refine X.ldc 5 i27_3 rfl rfl (by decide) ?_
  refine X.idiv 6 i27_5 rfl rfl (by omega) ?_
  refine X.callv 9 [zi (a1 / 86400)] [zr g0 11] [(0, zr g0 11), (1, zi (a1 / 86400))] i27_6 rfl (by decide) rfl rfl (by omega) rfl rfl (by decide) rfl t28 (Nat.le_of_ble_eq_true rfl) (Nat.le_of_ble_eq_true rfl) rfl ?_
  refine c28_1 (B := B) g0 (a1 / 86400) (by omega) (hJ.up (by omega)) (by omega) (by omega) (fun v503 hv503 hFv503 => ?_)
  show X (EE s) d 27 9 [(0, zr g0 11), (1, zi a1)] [zi v503, zr g0 11] m _
  refine X.iload_n 10 i27_9 rfl rfl rfl ?_
  refine X.ldc 12 i27_10 rfl rfl (by decide) ?_
  refine X.irem 13 i27_12 rfl rfl (by omega) ?_
  refine X.callv 16 [zi v503, zi (a1 % 86400)] [] [(0, zr g0 11), (1, zi v503), (2, zi (a1 % 86400))] i27_13 rfl (by decide) rfl rfl (by omega) rfl rfl (by decide) rfl t31 (Nat.le_of_ble_eq_true rfl) (Nat.le_of_ble_eq_true rfl) rfl ?_
  refine c31_1 (B := B) g0 v503 (a1 % 86400) (by omega) (hJ.up (by omega)) (by omega) (by omega) (by omega) (fun v506 hv506 hFv506 => ?_)
  show X (EE s) d 27 16 [(0, zr g0 11), (1, zi a1)] [zi v506] m _
  refine X.reti i27_16 rfl t27 ?_
  exact hQ v506 (by first | trivial | omega) (Eq.trans (zn_eq hFv503.symm) (Eq.trans (zn_eq hFv506.symm) rfl)) 
noncomputable def fl34_16_1_b (self : Int → Int → Int → Int → Int → Int → Int) (k177 : Int → Int → Int → Int → Int → Int) (g0 : Nat) (y1 : Int) (m : zM) (y2 y3 y4 y5 y6 y7 : Int) : Int :=
  if (m g0 19 3) ≤ y7 then
  (k177 y2 y3 y4 y5 y6)
  else
  (zn (((m g0 19 4) * y1)) fun z607 =>
  zn (if (m g0 22 (8 + y7)) < z607 then
  (1)
  else
  (0)) fun v610 =>
  zn (if y2 = 0 then
  (if v610 = 0 then
  (0)
  else
  (1))
  else
  (1)) fun v617 =>
  zn (if y3 = 0 then
  (if v610 = 0 then
  (1)
  else
  (0))
  else
  (1)) fun v624 =>
  zn (if y4 = 0 then
  (if (m g0 22 (0 + y7)) ≤ 0 then
  (0)
  else
  (1))
  else
  (1)) fun v632 =>
  zn (if y5 = 0 then
  (if (m g0 22 (0 + y7)) < 0 then
  (1)
  else
  (0))
  else
  (1)) fun v640 =>
  zn (if y6 = 0 then
  (if (m g0 22 (8 + y7)) = 0 then
  (if (m g0 22 (12 + y7)) ≤ 0 then
  (0)
  else
  (1))
  else
  (0))
  else
  (1)) fun v650 =>
  self v617 v624 v632 v640 v650 (y7 + 1))
noncomputable def fl34_16_1 (k177 : Int → Int → Int → Int → Int → Int) (g0 : Nat) (y1 : Int) (m : zM) : Nat → Int → Int → Int → Int → Int → Int → Int
  | 0 => fun y2 y3 y4 y5 y6 y7 => 0
  | n + 1 => fl34_16_1_b (fl34_16_1 k177 g0 y1 m n) k177 g0 y1 m
