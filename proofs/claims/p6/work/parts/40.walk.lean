-- WorkMeter$Seal.refuses
def f17_1 (g0 : Nat) (m : zM) : Int × zM :=
  zs (if (m g0 39 0) = 0 then
  (m)
  else
  (zn (w32 ((m g0 39 3) + 1)) fun z504 =>
  zs (z_upd m g0 39 3 z504) fun m505 =>
  m505)) fun m508 =>
  ((m508 g0 39 0), m508)
-- WorkMeter$Seal.refuses
theorem c17_1 {s : Nat × (Nat → Int32)} {S : zS} {m0 m : zM} {B : Int} {d : Nat} {Q : Option zV → zM → Prop} (g0 : Nat) (hd : 13 ≤ d) (hJ : J S m0 B m) (hB : B + 0 ≤ 1000000000) (hf4 : ¬ S.1 4) (hgg0 : ¬ S.2.1 g0) (hQ : ∀ (v : Int) m', (0 ≤ v ∧ v ≤ 1) → f17_1 g0 m = (v, m') → J S m0 (B) m' → Q (some (zi v)) m') : X (EE s) d 17 0 [(0, zr g0 39)] [] m Q := by
  refine X.aload_n 1 i17_0 rfl rfl rfl ?_
  refine X.getZ 4 0 i17_1 rfl rfl (by decide) rfl rfl rfl (fun h501 => ?_)
  have hK510 : ∀ (m' : zM), (if (m g0 39 0) = 0 then
      (m)
      else
      (zn (w32 ((m g0 39 3) + 1)) fun z504 =>
      zs (z_upd m g0 39 3 z504) fun m505 =>
      m505)) = m' → J S m0 (B) m' → X (EE s) d 17 17 [(0, zr g0 39)] [] m' Q := by
    intro m508 hT511 hJ509
    refine X.aload_n 18 i17_17 rfl rfl rfl ?_
    refine X.getZ 21 0 i17_18 rfl rfl (by decide) rfl rfl rfl (fun h512 => ?_)
    refine X.retz i17_21 rfl t17 (by omega) ?_
    exact hQ (m508 g0 39 0) m508 (by first | trivial | omega) (Eq.trans (zs_eq hT511.symm) rfl) (hJ509.up (by omega)) 
  refine X.ifeq 17 7 i17_4 rfl rfl rfl (fun h502 => ?_) (fun h502 => ?_)
  · exact hK510 m (Eq.trans (if_pos h502) rfl) (hJ.up (by omega))
  · refine X.aload_n 8 i17_7 rfl rfl rfl ?_
    refine X.dup 9 i17_8 rfl rfl rfl ?_
    refine X.getIr 12 3 i17_9 rfl rfl (by decide) rfl rfl rfl (fun h503 => ?_)
    refine X.iconst 13 i17_12 rfl rfl (by decide) ?_
    refine X.iaddW 14 i17_13 rfl rfl (fun z504 ez504 hz504 => ?_)
    refine X.putI' 17 3 i17_14 rfl rfl (by decide) rfl rfl rfl (fun hrm505 m505 hm505 => ?_)
    have hJ506 := w39_3 hJ hm505 hrm505 hf4 hgg0
    exact hK510 m505 (Eq.trans (if_neg h502) (Eq.trans (zn_eq ez504) (Eq.trans (zs_eq hm505) rfl))) (hJ506.up (by omega))
def fl11_6_1_b (self : Int → zM → zM) (k22 : zM → zM) (g0 : Nat) (y1 y4 : Int) (y3 : Int) (m : zM) : zM :=
  if y4 ≤ y3 then
  (k22 m)
  else
  (zs (z_upd m g0 22 y3 y1) fun m505 =>
  self (y3 + 1) m505)
def fl11_6_1 (k22 : zM → zM) (g0 : Nat) (y1 y4 : Int) : Nat → Int → zM → zM
  | 0 => fun y3 m => m
  | n + 1 => fl11_6_1_b (fl11_6_1 k22 g0 y1 y4 n) k22 g0 y1 y4
theorem l11_6_1 {s : Nat × (Nat → Int32)} {S : zS} {m0 : zM} {d : Nat} {Q : Option zV → zM → Prop} {R0 : zM} {k22 : zM → zM} (g0 : Nat) (y1 y4 : Int) (BE : Int) (hE : BE ≤ 1000000000) (hd : 13 ≤ d) (hy1 : 0 ≤ y1 ∧ y1 ≤ 0) (hy4 : 16 ≤ y4 ∧ y4 ≤ 16) (hf2 : ¬ S.1 2) (hgg0 : ¬ S.2.1 g0)
    (K22 : ∀ (m' : zM) (B' : Int), J S m0 B' m' → B' ≤ BE → R0 = k22 m' → X (EE s) d 11 22 [] [] m' Q) :
    ∀ (n : Nat) (y3 : Int) (m : zM) (B : Int), J S m0 B m → B + 0 * (n : Int) ≤ BE → (0 ≤ y3 ∧ y3 ≤ 16) → 16 - y3 < (n : Int) → R0 = fl11_6_1 k22 g0 y1 y4 n y3 m → X (EE s) d 11 6 [(0, zr g0 22), (1, zl y1), (3, zi y3), (4, zi y4)] [] m Q := by
  intro n
  induction n with
  | zero =>
    intro y3 m B hJ hB hy3 hn hR
    exfalso
    omega
  | succ n ih =>
    intro y3 m B hJ hB hy3 hn hR
    replace hR : R0 = fl11_6_1_b (fl11_6_1 k22 g0 y1 y4 n) k22 g0 y1 y4 y3 m := hR
    refine X.iload_n 7 i11_6 rfl rfl rfl ?_
    refine X.iload 9 i11_7 rfl rfl rfl ?_
    refine X.icmpge 22 12 i11_9 rfl rfl rfl (fun h504 => ?_) (fun h504 => ?_)
    · refine X.cut [] i11_22 rfl ?_
      exact K22  m (B) (hJ.up (by omega)) (by omega)  (Eq.trans hR (Eq.trans (if_pos h504) rfl))
    · refine X.aload_n 13 i11_12 rfl rfl rfl ?_
      refine X.iload_n 14 i11_13 rfl rfl rfl ?_
      refine X.lload_n 15 i11_14 rfl rfl rfl ?_
      refine X.last' 16 i11_15 rfl rfl (by decide) rfl (by omega) (fun hrm505 m505 hm505 => ?_)
      have hJ506 := w22_0 hJ hm505 (by omega) hrm505 hf2 hgg0
      refine X.iinc 19 [(0, zr g0 22), (1, zl y1), (3, zi (y3 + 1)), (4, zi y4)] i11_16 rfl rfl rfl (by omega) rfl ?_
      refine X.goto 6 i11_19 rfl rfl ?_
      exact ih (y3 + 1) m505 (B) (hJ506.up (by omega)) (by omega) (by omega) (by omega) (Eq.trans hR (Eq.trans (if_neg h504) (Eq.trans (zs_eq hm505) rfl)))
-- java/util/Arrays.fill
def f11_1 (g0 : Nat) (a1 : Int) (m : zM) : zM :=
  fl11_6_1 (fun m501 =>
  m501) g0 a1 16 17 0 m
-- java/util/Arrays.fill
theorem c11_1 {s : Nat × (Nat → Int32)} {S : zS} {m0 m : zM} {B : Int} {d : Nat} {Q : Option zV → zM → Prop} (g0 : Nat) (a1 : Int) (hd : 13 ≤ d) (hJ : J S m0 B m) (hB : B + 0 ≤ 1000000000) (ha1 : 0 ≤ a1 ∧ a1 ≤ 0) (hf2 : ¬ S.1 2) (hgg0 : ¬ S.2.1 g0) (hQ : ∀ m', f11_1 g0 a1 m = m' → J S m0 (B) m' → Q none m') : X (EE s) d 11 0 [(0, zr g0 22), (1, zl a1)] [] m Q := by
  refine X.iconst 1 i11_0 rfl rfl (by decide) ?_
  refine X.istore_n 2 [(0, zr g0 22), (1, zl a1), (3, zi 0)] i11_1 rfl rfl rfl ?_
  refine X.aload_n 3 i11_2 rfl rfl rfl ?_
  refine X.alen 4 i11_3 rfl rfl (by decide) rfl ?_
  show X (EE s) d 11 4 [(0, zr g0 22), (1, zl a1), (3, zi 0)] [zi 16] m _
  refine X.istore 6 [(0, zr g0 22), (1, zl a1), (3, zi 0), (4, zi 16)] i11_4 rfl rfl rfl ?_
  refine l11_6_1 (s := s) (d := d) (R0 := (f11_1 g0 a1 m)) g0 a1 16  (BE := B + 0) (by omega) (by omega) (by omega) (by omega) hf2 hgg0 (fun  m501 B502 hJ503 hBB502 hR504 => ?_) 17 0 m (B) (hJ.up (by omega)) (by omega) (by omega) (by omega) rfl
  refine X.retv i11_22 rfl t11 ?_
  exact hQ  m501  (Eq.trans hR504 rfl) (hJ503.up (by omega)) 
-- WorkMeter$Wave.tellShape
def f18_1 (g0 : Nat) (a1 a2 : Int) (m : zM) : Int × zM :=
  if a1 < 1 then
  ((0, m))
  else
  (if 3 < a1 then
  ((0, m))
  else
  (if a2 < 4 then
  ((0, m))
  else
  (if 16 < a2 then
  ((0, m))
  else
  (if (a2 % 4) = 0 then
  (zs (z_upd m g0 19 3 a1) fun m506 =>
  zs (z_upd m506 g0 19 4 a2) fun m508 =>
  zs (z_upd m508 g0 19 5 0) fun m510 =>
  zs (z_upd m510 g0 19 6 0) fun m512 =>
  zs (f11_1 g0 0 m512) fun m514 =>
  (1, m514))
  else
  ((0, m))))))
-- WorkMeter$Wave.tellShape
theorem c18_1 {s : Nat × (Nat → Int32)} {S : zS} {m0 m : zM} {B : Int} {d : Nat} {Q : Option zV → zM → Prop} (g0 : Nat) (a1 a2 : Int) (hd : 14 ≤ d) (hJ : J S m0 B m) (hB : B + 0 ≤ 1000000000) (ha1 : (-2147483648) ≤ a1 ∧ a1 ≤ 2147483647) (ha2 : (-2147483648) ≤ a2 ∧ a2 ≤ 2147483647) (hf2 : ¬ S.1 2) (hgg0 : ¬ S.2.1 g0) (hQ : ∀ (v : Int) m', (0 ≤ v ∧ v ≤ 1) → f18_1 g0 a1 a2 m = (v, m') → J S m0 (B) m' → Q (some (zi v)) m') : X (EE s) d 18 0 [(0, zr g0 19), (1, zi a1), (2, zi a2)] [] m Q := by
  refine X.iload_n 1 i18_0 rfl rfl rfl ?_
  refine X.iconst 2 i18_1 rfl rfl (by decide) ?_
  refine X.icmplt 27 5 i18_2 rfl rfl rfl (fun h501 => ?_) (fun h501 => ?_)
  · refine X.cut [] i18_27 rfl ?_
    refine X.iconst 28 i18_27 rfl rfl (by decide) ?_
    refine X.retz i18_28 rfl t18 (by omega) ?_
    exact hQ 0 m (by first | trivial | omega) (Eq.trans (if_pos h501) rfl) (hJ.up (by omega)) 
  · refine X.iload_n 6 i18_5 rfl rfl rfl ?_
    refine X.iconst 7 i18_6 rfl rfl (by decide) ?_
    refine X.icmpgt 27 10 i18_7 rfl rfl rfl (fun h502 => ?_) (fun h502 => ?_)
    · refine X.cut [] i18_27 rfl ?_
      refine X.iconst 28 i18_27 rfl rfl (by decide) ?_
      refine X.retz i18_28 rfl t18 (by omega) ?_
      exact hQ 0 m (by first | trivial | omega) (Eq.trans (if_neg h501) (Eq.trans (if_pos h502) rfl)) (hJ.up (by omega)) 
    · refine X.iload_n 11 i18_10 rfl rfl rfl ?_
      refine X.iconst 12 i18_11 rfl rfl (by decide) ?_
      refine X.icmplt 27 15 i18_12 rfl rfl rfl (fun h503 => ?_) (fun h503 => ?_)
      · refine X.cut [] i18_27 rfl ?_
        refine X.iconst 28 i18_27 rfl rfl (by decide) ?_
        refine X.retz i18_28 rfl t18 (by omega) ?_
        exact hQ 0 m (by first | trivial | omega) (Eq.trans (if_neg h501) (Eq.trans (if_neg h502) (Eq.trans (if_pos h503) rfl))) (hJ.up (by omega)) 
      · refine X.iload_n 16 i18_15 rfl rfl rfl ?_
        refine X.bipush 18 i18_16 rfl rfl (by decide) ?_
        refine X.icmpgt 27 21 i18_18 rfl rfl rfl (fun h504 => ?_) (fun h504 => ?_)
        · refine X.cut [] i18_27 rfl ?_
          refine X.iconst 28 i18_27 rfl rfl (by decide) ?_
          refine X.retz i18_28 rfl t18 (by omega) ?_
          exact hQ 0 m (by first | trivial | omega) (Eq.trans (if_neg h501) (Eq.trans (if_neg h502) (Eq.trans (if_neg h503) (Eq.trans (if_pos h504) rfl)))) (hJ.up (by omega)) 
        · refine X.iload_n 22 i18_21 rfl rfl rfl ?_
          refine X.iconst 23 i18_22 rfl rfl (by decide) ?_
          refine X.irem 24 i18_23 rfl rfl (by omega) ?_
          refine X.ifeq 29 27 i18_24 rfl rfl rfl (fun h505 => ?_) (fun h505 => ?_)
          · refine X.aload_n 30 i18_29 rfl rfl rfl ?_
            refine X.iload_n 31 i18_30 rfl rfl rfl ?_
            refine X.putI' 34 3 i18_31 rfl rfl (by decide) rfl rfl rfl (fun hrm506 m506 hm506 => ?_)
            have hJ507 := w19_3 hJ hm506 (by omega) hf2 hgg0
            refine X.aload_n 35 i18_34 rfl rfl rfl ?_
            refine X.iload_n 36 i18_35 rfl rfl rfl ?_
            refine X.putI' 39 4 i18_36 rfl rfl (by decide) rfl rfl rfl (fun hrm508 m508 hm508 => ?_)
            have hJ509 := w19_4 hJ507 hm508 (by omega) hf2 hgg0
            refine X.aload_n 40 i18_39 rfl rfl rfl ?_
            refine X.iconst 41 i18_40 rfl rfl (by decide) ?_
            refine X.putI' 44 5 i18_41 rfl rfl (by decide) rfl rfl rfl (fun hrm510 m510 hm510 => ?_)
            have hJ511 := w19_5 hJ509 hm510 (by omega) hf2 hgg0
            have em510 : m510 g0 19 5 = 0 := by rw [hm510]; exact z_upd_same _ _ _ _ _
            refine X.aload_n 45 i18_44 rfl rfl rfl ?_
            refine X.lconst (y := 0) 46 i18_45 rfl rfl rfl ?_
            refine X.putL' 49 6 i18_46 rfl rfl (by decide) rfl rfl rfl (fun hrm512 m512 hm512 => ?_)
            have hJ513 := w19_6 hJ511 hm512 hrm512 hf2 hgg0
            refine X.aload_n 50 i18_49 rfl rfl rfl ?_
            refine X.getR 53 i18_50 rfl rfl (by decide) rfl rfl ?_
            refine X.lconst (y := 0) 54 i18_53 rfl rfl rfl ?_
            refine X.calls 57 [zr g0 22, zl 0] [] [(0, zr g0 22), (1, zl 0)] i18_54 (by decide) rfl rfl (by omega) rfl rfl t11 (Nat.le_of_ble_eq_true rfl) (Nat.le_of_ble_eq_true rfl) rfl ?_
            refine c11_1 (B := B) g0 0 (by omega) (hJ513.up (by omega)) (by omega) (by omega) hf2 hgg0 (fun m514 hFv516 hJ515 => ?_)
            show X (EE s) d 18 57 [(0, zr g0 19), (1, zi a1), (2, zi a2)] [] m514 _
            refine X.iconst 58 i18_57 rfl rfl (by decide) ?_
            refine X.retz i18_58 rfl t18 (by omega) ?_
            exact hQ 1 m514 (by first | trivial | omega) (Eq.trans (if_neg h501) (Eq.trans (if_neg h502) (Eq.trans (if_neg h503) (Eq.trans (if_neg h504) (Eq.trans (if_pos h505) (Eq.trans (zs_eq hm506) (Eq.trans (zs_eq hm508) (Eq.trans (zs_eq hm510) (Eq.trans (zs_eq hm512) (Eq.trans (zs_eq hFv516.symm) rfl)))))))))) (hJ515.up (by omega)) 
          · refine X.cut [] i18_27 rfl ?_
            refine X.iconst 28 i18_27 rfl rfl (by decide) ?_
            refine X.retz i18_28 rfl t18 (by omega) ?_
            exact hQ 0 m (by first | trivial | omega) (Eq.trans (if_neg h501) (Eq.trans (if_neg h502) (Eq.trans (if_neg h503) (Eq.trans (if_neg h504) (Eq.trans (if_neg h505) rfl))))) (hJ.up (by omega)) 
-- WorkMeter.phases
def f16_1 (a1 a2 : Int) (m : zM) : Int × zM :=
  zb (f17_1 0 m) fun v503 m501 =>
  if v503 = 0 then
  (zb (f18_1 0 a1 a2 m501) fun v507 m505 =>
  (v507, m505))
  else
  ((0, m501))
-- WorkMeter.phases
theorem c16_1 {s : Nat × (Nat → Int32)} {S : zS} {m0 m : zM} {B : Int} {d : Nat} {Q : Option zV → zM → Prop} (a1 a2 : Int) (hd : 15 ≤ d) (hJ : J S m0 B m) (hB : B + 0 ≤ 1000000000) (ha1 : (-2147483648) ≤ a1 ∧ a1 ≤ 2147483647) (ha2 : (-2147483648) ≤ a2 ∧ a2 ≤ 2147483647) (hf2 : ¬ S.1 2) (hf4 : ¬ S.1 4) (hg0 : ¬ S.2.1 0) (hQ : ∀ (v : Int) m', (0 ≤ v ∧ v ≤ 1) → f16_1 a1 a2 m = (v, m') → J S m0 (B) m' → Q (some (zi v)) m') : X (EE s) d 16 0 [(0, zr 4 40), (1, zi a1), (2, zi a2)] [] m Q := by
  refine X.aload_n 1 i16_0 rfl rfl rfl ?_
  refine X.getF 4 i16_1 rfl rfl (by decide) rfl rfl ?_
  refine X.getR 7 i16_4 rfl rfl (by decide) rfl rfl ?_
  refine X.callv 10 [] [] [(0, zr 0 39)] i16_7 rfl (by decide) rfl rfl (by omega) rfl rfl (by decide) rfl t17 (Nat.le_of_ble_eq_true rfl) (Nat.le_of_ble_eq_true rfl) rfl ?_
  refine c17_1 (B := B) 0  (by omega) (hJ.up (by omega)) (by omega)  hf4 hg0 (fun v503 m501 hv503 hFv503 hJ502 => ?_)
  show X (EE s) d 16 10 [(0, zr 4 40), (1, zi a1), (2, zi a2)] [zi v503] m501 _
  refine X.ifeq 15 13 i16_10 rfl rfl rfl (fun h504 => ?_) (fun h504 => ?_)
  · refine X.aload_n 16 i16_15 rfl rfl rfl ?_
    refine X.getF 19 i16_16 rfl rfl (by decide) rfl rfl ?_
    refine X.getR 22 i16_19 rfl rfl (by decide) rfl rfl ?_
    refine X.iload_n 23 i16_22 rfl rfl rfl ?_
    refine X.iload_n 24 i16_23 rfl rfl rfl ?_
    refine X.callv 27 [zi a1, zi a2] [] [(0, zr 0 19), (1, zi a1), (2, zi a2)] i16_24 rfl (by decide) rfl rfl (by omega) rfl rfl (by decide) rfl t18 (Nat.le_of_ble_eq_true rfl) (Nat.le_of_ble_eq_true rfl) rfl ?_
    refine c18_1 (B := B) 0 a1 a2 (by omega) (hJ502.up (by omega)) (by omega) (by omega) (by omega) hf2 hg0 (fun v507 m505 hv507 hFv507 hJ506 => ?_)
    show X (EE s) d 16 27 [(0, zr 4 40), (1, zi a1), (2, zi a2)] [zi v507] m505 _
    refine X.retz i16_27 rfl t16 (by omega) ?_
    exact hQ v507 m505 (by first | trivial | omega) (Eq.trans (zb_eq hFv503) (Eq.trans (if_pos h504) (Eq.trans (zb_eq hFv507) rfl))) (hJ506.up (by omega)) 
  · refine X.iconst 14 i16_13 rfl rfl (by decide) ?_
    refine X.retz i16_14 rfl t16 (by omega) ?_
    exact hQ 0 m501 (by first | trivial | omega) (Eq.trans (zb_eq hFv503) (Eq.trans (if_neg h504) rfl)) (hJ502.up (by omega)) 
-- WorkMeterModel.isShut
def f203_1 (m : zM) : Int × zM :=
  zn (w64 ((m 4 45 1618) + (m 4 45 1614))) fun z502 =>
  zs (z_upd m 4 45 1618 z502) fun m503 =>
  zn (if (m503 4 45 1614) = 1 then
  (1)
  else
  (0)) fun v508 =>
  (v508, m503)
-- WorkMeterModel.isShut
theorem c203_1 {s : Nat × (Nat → Int32)} {S : zS} {m0 m : zM} {B : Int} {d : Nat} {Q : Option zV → zM → Prop} (hd : 13 ≤ d) (hJ : J S m0 B m) (hB : B + 0 ≤ 1000000000) (hf4 : ¬ S.1 4) (hg4 : ¬ S.2.1 4) (hQ : ∀ (v : Int) m', (0 ≤ v ∧ v ≤ 1) → f203_1 m = (v, m') → J S m0 (B) m' → Q (some (zi v)) m') : X (EE s) d 203 0 [(0, zr 4 44)] [] m Q := by
  refine X.aload_n 1 i203_0 rfl rfl rfl ?_
  refine X.getF 4 i203_1 rfl rfl (by decide) rfl rfl ?_
  refine X.sipush 7 i203_4 rfl rfl (by decide) ?_
  refine X.dup2 8 i203_7 rfl rfl ?_
  refine X.lald 9 i203_8 rfl rfl (by decide) rfl (by omega) ?_
  refine X.aload_n 10 i203_9 rfl rfl rfl ?_
  refine X.getF 13 i203_10 rfl rfl (by decide) rfl rfl ?_
  refine X.sipush 16 i203_13 rfl rfl (by decide) ?_
  refine X.lald 17 i203_16 rfl rfl (by decide) rfl (by omega) ?_
  have h501 := r45_1614 hJ 4
  refine X.laddW 18 i203_17 rfl rfl (fun z502 ez502 hz502 => ?_)
  refine X.last' 19 i203_18 rfl rfl (by decide) rfl (by omega) (fun hrm503 m503 hm503 => ?_)
  have hJ504 := w45_1618 hJ hm503 hrm503 hf4 hg4
  refine X.aload_n 20 i203_19 rfl rfl rfl ?_
  refine X.getF 23 i203_20 rfl rfl (by decide) rfl rfl ?_
  refine X.sipush 26 i203_23 rfl rfl (by decide) ?_
  refine X.lald 27 i203_26 rfl rfl (by decide) rfl (by omega) ?_
  have h505 := r45_1614 hJ504 4
  refine X.lconst (y := 1) 28 i203_27 rfl rfl rfl ?_
  refine X.lcmp 29 i203_28 rfl rfl (fun z506 hz506 => ?_)
  have hK511 : ∀ (v : Int) , (0 ≤ v ∧ v ≤ 1) → (if (m503 4 45 1614) = 1 then
      (1)
      else
      (0)) = v → X (EE s) d 203 37 [] [zi v] m503 Q := by
    intro v508 hv508 hT512
    refine X.retz i203_37 rfl t203 (by omega) ?_
    exact hQ v508 m503 (by first | trivial | omega) (Eq.trans (zn_eq ez502) (Eq.trans (zs_eq hm503) (Eq.trans (zn_eq hT512.symm) rfl))) (hJ504.up (by omega)) 
  refine X.ifne 36 32 i203_29 rfl rfl rfl (fun h507 => ?_) (fun h507 => ?_)
  · have h507c : ¬ (m503 4 45 1614) = 1 := by omega
    clear h507 hz506
    refine X.cut [] i203_36 rfl ?_
    refine X.iconst 37 i203_36 rfl rfl (by decide) ?_
    exact hK511 0 (by first | trivial | omega) (Eq.trans (if_neg h507c) rfl)
  · have h507c : (m503 4 45 1614) = 1 := by omega
    clear h507 hz506
    refine X.iconst 33 i203_32 rfl rfl (by decide) ?_
    refine X.goto 37 i203_33 rfl rfl ?_
    refine X.cut [] i203_37 rfl ?_
    exact hK511 1 (by first | trivial | omega) (Eq.trans (if_pos h507c) rfl)
def fl202_67_1_b (self : Int → zM → Int × zM) (k87 : zM → Int × zM) (y3 : Int) (m : zM) : Int × zM :=
  if 191 ≤ y3 then
  (k87 m)
  else
  (zs (z_upd m 4 45 y3 0) fun m505 =>
  self (y3 + 1) m505)
def fl202_67_1 (k87 : zM → Int × zM) : Nat → Int → zM → Int × zM
  | 0 => fun y3 m => (0, m)
  | n + 1 => fl202_67_1_b (fl202_67_1 k87 n) k87
theorem l202_67_1 {s : Nat × (Nat → Int32)} {S : zS} {m0 : zM} {d : Nat} {Q : Option zV → zM → Prop} {R0 : Int × zM} {k87 : zM → Int × zM} (BE : Int) (hE : BE ≤ 1000000000) (hd : 13 ≤ d) (hf2 : ¬ S.1 2) (hg4 : ¬ S.2.1 4)
    (K87 : ∀ (m' : zM) (B' : Int), J S m0 B' m' → B' ≤ BE → R0 = k87 m' → X (EE s) d 202 87 [] [] m' Q) :
    ∀ (n : Nat) (y3 : Int) (m : zM) (B : Int), J S m0 B m → B + 0 * (n : Int) ≤ BE → (95 ≤ y3 ∧ y3 ≤ 191) → 191 - y3 < (n : Int) → R0 = fl202_67_1 k87 n y3 m → X (EE s) d 202 67 [(0, zr 4 44), (3, zi y3)] [] m Q := by
  intro n
  induction n with
  | zero =>
    intro y3 m B hJ hB hy3 hn hR
    exfalso
    omega
  | succ n ih =>
    intro y3 m B hJ hB hy3 hn hR
    replace hR : R0 = fl202_67_1_b (fl202_67_1 k87 n) k87 y3 m := hR
    refine X.iload_n 68 i202_67 rfl rfl rfl ?_
    refine X.sipush 71 i202_68 rfl rfl (by decide) ?_
    refine X.icmpge 87 74 i202_71 rfl rfl rfl (fun h504 => ?_) (fun h504 => ?_)
    · refine X.cut [] i202_87 rfl ?_
      exact K87  m (B) (hJ.up (by omega)) (by omega)  (Eq.trans hR (Eq.trans (if_pos h504) rfl))
    · refine X.aload_n 75 i202_74 rfl rfl rfl ?_
      refine X.getF 78 i202_75 rfl rfl (by decide) rfl rfl ?_
      refine X.iload_n 79 i202_78 rfl rfl rfl ?_
      refine X.lconst (y := 0) 80 i202_79 rfl rfl rfl ?_
      refine X.last' 81 i202_80 rfl rfl (by decide) rfl (by omega) (fun hrm505 m505 hm505 => ?_)
      have hJ506 := w45_95 hJ hm505 (by omega) (by omega) hf2 hg4
      refine X.iinc 84 [(0, zr 4 44), (3, zi (y3 + 1))] i202_81 rfl rfl rfl (by omega) rfl ?_
      refine X.goto 67 i202_84 rfl rfl ?_
      exact ih (y3 + 1) m505 (B) (hJ506.up (by omega)) (by omega) (by omega) (by omega) (Eq.trans hR (Eq.trans (if_neg h504) (Eq.trans (zs_eq hm505) rfl)))
-- WorkMeterModel.phases
def f202_1 (a1 a2 : Int) (m : zM) : Int × zM :=
  zb (f203_1 m) fun v503 m501 =>
  if v503 = 0 then
  (if a1 < 1 then
  ((0, m501))
  else
  (if a1 ≤ 3 then
  (if a2 < 4 then
  ((0, m501))
  else
  (if a2 ≤ 16 then
  (if (a2 % 4) = 0 then
  (zs (z_upd m501 4 45 1 a1) fun m520 =>
  zs (z_upd m520 4 45 2 a2) fun m522 =>
  zs (z_upd m522 4 45 3 0) fun m524 =>
  fl202_67_1 (fun m526 =>
  (1, m526)) 97 95 m524)
  else
  ((0, m501)))
  else
  ((0, m501))))
  else
  ((0, m501))))
  else
  ((0, m501))
-- WorkMeterModel.phases
theorem c202_1 {s : Nat × (Nat → Int32)} {S : zS} {m0 m : zM} {B : Int} {d : Nat} {Q : Option zV → zM → Prop} (a1 a2 : Int) (hd : 14 ≤ d) (hJ : J S m0 B m) (hB : B + 0 ≤ 1000000000) (ha1 : (-2147483648) ≤ a1 ∧ a1 ≤ 2147483647) (ha2 : (-2147483648) ≤ a2 ∧ a2 ≤ 2147483647) (hf2 : ¬ S.1 2) (hf4 : ¬ S.1 4) (hg4 : ¬ S.2.1 4) (hQ : ∀ (v : Int) m', (0 ≤ v ∧ v ≤ 1) → f202_1 a1 a2 m = (v, m') → J S m0 (B) m' → Q (some (zi v)) m') : X (EE s) d 202 0 [(0, zr 4 44), (1, zi a1), (2, zi a2)] [] m Q := by
  refine X.aload_n 1 i202_0 rfl rfl rfl ?_
  refine X.callv 4 [] [] [(0, zr 4 44)] i202_1 rfl (by decide) rfl rfl (by omega) rfl rfl (by decide) rfl t203 (Nat.le_of_ble_eq_true rfl) (Nat.le_of_ble_eq_true rfl) rfl ?_
  refine c203_1 (B := B)   (by omega) (hJ.up (by omega)) (by omega)  hf4 hg4 (fun v503 m501 hv503 hFv503 hJ502 => ?_)
  show X (EE s) d 202 4 [(0, zr 4 44), (1, zi a1), (2, zi a2)] [zi v503] m501 _
  refine X.ifne 39 7 i202_4 rfl rfl rfl (fun h504 => ?_) (fun h504 => ?_)
  · refine X.cut [] i202_39 rfl ?_
    refine X.iconst 40 i202_39 rfl rfl (by decide) ?_
    refine X.retz i202_40 rfl t202 (by omega) ?_
    exact hQ 0 m501 (by first | trivial | omega) (Eq.trans (zb_eq hFv503) (Eq.trans (if_neg h504) rfl)) (hJ502.up (by omega)) 
  · refine X.iload_n 8 i202_7 rfl rfl rfl ?_
    refine X.i2l 9 i202_8 rfl rfl ?_
    refine X.lconst (y := 1) 10 i202_9 rfl rfl rfl ?_
    refine X.ldc2 13 i202_10 rfl rfl (by decide) ?_
    refine X.calls 16 [zl a1, zl 1, zl 3] [] [(0, zl a1), (2, zl 1), (4, zl 3)] i202_13 (by decide) rfl rfl (by omega) rfl rfl t204 (Nat.le_of_ble_eq_true rfl) (Nat.le_of_ble_eq_true rfl) rfl ?_
    refine X.lload_n 1 i204_0 rfl rfl rfl ?_
    refine X.lload_n 2 i204_1 rfl rfl rfl ?_
    refine X.lcmp 3 i204_2 rfl rfl (fun z505 hz505 => ?_)
    refine X.iflt 17 6 i204_3 rfl rfl rfl (fun h506 => ?_) (fun h506 => ?_)
    · have h506c : a1 < 1 := by omega
      clear h506 hz505
      refine X.cut [] i204_17 rfl ?_
      refine X.iconst 18 i204_17 rfl rfl (by decide) ?_
      refine X.retz i204_18 rfl t204 (by omega) ?_
      show X (EE s) d 202 16 [(0, zr 4 44), (1, zi a1), (2, zi a2)] [zi 0] m501 _
      refine X.ifeq 39 19 i202_16 rfl rfl rfl (fun h507 => ?_) (fun h507 => (by exfalso; omega))
      refine X.cut [] i202_39 rfl ?_
      refine X.iconst 40 i202_39 rfl rfl (by decide) ?_
      refine X.retz i202_40 rfl t202 (by omega) ?_
      exact hQ 0 m501 (by first | trivial | omega) (Eq.trans (zb_eq hFv503) (Eq.trans (if_pos h504) (Eq.trans (if_pos h506c) rfl))) (hJ502.up (by omega)) 
    · have h506c : ¬ a1 < 1 := by omega
      clear h506 hz505
      refine X.lload_n 7 i204_6 rfl rfl rfl ?_
      refine X.lload 9 i204_7 rfl rfl rfl ?_
      refine X.lcmp 10 i204_9 rfl rfl (fun z508 hz508 => ?_)
      refine X.ifgt 17 13 i204_10 rfl rfl rfl (fun h509 => ?_) (fun h509 => ?_)
      · have h509c : ¬ a1 ≤ 3 := by omega
        clear h509 hz508
        refine X.cut [] i204_17 rfl ?_
        refine X.iconst 18 i204_17 rfl rfl (by decide) ?_
        refine X.retz i204_18 rfl t204 (by omega) ?_
        show X (EE s) d 202 16 [(0, zr 4 44), (1, zi a1), (2, zi a2)] [zi 0] m501 _
        refine X.ifeq 39 19 i202_16 rfl rfl rfl (fun h510 => ?_) (fun h510 => (by exfalso; omega))
        refine X.cut [] i202_39 rfl ?_
        refine X.iconst 40 i202_39 rfl rfl (by decide) ?_
        refine X.retz i202_40 rfl t202 (by omega) ?_
        exact hQ 0 m501 (by first | trivial | omega) (Eq.trans (zb_eq hFv503) (Eq.trans (if_pos h504) (Eq.trans (if_neg h506c) (Eq.trans (if_neg h509c) rfl)))) (hJ502.up (by omega)) 
      · have h509c : a1 ≤ 3 := by omega
        clear h509 hz508
        refine X.iconst 14 i204_13 rfl rfl (by decide) ?_
        refine X.goto 18 i204_14 rfl rfl ?_
        refine X.cut [] i204_18 rfl ?_
        refine X.retz i204_18 rfl t204 (by omega) ?_
        show X (EE s) d 202 16 [(0, zr 4 44), (1, zi a1), (2, zi a2)] [zi 1] m501 _
        refine X.ifeq 39 19 i202_16 rfl rfl rfl (fun h511 => (by exfalso; omega)) (fun h511 => ?_)
        refine X.iload_n 20 i202_19 rfl rfl rfl ?_
        refine X.i2l 21 i202_20 rfl rfl ?_
        refine X.ldc2 24 i202_21 rfl rfl (by decide) ?_
        refine X.ldc2 27 i202_24 rfl rfl (by decide) ?_
        refine X.calls 30 [zl a2, zl 4, zl 16] [] [(0, zl a2), (2, zl 4), (4, zl 16)] i202_27 (by decide) rfl rfl (by omega) rfl rfl t204 (Nat.le_of_ble_eq_true rfl) (Nat.le_of_ble_eq_true rfl) rfl ?_
        refine X.lload_n 1 i204_0 rfl rfl rfl ?_
        refine X.lload_n 2 i204_1 rfl rfl rfl ?_
        refine X.lcmp 3 i204_2 rfl rfl (fun z512 hz512 => ?_)
        refine X.iflt 17 6 i204_3 rfl rfl rfl (fun h513 => ?_) (fun h513 => ?_)
        · have h513c : a2 < 4 := by omega
          clear h513 hz512
          refine X.cut [] i204_17 rfl ?_
          refine X.iconst 18 i204_17 rfl rfl (by decide) ?_
          refine X.retz i204_18 rfl t204 (by omega) ?_
          show X (EE s) d 202 30 [(0, zr 4 44), (1, zi a1), (2, zi a2)] [zi 0] m501 _
          refine X.ifeq 39 33 i202_30 rfl rfl rfl (fun h514 => ?_) (fun h514 => (by exfalso; omega))
          refine X.cut [] i202_39 rfl ?_
          refine X.iconst 40 i202_39 rfl rfl (by decide) ?_
          refine X.retz i202_40 rfl t202 (by omega) ?_
          exact hQ 0 m501 (by first | trivial | omega) (Eq.trans (zb_eq hFv503) (Eq.trans (if_pos h504) (Eq.trans (if_neg h506c) (Eq.trans (if_pos h509c) (Eq.trans (if_pos h513c) rfl))))) (hJ502.up (by omega)) 
        · have h513c : ¬ a2 < 4 := by omega
          clear h513 hz512
          refine X.lload_n 7 i204_6 rfl rfl rfl ?_
          refine X.lload 9 i204_7 rfl rfl rfl ?_
          refine X.lcmp 10 i204_9 rfl rfl (fun z515 hz515 => ?_)
          refine X.ifgt 17 13 i204_10 rfl rfl rfl (fun h516 => ?_) (fun h516 => ?_)
          · have h516c : ¬ a2 ≤ 16 := by omega
            clear h516 hz515
            refine X.cut [] i204_17 rfl ?_
            refine X.iconst 18 i204_17 rfl rfl (by decide) ?_
            refine X.retz i204_18 rfl t204 (by omega) ?_
            show X (EE s) d 202 30 [(0, zr 4 44), (1, zi a1), (2, zi a2)] [zi 0] m501 _
            refine X.ifeq 39 33 i202_30 rfl rfl rfl (fun h517 => ?_) (fun h517 => (by exfalso; omega))
            refine X.cut [] i202_39 rfl ?_
            refine X.iconst 40 i202_39 rfl rfl (by decide) ?_
            refine X.retz i202_40 rfl t202 (by omega) ?_
            exact hQ 0 m501 (by first | trivial | omega) (Eq.trans (zb_eq hFv503) (Eq.trans (if_pos h504) (Eq.trans (if_neg h506c) (Eq.trans (if_pos h509c) (Eq.trans (if_neg h513c) (Eq.trans (if_neg h516c) rfl)))))) (hJ502.up (by omega)) 
          · have h516c : a2 ≤ 16 := by omega
            clear h516 hz515
            refine X.iconst 14 i204_13 rfl rfl (by decide) ?_
            refine X.goto 18 i204_14 rfl rfl ?_
            refine X.cut [] i204_18 rfl ?_
            refine X.retz i204_18 rfl t204 (by omega) ?_
            show X (EE s) d 202 30 [(0, zr 4 44), (1, zi a1), (2, zi a2)] [zi 1] m501 _
            refine X.ifeq 39 33 i202_30 rfl rfl rfl (fun h518 => (by exfalso; omega)) (fun h518 => ?_)
            refine X.iload_n 34 i202_33 rfl rfl rfl ?_
            refine X.iconst 35 i202_34 rfl rfl (by decide) ?_
            refine X.irem 36 i202_35 rfl rfl (by omega) ?_
            refine X.ifeq 41 39 i202_36 rfl rfl rfl (fun h519 => ?_) (fun h519 => ?_)
            · refine X.aload_n 42 i202_41 rfl rfl rfl ?_
              refine X.getF 45 i202_42 rfl rfl (by decide) rfl rfl ?_
              refine X.iconst 46 i202_45 rfl rfl (by decide) ?_
              refine X.iload_n 47 i202_46 rfl rfl rfl ?_
              refine X.i2l 48 i202_47 rfl rfl ?_
              refine X.last' 49 i202_48 rfl rfl (by decide) rfl (by omega) (fun hrm520 m520 hm520 => ?_)
              have hJ521 := w45_1 hJ502 hm520 (by omega) hf2 hg4
              refine X.aload_n 50 i202_49 rfl rfl rfl ?_
              refine X.getF 53 i202_50 rfl rfl (by decide) rfl rfl ?_
              refine X.iconst 54 i202_53 rfl rfl (by decide) ?_
              refine X.iload_n 55 i202_54 rfl rfl rfl ?_
              refine X.i2l 56 i202_55 rfl rfl ?_
              refine X.last' 57 i202_56 rfl rfl (by decide) rfl (by omega) (fun hrm522 m522 hm522 => ?_)
              have hJ523 := w45_2 hJ521 hm522 (by omega) hf2 hg4
              refine X.aload_n 58 i202_57 rfl rfl rfl ?_
              refine X.getF 61 i202_58 rfl rfl (by decide) rfl rfl ?_
              refine X.iconst 62 i202_61 rfl rfl (by decide) ?_
              refine X.lconst (y := 0) 63 i202_62 rfl rfl rfl ?_
              refine X.last' 64 i202_63 rfl rfl (by decide) rfl (by omega) (fun hrm524 m524 hm524 => ?_)
              have hJ525 := w45_3 hJ523 hm524 (by omega) hf2 hg4
              refine X.bipush 66 i202_64 rfl rfl (by decide) ?_
              refine X.istore_n 67 [(0, zr 4 44), (1, zi a1), (2, zi a2), (3, zi 95)] i202_66 rfl rfl rfl ?_
              refine X.cut [(0, zr 4 44), (3, zi 95)] i202_67 rfl ?_
              refine l202_67_1 (s := s) (d := d) (R0 := (f202_1 a1 a2 m))    (BE := B + 0) (by omega) (by omega) hf2 hg4 (fun  m526 B527 hJ528 hBB527 hR529 => ?_) 97 95 m524 (B) (hJ525.up (by omega)) (by omega) (by omega) (by omega) (Eq.trans (zb_eq hFv503) (Eq.trans (if_pos h504) (Eq.trans (if_neg h506c) (Eq.trans (if_pos h509c) (Eq.trans (if_neg h513c) (Eq.trans (if_pos h516c) (Eq.trans (if_pos h519) (Eq.trans (zs_eq hm520) (Eq.trans (zs_eq hm522) (Eq.trans (zs_eq hm524) rfl))))))))))
              refine X.iconst 88 i202_87 rfl rfl (by decide) ?_
              refine X.retz i202_88 rfl t202 (by omega) ?_
              exact hQ 1 m526 (by first | trivial | omega) (Eq.trans hR529 rfl) (hJ528.up (by omega)) 
            · refine X.cut [] i202_39 rfl ?_
              refine X.iconst 40 i202_39 rfl rfl (by decide) ?_
              refine X.retz i202_40 rfl t202 (by omega) ?_
              exact hQ 0 m501 (by first | trivial | omega) (Eq.trans (zb_eq hFv503) (Eq.trans (if_pos h504) (Eq.trans (if_neg h506c) (Eq.trans (if_pos h509c) (Eq.trans (if_neg h513c) (Eq.trans (if_pos h516c) (Eq.trans (if_neg h519) rfl))))))) (hJ502.up (by omega)) 
-- WorkMeter$Wave.addTo
def f22_1 (g0 : Nat) (a1 a2 a3 : Int) (m : zM) : zM :=
  zn (w64 ((m g0 22 ((a1 * 4) + a2)) + a3)) fun z501 =>
  zs (z_upd m g0 22 ((a1 * 4) + a2) z501) fun m502 =>
  zn (w64 ((m502 g0 22 ((a1 * 4) + 3)) + a3)) fun z504 =>
  zs (z_upd m502 g0 22 ((a1 * 4) + 3) z504) fun m505 =>
  m505
-- WorkMeter$Wave.addTo
theorem c22_1 {s : Nat × (Nat → Int32)} {S : zS} {m0 m : zM} {B : Int} {d : Nat} {Q : Option zV → zM → Prop} (g0 : Nat) (a1 a2 a3 : Int) (hd : 13 ≤ d) (hJ : J S m0 B m) (hB : B + 0 ≤ 1000000000) (ha1 : 0 ≤ a1 ∧ a1 ≤ 0) (ha2 : 0 ≤ a2 ∧ a2 ≤ 2) (ha3 : (-250000) ≤ a3 ∧ a3 ≤ 250000) (hf2 : ¬ S.1 2) (hgg0 : ¬ S.2.1 g0) (hQ : ∀ m', f22_1 g0 a1 a2 a3 m = m' → J S m0 (B) m' → Q none m') : X (EE s) d 22 0 [(0, zr g0 19), (1, zi a1), (2, zi a2), (3, zi a3)] [] m Q := by
  refine X.aload_n 1 i22_0 rfl rfl rfl ?_
  refine X.getR 4 i22_1 rfl rfl (by decide) rfl rfl ?_
  refine X.iload_n 5 i22_4 rfl rfl rfl ?_
  refine X.iconst 6 i22_5 rfl rfl (by decide) ?_
  refine X.imul 7 i22_6 rfl rfl (by omega) ?_
  refine X.iload_n 8 i22_7 rfl rfl rfl ?_
  refine X.iadd 9 i22_8 rfl rfl (by omega) ?_
  refine X.dup2 10 i22_9 rfl rfl ?_
  refine X.lald 11 i22_10 rfl rfl (by decide) rfl (by omega) ?_
  refine X.iload_n 12 i22_11 rfl rfl rfl ?_
  refine X.i2l 13 i22_12 rfl rfl ?_
  refine X.laddW 14 i22_13 rfl rfl (fun z501 ez501 hz501 => ?_)
  refine X.last' 15 i22_14 rfl rfl (by decide) rfl (by omega) (fun hrm502 m502 hm502 => ?_)
  have hJ503 := w22_0 hJ hm502 (by omega) hrm502 hf2 hgg0
  refine X.aload_n 16 i22_15 rfl rfl rfl ?_
  refine X.getR 19 i22_16 rfl rfl (by decide) rfl rfl ?_
  refine X.iload_n 20 i22_19 rfl rfl rfl ?_
  refine X.iconst 21 i22_20 rfl rfl (by decide) ?_
  refine X.imul 22 i22_21 rfl rfl (by omega) ?_
  refine X.iconst 23 i22_22 rfl rfl (by decide) ?_
  refine X.iadd 24 i22_23 rfl rfl (by omega) ?_
  refine X.dup2 25 i22_24 rfl rfl ?_
  refine X.lald 26 i22_25 rfl rfl (by decide) rfl (by omega) ?_
  refine X.iload_n 27 i22_26 rfl rfl rfl ?_
  refine X.i2l 28 i22_27 rfl rfl ?_
  refine X.laddW 29 i22_28 rfl rfl (fun z504 ez504 hz504 => ?_)
  refine X.last' 30 i22_29 rfl rfl (by decide) rfl (by omega) (fun hrm505 m505 hm505 => ?_)
  have hJ506 := w22_0 hJ503 hm505 (by omega) hrm505 hf2 hgg0
  refine X.retv i22_30 rfl t22 ?_
  exact hQ  m505  (Eq.trans (zn_eq ez501) (Eq.trans (zs_eq hm502) (Eq.trans (zn_eq ez504) (Eq.trans (zs_eq hm505) rfl)))) (hJ506.up (by omega)) 
-- WorkMeter$Wave.addTo
theorem c22_2 {s : Nat × (Nat → Int32)} {S : zS} {m0 m : zM} {B : Int} {d : Nat} {Q : Option zV → zM → Prop} (g0 : Nat) (a1 a2 a3 : Int) (hd : 13 ≤ d) (hJ : J S m0 B m) (hB : B + 0 ≤ 1000000000) (ha1 : 1 ≤ a1 ∧ a1 ≤ 1) (ha2 : 0 ≤ a2 ∧ a2 ≤ 2) (ha3 : (-250000) ≤ a3 ∧ a3 ≤ 250000) (hf2 : ¬ S.1 2) (hgg0 : ¬ S.2.1 g0) (hQ : ∀ m', f22_1 g0 a1 a2 a3 m = m' → J S m0 (B) m' → Q none m') : X (EE s) d 22 0 [(0, zr g0 19), (1, zi a1), (2, zi a2), (3, zi a3)] [] m Q := by
  refine X.aload_n 1 i22_0 rfl rfl rfl ?_
  refine X.getR 4 i22_1 rfl rfl (by decide) rfl rfl ?_
  refine X.iload_n 5 i22_4 rfl rfl rfl ?_
  refine X.iconst 6 i22_5 rfl rfl (by decide) ?_
  refine X.imul 7 i22_6 rfl rfl (by omega) ?_
  refine X.iload_n 8 i22_7 rfl rfl rfl ?_
  refine X.iadd 9 i22_8 rfl rfl (by omega) ?_
  refine X.dup2 10 i22_9 rfl rfl ?_
  refine X.lald 11 i22_10 rfl rfl (by decide) rfl (by omega) ?_
  refine X.iload_n 12 i22_11 rfl rfl rfl ?_
  refine X.i2l 13 i22_12 rfl rfl ?_
  refine X.laddW 14 i22_13 rfl rfl (fun z501 ez501 hz501 => ?_)
  refine X.last' 15 i22_14 rfl rfl (by decide) rfl (by omega) (fun hrm502 m502 hm502 => ?_)
  have hJ503 := w22_0 hJ hm502 (by omega) hrm502 hf2 hgg0
  refine X.aload_n 16 i22_15 rfl rfl rfl ?_
  refine X.getR 19 i22_16 rfl rfl (by decide) rfl rfl ?_
  refine X.iload_n 20 i22_19 rfl rfl rfl ?_
  refine X.iconst 21 i22_20 rfl rfl (by decide) ?_
  refine X.imul 22 i22_21 rfl rfl (by omega) ?_
  refine X.iconst 23 i22_22 rfl rfl (by decide) ?_
  refine X.iadd 24 i22_23 rfl rfl (by omega) ?_
  refine X.dup2 25 i22_24 rfl rfl ?_
  refine X.lald 26 i22_25 rfl rfl (by decide) rfl (by omega) ?_
  refine X.iload_n 27 i22_26 rfl rfl rfl ?_
  refine X.i2l 28 i22_27 rfl rfl ?_
  refine X.laddW 29 i22_28 rfl rfl (fun z504 ez504 hz504 => ?_)
  refine X.last' 30 i22_29 rfl rfl (by decide) rfl (by omega) (fun hrm505 m505 hm505 => ?_)
  have hJ506 := w22_0 hJ503 hm505 (by omega) hrm505 hf2 hgg0
  refine X.retv i22_30 rfl t22 ?_
  exact hQ  m505  (Eq.trans (zn_eq ez501) (Eq.trans (zs_eq hm502) (Eq.trans (zn_eq ez504) (Eq.trans (zs_eq hm505) rfl)))) (hJ506.up (by omega)) 
-- WorkMeter$Wave.addTo
theorem c22_3 {s : Nat × (Nat → Int32)} {S : zS} {m0 m : zM} {B : Int} {d : Nat} {Q : Option zV → zM → Prop} (g0 : Nat) (a1 a2 a3 : Int) (hd : 13 ≤ d) (hJ : J S m0 B m) (hB : B + 0 ≤ 1000000000) (ha1 : 2 ≤ a1 ∧ a1 ≤ 2) (ha2 : 0 ≤ a2 ∧ a2 ≤ 2) (ha3 : 0 ≤ a3 ∧ a3 ≤ 250000) (hf2 : ¬ S.1 2) (hgg0 : ¬ S.2.1 g0) (hQ : ∀ m', f22_1 g0 a1 a2 a3 m = m' → J S m0 (B) m' → Q none m') : X (EE s) d 22 0 [(0, zr g0 19), (1, zi a1), (2, zi a2), (3, zi a3)] [] m Q := by
  refine X.aload_n 1 i22_0 rfl rfl rfl ?_
  refine X.getR 4 i22_1 rfl rfl (by decide) rfl rfl ?_
  refine X.iload_n 5 i22_4 rfl rfl rfl ?_
  refine X.iconst 6 i22_5 rfl rfl (by decide) ?_
  refine X.imul 7 i22_6 rfl rfl (by omega) ?_
  refine X.iload_n 8 i22_7 rfl rfl rfl ?_
  refine X.iadd 9 i22_8 rfl rfl (by omega) ?_
  refine X.dup2 10 i22_9 rfl rfl ?_
  refine X.lald 11 i22_10 rfl rfl (by decide) rfl (by omega) ?_
  refine X.iload_n 12 i22_11 rfl rfl rfl ?_
  refine X.i2l 13 i22_12 rfl rfl ?_
  refine X.laddW 14 i22_13 rfl rfl (fun z501 ez501 hz501 => ?_)
  refine X.last' 15 i22_14 rfl rfl (by decide) rfl (by omega) (fun hrm502 m502 hm502 => ?_)
  have hJ503 := w22_0 hJ hm502 (by omega) hrm502 hf2 hgg0
  refine X.aload_n 16 i22_15 rfl rfl rfl ?_
  refine X.getR 19 i22_16 rfl rfl (by decide) rfl rfl ?_
  refine X.iload_n 20 i22_19 rfl rfl rfl ?_
  refine X.iconst 21 i22_20 rfl rfl (by decide) ?_
  refine X.imul 22 i22_21 rfl rfl (by omega) ?_
  refine X.iconst 23 i22_22 rfl rfl (by decide) ?_
  refine X.iadd 24 i22_23 rfl rfl (by omega) ?_
  refine X.dup2 25 i22_24 rfl rfl ?_
  refine X.lald 26 i22_25 rfl rfl (by decide) rfl (by omega) ?_
  refine X.iload_n 27 i22_26 rfl rfl rfl ?_
  refine X.i2l 28 i22_27 rfl rfl ?_
  refine X.laddW 29 i22_28 rfl rfl (fun z504 ez504 hz504 => ?_)
  refine X.last' 30 i22_29 rfl rfl (by decide) rfl (by omega) (fun hrm505 m505 hm505 => ?_)
  have hJ506 := w22_0 hJ503 hm505 (by omega) hrm505 hf2 hgg0
  refine X.retv i22_30 rfl t22 ?_
  exact hQ  m505  (Eq.trans (zn_eq ez501) (Eq.trans (zs_eq hm502) (Eq.trans (zn_eq ez504) (Eq.trans (zs_eq hm505) rfl)))) (hJ506.up (by omega)) 
-- WorkMeter$Wave.addTo
theorem c22_4 {s : Nat × (Nat → Int32)} {S : zS} {m0 m : zM} {B : Int} {d : Nat} {Q : Option zV → zM → Prop} (g0 : Nat) (a1 a2 a3 : Int) (hd : 13 ≤ d) (hJ : J S m0 B m) (hB : B + 0 ≤ 1000000000) (ha1 : 3 ≤ a1 ∧ a1 ≤ 3) (ha2 : 0 ≤ a2 ∧ a2 ≤ 2) (ha3 : 0 ≤ a3 ∧ a3 ≤ 250000) (hf2 : ¬ S.1 2) (hgg0 : ¬ S.2.1 g0) (hQ : ∀ m', f22_1 g0 a1 a2 a3 m = m' → J S m0 (B) m' → Q none m') : X (EE s) d 22 0 [(0, zr g0 19), (1, zi a1), (2, zi a2), (3, zi a3)] [] m Q := by
  refine X.aload_n 1 i22_0 rfl rfl rfl ?_
  refine X.getR 4 i22_1 rfl rfl (by decide) rfl rfl ?_
  refine X.iload_n 5 i22_4 rfl rfl rfl ?_
  refine X.iconst 6 i22_5 rfl rfl (by decide) ?_
  refine X.imul 7 i22_6 rfl rfl (by omega) ?_
  refine X.iload_n 8 i22_7 rfl rfl rfl ?_
  refine X.iadd 9 i22_8 rfl rfl (by omega) ?_
  refine X.dup2 10 i22_9 rfl rfl ?_
  refine X.lald 11 i22_10 rfl rfl (by decide) rfl (by omega) ?_
  refine X.iload_n 12 i22_11 rfl rfl rfl ?_
  refine X.i2l 13 i22_12 rfl rfl ?_
  refine X.laddW 14 i22_13 rfl rfl (fun z501 ez501 hz501 => ?_)
  refine X.last' 15 i22_14 rfl rfl (by decide) rfl (by omega) (fun hrm502 m502 hm502 => ?_)
  have hJ503 := w22_0 hJ hm502 (by omega) hrm502 hf2 hgg0
  refine X.aload_n 16 i22_15 rfl rfl rfl ?_
  refine X.getR 19 i22_16 rfl rfl (by decide) rfl rfl ?_
  refine X.iload_n 20 i22_19 rfl rfl rfl ?_
  refine X.iconst 21 i22_20 rfl rfl (by decide) ?_
  refine X.imul 22 i22_21 rfl rfl (by omega) ?_
  refine X.iconst 23 i22_22 rfl rfl (by decide) ?_
  refine X.iadd 24 i22_23 rfl rfl (by omega) ?_
  refine X.dup2 25 i22_24 rfl rfl ?_
  refine X.lald 26 i22_25 rfl rfl (by decide) rfl (by omega) ?_
  refine X.iload_n 27 i22_26 rfl rfl rfl ?_
  refine X.i2l 28 i22_27 rfl rfl ?_
  refine X.laddW 29 i22_28 rfl rfl (fun z504 ez504 hz504 => ?_)
  refine X.last' 30 i22_29 rfl rfl (by decide) rfl (by omega) (fun hrm505 m505 hm505 => ?_)
  have hJ506 := w22_0 hJ503 hm505 (by omega) hrm505 hf2 hgg0
  refine X.retv i22_30 rfl t22 ?_
  exact hQ  m505  (Eq.trans (zn_eq ez501) (Eq.trans (zs_eq hm502) (Eq.trans (zn_eq ez504) (Eq.trans (zs_eq hm505) rfl)))) (hJ506.up (by omega)) 
def fl21_37_1_b (self : Int → zM → zM) (k158 : zM → zM) (g0 : Nat) (y1 y2 y3 : Int) (y4 : Int) (m : zM) : zM :=
  if (m g0 19 3) ≤ y4 then
  (k158 m)
  else
  (zn ((y2 * (m g0 19 3))) fun z531 =>
  zn (((m g0 20 (z531 + y4)) * (m g0 21 (z531 + y4)))) fun z534 =>
  zs (f22_1 g0 0 y4 z534 m) fun m535 =>
  zn ((y3 * (m535 g0 19 3))) fun z540 =>
  zn (((m535 g0 20 (z531 + y4)) * (m535 g0 21 (z540 + y4)))) fun z542 =>
  zs (f22_1 g0 1 y4 z542 m535) fun m543 =>
  zn (((m543 g0 20 (z531 + y4)) * (m543 g0 20 (z531 + y4)))) fun z547 =>
  zs (f22_1 g0 2 y4 z547 m543) fun m548 =>
  zn (((m548 g0 21 (z531 + y4)) * (m548 g0 21 (z531 + y4)))) fun z552 =>
  zs (f22_1 g0 3 y4 z552 m548) fun m553 =>
  self (y4 + 1) m553)
def fl21_37_1 (k158 : zM → zM) (g0 : Nat) (y1 y2 y3 : Int) : Nat → Int → zM → zM
  | 0 => fun y4 m => m
  | n + 1 => fl21_37_1_b (fl21_37_1 k158 g0 y1 y2 y3 n) k158 g0 y1 y2 y3
theorem l21_37_1 {s : Nat × (Nat → Int32)} {S : zS} {m0 : zM} {d : Nat} {Q : Option zV → zM → Prop} {R0 : zM} {k158 : zM → zM} (g0 : Nat) (y1 y2 y3 : Int) (BE : Int) (hE : BE ≤ 1000000000) (hd : 14 ≤ d) (hy1 : 1 ≤ y1 ∧ y1 ≤ 4) (hy2 : 0 ≤ y2 ∧ y2 ≤ 15) (hy3 : 0 ≤ y3 ∧ y3 ≤ 15) (hf2 : ¬ S.1 2) (hgg0 : ¬ S.2.1 g0)
    (K158 : ∀ (m' : zM) (B' : Int), J S m0 B' m' → B' ≤ BE → R0 = k158 m' → X (EE s) d 21 158 [(0, zr g0 19), (1, zi y1), (2, zi y2)] [] m' Q) :
    ∀ (n : Nat) (y4 : Int) (m : zM) (B : Int), J S m0 B m → B + 0 * (n : Int) ≤ BE → (0 ≤ y4 ∧ y4 ≤ 3) → 3 - y4 < (n : Int) → R0 = fl21_37_1 k158 g0 y1 y2 y3 n y4 m → X (EE s) d 21 37 [(0, zr g0 19), (1, zi y1), (2, zi y2), (3, zi y3), (4, zi y4)] [] m Q := by
  intro n
  induction n with
  | zero =>
    intro y4 m B hJ hB hy4 hn hR
    exfalso
    omega
  | succ n ih =>
    intro y4 m B hJ hB hy4 hn hR
    replace hR : R0 = fl21_37_1_b (fl21_37_1 k158 g0 y1 y2 y3 n) k158 g0 y1 y2 y3 y4 m := hR
    refine X.iload 39 i21_37 rfl rfl rfl ?_
    refine X.aload_n 40 i21_39 rfl rfl rfl ?_
    refine X.getI 43 3 i21_40 rfl rfl (by decide) rfl rfl rfl ?_
    have h529 := r19_3 hJ g0
    refine X.icmpge 158 46 i21_43 rfl rfl rfl (fun h530 => ?_) (fun h530 => ?_)
    · refine X.cut [(0, zr g0 19), (1, zi y1), (2, zi y2)] i21_158 rfl ?_
      exact K158  m (B) (hJ.up (by omega)) (by omega)  (Eq.trans hR (Eq.trans (if_pos h530) rfl))
    · refine X.iload_n 47 i21_46 rfl rfl rfl ?_
      refine X.aload_n 48 i21_47 rfl rfl rfl ?_
      refine X.getI 51 3 i21_48 rfl rfl (by decide) rfl rfl rfl ?_
      have hz531 := z_mulr (a := 0) (b := 15) (c := 1) (e := 3) (x := y2) (y := (m g0 19 3)) (by omega) (by omega)
      refine X.imul 52 i21_51 rfl rfl (z_in3 hz531 (by decide) (by decide)) ?_
      obtain ⟨z531, ez531⟩ : ∃ z, z = (y2 * (m g0 19 3)) := ⟨_, rfl⟩
      rw [← ez531] at hz531 ⊢
      have gz531 : 0 ≤ z531 ∧ z531 ≤ 45 := z_in3 hz531 (by decide) (by decide)
      clear hz531
      refine X.iload 54 i21_52 rfl rfl rfl ?_
      refine X.iadd 55 i21_54 rfl rfl (by omega) ?_
      refine X.istore 57 [(0, zr g0 19), (1, zi y1), (2, zi y2), (3, zi y3), (4, zi y4), (5, zi (z531 + y4))] i21_55 rfl rfl rfl ?_
      refine X.aload_n 58 i21_57 rfl rfl rfl ?_
      refine X.iconst 59 i21_58 rfl rfl (by decide) ?_
      refine X.iload 61 i21_59 rfl rfl rfl ?_
      refine X.aload_n 62 i21_61 rfl rfl rfl ?_
      refine X.getR 65 i21_62 rfl rfl (by decide) rfl rfl ?_
      refine X.iload 67 i21_65 rfl rfl rfl ?_
      refine X.iald 68 i21_67 rfl rfl (by decide) rfl (by omega) ?_
      have h532 := r20_0 hJ g0 (i := (z531 + y4)) (by omega)
      refine X.aload_n 69 i21_68 rfl rfl rfl ?_
      refine X.getR 72 i21_69 rfl rfl (by decide) rfl rfl ?_
      refine X.iload 74 i21_72 rfl rfl rfl ?_
      refine X.iald 75 i21_74 rfl rfl (by decide) rfl (by omega) ?_
      have h533 := r21_0 hJ g0 (i := (z531 + y4)) (by omega)
      have hz534 := z_mulr (a := (-500)) (b := 500) (c := (-500)) (e := 500) (x := (m g0 20 (z531 + y4))) (y := (m g0 21 (z531 + y4))) (by omega) (by omega)
      refine X.imul 76 i21_75 rfl rfl (z_in3 hz534 (by decide) (by decide)) ?_
      obtain ⟨z534, ez534⟩ : ∃ z, z = ((m g0 20 (z531 + y4)) * (m g0 21 (z531 + y4))) := ⟨_, rfl⟩
      rw [← ez534] at hz534 ⊢
      have gz534 : (-250000) ≤ z534 ∧ z534 ≤ 250000 := z_in3 hz534 (by decide) (by decide)
      clear hz534
      refine X.callv 79 [zi 0, zi y4, zi z534] [] [(0, zr g0 19), (1, zi 0), (2, zi y4), (3, zi z534)] i21_76 rfl (by decide) rfl rfl (by omega) rfl rfl (by decide) rfl t22 (Nat.le_of_ble_eq_true rfl) (Nat.le_of_ble_eq_true rfl) rfl ?_
      refine c22_1 (B := B) g0 0 y4 z534 (by omega) (hJ.up (by omega)) (by omega) (by omega) (by omega) (by omega) hf2 hgg0 (fun m535 hFv537 hJ536 => ?_)
      show X (EE s) d 21 79 [(0, zr g0 19), (1, zi y1), (2, zi y2), (3, zi y3), (4, zi y4), (5, zi (z531 + y4))] [] m535 _
      refine X.aload_n 80 i21_79 rfl rfl rfl ?_
      refine X.iconst 81 i21_80 rfl rfl (by decide) ?_
      refine X.iload 83 i21_81 rfl rfl rfl ?_
      refine X.aload_n 84 i21_83 rfl rfl rfl ?_
      refine X.getR 87 i21_84 rfl rfl (by decide) rfl rfl ?_
      refine X.iload 89 i21_87 rfl rfl rfl ?_
      refine X.iald 90 i21_89 rfl rfl (by decide) rfl (by omega) ?_
      have h538 := r20_0 hJ536 g0 (i := (z531 + y4)) (by omega)
      refine X.aload_n 91 i21_90 rfl rfl rfl ?_
      refine X.getR 94 i21_91 rfl rfl (by decide) rfl rfl ?_
      refine X.iload_n 95 i21_94 rfl rfl rfl ?_
      refine X.aload_n 96 i21_95 rfl rfl rfl ?_
      refine X.getI 99 3 i21_96 rfl rfl (by decide) rfl rfl rfl ?_
      have h539 := r19_3 hJ536 g0
      have hz540 := z_mulr (a := 0) (b := 15) (c := 1) (e := 3) (x := y3) (y := (m535 g0 19 3)) (by omega) (by omega)
      refine X.imul 100 i21_99 rfl rfl (z_in3 hz540 (by decide) (by decide)) ?_
      obtain ⟨z540, ez540⟩ : ∃ z, z = (y3 * (m535 g0 19 3)) := ⟨_, rfl⟩
      rw [← ez540] at hz540 ⊢
      have gz540 : 0 ≤ z540 ∧ z540 ≤ 45 := z_in3 hz540 (by decide) (by decide)
      clear hz540
      refine X.iload 102 i21_100 rfl rfl rfl ?_
      refine X.iadd 103 i21_102 rfl rfl (by omega) ?_
      refine X.iald 104 i21_103 rfl rfl (by decide) rfl (by omega) ?_
      have h541 := r21_0 hJ536 g0 (i := (z540 + y4)) (by omega)
      have hz542 := z_mulr (a := (-500)) (b := 500) (c := (-500)) (e := 500) (x := (m535 g0 20 (z531 + y4))) (y := (m535 g0 21 (z540 + y4))) (by omega) (by omega)
      refine X.imul 105 i21_104 rfl rfl (z_in3 hz542 (by decide) (by decide)) ?_
      obtain ⟨z542, ez542⟩ : ∃ z, z = ((m535 g0 20 (z531 + y4)) * (m535 g0 21 (z540 + y4))) := ⟨_, rfl⟩
      rw [← ez542] at hz542 ⊢
      have gz542 : (-250000) ≤ z542 ∧ z542 ≤ 250000 := z_in3 hz542 (by decide) (by decide)
      clear hz542
      refine X.callv 108 [zi 1, zi y4, zi z542] [] [(0, zr g0 19), (1, zi 1), (2, zi y4), (3, zi z542)] i21_105 rfl (by decide) rfl rfl (by omega) rfl rfl (by decide) rfl t22 (Nat.le_of_ble_eq_true rfl) (Nat.le_of_ble_eq_true rfl) rfl ?_
      refine c22_2 (B := B) g0 1 y4 z542 (by omega) (hJ536.up (by omega)) (by omega) (by omega) (by omega) (by omega) hf2 hgg0 (fun m543 hFv545 hJ544 => ?_)
      show X (EE s) d 21 108 [(0, zr g0 19), (1, zi y1), (2, zi y2), (3, zi y3), (4, zi y4), (5, zi (z531 + y4))] [] m543 _
      refine X.aload_n 109 i21_108 rfl rfl rfl ?_
      refine X.iconst 110 i21_109 rfl rfl (by decide) ?_
      refine X.iload 112 i21_110 rfl rfl rfl ?_
      refine X.aload_n 113 i21_112 rfl rfl rfl ?_
      refine X.getR 116 i21_113 rfl rfl (by decide) rfl rfl ?_
      refine X.iload 118 i21_116 rfl rfl rfl ?_
      refine X.iald 119 i21_118 rfl rfl (by decide) rfl (by omega) ?_
      have h546 := r20_0 hJ544 g0 (i := (z531 + y4)) (by omega)
      refine X.aload_n 120 i21_119 rfl rfl rfl ?_
      refine X.getR 123 i21_120 rfl rfl (by decide) rfl rfl ?_
      refine X.iload 125 i21_123 rfl rfl rfl ?_
      refine X.iald 126 i21_125 rfl rfl (by decide) rfl (by omega) ?_
      have hz547 := z_sqr (e := 500) (x := (m543 g0 20 (z531 + y4))) (by omega)
      refine X.imul 127 i21_126 rfl rfl (z_in3 hz547 (by decide) (by decide)) ?_
      obtain ⟨z547, ez547⟩ : ∃ z, z = ((m543 g0 20 (z531 + y4)) * (m543 g0 20 (z531 + y4))) := ⟨_, rfl⟩
      rw [← ez547] at hz547 ⊢
      have gz547 : 0 ≤ z547 ∧ z547 ≤ 250000 := z_in3 hz547 (by decide) (by decide)
      clear hz547
      refine X.callv 130 [zi 2, zi y4, zi z547] [] [(0, zr g0 19), (1, zi 2), (2, zi y4), (3, zi z547)] i21_127 rfl (by decide) rfl rfl (by omega) rfl rfl (by decide) rfl t22 (Nat.le_of_ble_eq_true rfl) (Nat.le_of_ble_eq_true rfl) rfl ?_
      refine c22_3 (B := B) g0 2 y4 z547 (by omega) (hJ544.up (by omega)) (by omega) (by omega) (by omega) (by omega) hf2 hgg0 (fun m548 hFv550 hJ549 => ?_)
      show X (EE s) d 21 130 [(0, zr g0 19), (1, zi y1), (2, zi y2), (3, zi y3), (4, zi y4), (5, zi (z531 + y4))] [] m548 _
      refine X.aload_n 131 i21_130 rfl rfl rfl ?_
      refine X.iconst 132 i21_131 rfl rfl (by decide) ?_
      refine X.iload 134 i21_132 rfl rfl rfl ?_
      refine X.aload_n 135 i21_134 rfl rfl rfl ?_
      refine X.getR 138 i21_135 rfl rfl (by decide) rfl rfl ?_
      refine X.iload 140 i21_138 rfl rfl rfl ?_
      refine X.iald 141 i21_140 rfl rfl (by decide) rfl (by omega) ?_
      have h551 := r21_0 hJ549 g0 (i := (z531 + y4)) (by omega)
      refine X.aload_n 142 i21_141 rfl rfl rfl ?_
      refine X.getR 145 i21_142 rfl rfl (by decide) rfl rfl ?_
      refine X.iload 147 i21_145 rfl rfl rfl ?_
      refine X.iald 148 i21_147 rfl rfl (by decide) rfl (by omega) ?_
      have hz552 := z_sqr (e := 500) (x := (m548 g0 21 (z531 + y4))) (by omega)
      refine X.imul 149 i21_148 rfl rfl (z_in3 hz552 (by decide) (by decide)) ?_
      obtain ⟨z552, ez552⟩ : ∃ z, z = ((m548 g0 21 (z531 + y4)) * (m548 g0 21 (z531 + y4))) := ⟨_, rfl⟩
      rw [← ez552] at hz552 ⊢
      have gz552 : 0 ≤ z552 ∧ z552 ≤ 250000 := z_in3 hz552 (by decide) (by decide)
      clear hz552
      refine X.callv 152 [zi 3, zi y4, zi z552] [] [(0, zr g0 19), (1, zi 3), (2, zi y4), (3, zi z552)] i21_149 rfl (by decide) rfl rfl (by omega) rfl rfl (by decide) rfl t22 (Nat.le_of_ble_eq_true rfl) (Nat.le_of_ble_eq_true rfl) rfl ?_
      refine c22_4 (B := B) g0 3 y4 z552 (by omega) (hJ549.up (by omega)) (by omega) (by omega) (by omega) (by omega) hf2 hgg0 (fun m553 hFv555 hJ554 => ?_)
      show X (EE s) d 21 152 [(0, zr g0 19), (1, zi y1), (2, zi y2), (3, zi y3), (4, zi y4), (5, zi (z531 + y4))] [] m553 _
      refine X.iinc 155 [(0, zr g0 19), (1, zi y1), (2, zi y2), (3, zi y3), (4, zi (y4 + 1)), (5, zi (z531 + y4))] i21_152 rfl rfl rfl (by omega) rfl ?_
      refine X.goto 37 i21_155 rfl rfl ?_
      refine X.cut [(0, zr g0 19), (1, zi y1), (2, zi y2), (3, zi y3), (4, zi (y4 + 1))] i21_37 rfl ?_
      exact ih (y4 + 1) m553 (B) (hJ554.up (by omega)) (by omega) (by omega) (by omega) (Eq.trans hR (Eq.trans (if_neg h530) (Eq.trans (zn_eq ez531) (Eq.trans (zn_eq ez534) (Eq.trans (zs_eq hFv537.symm) (Eq.trans (zn_eq ez540) (Eq.trans (zn_eq ez542) (Eq.trans (zs_eq hFv545.symm) (Eq.trans (zn_eq ez547) (Eq.trans (zs_eq hFv550.symm) (Eq.trans (zn_eq ez552) (Eq.trans (zs_eq hFv555.symm) rfl))))))))))))
def fl21_17_1_b (self : Int → zM → zM) (k164 : zM → zM) (g0 : Nat) (y1 : Int) (y2 : Int) (m : zM) : zM :=
  if (m g0 19 4) ≤ y2 then
  (k164 m)
  else
  (zn (((y2 + y1) % (m g0 19 4))) fun z511 =>
  fl21_37_1 (fun m512 =>
  self (y2 + 1) m512) g0 y1 y2 z511 4 0 m)
def fl21_17_1 (k164 : zM → zM) (g0 : Nat) (y1 : Int) : Nat → Int → zM → zM
  | 0 => fun y2 m => m
  | n + 1 => fl21_17_1_b (fl21_17_1 k164 g0 y1 n) k164 g0 y1
theorem l21_17_1 {s : Nat × (Nat → Int32)} {S : zS} {m0 : zM} {d : Nat} {Q : Option zV → zM → Prop} {R0 : zM} {k164 : zM → zM} (g0 : Nat) (y1 : Int) (BE : Int) (hE : BE ≤ 1000000000) (hd : 14 ≤ d) (hy1 : 1 ≤ y1 ∧ y1 ≤ 4) (hf2 : ¬ S.1 2) (hgg0 : ¬ S.2.1 g0)
    (K164 : ∀ (m' : zM) (B' : Int), J S m0 B' m' → B' ≤ BE → R0 = k164 m' → X (EE s) d 21 164 [(0, zr g0 19)] [] m' Q) :
    ∀ (n : Nat) (y2 : Int) (m : zM) (B : Int), J S m0 B m → B + 0 * (n : Int) ≤ BE → (0 ≤ y2 ∧ y2 ≤ 16) → 16 - y2 < (n : Int) → R0 = fl21_17_1 k164 g0 y1 n y2 m → X (EE s) d 21 17 [(0, zr g0 19), (1, zi y1), (2, zi y2)] [] m Q := by
  intro n
  induction n with
  | zero =>
    intro y2 m B hJ hB hy2 hn hR
    exfalso
    omega
  | succ n ih =>
    intro y2 m B hJ hB hy2 hn hR
    replace hR : R0 = fl21_17_1_b (fl21_17_1 k164 g0 y1 n) k164 g0 y1 y2 m := hR
    refine X.iload_n 18 i21_17 rfl rfl rfl ?_
    refine X.aload_n 19 i21_18 rfl rfl rfl ?_
    refine X.getI 22 4 i21_19 rfl rfl (by decide) rfl rfl rfl ?_
    have h509 := r19_4 hJ g0
    refine X.icmpge 164 25 i21_22 rfl rfl rfl (fun h510 => ?_) (fun h510 => ?_)
    · refine X.cut [(0, zr g0 19)] i21_164 rfl ?_
      exact K164  m (B) (hJ.up (by omega)) (by omega)  (Eq.trans hR (Eq.trans (if_pos h510) rfl))
    · refine X.iload_n 26 i21_25 rfl rfl rfl ?_
      refine X.iload_n 27 i21_26 rfl rfl rfl ?_
      refine X.iadd 28 i21_27 rfl rfl (by omega) ?_
      refine X.aload_n 29 i21_28 rfl rfl rfl ?_
      refine X.getI 32 4 i21_29 rfl rfl (by decide) rfl rfl rfl ?_
      refine X.irem 33 i21_32 rfl rfl (by omega) ?_
      have hz511 := z_modb (x := (y2 + y1)) (y := (m g0 19 4)) (by omega) (by omega)
      obtain ⟨z511, ez511⟩ : ∃ z, z = ((y2 + y1) % (m g0 19 4)) := ⟨_, rfl⟩
      rw [← ez511] at hz511 ⊢
      refine X.istore_n 34 [(0, zr g0 19), (1, zi y1), (2, zi y2), (3, zi z511)] i21_33 rfl rfl rfl ?_
      refine X.iconst 35 i21_34 rfl rfl (by decide) ?_
      refine X.istore 37 [(0, zr g0 19), (1, zi y1), (2, zi y2), (3, zi z511), (4, zi 0)] i21_35 rfl rfl rfl ?_
      refine l21_37_1 (s := s) (d := d) g0 y1 y2 z511  (BE := B + 0) (by omega) (by omega) (by omega) (by omega) (by omega) hf2 hgg0 (fun  m512 B513 hJ514 hBB513 hR515 => ?_) 4 0 m (B) (hJ.up (by omega)) (by omega) (by omega) (by omega) (Eq.trans hR (Eq.trans (if_neg h510) (Eq.trans (zn_eq ez511) rfl)))
      refine X.iinc 161 [(0, zr g0 19), (1, zi y1), (2, zi (y2 + 1))] i21_158 rfl rfl rfl (by omega) rfl ?_
      refine X.goto 17 i21_161 rfl rfl ?_
      exact ih (y2 + 1) m512 (B513) (hJ514.up (by omega)) (by omega) (by omega) (by omega) (Eq.trans hR515 rfl)
def fl24_6_1_b (self : Int → Int → Int) (k38 : Int → Int) (y0 : Int) (m : zM) (y2 y4 : Int) : Int :=
  if y4 < 0 then
  (k38 y2)
  else
  (zn (zshlL 1 y4) fun z523 =>
  zn (w64 (y2 + z523)) fun z524 =>
  zn (w64 (z524 * z524)) fun z525 =>
  zn (if z525 ≤ y0 then
  (z524)
  else
  (y2)) fun v528 =>
  self v528 (y4 + (-1)))
def fl24_6_1 (k38 : Int → Int) (y0 : Int) (m : zM) : Nat → Int → Int → Int
  | 0 => fun y2 y4 => 0
  | n + 1 => fl24_6_1_b (fl24_6_1 k38 y0 m n) k38 y0 m
theorem l24_6_1 {s : Nat × (Nat → Int32)} {S : zS} {m0 : zM} {m : zM} {B : Int} {d : Nat} {Q : Option zV → zM → Prop} {R0 : Int} {k38 : Int → Int} (y0 : Int) (hd : 13 ≤ d) (hJ : J S m0 B m) (hB9 : B ≤ 1000000000)
    (K38 : ∀ (x2 : Int) , (True) → R0 = k38 x2 → X (EE s) d 24 38 [(2, zl x2)] [] m Q) :
    ∀ (n : Nat) (y2 y4 : Int) , ((-1) ≤ y4 ∧ y4 ≤ 25) → y4 - (-1) < (n : Int) → R0 = fl24_6_1 k38 y0 m n y2 y4 → X (EE s) d 24 6 [(0, zl y0), (2, zl y2), (4, zi y4)] [] m Q := by
  intro n
  induction n with
  | zero =>
    intro y2 y4 hy4 hn hR
    exfalso
    omega
  | succ n ih =>
    intro y2 y4 hy4 hn hR
    replace hR : R0 = fl24_6_1_b (fl24_6_1 k38 y0 m n) k38 y0 m y2 y4 := hR
    refine X.iload 8 i24_6 rfl rfl rfl ?_
    refine X.iflt 38 11 i24_8 rfl rfl rfl (fun h522 => ?_) (fun h522 => ?_)
    · refine X.cut [(2, zl y2)] i24_38 rfl ?_
      exact K38 y2 (by first | trivial | omega) (Eq.trans hR (Eq.trans (if_pos h522) rfl))
    · refine X.lload_n 12 i24_11 rfl rfl rfl ?_
      refine X.lconst (y := 1) 13 i24_12 rfl rfl rfl ?_
      refine X.iload 15 i24_13 rfl rfl rfl ?_
      refine X.lshlE 16 i24_15 rfl rfl (fun z523 ez523 hz523 => ?_)
      refine X.laddW 17 i24_16 rfl rfl (fun z524 ez524 hz524 => ?_)
      refine X.lstore 19 [(0, zl y0), (2, zl y2), (4, zi y4), (5, zl z524)] i24_17 rfl rfl rfl ?_
      refine X.lload 21 i24_19 rfl rfl rfl ?_
      refine X.lload 23 i24_21 rfl rfl rfl ?_
      refine X.lmulW 24 i24_23 rfl rfl (fun z525 ez525 hz525 => ?_)
      refine X.lload_n 25 i24_24 rfl rfl rfl ?_
      refine X.lcmp 26 i24_25 rfl rfl (fun z526 hz526 => ?_)
      have hK531 : ∀ (v : Int) , (True) → (if z525 ≤ y0 then
          (z524)
          else
          (y2)) = v → X (EE s) d 24 32 [(0, zl y0), (2, zl v), (4, zi y4)] [] m Q := by
        intro v528 hv528 hT532
        refine X.iinc 35 [(0, zl y0), (2, zl v528), (4, zi (y4 + (-1)))] i24_32 rfl rfl rfl (by omega) rfl ?_
        refine X.goto 6 i24_35 rfl rfl ?_
        exact ih v528 (y4 + (-1)) (by omega) (by omega) (Eq.trans hR (Eq.trans (if_neg h522) (Eq.trans (zn_eq ez523) (Eq.trans (zn_eq ez524) (Eq.trans (zn_eq ez525) (Eq.trans (zn_eq hT532.symm) rfl))))))
      refine X.ifgt 32 29 i24_26 rfl rfl rfl (fun h527 => ?_) (fun h527 => ?_)
      · have h527c : ¬ z525 ≤ y0 := by omega
        clear h527 hz526
        refine X.cut [(0, zl y0), (2, zl y2), (4, zi y4)] i24_32 rfl ?_
        exact hK531 y2 (by first | trivial | omega) (Eq.trans (if_neg h527c) rfl)
      · have h527c : z525 ≤ y0 := by omega
        clear h527 hz526
        refine X.lload 31 i24_29 rfl rfl rfl ?_
        refine X.lstore_n 32 [(0, zl y0), (2, zl z524), (4, zi y4), (5, zl z524)] i24_31 rfl rfl rfl ?_
        refine X.cut [(0, zl y0), (2, zl z524), (4, zi y4)] i24_32 rfl ?_
        exact hK531 z524 (by first | trivial | omega) (Eq.trans (if_pos h527c) rfl)
-- WorkMeter$Wave.wholeRoot
def f24_1 (a0 : Int) (m : zM) : Int :=
  fl24_6_1 (fun y501 =>
  y501) a0 m 27 0 25
-- WorkMeter$Wave.wholeRoot
theorem c24_1 {s : Nat × (Nat → Int32)} {S : zS} {m0 m : zM} {B : Int} {d : Nat} {Q : Option zV → zM → Prop} (a0 : Int) (hd : 13 ≤ d) (hJ : J S m0 B m) (hB : B + 0 ≤ 1000000000) (hQ : ∀ (v : Int), (True) → f24_1 a0 m = v → Q (some (zl v)) m) : X (EE s) d 24 0 [(0, zl a0)] [] m Q := by
  refine X.lconst (y := 0) 1 i24_0 rfl rfl rfl ?_
  refine X.lstore_n 2 [(0, zl a0), (2, zl 0)] i24_1 rfl rfl rfl ?_
  refine X.bipush 4 i24_2 rfl rfl (by decide) ?_
  refine X.istore 6 [(0, zl a0), (2, zl 0), (4, zi 25)] i24_4 rfl rfl rfl ?_
  refine l24_6_1 (s := s) (m := m) (B := B) (d := d) (R0 := (f24_1 a0 m))  a0  (by omega) (hJ.up (by omega)) (by omega) (fun y501 hby501 hR505 => ?_) 27 0 25 (by omega) (by omega) rfl
  refine X.lload_n 39 i24_38 rfl rfl rfl ?_
  refine X.retl i24_39 rfl t24 ?_
  exact hQ y501 (by first | trivial | omega) (Eq.trans hR505 rfl) 
-- WorkMeter$Wave.apparentOf
def f23_1 (g0 : Nat) (a1 : Int) (m : zM) : Int :=
  zn (w64 ((m g0 22 (0 + a1)) * (m g0 22 (0 + a1)))) fun z501 =>
  zn (w64 ((m g0 22 (4 + a1)) * (m g0 22 (4 + a1)))) fun z502 =>
  zn (w64 (z501 + z502)) fun z503 =>
  zn (f24_1 z503 m) fun v506 =>
  v506
-- WorkMeter$Wave.apparentOf
theorem c23_1 {s : Nat × (Nat → Int32)} {S : zS} {m0 m : zM} {B : Int} {d : Nat} {Q : Option zV → zM → Prop} (g0 : Nat) (a1 : Int) (hd : 14 ≤ d) (hJ : J S m0 B m) (hB : B + 0 ≤ 1000000000) (ha1 : 3 ≤ a1 ∧ a1 ≤ 3) (hQ : ∀ (v : Int), (True) → f23_1 g0 a1 m = v → Q (some (zl v)) m) : X (EE s) d 23 0 [(0, zr g0 19), (1, zi a1)] [] m Q := by
  refine X.aload_n 1 i23_0 rfl rfl rfl ?_
  refine X.getR 4 i23_1 rfl rfl (by decide) rfl rfl ?_
  refine X.iconst 5 i23_4 rfl rfl (by decide) ?_
  refine X.iload_n 6 i23_5 rfl rfl rfl ?_
  refine X.iadd 7 i23_6 rfl rfl (by omega) ?_
  refine X.lald 8 i23_7 rfl rfl (by decide) rfl (by omega) ?_
  refine X.lstore_n 9 [(0, zr g0 19), (1, zi a1), (2, zl (m g0 22 (0 + a1)))] i23_8 rfl rfl rfl ?_
  refine X.aload_n 10 i23_9 rfl rfl rfl ?_
  refine X.getR 13 i23_10 rfl rfl (by decide) rfl rfl ?_
  refine X.iconst 14 i23_13 rfl rfl (by decide) ?_
  refine X.iload_n 15 i23_14 rfl rfl rfl ?_
  refine X.iadd 16 i23_15 rfl rfl (by omega) ?_
  refine X.lald 17 i23_16 rfl rfl (by decide) rfl (by omega) ?_
  refine X.lstore 19 [(0, zr g0 19), (1, zi a1), (2, zl (m g0 22 (0 + a1))), (4, zl (m g0 22 (4 + a1)))] i23_17 rfl rfl rfl ?_
  refine X.lload_n 20 i23_19 rfl rfl rfl ?_
  refine X.lload_n 21 i23_20 rfl rfl rfl ?_
  refine X.lmulW 22 i23_21 rfl rfl (fun z501 ez501 hz501 => ?_)
  refine X.lload 24 i23_22 rfl rfl rfl ?_
  refine X.lload 26 i23_24 rfl rfl rfl ?_
  refine X.lmulW 27 i23_26 rfl rfl (fun z502 ez502 hz502 => ?_)
  refine X.laddW 28 i23_27 rfl rfl (fun z503 ez503 hz503 => ?_)
  refine X.calls 31 [zl z503] [] [(0, zl z503)] i23_28 (by decide) rfl rfl (by omega) rfl rfl t24 (Nat.le_of_ble_eq_true rfl) (Nat.le_of_ble_eq_true rfl) rfl ?_
  refine c24_1 (B := B)  z503 (by omega) (hJ.up (by omega)) (by omega)  (fun v506 hv506 hFv506 => ?_)
  show X (EE s) d 23 31 [(0, zr g0 19), (1, zi a1), (2, zl (m g0 22 (0 + a1))), (4, zl (m g0 22 (4 + a1)))] [zl v506] m _
  refine X.retl i23_31 rfl t23 ?_
  exact hQ v506 (by first | trivial | omega) (Eq.trans (zn_eq ez501) (Eq.trans (zn_eq ez502) (Eq.trans (zn_eq ez503) (Eq.trans (zn_eq hFv506.symm) rfl)))) 
-- WorkMeter$Wave.sumUp
def f21_1 (g0 : Nat) (m : zM) : zM :=
  zs (f11_1 g0 0 m) fun m501 =>
  fl21_17_1 (fun m505 =>
  zn (f23_1 g0 3 m505) fun v511 =>
  zs (z_upd m505 g0 19 6 v511) fun m512 =>
  m512) g0 ((m501 g0 19 4) / 4) 17 0 m501
-- WorkMeter$Wave.sumUp
theorem c21_1 {s : Nat × (Nat → Int32)} {S : zS} {m0 m : zM} {B : Int} {d : Nat} {Q : Option zV → zM → Prop} (g0 : Nat) (hd : 15 ≤ d) (hJ : J S m0 B m) (hB : B + 0 ≤ 1000000000) (hf2 : ¬ S.1 2) (hgg0 : ¬ S.2.1 g0) (hQ : ∀ m', f21_1 g0 m = m' → J S m0 (B) m' → Q none m') : X (EE s) d 21 0 [(0, zr g0 19)] [] m Q := by
  refine X.aload_n 1 i21_0 rfl rfl rfl ?_
  refine X.getR 4 i21_1 rfl rfl (by decide) rfl rfl ?_
  refine X.lconst (y := 0) 5 i21_4 rfl rfl rfl ?_
  refine X.calls 8 [zr g0 22, zl 0] [] [(0, zr g0 22), (1, zl 0)] i21_5 (by decide) rfl rfl (by omega) rfl rfl t11 (Nat.le_of_ble_eq_true rfl) (Nat.le_of_ble_eq_true rfl) rfl ?_
  refine c11_1 (B := B) g0 0 (by omega) (hJ.up (by omega)) (by omega) (by omega) hf2 hgg0 (fun m501 hFv503 hJ502 => ?_)
  show X (EE s) d 21 8 [(0, zr g0 19)] [] m501 _
  refine X.aload_n 9 i21_8 rfl rfl rfl ?_
  refine X.getI 12 4 i21_9 rfl rfl (by decide) rfl rfl rfl ?_
  have h504 := r19_4 hJ502 g0
  refine X.iconst 13 i21_12 rfl rfl (by decide) ?_
  refine X.idiv 14 i21_13 rfl rfl (by omega) ?_
  refine X.istore_n 15 [(0, zr g0 19), (1, zi ((m501 g0 19 4) / 4))] i21_14 rfl rfl rfl ?_
  refine X.iconst 16 i21_15 rfl rfl (by decide) ?_
  refine X.istore_n 17 [(0, zr g0 19), (1, zi ((m501 g0 19 4) / 4)), (2, zi 0)] i21_16 rfl rfl rfl ?_
  refine l21_17_1 (s := s) (d := d) (R0 := (f21_1 g0 m)) g0 ((m501 g0 19 4) / 4)  (BE := B + 0) (by omega) (by omega) (by omega) hf2 hgg0 (fun  m505 B506 hJ507 hBB506 hR508 => ?_) 17 0 m501 (B) (hJ502.up (by omega)) (by omega) (by omega) (by omega) (Eq.trans (zs_eq hFv503.symm) rfl)
  refine X.aload_n 165 i21_164 rfl rfl rfl ?_
  refine X.aload_n 166 i21_165 rfl rfl rfl ?_
  refine X.iconst 167 i21_166 rfl rfl (by decide) ?_
  refine X.callv 170 [zi 3] [zr g0 19] [(0, zr g0 19), (1, zi 3)] i21_167 rfl (by decide) rfl rfl (by omega) rfl rfl (by decide) rfl t23 (Nat.le_of_ble_eq_true rfl) (Nat.le_of_ble_eq_true rfl) rfl ?_
  refine c23_1 (B := B506) g0 3 (by omega) (hJ507.up (by omega)) (by omega) (by omega) (fun v511 hv511 hFv511 => ?_)
  show X (EE s) d 21 170 [(0, zr g0 19)] [zl v511, zr g0 19] m505 _
  refine X.putL' 173 6 i21_170 rfl rfl (by decide) rfl rfl rfl (fun hrm512 m512 hm512 => ?_)
  have hJ513 := w19_6 hJ507 hm512 hrm512 hf2 hgg0
  refine X.retv i21_173 rfl t21 ?_
  exact hQ  m512  (Eq.trans hR508 (Eq.trans (zn_eq hFv511.symm) (Eq.trans (zs_eq hm512) rfl))) (hJ513.up (by omega)) 
-- WorkMeter$Wave.takeSample
def f20_1 (g0 : Nat) (a1 a2 : Int) (m : zM) : Int × zM :=
  zs (z_upd m g0 20 (m g0 19 5) a1) fun m502 =>
  zs (z_upd m502 g0 21 (m502 g0 19 5) a2) fun m505 =>
  zs (z_upd m505 g0 19 5 ((m505 g0 19 5) + 1)) fun m508 =>
  zn (((m508 g0 19 3) * (m508 g0 19 4))) fun z510 =>
  if z510 ≤ (m508 g0 19 5) then
  (zs (z_upd m508 g0 19 5 0) fun m512 =>
  zs (f21_1 g0 m512) fun m514 =>
  (1, m514))
  else
  ((0, m508))
-- WorkMeter$Wave.takeSample
theorem c20_1 {s : Nat × (Nat → Int32)} {S : zS} {m0 m : zM} {B : Int} {d : Nat} {Q : Option zV → zM → Prop} (g0 : Nat) (a1 a2 : Int) (hd : 16 ≤ d) (hJ : J S m0 B m) (hB : B + 0 ≤ 1000000000) (ha1 : (-500) ≤ a1 ∧ a1 ≤ 500) (ha2 : (-500) ≤ a2 ∧ a2 ≤ 500) (hf2 : ¬ S.1 2) (hgg0 : ¬ S.2.1 g0) (hQ : ∀ (v : Int) m', (0 ≤ v ∧ v ≤ 1) → f20_1 g0 a1 a2 m = (v, m') → J S m0 (B) m' → Q (some (zi v)) m') : X (EE s) d 20 0 [(0, zr g0 19), (1, zi a1), (2, zi a2)] [] m Q := by
  refine X.aload_n 1 i20_0 rfl rfl rfl ?_
  refine X.getR 4 i20_1 rfl rfl (by decide) rfl rfl ?_
  refine X.aload_n 5 i20_4 rfl rfl rfl ?_
  refine X.getI 8 5 i20_5 rfl rfl (by decide) rfl rfl rfl ?_
  have h501 := r19_5 hJ g0
  refine X.iload_n 9 i20_8 rfl rfl rfl ?_
  refine X.iast' 10 i20_9 rfl rfl (by decide) rfl (by omega) (fun hrm502 m502 hm502 => ?_)
  have hJ503 := w20_0 hJ hm502 (by omega) (by omega) hf2 hgg0
  refine X.aload_n 11 i20_10 rfl rfl rfl ?_
  refine X.getR 14 i20_11 rfl rfl (by decide) rfl rfl ?_
  refine X.aload_n 15 i20_14 rfl rfl rfl ?_
  refine X.getI 18 5 i20_15 rfl rfl (by decide) rfl rfl rfl ?_
  have h504 := r19_5 hJ503 g0
  refine X.iload_n 19 i20_18 rfl rfl rfl ?_
  refine X.iast' 20 i20_19 rfl rfl (by decide) rfl (by omega) (fun hrm505 m505 hm505 => ?_)
  have hJ506 := w21_0 hJ503 hm505 (by omega) (by omega) hf2 hgg0
  refine X.aload_n 21 i20_20 rfl rfl rfl ?_
  refine X.dup 22 i20_21 rfl rfl rfl ?_
  refine X.getI 25 5 i20_22 rfl rfl (by decide) rfl rfl rfl ?_
  have h507 := r19_5 hJ506 g0
  refine X.iconst 26 i20_25 rfl rfl (by decide) ?_
  refine X.iadd 27 i20_26 rfl rfl (by omega) ?_
  refine X.putI' 30 5 i20_27 rfl rfl (by decide) rfl rfl rfl (fun hrm508 m508 hm508 => ?_)
  have em508 : m508 g0 19 5 = ((m505 g0 19 5) + 1) := by rw [hm508]; exact z_upd_same _ _ _ _ _
  have qm508_3 : m508 g0 19 3 = m505 g0 19 3 := by rw [hm508]; exact z_upd_o _ _ rfl
  have qqm508_3 := r19_3 hJ506 g0
  have qm508_4 : m508 g0 19 4 = m505 g0 19 4 := by rw [hm508]; exact z_upd_o _ _ rfl
  have qqm508_4 := r19_4 hJ506 g0
  refine X.aload_n 31 i20_30 rfl rfl rfl ?_
  refine X.getI 34 5 i20_31 rfl rfl (by decide) rfl rfl rfl ?_
  refine X.aload_n 35 i20_34 rfl rfl rfl ?_
  refine X.getI 38 3 i20_35 rfl rfl (by decide) rfl rfl rfl ?_
  refine X.aload_n 39 i20_38 rfl rfl rfl ?_
  refine X.getI 42 4 i20_39 rfl rfl (by decide) rfl rfl rfl ?_
  have hz510 := z_mulr (a := 1) (b := 3) (c := 4) (e := 16) (x := (m508 g0 19 3)) (y := (m508 g0 19 4)) (by omega) (by omega)
  refine X.imul 43 i20_42 rfl rfl (z_in3 hz510 (by decide) (by decide)) ?_
  obtain ⟨z510, ez510⟩ : ∃ z, z = ((m508 g0 19 3) * (m508 g0 19 4)) := ⟨_, rfl⟩
  rw [← ez510] at hz510 ⊢
  have gz510 : 4 ≤ z510 ∧ z510 ≤ 48 := z_in3 hz510 (by decide) (by decide)
  clear hz510
  refine X.icmpge 48 46 i20_43 rfl rfl rfl (fun h511 => ?_) (fun h511 => ?_)
  · refine X.cut [(0, zr g0 19)] i20_48 rfl ?_
    refine X.aload_n 49 i20_48 rfl rfl rfl ?_
    refine X.iconst 50 i20_49 rfl rfl (by decide) ?_
    refine X.putI' 53 5 i20_50 rfl rfl (by decide) rfl rfl rfl (fun hrm512 m512 hm512 => ?_)
    have hJ513 := w19_5 (x := 0) hJ506 (show m512 = z_upd m505 g0 19 5 0 by rw [hm512, hm508]; exact z_upd_upd _ _ _ _ _ _) (by omega) hf2 hgg0
    have em512 : m512 g0 19 5 = 0 := by rw [hm512]; exact z_upd_same _ _ _ _ _
    refine X.aload_n 54 i20_53 rfl rfl rfl ?_
    refine X.callv 57 [] [] [(0, zr g0 19)] i20_54 rfl (by decide) rfl rfl (by omega) rfl rfl (by decide) rfl t21 (Nat.le_of_ble_eq_true rfl) (Nat.le_of_ble_eq_true rfl) rfl ?_
    refine c21_1 (B := B) g0  (by omega) (hJ513.up (by omega)) (by omega)  hf2 hgg0 (fun m514 hFv516 hJ515 => ?_)
    show X (EE s) d 20 57 [(0, zr g0 19)] [] m514 _
    refine X.iconst 58 i20_57 rfl rfl (by decide) ?_
    refine X.retz i20_58 rfl t20 (by omega) ?_
    exact hQ 1 m514 (by first | trivial | omega) (Eq.trans (zs_eq hm502) (Eq.trans (zs_eq hm505) (Eq.trans (zs_eq hm508) (Eq.trans (zn_eq ez510) (Eq.trans (if_pos h511) (Eq.trans (zs_eq hm512) (Eq.trans (zs_eq hFv516.symm) rfl))))))) (hJ515.up (by omega)) 
  · refine X.iconst 47 i20_46 rfl rfl (by decide) ?_
    have hJ517 := w19_5 hJ506 hm508 (by omega) hf2 hgg0
    refine X.retz i20_47 rfl t20 (by omega) ?_
    exact hQ 0 m508 (by first | trivial | omega) (Eq.trans (zs_eq hm502) (Eq.trans (zs_eq hm505) (Eq.trans (zs_eq hm508) (Eq.trans (zn_eq ez510) (Eq.trans (if_neg h511) rfl))))) (hJ517.up (by omega)) 
def fl29_2_1_b (self : Int → Int) (k20 : Int → Int) (k28 : Int) (g0 : Nat) (y1 : Int) (m : zM) (y2 : Int) : Int :=
  if (m g0 11 7) ≤ y2 then
  (k28)
  else
  (if (m g0 17 y2) = y1 then
  (k20 y2)
  else
  (self (y2 + 1)))
def fl29_2_1 (k20 : Int → Int) (k28 : Int) (g0 : Nat) (y1 : Int) (m : zM) : Nat → Int → Int
  | 0 => fun y2 => 0
  | n + 1 => fl29_2_1_b (fl29_2_1 k20 k28 g0 y1 m n) k20 k28 g0 y1 m
theorem l29_2_1 {s : Nat × (Nat → Int32)} {S : zS} {m0 : zM} {m : zM} {B : Int} {d : Nat} {Q : Option zV → zM → Prop} {R0 : Int} {k20 : Int → Int} {k28 : Int} (g0 : Nat) (y1 : Int) (hd : 13 ≤ d) (hJ : J S m0 B m) (hB9 : B ≤ 1000000000) (hy1 : 0 ≤ y1 ∧ y1 ≤ 364)
    (K20 : ∀ (x2 : Int) , (0 ≤ x2 ∧ x2 ≤ 15) → (x2 < m g0 11 7) → R0 = k20 x2 → X (EE s) d 29 20 [(0, zr g0 11), (1, zi y1), (2, zi x2)] [] m Q)
    (K28 : R0 = k28 → X (EE s) d 29 28 [] [] m Q) :
    ∀ (n : Nat) (y2 : Int) , (0 ≤ y2 ∧ y2 ≤ 16) → 16 - y2 < (n : Int) → R0 = fl29_2_1 k20 k28 g0 y1 m n y2 → X (EE s) d 29 2 [(0, zr g0 11), (1, zi y1), (2, zi y2)] [] m Q := by
  intro n
  induction n with
  | zero =>
    intro y2 hy2 hn hR
    exfalso
    omega
  | succ n ih =>
    intro y2 hy2 hn hR
    replace hR : R0 = fl29_2_1_b (fl29_2_1 k20 k28 g0 y1 m n) k20 k28 g0 y1 m y2 := hR
    refine X.iload_n 3 i29_2 rfl rfl rfl ?_
    refine X.aload_n 4 i29_3 rfl rfl rfl ?_
    refine X.getI 7 7 i29_4 rfl rfl (by decide) rfl rfl rfl ?_
    have h506 := r11_7 hJ g0
    refine X.icmpge 28 10 i29_7 rfl rfl rfl (fun h507 => ?_) (fun h507 => ?_)
    · refine X.cut [] i29_28 rfl ?_
      exact K28   (Eq.trans hR (Eq.trans (if_pos h507) rfl))
    · refine X.aload_n 11 i29_10 rfl rfl rfl ?_
      refine X.getR 14 i29_11 rfl rfl (by decide) rfl rfl ?_
      refine X.iload_n 15 i29_14 rfl rfl rfl ?_
      refine X.iald 16 i29_15 rfl rfl (by decide) rfl (by omega) ?_
      have h508 := r17_0 hJ g0 (i := y2) (by omega)
      refine X.iload_n 17 i29_16 rfl rfl rfl ?_
      refine X.icmpne 22 20 i29_17 rfl rfl rfl (fun h509 => ?_) (fun h509 => ?_)
      · refine X.iinc 25 [(0, zr g0 11), (1, zi y1), (2, zi (y2 + 1))] i29_22 rfl rfl rfl (by omega) rfl ?_
        refine X.goto 2 i29_25 rfl rfl ?_
        exact ih (y2 + 1) (by omega) (by omega) (Eq.trans hR (Eq.trans (if_neg h507) (Eq.trans (if_neg h509) rfl)))
      · exact K20 y2 (by first | trivial | omega) (by omega) (Eq.trans hR (Eq.trans (if_neg h507) (Eq.trans (if_pos h509) rfl)))
-- WorkMeter$Calendar.specialPlace
def f29_1 (g0 : Nat) (a1 : Int) (m : zM) : Int :=
  fl29_2_1 (fun y501 =>
  y501) ((-1)) g0 a1 m 17 0
-- WorkMeter$Calendar.specialPlace
theorem c29_1 {s : Nat × (Nat → Int32)} {S : zS} {m0 m : zM} {B : Int} {d : Nat} {Q : Option zV → zM → Prop} (g0 : Nat) (a1 : Int) (hd : 13 ≤ d) (hJ : J S m0 B m) (hB : B + 0 ≤ 1000000000) (ha1 : 0 ≤ a1 ∧ a1 ≤ 364) (hQ : ∀ (v : Int), ((-1) ≤ v ∧ v ≤ 15) → f29_1 g0 a1 m = v → (v < m g0 11 7) → Q (some (zi v)) m) : X (EE s) d 29 0 [(0, zr g0 11), (1, zi a1)] [] m Q := by
  have f0 := r11_7 hJ g0
  refine X.iconst 1 i29_0 rfl rfl (by decide) ?_
  refine X.istore_n 2 [(0, zr g0 11), (1, zi a1), (2, zi 0)] i29_1 rfl rfl rfl ?_
  refine l29_2_1 (s := s) (m := m) (B := B) (d := d) (R0 := (f29_1 g0 a1 m)) g0 a1  (by omega) (hJ.up (by omega)) (by omega) (by omega) (fun y501 hby501 hrlm502_0 hR505 => ?_) (fun  hR509 => ?_) 17 0 (by omega) (by omega) rfl
  · refine X.iload_n 21 i29_20 rfl rfl rfl ?_
    refine X.reti i29_21 rfl t29 ?_
    exact hQ y501 (by first | trivial | omega) (Eq.trans hR505 rfl) (by omega)
  · refine X.iconst 29 i29_28 rfl rfl (by decide) ?_
    refine X.reti i29_29 rfl t29 ?_
    exact hQ (-1) (by first | trivial | omega) (Eq.trans hR509 rfl) (by omega)
def fl30_7_1_b (self : Int → Int → Int → Int) (k87 : Int → Int → Int) (g0 : Nat) (y1 : Int) (m : zM) (y2 y3 y4 : Int) : Int :=
  if 4 ≤ y4 then
  (k87 y2 y3)
  else
  (if (m g0 15 y4) = (-1) then
  (self y2 y3 (y4 + 1))
  else
  (zn (if y1 < (m g0 15 y4) then
  (y2)
  else
  (if y2 = (-1) then
  (y4)
  else
  (if (m g0 15 y4) ≤ (m g0 15 y2) then
  (y2)
  else
  (y4)))) fun v544 =>
  zn (if (m g0 15 y4) ≤ (m g0 15 y3) then
  (y3)
  else
  (y4)) fun v551 =>
  self v544 v551 (y4 + 1)))
def fl30_7_1 (k87 : Int → Int → Int) (g0 : Nat) (y1 : Int) (m : zM) : Nat → Int → Int → Int → Int
  | 0 => fun y2 y3 y4 => 0
  | n + 1 => fl30_7_1_b (fl30_7_1 k87 g0 y1 m n) k87 g0 y1 m
theorem l30_7_1 {s : Nat × (Nat → Int32)} {S : zS} {m0 : zM} {m : zM} {B : Int} {d : Nat} {Q : Option zV → zM → Prop} {R0 : Int} {k87 : Int → Int → Int} (g0 : Nat) (y1 : Int) (hd : 13 ≤ d) (hJ : J S m0 B m) (hB9 : B ≤ 1000000000) (hy1 : 0 ≤ y1 ∧ y1 ≤ 364)
    (K87 : ∀ (x2 x3 : Int) , ((-1) ≤ x2 ∧ x2 ≤ 3) → (0 ≤ x3 ∧ x3 ≤ 3) → R0 = k87 x2 x3 → X (EE s) d 30 87 [(2, zi x2), (3, zi x3)] [] m Q) :
    ∀ (n : Nat) (y2 y3 y4 : Int) , ((-1) ≤ y2 ∧ y2 ≤ 3) → (0 ≤ y3 ∧ y3 ≤ 3) → (0 ≤ y4 ∧ y4 ≤ 4) → 4 - y4 < (n : Int) → R0 = fl30_7_1 k87 g0 y1 m n y2 y3 y4 → X (EE s) d 30 7 [(0, zr g0 11), (1, zi y1), (2, zi y2), (3, zi y3), (4, zi y4)] [] m Q := by
  intro n
  induction n with
  | zero =>
    intro y2 y3 y4 hy2 hy3 hy4 hn hR
    exfalso
    omega
  | succ n ih =>
    intro y2 y3 y4 hy2 hy3 hy4 hn hR
    replace hR : R0 = fl30_7_1_b (fl30_7_1 k87 g0 y1 m n) k87 g0 y1 m y2 y3 y4 := hR
    refine X.iload 9 i30_7 rfl rfl rfl ?_
    refine X.iconst 10 i30_9 rfl rfl (by decide) ?_
    refine X.icmpge 87 13 i30_10 rfl rfl rfl (fun h537 => ?_) (fun h537 => ?_)
    · refine X.cut [(2, zi y2), (3, zi y3)] i30_87 rfl ?_
      exact K87 y2 y3 (by first | trivial | omega) (by first | trivial | omega) (Eq.trans hR (Eq.trans (if_pos h537) rfl))
    · refine X.aload_n 14 i30_13 rfl rfl rfl ?_
      refine X.getR 17 i30_14 rfl rfl (by decide) rfl rfl ?_
      refine X.iload 19 i30_17 rfl rfl rfl ?_
      refine X.iald 20 i30_19 rfl rfl (by decide) rfl (by omega) ?_
      have h538 := r15_0 hJ g0 (i := y4) (by omega)
      refine X.iconst 21 i30_20 rfl rfl (by decide) ?_
      refine X.icmpne 27 24 i30_21 rfl rfl rfl (fun h539 => ?_) (fun h539 => ?_)
      · refine X.aload_n 28 i30_27 rfl rfl rfl ?_
        refine X.getR 31 i30_28 rfl rfl (by decide) rfl rfl ?_
        refine X.iload 33 i30_31 rfl rfl rfl ?_
        refine X.iald 34 i30_33 rfl rfl (by decide) rfl (by omega) ?_
        refine X.iload_n 35 i30_34 rfl rfl rfl ?_
        have hK547 : ∀ (v : Int) , ((-1) ≤ v ∧ v ≤ 3) → (if y1 < (m g0 15 y4) then
            (y2)
            else
            (if y2 = (-1) then
            (y4)
            else
            (if (m g0 15 y4) ≤ (m g0 15 y2) then
            (y2)
            else
            (y4)))) = v → X (EE s) d 30 62 [(0, zr g0 11), (1, zi y1), (2, zi v), (3, zi y3), (4, zi y4)] [] m Q := by
          intro v544 hv544 hT548
          refine X.aload_n 63 i30_62 rfl rfl rfl ?_
          refine X.getR 66 i30_63 rfl rfl (by decide) rfl rfl ?_
          refine X.iload 68 i30_66 rfl rfl rfl ?_
          refine X.iald 69 i30_68 rfl rfl (by decide) rfl (by omega) ?_
          refine X.aload_n 70 i30_69 rfl rfl rfl ?_
          refine X.getR 73 i30_70 rfl rfl (by decide) rfl rfl ?_
          refine X.iload_n 74 i30_73 rfl rfl rfl ?_
          refine X.iald 75 i30_74 rfl rfl (by decide) rfl (by omega) ?_
          have h549 := r15_0 hJ g0 (i := y3) (by omega)
          have hK554 : ∀ (v : Int) , (0 ≤ v ∧ v ≤ 3) → (if (m g0 15 y4) ≤ (m g0 15 y3) then
              (y3)
              else
              (y4)) = v → X (EE s) d 30 81 [(0, zr g0 11), (1, zi y1), (2, zi v544), (3, zi v), (4, zi y4)] [] m Q := by
            intro v551 hv551 hT555
            refine X.iinc 84 [(0, zr g0 11), (1, zi y1), (2, zi v544), (3, zi v551), (4, zi (y4 + 1))] i30_81 rfl rfl rfl (by omega) rfl ?_
            refine X.goto 7 i30_84 rfl rfl ?_
            exact ih v544 v551 (y4 + 1) (by omega) (by omega) (by omega) (by omega) (Eq.trans hR (Eq.trans (if_neg h537) (Eq.trans (if_neg h539) (Eq.trans (zn_eq hT548.symm) (Eq.trans (zn_eq hT555.symm) rfl)))))
          refine X.icmple 81 78 i30_75 rfl rfl rfl (fun h550 => ?_) (fun h550 => ?_)
          · exact hK554 y3 (by first | trivial | omega) (Eq.trans (if_pos h550) rfl)
          · refine X.iload 80 i30_78 rfl rfl rfl ?_
            refine X.istore_n 81 [(0, zr g0 11), (1, zi y1), (2, zi v544), (3, zi y4), (4, zi y4)] i30_80 rfl rfl rfl ?_
            exact hK554 y4 (by first | trivial | omega) (Eq.trans (if_neg h550) rfl)
        refine X.icmpgt 62 38 i30_35 rfl rfl rfl (fun h540 => ?_) (fun h540 => ?_)
        · exact hK547 y2 (by first | trivial | omega) (Eq.trans (if_pos h540) rfl)
        · refine X.iload_n 39 i30_38 rfl rfl rfl ?_
          refine X.iconst 40 i30_39 rfl rfl (by decide) ?_
          refine X.icmpeq 59 43 i30_40 rfl rfl rfl (fun h541 => ?_) (fun h541 => ?_)
          · refine X.cut [(0, zr g0 11), (1, zi y1), (3, zi y3), (4, zi y4)] i30_59 rfl ?_
            refine X.iload 61 i30_59 rfl rfl rfl ?_
            refine X.istore_n 62 [(0, zr g0 11), (1, zi y1), (2, zi y4), (3, zi y3), (4, zi y4)] i30_61 rfl rfl rfl ?_
            exact hK547 y4 (by first | trivial | omega) (Eq.trans (if_neg h540) (Eq.trans (if_pos h541) rfl))
          · refine X.aload_n 44 i30_43 rfl rfl rfl ?_
            refine X.getR 47 i30_44 rfl rfl (by decide) rfl rfl ?_
            refine X.iload 49 i30_47 rfl rfl rfl ?_
            refine X.iald 50 i30_49 rfl rfl (by decide) rfl (by omega) ?_
            refine X.aload_n 51 i30_50 rfl rfl rfl ?_
            refine X.getR 54 i30_51 rfl rfl (by decide) rfl rfl ?_
            refine X.iload_n 55 i30_54 rfl rfl rfl ?_
            refine X.iald 56 i30_55 rfl rfl (by decide) rfl (by omega) ?_
            have h542 := r15_0 hJ g0 (i := y2) (by omega)
            refine X.icmple 62 59 i30_56 rfl rfl rfl (fun h543 => ?_) (fun h543 => ?_)
            · exact hK547 y2 (by first | trivial | omega) (Eq.trans (if_neg h540) (Eq.trans (if_neg h541) (Eq.trans (if_pos h543) rfl)))
            · refine X.cut [(0, zr g0 11), (1, zi y1), (3, zi y3), (4, zi y4)] i30_59 rfl ?_
              refine X.iload 61 i30_59 rfl rfl rfl ?_
              refine X.istore_n 62 [(0, zr g0 11), (1, zi y1), (2, zi y4), (3, zi y3), (4, zi y4)] i30_61 rfl rfl rfl ?_
              exact hK547 y4 (by first | trivial | omega) (Eq.trans (if_neg h540) (Eq.trans (if_neg h541) (Eq.trans (if_neg h543) rfl)))
      · refine X.goto 81 i30_24 rfl rfl ?_
        refine X.iinc 84 [(0, zr g0 11), (1, zi y1), (2, zi y2), (3, zi y3), (4, zi (y4 + 1))] i30_81 rfl rfl rfl (by omega) rfl ?_
        refine X.goto 7 i30_84 rfl rfl ?_
        exact ih y2 y3 (y4 + 1) (by omega) (by omega) (by omega) (by omega) (Eq.trans hR (Eq.trans (if_neg h537) (Eq.trans (if_pos h539) rfl)))
-- WorkMeter$Calendar.seasonOf
def f30_1 (g0 : Nat) (a1 : Int) (m : zM) : Int :=
  fl30_7_1 (fun y501 y502 =>
  zn (if y501 = (-1) then
  (y502)
  else
  (y501)) fun v508 =>
  v508) g0 a1 m 5 (-1) 0 0
-- WorkMeter$Calendar.seasonOf
theorem c30_1 {s : Nat × (Nat → Int32)} {S : zS} {m0 m : zM} {B : Int} {d : Nat} {Q : Option zV → zM → Prop} (g0 : Nat) (a1 : Int) (hd : 13 ≤ d) (hJ : J S m0 B m) (hB : B + 0 ≤ 1000000000) (ha1 : 0 ≤ a1 ∧ a1 ≤ 364) (hQ : ∀ (v : Int), (0 ≤ v ∧ v ≤ 3) → f30_1 g0 a1 m = v → Q (some (zi v)) m) : X (EE s) d 30 0 [(0, zr g0 11), (1, zi a1)] [] m Q := by
  refine X.iconst 1 i30_0 rfl rfl (by decide) ?_
  refine X.istore_n 2 [(0, zr g0 11), (1, zi a1), (2, zi (-1))] i30_1 rfl rfl rfl ?_
  refine X.iconst 3 i30_2 rfl rfl (by decide) ?_
  refine X.istore_n 4 [(0, zr g0 11), (1, zi a1), (2, zi (-1)), (3, zi 0)] i30_3 rfl rfl rfl ?_
  refine X.iconst 5 i30_4 rfl rfl (by decide) ?_
  refine X.istore 7 [(0, zr g0 11), (1, zi a1), (2, zi (-1)), (3, zi 0), (4, zi 0)] i30_5 rfl rfl rfl ?_
  refine l30_7_1 (s := s) (m := m) (B := B) (d := d) (R0 := (f30_1 g0 a1 m)) g0 a1  (by omega) (hJ.up (by omega)) (by omega) (by omega) (fun y501 y502 hby501 hby502 hR506 => ?_) 5 (-1) 0 0 (by omega) (by omega) (by omega) (by omega) rfl
  refine X.iload_n 88 i30_87 rfl rfl rfl ?_
  refine X.iconst 89 i30_88 rfl rfl (by decide) ?_
  have hK511 : ∀ (v : Int) , (0 ≤ v ∧ v ≤ 3) → (if y501 = (-1) then
      (y502)
      else
      (y501)) = v → X (EE s) d 30 97 [] [zi v] m Q := by
    intro v508 hv508 hT512
    refine X.reti i30_97 rfl t30 ?_
    exact hQ v508 (by first | trivial | omega) (Eq.trans hR506 (Eq.trans (zn_eq hT512.symm) rfl)) 
  refine X.icmpne 96 92 i30_89 rfl rfl rfl (fun h507 => ?_) (fun h507 => ?_)
  · refine X.cut [(2, zi y501)] i30_96 rfl ?_
    refine X.iload_n 97 i30_96 rfl rfl rfl ?_
    refine X.cut [] i30_97 rfl ?_
    exact hK511 y501 (by first | trivial | omega) (Eq.trans (if_neg h507) rfl)
  · refine X.iload_n 93 i30_92 rfl rfl rfl ?_
    refine X.goto 97 i30_93 rfl rfl ?_
    refine X.cut [] i30_97 rfl ?_
    exact hK511 y502 (by first | trivial | omega) (Eq.trans (if_pos h507) rfl)
-- WorkMeter$Calendar.tableFor
def f28_1 (g0 : Nat) (a1 : Int) (m : zM) : Int :=
  zn (f29_1 g0 (a1 % 365) m) fun v503 =>
  if v503 = (-1) then
  (zn (f30_1 g0 (a1 % 365) m) fun v507 =>
  (m g0 16 ((v507 * 7) + (a1 % 7))))
  else
  ((m g0 18 v503))
-- WorkMeter$Calendar.tableFor
theorem c28_1 {s : Nat × (Nat → Int32)} {S : zS} {m0 m : zM} {B : Int} {d : Nat} {Q : Option zV → zM → Prop} (g0 : Nat) (a1 : Int) (hd : 14 ≤ d) (hJ : J S m0 B m) (hB : B + 0 ≤ 1000000000) (ha1 : 0 ≤ a1 ∧ a1 ≤ 23150) (hQ : ∀ (v : Int), (0 ≤ v ∧ v ≤ 7) → f28_1 g0 a1 m = v → Q (some (zi v)) m) : X (EE s) d 28 0 [(0, zr g0 11), (1, zi a1)] [] m Q := by
  refine X.aload_n 1 i28_0 rfl rfl rfl ?_
  refine X.iload_n 2 i28_1 rfl rfl rfl ?_
  refine X.sipush 5 i28_2 rfl rfl (by decide) ?_
  refine X.irem 6 i28_5 rfl rfl (by omega) ?_
  refine X.callv 9 [zi (a1 % 365)] [] [(0, zr g0 11), (1, zi (a1 % 365))] i28_6 rfl (by decide) rfl rfl (by omega) rfl rfl (by decide) rfl t29 (Nat.le_of_ble_eq_true rfl) (Nat.le_of_ble_eq_true rfl) rfl ?_
  refine c29_1 (B := B) g0 (a1 % 365) (by omega) (hJ.up (by omega)) (by omega) (by omega) (fun v503 hv503 hFv503 hqv503_0 => ?_)
  show X (EE s) d 28 9 [(0, zr g0 11), (1, zi a1)] [zi v503] m _
  refine X.istore_n 10 [(0, zr g0 11), (1, zi a1), (2, zi v503)] i28_9 rfl rfl rfl ?_
  refine X.iload_n 11 i28_10 rfl rfl rfl ?_
  refine X.iconst 12 i28_11 rfl rfl (by decide) ?_
  refine X.icmpeq 22 15 i28_12 rfl rfl rfl (fun h504 => ?_) (fun h504 => ?_)
  · refine X.cut [(0, zr g0 11), (1, zi a1)] i28_22 rfl ?_
    refine X.aload_n 23 i28_22 rfl rfl rfl ?_
    refine X.getR 26 i28_23 rfl rfl (by decide) rfl rfl ?_
    refine X.aload_n 27 i28_26 rfl rfl rfl ?_
    refine X.iload_n 28 i28_27 rfl rfl rfl ?_
    refine X.sipush 31 i28_28 rfl rfl (by decide) ?_
    refine X.irem 32 i28_31 rfl rfl (by omega) ?_
    refine X.callv 35 [zi (a1 % 365)] [zr g0 16] [(0, zr g0 11), (1, zi (a1 % 365))] i28_32 rfl (by decide) rfl rfl (by omega) rfl rfl (by decide) rfl t30 (Nat.le_of_ble_eq_true rfl) (Nat.le_of_ble_eq_true rfl) rfl ?_
    refine c30_1 (B := B) g0 (a1 % 365) (by omega) (hJ.up (by omega)) (by omega) (by omega) (fun v507 hv507 hFv507 => ?_)
    show X (EE s) d 28 35 [(0, zr g0 11), (1, zi a1)] [zi v507, zr g0 16] m _
    refine X.bipush 37 i28_35 rfl rfl (by decide) ?_
    refine X.imul 38 i28_37 rfl rfl (by omega) ?_
    refine X.iload_n 39 i28_38 rfl rfl rfl ?_
    refine X.bipush 41 i28_39 rfl rfl (by decide) ?_
    refine X.irem 42 i28_41 rfl rfl (by omega) ?_
    refine X.iadd 43 i28_42 rfl rfl (by omega) ?_
    refine X.iald 44 i28_43 rfl rfl (by decide) rfl (by omega) ?_
    have h508 := r16_0 hJ g0 (i := ((v507 * 7) + (a1 % 7))) (by omega)
    refine X.reti i28_44 rfl t28 ?_
    exact hQ (m g0 16 ((v507 * 7) + (a1 % 7))) (by first | trivial | omega) (Eq.trans (zn_eq hFv503.symm) (Eq.trans (if_pos h504) (Eq.trans (zn_eq hFv507.symm) rfl))) 
  · refine X.aload_n 16 i28_15 rfl rfl rfl ?_
    refine X.getR 19 i28_16 rfl rfl (by decide) rfl rfl ?_
    refine X.iload_n 20 i28_19 rfl rfl rfl ?_
    refine X.iald 21 i28_20 rfl rfl (by decide) rfl (by omega) ?_
    have h509 := r18_0 hJ g0 (i := v503) (by omega)
    refine X.reti i28_21 rfl t28 ?_
    exact hQ (m g0 18 v503) (by first | trivial | omega) (Eq.trans (zn_eq hFv503.symm) (Eq.trans (if_neg h504) rfl)) 
def fl32_8_1_b (self : Int → Int) (k38 : Int → Int) (g0 : Nat) (y1 y2 y3 : Int) (m : zM) (y4 : Int) : Int :=
  if (m g0 12 y1) ≤ y4 then
  (k38 y4)
  else
  (if y2 ≤ (m g0 13 (y3 + y4)) then
  (k38 y4)
  else
  (self (y4 + 1)))
def fl32_8_1 (k38 : Int → Int) (g0 : Nat) (y1 y2 y3 : Int) (m : zM) : Nat → Int → Int
  | 0 => fun y4 => 0
  | n + 1 => fl32_8_1_b (fl32_8_1 k38 g0 y1 y2 y3 m n) k38 g0 y1 y2 y3 m
theorem l32_8_1 {s : Nat × (Nat → Int32)} {S : zS} {m0 : zM} {m : zM} {B : Int} {d : Nat} {Q : Option zV → zM → Prop} {R0 : Int} {k38 : Int → Int} (g0 : Nat) (y1 y2 y3 : Int) (hd : 13 ≤ d) (hJ : J S m0 B m) (hB9 : B ≤ 1000000000) (hy1 : 0 ≤ y1 ∧ y1 ≤ 7) (hy2 : (-2147483648) ≤ y2 ∧ y2 ≤ 2147483647) (hy3 : 0 ≤ y3 ∧ y3 ≤ 42)
    (K38 : ∀ (x4 : Int) , (0 ≤ x4 ∧ x4 ≤ 6) → (x4 ≤ m g0 12 y1) → (x4 ≤ m g0 12 y1) → (x4 < m g0 12 y1 → y2 ≤ m g0 13 (y3 + x4)) → R0 = k38 x4 → X (EE s) d 32 38 [(4, zi x4)] [] m Q) :
    ∀ (n : Nat) (y4 : Int) , (0 ≤ y4 ∧ y4 ≤ 6) → (y4 ≤ m g0 12 y1) → 6 - y4 < (n : Int) → R0 = fl32_8_1 k38 g0 y1 y2 y3 m n y4 → X (EE s) d 32 8 [(0, zr g0 11), (1, zi y1), (2, zi y2), (3, zi y3), (4, zi y4)] [] m Q := by
  intro n
  induction n with
  | zero =>
    intro y4 hy4 hr0 hn hR
    exfalso
    omega
  | succ n ih =>
    intro y4 hy4 hr0 hn hR
    replace hR : R0 = fl32_8_1_b (fl32_8_1 k38 g0 y1 y2 y3 m n) k38 g0 y1 y2 y3 m y4 := hR
    refine X.iload 10 i32_8 rfl rfl rfl ?_
    refine X.aload_n 11 i32_10 rfl rfl rfl ?_
    refine X.getR 14 i32_11 rfl rfl (by decide) rfl rfl ?_
    refine X.iload_n 15 i32_14 rfl rfl rfl ?_
    refine X.iald 16 i32_15 rfl rfl (by decide) rfl (by omega) ?_
    have h506 := r12_0 hJ g0 (i := y1) (by omega)
    refine X.icmpge 38 19 i32_16 rfl rfl rfl (fun h507 => ?_) (fun h507 => ?_)
    · refine X.cut [(4, zi y4)] i32_38 rfl ?_
      exact K38 y4 (by first | trivial | omega) (by omega) (by omega) (by omega) (Eq.trans hR (Eq.trans (if_pos h507) rfl))
    · refine X.aload_n 20 i32_19 rfl rfl rfl ?_
      refine X.getR 23 i32_20 rfl rfl (by decide) rfl rfl ?_
      refine X.iload_n 24 i32_23 rfl rfl rfl ?_
      refine X.iload 26 i32_24 rfl rfl rfl ?_
      refine X.iadd 27 i32_26 rfl rfl (by omega) ?_
      refine X.iald 28 i32_27 rfl rfl (by decide) rfl (by omega) ?_
      have h508 := r13_0 hJ g0 (i := (y3 + y4)) (by omega)
      refine X.iload_n 29 i32_28 rfl rfl rfl ?_
      refine X.icmpge 38 32 i32_29 rfl rfl rfl (fun h509 => ?_) (fun h509 => ?_)
      · refine X.cut [(4, zi y4)] i32_38 rfl ?_
        exact K38 y4 (by first | trivial | omega) (by omega) (by omega) (by omega) (Eq.trans hR (Eq.trans (if_neg h507) (Eq.trans (if_pos h509) rfl)))
      · refine X.iinc 35 [(0, zr g0 11), (1, zi y1), (2, zi y2), (3, zi y3), (4, zi (y4 + 1))] i32_32 rfl rfl rfl (by omega) rfl ?_
        refine X.goto 8 i32_35 rfl rfl ?_
        exact ih (y4 + 1) (by omega) (by omega) (by omega) (Eq.trans hR (Eq.trans (if_neg h507) (Eq.trans (if_neg h509) rfl)))
-- WorkMeter$Calendar.switchesBefore
def f32_1 (g0 : Nat) (a1 a2 : Int) (m : zM) : Int :=
  fl32_8_1 (fun y501 =>
  y501) g0 a1 a2 (a1 * 6) m 7 0
-- WorkMeter$Calendar.switchesBefore
theorem c32_1 {s : Nat × (Nat → Int32)} {S : zS} {m0 m : zM} {B : Int} {d : Nat} {Q : Option zV → zM → Prop} (g0 : Nat) (a1 a2 : Int) (hd : 13 ≤ d) (hJ : J S m0 B m) (hB : B + 0 ≤ 1000000000) (ha1 : 0 ≤ a1 ∧ a1 ≤ 7) (ha2 : (-2147483648) ≤ a2 ∧ a2 ≤ 2147483647) (hQ : ∀ (v : Int), (0 ≤ v ∧ v ≤ 6) → f32_1 g0 a1 a2 m = v → (v ≤ m g0 12 a1) → (v < m g0 12 a1 → a2 ≤ m g0 13 (a1 * 6 + v)) → Q (some (zi v)) m) : X (EE s) d 32 0 [(0, zr g0 11), (1, zi a1), (2, zi a2)] [] m Q := by
  have f0 := r12_0 hJ g0 (i := a1) (by omega)
  refine X.iload_n 1 i32_0 rfl rfl rfl ?_
  refine X.bipush 3 i32_1 rfl rfl (by decide) ?_
  refine X.imul 4 i32_3 rfl rfl (by omega) ?_
  refine X.istore_n 5 [(0, zr g0 11), (1, zi a1), (2, zi a2), (3, zi (a1 * 6))] i32_4 rfl rfl rfl ?_
  refine X.iconst 6 i32_5 rfl rfl (by decide) ?_
  refine X.istore 8 [(0, zr g0 11), (1, zi a1), (2, zi a2), (3, zi (a1 * 6)), (4, zi 0)] i32_6 rfl rfl rfl ?_
  refine l32_8_1 (s := s) (m := m) (B := B) (d := d) (R0 := (f32_1 g0 a1 a2 m)) g0 a1 a2 (a1 * 6)  (by omega) (hJ.up (by omega)) (by omega) (by omega) (by omega) (by omega) (fun y501 hby501 hrlm502_0 hrlm502_1 hrlm502_2 hR505 => ?_) 7 0 (by omega) (by omega) (by omega) rfl
  refine X.iload 40 i32_38 rfl rfl rfl ?_
  refine X.reti i32_40 rfl t32 ?_
  exact hQ y501 (by first | trivial | omega) (Eq.trans hR505 rfl) (by omega) (by omega)
-- WorkMeter$Calendar.tariffIn
def f31_1 (g0 : Nat) (a1 a2 : Int) (m : zM) : Int :=
  zn (f32_1 g0 a1 (a2 + 1) m) fun v503 =>
  zn (if v503 = 0 then
  (0)
  else
  ((m g0 14 (((a1 * 6) + v503) - 1)))) fun v506 =>
  v506
-- WorkMeter$Calendar.tariffIn
theorem c31_1 {s : Nat × (Nat → Int32)} {S : zS} {m0 m : zM} {B : Int} {d : Nat} {Q : Option zV → zM → Prop} (g0 : Nat) (a1 a2 : Int) (hd : 14 ≤ d) (hJ : J S m0 B m) (hB : B + 0 ≤ 1000000000) (ha1 : 0 ≤ a1 ∧ a1 ≤ 7) (ha2 : 0 ≤ a2 ∧ a2 ≤ 86399) (hQ : ∀ (v : Int), (0 ≤ v ∧ v ≤ 3) → f31_1 g0 a1 a2 m = v → Q (some (zi v)) m) : X (EE s) d 31 0 [(0, zr g0 11), (1, zi a1), (2, zi a2)] [] m Q := by
  refine X.aload_n 1 i31_0 rfl rfl rfl ?_
  refine X.iload_n 2 i31_1 rfl rfl rfl ?_
  refine X.iload_n 3 i31_2 rfl rfl rfl ?_
  refine X.iconst 4 i31_3 rfl rfl (by decide) ?_
  refine X.iadd 5 i31_4 rfl rfl (by omega) ?_
  refine X.callv 8 [zi a1, zi (a2 + 1)] [] [(0, zr g0 11), (1, zi a1), (2, zi (a2 + 1))] i31_5 rfl (by decide) rfl rfl (by omega) rfl rfl (by decide) rfl t32 (Nat.le_of_ble_eq_true rfl) (Nat.le_of_ble_eq_true rfl) rfl ?_
  refine c32_1 (B := B) g0 a1 (a2 + 1) (by omega) (hJ.up (by omega)) (by omega) (by omega) (by omega) (fun v503 hv503 hFv503 hqv503_0 hqv503_1 => ?_)
  show X (EE s) d 31 8 [(0, zr g0 11), (1, zi a1), (2, zi a2)] [zi v503] m _
  refine X.istore_n 9 [(0, zr g0 11), (1, zi a1), (2, zi a2), (3, zi v503)] i31_8 rfl rfl rfl ?_
  refine X.iload_n 10 i31_9 rfl rfl rfl ?_
  have hK509 : ∀ (v : Int) , (0 ≤ v ∧ v ≤ 3) → (if v503 = 0 then
      (0)
      else
      ((m g0 14 (((a1 * 6) + v503) - 1)))) = v → X (EE s) d 31 30 [] [zi v] m Q := by
    intro v506 hv506 hT510
    refine X.reti i31_30 rfl t31 ?_
    exact hQ v506 (by first | trivial | omega) (Eq.trans (zn_eq hFv503.symm) (Eq.trans (zn_eq hT510.symm) rfl)) 
  refine X.ifne 17 13 i31_10 rfl rfl rfl (fun h504 => ?_) (fun h504 => ?_)
  · refine X.cut [(0, zr g0 11), (1, zi a1), (3, zi v503)] i31_17 rfl ?_
    refine X.aload_n 18 i31_17 rfl rfl rfl ?_
    refine X.getR 21 i31_18 rfl rfl (by decide) rfl rfl ?_
    refine X.iload_n 22 i31_21 rfl rfl rfl ?_
    refine X.bipush 24 i31_22 rfl rfl (by decide) ?_
    refine X.imul 25 i31_24 rfl rfl (by omega) ?_
    refine X.iload_n 26 i31_25 rfl rfl rfl ?_
    refine X.iadd 27 i31_26 rfl rfl (by omega) ?_
    refine X.iconst 28 i31_27 rfl rfl (by decide) ?_
    refine X.isub 29 i31_28 rfl rfl (by omega) ?_
    refine X.iald 30 i31_29 rfl rfl (by decide) rfl (by omega) ?_
    have h505 := r14_0 hJ g0 (i := (((a1 * 6) + v503) - 1)) (by omega)
    refine X.cut [] i31_30 rfl ?_
    exact hK509 (m g0 14 (((a1 * 6) + v503) - 1)) (by first | trivial | omega) (Eq.trans (if_neg h504) rfl)
  · refine X.iconst 14 i31_13 rfl rfl (by decide) ?_
    refine X.goto 30 i31_14 rfl rfl ?_
    refine X.cut [] i31_30 rfl ?_
    exact hK509 0 (by first | trivial | omega) (Eq.trans (if_pos h504) rfl)
-- WorkMeter$Calendar.tariffOn
def f27_1 (g0 : Nat) (a1 : Int) (m : zM) : Int :=
  zn (f28_1 g0 (a1 / 86400) m) fun v503 =>
  zn (f31_1 g0 v503 (a1 % 86400) m) fun v506 =>
  v506
-- WorkMeter$Calendar.tariffOn
theorem c27_1 {s : Nat × (Nat → Int32)} {S : zS} {m0 m : zM} {B : Int} {d : Nat} {Q : Option zV → zM → Prop} (g0 : Nat) (a1 : Int) (hd : 15 ≤ d) (hJ : J S m0 B m) (hB : B + 0 ≤ 1000000000) (ha1 : 0 ≤ a1 ∧ a1 ≤ 2000185600) (hQ : ∀ (v : Int), (0 ≤ v ∧ v ≤ 3) → f27_1 g0 a1 m = v → Q (some (zi v)) m) : X (EE s) d 27 0 [(0, zr g0 11), (1, zi a1)] [] m Q := by
  refine X.aload_n 1 i27_0 rfl rfl rfl ?_
  refine X.aload_n 2 i27_1 rfl rfl rfl ?_
  refine X.iload_n 3 i27_2 rfl rfl rfl ?_
  refine X.ldc 5 i27_3 rfl rfl (by decide) ?_
  refine X.idiv 6 i27_5 rfl rfl (by omega) ?_
  refine X.callv 9 [zi (a1 / 86400)] [zr g0 11] [(0, zr g0 11), (1, zi (a1 / 86400))] i27_6 rfl (by decide) rfl rfl (by omega) rfl rfl (by decide) rfl t28 (Nat.le_of_ble_eq_true rfl) (Nat.le_of_ble_eq_true rfl) rfl ?_
  refine c28_1 (B := B) g0 (a1 / 86400) (by omega) (hJ.up (by omega)) (by omega) (by omega) (fun v503 hv503 hFv503 => ?_)
  show X (EE s) d 27 9 [(0, zr g0 11), (1, zi a1)] [zi v503, zr g0 11] m _
  refine X.iload_n 10 i27_9 rfl rfl rfl ?_
  refine X.ldc 12 i27_10 rfl rfl (by decide) ?_
  refine X.irem 13 i27_12 rfl rfl (by omega) ?_
  refine X.callv 16 [zi v503, zi (a1 % 86400)] [] [(0, zr g0 11), (1, zi v503), (2, zi (a1 % 86400))] i27_13 rfl (by decide) rfl rfl (by omega) rfl rfl (by decide) rfl t31 (Nat.le_of_ble_eq_true rfl) (Nat.le_of_ble_eq_true rfl) rfl ?_
  refine c31_1 (B := B) g0 v503 (a1 % 86400) (by omega) (hJ.up (by omega)) (by omega) (by omega) (by omega) (fun v506 hv506 hFv506 => ?_)
  show X (EE s) d 27 16 [(0, zr g0 11), (1, zi a1)] [zi v506] m _
  refine X.reti i27_16 rfl t27 ?_
  exact hQ v506 (by first | trivial | omega) (Eq.trans (zn_eq hFv503.symm) (Eq.trans (zn_eq hFv506.symm) rfl)) 
def fl34_16_1_b (self : Int → Int → Int → Int → Int → Int → Int) (k177 : Int → Int → Int → Int → Int → Int) (g0 : Nat) (y1 : Int) (m : zM) (y2 y3 y4 y5 y6 y7 : Int) : Int :=
  if (m g0 19 3) ≤ y7 then
  (k177 y2 y3 y4 y5 y6)
  else
  (zn (((m g0 19 4) * y1)) fun z607 =>
  zn (if (m g0 22 (8 + y7)) < z607 then
  (1)
  else
  (0)) fun v610 =>
  zn (if y2 = 0 then
  (if v610 = 0 then
  (0)
  else
  (1))
  else
  (1)) fun v617 =>
  zn (if y3 = 0 then
  (if v610 = 0 then
  (1)
  else
  (0))
  else
  (1)) fun v624 =>
  zn (if y4 = 0 then
  (if (m g0 22 (0 + y7)) ≤ 0 then
  (0)
  else
  (1))
  else
  (1)) fun v632 =>
  zn (if y5 = 0 then
  (if (m g0 22 (0 + y7)) < 0 then
  (1)
  else
  (0))
  else
  (1)) fun v640 =>
  zn (if y6 = 0 then
  (if (m g0 22 (8 + y7)) = 0 then
  (if (m g0 22 (12 + y7)) ≤ 0 then
  (0)
  else
  (1))
  else
  (0))
  else
  (1)) fun v650 =>
  self v617 v624 v632 v640 v650 (y7 + 1))
def fl34_16_1 (k177 : Int → Int → Int → Int → Int → Int) (g0 : Nat) (y1 : Int) (m : zM) : Nat → Int → Int → Int → Int → Int → Int → Int
  | 0 => fun y2 y3 y4 y5 y6 y7 => 0
  | n + 1 => fl34_16_1_b (fl34_16_1 k177 g0 y1 m n) k177 g0 y1 m
theorem l34_16_1 {s : Nat × (Nat → Int32)} {S : zS} {m0 : zM} {m : zM} {B : Int} {d : Nat} {Q : Option zV → zM → Prop} {R0 : Int} {k177 : Int → Int → Int → Int → Int → Int} (g0 : Nat) (y1 : Int) (hd : 13 ≤ d) (hJ : J S m0 B m) (hB9 : B ≤ 1000000000) (hy1 : 0 ≤ y1 ∧ y1 ≤ 1000000)
    (K177 : ∀ (x2 x3 x4 x5 x6 : Int) , (0 ≤ x2 ∧ x2 ≤ 1) → (0 ≤ x3 ∧ x3 ≤ 1) → (0 ≤ x4 ∧ x4 ≤ 1) → (0 ≤ x5 ∧ x5 ≤ 1) → (0 ≤ x6 ∧ x6 ≤ 1) → R0 = k177 x2 x3 x4 x5 x6 → X (EE s) d 34 177 [(2, zi x2), (3, zi x3), (4, zi x4), (5, zi x5), (6, zi x6)] [] m Q) :
    ∀ (n : Nat) (y2 y3 y4 y5 y6 y7 : Int) , (0 ≤ y2 ∧ y2 ≤ 1) → (0 ≤ y3 ∧ y3 ≤ 1) → (0 ≤ y4 ∧ y4 ≤ 1) → (0 ≤ y5 ∧ y5 ≤ 1) → (0 ≤ y6 ∧ y6 ≤ 1) → (0 ≤ y7 ∧ y7 ≤ 3) → 3 - y7 < (n : Int) → R0 = fl34_16_1 k177 g0 y1 m n y2 y3 y4 y5 y6 y7 → X (EE s) d 34 16 [(0, zr g0 19), (1, zi y1), (2, zi y2), (3, zi y3), (4, zi y4), (5, zi y5), (6, zi y6), (7, zi y7)] [] m Q := by
  intro n
  induction n with
  | zero =>
    intro y2 y3 y4 y5 y6 y7 hy2 hy3 hy4 hy5 hy6 hy7 hn hR
    exfalso
    omega
  | succ n ih =>
    intro y2 y3 y4 y5 y6 y7 hy2 hy3 hy4 hy5 hy6 hy7 hn hR
    replace hR : R0 = fl34_16_1_b (fl34_16_1 k177 g0 y1 m n) k177 g0 y1 m y2 y3 y4 y5 y6 y7 := hR
    refine X.iload 18 i34_16 rfl rfl rfl ?_
    refine X.aload_n 19 i34_18 rfl rfl rfl ?_
    refine X.getI 22 3 i34_19 rfl rfl (by decide) rfl rfl rfl ?_
    have h604 := r19_3 hJ g0
    refine X.icmpge 177 25 i34_22 rfl rfl rfl (fun h605 => ?_) (fun h605 => ?_)
    · refine X.cut [(2, zi y2), (3, zi y3), (4, zi y4), (5, zi y5), (6, zi y6)] i34_177 rfl ?_
      exact K177 y2 y3 y4 y5 y6 (by first | trivial | omega) (by first | trivial | omega) (by first | trivial | omega) (by first | trivial | omega) (by first | trivial | omega) (Eq.trans hR (Eq.trans (if_pos h605) rfl))
    · refine X.aload_n 26 i34_25 rfl rfl rfl ?_
      refine X.getR 29 i34_26 rfl rfl (by decide) rfl rfl ?_
      refine X.bipush 31 i34_29 rfl rfl (by decide) ?_
      refine X.iload 33 i34_31 rfl rfl rfl ?_
      refine X.iadd 34 i34_33 rfl rfl (by omega) ?_
      refine X.lald 35 i34_34 rfl rfl (by decide) rfl (by omega) ?_
      refine X.lstore 37 [(0, zr g0 19), (1, zi y1), (2, zi y2), (3, zi y3), (4, zi y4), (5, zi y5), (6, zi y6), (7, zi y7), (8, zl (m g0 22 (8 + y7)))] i34_35 rfl rfl rfl ?_
      refine X.aload_n 38 i34_37 rfl rfl rfl ?_
      refine X.getR 41 i34_38 rfl rfl (by decide) rfl rfl ?_
      refine X.iconst 42 i34_41 rfl rfl (by decide) ?_
      refine X.iload 44 i34_42 rfl rfl rfl ?_
      refine X.iadd 45 i34_44 rfl rfl (by omega) ?_
      refine X.lald 46 i34_45 rfl rfl (by decide) rfl (by omega) ?_
      refine X.lstore 48 [(0, zr g0 19), (1, zi y1), (2, zi y2), (3, zi y3), (4, zi y4), (5, zi y5), (6, zi y6), (7, zi y7), (8, zl (m g0 22 (8 + y7))), (10, zl (m g0 22 (0 + y7)))] i34_46 rfl rfl rfl ?_
      refine X.lload 50 i34_48 rfl rfl rfl ?_
      refine X.aload_n 51 i34_50 rfl rfl rfl ?_
      refine X.getI 54 4 i34_51 rfl rfl (by decide) rfl rfl rfl ?_
      have h606 := r19_4 hJ g0
      refine X.i2l 55 i34_54 rfl rfl ?_
      refine X.iload_n 56 i34_55 rfl rfl rfl ?_
      refine X.i2l 57 i34_56 rfl rfl ?_
      have hz607 := z_mulr (a := 4) (b := 16) (c := 0) (e := 1000000) (x := (m g0 19 4)) (y := y1) (by omega) (by omega)
      refine X.lmul 58 i34_57 rfl rfl (z_in3 hz607 (by decide) (by decide)) ?_
      obtain ⟨z607, ez607⟩ : ∃ z, z = ((m g0 19 4) * y1) := ⟨_, rfl⟩
      rw [← ez607] at hz607 ⊢
      have gz607 : 0 ≤ z607 ∧ z607 ≤ 16000000 := z_in3 hz607 (by decide) (by decide)
      clear hz607
      refine X.lcmp 59 i34_58 rfl rfl (fun z608 hz608 => ?_)
      have hK613 : ∀ (v : Int) , (0 ≤ v ∧ v ≤ 1) → (if (m g0 22 (8 + y7)) < z607 then
          (1)
          else
          (0)) = v → X (EE s) d 34 67 [(0, zr g0 19), (1, zi y1), (2, zi y2), (3, zi y3), (4, zi y4), (5, zi y5), (6, zi y6), (7, zi y7), (8, zl (m g0 22 (8 + y7))), (10, zl (m g0 22 (0 + y7)))] [zi v] m Q := by
        intro v610 hv610 hT614
        refine X.istore 69 [(0, zr g0 19), (1, zi y1), (2, zi y2), (3, zi y3), (4, zi y4), (5, zi y5), (6, zi y6), (7, zi y7), (8, zl (m g0 22 (8 + y7))), (10, zl (m g0 22 (0 + y7))), (12, zi v610)] i34_67 rfl rfl rfl ?_
        refine X.iload_n 70 i34_69 rfl rfl rfl ?_
        have hK620 : ∀ (v : Int) , (0 ≤ v ∧ v ≤ 1) → (if y2 = 0 then
            (if v610 = 0 then
            (0)
            else
            (1))
            else
            (1)) = v → X (EE s) d 34 83 [(0, zr g0 19), (1, zi y1), (3, zi y3), (4, zi y4), (5, zi y5), (6, zi y6), (7, zi y7), (8, zl (m g0 22 (8 + y7))), (10, zl (m g0 22 (0 + y7))), (12, zi v610)] [zi v] m Q := by
          intro v617 hv617 hT621
          refine X.istore_n 84 [(0, zr g0 19), (1, zi y1), (2, zi v617), (3, zi y3), (4, zi y4), (5, zi y5), (6, zi y6), (7, zi y7), (8, zl (m g0 22 (8 + y7))), (10, zl (m g0 22 (0 + y7))), (12, zi v610)] i34_83 rfl rfl rfl ?_
          refine X.iload_n 85 i34_84 rfl rfl rfl ?_
          have hK627 : ∀ (v : Int) , (0 ≤ v ∧ v ≤ 1) → (if y3 = 0 then
              (if v610 = 0 then
              (1)
              else
              (0))
              else
              (1)) = v → X (EE s) d 34 98 [(0, zr g0 19), (1, zi y1), (2, zi v617), (4, zi y4), (5, zi y5), (6, zi y6), (7, zi y7), (8, zl (m g0 22 (8 + y7))), (10, zl (m g0 22 (0 + y7)))] [zi v] m Q := by
            intro v624 hv624 hT628
            refine X.istore_n 99 [(0, zr g0 19), (1, zi y1), (2, zi v617), (3, zi v624), (4, zi y4), (5, zi y5), (6, zi y6), (7, zi y7), (8, zl (m g0 22 (8 + y7))), (10, zl (m g0 22 (0 + y7)))] i34_98 rfl rfl rfl ?_
            refine X.iload 101 i34_99 rfl rfl rfl ?_
            have hK635 : ∀ (v : Int) , (0 ≤ v ∧ v ≤ 1) → (if y4 = 0 then
                (if (m g0 22 (0 + y7)) ≤ 0 then
                (0)
                else
                (1))
                else
                (1)) = v → X (EE s) d 34 116 [(0, zr g0 19), (1, zi y1), (2, zi v617), (3, zi v624), (5, zi y5), (6, zi y6), (7, zi y7), (8, zl (m g0 22 (8 + y7))), (10, zl (m g0 22 (0 + y7)))] [zi v] m Q := by
              intro v632 hv632 hT636
              refine X.istore 118 [(0, zr g0 19), (1, zi y1), (2, zi v617), (3, zi v624), (4, zi v632), (5, zi y5), (6, zi y6), (7, zi y7), (8, zl (m g0 22 (8 + y7))), (10, zl (m g0 22 (0 + y7)))] i34_116 rfl rfl rfl ?_
              refine X.iload 120 i34_118 rfl rfl rfl ?_
              have hK643 : ∀ (v : Int) , (0 ≤ v ∧ v ≤ 1) → (if y5 = 0 then
                  (if (m g0 22 (0 + y7)) < 0 then
                  (1)
                  else
                  (0))
                  else
                  (1)) = v → X (EE s) d 34 135 [(0, zr g0 19), (1, zi y1), (2, zi v617), (3, zi v624), (4, zi v632), (6, zi y6), (7, zi y7), (8, zl (m g0 22 (8 + y7)))] [zi v] m Q := by
                intro v640 hv640 hT644
                refine X.istore 137 [(0, zr g0 19), (1, zi y1), (2, zi v617), (3, zi v624), (4, zi v632), (5, zi v640), (6, zi y6), (7, zi y7), (8, zl (m g0 22 (8 + y7)))] i34_135 rfl rfl rfl ?_
                refine X.iload 139 i34_137 rfl rfl rfl ?_
                have hK653 : ∀ (v : Int) , (0 ≤ v ∧ v ≤ 1) → (if y6 = 0 then
                    (if (m g0 22 (8 + y7)) = 0 then
                    (if (m g0 22 (12 + y7)) ≤ 0 then
                    (0)
                    else
                    (1))
                    else
                    (0))
                    else
                    (1)) = v → X (EE s) d 34 169 [(0, zr g0 19), (1, zi y1), (2, zi v617), (3, zi v624), (4, zi v632), (5, zi v640), (7, zi y7)] [zi v] m Q := by
                  intro v650 hv650 hT654
                  refine X.istore 171 [(0, zr g0 19), (1, zi y1), (2, zi v617), (3, zi v624), (4, zi v632), (5, zi v640), (6, zi v650), (7, zi y7)] i34_169 rfl rfl rfl ?_
                  refine X.iinc 174 [(0, zr g0 19), (1, zi y1), (2, zi v617), (3, zi v624), (4, zi v632), (5, zi v640), (6, zi v650), (7, zi (y7 + 1))] i34_171 rfl rfl rfl (by omega) rfl ?_
                  refine X.goto 16 i34_174 rfl rfl ?_
                  exact ih v617 v624 v632 v640 v650 (y7 + 1) (by omega) (by omega) (by omega) (by omega) (by omega) (by omega) (by omega) (Eq.trans hR (Eq.trans (if_neg h605) (Eq.trans (zn_eq ez607) (Eq.trans (zn_eq hT614.symm) (Eq.trans (zn_eq hT621.symm) (Eq.trans (zn_eq hT628.symm) (Eq.trans (zn_eq hT636.symm) (Eq.trans (zn_eq hT644.symm) (Eq.trans (zn_eq hT654.symm) rfl)))))))))
                refine X.ifne 164 142 i34_139 rfl rfl rfl (fun h645 => ?_) (fun h645 => ?_)
                · refine X.cut [(0, zr g0 19), (1, zi y1), (2, zi v617), (3, zi v624), (4, zi v632), (5, zi v640), (7, zi y7)] i34_164 rfl ?_
                  refine X.iconst 165 i34_164 rfl rfl (by decide) ?_
                  refine X.goto 169 i34_165 rfl rfl ?_
                  exact hK653 1 (by first | trivial | omega) (Eq.trans (if_neg h645) rfl)
                · refine X.lload 144 i34_142 rfl rfl rfl ?_
                  refine X.lconst (y := 0) 145 i34_144 rfl rfl rfl ?_
                  refine X.lcmp 146 i34_145 rfl rfl (fun z646 hz646 => ?_)
                  refine X.ifne 168 149 i34_146 rfl rfl rfl (fun h647 => ?_) (fun h647 => ?_)
                  · have h647c : ¬ (m g0 22 (8 + y7)) = 0 := by omega
                    clear h647 hz646
                    refine X.cut [(0, zr g0 19), (1, zi y1), (2, zi v617), (3, zi v624), (4, zi v632), (5, zi v640), (7, zi y7)] i34_168 rfl ?_
                    refine X.iconst 169 i34_168 rfl rfl (by decide) ?_
                    exact hK653 0 (by first | trivial | omega) (Eq.trans (if_pos h645) (Eq.trans (if_neg h647c) rfl))
                  · have h647c : (m g0 22 (8 + y7)) = 0 := by omega
                    clear h647 hz646
                    refine X.aload_n 150 i34_149 rfl rfl rfl ?_
                    refine X.getR 153 i34_150 rfl rfl (by decide) rfl rfl ?_
                    refine X.bipush 155 i34_153 rfl rfl (by decide) ?_
                    refine X.iload 157 i34_155 rfl rfl rfl ?_
                    refine X.iadd 158 i34_157 rfl rfl (by omega) ?_
                    refine X.lald 159 i34_158 rfl rfl (by decide) rfl (by omega) ?_
                    refine X.lconst (y := 0) 160 i34_159 rfl rfl rfl ?_
                    refine X.lcmp 161 i34_160 rfl rfl (fun z648 hz648 => ?_)
                    refine X.ifle 168 164 i34_161 rfl rfl rfl (fun h649 => ?_) (fun h649 => ?_)
                    · have h649c : (m g0 22 (12 + y7)) ≤ 0 := by omega
                      clear h649 hz648
                      refine X.cut [(0, zr g0 19), (1, zi y1), (2, zi v617), (3, zi v624), (4, zi v632), (5, zi v640), (7, zi y7)] i34_168 rfl ?_
                      refine X.iconst 169 i34_168 rfl rfl (by decide) ?_
                      exact hK653 0 (by first | trivial | omega) (Eq.trans (if_pos h645) (Eq.trans (if_pos h647c) (Eq.trans (if_pos h649c) rfl)))
                    · have h649c : ¬ (m g0 22 (12 + y7)) ≤ 0 := by omega
                      clear h649 hz648
                      refine X.cut [(0, zr g0 19), (1, zi y1), (2, zi v617), (3, zi v624), (4, zi v632), (5, zi v640), (7, zi y7)] i34_164 rfl ?_
                      refine X.iconst 165 i34_164 rfl rfl (by decide) ?_
                      refine X.goto 169 i34_165 rfl rfl ?_
                      exact hK653 1 (by first | trivial | omega) (Eq.trans (if_pos h645) (Eq.trans (if_pos h647c) (Eq.trans (if_neg h649c) rfl)))
              refine X.ifne 130 123 i34_120 rfl rfl rfl (fun h637 => ?_) (fun h637 => ?_)
              · refine X.cut [(0, zr g0 19), (1, zi y1), (2, zi v617), (3, zi v624), (4, zi v632), (6, zi y6), (7, zi y7), (8, zl (m g0 22 (8 + y7)))] i34_130 rfl ?_
                refine X.iconst 131 i34_130 rfl rfl (by decide) ?_
                refine X.goto 135 i34_131 rfl rfl ?_
                exact hK643 1 (by first | trivial | omega) (Eq.trans (if_neg h637) rfl)
              · refine X.lload 125 i34_123 rfl rfl rfl ?_
                refine X.lconst (y := 0) 126 i34_125 rfl rfl rfl ?_
                refine X.lcmp 127 i34_126 rfl rfl (fun z638 hz638 => ?_)
                refine X.ifge 134 130 i34_127 rfl rfl rfl (fun h639 => ?_) (fun h639 => ?_)
                · have h639c : ¬ (m g0 22 (0 + y7)) < 0 := by omega
                  clear h639 hz638
                  refine X.cut [(0, zr g0 19), (1, zi y1), (2, zi v617), (3, zi v624), (4, zi v632), (6, zi y6), (7, zi y7), (8, zl (m g0 22 (8 + y7)))] i34_134 rfl ?_
                  refine X.iconst 135 i34_134 rfl rfl (by decide) ?_
                  exact hK643 0 (by first | trivial | omega) (Eq.trans (if_pos h637) (Eq.trans (if_neg h639c) rfl))
                · have h639c : (m g0 22 (0 + y7)) < 0 := by omega
                  clear h639 hz638
                  refine X.cut [(0, zr g0 19), (1, zi y1), (2, zi v617), (3, zi v624), (4, zi v632), (6, zi y6), (7, zi y7), (8, zl (m g0 22 (8 + y7)))] i34_130 rfl ?_
                  refine X.iconst 131 i34_130 rfl rfl (by decide) ?_
                  refine X.goto 135 i34_131 rfl rfl ?_
                  exact hK643 1 (by first | trivial | omega) (Eq.trans (if_pos h637) (Eq.trans (if_pos h639c) rfl))
            refine X.ifne 111 104 i34_101 rfl rfl rfl (fun h629 => ?_) (fun h629 => ?_)
            · refine X.cut [(0, zr g0 19), (1, zi y1), (2, zi v617), (3, zi v624), (5, zi y5), (6, zi y6), (7, zi y7), (8, zl (m g0 22 (8 + y7))), (10, zl (m g0 22 (0 + y7)))] i34_111 rfl ?_
              refine X.iconst 112 i34_111 rfl rfl (by decide) ?_
              refine X.goto 116 i34_112 rfl rfl ?_
              exact hK635 1 (by first | trivial | omega) (Eq.trans (if_neg h629) rfl)
            · refine X.lload 106 i34_104 rfl rfl rfl ?_
              refine X.lconst (y := 0) 107 i34_106 rfl rfl rfl ?_
              refine X.lcmp 108 i34_107 rfl rfl (fun z630 hz630 => ?_)
              refine X.ifle 115 111 i34_108 rfl rfl rfl (fun h631 => ?_) (fun h631 => ?_)
              · have h631c : (m g0 22 (0 + y7)) ≤ 0 := by omega
                clear h631 hz630
                refine X.cut [(0, zr g0 19), (1, zi y1), (2, zi v617), (3, zi v624), (5, zi y5), (6, zi y6), (7, zi y7), (8, zl (m g0 22 (8 + y7))), (10, zl (m g0 22 (0 + y7)))] i34_115 rfl ?_
                refine X.iconst 116 i34_115 rfl rfl (by decide) ?_
                exact hK635 0 (by first | trivial | omega) (Eq.trans (if_pos h629) (Eq.trans (if_pos h631c) rfl))
              · have h631c : ¬ (m g0 22 (0 + y7)) ≤ 0 := by omega
                clear h631 hz630
                refine X.cut [(0, zr g0 19), (1, zi y1), (2, zi v617), (3, zi v624), (5, zi y5), (6, zi y6), (7, zi y7), (8, zl (m g0 22 (8 + y7))), (10, zl (m g0 22 (0 + y7)))] i34_111 rfl ?_
                refine X.iconst 112 i34_111 rfl rfl (by decide) ?_
                refine X.goto 116 i34_112 rfl rfl ?_
                exact hK635 1 (by first | trivial | omega) (Eq.trans (if_pos h629) (Eq.trans (if_neg h631c) rfl))
          refine X.ifne 93 88 i34_85 rfl rfl rfl (fun h622 => ?_) (fun h622 => ?_)
          · refine X.cut [(0, zr g0 19), (1, zi y1), (2, zi v617), (4, zi y4), (5, zi y5), (6, zi y6), (7, zi y7), (8, zl (m g0 22 (8 + y7))), (10, zl (m g0 22 (0 + y7)))] i34_93 rfl ?_
            refine X.iconst 94 i34_93 rfl rfl (by decide) ?_
            refine X.goto 98 i34_94 rfl rfl ?_
            exact hK627 1 (by first | trivial | omega) (Eq.trans (if_neg h622) rfl)
          · refine X.iload 90 i34_88 rfl rfl rfl ?_
            refine X.ifne 97 93 i34_90 rfl rfl rfl (fun h623 => ?_) (fun h623 => ?_)
            · refine X.cut [(0, zr g0 19), (1, zi y1), (2, zi v617), (4, zi y4), (5, zi y5), (6, zi y6), (7, zi y7), (8, zl (m g0 22 (8 + y7))), (10, zl (m g0 22 (0 + y7)))] i34_97 rfl ?_
              refine X.iconst 98 i34_97 rfl rfl (by decide) ?_
              exact hK627 0 (by first | trivial | omega) (Eq.trans (if_pos h622) (Eq.trans (if_neg h623) rfl))
            · refine X.cut [(0, zr g0 19), (1, zi y1), (2, zi v617), (4, zi y4), (5, zi y5), (6, zi y6), (7, zi y7), (8, zl (m g0 22 (8 + y7))), (10, zl (m g0 22 (0 + y7)))] i34_93 rfl ?_
              refine X.iconst 94 i34_93 rfl rfl (by decide) ?_
              refine X.goto 98 i34_94 rfl rfl ?_
              exact hK627 1 (by first | trivial | omega) (Eq.trans (if_pos h622) (Eq.trans (if_pos h623) rfl))
        refine X.ifne 78 73 i34_70 rfl rfl rfl (fun h615 => ?_) (fun h615 => ?_)
        · refine X.cut [(0, zr g0 19), (1, zi y1), (3, zi y3), (4, zi y4), (5, zi y5), (6, zi y6), (7, zi y7), (8, zl (m g0 22 (8 + y7))), (10, zl (m g0 22 (0 + y7))), (12, zi v610)] i34_78 rfl ?_
          refine X.iconst 79 i34_78 rfl rfl (by decide) ?_
          refine X.goto 83 i34_79 rfl rfl ?_
          exact hK620 1 (by first | trivial | omega) (Eq.trans (if_neg h615) rfl)
        · refine X.iload 75 i34_73 rfl rfl rfl ?_
          refine X.ifeq 82 78 i34_75 rfl rfl rfl (fun h616 => ?_) (fun h616 => ?_)
          · refine X.cut [(0, zr g0 19), (1, zi y1), (3, zi y3), (4, zi y4), (5, zi y5), (6, zi y6), (7, zi y7), (8, zl (m g0 22 (8 + y7))), (10, zl (m g0 22 (0 + y7))), (12, zi v610)] i34_82 rfl ?_
            refine X.iconst 83 i34_82 rfl rfl (by decide) ?_
            exact hK620 0 (by first | trivial | omega) (Eq.trans (if_pos h615) (Eq.trans (if_pos h616) rfl))
          · refine X.cut [(0, zr g0 19), (1, zi y1), (3, zi y3), (4, zi y4), (5, zi y5), (6, zi y6), (7, zi y7), (8, zl (m g0 22 (8 + y7))), (10, zl (m g0 22 (0 + y7))), (12, zi v610)] i34_78 rfl ?_
            refine X.iconst 79 i34_78 rfl rfl (by decide) ?_
            refine X.goto 83 i34_79 rfl rfl ?_
            exact hK620 1 (by first | trivial | omega) (Eq.trans (if_pos h615) (Eq.trans (if_neg h616) rfl))
      refine X.ifge 66 62 i34_59 rfl rfl rfl (fun h609 => ?_) (fun h609 => ?_)
      · have h609c : ¬ (m g0 22 (8 + y7)) < z607 := by omega
        clear h609 hz608
        refine X.iconst 67 i34_66 rfl rfl (by decide) ?_
        exact hK613 0 (by first | trivial | omega) (Eq.trans (if_neg h609c) rfl)
      · have h609c : (m g0 22 (8 + y7)) < z607 := by omega
        clear h609 hz608
        refine X.iconst 63 i34_62 rfl rfl (by decide) ?_
        refine X.goto 67 i34_63 rfl rfl ?_
        exact hK613 1 (by first | trivial | omega) (Eq.trans (if_pos h609c) rfl)
-- WorkMeter$Wave.marksSeen
def f34_1 (g0 : Nat) (a1 : Int) (m : zM) : Int :=
  fl34_16_1 (fun y501 y502 y503 y504 y505 =>
  zn (if y501 = 0 then
  (0)
  else
  (if y502 = 0 then
  (0)
  else
  (4))) fun v512 =>
  zn (if y503 = 0 then
  (0)
  else
  (if y504 = 0 then
  (0)
  else
  (8))) fun v519 =>
  zn (zor v512 v519) fun z524 =>
  zn (if y505 = 0 then
  (0)
  else
  (16)) fun v526 =>
  zn (zor z524 v526) fun z531 =>
  z531) g0 a1 m 4 0 0 0 0 0 0
-- WorkMeter$Wave.marksSeen
theorem c34_1 {s : Nat × (Nat → Int32)} {S : zS} {m0 m : zM} {B : Int} {d : Nat} {Q : Option zV → zM → Prop} (g0 : Nat) (a1 : Int) (hd : 13 ≤ d) (hJ : J S m0 B m) (hB : B + 0 ≤ 1000000000) (ha1 : 0 ≤ a1 ∧ a1 ≤ 1000000) (hQ : ∀ (v : Int), ((-2147483648) ≤ v ∧ v ≤ 2147483647) → f34_1 g0 a1 m = v → Q (some (zi v)) m) : X (EE s) d 34 0 [(0, zr g0 19), (1, zi a1)] [] m Q := by
  refine X.iconst 1 i34_0 rfl rfl (by decide) ?_
  refine X.istore_n 2 [(0, zr g0 19), (1, zi a1), (2, zi 0)] i34_1 rfl rfl rfl ?_
  refine X.iconst 3 i34_2 rfl rfl (by decide) ?_
  refine X.istore_n 4 [(0, zr g0 19), (1, zi a1), (2, zi 0), (3, zi 0)] i34_3 rfl rfl rfl ?_
  refine X.iconst 5 i34_4 rfl rfl (by decide) ?_
  refine X.istore 7 [(0, zr g0 19), (1, zi a1), (2, zi 0), (3, zi 0), (4, zi 0)] i34_5 rfl rfl rfl ?_
  refine X.iconst 8 i34_7 rfl rfl (by decide) ?_
  refine X.istore 10 [(0, zr g0 19), (1, zi a1), (2, zi 0), (3, zi 0), (4, zi 0), (5, zi 0)] i34_8 rfl rfl rfl ?_
  refine X.iconst 11 i34_10 rfl rfl (by decide) ?_
  refine X.istore 13 [(0, zr g0 19), (1, zi a1), (2, zi 0), (3, zi 0), (4, zi 0), (5, zi 0), (6, zi 0)] i34_11 rfl rfl rfl ?_
  refine X.iconst 14 i34_13 rfl rfl (by decide) ?_
  refine X.istore 16 [(0, zr g0 19), (1, zi a1), (2, zi 0), (3, zi 0), (4, zi 0), (5, zi 0), (6, zi 0), (7, zi 0)] i34_14 rfl rfl rfl ?_
  refine l34_16_1 (s := s) (m := m) (B := B) (d := d) (R0 := (f34_1 g0 a1 m)) g0 a1  (by omega) (hJ.up (by omega)) (by omega) (by omega) (fun y501 y502 y503 y504 y505 hby501 hby502 hby503 hby504 hby505 hR509 => ?_) 4 0 0 0 0 0 0 (by omega) (by omega) (by omega) (by omega) (by omega) (by omega) (by omega) rfl
  refine X.iload_n 178 i34_177 rfl rfl rfl ?_
  have hK515 : ∀ (v : Int) , (0 ≤ v ∧ v ≤ 4) → (if y501 = 0 then
      (0)
      else
      (if y502 = 0 then
      (0)
      else
      (4))) = v → X (EE s) d 34 190 [(4, zi y503), (5, zi y504), (6, zi y505)] [zi v] m Q := by
    intro v512 hv512 hT516
    refine X.iload 192 i34_190 rfl rfl rfl ?_
    have hK522 : ∀ (v : Int) , (0 ≤ v ∧ v ≤ 8) → (if y503 = 0 then
        (0)
        else
        (if y504 = 0 then
        (0)
        else
        (8))) = v → X (EE s) d 34 206 [(6, zi y505)] [zi v, zi v512] m Q := by
      intro v519 hv519 hT523
      refine X.iiE 207 .ior (fun x y => x ||| y) i34_206 rfl rfl rfl (fun _ _ => rfl) (fun z524 ez524 hz524 => ?_)
      refine X.iload 209 i34_207 rfl rfl rfl ?_
      have hK529 : ∀ (v : Int) , (0 ≤ v ∧ v ≤ 16) → (if y505 = 0 then
          (0)
          else
          (16)) = v → X (EE s) d 34 218 [] [zi v, zi z524] m Q := by
        intro v526 hv526 hT530
        refine X.iiE 219 .ior (fun x y => x ||| y) i34_218 rfl rfl rfl (fun _ _ => rfl) (fun z531 ez531 hz531 => ?_)
        refine X.reti i34_219 rfl t34 ?_
        exact hQ z531 (by first | trivial | omega) (Eq.trans hR509 (Eq.trans (zn_eq hT516.symm) (Eq.trans (zn_eq hT523.symm) (Eq.trans (zn_eq ez524) (Eq.trans (zn_eq hT530.symm) (Eq.trans (zn_eq ez531) rfl)))))) 
      refine X.ifeq 217 212 i34_209 rfl rfl rfl (fun h525 => ?_) (fun h525 => ?_)
      · refine X.cut [] i34_217 rfl ?_
        refine X.iconst 218 i34_217 rfl rfl (by decide) ?_
        exact hK529 0 (by first | trivial | omega) (Eq.trans (if_pos h525) rfl)
      · refine X.bipush 214 i34_212 rfl rfl (by decide) ?_
        refine X.goto 218 i34_214 rfl rfl ?_
        refine X.cut [] i34_218 rfl ?_
        exact hK529 16 (by first | trivial | omega) (Eq.trans (if_neg h525) rfl)
    refine X.ifeq 205 195 i34_192 rfl rfl rfl (fun h517 => ?_) (fun h517 => ?_)
    · refine X.cut [(6, zi y505)] i34_205 rfl ?_
      refine X.iconst 206 i34_205 rfl rfl (by decide) ?_
      exact hK522 0 (by first | trivial | omega) (Eq.trans (if_pos h517) rfl)
    · refine X.iload 197 i34_195 rfl rfl rfl ?_
      refine X.ifeq 205 200 i34_197 rfl rfl rfl (fun h518 => ?_) (fun h518 => ?_)
      · refine X.cut [(6, zi y505)] i34_205 rfl ?_
        refine X.iconst 206 i34_205 rfl rfl (by decide) ?_
        exact hK522 0 (by first | trivial | omega) (Eq.trans (if_neg h517) (Eq.trans (if_pos h518) rfl))
      · refine X.bipush 202 i34_200 rfl rfl (by decide) ?_
        refine X.goto 206 i34_202 rfl rfl ?_
        refine X.cut [(6, zi y505)] i34_206 rfl ?_
        exact hK522 8 (by first | trivial | omega) (Eq.trans (if_neg h517) (Eq.trans (if_neg h518) rfl))
  refine X.ifeq 189 181 i34_178 rfl rfl rfl (fun h510 => ?_) (fun h510 => ?_)
  · refine X.cut [(4, zi y503), (5, zi y504), (6, zi y505)] i34_189 rfl ?_
    refine X.iconst 190 i34_189 rfl rfl (by decide) ?_
    exact hK515 0 (by first | trivial | omega) (Eq.trans (if_pos h510) rfl)
  · refine X.iload_n 182 i34_181 rfl rfl rfl ?_
    refine X.ifeq 189 185 i34_182 rfl rfl rfl (fun h511 => ?_) (fun h511 => ?_)
    · refine X.cut [(4, zi y503), (5, zi y504), (6, zi y505)] i34_189 rfl ?_
      refine X.iconst 190 i34_189 rfl rfl (by decide) ?_
      exact hK515 0 (by first | trivial | omega) (Eq.trans (if_neg h510) (Eq.trans (if_pos h511) rfl))
    · refine X.iconst 186 i34_185 rfl rfl (by decide) ?_
      refine X.goto 190 i34_186 rfl rfl ?_
      refine X.cut [(4, zi y503), (5, zi y504), (6, zi y505)] i34_190 rfl ?_
      exact hK515 4 (by first | trivial | omega) (Eq.trans (if_neg h510) (Eq.trans (if_neg h511) rfl))
-- WorkMeter$Calendar.heldUntil
def f37_1 (g0 : Nat) (a1 : Int) (m : zM) : Int :=
  zn (f28_1 g0 (a1 / 86400) m) fun v503 =>
  zn (f32_1 g0 v503 ((a1 % 86400) + 1) m) fun v506 =>
  zn (if (m g0 12 v503) ≤ v506 then
  (86400)
  else
  ((m g0 13 ((v503 * 6) + v506)))) fun v510 =>
  (((a1 / 86400) * 86400) + v510)
-- WorkMeter$Calendar.heldUntil
theorem c37_1 {s : Nat × (Nat → Int32)} {S : zS} {m0 m : zM} {B : Int} {d : Nat} {Q : Option zV → zM → Prop} (g0 : Nat) (a1 : Int) (hd : 15 ≤ d) (hJ : J S m0 B m) (hB : B + 0 ≤ 1000000000) (ha1 : 0 ≤ a1 ∧ a1 ≤ 2000185600) (hQ : ∀ (v : Int), (0 ≤ v ∧ v ≤ 2000246400) → f37_1 g0 a1 m = v → (a1 < v) → Q (some (zi v)) m) : X (EE s) d 37 0 [(0, zr g0 11), (1, zi a1)] [] m Q := by
  refine X.iload_n 1 i37_0 rfl rfl rfl ?_
  refine X.ldc 3 i37_1 rfl rfl (by decide) ?_
  refine X.idiv 4 i37_3 rfl rfl (by omega) ?_
  refine X.istore_n 5 [(0, zr g0 11), (1, zi a1), (2, zi (a1 / 86400))] i37_4 rfl rfl rfl ?_
  refine X.aload_n 6 i37_5 rfl rfl rfl ?_
  refine X.iload_n 7 i37_6 rfl rfl rfl ?_
  refine X.callv 10 [zi (a1 / 86400)] [] [(0, zr g0 11), (1, zi (a1 / 86400))] i37_7 rfl (by decide) rfl rfl (by omega) rfl rfl (by decide) rfl t28 (Nat.le_of_ble_eq_true rfl) (Nat.le_of_ble_eq_true rfl) rfl ?_
  refine c28_1 (B := B) g0 (a1 / 86400) (by omega) (hJ.up (by omega)) (by omega) (by omega) (fun v503 hv503 hFv503 => ?_)
  show X (EE s) d 37 10 [(0, zr g0 11), (1, zi a1), (2, zi (a1 / 86400))] [zi v503] m _
  refine X.istore_n 11 [(0, zr g0 11), (1, zi a1), (2, zi (a1 / 86400)), (3, zi v503)] i37_10 rfl rfl rfl ?_
  refine X.aload_n 12 i37_11 rfl rfl rfl ?_
  refine X.iload_n 13 i37_12 rfl rfl rfl ?_
  refine X.iload_n 14 i37_13 rfl rfl rfl ?_
  refine X.ldc 16 i37_14 rfl rfl (by decide) ?_
  refine X.irem 17 i37_16 rfl rfl (by omega) ?_
  refine X.iconst 18 i37_17 rfl rfl (by decide) ?_
  refine X.iadd 19 i37_18 rfl rfl (by omega) ?_
  refine X.callv 22 [zi v503, zi ((a1 % 86400) + 1)] [] [(0, zr g0 11), (1, zi v503), (2, zi ((a1 % 86400) + 1))] i37_19 rfl (by decide) rfl rfl (by omega) rfl rfl (by decide) rfl t32 (Nat.le_of_ble_eq_true rfl) (Nat.le_of_ble_eq_true rfl) rfl ?_
  refine c32_1 (B := B) g0 v503 ((a1 % 86400) + 1) (by omega) (hJ.up (by omega)) (by omega) (by omega) (by omega) (fun v506 hv506 hFv506 hqv506_0 hqv506_1 => ?_)
  show X (EE s) d 37 22 [(0, zr g0 11), (1, zi a1), (2, zi (a1 / 86400)), (3, zi v503)] [zi v506] m _
  refine X.istore 24 [(0, zr g0 11), (1, zi a1), (2, zi (a1 / 86400)), (3, zi v503), (4, zi v506)] i37_22 rfl rfl rfl ?_
  refine X.iload 26 i37_24 rfl rfl rfl ?_
  refine X.aload_n 27 i37_26 rfl rfl rfl ?_
  refine X.getR 30 i37_27 rfl rfl (by decide) rfl rfl ?_
  refine X.iload_n 31 i37_30 rfl rfl rfl ?_
  refine X.iald 32 i37_31 rfl rfl (by decide) rfl (by omega) ?_
  have h507 := r12_0 hJ g0 (i := v503) (by omega)
  have hK513 : ∀ (v : Int) , (0 ≤ v ∧ v ≤ 86400) → (if (m g0 12 v503) ≤ v506 then
      (86400)
      else
      ((m g0 13 ((v503 * 6) + v506)))) = v → X (EE s) d 37 52 [(2, zi (a1 / 86400))] [zi v] m Q := by
    intro v510 hv510 hT514
    refine X.istore 54 [(2, zi (a1 / 86400)), (5, zi v510)] i37_52 rfl rfl rfl ?_
    refine X.iload_n 55 i37_54 rfl rfl rfl ?_
    refine X.ldc 57 i37_55 rfl rfl (by decide) ?_
    refine X.imul 58 i37_57 rfl rfl (by omega) ?_
    refine X.iload 60 i37_58 rfl rfl rfl ?_
    refine X.iadd 61 i37_60 rfl rfl (by omega) ?_
    refine X.reti i37_61 rfl t37 ?_
    exact hQ (((a1 / 86400) * 86400) + v510) (by first | trivial | omega) (Eq.trans (zn_eq hFv503.symm) (Eq.trans (zn_eq hFv506.symm) (Eq.trans (zn_eq hT514.symm) rfl))) (by omega)
  refine X.icmpge 50 35 i37_32 rfl rfl rfl (fun h508 => ?_) (fun h508 => ?_)
  · refine X.cut [(2, zi (a1 / 86400))] i37_50 rfl ?_
    refine X.ldc 52 i37_50 rfl rfl (by decide) ?_
    exact hK513 86400 (by first | trivial | omega) (Eq.trans (if_pos h508) rfl)
  · refine X.aload_n 36 i37_35 rfl rfl rfl ?_
    refine X.getR 39 i37_36 rfl rfl (by decide) rfl rfl ?_
    refine X.iload_n 40 i37_39 rfl rfl rfl ?_
    refine X.bipush 42 i37_40 rfl rfl (by decide) ?_
    refine X.imul 43 i37_42 rfl rfl (by omega) ?_
    refine X.iload 45 i37_43 rfl rfl rfl ?_
    refine X.iadd 46 i37_45 rfl rfl (by omega) ?_
    refine X.iald 47 i37_46 rfl rfl (by decide) rfl (by omega) ?_
    have h509 := r13_0 hJ g0 (i := ((v503 * 6) + v506)) (by omega)
    refine X.goto 52 i37_47 rfl rfl ?_
    refine X.cut [(2, zi (a1 / 86400))] i37_52 rfl ?_
    exact hK513 (m g0 13 ((v503 * 6) + v506)) (by first | trivial | omega) (Eq.trans (if_neg h508) rfl)
-- WorkMeter$Marks.isOn
def f40_1 (g0 : Nat) (a1 : Int) (m : zM) : Int :=
  zn (zshr (m g0 33 3) a1) fun z502 =>
  zn (zand z502 1) fun z503 =>
  zn (if z503 = 1 then
  (1)
  else
  (0)) fun v505 =>
  v505
-- WorkMeter$Marks.isOn
theorem c40_1 {s : Nat × (Nat → Int32)} {S : zS} {m0 m : zM} {B : Int} {d : Nat} {Q : Option zV → zM → Prop} (g0 : Nat) (a1 : Int) (hd : 13 ≤ d) (hJ : J S m0 B m) (hB : B + 0 ≤ 1000000000) (ha1 : 2 ≤ a1 ∧ a1 ≤ 4) (hQ : ∀ (v : Int), (0 ≤ v ∧ v ≤ 1) → f40_1 g0 a1 m = v → Q (some (zi v)) m) : X (EE s) d 40 0 [(0, zr g0 33), (1, zi a1)] [] m Q := by
  refine X.aload_n 1 i40_0 rfl rfl rfl ?_
  refine X.getIr 4 3 i40_1 rfl rfl (by decide) rfl rfl rfl (fun h501 => ?_)
  refine X.iload_n 5 i40_4 rfl rfl rfl ?_
  refine X.iiE 6 .ishr (fun x y => x >>> (y &&& 31)) i40_5 rfl rfl rfl (fun _ _ => rfl) (fun z502 ez502 hz502 => ?_)
  refine X.iconst 7 i40_6 rfl rfl (by decide) ?_
  refine X.andE 8 1 i40_7 rfl rfl (by decide) (.inl rfl) (fun z503 ez503 hz503 => ?_)
  refine X.iconst 9 i40_8 rfl rfl (by decide) ?_
  have hK508 : ∀ (v : Int) , (0 ≤ v ∧ v ≤ 1) → (if z503 = 1 then
      (1)
      else
      (0)) = v → X (EE s) d 40 17 [] [zi v] m Q := by
    intro v505 hv505 hT509
    refine X.retz i40_17 rfl t40 (by omega) ?_
    exact hQ v505 (by first | trivial | omega) (Eq.trans (zn_eq ez502) (Eq.trans (zn_eq ez503) (Eq.trans (zn_eq hT509.symm) rfl))) 
  refine X.icmpne 16 12 i40_9 rfl rfl rfl (fun h504 => ?_) (fun h504 => ?_)
  · refine X.cut [] i40_16 rfl ?_
    refine X.iconst 17 i40_16 rfl rfl (by decide) ?_
    exact hK508 0 (by first | trivial | omega) (Eq.trans (if_neg h504) rfl)
  · refine X.iconst 13 i40_12 rfl rfl (by decide) ?_
    refine X.goto 17 i40_13 rfl rfl ?_
    refine X.cut [] i40_17 rfl ?_
    exact hK508 1 (by first | trivial | omega) (Eq.trans (if_pos h504) rfl)
def fl39_6_1_b (self : Int → Int → Int) (k43 : Int → Int → Int → Int) (k87 : Int → Int) (g0 : Nat) (y1 y2 y3 : Int) (m : zM) (y4 y5 : Int) : Int :=
  if 5 ≤ y5 then
  (k87 y4)
  else
  (zn (zshr y1 y5) fun z540 =>
  zn (zand z540 1) fun z541 =>
  zn (if z541 = 1 then
  (1)
  else
  (0)) fun v543 =>
  zn (f40_1 g0 y5 m) fun v550 =>
  if v550 = 0 then
  (zn (f40_1 g0 y5 m) fun v554 =>
  zn (if v554 = 0 then
  (if v543 = 0 then
  (y4)
  else
  (zn (w32 ((y2 + 1) - (m g0 36 y5))) fun z558 =>
  (min y4 (max 1 z558))))
  else
  (y4)) fun v559 =>
  self v559 (y5 + 1))
  else
  (if v543 = 0 then
  (k43 y4 y5 v543)
  else
  (zn (f40_1 g0 y5 m) fun v567 =>
  zn (if v567 = 0 then
  (zn (w32 ((y2 + 1) - (m g0 36 y5))) fun z571 =>
  (min y4 (max 1 z571)))
  else
  (y4)) fun v572 =>
  self v572 (y5 + 1))))
def fl39_6_1 (k43 : Int → Int → Int → Int) (k87 : Int → Int) (g0 : Nat) (y1 y2 y3 : Int) (m : zM) : Nat → Int → Int → Int
  | 0 => fun y4 y5 => 0
  | n + 1 => fl39_6_1_b (fl39_6_1 k43 k87 g0 y1 y2 y3 m n) k43 k87 g0 y1 y2 y3 m
theorem l39_6_1 {s : Nat × (Nat → Int32)} {S : zS} {m0 : zM} {m : zM} {B : Int} {d : Nat} {Q : Option zV → zM → Prop} {R0 : Int} {k43 : Int → Int → Int → Int} {k87 : Int → Int} (g0 : Nat) (y1 y2 y3 : Int) (hd : 14 ≤ d) (hJ : J S m0 B m) (hB9 : B ≤ 1000000000) (hy1 : (-2147483648) ≤ y1 ∧ y1 ≤ 2147483647) (hy2 : 0 ≤ y2 ∧ y2 ≤ 1000000) (hy3 : (-1999999999) ≤ y3 ∧ y3 ≤ 3600)
    (K43 : ∀ (x4 x5 x6 : Int) , ((-1999999999) ≤ x4 ∧ x4 ≤ 3600) → (2 ≤ x5 ∧ x5 ≤ 4) → (0 ≤ x6 ∧ x6 ≤ 0) → (1 ≤ x4) → (x4 ≤ y3) → R0 = k43 x4 x5 x6 → X (EE s) d 39 43 [(0, zr g0 33), (1, zi y1), (2, zi y2), (4, zi x4), (5, zi x5), (6, zi x6)] [] m Q)
    (K87 : ∀ (x4 : Int) , ((-1999999999) ≤ x4 ∧ x4 ≤ 3600) → (1 ≤ x4) → (x4 ≤ y3) → R0 = k87 x4 → X (EE s) d 39 87 [(4, zi x4)] [] m Q) :
    ∀ (n : Nat) (y4 y5 : Int) , ((-1999999999) ≤ y4 ∧ y4 ≤ 3600) → (2 ≤ y5 ∧ y5 ≤ 5) → (1 ≤ y4) → (y4 ≤ y3) → 5 - y5 < (n : Int) → R0 = fl39_6_1 k43 k87 g0 y1 y2 y3 m n y4 y5 → X (EE s) d 39 6 [(0, zr g0 33), (1, zi y1), (2, zi y2), (4, zi y4), (5, zi y5)] [] m Q := by
  intro n
  induction n with
  | zero =>
    intro y4 y5 hy4 hy5 hr0 hr1 hn hR
    exfalso
    omega
  | succ n ih =>
    intro y4 y5 hy4 hy5 hr0 hr1 hn hR
    replace hR : R0 = fl39_6_1_b (fl39_6_1 k43 k87 g0 y1 y2 y3 m n) k43 k87 g0 y1 y2 y3 m y4 y5 := hR
    refine X.iload 8 i39_6 rfl rfl rfl ?_
    refine X.iconst 9 i39_8 rfl rfl (by decide) ?_
    refine X.icmpge 87 12 i39_9 rfl rfl rfl (fun h539 => ?_) (fun h539 => ?_)
    · refine X.cut [(4, zi y4)] i39_87 rfl ?_
      exact K87 y4 (by first | trivial | omega) (by omega) (by omega) (Eq.trans hR (Eq.trans (if_pos h539) rfl))
    · refine X.iload_n 13 i39_12 rfl rfl rfl ?_
      refine X.iload 15 i39_13 rfl rfl rfl ?_
      refine X.iiE 16 .ishr (fun x y => x >>> (y &&& 31)) i39_15 rfl rfl rfl (fun _ _ => rfl) (fun z540 ez540 hz540 => ?_)
      refine X.iconst 17 i39_16 rfl rfl (by decide) ?_
      refine X.andE 18 1 i39_17 rfl rfl (by decide) (.inl rfl) (fun z541 ez541 hz541 => ?_)
      refine X.iconst 19 i39_18 rfl rfl (by decide) ?_
      have hK546 : ∀ (v : Int) , (0 ≤ v ∧ v ≤ 1) → (if z541 = 1 then
          (1)
          else
          (0)) = v → X (EE s) d 39 27 [(0, zr g0 33), (1, zi y1), (2, zi y2), (4, zi y4), (5, zi y5)] [zi v] m Q := by
        intro v543 hv543 hT547
        refine X.istore 29 [(0, zr g0 33), (1, zi y1), (2, zi y2), (4, zi y4), (5, zi y5), (6, zi v543)] i39_27 rfl rfl rfl ?_
        refine X.aload_n 30 i39_29 rfl rfl rfl ?_
        refine X.iload 32 i39_30 rfl rfl rfl ?_
        refine X.callv 35 [zi y5] [] [(0, zr g0 33), (1, zi y5)] i39_32 rfl (by decide) rfl rfl (by omega) rfl rfl (by decide) rfl t40 (Nat.le_of_ble_eq_true rfl) (Nat.le_of_ble_eq_true rfl) rfl ?_
        refine c40_1 (B := B) g0 y5 (by omega) (hJ.up (by omega)) (by omega) (by omega) (fun v550 hv550 hFv550 => ?_)
        show X (EE s) d 39 35 [(0, zr g0 33), (1, zi y1), (2, zi y2), (4, zi y4), (5, zi y5), (6, zi v543)] [zi v550] m _
        refine X.ifeq 45 38 i39_35 rfl rfl rfl (fun h551 => ?_) (fun h551 => ?_)
        · refine X.aload_n 46 i39_45 rfl rfl rfl ?_
          refine X.iload 48 i39_46 rfl rfl rfl ?_
          refine X.callv 51 [zi y5] [] [(0, zr g0 33), (1, zi y5)] i39_48 rfl (by decide) rfl rfl (by omega) rfl rfl (by decide) rfl t40 (Nat.le_of_ble_eq_true rfl) (Nat.le_of_ble_eq_true rfl) rfl ?_
          refine c40_1 (B := B) g0 y5 (by omega) (hJ.up (by omega)) (by omega) (by omega) (fun v554 hv554 hFv554 => ?_)
          show X (EE s) d 39 51 [(0, zr g0 33), (1, zi y1), (2, zi y2), (4, zi y4), (5, zi y5), (6, zi v543)] [zi v554] m _
          have hK562 : ∀ (v : Int) , ((-1999999999) ≤ v ∧ v ≤ 3600) → (if v554 = 0 then
              (if v543 = 0 then
              (y4)
              else
              (zn (w32 ((y2 + 1) - (m g0 36 y5))) fun z558 =>
              (min y4 (max 1 z558))))
              else
              (y4)) = v → X (EE s) d 39 81 [(0, zr g0 33), (1, zi y1), (2, zi y2), (4, zi v), (5, zi y5)] [] m Q := by
            intro v559 hv559 hT563
            refine X.iinc 84 [(0, zr g0 33), (1, zi y1), (2, zi y2), (4, zi v559), (5, zi (y5 + 1))] i39_81 rfl rfl rfl (by omega) rfl ?_
            refine X.goto 6 i39_84 rfl rfl ?_
            exact ih v559 (y5 + 1) (by omega) (by omega) (by omega) (by omega) (by omega) (Eq.trans hR (Eq.trans (if_neg h539) (Eq.trans (zn_eq ez540) (Eq.trans (zn_eq ez541) (Eq.trans (zn_eq hT547.symm) (Eq.trans (zn_eq hFv550.symm) (Eq.trans (if_pos h551) (Eq.trans (zn_eq hFv554.symm) (Eq.trans (zn_eq hT563.symm) rfl)))))))))
          refine X.ifne 81 54 i39_51 rfl rfl rfl (fun h555 => ?_) (fun h555 => ?_)
          · refine X.cut [(0, zr g0 33), (1, zi y1), (2, zi y2), (4, zi y4), (5, zi y5)] i39_81 rfl ?_
            exact hK562 y4 (by first | trivial | omega) (Eq.trans (if_neg h555) rfl)
          · refine X.iload 56 i39_54 rfl rfl rfl ?_
            refine X.ifeq 81 59 i39_56 rfl rfl rfl (fun h556 => ?_) (fun h556 => ?_)
            · refine X.cut [(0, zr g0 33), (1, zi y1), (2, zi y2), (4, zi y4), (5, zi y5)] i39_81 rfl ?_
              exact hK562 y4 (by first | trivial | omega) (Eq.trans (if_pos h555) (Eq.trans (if_pos h556) rfl))
            · refine X.iload 61 i39_59 rfl rfl rfl ?_
              refine X.iconst 62 i39_61 rfl rfl (by decide) ?_
              refine X.iload_n 63 i39_62 rfl rfl rfl ?_
              refine X.iconst 64 i39_63 rfl rfl (by decide) ?_
              refine X.iadd 65 i39_64 rfl rfl (by omega) ?_
              refine X.aload_n 66 i39_65 rfl rfl rfl ?_
              refine X.getR 69 i39_66 rfl rfl (by decide) rfl rfl ?_
              refine X.iload 71 i39_69 rfl rfl rfl ?_
              refine X.ialdr 72 i39_71 rfl rfl (by decide) rfl (by omega) (fun h557 => ?_)
              refine X.isubW 73 i39_72 rfl rfl (fun z558 ez558 hz558 => ?_)
              refine X.maxI 76 i39_73 rfl rfl (by omega) (Nat.le_of_ble_eq_true rfl) ?_
              refine X.minI 79 i39_76 rfl rfl (by omega) (Nat.le_of_ble_eq_true rfl) ?_
              refine X.istore 81 [(0, zr g0 33), (1, zi y1), (2, zi y2), (4, zi (min y4 (max 1 z558))), (5, zi y5), (6, zi v543)] i39_79 rfl rfl rfl ?_
              refine X.cut [(0, zr g0 33), (1, zi y1), (2, zi y2), (4, zi (min y4 (max 1 z558))), (5, zi y5)] i39_81 rfl ?_
              exact hK562 (min y4 (max 1 z558)) (by first | trivial | omega) (Eq.trans (if_pos h555) (Eq.trans (if_neg h556) (Eq.trans (zn_eq ez558) rfl)))
        · refine X.iload 40 i39_38 rfl rfl rfl ?_
          refine X.ifne 45 43 i39_40 rfl rfl rfl (fun h564 => ?_) (fun h564 => ?_)
          · refine X.aload_n 46 i39_45 rfl rfl rfl ?_
            refine X.iload 48 i39_46 rfl rfl rfl ?_
            refine X.callv 51 [zi y5] [] [(0, zr g0 33), (1, zi y5)] i39_48 rfl (by decide) rfl rfl (by omega) rfl rfl (by decide) rfl t40 (Nat.le_of_ble_eq_true rfl) (Nat.le_of_ble_eq_true rfl) rfl ?_
            refine c40_1 (B := B) g0 y5 (by omega) (hJ.up (by omega)) (by omega) (by omega) (fun v567 hv567 hFv567 => ?_)
            show X (EE s) d 39 51 [(0, zr g0 33), (1, zi y1), (2, zi y2), (4, zi y4), (5, zi y5), (6, zi v543)] [zi v567] m _
            have hK575 : ∀ (v : Int) , ((-1999999999) ≤ v ∧ v ≤ 3600) → (if v567 = 0 then
                (zn (w32 ((y2 + 1) - (m g0 36 y5))) fun z571 =>
                (min y4 (max 1 z571)))
                else
                (y4)) = v → X (EE s) d 39 81 [(0, zr g0 33), (1, zi y1), (2, zi y2), (4, zi v), (5, zi y5)] [] m Q := by
              intro v572 hv572 hT576
              refine X.iinc 84 [(0, zr g0 33), (1, zi y1), (2, zi y2), (4, zi v572), (5, zi (y5 + 1))] i39_81 rfl rfl rfl (by omega) rfl ?_
              refine X.goto 6 i39_84 rfl rfl ?_
              exact ih v572 (y5 + 1) (by omega) (by omega) (by omega) (by omega) (by omega) (Eq.trans hR (Eq.trans (if_neg h539) (Eq.trans (zn_eq ez540) (Eq.trans (zn_eq ez541) (Eq.trans (zn_eq hT547.symm) (Eq.trans (zn_eq hFv550.symm) (Eq.trans (if_neg h551) (Eq.trans (if_neg h564) (Eq.trans (zn_eq hFv567.symm) (Eq.trans (zn_eq hT576.symm) rfl))))))))))
            refine X.ifne 81 54 i39_51 rfl rfl rfl (fun h568 => ?_) (fun h568 => ?_)
            · refine X.cut [(0, zr g0 33), (1, zi y1), (2, zi y2), (4, zi y4), (5, zi y5)] i39_81 rfl ?_
              exact hK575 y4 (by first | trivial | omega) (Eq.trans (if_neg h568) rfl)
            · refine X.iload 56 i39_54 rfl rfl rfl ?_
              refine X.ifeq 81 59 i39_56 rfl rfl rfl (fun h569 => (by exfalso; omega)) (fun h569 => ?_)
              refine X.iload 61 i39_59 rfl rfl rfl ?_
              refine X.iconst 62 i39_61 rfl rfl (by decide) ?_
              refine X.iload_n 63 i39_62 rfl rfl rfl ?_
              refine X.iconst 64 i39_63 rfl rfl (by decide) ?_
              refine X.iadd 65 i39_64 rfl rfl (by omega) ?_
              refine X.aload_n 66 i39_65 rfl rfl rfl ?_
              refine X.getR 69 i39_66 rfl rfl (by decide) rfl rfl ?_
              refine X.iload 71 i39_69 rfl rfl rfl ?_
              refine X.ialdr 72 i39_71 rfl rfl (by decide) rfl (by omega) (fun h570 => ?_)
              refine X.isubW 73 i39_72 rfl rfl (fun z571 ez571 hz571 => ?_)
              refine X.maxI 76 i39_73 rfl rfl (by omega) (Nat.le_of_ble_eq_true rfl) ?_
              refine X.minI 79 i39_76 rfl rfl (by omega) (Nat.le_of_ble_eq_true rfl) ?_
              refine X.istore 81 [(0, zr g0 33), (1, zi y1), (2, zi y2), (4, zi (min y4 (max 1 z571))), (5, zi y5), (6, zi v543)] i39_79 rfl rfl rfl ?_
              refine X.cut [(0, zr g0 33), (1, zi y1), (2, zi y2), (4, zi (min y4 (max 1 z571))), (5, zi y5)] i39_81 rfl ?_
              exact hK575 (min y4 (max 1 z571)) (by first | trivial | omega) (Eq.trans (if_pos h568) (Eq.trans (zn_eq ez571) rfl))
          · exact K43 y4 y5 v543 (by first | trivial | omega) (by first | trivial | omega) (by first | trivial | omega) (by omega) (by omega) (Eq.trans hR (Eq.trans (if_neg h539) (Eq.trans (zn_eq ez540) (Eq.trans (zn_eq ez541) (Eq.trans (zn_eq hT547.symm) (Eq.trans (zn_eq hFv550.symm) (Eq.trans (if_neg h551) (Eq.trans (if_pos h564) rfl))))))))
      refine X.icmpne 26 22 i39_19 rfl rfl rfl (fun h542 => ?_) (fun h542 => ?_)
      · refine X.iconst 27 i39_26 rfl rfl (by decide) ?_
        exact hK546 0 (by first | trivial | omega) (Eq.trans (if_neg h542) rfl)
      · refine X.iconst 23 i39_22 rfl rfl (by decide) ?_
        refine X.goto 27 i39_23 rfl rfl ?_
        exact hK546 1 (by first | trivial | omega) (Eq.trans (if_pos h542) rfl)
-- WorkMeter$Marks.secondsToTurn
def f39_1 (g0 : Nat) (a1 a2 a3 : Int) (m : zM) : Int :=
  fl39_6_1 (fun y501 y502 y503 =>
  1) (fun y508 =>
  y508) g0 a1 a2 a3 m 4 a3 2
-- WorkMeter$Marks.secondsToTurn
theorem c39_1 {s : Nat × (Nat → Int32)} {S : zS} {m0 m : zM} {B : Int} {d : Nat} {Q : Option zV → zM → Prop} (g0 : Nat) (a1 a2 a3 : Int) (hd : 14 ≤ d) (hJ : J S m0 B m) (hB : B + 0 ≤ 1000000000) (ha1 : (-2147483648) ≤ a1 ∧ a1 ≤ 2147483647) (ha2 : 0 ≤ a2 ∧ a2 ≤ 1000000) (ha3 : (-1999999999) ≤ a3 ∧ a3 ≤ 3600) (hp0 : 1 ≤ a3) (hQ : ∀ (v : Int), ((-1999999999) ≤ v ∧ v ≤ 3600) → f39_1 g0 a1 a2 a3 m = v → (1 ≤ v) → (v ≤ a3) → Q (some (zi v)) m) : X (EE s) d 39 0 [(0, zr g0 33), (1, zi a1), (2, zi a2), (3, zi a3)] [] m Q := by
  refine X.iload_n 1 i39_0 rfl rfl rfl ?_
  refine X.istore 3 [(0, zr g0 33), (1, zi a1), (2, zi a2), (3, zi a3), (4, zi a3)] i39_1 rfl rfl rfl ?_
  refine X.iconst 4 i39_3 rfl rfl (by decide) ?_
  refine X.istore 6 [(0, zr g0 33), (1, zi a1), (2, zi a2), (3, zi a3), (4, zi a3), (5, zi 2)] i39_4 rfl rfl rfl ?_
  refine X.cut [(0, zr g0 33), (1, zi a1), (2, zi a2), (4, zi a3), (5, zi 2)] i39_6 rfl ?_
  refine l39_6_1 (s := s) (m := m) (B := B) (d := d) (R0 := (f39_1 g0 a1 a2 a3 m)) g0 a1 a2 a3  (by omega) (hJ.up (by omega)) (by omega) (by omega) (by omega) (by omega) (fun y501 y502 y503 hby501 hby502 hby503 hrlm504_0 hrlm504_1 hR507 => ?_) (fun y508 hby508 hrlm509_0 hrlm509_1 hR512 => ?_) 4 a3 2 (by omega) (by omega) (by omega) (by omega) (by omega) rfl
  · refine X.iconst 44 i39_43 rfl rfl (by decide) ?_
    refine X.reti i39_44 rfl t39 ?_
    exact hQ 1 (by first | trivial | omega) (Eq.trans hR507 rfl) (by omega) (by omega)
  · refine X.iload 89 i39_87 rfl rfl rfl ?_
    refine X.reti i39_89 rfl t39 ?_
    exact hQ y508 (by first | trivial | omega) (Eq.trans hR512 rfl) (by omega) (by omega)
-- WorkMeter$Meter.isCreeping
def f44_1 (g0 : Nat) (m : zM) : Int :=
  zn (if (m g0 8 12) = 0 then
  ((m g0 22 3))
  else
  (0)) fun v504 =>
  zn (if (m g0 8 12) = 0 then
  ((m g0 22 7))
  else
  (0)) fun v511 =>
  zn (w64 (max v504 (-v504))) fun z516 =>
  zn (if z516 < (m g0 10 0) then
  (zn (w64 (max v511 (-v511))) fun z519 =>
  if z519 < (m g0 10 0) then
  (1)
  else
  (0))
  else
  (0)) fun v522 =>
  v522
-- WorkMeter$Meter.isCreeping
theorem c44_1 {s : Nat × (Nat → Int32)} {S : zS} {m0 m : zM} {B : Int} {d : Nat} {Q : Option zV → zM → Prop} (g0 : Nat) (hd : 13 ≤ d) (hJ : J S m0 B m) (hB : B + 0 ≤ 1000000000) (hQ : ∀ (v : Int), (0 ≤ v ∧ v ≤ 1) → f44_1 g0 m = v → Q (some (zi v)) m) : X (EE s) d 44 0 [(0, zr g0 8)] [] m Q := by
  refine X.aload_n 1 i44_0 rfl rfl rfl ?_
  refine X.getR 4 i44_1 rfl rfl (by decide) rfl rfl ?_
  refine X.callv 7 [] [] [(0, zr g0 9)] i44_4 rfl (by decide) rfl rfl (by omega) rfl rfl (by decide) rfl t45 (Nat.le_of_ble_eq_true rfl) (Nat.le_of_ble_eq_true rfl) rfl ?_
  refine X.aload_n 1 i45_0 rfl rfl rfl ?_
  refine X.getR 4 i45_1 rfl rfl (by decide) rfl rfl ?_
  refine X.iconst 5 i45_4 rfl rfl (by decide) ?_
  refine X.iald 6 i45_5 rfl rfl (by decide) rfl (by omega) ?_
  have h501 := r10_0 hJ g0 (i := 0) (by omega)
  refine X.reti i45_6 rfl t45 ?_
  show X (EE s) d 44 7 [(0, zr g0 8)] [zi (m g0 10 0)] m _
  refine X.istore_n 8 [(0, zr g0 8), (1, zi (m g0 10 0))] i44_7 rfl rfl rfl ?_
  refine X.aload_n 9 i44_8 rfl rfl rfl ?_
  refine X.getZ 12 12 i44_9 rfl rfl (by decide) rfl rfl rfl (fun h502 => ?_)
  have hK507 : ∀ (v : Int) , (True) → (if (m g0 8 12) = 0 then
      ((m g0 22 3))
      else
      (0)) = v → X (EE s) d 44 26 [(0, zr g0 8), (1, zi (m g0 10 0))] [zl v] m Q := by
    intro v504 hv504 hT508
    refine X.lstore_n 27 [(0, zr g0 8), (1, zi (m g0 10 0)), (2, zl v504)] i44_26 rfl rfl rfl ?_
    refine X.aload_n 28 i44_27 rfl rfl rfl ?_
    refine X.getZ 31 12 i44_28 rfl rfl (by decide) rfl rfl rfl (fun h509 => ?_)
    have hK514 : ∀ (v : Int) , (True) → (if (m g0 8 12) = 0 then
        ((m g0 22 7))
        else
        (0)) = v → X (EE s) d 44 45 [(1, zi (m g0 10 0)), (2, zl v504)] [zl v] m Q := by
      intro v511 hv511 hT515
      refine X.lstore 47 [(1, zi (m g0 10 0)), (2, zl v504), (4, zl v511)] i44_45 rfl rfl rfl ?_
      refine X.lload_n 48 i44_47 rfl rfl rfl ?_
      refine X.absW 51 i44_48 rfl rfl (by omega) (Nat.le_of_ble_eq_true rfl) (fun z516 ez516 hz516 => ?_)
      refine X.iload_n 52 i44_51 rfl rfl rfl ?_
      refine X.i2l 53 i44_52 rfl rfl ?_
      refine X.lcmp 54 i44_53 rfl rfl (fun z517 hz517 => ?_)
      have hK525 : ∀ (v : Int) , (0 ≤ v ∧ v ≤ 1) → (if z516 < (m g0 10 0) then
          (zn (w64 (max v511 (-v511))) fun z519 =>
          if z519 < (m g0 10 0) then
          (1)
          else
          (0))
          else
          (0)) = v → X (EE s) d 44 73 [] [zi v] m Q := by
        intro v522 hv522 hT526
        refine X.retz i44_73 rfl t44 (by omega) ?_
        exact hQ v522 (by first | trivial | omega) (Eq.trans (zn_eq hT508.symm) (Eq.trans (zn_eq hT515.symm) (Eq.trans (zn_eq ez516) (Eq.trans (zn_eq hT526.symm) rfl)))) 
      refine X.ifge 72 57 i44_54 rfl rfl rfl (fun h518 => ?_) (fun h518 => ?_)
      · have h518c : ¬ z516 < (m g0 10 0) := by omega
        clear h518 hz517
        refine X.cut [] i44_72 rfl ?_
        refine X.iconst 73 i44_72 rfl rfl (by decide) ?_
        exact hK525 0 (by first | trivial | omega) (Eq.trans (if_neg h518c) rfl)
      · have h518c : z516 < (m g0 10 0) := by omega
        clear h518 hz517
        refine X.lload 59 i44_57 rfl rfl rfl ?_
        refine X.absW 62 i44_59 rfl rfl (by omega) (Nat.le_of_ble_eq_true rfl) (fun z519 ez519 hz519 => ?_)
        refine X.iload_n 63 i44_62 rfl rfl rfl ?_
        refine X.i2l 64 i44_63 rfl rfl ?_
        refine X.lcmp 65 i44_64 rfl rfl (fun z520 hz520 => ?_)
        refine X.ifge 72 68 i44_65 rfl rfl rfl (fun h521 => ?_) (fun h521 => ?_)
        · have h521c : ¬ z519 < (m g0 10 0) := by omega
          clear h521 hz520
          refine X.cut [] i44_72 rfl ?_
          refine X.iconst 73 i44_72 rfl rfl (by decide) ?_
          exact hK525 0 (by first | trivial | omega) (Eq.trans (if_pos h518c) (Eq.trans (zn_eq ez519) (Eq.trans (if_neg h521c) rfl)))
        · have h521c : z519 < (m g0 10 0) := by omega
          clear h521 hz520
          refine X.iconst 69 i44_68 rfl rfl (by decide) ?_
          refine X.goto 73 i44_69 rfl rfl ?_
          refine X.cut [] i44_73 rfl ?_
          exact hK525 1 (by first | trivial | omega) (Eq.trans (if_pos h518c) (Eq.trans (zn_eq ez519) (Eq.trans (if_pos h521c) rfl)))
    refine X.ifeq 38 34 i44_31 rfl rfl rfl (fun h510 => ?_) (fun h510 => ?_)
    · refine X.aload_n 39 i44_38 rfl rfl rfl ?_
      refine X.getR 42 i44_39 rfl rfl (by decide) rfl rfl ?_
      refine X.callv 45 [] [] [(0, zr g0 19)] i44_42 rfl (by decide) rfl rfl (by omega) rfl rfl (by decide) rfl t46 (Nat.le_of_ble_eq_true rfl) (Nat.le_of_ble_eq_true rfl) rfl ?_
      refine X.aload_n 1 i46_0 rfl rfl rfl ?_
      refine X.getR 4 i46_1 rfl rfl (by decide) rfl rfl ?_
      refine X.bipush 6 i46_4 rfl rfl (by decide) ?_
      refine X.lald 7 i46_6 rfl rfl (by decide) rfl (by omega) ?_
      refine X.retl i46_7 rfl t46 ?_
      show X (EE s) d 44 45 [(0, zr g0 8), (1, zi (m g0 10 0)), (2, zl v504)] [zl (m g0 22 7)] m _
      refine X.cut [(1, zi (m g0 10 0)), (2, zl v504)] i44_45 rfl ?_
      exact hK514 (m g0 22 7) (by first | trivial | omega) (Eq.trans (if_pos h510) rfl)
    · refine X.lconst (y := 0) 35 i44_34 rfl rfl rfl ?_
      refine X.goto 45 i44_35 rfl rfl ?_
      refine X.cut [(1, zi (m g0 10 0)), (2, zl v504)] i44_45 rfl ?_
      exact hK514 0 (by first | trivial | omega) (Eq.trans (if_neg h510) rfl)
  refine X.ifeq 19 15 i44_12 rfl rfl rfl (fun h503 => ?_) (fun h503 => ?_)
  · refine X.aload_n 20 i44_19 rfl rfl rfl ?_
    refine X.getR 23 i44_20 rfl rfl (by decide) rfl rfl ?_
    refine X.callv 26 [] [] [(0, zr g0 19)] i44_23 rfl (by decide) rfl rfl (by omega) rfl rfl (by decide) rfl t42 (Nat.le_of_ble_eq_true rfl) (Nat.le_of_ble_eq_true rfl) rfl ?_
    refine X.aload_n 1 i42_0 rfl rfl rfl ?_
    refine X.getR 4 i42_1 rfl rfl (by decide) rfl rfl ?_
    refine X.iconst 5 i42_4 rfl rfl (by decide) ?_
    refine X.lald 6 i42_5 rfl rfl (by decide) rfl (by omega) ?_
    refine X.retl i42_6 rfl t42 ?_
    show X (EE s) d 44 26 [(0, zr g0 8), (1, zi (m g0 10 0))] [zl (m g0 22 3)] m _
    exact hK507 (m g0 22 3) (by first | trivial | omega) (Eq.trans (if_pos h503) rfl)
  · refine X.lconst (y := 0) 16 i44_15 rfl rfl rfl ?_
    refine X.goto 26 i44_16 rfl rfl ?_
    exact hK507 0 (by first | trivial | omega) (Eq.trans (if_neg h503) rfl)
-- WorkMeter$Meter.secondsToOpen
def f41_1 (g0 : Nat) (a1 a2 : Int) (m : zM) : Int :=
  if (m g0 8 11) = 0 then
  (a2)
  else
  (if (m g0 8 12) = 0 then
  (if (m g0 22 3) ≤ 0 then
  (a2)
  else
  (if (m g0 10 (6 + a1)) ≤ 0 then
  (a2)
  else
  (zn (f44_1 g0 m) fun v511 =>
  if v511 = 0 then
  (zn (w64 ((m g0 8 10) + (m g0 10 (6 + a1)))) fun z513 =>
  zn (w64 (z513 - 1)) fun z514 =>
  zn (w64 ((z514).tdiv (m g0 10 (6 + a1)))) fun z515 =>
  zn (w64 (((m g0 24 (0 + a1))).tdiv (max 1 (m g0 10 1)))) fun z517 =>
  zn (w64 (z517 + z515)) fun z518 =>
  zn (w64 (z518 * (max 1 (m g0 10 1)))) fun z519 =>
  zn (w64 (z519 - (m g0 24 (0 + a1)))) fun z520 =>
  zn (w64 (z520 + (m g0 22 3))) fun z521 =>
  zn (w64 (z521 - 1)) fun z522 =>
  zn (w64 ((z522).tdiv (m g0 22 3))) fun z523 =>
  (max 1 (min a2 z523)))
  else
  (a2))))
  else
  (a2))
-- WorkMeter$Meter.secondsToOpen
theorem c41_1 {s : Nat × (Nat → Int32)} {S : zS} {m0 m : zM} {B : Int} {d : Nat} {Q : Option zV → zM → Prop} (g0 : Nat) (a1 a2 : Int) (hd : 14 ≤ d) (hJ : J S m0 B m) (hB : B + 0 ≤ 1000000000) (ha1 : 0 ≤ a1 ∧ a1 ≤ 3) (ha2 : 1 ≤ a2 ∧ a2 ≤ 3600) (hp0 : 1 ≤ a2) (hQ : ∀ (v : Int), (1 ≤ v ∧ v ≤ 3600) → f41_1 g0 a1 a2 m = v → (1 ≤ v) → (v ≤ a2) → Q (some (zi v)) m) : X (EE s) d 41 0 [(0, zr g0 8), (1, zi a1), (2, zi a2)] [] m Q := by
  refine X.aload_n 1 i41_0 rfl rfl rfl ?_
  refine X.getR 4 i41_1 rfl rfl (by decide) rfl rfl ?_
  refine X.callv 7 [] [] [(0, zr g0 19)] i41_4 rfl (by decide) rfl rfl (by omega) rfl rfl (by decide) rfl t42 (Nat.le_of_ble_eq_true rfl) (Nat.le_of_ble_eq_true rfl) rfl ?_
  refine X.aload_n 1 i42_0 rfl rfl rfl ?_
  refine X.getR 4 i42_1 rfl rfl (by decide) rfl rfl ?_
  refine X.iconst 5 i42_4 rfl rfl (by decide) ?_
  refine X.lald 6 i42_5 rfl rfl (by decide) rfl (by omega) ?_
  refine X.retl i42_6 rfl t42 ?_
  show X (EE s) d 41 7 [(0, zr g0 8), (1, zi a1), (2, zi a2)] [zl (m g0 22 3)] m _
  refine X.lstore_n 8 [(0, zr g0 8), (1, zi a1), (2, zi a2), (3, zl (m g0 22 3))] i41_7 rfl rfl rfl ?_
  refine X.aload_n 9 i41_8 rfl rfl rfl ?_
  refine X.getR 12 i41_9 rfl rfl (by decide) rfl rfl ?_
  refine X.iload_n 13 i41_12 rfl rfl rfl ?_
  refine X.callv 16 [zi a1] [] [(0, zr g0 9), (1, zi a1)] i41_13 rfl (by decide) rfl rfl (by omega) rfl rfl (by decide) rfl t43 (Nat.le_of_ble_eq_true rfl) (Nat.le_of_ble_eq_true rfl) rfl ?_
  refine X.aload_n 1 i43_0 rfl rfl rfl ?_
  refine X.getR 4 i43_1 rfl rfl (by decide) rfl rfl ?_
  refine X.bipush 6 i43_4 rfl rfl (by decide) ?_
  refine X.iload_n 7 i43_6 rfl rfl rfl ?_
  refine X.iadd 8 i43_7 rfl rfl (by omega) ?_
  refine X.iald 9 i43_8 rfl rfl (by decide) rfl (by omega) ?_
  have h501 := r10_6 hJ g0 (i := (6 + a1)) (by omega)
  refine X.reti i43_9 rfl t43 ?_
  show X (EE s) d 41 16 [(0, zr g0 8), (1, zi a1), (2, zi a2), (3, zl (m g0 22 3))] [zi (m g0 10 (6 + a1))] m _
  refine X.istore 18 [(0, zr g0 8), (1, zi a1), (2, zi a2), (3, zl (m g0 22 3)), (5, zi (m g0 10 (6 + a1)))] i41_16 rfl rfl rfl ?_
  refine X.aload_n 19 i41_18 rfl rfl rfl ?_
  refine X.getZ 22 11 i41_19 rfl rfl (by decide) rfl rfl rfl (fun h502 => ?_)
  refine X.ifeq 50 25 i41_22 rfl rfl rfl (fun h503 => ?_) (fun h503 => ?_)
  · refine X.cut [(2, zi a2)] i41_50 rfl ?_
    refine X.iload_n 51 i41_50 rfl rfl rfl ?_
    refine X.reti i41_51 rfl t41 ?_
    exact hQ a2 (by first | trivial | omega) (Eq.trans (if_pos h503) rfl) (by omega) (by omega)
  · refine X.aload_n 26 i41_25 rfl rfl rfl ?_
    refine X.getZ 29 12 i41_26 rfl rfl (by decide) rfl rfl rfl (fun h504 => ?_)
    refine X.ifne 50 32 i41_29 rfl rfl rfl (fun h505 => ?_) (fun h505 => ?_)
    · refine X.cut [(2, zi a2)] i41_50 rfl ?_
      refine X.iload_n 51 i41_50 rfl rfl rfl ?_
      refine X.reti i41_51 rfl t41 ?_
      exact hQ a2 (by first | trivial | omega) (Eq.trans (if_neg h503) (Eq.trans (if_neg h505) rfl)) (by omega) (by omega)
    · refine X.lload_n 33 i41_32 rfl rfl rfl ?_
      refine X.lconst (y := 0) 34 i41_33 rfl rfl rfl ?_
      refine X.lcmp 35 i41_34 rfl rfl (fun z506 hz506 => ?_)
      refine X.ifle 50 38 i41_35 rfl rfl rfl (fun h507 => ?_) (fun h507 => ?_)
      · have h507c : (m g0 22 3) ≤ 0 := by omega
        clear h507 hz506
        refine X.cut [(2, zi a2)] i41_50 rfl ?_
        refine X.iload_n 51 i41_50 rfl rfl rfl ?_
        refine X.reti i41_51 rfl t41 ?_
        exact hQ a2 (by first | trivial | omega) (Eq.trans (if_neg h503) (Eq.trans (if_pos h505) (Eq.trans (if_pos h507c) rfl))) (by omega) (by omega)
      · have h507c : ¬ (m g0 22 3) ≤ 0 := by omega
        clear h507 hz506
        refine X.iload 40 i41_38 rfl rfl rfl ?_
        refine X.ifle 50 43 i41_40 rfl rfl rfl (fun h508 => ?_) (fun h508 => ?_)
        · refine X.cut [(2, zi a2)] i41_50 rfl ?_
          refine X.iload_n 51 i41_50 rfl rfl rfl ?_
          refine X.reti i41_51 rfl t41 ?_
          exact hQ a2 (by first | trivial | omega) (Eq.trans (if_neg h503) (Eq.trans (if_pos h505) (Eq.trans (if_neg h507c) (Eq.trans (if_pos h508) rfl)))) (by omega) (by omega)
        · refine X.aload_n 44 i41_43 rfl rfl rfl ?_
          refine X.callv 47 [] [] [(0, zr g0 8)] i41_44 rfl (by decide) rfl rfl (by omega) rfl rfl (by decide) rfl t44 (Nat.le_of_ble_eq_true rfl) (Nat.le_of_ble_eq_true rfl) rfl ?_
          refine c44_1 (B := B) g0  (by omega) (hJ.up (by omega)) (by omega)  (fun v511 hv511 hFv511 => ?_)
          show X (EE s) d 41 47 [(0, zr g0 8), (1, zi a1), (2, zi a2), (3, zl (m g0 22 3)), (5, zi (m g0 10 (6 + a1)))] [zi v511] m _
          refine X.ifeq 52 50 i41_47 rfl rfl rfl (fun h512 => ?_) (fun h512 => ?_)
          · refine X.aload_n 53 i41_52 rfl rfl rfl ?_
            refine X.getL 56 10 i41_53 rfl rfl (by decide) rfl rfl rfl ?_
            refine X.iload 58 i41_56 rfl rfl rfl ?_
            refine X.i2l 59 i41_58 rfl rfl ?_
            refine X.laddW 60 i41_59 rfl rfl (fun z513 ez513 hz513 => ?_)
            refine X.lconst (y := 1) 61 i41_60 rfl rfl rfl ?_
            refine X.lsubW 62 i41_61 rfl rfl (fun z514 ez514 hz514 => ?_)
            refine X.iload 64 i41_62 rfl rfl rfl ?_
            refine X.i2l 65 i41_64 rfl rfl ?_
            refine X.ldivW 66 i41_65 rfl rfl (by omega) (fun z515 ez515 hz515 => ?_)
            refine X.lstore 68 [(0, zr g0 8), (1, zi a1), (2, zi a2), (3, zl (m g0 22 3)), (5, zi (m g0 10 (6 + a1))), (6, zl z515)] i41_66 rfl rfl rfl ?_
            refine X.aload_n 69 i41_68 rfl rfl rfl ?_
            refine X.getR 72 i41_69 rfl rfl (by decide) rfl rfl ?_
            refine X.iload_n 73 i41_72 rfl rfl rfl ?_
            refine X.callv 76 [zi a1] [] [(0, zr g0 23), (1, zi a1)] i41_73 rfl (by decide) rfl rfl (by omega) rfl rfl (by decide) rfl t47 (Nat.le_of_ble_eq_true rfl) (Nat.le_of_ble_eq_true rfl) rfl ?_
            refine X.aload_n 1 i47_0 rfl rfl rfl ?_
            refine X.getR 4 i47_1 rfl rfl (by decide) rfl rfl ?_
            refine X.iconst 5 i47_4 rfl rfl (by decide) ?_
            refine X.iload_n 6 i47_5 rfl rfl rfl ?_
            refine X.iadd 7 i47_6 rfl rfl (by omega) ?_
            refine X.lald 8 i47_7 rfl rfl (by decide) rfl (by omega) ?_
            refine X.retl i47_8 rfl t47 ?_
            show X (EE s) d 41 76 [(0, zr g0 8), (1, zi a1), (2, zi a2), (3, zl (m g0 22 3)), (5, zi (m g0 10 (6 + a1))), (6, zl z515)] [zl (m g0 24 (0 + a1))] m _
            refine X.lstore 78 [(0, zr g0 8), (1, zi a1), (2, zi a2), (3, zl (m g0 22 3)), (5, zi (m g0 10 (6 + a1))), (6, zl z515), (8, zl (m g0 24 (0 + a1)))] i41_76 rfl rfl rfl ?_
            refine X.lload 80 i41_78 rfl rfl rfl ?_
            refine X.aload_n 81 i41_80 rfl rfl rfl ?_
            refine X.getR 84 i41_81 rfl rfl (by decide) rfl rfl ?_
            refine X.callv 87 [] [zl (m g0 24 (0 + a1))] [(0, zr g0 9)] i41_84 rfl (by decide) rfl rfl (by omega) rfl rfl (by decide) rfl t48 (Nat.le_of_ble_eq_true rfl) (Nat.le_of_ble_eq_true rfl) rfl ?_
            refine X.iconst 1 i48_0 rfl rfl (by decide) ?_
            refine X.aload_n 2 i48_1 rfl rfl rfl ?_
            refine X.getR 5 i48_2 rfl rfl (by decide) rfl rfl ?_
            refine X.iconst 6 i48_5 rfl rfl (by decide) ?_
            refine X.iald 7 i48_6 rfl rfl (by decide) rfl (by omega) ?_
            have h516 := r10_0 hJ g0 (i := 1) (by omega)
            refine X.maxI 10 i48_7 rfl rfl (by omega) (Nat.le_of_ble_eq_true rfl) ?_
            refine X.reti i48_10 rfl t48 ?_
            show X (EE s) d 41 87 [(0, zr g0 8), (1, zi a1), (2, zi a2), (3, zl (m g0 22 3)), (5, zi (m g0 10 (6 + a1))), (6, zl z515), (8, zl (m g0 24 (0 + a1)))] [zi (max 1 (m g0 10 1)), zl (m g0 24 (0 + a1))] m _
            refine X.i2l 88 i41_87 rfl rfl ?_
            refine X.ldivW 89 i41_88 rfl rfl (by omega) (fun z517 ez517 hz517 => ?_)
            refine X.lload 91 i41_89 rfl rfl rfl ?_
            refine X.laddW 92 i41_91 rfl rfl (fun z518 ez518 hz518 => ?_)
            refine X.aload_n 93 i41_92 rfl rfl rfl ?_
            refine X.getR 96 i41_93 rfl rfl (by decide) rfl rfl ?_
            refine X.callv 99 [] [zl z518] [(0, zr g0 9)] i41_96 rfl (by decide) rfl rfl (by omega) rfl rfl (by decide) rfl t48 (Nat.le_of_ble_eq_true rfl) (Nat.le_of_ble_eq_true rfl) rfl ?_
            refine X.iconst 1 i48_0 rfl rfl (by decide) ?_
            refine X.aload_n 2 i48_1 rfl rfl rfl ?_
            refine X.getR 5 i48_2 rfl rfl (by decide) rfl rfl ?_
            refine X.iconst 6 i48_5 rfl rfl (by decide) ?_
            refine X.iald 7 i48_6 rfl rfl (by decide) rfl (by omega) ?_
            refine X.maxI 10 i48_7 rfl rfl (by omega) (Nat.le_of_ble_eq_true rfl) ?_
            refine X.reti i48_10 rfl t48 ?_
            show X (EE s) d 41 99 [(0, zr g0 8), (1, zi a1), (2, zi a2), (3, zl (m g0 22 3)), (5, zi (m g0 10 (6 + a1))), (6, zl z515), (8, zl (m g0 24 (0 + a1)))] [zi (max 1 (m g0 10 1)), zl z518] m _
            refine X.i2l 100 i41_99 rfl rfl ?_
            refine X.lmulW 101 i41_100 rfl rfl (fun z519 ez519 hz519 => ?_)
            refine X.lload 103 i41_101 rfl rfl rfl ?_
            refine X.lsubW 104 i41_103 rfl rfl (fun z520 ez520 hz520 => ?_)
            refine X.lstore 106 [(0, zr g0 8), (1, zi a1), (2, zi a2), (3, zl (m g0 22 3)), (5, zi (m g0 10 (6 + a1))), (6, zl z515), (8, zl (m g0 24 (0 + a1))), (10, zl z520)] i41_104 rfl rfl rfl ?_
            refine X.lconst (y := 1) 107 i41_106 rfl rfl rfl ?_
            refine X.iload_n 108 i41_107 rfl rfl rfl ?_
            refine X.i2l 109 i41_108 rfl rfl ?_
            refine X.lload 111 i41_109 rfl rfl rfl ?_
            refine X.lload_n 112 i41_111 rfl rfl rfl ?_
            refine X.laddW 113 i41_112 rfl rfl (fun z521 ez521 hz521 => ?_)
            refine X.lconst (y := 1) 114 i41_113 rfl rfl rfl ?_
            refine X.lsubW 115 i41_114 rfl rfl (fun z522 ez522 hz522 => ?_)
            refine X.lload_n 116 i41_115 rfl rfl rfl ?_
            refine X.ldivW 117 i41_116 rfl rfl (by omega) (fun z523 ez523 hz523 => ?_)
            refine X.minL 120 i41_117 rfl rfl (by omega) (Nat.le_of_ble_eq_true rfl) ?_
            refine X.maxL 123 i41_120 rfl rfl (by omega) (Nat.le_of_ble_eq_true rfl) ?_
            refine X.l2i 124 i41_123 rfl rfl (by omega) ?_
            refine X.reti i41_124 rfl t41 ?_
            exact hQ (max 1 (min a2 z523)) (by first | trivial | omega) (Eq.trans (if_neg h503) (Eq.trans (if_pos h505) (Eq.trans (if_neg h507c) (Eq.trans (if_neg h508) (Eq.trans (zn_eq hFv511.symm) (Eq.trans (if_pos h512) (Eq.trans (zn_eq ez513) (Eq.trans (zn_eq ez514) (Eq.trans (zn_eq ez515) (Eq.trans (zn_eq ez517) (Eq.trans (zn_eq ez518) (Eq.trans (zn_eq ez519) (Eq.trans (zn_eq ez520) (Eq.trans (zn_eq ez521) (Eq.trans (zn_eq ez522) (Eq.trans (zn_eq ez523) rfl)))))))))))))))) (by omega) (by omega)
          · refine X.cut [(2, zi a2)] i41_50 rfl ?_
            refine X.iload_n 51 i41_50 rfl rfl rfl ?_
            refine X.reti i41_51 rfl t41 ?_
            exact hQ a2 (by first | trivial | omega) (Eq.trans (if_neg h503) (Eq.trans (if_pos h505) (Eq.trans (if_neg h507c) (Eq.trans (if_neg h508) (Eq.trans (zn_eq hFv511.symm) (Eq.trans (if_neg h512) rfl)))))) (by omega) (by omega)
-- WorkMeter$Meter.stretch
def f35_1 (g0 : Nat) (a1 a2 a3 : Int) (m : zM) : Int :=
  if (m g0 8 9) < 2000000000 then
  (zn (f37_1 g0 (m g0 8 9) m) fun v506 =>
  zn (((m g0 8 9) % (max 1 (m g0 10 4)))) fun z507 =>
  zn (f39_1 g0 a3 (m g0 10 3) (min (min (min a1 (2000000000 - (m g0 8 9))) (v506 - (m g0 8 9))) ((max 1 (m g0 10 4)) - z507)) m) fun v511 =>
  zn (f41_1 g0 a2 v511 m) fun v514 =>
  v514)
  else
  (1)
-- WorkMeter$Meter.stretch
theorem c35_1 {s : Nat × (Nat → Int32)} {S : zS} {m0 m : zM} {B : Int} {d : Nat} {Q : Option zV → zM → Prop} (g0 : Nat) (a1 a2 a3 : Int) (hd : 16 ≤ d) (hJ : J S m0 B m) (hB : B + 0 ≤ 1000000000) (ha1 : 1 ≤ a1 ∧ a1 ≤ 3600) (ha2 : 0 ≤ a2 ∧ a2 ≤ 3) (ha3 : (-2147483648) ≤ a3 ∧ a3 ≤ 2147483647) (hp0 : 1 ≤ a1) (hQ : ∀ (v : Int), (1 ≤ v ∧ v ≤ 3600) → f35_1 g0 a1 a2 a3 m = v → (1 ≤ v) → (v + m g0 8 9 ≤ 2000000001) → (v ≤ a1) → Q (some (zi v)) m) : X (EE s) d 35 0 [(0, zr g0 8), (1, zi a1), (2, zi a2), (3, zi a3)] [] m Q := by
  refine X.aload_n 1 i35_0 rfl rfl rfl ?_
  refine X.getI 4 9 i35_1 rfl rfl (by decide) rfl rfl rfl ?_
  have h501 := r8_9 hJ g0
  refine X.ldc 6 i35_4 rfl rfl (by decide) ?_
  refine X.icmplt 11 9 i35_6 rfl rfl rfl (fun h502 => ?_) (fun h502 => ?_)
  · refine X.aload_n 12 i35_11 rfl rfl rfl ?_
    refine X.getR 15 i35_12 rfl rfl (by decide) rfl rfl ?_
    refine X.callv 18 [] [] [(0, zr g0 9)] i35_15 rfl (by decide) rfl rfl (by omega) rfl rfl (by decide) rfl t36 (Nat.le_of_ble_eq_true rfl) (Nat.le_of_ble_eq_true rfl) rfl ?_
    refine X.iconst 1 i36_0 rfl rfl (by decide) ?_
    refine X.aload_n 2 i36_1 rfl rfl rfl ?_
    refine X.getR 5 i36_2 rfl rfl (by decide) rfl rfl ?_
    refine X.iconst 6 i36_5 rfl rfl (by decide) ?_
    refine X.iald 7 i36_6 rfl rfl (by decide) rfl (by omega) ?_
    have h503 := r10_0 hJ g0 (i := 4) (by omega)
    refine X.maxI 10 i36_7 rfl rfl (by omega) (Nat.le_of_ble_eq_true rfl) ?_
    refine X.reti i36_10 rfl t36 ?_
    show X (EE s) d 35 18 [(0, zr g0 8), (1, zi a1), (2, zi a2), (3, zi a3)] [zi (max 1 (m g0 10 4))] m _
    refine X.istore 20 [(0, zr g0 8), (1, zi a1), (2, zi a2), (3, zi a3), (4, zi (max 1 (m g0 10 4)))] i35_18 rfl rfl rfl ?_
    refine X.iload_n 21 i35_20 rfl rfl rfl ?_
    refine X.ldc 23 i35_21 rfl rfl (by decide) ?_
    refine X.aload_n 24 i35_23 rfl rfl rfl ?_
    refine X.getI 27 9 i35_24 rfl rfl (by decide) rfl rfl rfl ?_
    refine X.isub 28 i35_27 rfl rfl (by omega) ?_
    refine X.minI 31 i35_28 rfl rfl (by omega) (Nat.le_of_ble_eq_true rfl) ?_
    refine X.istore 33 [(0, zr g0 8), (1, zi a1), (2, zi a2), (3, zi a3), (4, zi (max 1 (m g0 10 4))), (5, zi (min a1 (2000000000 - (m g0 8 9))))] i35_31 rfl rfl rfl ?_
    refine X.iload 35 i35_33 rfl rfl rfl ?_
    refine X.aload_n 36 i35_35 rfl rfl rfl ?_
    refine X.getR 39 i35_36 rfl rfl (by decide) rfl rfl ?_
    refine X.aload_n 40 i35_39 rfl rfl rfl ?_
    refine X.getI 43 9 i35_40 rfl rfl (by decide) rfl rfl rfl ?_
    refine X.callv 46 [zi (m g0 8 9)] [zi (min a1 (2000000000 - (m g0 8 9)))] [(0, zr g0 11), (1, zi (m g0 8 9))] i35_43 rfl (by decide) rfl rfl (by omega) rfl rfl (by decide) rfl t37 (Nat.le_of_ble_eq_true rfl) (Nat.le_of_ble_eq_true rfl) rfl ?_
    refine c37_1 (B := B) g0 (m g0 8 9) (by omega) (hJ.up (by omega)) (by omega) (by omega) (fun v506 hv506 hFv506 hqv506_0 => ?_)
    show X (EE s) d 35 46 [(0, zr g0 8), (1, zi a1), (2, zi a2), (3, zi a3), (4, zi (max 1 (m g0 10 4))), (5, zi (min a1 (2000000000 - (m g0 8 9))))] [zi v506, zi (min a1 (2000000000 - (m g0 8 9)))] m _
    refine X.aload_n 47 i35_46 rfl rfl rfl ?_
    refine X.getI 50 9 i35_47 rfl rfl (by decide) rfl rfl rfl ?_
    refine X.isub 51 i35_50 rfl rfl (by omega) ?_
    refine X.minI 54 i35_51 rfl rfl (by omega) (Nat.le_of_ble_eq_true rfl) ?_
    refine X.istore 56 [(0, zr g0 8), (1, zi a1), (2, zi a2), (3, zi a3), (4, zi (max 1 (m g0 10 4))), (5, zi (min (min a1 (2000000000 - (m g0 8 9))) (v506 - (m g0 8 9))))] i35_54 rfl rfl rfl ?_
    refine X.iload 58 i35_56 rfl rfl rfl ?_
    refine X.iload 60 i35_58 rfl rfl rfl ?_
    refine X.aload_n 61 i35_60 rfl rfl rfl ?_
    refine X.getI 64 9 i35_61 rfl rfl (by decide) rfl rfl rfl ?_
    refine X.iload 66 i35_64 rfl rfl rfl ?_
    refine X.irem 67 i35_66 rfl rfl (by omega) ?_
    have hz507 := z_modb (x := (m g0 8 9)) (y := (max 1 (m g0 10 4))) (by omega) (by omega)
    obtain ⟨z507, ez507⟩ : ∃ z, z = ((m g0 8 9) % (max 1 (m g0 10 4))) := ⟨_, rfl⟩
    rw [← ez507] at hz507 ⊢
    refine X.isub 68 i35_67 rfl rfl (by omega) ?_
    refine X.minI 71 i35_68 rfl rfl (by omega) (Nat.le_of_ble_eq_true rfl) ?_
    refine X.istore 73 [(0, zr g0 8), (1, zi a1), (2, zi a2), (3, zi a3), (4, zi (max 1 (m g0 10 4))), (5, zi (min (min (min a1 (2000000000 - (m g0 8 9))) (v506 - (m g0 8 9))) ((max 1 (m g0 10 4)) - z507)))] i35_71 rfl rfl rfl ?_
    refine X.aload_n 74 i35_73 rfl rfl rfl ?_
    refine X.getR 77 i35_74 rfl rfl (by decide) rfl rfl ?_
    refine X.iload_n 78 i35_77 rfl rfl rfl ?_
    refine X.aload_n 79 i35_78 rfl rfl rfl ?_
    refine X.getR 82 i35_79 rfl rfl (by decide) rfl rfl ?_
    refine X.callv 85 [] [zi a3, zr g0 33] [(0, zr g0 9)] i35_82 rfl (by decide) rfl rfl (by omega) rfl rfl (by decide) rfl t38 (Nat.le_of_ble_eq_true rfl) (Nat.le_of_ble_eq_true rfl) rfl ?_
    refine X.aload_n 1 i38_0 rfl rfl rfl ?_
    refine X.getR 4 i38_1 rfl rfl (by decide) rfl rfl ?_
    refine X.iconst 5 i38_4 rfl rfl (by decide) ?_
    refine X.iald 6 i38_5 rfl rfl (by decide) rfl (by omega) ?_
    have h508 := r10_0 hJ g0 (i := 3) (by omega)
    refine X.reti i38_6 rfl t38 ?_
    show X (EE s) d 35 85 [(0, zr g0 8), (1, zi a1), (2, zi a2), (3, zi a3), (4, zi (max 1 (m g0 10 4))), (5, zi (min (min (min a1 (2000000000 - (m g0 8 9))) (v506 - (m g0 8 9))) ((max 1 (m g0 10 4)) - z507)))] [zi (m g0 10 3), zi a3, zr g0 33] m _
    refine X.iload 87 i35_85 rfl rfl rfl ?_
    refine X.callv 90 [zi a3, zi (m g0 10 3), zi (min (min (min a1 (2000000000 - (m g0 8 9))) (v506 - (m g0 8 9))) ((max 1 (m g0 10 4)) - z507))] [] [(0, zr g0 33), (1, zi a3), (2, zi (m g0 10 3)), (3, zi (min (min (min a1 (2000000000 - (m g0 8 9))) (v506 - (m g0 8 9))) ((max 1 (m g0 10 4)) - z507)))] i35_87 rfl (by decide) rfl rfl (by omega) rfl rfl (by decide) rfl t39 (Nat.le_of_ble_eq_true rfl) (Nat.le_of_ble_eq_true rfl) rfl ?_
    refine c39_1 (B := B) g0 a3 (m g0 10 3) (min (min (min a1 (2000000000 - (m g0 8 9))) (v506 - (m g0 8 9))) ((max 1 (m g0 10 4)) - z507)) (by omega) (hJ.up (by omega)) (by omega) (by omega) (by omega) (by omega) (by omega) (fun v511 hv511 hFv511 hqv511_0 hqv511_1 => ?_)
    show X (EE s) d 35 90 [(0, zr g0 8), (1, zi a1), (2, zi a2), (3, zi a3), (4, zi (max 1 (m g0 10 4))), (5, zi (min (min (min a1 (2000000000 - (m g0 8 9))) (v506 - (m g0 8 9))) ((max 1 (m g0 10 4)) - z507)))] [zi v511] m _
    refine X.istore 92 [(0, zr g0 8), (1, zi a1), (2, zi a2), (3, zi a3), (4, zi (max 1 (m g0 10 4))), (5, zi v511)] i35_90 rfl rfl rfl ?_
    refine X.aload_n 93 i35_92 rfl rfl rfl ?_
    refine X.iload_n 94 i35_93 rfl rfl rfl ?_
    refine X.iload 96 i35_94 rfl rfl rfl ?_
    refine X.callv 99 [zi a2, zi v511] [] [(0, zr g0 8), (1, zi a2), (2, zi v511)] i35_96 rfl (by decide) rfl rfl (by omega) rfl rfl (by decide) rfl t41 (Nat.le_of_ble_eq_true rfl) (Nat.le_of_ble_eq_true rfl) rfl ?_
    refine c41_1 (B := B) g0 a2 v511 (by omega) (hJ.up (by omega)) (by omega) (by omega) (by omega) (by omega) (fun v514 hv514 hFv514 hqv514_0 hqv514_1 => ?_)
    show X (EE s) d 35 99 [(0, zr g0 8), (1, zi a1), (2, zi a2), (3, zi a3), (4, zi (max 1 (m g0 10 4))), (5, zi v511)] [zi v514] m _
    refine X.reti i35_99 rfl t35 ?_
    exact hQ v514 (by first | trivial | omega) (Eq.trans (if_pos h502) (Eq.trans (zn_eq hFv506.symm) (Eq.trans (zn_eq ez507) (Eq.trans (zn_eq hFv511.symm) (Eq.trans (zn_eq hFv514.symm) rfl))))) (by omega) (by omega) (by omega)
  · refine X.iconst 10 i35_9 rfl rfl (by decide) ?_
    refine X.reti i35_10 rfl t35 ?_
    exact hQ 1 (by first | trivial | omega) (Eq.trans (if_neg h502) rfl) (by omega) (by omega) (by omega)
-- WorkMeter$Wave.quadrantOf
def f51_1 (a0 a1 : Int) (m : zM) : Int :=
  if a0 < 0 then
  (zn (if a1 < 0 then
  (3)
  else
  (2)) fun v505 =>
  v505)
  else
  (zn (if a1 < 0 then
  (4)
  else
  (1)) fun v512 =>
  v512)
-- WorkMeter$Wave.quadrantOf
theorem c51_1 {s : Nat × (Nat → Int32)} {S : zS} {m0 m : zM} {B : Int} {d : Nat} {Q : Option zV → zM → Prop} (a0 a1 : Int) (hd : 13 ≤ d) (hJ : J S m0 B m) (hB : B + 0 ≤ 1000000000) (hQ : ∀ (v : Int), (1 ≤ v ∧ v ≤ 4) → f51_1 a0 a1 m = v → Q (some (zi v)) m) : X (EE s) d 51 0 [(0, zl a0), (2, zl a1)] [] m Q := by
  refine X.lload_n 1 i51_0 rfl rfl rfl ?_
  refine X.lconst (y := 0) 2 i51_1 rfl rfl rfl ?_
  refine X.lcmp 3 i51_2 rfl rfl (fun z501 hz501 => ?_)
  refine X.iflt 18 6 i51_3 rfl rfl rfl (fun h502 => ?_) (fun h502 => ?_)
  · have h502c : a0 < 0 := by omega
    clear h502 hz501
    refine X.cut [(2, zl a1)] i51_18 rfl ?_
    refine X.lload_n 19 i51_18 rfl rfl rfl ?_
    refine X.lconst (y := 0) 20 i51_19 rfl rfl rfl ?_
    refine X.lcmp 21 i51_20 rfl rfl (fun z503 hz503 => ?_)
    have hK508 : ∀ (v : Int) , (2 ≤ v ∧ v ≤ 3) → (if a1 < 0 then
        (3)
        else
        (2)) = v → X (EE s) d 51 29 [] [zi v] m Q := by
      intro v505 hv505 hT509
      refine X.reti i51_29 rfl t51 ?_
      exact hQ v505 (by first | trivial | omega) (Eq.trans (if_pos h502c) (Eq.trans (zn_eq hT509.symm) rfl)) 
    refine X.iflt 28 24 i51_21 rfl rfl rfl (fun h504 => ?_) (fun h504 => ?_)
    · have h504c : a1 < 0 := by omega
      clear h504 hz503
      refine X.cut [] i51_28 rfl ?_
      refine X.iconst 29 i51_28 rfl rfl (by decide) ?_
      exact hK508 3 (by first | trivial | omega) (Eq.trans (if_pos h504c) rfl)
    · have h504c : ¬ a1 < 0 := by omega
      clear h504 hz503
      refine X.iconst 25 i51_24 rfl rfl (by decide) ?_
      refine X.goto 29 i51_25 rfl rfl ?_
      refine X.cut [] i51_29 rfl ?_
      exact hK508 2 (by first | trivial | omega) (Eq.trans (if_neg h504c) rfl)
  · have h502c : ¬ a0 < 0 := by omega
    clear h502 hz501
    refine X.lload_n 7 i51_6 rfl rfl rfl ?_
    refine X.lconst (y := 0) 8 i51_7 rfl rfl rfl ?_
    refine X.lcmp 9 i51_8 rfl rfl (fun z510 hz510 => ?_)
    have hK515 : ∀ (v : Int) , (1 ≤ v ∧ v ≤ 4) → (if a1 < 0 then
        (4)
        else
        (1)) = v → X (EE s) d 51 17 [] [zi v] m Q := by
      intro v512 hv512 hT516
      refine X.reti i51_17 rfl t51 ?_
      exact hQ v512 (by first | trivial | omega) (Eq.trans (if_neg h502c) (Eq.trans (zn_eq hT516.symm) rfl)) 
    refine X.iflt 16 12 i51_9 rfl rfl rfl (fun h511 => ?_) (fun h511 => ?_)
    · have h511c : a1 < 0 := by omega
      clear h511 hz510
      refine X.cut [] i51_16 rfl ?_
      refine X.iconst 17 i51_16 rfl rfl (by decide) ?_
      exact hK515 4 (by first | trivial | omega) (Eq.trans (if_pos h511c) rfl)
    · have h511c : ¬ a1 < 0 := by omega
      clear h511 hz510
      refine X.iconst 13 i51_12 rfl rfl (by decide) ?_
      refine X.goto 17 i51_13 rfl rfl ?_
      refine X.cut [] i51_17 rfl ?_
      exact hK515 1 (by first | trivial | omega) (Eq.trans (if_neg h511c) rfl)
-- WorkMeter$Registers.count
def f50_1 (g0 : Nat) (a1 a2 a3 a4 : Int) (m : zM) : zM :=
  zs (if a2 ≤ 0 then
  (zn (w64 ((m g0 24 (4 + a1)) - a2)) fun z503 =>
  zs (z_upd m g0 24 (4 + a1) z503) fun m504 =>
  m504)
  else
  (zn (w64 ((m g0 24 (0 + a1)) + a2)) fun z506 =>
  zs (z_upd m g0 24 (0 + a1) z506) fun m507 =>
  m507)) fun m510 =>
  zn (f51_1 a2 a3 m510) fun v516 =>
  zn (w64 (max a3 (-a3))) fun z517 =>
  zn (w64 ((m510 g0 24 ((((2 + v516) - 1) * 4) + a1)) + z517)) fun z518 =>
  zs (z_upd m510 g0 24 ((((2 + v516) - 1) * 4) + a1) z518) fun m519 =>
  zn (w64 ((m519 g0 24 (24 + a1)) + a4)) fun z521 =>
  zs (z_upd m519 g0 24 (24 + a1) z521) fun m522 =>
  m522
-- WorkMeter$Registers.count
theorem c50_1 {s : Nat × (Nat → Int32)} {S : zS} {m0 m : zM} {B : Int} {d : Nat} {Q : Option zV → zM → Prop} (g0 : Nat) (a1 a2 a3 a4 : Int) (hd : 14 ≤ d) (hJ : J S m0 B m) (hB : B + 0 ≤ 1000000000) (ha1 : 0 ≤ a1 ∧ a1 ≤ 3) (hf10 : ¬ S.1 10) (hgg0 : ¬ S.2.1 g0) (hQ : ∀ m', f50_1 g0 a1 a2 a3 a4 m = m' → J S m0 (B) m' → Q none m') : X (EE s) d 50 0 [(0, zr g0 23), (1, zi a1), (2, zl a2), (4, zl a3), (6, zl a4)] [] m Q := by
  refine X.lload_n 1 i50_0 rfl rfl rfl ?_
  refine X.lconst (y := 0) 2 i50_1 rfl rfl rfl ?_
  refine X.lcmp 3 i50_2 rfl rfl (fun z501 hz501 => ?_)
  have hK512 : ∀ (m' : zM), (if a2 ≤ 0 then
      (zn (w64 ((m g0 24 (4 + a1)) - a2)) fun z503 =>
      zs (z_upd m g0 24 (4 + a1) z503) fun m504 =>
      m504)
      else
      (zn (w64 ((m g0 24 (0 + a1)) + a2)) fun z506 =>
      zs (z_upd m g0 24 (0 + a1) z506) fun m507 =>
      m507)) = m' → J S m0 (B) m' → X (EE s) d 50 33 [(0, zr g0 23), (1, zi a1), (2, zl a2), (4, zl a3), (6, zl a4)] [] m' Q := by
    intro m510 hT513 hJ511
    refine X.iconst 34 i50_33 rfl rfl (by decide) ?_
    refine X.lload_n 35 i50_34 rfl rfl rfl ?_
    refine X.lload 37 i50_35 rfl rfl rfl ?_
    refine X.calls 40 [zl a2, zl a3] [zi 2] [(0, zl a2), (2, zl a3)] i50_37 (by decide) rfl rfl (by omega) rfl rfl t51 (Nat.le_of_ble_eq_true rfl) (Nat.le_of_ble_eq_true rfl) rfl ?_
    refine c51_1 (B := B)  a2 a3 (by omega) (hJ511.up (by omega)) (by omega)  (fun v516 hv516 hFv516 => ?_)
    show X (EE s) d 50 40 [(0, zr g0 23), (1, zi a1), (2, zl a2), (4, zl a3), (6, zl a4)] [zi v516, zi 2] m510 _
    refine X.iadd 41 i50_40 rfl rfl (by omega) ?_
    refine X.iconst 42 i50_41 rfl rfl (by decide) ?_
    refine X.isub 43 i50_42 rfl rfl (by omega) ?_
    refine X.istore 45 [(0, zr g0 23), (1, zi a1), (2, zl a2), (4, zl a3), (6, zl a4), (8, zi ((2 + v516) - 1))] i50_43 rfl rfl rfl ?_
    refine X.aload_n 46 i50_45 rfl rfl rfl ?_
    refine X.getR 49 i50_46 rfl rfl (by decide) rfl rfl ?_
    refine X.iload 51 i50_49 rfl rfl rfl ?_
    refine X.iconst 52 i50_51 rfl rfl (by decide) ?_
    refine X.imul 53 i50_52 rfl rfl (by omega) ?_
    refine X.iload_n 54 i50_53 rfl rfl rfl ?_
    refine X.iadd 55 i50_54 rfl rfl (by omega) ?_
    refine X.dup2 56 i50_55 rfl rfl ?_
    refine X.lald 57 i50_56 rfl rfl (by decide) rfl (by omega) ?_
    refine X.lload 59 i50_57 rfl rfl rfl ?_
    refine X.absW 62 i50_59 rfl rfl (by omega) (Nat.le_of_ble_eq_true rfl) (fun z517 ez517 hz517 => ?_)
    refine X.laddW 63 i50_62 rfl rfl (fun z518 ez518 hz518 => ?_)
    refine X.last' 64 i50_63 rfl rfl (by decide) rfl (by omega) (fun hrm519 m519 hm519 => ?_)
    have hJ520 := w24_0 hJ511 hm519 (by omega) hrm519 hf10 hgg0
    refine X.aload_n 65 i50_64 rfl rfl rfl ?_
    refine X.getR 68 i50_65 rfl rfl (by decide) rfl rfl ?_
    refine X.bipush 70 i50_68 rfl rfl (by decide) ?_
    refine X.iload_n 71 i50_70 rfl rfl rfl ?_
    refine X.iadd 72 i50_71 rfl rfl (by omega) ?_
    refine X.dup2 73 i50_72 rfl rfl ?_
    refine X.lald 74 i50_73 rfl rfl (by decide) rfl (by omega) ?_
    refine X.lload 76 i50_74 rfl rfl rfl ?_
    refine X.laddW 77 i50_76 rfl rfl (fun z521 ez521 hz521 => ?_)
    refine X.last' 78 i50_77 rfl rfl (by decide) rfl (by omega) (fun hrm522 m522 hm522 => ?_)
    have hJ523 := w24_0 hJ520 hm522 (by omega) hrm522 hf10 hgg0
    refine X.retv i50_78 rfl t50 ?_
    exact hQ  m522  (Eq.trans (zs_eq hT513.symm) (Eq.trans (zn_eq hFv516.symm) (Eq.trans (zn_eq ez517) (Eq.trans (zn_eq ez518) (Eq.trans (zs_eq hm519) (Eq.trans (zn_eq ez521) (Eq.trans (zs_eq hm522) rfl))))))) (hJ523.up (by omega)) 
  refine X.ifle 21 6 i50_3 rfl rfl rfl (fun h502 => ?_) (fun h502 => ?_)
  · have h502c : a2 ≤ 0 := by omega
    clear h502 hz501
    refine X.aload_n 22 i50_21 rfl rfl rfl ?_
    refine X.getR 25 i50_22 rfl rfl (by decide) rfl rfl ?_
    refine X.iconst 26 i50_25 rfl rfl (by decide) ?_
    refine X.iload_n 27 i50_26 rfl rfl rfl ?_
    refine X.iadd 28 i50_27 rfl rfl (by omega) ?_
    refine X.dup2 29 i50_28 rfl rfl ?_
    refine X.lald 30 i50_29 rfl rfl (by decide) rfl (by omega) ?_
    refine X.lload_n 31 i50_30 rfl rfl rfl ?_
    refine X.lsubW 32 i50_31 rfl rfl (fun z503 ez503 hz503 => ?_)
    refine X.last' 33 i50_32 rfl rfl (by decide) rfl (by omega) (fun hrm504 m504 hm504 => ?_)
    have hJ505 := w24_0 hJ hm504 (by omega) hrm504 hf10 hgg0
    exact hK512 m504 (Eq.trans (if_pos h502c) (Eq.trans (zn_eq ez503) (Eq.trans (zs_eq hm504) rfl))) (hJ505.up (by omega))
  · have h502c : ¬ a2 ≤ 0 := by omega
    clear h502 hz501
    refine X.aload_n 7 i50_6 rfl rfl rfl ?_
    refine X.getR 10 i50_7 rfl rfl (by decide) rfl rfl ?_
    refine X.iconst 11 i50_10 rfl rfl (by decide) ?_
    refine X.iload_n 12 i50_11 rfl rfl rfl ?_
    refine X.iadd 13 i50_12 rfl rfl (by omega) ?_
    refine X.dup2 14 i50_13 rfl rfl ?_
    refine X.lald 15 i50_14 rfl rfl (by decide) rfl (by omega) ?_
    refine X.lload_n 16 i50_15 rfl rfl rfl ?_
    refine X.laddW 17 i50_16 rfl rfl (fun z506 ez506 hz506 => ?_)
    refine X.last' 18 i50_17 rfl rfl (by decide) rfl (by omega) (fun hrm507 m507 hm507 => ?_)
    have hJ508 := w24_0 hJ hm507 (by omega) hrm507 hf10 hgg0
    refine X.goto 33 i50_18 rfl rfl ?_
    exact hK512 m507 (Eq.trans (if_neg h502c) (Eq.trans (zn_eq ez506) (Eq.trans (zs_eq hm507) rfl))) (hJ508.up (by omega))
-- WorkMeter$Load.addPower
def f52_1 (g0 : Nat) (a1 a2 : Int) (m : zM) : zM :=
  zs (if a1 ≤ 0 then
  (zn (w64 ((m g0 27 4) - a1)) fun z503 =>
  zs (z_upd m g0 27 4 z503) fun m504 =>
  m504)
  else
  (zn (w64 ((m g0 27 3) + a1)) fun z506 =>
  zs (z_upd m g0 27 3 z506) fun m507 =>
  m507)) fun m510 =>
  zn (w64 ((m510 g0 27 5) + a2)) fun z514 =>
  zs (z_upd m510 g0 27 5 z514) fun m515 =>
  m515
-- WorkMeter$Load.addPower
theorem c52_1 {s : Nat × (Nat → Int32)} {S : zS} {m0 m : zM} {B : Int} {d : Nat} {Q : Option zV → zM → Prop} (g0 : Nat) (a1 a2 : Int) (hd : 13 ≤ d) (hJ : J S m0 B m) (hB : B + 0 ≤ 1000000000) (hf7 : ¬ S.1 7) (hgg0 : ¬ S.2.1 g0) (hQ : ∀ m', f52_1 g0 a1 a2 m = m' → J S m0 (B) m' → Q none m') : X (EE s) d 52 0 [(0, zr g0 27), (1, zl a1), (3, zl a2)] [] m Q := by
  refine X.lload_n 1 i52_0 rfl rfl rfl ?_
  refine X.lconst (y := 0) 2 i52_1 rfl rfl rfl ?_
  refine X.lcmp 3 i52_2 rfl rfl (fun z501 hz501 => ?_)
  have hK512 : ∀ (m' : zM), (if a1 ≤ 0 then
      (zn (w64 ((m g0 27 4) - a1)) fun z503 =>
      zs (z_upd m g0 27 4 z503) fun m504 =>
      m504)
      else
      (zn (w64 ((m g0 27 3) + a1)) fun z506 =>
      zs (z_upd m g0 27 3 z506) fun m507 =>
      m507)) = m' → J S m0 (B) m' → X (EE s) d 52 29 [(0, zr g0 27), (3, zl a2)] [] m' Q := by
    intro m510 hT513 hJ511
    refine X.aload_n 30 i52_29 rfl rfl rfl ?_
    refine X.dup 31 i52_30 rfl rfl rfl ?_
    refine X.getL 34 5 i52_31 rfl rfl (by decide) rfl rfl rfl ?_
    refine X.lload_n 35 i52_34 rfl rfl rfl ?_
    refine X.laddW 36 i52_35 rfl rfl (fun z514 ez514 hz514 => ?_)
    refine X.putL' 39 5 i52_36 rfl rfl (by decide) rfl rfl rfl (fun hrm515 m515 hm515 => ?_)
    have hJ516 := w27_3 hJ511 hm515 (by omega) hrm515 hf7 hgg0
    refine X.retv i52_39 rfl t52 ?_
    exact hQ  m515  (Eq.trans (zs_eq hT513.symm) (Eq.trans (zn_eq ez514) (Eq.trans (zs_eq hm515) rfl))) (hJ516.up (by omega)) 
  refine X.ifle 19 6 i52_3 rfl rfl rfl (fun h502 => ?_) (fun h502 => ?_)
  · have h502c : a1 ≤ 0 := by omega
    clear h502 hz501
    refine X.aload_n 20 i52_19 rfl rfl rfl ?_
    refine X.dup 21 i52_20 rfl rfl rfl ?_
    refine X.getL 24 4 i52_21 rfl rfl (by decide) rfl rfl rfl ?_
    refine X.lload_n 25 i52_24 rfl rfl rfl ?_
    refine X.lsubW 26 i52_25 rfl rfl (fun z503 ez503 hz503 => ?_)
    refine X.putL' 29 4 i52_26 rfl rfl (by decide) rfl rfl rfl (fun hrm504 m504 hm504 => ?_)
    have hJ505 := w27_3 hJ hm504 (by omega) hrm504 hf7 hgg0
    refine X.cut [(0, zr g0 27), (3, zl a2)] i52_29 rfl ?_
    exact hK512 m504 (Eq.trans (if_pos h502c) (Eq.trans (zn_eq ez503) (Eq.trans (zs_eq hm504) rfl))) (hJ505.up (by omega))
  · have h502c : ¬ a1 ≤ 0 := by omega
    clear h502 hz501
    refine X.aload_n 7 i52_6 rfl rfl rfl ?_
    refine X.dup 8 i52_7 rfl rfl rfl ?_
    refine X.getL 11 3 i52_8 rfl rfl (by decide) rfl rfl rfl ?_
    refine X.lload_n 12 i52_11 rfl rfl rfl ?_
    refine X.laddW 13 i52_12 rfl rfl (fun z506 ez506 hz506 => ?_)
    refine X.putL' 16 3 i52_13 rfl rfl (by decide) rfl rfl rfl (fun hrm507 m507 hm507 => ?_)
    have hJ508 := w27_3 hJ hm507 (by omega) hrm507 hf7 hgg0
    refine X.goto 29 i52_16 rfl rfl ?_
    refine X.cut [(0, zr g0 27), (3, zl a2)] i52_29 rfl ?_
    exact hK512 m507 (Eq.trans (if_neg h502c) (Eq.trans (zn_eq ez506) (Eq.trans (zs_eq hm507) rfl))) (hJ508.up (by omega))
-- WorkMeter$Meter.meterPower
def f49_1 (g0 : Nat) (a1 a2 : Int) (m : zM) : zM :=
  zn (f44_1 g0 m) fun v503 =>
  if v503 = 0 then
  (if (m g0 8 12) = 0 then
  (zn (w64 ((m g0 22 3) * a1)) fun z507 =>
  zn (w64 ((m g0 19 6) * a1)) fun z508 =>
  zn (w64 (((m g0 24 (0 + a2))).tdiv (max 1 (m g0 10 1)))) fun z510 =>
  zn (w64 ((m g0 22 7) * a1)) fun z511 =>
  zs (f50_1 g0 a2 z507 z511 z508 m) fun m512 =>
  zn (w64 (((m512 g0 24 (0 + a2))).tdiv (max 1 (m512 g0 10 1)))) fun z516 =>
  zn (w64 (z516 - z510)) fun z517 =>
  zn (w64 (z517 * (m512 g0 10 (6 + a2)))) fun z519 =>
  zn (w64 ((m512 g0 8 10) - z519)) fun z520 =>
  zs (z_upd m512 g0 8 10 z520) fun m521 =>
  zs (f52_1 g0 z507 z508 m521) fun m523 =>
  m523)
  else
  (m))
  else
  (zn (w32 ((m g0 8 14) + a1)) fun z527 =>
  zs (z_upd m g0 8 14 z527) fun m528 =>
  m528)
-- WorkMeter$Meter.meterPower
theorem c49_1 {s : Nat × (Nat → Int32)} {S : zS} {m0 m : zM} {B : Int} {d : Nat} {Q : Option zV → zM → Prop} (g0 : Nat) (a1 a2 : Int) (hd : 15 ≤ d) (hJ : J S m0 B m) (hB : B + 0 ≤ 1000000000) (ha1 : 1 ≤ a1 ∧ a1 ≤ 3600) (ha2 : 0 ≤ a2 ∧ a2 ≤ 3) (hf7 : ¬ S.1 7) (hf10 : ¬ S.1 10) (hf12 : ¬ S.1 12) (hf13 : ¬ S.1 13) (hgg0 : ¬ S.2.1 g0) (hQ : ∀ m', f49_1 g0 a1 a2 m = m' → J S m0 (B) m' → Q none m') : X (EE s) d 49 0 [(0, zr g0 8), (1, zi a1), (2, zi a2)] [] m Q := by
  refine X.aload_n 1 i49_0 rfl rfl rfl ?_
  refine X.callv 4 [] [] [(0, zr g0 8)] i49_1 rfl (by decide) rfl rfl (by omega) rfl rfl (by decide) rfl t44 (Nat.le_of_ble_eq_true rfl) (Nat.le_of_ble_eq_true rfl) rfl ?_
  refine c44_1 (B := B) g0  (by omega) (hJ.up (by omega)) (by omega)  (fun v503 hv503 hFv503 => ?_)
  show X (EE s) d 49 4 [(0, zr g0 8), (1, zi a1), (2, zi a2)] [zi v503] m _
  refine X.ifeq 18 7 i49_4 rfl rfl rfl (fun h504 => ?_) (fun h504 => ?_)
  · refine X.aload_n 19 i49_18 rfl rfl rfl ?_
    refine X.getZ 22 12 i49_19 rfl rfl (by decide) rfl rfl rfl (fun h505 => ?_)
    refine X.ifeq 26 25 i49_22 rfl rfl rfl (fun h506 => ?_) (fun h506 => ?_)
    · refine X.aload_n 27 i49_26 rfl rfl rfl ?_
      refine X.getR 30 i49_27 rfl rfl (by decide) rfl rfl ?_
      refine X.callv 33 [] [] [(0, zr g0 19)] i49_30 rfl (by decide) rfl rfl (by omega) rfl rfl (by decide) rfl t42 (Nat.le_of_ble_eq_true rfl) (Nat.le_of_ble_eq_true rfl) rfl ?_
      refine X.aload_n 1 i42_0 rfl rfl rfl ?_
      refine X.getR 4 i42_1 rfl rfl (by decide) rfl rfl ?_
      refine X.iconst 5 i42_4 rfl rfl (by decide) ?_
      refine X.lald 6 i42_5 rfl rfl (by decide) rfl (by omega) ?_
      refine X.retl i42_6 rfl t42 ?_
      show X (EE s) d 49 33 [(0, zr g0 8), (1, zi a1), (2, zi a2)] [zl (m g0 22 3)] m _
      refine X.iload_n 34 i49_33 rfl rfl rfl ?_
      refine X.i2l 35 i49_34 rfl rfl ?_
      refine X.lmulW 36 i49_35 rfl rfl (fun z507 ez507 hz507 => ?_)
      refine X.lstore_n 37 [(0, zr g0 8), (1, zi a1), (2, zi a2), (3, zl z507)] i49_36 rfl rfl rfl ?_
      refine X.aload_n 38 i49_37 rfl rfl rfl ?_
      refine X.getR 41 i49_38 rfl rfl (by decide) rfl rfl ?_
      refine X.getL 44 6 i49_41 rfl rfl (by decide) rfl rfl rfl ?_
      refine X.iload_n 45 i49_44 rfl rfl rfl ?_
      refine X.i2l 46 i49_45 rfl rfl ?_
      refine X.lmulW 47 i49_46 rfl rfl (fun z508 ez508 hz508 => ?_)
      refine X.lstore 49 [(0, zr g0 8), (1, zi a1), (2, zi a2), (3, zl z507), (5, zl z508)] i49_47 rfl rfl rfl ?_
      refine X.aload_n 50 i49_49 rfl rfl rfl ?_
      refine X.getR 53 i49_50 rfl rfl (by decide) rfl rfl ?_
      refine X.iload_n 54 i49_53 rfl rfl rfl ?_
      refine X.callv 57 [zi a2] [] [(0, zr g0 23), (1, zi a2)] i49_54 rfl (by decide) rfl rfl (by omega) rfl rfl (by decide) rfl t47 (Nat.le_of_ble_eq_true rfl) (Nat.le_of_ble_eq_true rfl) rfl ?_
      refine X.aload_n 1 i47_0 rfl rfl rfl ?_
      refine X.getR 4 i47_1 rfl rfl (by decide) rfl rfl ?_
      refine X.iconst 5 i47_4 rfl rfl (by decide) ?_
      refine X.iload_n 6 i47_5 rfl rfl rfl ?_
      refine X.iadd 7 i47_6 rfl rfl (by omega) ?_
      refine X.lald 8 i47_7 rfl rfl (by decide) rfl (by omega) ?_
      refine X.retl i47_8 rfl t47 ?_
      show X (EE s) d 49 57 [(0, zr g0 8), (1, zi a1), (2, zi a2), (3, zl z507), (5, zl z508)] [zl (m g0 24 (0 + a2))] m _
      refine X.aload_n 58 i49_57 rfl rfl rfl ?_
      refine X.getR 61 i49_58 rfl rfl (by decide) rfl rfl ?_
      refine X.callv 64 [] [zl (m g0 24 (0 + a2))] [(0, zr g0 9)] i49_61 rfl (by decide) rfl rfl (by omega) rfl rfl (by decide) rfl t48 (Nat.le_of_ble_eq_true rfl) (Nat.le_of_ble_eq_true rfl) rfl ?_
      refine X.iconst 1 i48_0 rfl rfl (by decide) ?_
      refine X.aload_n 2 i48_1 rfl rfl rfl ?_
      refine X.getR 5 i48_2 rfl rfl (by decide) rfl rfl ?_
      refine X.iconst 6 i48_5 rfl rfl (by decide) ?_
      refine X.iald 7 i48_6 rfl rfl (by decide) rfl (by omega) ?_
      have h509 := r10_0 hJ g0 (i := 1) (by omega)
      refine X.maxI 10 i48_7 rfl rfl (by omega) (Nat.le_of_ble_eq_true rfl) ?_
      refine X.reti i48_10 rfl t48 ?_
      show X (EE s) d 49 64 [(0, zr g0 8), (1, zi a1), (2, zi a2), (3, zl z507), (5, zl z508)] [zi (max 1 (m g0 10 1)), zl (m g0 24 (0 + a2))] m _
      refine X.i2l 65 i49_64 rfl rfl ?_
      refine X.ldivW 66 i49_65 rfl rfl (by omega) (fun z510 ez510 hz510 => ?_)
      refine X.lstore 68 [(0, zr g0 8), (1, zi a1), (2, zi a2), (3, zl z507), (5, zl z508), (7, zl z510)] i49_66 rfl rfl rfl ?_
      refine X.aload_n 69 i49_68 rfl rfl rfl ?_
      refine X.getR 72 i49_69 rfl rfl (by decide) rfl rfl ?_
      refine X.iload_n 73 i49_72 rfl rfl rfl ?_
      refine X.lload_n 74 i49_73 rfl rfl rfl ?_
      refine X.aload_n 75 i49_74 rfl rfl rfl ?_
      refine X.getR 78 i49_75 rfl rfl (by decide) rfl rfl ?_
      refine X.callv 81 [] [zl z507, zi a2, zr g0 23] [(0, zr g0 19)] i49_78 rfl (by decide) rfl rfl (by omega) rfl rfl (by decide) rfl t46 (Nat.le_of_ble_eq_true rfl) (Nat.le_of_ble_eq_true rfl) rfl ?_
      refine X.aload_n 1 i46_0 rfl rfl rfl ?_
      refine X.getR 4 i46_1 rfl rfl (by decide) rfl rfl ?_
      refine X.bipush 6 i46_4 rfl rfl (by decide) ?_
      refine X.lald 7 i46_6 rfl rfl (by decide) rfl (by omega) ?_
      refine X.retl i46_7 rfl t46 ?_
      show X (EE s) d 49 81 [(0, zr g0 8), (1, zi a1), (2, zi a2), (3, zl z507), (5, zl z508), (7, zl z510)] [zl (m g0 22 7), zl z507, zi a2, zr g0 23] m _
      refine X.iload_n 82 i49_81 rfl rfl rfl ?_
      refine X.i2l 83 i49_82 rfl rfl ?_
      refine X.lmulW 84 i49_83 rfl rfl (fun z511 ez511 hz511 => ?_)
      refine X.lload 86 i49_84 rfl rfl rfl ?_
      refine X.callv 89 [zi a2, zl z507, zl z511, zl z508] [] [(0, zr g0 23), (1, zi a2), (2, zl z507), (4, zl z511), (6, zl z508)] i49_86 rfl (by decide) rfl rfl (by omega) rfl rfl (by decide) rfl t50 (Nat.le_of_ble_eq_true rfl) (Nat.le_of_ble_eq_true rfl) rfl ?_
      refine c50_1 (B := B) g0 a2 z507 z511 z508 (by omega) (hJ.up (by omega)) (by omega) (by omega) hf10 hgg0 (fun m512 hFv514 hJ513 => ?_)
      show X (EE s) d 49 89 [(0, zr g0 8), (1, zi a1), (2, zi a2), (3, zl z507), (5, zl z508), (7, zl z510)] [] m512 _
      refine X.aload_n 90 i49_89 rfl rfl rfl ?_
      refine X.getR 93 i49_90 rfl rfl (by decide) rfl rfl ?_
      refine X.iload_n 94 i49_93 rfl rfl rfl ?_
      refine X.callv 97 [zi a2] [] [(0, zr g0 23), (1, zi a2)] i49_94 rfl (by decide) rfl rfl (by omega) rfl rfl (by decide) rfl t47 (Nat.le_of_ble_eq_true rfl) (Nat.le_of_ble_eq_true rfl) rfl ?_
      refine X.aload_n 1 i47_0 rfl rfl rfl ?_
      refine X.getR 4 i47_1 rfl rfl (by decide) rfl rfl ?_
      refine X.iconst 5 i47_4 rfl rfl (by decide) ?_
      refine X.iload_n 6 i47_5 rfl rfl rfl ?_
      refine X.iadd 7 i47_6 rfl rfl (by omega) ?_
      refine X.lald 8 i47_7 rfl rfl (by decide) rfl (by omega) ?_
      refine X.retl i47_8 rfl t47 ?_
      show X (EE s) d 49 97 [(0, zr g0 8), (1, zi a1), (2, zi a2), (3, zl z507), (5, zl z508), (7, zl z510)] [zl (m512 g0 24 (0 + a2))] m512 _
      refine X.aload_n 98 i49_97 rfl rfl rfl ?_
      refine X.getR 101 i49_98 rfl rfl (by decide) rfl rfl ?_
      refine X.callv 104 [] [zl (m512 g0 24 (0 + a2))] [(0, zr g0 9)] i49_101 rfl (by decide) rfl rfl (by omega) rfl rfl (by decide) rfl t48 (Nat.le_of_ble_eq_true rfl) (Nat.le_of_ble_eq_true rfl) rfl ?_
      refine X.iconst 1 i48_0 rfl rfl (by decide) ?_
      refine X.aload_n 2 i48_1 rfl rfl rfl ?_
      refine X.getR 5 i48_2 rfl rfl (by decide) rfl rfl ?_
      refine X.iconst 6 i48_5 rfl rfl (by decide) ?_
      refine X.iald 7 i48_6 rfl rfl (by decide) rfl (by omega) ?_
      have h515 := r10_0 hJ513 g0 (i := 1) (by omega)
      refine X.maxI 10 i48_7 rfl rfl (by omega) (Nat.le_of_ble_eq_true rfl) ?_
      refine X.reti i48_10 rfl t48 ?_
      show X (EE s) d 49 104 [(0, zr g0 8), (1, zi a1), (2, zi a2), (3, zl z507), (5, zl z508), (7, zl z510)] [zi (max 1 (m512 g0 10 1)), zl (m512 g0 24 (0 + a2))] m512 _
      refine X.i2l 105 i49_104 rfl rfl ?_
      refine X.ldivW 106 i49_105 rfl rfl (by omega) (fun z516 ez516 hz516 => ?_)
      refine X.lload 108 i49_106 rfl rfl rfl ?_
      refine X.lsubW 109 i49_108 rfl rfl (fun z517 ez517 hz517 => ?_)
      refine X.lstore 111 [(0, zr g0 8), (1, zi a1), (2, zi a2), (3, zl z507), (5, zl z508), (7, zl z510), (9, zl z517)] i49_109 rfl rfl rfl ?_
      refine X.aload_n 112 i49_111 rfl rfl rfl ?_
      refine X.dup 113 i49_112 rfl rfl rfl ?_
      refine X.getL 116 10 i49_113 rfl rfl (by decide) rfl rfl rfl ?_
      refine X.lload 118 i49_116 rfl rfl rfl ?_
      refine X.aload_n 119 i49_118 rfl rfl rfl ?_
      refine X.getR 122 i49_119 rfl rfl (by decide) rfl rfl ?_
      refine X.iload_n 123 i49_122 rfl rfl rfl ?_
      refine X.callv 126 [zi a2] [zl z517, zl (m512 g0 8 10), zr g0 8] [(0, zr g0 9), (1, zi a2)] i49_123 rfl (by decide) rfl rfl (by omega) rfl rfl (by decide) rfl t43 (Nat.le_of_ble_eq_true rfl) (Nat.le_of_ble_eq_true rfl) rfl ?_
      refine X.aload_n 1 i43_0 rfl rfl rfl ?_
      refine X.getR 4 i43_1 rfl rfl (by decide) rfl rfl ?_
      refine X.bipush 6 i43_4 rfl rfl (by decide) ?_
      refine X.iload_n 7 i43_6 rfl rfl rfl ?_
      refine X.iadd 8 i43_7 rfl rfl (by omega) ?_
      refine X.iald 9 i43_8 rfl rfl (by decide) rfl (by omega) ?_
      have h518 := r10_6 hJ513 g0 (i := (6 + a2)) (by omega)
      refine X.reti i43_9 rfl t43 ?_
      show X (EE s) d 49 126 [(0, zr g0 8), (1, zi a1), (2, zi a2), (3, zl z507), (5, zl z508), (7, zl z510), (9, zl z517)] [zi (m512 g0 10 (6 + a2)), zl z517, zl (m512 g0 8 10), zr g0 8] m512 _
      refine X.i2l 127 i49_126 rfl rfl ?_
      refine X.lmulW 128 i49_127 rfl rfl (fun z519 ez519 hz519 => ?_)
      refine X.lsubW 129 i49_128 rfl rfl (fun z520 ez520 hz520 => ?_)
      refine X.putL' 132 10 i49_129 rfl rfl (by decide) rfl rfl rfl (fun hrm521 m521 hm521 => ?_)
      have hJ522 := w8_10 hJ513 hm521 hrm521 hf12 hgg0
      refine X.aload_n 133 i49_132 rfl rfl rfl ?_
      refine X.getR 136 i49_133 rfl rfl (by decide) rfl rfl ?_
      refine X.lload_n 137 i49_136 rfl rfl rfl ?_
      refine X.lload 139 i49_137 rfl rfl rfl ?_
      refine X.callv 142 [zl z507, zl z508] [] [(0, zr g0 27), (1, zl z507), (3, zl z508)] i49_139 rfl (by decide) rfl rfl (by omega) rfl rfl (by decide) rfl t52 (Nat.le_of_ble_eq_true rfl) (Nat.le_of_ble_eq_true rfl) rfl ?_
      refine c52_1 (B := B) g0 z507 z508 (by omega) (hJ522.up (by omega)) (by omega)  hf7 hgg0 (fun m523 hFv525 hJ524 => ?_)
      show X (EE s) d 49 142 [(0, zr g0 8), (1, zi a1), (2, zi a2), (3, zl z507), (5, zl z508), (7, zl z510), (9, zl z517)] [] m523 _
      refine X.retv i49_142 rfl t49 ?_
      exact hQ  m523  (Eq.trans (zn_eq hFv503.symm) (Eq.trans (if_pos h504) (Eq.trans (if_pos h506) (Eq.trans (zn_eq ez507) (Eq.trans (zn_eq ez508) (Eq.trans (zn_eq ez510) (Eq.trans (zn_eq ez511) (Eq.trans (zs_eq hFv514.symm) (Eq.trans (zn_eq ez516) (Eq.trans (zn_eq ez517) (Eq.trans (zn_eq ez519) (Eq.trans (zn_eq ez520) (Eq.trans (zs_eq hm521) (Eq.trans (zs_eq hFv525.symm) rfl)))))))))))))) (hJ524.up (by omega)) 
    · refine X.retv i49_25 rfl t49 ?_
      exact hQ  m  (Eq.trans (zn_eq hFv503.symm) (Eq.trans (if_pos h504) (Eq.trans (if_neg h506) rfl))) (hJ.up (by omega)) 
  · refine X.aload_n 8 i49_7 rfl rfl rfl ?_
    refine X.dup 9 i49_8 rfl rfl rfl ?_
    refine X.getIr 12 14 i49_9 rfl rfl (by decide) rfl rfl rfl (fun h526 => ?_)
    refine X.iload_n 13 i49_12 rfl rfl rfl ?_
    refine X.iaddW 14 i49_13 rfl rfl (fun z527 ez527 hz527 => ?_)
    refine X.putI' 17 14 i49_14 rfl rfl (by decide) rfl rfl rfl (fun hrm528 m528 hm528 => ?_)
    have hJ529 := w8_14 hJ hm528 (by omega) hrm528 hf13 hgg0
    refine X.retv i49_17 rfl t49 ?_
    exact hQ  m528  (Eq.trans (zn_eq hFv503.symm) (Eq.trans (if_neg h504) (Eq.trans (zn_eq ez527) (Eq.trans (zs_eq hm528) rfl)))) (hJ529.up (by omega)) 
-- WorkMeter$Logbook.add
def f55_1 (g0 : Nat) (a1 a2 a3 : Int) (m : zM) : zM :=
  zs (z_upd m g0 38 (((m g0 37 1) % 40) * 3) a1) fun m502 =>
  zs (z_upd m502 g0 38 ((((m g0 37 1) % 40) * 3) + 1) a2) fun m504 =>
  zs (z_upd m504 g0 38 ((((m g0 37 1) % 40) * 3) + 2) a3) fun m506 =>
  zs (z_upd m506 g0 37 1 ((m506 g0 37 1) + 1)) fun m509 =>
  m509
-- WorkMeter$Logbook.add
theorem c55_1 {s : Nat × (Nat → Int32)} {S : zS} {m0 m : zM} {B : Int} {d : Nat} {Q : Option zV → zM → Prop} (g0 : Nat) (a1 a2 a3 : Int) (hd : 13 ≤ d) (hJ : J S m0 B m) (hB : B + 1 ≤ 1000000000) (ha1 : (-2147483648) ≤ a1 ∧ a1 ≤ 2147483647) (ha2 : 0 ≤ a2 ∧ a2 ≤ 40) (ha3 : (-2147483648) ≤ a3 ∧ a3 ≤ 2147483647) (hf6 : ¬ S.1 6) (hgg0 : ¬ S.2.1 g0) (hQ : ∀ m', f55_1 g0 a1 a2 a3 m = m' → J S m0 (B + 1) m' → Q none m') : X (EE s) d 55 0 [(0, zr g0 37), (1, zi a1), (2, zi a2), (3, zi a3)] [] m Q := by
  refine X.aload_n 1 i55_0 rfl rfl rfl ?_
  refine X.getI 4 1 i55_1 rfl rfl (by decide) rfl rfl rfl ?_
  have h501 := r37_1 hJ g0
  refine X.bipush 6 i55_4 rfl rfl (by decide) ?_
  refine X.irem 7 i55_6 rfl rfl (by omega) ?_
  refine X.iconst 8 i55_7 rfl rfl (by decide) ?_
  refine X.imul 9 i55_8 rfl rfl (by omega) ?_
  refine X.istore 11 [(0, zr g0 37), (1, zi a1), (2, zi a2), (3, zi a3), (4, zi (((m g0 37 1) % 40) * 3))] i55_9 rfl rfl rfl ?_
  refine X.aload_n 12 i55_11 rfl rfl rfl ?_
  refine X.getR 15 i55_12 rfl rfl (by decide) rfl rfl ?_
  refine X.iload 17 i55_15 rfl rfl rfl ?_
  refine X.iload_n 18 i55_17 rfl rfl rfl ?_
  refine X.iast' 19 i55_18 rfl rfl (by decide) rfl (by omega) (fun hrm502 m502 hm502 => ?_)
  have hJ503 := w38_0 hJ hm502 (by omega) hrm502 hf6 hgg0
  refine X.aload_n 20 i55_19 rfl rfl rfl ?_
  refine X.getR 23 i55_20 rfl rfl (by decide) rfl rfl ?_
  refine X.iload 25 i55_23 rfl rfl rfl ?_
  refine X.iconst 26 i55_25 rfl rfl (by decide) ?_
  refine X.iadd 27 i55_26 rfl rfl (by omega) ?_
  refine X.iload_n 28 i55_27 rfl rfl rfl ?_
  refine X.iast' 29 i55_28 rfl rfl (by decide) rfl (by omega) (fun hrm504 m504 hm504 => ?_)
  have hJ505 := w38_0 hJ503 hm504 (by omega) hrm504 hf6 hgg0
  refine X.aload_n 30 i55_29 rfl rfl rfl ?_
  refine X.getR 33 i55_30 rfl rfl (by decide) rfl rfl ?_
  refine X.iload 35 i55_33 rfl rfl rfl ?_
  refine X.iconst 36 i55_35 rfl rfl (by decide) ?_
  refine X.iadd 37 i55_36 rfl rfl (by omega) ?_
  refine X.iload_n 38 i55_37 rfl rfl rfl ?_
  refine X.iast' 39 i55_38 rfl rfl (by decide) rfl (by omega) (fun hrm506 m506 hm506 => ?_)
  have hJ507 := w38_0 hJ505 hm506 (by omega) hrm506 hf6 hgg0
  refine X.aload_n 40 i55_39 rfl rfl rfl ?_
  refine X.dup 41 i55_40 rfl rfl rfl ?_
  refine X.getI 44 1 i55_41 rfl rfl (by decide) rfl rfl rfl ?_
  have h508 := r37_1 hJ507 g0
  refine X.iconst 45 i55_44 rfl rfl (by decide) ?_
  refine X.iadd 46 i55_45 rfl rfl (by omega) ?_
  refine X.putI' 49 1 i55_46 rfl rfl (by decide) rfl rfl rfl (fun hrm509 m509 hm509 => ?_)
  have hJ510 := w37_1 (hJ507.up (B' := B + 1) (by omega)) hm509 (by omega) hf6 hgg0
  refine X.retv i55_49 rfl t55 ?_
  exact hQ  m509  (Eq.trans (zs_eq hm502) (Eq.trans (zs_eq hm504) (Eq.trans (zs_eq hm506) (Eq.trans (zs_eq hm509) rfl)))) (hJ510.up (by omega)) 
-- WorkMeter$Meter.note
def f54_1 (g0 : Nat) (a1 a2 : Int) (m : zM) : zM :=
  zs (f55_1 g0 (m g0 8 9) a1 a2 m) fun m502 =>
  m502
-- WorkMeter$Meter.note
theorem c54_1 {s : Nat × (Nat → Int32)} {S : zS} {m0 m : zM} {B : Int} {d : Nat} {Q : Option zV → zM → Prop} (g0 : Nat) (a1 a2 : Int) (hd : 14 ≤ d) (hJ : J S m0 B m) (hB : B + 1 ≤ 1000000000) (ha1 : 22 ≤ a1 ∧ a1 ≤ 23) (ha2 : 0 ≤ a2 ∧ a2 ≤ 0) (hf6 : ¬ S.1 6) (hgg0 : ¬ S.2.1 g0) (hQ : ∀ m', f54_1 g0 a1 a2 m = m' → J S m0 (B + 1) m' → Q none m') : X (EE s) d 54 0 [(0, zr g0 8), (1, zi a1), (2, zi a2)] [] m Q := by
  refine X.aload_n 1 i54_0 rfl rfl rfl ?_
  refine X.getR 4 i54_1 rfl rfl (by decide) rfl rfl ?_
  refine X.aload_n 5 i54_4 rfl rfl rfl ?_
  refine X.getI 8 9 i54_5 rfl rfl (by decide) rfl rfl rfl ?_
  have h501 := r8_9 hJ g0
  refine X.iload_n 9 i54_8 rfl rfl rfl ?_
  refine X.iload_n 10 i54_9 rfl rfl rfl ?_
  refine X.callv 13 [zi (m g0 8 9), zi a1, zi a2] [] [(0, zr g0 37), (1, zi (m g0 8 9)), (2, zi a1), (3, zi a2)] i54_10 rfl (by decide) rfl rfl (by omega) rfl rfl (by decide) rfl t55 (Nat.le_of_ble_eq_true rfl) (Nat.le_of_ble_eq_true rfl) rfl ?_
  refine c55_1 (B := B) g0 (m g0 8 9) a1 a2 (by omega) (hJ.up (by omega)) (by omega) (by omega) (by omega) (by omega) hf6 hgg0 (fun m502 hFv504 hJ503 => ?_)
  show X (EE s) d 54 13 [(0, zr g0 8), (1, zi a1), (2, zi a2)] [] m502 _
  refine X.retv i54_13 rfl t54 ?_
  exact hQ  m502  (Eq.trans (zs_eq hFv504.symm) rfl) (hJ503.up (by omega)) 
-- WorkMeter$Meter.settleSwitch
def f53_1 (g0 : Nat) (m : zM) : zM :=
  zn (if (m g0 8 11) = 0 then
  (0)
  else
  (if (m g0 8 10) ≤ 0 then
  (1)
  else
  (0))) fun v505 =>
  zs (if v505 = (m g0 8 12) then
  (m)
  else
  (zs (z_upd m g0 8 12 v505) fun m512 =>
  zn (if (m512 g0 8 12) = 0 then
  (23)
  else
  (22)) fun v516 =>
  zs (f54_1 g0 v516 0 m512) fun m521 =>
  m521)) fun m525 =>
  m525
-- WorkMeter$Meter.settleSwitch
theorem c53_1 {s : Nat × (Nat → Int32)} {S : zS} {m0 m : zM} {B : Int} {d : Nat} {Q : Option zV → zM → Prop} (g0 : Nat) (hd : 15 ≤ d) (hJ : J S m0 B m) (hB : B + 1 ≤ 1000000000) (hf6 : ¬ S.1 6) (hf12 : ¬ S.1 12) (hgg0 : ¬ S.2.1 g0) (hQ : ∀ m', f53_1 g0 m = m' → J S m0 (B + 1) m' → Q none m') : X (EE s) d 53 0 [(0, zr g0 8)] [] m Q := by
  refine X.aload_n 1 i53_0 rfl rfl rfl ?_
  refine X.getZ 4 11 i53_1 rfl rfl (by decide) rfl rfl rfl (fun h501 => ?_)
  have hK508 : ∀ (v : Int) , (0 ≤ v ∧ v ≤ 1) → (if (m g0 8 11) = 0 then
      (0)
      else
      (if (m g0 8 10) ≤ 0 then
      (1)
      else
      (0))) = v → X (EE s) d 53 21 [(0, zr g0 8)] [zi v] m Q := by
    intro v505 hv505 hT509
    refine X.istore_n 22 [(0, zr g0 8), (1, zi v505)] i53_21 rfl rfl rfl ?_
    refine X.iload_n 23 i53_22 rfl rfl rfl ?_
    refine X.aload_n 24 i53_23 rfl rfl rfl ?_
    refine X.getZ 27 12 i53_24 rfl rfl (by decide) rfl rfl rfl (fun h510 => ?_)
    have hK527 : ∀ (m' : zM), (if v505 = (m g0 8 12) then
        (m)
        else
        (zs (z_upd m g0 8 12 v505) fun m512 =>
        zn (if (m512 g0 8 12) = 0 then
        (23)
        else
        (22)) fun v516 =>
        zs (f54_1 g0 v516 0 m512) fun m521 =>
        m521)) = m' → J S m0 (B + 1) m' → X (EE s) d 53 54 [] [] m' Q := by
      intro m525 hT528 hJ526
      refine X.retv i53_54 rfl t53 ?_
      exact hQ  m525  (Eq.trans (zn_eq hT509.symm) (Eq.trans (zs_eq hT528.symm) rfl)) (hJ526.up (by omega)) 
    refine X.icmpeq 54 30 i53_27 rfl rfl rfl (fun h511 => ?_) (fun h511 => ?_)
    · refine X.cut [] i53_54 rfl ?_
      exact hK527 m (Eq.trans (if_pos h511) rfl) (hJ.up (by omega))
    · refine X.aload_n 31 i53_30 rfl rfl rfl ?_
      refine X.iload_n 32 i53_31 rfl rfl rfl ?_
      refine X.putZ' 35 12 i53_32 rfl rfl (by decide) rfl rfl rfl (by omega) (fun hrm512 m512 hm512 => ?_)
      have hJ513 := w8_12 hJ hm512 (by omega) hf12 hgg0
      refine X.aload_n 36 i53_35 rfl rfl rfl ?_
      refine X.aload_n 37 i53_36 rfl rfl rfl ?_
      refine X.getZ 40 12 i53_37 rfl rfl (by decide) rfl rfl rfl (fun h514 => ?_)
      have hK519 : ∀ (v : Int) , (22 ≤ v ∧ v ≤ 23) → (if (m512 g0 8 12) = 0 then
          (23)
          else
          (22)) = v → X (EE s) d 53 50 [] [zi v, zr g0 8] m512 Q := by
        intro v516 hv516 hT520
        refine X.iconst 51 i53_50 rfl rfl (by decide) ?_
        refine X.callv 54 [zi v516, zi 0] [] [(0, zr g0 8), (1, zi v516), (2, zi 0)] i53_51 rfl (by decide) rfl rfl (by omega) rfl rfl (by decide) rfl t54 (Nat.le_of_ble_eq_true rfl) (Nat.le_of_ble_eq_true rfl) rfl ?_
        refine c54_1 (B := B) g0 v516 0 (by omega) (hJ513.up (by omega)) (by omega) (by omega) (by omega) hf6 hgg0 (fun m521 hFv523 hJ522 => ?_)
        show X (EE s) d 53 54 [] [] m521 _
        exact hK527 m521 (Eq.trans (if_neg h511) (Eq.trans (zs_eq hm512) (Eq.trans (zn_eq hT520.symm) (Eq.trans (zs_eq hFv523.symm) rfl)))) (hJ522.up (by omega))
      refine X.ifeq 48 43 i53_40 rfl rfl rfl (fun h515 => ?_) (fun h515 => ?_)
      · refine X.cut [] i53_48 rfl ?_
        refine X.bipush 50 i53_48 rfl rfl (by decide) ?_
        exact hK519 23 (by first | trivial | omega) (Eq.trans (if_pos h515) rfl)
      · refine X.bipush 45 i53_43 rfl rfl (by decide) ?_
        refine X.goto 50 i53_45 rfl rfl ?_
        refine X.cut [] i53_50 rfl ?_
        exact hK519 22 (by first | trivial | omega) (Eq.trans (if_neg h515) rfl)
  refine X.ifeq 20 7 i53_4 rfl rfl rfl (fun h502 => ?_) (fun h502 => ?_)
  · refine X.iconst 21 i53_20 rfl rfl (by decide) ?_
    exact hK508 0 (by first | trivial | omega) (Eq.trans (if_pos h502) rfl)
  · refine X.aload_n 8 i53_7 rfl rfl rfl ?_
    refine X.getL 11 10 i53_8 rfl rfl (by decide) rfl rfl rfl ?_
    refine X.lconst (y := 0) 12 i53_11 rfl rfl rfl ?_
    refine X.lcmp 13 i53_12 rfl rfl (fun z503 hz503 => ?_)
    refine X.ifgt 20 16 i53_13 rfl rfl rfl (fun h504 => ?_) (fun h504 => ?_)
    · have h504c : ¬ (m g0 8 10) ≤ 0 := by omega
      clear h504 hz503
      refine X.iconst 21 i53_20 rfl rfl (by decide) ?_
      exact hK508 0 (by first | trivial | omega) (Eq.trans (if_neg h502) (Eq.trans (if_neg h504c) rfl))
    · have h504c : (m g0 8 10) ≤ 0 := by omega
      clear h504 hz503
      refine X.iconst 17 i53_16 rfl rfl (by decide) ?_
      refine X.goto 21 i53_17 rfl rfl ?_
      exact hK508 1 (by first | trivial | omega) (Eq.trans (if_neg h502) (Eq.trans (if_pos h504c) rfl))
-- WorkMeter$Marks.isOn
theorem c40_2 {s : Nat × (Nat → Int32)} {S : zS} {m0 m : zM} {B : Int} {d : Nat} {Q : Option zV → zM → Prop} (g0 : Nat) (a1 : Int) (hd : 13 ≤ d) (hJ : J S m0 B m) (hB : B + 0 ≤ 1000000000) (ha1 : 0 ≤ a1 ∧ a1 ≤ 4) (hQ : ∀ (v : Int), (0 ≤ v ∧ v ≤ 1) → f40_1 g0 a1 m = v → Q (some (zi v)) m) : X (EE s) d 40 0 [(0, zr g0 33), (1, zi a1)] [] m Q := by
  refine X.aload_n 1 i40_0 rfl rfl rfl ?_
  refine X.getIr 4 3 i40_1 rfl rfl (by decide) rfl rfl rfl (fun h501 => ?_)
  refine X.iload_n 5 i40_4 rfl rfl rfl ?_
  refine X.iiE 6 .ishr (fun x y => x >>> (y &&& 31)) i40_5 rfl rfl rfl (fun _ _ => rfl) (fun z502 ez502 hz502 => ?_)
  refine X.iconst 7 i40_6 rfl rfl (by decide) ?_
  refine X.andE 8 1 i40_7 rfl rfl (by decide) (.inl rfl) (fun z503 ez503 hz503 => ?_)
  refine X.iconst 9 i40_8 rfl rfl (by decide) ?_
  have hK508 : ∀ (v : Int) , (0 ≤ v ∧ v ≤ 1) → (if z503 = 1 then
      (1)
      else
      (0)) = v → X (EE s) d 40 17 [] [zi v] m Q := by
    intro v505 hv505 hT509
    refine X.retz i40_17 rfl t40 (by omega) ?_
    exact hQ v505 (by first | trivial | omega) (Eq.trans (zn_eq ez502) (Eq.trans (zn_eq ez503) (Eq.trans (zn_eq hT509.symm) rfl))) 
  refine X.icmpne 16 12 i40_9 rfl rfl rfl (fun h504 => ?_) (fun h504 => ?_)
  · refine X.cut [] i40_16 rfl ?_
    refine X.iconst 17 i40_16 rfl rfl (by decide) ?_
    exact hK508 0 (by first | trivial | omega) (Eq.trans (if_neg h504) rfl)
  · refine X.iconst 13 i40_12 rfl rfl (by decide) ?_
    refine X.goto 17 i40_13 rfl rfl ?_
    refine X.cut [] i40_17 rfl ?_
    exact hK508 1 (by first | trivial | omega) (Eq.trans (if_pos h504) rfl)
-- WorkMeter$Marks.turn
def f57_1 (g0 g3 : Nat) (a1 a2 a4 : Int) (m : zM) : zM :=
  zs (if a2 = 0 then
  (zn (zshl 1 a1) fun z503 =>
  zn (zxor z503 (-1)) fun z504 =>
  zn (zand (m g0 33 3) z504) fun z505 =>
  zs (z_upd m g0 33 3 z505) fun m506 =>
  zs (f55_1 g3 a4 (a1 + 10) 0 m506) fun m508 =>
  m508)
  else
  (zn (zshl 1 a1) fun z512 =>
  zn (zor (m g0 33 3) z512) fun z513 =>
  zs (z_upd m g0 33 3 z513) fun m514 =>
  zn (w32 ((m514 g0 34 a1) + 1)) fun z517 =>
  zs (z_upd m514 g0 34 a1 z517) fun m518 =>
  zs (f55_1 g3 a4 a1 0 m518) fun m520 =>
  m520)) fun m524 =>
  m524
-- WorkMeter$Marks.turn
theorem c57_1 {s : Nat × (Nat → Int32)} {S : zS} {m0 m : zM} {B : Int} {d : Nat} {Q : Option zV → zM → Prop} (g0 g3 : Nat) (a1 a2 a4 : Int) (hd : 14 ≤ d) (hJ : J S m0 B m) (hB : B + 1 ≤ 1000000000) (ha1 : 0 ≤ a1 ∧ a1 ≤ 4) (ha2 : 0 ≤ a2 ∧ a2 ≤ 1) (ha4 : (-2147483648) ≤ a4 ∧ a4 ≤ 2147483647) (hf6 : ¬ S.1 6) (hf9 : ¬ S.1 9) (hgg0 : ¬ S.2.1 g0) (hgg3 : ¬ S.2.1 g3) (hQ : ∀ m', f57_1 g0 g3 a1 a2 a4 m = m' → J S m0 (B + 1) m' → Q none m') : X (EE s) d 57 0 [(0, zr g0 33), (1, zi a1), (2, zi a2), (3, zr g3 37), (4, zi a4)] [] m Q := by
  refine X.iload_n 1 i57_0 rfl rfl rfl ?_
  have hK526 : ∀ (m' : zM), (if a2 = 0 then
      (zn (zshl 1 a1) fun z503 =>
      zn (zxor z503 (-1)) fun z504 =>
      zn (zand (m g0 33 3) z504) fun z505 =>
      zs (z_upd m g0 33 3 z505) fun m506 =>
      zs (f55_1 g3 a4 (a1 + 10) 0 m506) fun m508 =>
      m508)
      else
      (zn (zshl 1 a1) fun z512 =>
      zn (zor (m g0 33 3) z512) fun z513 =>
      zs (z_upd m g0 33 3 z513) fun m514 =>
      zn (w32 ((m514 g0 34 a1) + 1)) fun z517 =>
      zs (z_upd m514 g0 34 a1 z517) fun m518 =>
      zs (f55_1 g3 a4 a1 0 m518) fun m520 =>
      m520)) = m' → J S m0 (B + 1) m' → X (EE s) d 57 62 [] [] m' Q := by
    intro m524 hT527 hJ525
    refine X.retv i57_62 rfl t57 ?_
    exact hQ  m524  (Eq.trans (zs_eq hT527.symm) rfl) (hJ525.up (by omega)) 
  refine X.ifeq 37 4 i57_1 rfl rfl rfl (fun h501 => ?_) (fun h501 => ?_)
  · refine X.cut [(0, zr g0 33), (1, zi a1), (3, zr g3 37), (4, zi a4)] i57_37 rfl ?_
    refine X.aload_n 38 i57_37 rfl rfl rfl ?_
    refine X.dup 39 i57_38 rfl rfl rfl ?_
    refine X.getIr 42 3 i57_39 rfl rfl (by decide) rfl rfl rfl (fun h502 => ?_)
    refine X.iconst 43 i57_42 rfl rfl (by decide) ?_
    refine X.iload_n 44 i57_43 rfl rfl rfl ?_
    refine X.iiE 45 .ishl (fun x y => x <<< (y &&& 31)) i57_44 rfl rfl rfl (fun _ _ => rfl) (fun z503 ez503 hz503 => ?_)
    refine X.iconst 46 i57_45 rfl rfl (by decide) ?_
    refine X.iiE 47 .ixor (fun x y => x ^^^ y) i57_46 rfl rfl rfl (fun _ _ => rfl) (fun z504 ez504 hz504 => ?_)
    refine X.iiE 48 .iand (fun x y => x &&& y) i57_47 rfl rfl rfl (fun _ _ => rfl) (fun z505 ez505 hz505 => ?_)
    refine X.putI' 51 3 i57_48 rfl rfl (by decide) rfl rfl rfl (fun hrm506 m506 hm506 => ?_)
    have hJ507 := w33_0 hJ hm506 (by omega) hrm506 hf9 hgg0
    refine X.aload_n 52 i57_51 rfl rfl rfl ?_
    refine X.iload 54 i57_52 rfl rfl rfl ?_
    refine X.iload_n 55 i57_54 rfl rfl rfl ?_
    refine X.bipush 57 i57_55 rfl rfl (by decide) ?_
    refine X.iadd 58 i57_57 rfl rfl (by omega) ?_
    refine X.iconst 59 i57_58 rfl rfl (by decide) ?_
    refine X.callv 62 [zi a4, zi (a1 + 10), zi 0] [] [(0, zr g3 37), (1, zi a4), (2, zi (a1 + 10)), (3, zi 0)] i57_59 rfl (by decide) rfl rfl (by omega) rfl rfl (by decide) rfl t55 (Nat.le_of_ble_eq_true rfl) (Nat.le_of_ble_eq_true rfl) rfl ?_
    refine c55_1 (B := B) g3 a4 (a1 + 10) 0 (by omega) (hJ507.up (by omega)) (by omega) (by omega) (by omega) (by omega) hf6 hgg3 (fun m508 hFv510 hJ509 => ?_)
    show X (EE s) d 57 62 [(0, zr g0 33), (1, zi a1), (3, zr g3 37), (4, zi a4)] [] m508 _
    refine X.cut [] i57_62 rfl ?_
    exact hK526 m508 (Eq.trans (if_pos h501) (Eq.trans (zn_eq ez503) (Eq.trans (zn_eq ez504) (Eq.trans (zn_eq ez505) (Eq.trans (zs_eq hm506) (Eq.trans (zs_eq hFv510.symm) rfl)))))) (hJ509.up (by omega))
  · refine X.aload_n 5 i57_4 rfl rfl rfl ?_
    refine X.dup 6 i57_5 rfl rfl rfl ?_
    refine X.getIr 9 3 i57_6 rfl rfl (by decide) rfl rfl rfl (fun h511 => ?_)
    refine X.iconst 10 i57_9 rfl rfl (by decide) ?_
    refine X.iload_n 11 i57_10 rfl rfl rfl ?_
    refine X.iiE 12 .ishl (fun x y => x <<< (y &&& 31)) i57_11 rfl rfl rfl (fun _ _ => rfl) (fun z512 ez512 hz512 => ?_)
    refine X.iiE 13 .ior (fun x y => x ||| y) i57_12 rfl rfl rfl (fun _ _ => rfl) (fun z513 ez513 hz513 => ?_)
    refine X.putI' 16 3 i57_13 rfl rfl (by decide) rfl rfl rfl (fun hrm514 m514 hm514 => ?_)
    have hJ515 := w33_0 hJ hm514 (by omega) hrm514 hf9 hgg0
    refine X.aload_n 17 i57_16 rfl rfl rfl ?_
    refine X.getR 20 i57_17 rfl rfl (by decide) rfl rfl ?_
    refine X.iload_n 21 i57_20 rfl rfl rfl ?_
    refine X.dup2 22 i57_21 rfl rfl ?_
    refine X.ialdr 23 i57_22 rfl rfl (by decide) rfl (by omega) (fun h516 => ?_)
    refine X.iconst 24 i57_23 rfl rfl (by decide) ?_
    refine X.iaddW 25 i57_24 rfl rfl (fun z517 ez517 hz517 => ?_)
    refine X.iast' 26 i57_25 rfl rfl (by decide) rfl (by omega) (fun hrm518 m518 hm518 => ?_)
    have hJ519 := w34_0 hJ515 hm518 (by omega) hrm518 hf9 hgg0
    refine X.aload_n 27 i57_26 rfl rfl rfl ?_
    refine X.iload 29 i57_27 rfl rfl rfl ?_
    refine X.iload_n 30 i57_29 rfl rfl rfl ?_
    refine X.iconst 31 i57_30 rfl rfl (by decide) ?_
    refine X.callv 34 [zi a4, zi a1, zi 0] [] [(0, zr g3 37), (1, zi a4), (2, zi a1), (3, zi 0)] i57_31 rfl (by decide) rfl rfl (by omega) rfl rfl (by decide) rfl t55 (Nat.le_of_ble_eq_true rfl) (Nat.le_of_ble_eq_true rfl) rfl ?_
    refine c55_1 (B := B) g3 a4 a1 0 (by omega) (hJ519.up (by omega)) (by omega) (by omega) (by omega) (by omega) hf6 hgg3 (fun m520 hFv522 hJ521 => ?_)
    show X (EE s) d 57 34 [(0, zr g0 33), (1, zi a1), (2, zi a2), (3, zr g3 37), (4, zi a4)] [] m520 _
    refine X.goto 62 i57_34 rfl rfl ?_
    refine X.cut [] i57_62 rfl ?_
    exact hK526 m520 (Eq.trans (if_neg h501) (Eq.trans (zn_eq ez512) (Eq.trans (zn_eq ez513) (Eq.trans (zs_eq hm514) (Eq.trans (zn_eq ez517) (Eq.trans (zs_eq hm518) (Eq.trans (zs_eq hFv522.symm) rfl))))))) (hJ521.up (by omega))
def fl56_3_1_b (self : Int → zM → zM) (k149 : zM → zM) (g0 g4 : Nat) (y1 y2 y3 y5 : Int) (y6 : Int) (m : zM) : zM :=
  if 5 ≤ y6 then
  (k149 m)
  else
  (zn (f40_1 g0 y6 m) fun v564 =>
  zs (if y6 < 2 then
  (m)
  else
  (zn (zshr y2 y6) fun z566 =>
  zn (zand z566 1) fun z567 =>
  zn (if z567 = 1 then
  (1)
  else
  (0)) fun v569 =>
  zn (if v569 = 0 then
  (0)
  else
  (zn (w32 ((m g0 36 y6) + y1)) fun z576 =>
  z576)) fun v577 =>
  zs (z_upd m g0 36 y6 v577) fun m582 =>
  if v564 = 0 then
  (if v569 = 0 then
  (m582)
  else
  (if (m582 g0 36 y6) ≤ y3 then
  (m582)
  else
  (zs (f57_1 g0 g4 y6 1 y5 m582) fun m589 =>
  m589)))
  else
  (if v569 = 0 then
  (zs (f57_1 g0 g4 y6 0 y5 m582) fun m594 =>
  m594)
  else
  (m582)))) fun m598 =>
  zn (f40_1 g0 y6 m598) fun v604 =>
  zs (if v604 = 0 then
  (m598)
  else
  (zn (if v564 = 0 then
  (1)
  else
  (y1)) fun v608 =>
  zn (w32 ((m598 g0 35 y6) + v608)) fun z613 =>
  zs (z_upd m598 g0 35 y6 z613) fun m614 =>
  m614)) fun m617 =>
  self (y6 + 1) m617)
def fl56_3_1 (k149 : zM → zM) (g0 g4 : Nat) (y1 y2 y3 y5 : Int) : Nat → Int → zM → zM
  | 0 => fun y6 m => m
  | n + 1 => fl56_3_1_b (fl56_3_1 k149 g0 g4 y1 y2 y3 y5 n) k149 g0 g4 y1 y2 y3 y5
theorem l56_3_1 {s : Nat × (Nat → Int32)} {S : zS} {m0 : zM} {d : Nat} {Q : Option zV → zM → Prop} {R0 : zM} {k149 : zM → zM} (g0 g4 : Nat) (y1 y2 y3 y5 : Int) (BE : Int) (hE : BE ≤ 1000000000) (hd : 15 ≤ d) (hy1 : 1 ≤ y1 ∧ y1 ≤ 3600) (hy2 : (-2147483648) ≤ y2 ∧ y2 ≤ 2147483647) (hy3 : 0 ≤ y3 ∧ y3 ≤ 1000000) (hy5 : 0 ≤ y5 ∧ y5 ≤ 2000000000) (hf6 : ¬ S.1 6) (hf9 : ¬ S.1 9) (hgg0 : ¬ S.2.1 g0) (hgg4 : ¬ S.2.1 g4)
    (K149 : ∀ (m' : zM) (B' : Int), J S m0 B' m' → B' ≤ BE → R0 = k149 m' → X (EE s) d 56 149 [] [] m' Q) :
    ∀ (n : Nat) (y6 : Int) (m : zM) (B : Int), J S m0 B m → B + 1 * (n : Int) ≤ BE → (0 ≤ y6 ∧ y6 ≤ 5) → 5 - y6 < (n : Int) → R0 = fl56_3_1 k149 g0 g4 y1 y2 y3 y5 n y6 m → X (EE s) d 56 3 [(0, zr g0 33), (1, zi y1), (2, zi y2), (3, zi y3), (4, zr g4 37), (5, zi y5), (6, zi y6)] [] m Q := by
  intro n
  induction n with
  | zero =>
    intro y6 m B hJ hB hy6 hn hR
    exfalso
    omega
  | succ n ih =>
    intro y6 m B hJ hB hy6 hn hR
    replace hR : R0 = fl56_3_1_b (fl56_3_1 k149 g0 g4 y1 y2 y3 y5 n) k149 g0 g4 y1 y2 y3 y5 y6 m := hR
    refine X.iload 5 i56_3 rfl rfl rfl ?_
    refine X.iconst 6 i56_5 rfl rfl (by decide) ?_
    refine X.icmpge 149 9 i56_6 rfl rfl rfl (fun h561 => ?_) (fun h561 => ?_)
    · refine X.cut [] i56_149 rfl ?_
      exact K149  m (B) (hJ.up (by omega)) (by omega)  (Eq.trans hR (Eq.trans (if_pos h561) rfl))
    · refine X.aload_n 10 i56_9 rfl rfl rfl ?_
      refine X.iload 12 i56_10 rfl rfl rfl ?_
      refine X.callv 15 [zi y6] [] [(0, zr g0 33), (1, zi y6)] i56_12 rfl (by decide) rfl rfl (by omega) rfl rfl (by decide) rfl t40 (Nat.le_of_ble_eq_true rfl) (Nat.le_of_ble_eq_true rfl) rfl ?_
      refine c40_2 (B := B) g0 y6 (by omega) (hJ.up (by omega)) (by omega) (by omega) (fun v564 hv564 hFv564 => ?_)
      show X (EE s) d 56 15 [(0, zr g0 33), (1, zi y1), (2, zi y2), (3, zi y3), (4, zr g4 37), (5, zi y5), (6, zi y6)] [zi v564] m _
      refine X.istore 17 [(0, zr g0 33), (1, zi y1), (2, zi y2), (3, zi y3), (4, zr g4 37), (5, zi y5), (6, zi y6), (7, zi v564)] i56_15 rfl rfl rfl ?_
      refine X.iload 19 i56_17 rfl rfl rfl ?_
      refine X.iconst 20 i56_19 rfl rfl (by decide) ?_
      have hK600 : ∀ (m' : zM), (if y6 < 2 then
          (m)
          else
          (zn (zshr y2 y6) fun z566 =>
          zn (zand z566 1) fun z567 =>
          zn (if z567 = 1 then
          (1)
          else
          (0)) fun v569 =>
          zn (if v569 = 0 then
          (0)
          else
          (zn (w32 ((m g0 36 y6) + y1)) fun z576 =>
          z576)) fun v577 =>
          zs (z_upd m g0 36 y6 v577) fun m582 =>
          if v564 = 0 then
          (if v569 = 0 then
          (m582)
          else
          (if (m582 g0 36 y6) ≤ y3 then
          (m582)
          else
          (zs (f57_1 g0 g4 y6 1 y5 m582) fun m589 =>
          m589)))
          else
          (if v569 = 0 then
          (zs (f57_1 g0 g4 y6 0 y5 m582) fun m594 =>
          m594)
          else
          (m582)))) = m' → J S m0 (B + 1) m' → X (EE s) d 56 114 [(0, zr g0 33), (1, zi y1), (2, zi y2), (3, zi y3), (4, zr g4 37), (5, zi y5), (6, zi y6), (7, zi v564)] [] m' Q := by
        intro m598 hT601 hJ599
        refine X.aload_n 115 i56_114 rfl rfl rfl ?_
        refine X.iload 117 i56_115 rfl rfl rfl ?_
        refine X.callv 120 [zi y6] [] [(0, zr g0 33), (1, zi y6)] i56_117 rfl (by decide) rfl rfl (by omega) rfl rfl (by decide) rfl t40 (Nat.le_of_ble_eq_true rfl) (Nat.le_of_ble_eq_true rfl) rfl ?_
        refine c40_2 (B := B + 1) g0 y6 (by omega) (hJ599.up (by omega)) (by omega) (by omega) (fun v604 hv604 hFv604 => ?_)
        show X (EE s) d 56 120 [(0, zr g0 33), (1, zi y1), (2, zi y2), (3, zi y3), (4, zr g4 37), (5, zi y5), (6, zi y6), (7, zi v564)] [zi v604] m598 _
        have hK619 : ∀ (m' : zM), (if v604 = 0 then
            (m598)
            else
            (zn (if v564 = 0 then
            (1)
            else
            (y1)) fun v608 =>
            zn (w32 ((m598 g0 35 y6) + v608)) fun z613 =>
            zs (z_upd m598 g0 35 y6 z613) fun m614 =>
            m614)) = m' → J S m0 (B + 1) m' → X (EE s) d 56 143 [(0, zr g0 33), (1, zi y1), (2, zi y2), (3, zi y3), (4, zr g4 37), (5, zi y5), (6, zi y6)] [] m' Q := by
          intro m617 hT620 hJ618
          refine X.iinc 146 [(0, zr g0 33), (1, zi y1), (2, zi y2), (3, zi y3), (4, zr g4 37), (5, zi y5), (6, zi (y6 + 1))] i56_143 rfl rfl rfl (by omega) rfl ?_
          refine X.goto 3 i56_146 rfl rfl ?_
          exact ih (y6 + 1) m617 (B + 1) (hJ618.up (by omega)) (by omega) (by omega) (by omega) (Eq.trans hR (Eq.trans (if_neg h561) (Eq.trans (zn_eq hFv564.symm) (Eq.trans (zs_eq hT601.symm) (Eq.trans (zn_eq hFv604.symm) (Eq.trans (zs_eq hT620.symm) rfl))))))
        refine X.ifeq 143 123 i56_120 rfl rfl rfl (fun h605 => ?_) (fun h605 => ?_)
        · refine X.cut [(0, zr g0 33), (1, zi y1), (2, zi y2), (3, zi y3), (4, zr g4 37), (5, zi y5), (6, zi y6)] i56_143 rfl ?_
          exact hK619 m598 (Eq.trans (if_pos h605) rfl) (hJ599.up (by omega))
        · refine X.aload_n 124 i56_123 rfl rfl rfl ?_
          refine X.getR 127 i56_124 rfl rfl (by decide) rfl rfl ?_
          refine X.iload 129 i56_127 rfl rfl rfl ?_
          refine X.dup2 130 i56_129 rfl rfl ?_
          refine X.ialdr 131 i56_130 rfl rfl (by decide) rfl (by omega) (fun h606 => ?_)
          refine X.iload 133 i56_131 rfl rfl rfl ?_
          have hK611 : ∀ (v : Int) , (1 ≤ v ∧ v ≤ 3600) → (if v564 = 0 then
              (1)
              else
              (y1)) = v → X (EE s) d 56 141 [(0, zr g0 33), (1, zi y1), (2, zi y2), (3, zi y3), (4, zr g4 37), (5, zi y5), (6, zi y6)] [zi v, zi (m598 g0 35 y6), zi y6, zr g0 35] m598 Q := by
            intro v608 hv608 hT612
            refine X.iaddW 142 i56_141 rfl rfl (fun z613 ez613 hz613 => ?_)
            refine X.iast' 143 i56_142 rfl rfl (by decide) rfl (by omega) (fun hrm614 m614 hm614 => ?_)
            have hJ615 := w35_0 hJ599 hm614 (by omega) hrm614 hf9 hgg0
            exact hK619 m614 (Eq.trans (if_neg h605) (Eq.trans (zn_eq hT612.symm) (Eq.trans (zn_eq ez613) (Eq.trans (zs_eq hm614) rfl)))) (hJ615.up (by omega))
          refine X.ifeq 140 136 i56_133 rfl rfl rfl (fun h607 => ?_) (fun h607 => ?_)
          · refine X.cut [(0, zr g0 33), (1, zi y1), (2, zi y2), (3, zi y3), (4, zr g4 37), (5, zi y5), (6, zi y6)] i56_140 rfl ?_
            refine X.iconst 141 i56_140 rfl rfl (by decide) ?_
            exact hK611 1 (by first | trivial | omega) (Eq.trans (if_pos h607) rfl)
          · refine X.iload_n 137 i56_136 rfl rfl rfl ?_
            refine X.goto 141 i56_137 rfl rfl ?_
            refine X.cut [(0, zr g0 33), (1, zi y1), (2, zi y2), (3, zi y3), (4, zr g4 37), (5, zi y5), (6, zi y6)] i56_141 rfl ?_
            exact hK611 y1 (by first | trivial | omega) (Eq.trans (if_neg h607) rfl)
      refine X.icmplt 114 23 i56_20 rfl rfl rfl (fun h565 => ?_) (fun h565 => ?_)
      · exact hK600 m (Eq.trans (if_pos h565) rfl) (hJ.up (by omega))
      · refine X.iload_n 24 i56_23 rfl rfl rfl ?_
        refine X.iload 26 i56_24 rfl rfl rfl ?_
        refine X.iiE 27 .ishr (fun x y => x >>> (y &&& 31)) i56_26 rfl rfl rfl (fun _ _ => rfl) (fun z566 ez566 hz566 => ?_)
        refine X.iconst 28 i56_27 rfl rfl (by decide) ?_
        refine X.andE 29 1 i56_28 rfl rfl (by decide) (.inl rfl) (fun z567 ez567 hz567 => ?_)
        refine X.iconst 30 i56_29 rfl rfl (by decide) ?_
        have hK572 : ∀ (v : Int) , (0 ≤ v ∧ v ≤ 1) → (if z567 = 1 then
            (1)
            else
            (0)) = v → X (EE s) d 56 38 [(0, zr g0 33), (1, zi y1), (2, zi y2), (3, zi y3), (4, zr g4 37), (5, zi y5), (6, zi y6), (7, zi v564)] [zi v] m Q := by
          intro v569 hv569 hT573
          refine X.istore 40 [(0, zr g0 33), (1, zi y1), (2, zi y2), (3, zi y3), (4, zr g4 37), (5, zi y5), (6, zi y6), (7, zi v564), (8, zi v569)] i56_38 rfl rfl rfl ?_
          refine X.aload_n 41 i56_40 rfl rfl rfl ?_
          refine X.getR 44 i56_41 rfl rfl (by decide) rfl rfl ?_
          refine X.iload 46 i56_44 rfl rfl rfl ?_
          refine X.iload 48 i56_46 rfl rfl rfl ?_
          have hK580 : ∀ (v : Int) , ((-2147483648) ≤ v ∧ v ≤ 2147483647) → (if v569 = 0 then
              (0)
              else
              (zn (w32 ((m g0 36 y6) + y1)) fun z576 =>
              z576)) = v → X (EE s) d 56 64 [(0, zr g0 33), (1, zi y1), (2, zi y2), (3, zi y3), (4, zr g4 37), (5, zi y5), (6, zi y6), (7, zi v564), (8, zi v569)] [zi v, zi y6, zr g0 36] m Q := by
            intro v577 hv577 hT581
            refine X.iast' 65 i56_64 rfl rfl (by decide) rfl (by omega) (fun hrm582 m582 hm582 => ?_)
            have hJ583 := w36_0 hJ hm582 (by omega) hrm582 hf9 hgg0
            refine X.iload 67 i56_65 rfl rfl rfl ?_
            refine X.ifeq 78 70 i56_67 rfl rfl rfl (fun h584 => ?_) (fun h584 => ?_)
            · refine X.iload 80 i56_78 rfl rfl rfl ?_
              refine X.ifeq 114 83 i56_80 rfl rfl rfl (fun h585 => ?_) (fun h585 => ?_)
              · refine X.cut [(0, zr g0 33), (1, zi y1), (2, zi y2), (3, zi y3), (4, zr g4 37), (5, zi y5), (6, zi y6), (7, zi v564)] i56_114 rfl ?_
                exact hK600 m582 (Eq.trans (if_neg h565) (Eq.trans (zn_eq ez566) (Eq.trans (zn_eq ez567) (Eq.trans (zn_eq hT573.symm) (Eq.trans (zn_eq hT581.symm) (Eq.trans (zs_eq hm582) (Eq.trans (if_pos h584) (Eq.trans (if_pos h585) rfl)))))))) (hJ583.up (by omega))
              · refine X.aload_n 84 i56_83 rfl rfl rfl ?_
                refine X.getR 87 i56_84 rfl rfl (by decide) rfl rfl ?_
                refine X.iload 89 i56_87 rfl rfl rfl ?_
                refine X.ialdr 90 i56_89 rfl rfl (by decide) rfl (by omega) (fun h586 => ?_)
                refine X.iload_n 91 i56_90 rfl rfl rfl ?_
                refine X.icmple 114 94 i56_91 rfl rfl rfl (fun h587 => ?_) (fun h587 => ?_)
                · refine X.cut [(0, zr g0 33), (1, zi y1), (2, zi y2), (3, zi y3), (4, zr g4 37), (5, zi y5), (6, zi y6), (7, zi v564)] i56_114 rfl ?_
                  exact hK600 m582 (Eq.trans (if_neg h565) (Eq.trans (zn_eq ez566) (Eq.trans (zn_eq ez567) (Eq.trans (zn_eq hT573.symm) (Eq.trans (zn_eq hT581.symm) (Eq.trans (zs_eq hm582) (Eq.trans (if_pos h584) (Eq.trans (if_neg h585) (Eq.trans (if_pos h587) rfl))))))))) (hJ583.up (by omega))
                · refine X.cut [(0, zr g0 33), (1, zi y1), (2, zi y2), (3, zi y3), (4, zr g4 37), (5, zi y5), (6, zi y6), (7, zi v564)] i56_94 rfl ?_
                  refine X.aload_n 95 i56_94 rfl rfl rfl ?_
                  refine X.iload 97 i56_95 rfl rfl rfl ?_
                  refine X.iload 99 i56_97 rfl rfl rfl ?_
                  refine X.ifne 106 102 i56_99 rfl rfl rfl (fun h588 => (by exfalso; omega)) (fun h588 => ?_)
                  refine X.iconst 103 i56_102 rfl rfl (by decide) ?_
                  refine X.goto 107 i56_103 rfl rfl ?_
                  refine X.aload 109 i56_107 rfl rfl rfl ?_
                  refine X.iload 111 i56_109 rfl rfl rfl ?_
                  refine X.callv 114 [zi y6, zi 1, zr g4 37, zi y5] [] [(0, zr g0 33), (1, zi y6), (2, zi 1), (3, zr g4 37), (4, zi y5)] i56_111 rfl (by decide) rfl rfl (by omega) rfl rfl (by decide) rfl t57 (Nat.le_of_ble_eq_true rfl) (Nat.le_of_ble_eq_true rfl) rfl ?_
                  refine c57_1 (B := B) g0 g4 y6 1 y5 (by omega) (hJ583.up (by omega)) (by omega) (by omega) (by omega) (by omega) hf6 hf9 hgg0 hgg4 (fun m589 hFv591 hJ590 => ?_)
                  show X (EE s) d 56 114 [(0, zr g0 33), (1, zi y1), (2, zi y2), (3, zi y3), (4, zr g4 37), (5, zi y5), (6, zi y6), (7, zi v564)] [] m589 _
                  exact hK600 m589 (Eq.trans (if_neg h565) (Eq.trans (zn_eq ez566) (Eq.trans (zn_eq ez567) (Eq.trans (zn_eq hT573.symm) (Eq.trans (zn_eq hT581.symm) (Eq.trans (zs_eq hm582) (Eq.trans (if_pos h584) (Eq.trans (if_neg h585) (Eq.trans (if_neg h587) (Eq.trans (zs_eq hFv591.symm) rfl)))))))))) (hJ590.up (by omega))
            · refine X.iload 72 i56_70 rfl rfl rfl ?_
              refine X.ifne 114 75 i56_72 rfl rfl rfl (fun h592 => ?_) (fun h592 => ?_)
              · refine X.cut [(0, zr g0 33), (1, zi y1), (2, zi y2), (3, zi y3), (4, zr g4 37), (5, zi y5), (6, zi y6), (7, zi v564)] i56_114 rfl ?_
                exact hK600 m582 (Eq.trans (if_neg h565) (Eq.trans (zn_eq ez566) (Eq.trans (zn_eq ez567) (Eq.trans (zn_eq hT573.symm) (Eq.trans (zn_eq hT581.symm) (Eq.trans (zs_eq hm582) (Eq.trans (if_neg h584) (Eq.trans (if_neg h592) rfl)))))))) (hJ583.up (by omega))
              · refine X.goto 94 i56_75 rfl rfl ?_
                refine X.cut [(0, zr g0 33), (1, zi y1), (2, zi y2), (3, zi y3), (4, zr g4 37), (5, zi y5), (6, zi y6), (7, zi v564)] i56_94 rfl ?_
                refine X.aload_n 95 i56_94 rfl rfl rfl ?_
                refine X.iload 97 i56_95 rfl rfl rfl ?_
                refine X.iload 99 i56_97 rfl rfl rfl ?_
                refine X.ifne 106 102 i56_99 rfl rfl rfl (fun h593 => ?_) (fun h593 => (by exfalso; omega))
                refine X.iconst 107 i56_106 rfl rfl (by decide) ?_
                refine X.aload 109 i56_107 rfl rfl rfl ?_
                refine X.iload 111 i56_109 rfl rfl rfl ?_
                refine X.callv 114 [zi y6, zi 0, zr g4 37, zi y5] [] [(0, zr g0 33), (1, zi y6), (2, zi 0), (3, zr g4 37), (4, zi y5)] i56_111 rfl (by decide) rfl rfl (by omega) rfl rfl (by decide) rfl t57 (Nat.le_of_ble_eq_true rfl) (Nat.le_of_ble_eq_true rfl) rfl ?_
                refine c57_1 (B := B) g0 g4 y6 0 y5 (by omega) (hJ583.up (by omega)) (by omega) (by omega) (by omega) (by omega) hf6 hf9 hgg0 hgg4 (fun m594 hFv596 hJ595 => ?_)
                show X (EE s) d 56 114 [(0, zr g0 33), (1, zi y1), (2, zi y2), (3, zi y3), (4, zr g4 37), (5, zi y5), (6, zi y6), (7, zi v564)] [] m594 _
                exact hK600 m594 (Eq.trans (if_neg h565) (Eq.trans (zn_eq ez566) (Eq.trans (zn_eq ez567) (Eq.trans (zn_eq hT573.symm) (Eq.trans (zn_eq hT581.symm) (Eq.trans (zs_eq hm582) (Eq.trans (if_neg h584) (Eq.trans (if_pos h592) (Eq.trans (zs_eq hFv596.symm) rfl))))))))) (hJ595.up (by omega))
          refine X.ifeq 63 51 i56_48 rfl rfl rfl (fun h574 => ?_) (fun h574 => ?_)
          · refine X.iconst 64 i56_63 rfl rfl (by decide) ?_
            exact hK580 0 (by first | trivial | omega) (Eq.trans (if_pos h574) rfl)
          · refine X.aload_n 52 i56_51 rfl rfl rfl ?_
            refine X.getR 55 i56_52 rfl rfl (by decide) rfl rfl ?_
            refine X.iload 57 i56_55 rfl rfl rfl ?_
            refine X.ialdr 58 i56_57 rfl rfl (by decide) rfl (by omega) (fun h575 => ?_)
            refine X.iload_n 59 i56_58 rfl rfl rfl ?_
            refine X.iaddW 60 i56_59 rfl rfl (fun z576 ez576 hz576 => ?_)
            refine X.goto 64 i56_60 rfl rfl ?_
            exact hK580 z576 (by first | trivial | omega) (Eq.trans (if_neg h574) (Eq.trans (zn_eq ez576) rfl))
        refine X.icmpne 37 33 i56_30 rfl rfl rfl (fun h568 => ?_) (fun h568 => ?_)
        · refine X.iconst 38 i56_37 rfl rfl (by decide) ?_
          exact hK572 0 (by first | trivial | omega) (Eq.trans (if_neg h568) rfl)
        · refine X.iconst 34 i56_33 rfl rfl (by decide) ?_
          refine X.goto 38 i56_34 rfl rfl ?_
          exact hK572 1 (by first | trivial | omega) (Eq.trans (if_pos h568) rfl)
-- WorkMeter$Marks.passSeconds
def f56_1 (g0 g4 : Nat) (a1 a2 a3 a5 : Int) (m : zM) : zM :=
  fl56_3_1 (fun m501 =>
  m501) g0 g4 a1 a2 a3 a5 6 0 m
-- WorkMeter$Marks.passSeconds
theorem c56_1 {s : Nat × (Nat → Int32)} {S : zS} {m0 m : zM} {B : Int} {d : Nat} {Q : Option zV → zM → Prop} (g0 g4 : Nat) (a1 a2 a3 a5 : Int) (hd : 15 ≤ d) (hJ : J S m0 B m) (hB : B + 6 ≤ 1000000000) (ha1 : 1 ≤ a1 ∧ a1 ≤ 3600) (ha2 : (-2147483648) ≤ a2 ∧ a2 ≤ 2147483647) (ha3 : 0 ≤ a3 ∧ a3 ≤ 1000000) (ha5 : 0 ≤ a5 ∧ a5 ≤ 2000000000) (hf6 : ¬ S.1 6) (hf9 : ¬ S.1 9) (hgg0 : ¬ S.2.1 g0) (hgg4 : ¬ S.2.1 g4) (hQ : ∀ m', f56_1 g0 g4 a1 a2 a3 a5 m = m' → J S m0 (B + 6) m' → Q none m') : X (EE s) d 56 0 [(0, zr g0 33), (1, zi a1), (2, zi a2), (3, zi a3), (4, zr g4 37), (5, zi a5)] [] m Q := by
  refine X.iconst 1 i56_0 rfl rfl (by decide) ?_
  refine X.istore 3 [(0, zr g0 33), (1, zi a1), (2, zi a2), (3, zi a3), (4, zr g4 37), (5, zi a5), (6, zi 0)] i56_1 rfl rfl rfl ?_
  refine l56_3_1 (s := s) (d := d) (R0 := (f56_1 g0 g4 a1 a2 a3 a5 m)) g0 g4 a1 a2 a3 a5  (BE := B + 6) (by omega) (by omega) (by omega) (by omega) (by omega) (by omega) hf6 hf9 hgg0 hgg4 (fun  m501 B502 hJ503 hBB502 hR504 => ?_) 6 0 m (B) (hJ.up (by omega)) (by omega) (by omega) (by omega) rfl
  refine X.retv i56_149 rfl t56 ?_
  exact hQ  m501  (Eq.trans hR504 rfl) (hJ503.up (by omega)) 
-- WorkMeter$Load.addMetered
def f58_1 (g0 : Nat) (a1 a2 : Int) (m : zM) : zM :=
  zn (w32 ((m g0 27 6) + a1)) fun z502 =>
  zs (z_upd m g0 27 6 z502) fun m503 =>
  zn (zor (m503 g0 27 8) a2) fun z506 =>
  zs (z_upd m503 g0 27 8 z506) fun m507 =>
  m507
-- WorkMeter$Load.addMetered
theorem c58_1 {s : Nat × (Nat → Int32)} {S : zS} {m0 m : zM} {B : Int} {d : Nat} {Q : Option zV → zM → Prop} (g0 : Nat) (a1 a2 : Int) (hd : 13 ≤ d) (hJ : J S m0 B m) (hB : B + 0 ≤ 1000000000) (ha1 : 1 ≤ a1 ∧ a1 ≤ 3600) (ha2 : (-2147483648) ≤ a2 ∧ a2 ≤ 2147483647) (hf7 : ¬ S.1 7) (hgg0 : ¬ S.2.1 g0) (hQ : ∀ m', f58_1 g0 a1 a2 m = m' → J S m0 (B) m' → Q none m') : X (EE s) d 58 0 [(0, zr g0 27), (1, zi a1), (2, zi a2)] [] m Q := by
  refine X.aload_n 1 i58_0 rfl rfl rfl ?_
  refine X.dup 2 i58_1 rfl rfl rfl ?_
  refine X.getIr 5 6 i58_2 rfl rfl (by decide) rfl rfl rfl (fun h501 => ?_)
  refine X.iload_n 6 i58_5 rfl rfl rfl ?_
  refine X.iaddW 7 i58_6 rfl rfl (fun z502 ez502 hz502 => ?_)
  refine X.putI' 10 6 i58_7 rfl rfl (by decide) rfl rfl rfl (fun hrm503 m503 hm503 => ?_)
  have hJ504 := w27_3 hJ hm503 (by omega) hrm503 hf7 hgg0
  refine X.aload_n 11 i58_10 rfl rfl rfl ?_
  refine X.dup 12 i58_11 rfl rfl rfl ?_
  refine X.getIr 15 8 i58_12 rfl rfl (by decide) rfl rfl rfl (fun h505 => ?_)
  refine X.iload_n 16 i58_15 rfl rfl rfl ?_
  refine X.iiE 17 .ior (fun x y => x ||| y) i58_16 rfl rfl rfl (fun _ _ => rfl) (fun z506 ez506 hz506 => ?_)
  refine X.putI' 20 8 i58_17 rfl rfl (by decide) rfl rfl rfl (fun hrm507 m507 hm507 => ?_)
  have hJ508 := w27_3 hJ504 hm507 (by omega) hrm507 hf7 hgg0
  refine X.retv i58_20 rfl t58 ?_
  exact hQ  m507  (Eq.trans (zn_eq ez502) (Eq.trans (zs_eq hm503) (Eq.trans (zn_eq ez506) (Eq.trans (zs_eq hm507) rfl)))) (hJ508.up (by omega)) 
-- WorkMeter$Load.statusSoFar
def f61_1 (g0 : Nat) (a1 : Int) (m : zM) : Int :=
  zn (if (m g0 27 7) ≤ 0 then
  ((m g0 27 8))
  else
  (zn (zor (m g0 27 8) 32) fun z504 =>
  z504)) fun v505 =>
  zn (((m g0 27 9) % a1)) fun z511 =>
  zn (if z511 = 0 then
  (v505)
  else
  (zn (zor v505 128) fun z513 =>
  z513)) fun v514 =>
  v514
-- WorkMeter$Load.statusSoFar
theorem c61_1 {s : Nat × (Nat → Int32)} {S : zS} {m0 m : zM} {B : Int} {d : Nat} {Q : Option zV → zM → Prop} (g0 : Nat) (a1 : Int) (hd : 13 ≤ d) (hJ : J S m0 B m) (hB : B + 0 ≤ 1000000000) (ha1 : 1 ≤ a1 ∧ a1 ≤ 1000000) (hQ : ∀ (v : Int), ((-2147483648) ≤ v ∧ v ≤ 2147483647) → f61_1 g0 a1 m = v → Q (some (zi v)) m) : X (EE s) d 61 0 [(0, zr g0 27), (1, zi a1)] [] m Q := by
  refine X.aload_n 1 i61_0 rfl rfl rfl ?_
  refine X.getIr 4 8 i61_1 rfl rfl (by decide) rfl rfl rfl (fun h501 => ?_)
  refine X.istore_n 5 [(0, zr g0 27), (1, zi a1), (2, zi (m g0 27 8))] i61_4 rfl rfl rfl ?_
  refine X.aload_n 6 i61_5 rfl rfl rfl ?_
  refine X.getIr 9 7 i61_6 rfl rfl (by decide) rfl rfl rfl (fun h502 => ?_)
  have hK508 : ∀ (v : Int) , ((-2147483648) ≤ v ∧ v ≤ 2147483647) → (if (m g0 27 7) ≤ 0 then
      ((m g0 27 8))
      else
      (zn (zor (m g0 27 8) 32) fun z504 =>
      z504)) = v → X (EE s) d 61 17 [(0, zr g0 27), (1, zi a1), (2, zi v)] [] m Q := by
    intro v505 hv505 hT509
    refine X.aload_n 18 i61_17 rfl rfl rfl ?_
    refine X.getI 21 9 i61_18 rfl rfl (by decide) rfl rfl rfl ?_
    have h510 := r27_9 hJ g0
    refine X.iload_n 22 i61_21 rfl rfl rfl ?_
    refine X.irem 23 i61_22 rfl rfl (by omega) ?_
    have hz511 := z_modb (x := (m g0 27 9)) (y := a1) (by omega) (by omega)
    obtain ⟨z511, ez511⟩ : ∃ z, z = ((m g0 27 9) % a1) := ⟨_, rfl⟩
    rw [← ez511] at hz511 ⊢
    have hK517 : ∀ (v : Int) , ((-2147483648) ≤ v ∧ v ≤ 2147483647) → (if z511 = 0 then
        (v505)
        else
        (zn (zor v505 128) fun z513 =>
        z513)) = v → X (EE s) d 61 35 [] [zi v] m Q := by
      intro v514 hv514 hT518
      refine X.reti i61_35 rfl t61 ?_
      exact hQ v514 (by first | trivial | omega) (Eq.trans (zn_eq hT509.symm) (Eq.trans (zn_eq ez511) (Eq.trans (zn_eq hT518.symm) rfl))) 
    refine X.ifeq 34 26 i61_23 rfl rfl rfl (fun h512 => ?_) (fun h512 => ?_)
    · refine X.cut [(2, zi v505)] i61_34 rfl ?_
      refine X.iload_n 35 i61_34 rfl rfl rfl ?_
      refine X.cut [] i61_35 rfl ?_
      exact hK517 v505 (by first | trivial | omega) (Eq.trans (if_pos h512) rfl)
    · refine X.iload_n 27 i61_26 rfl rfl rfl ?_
      refine X.sipush 30 i61_27 rfl rfl (by decide) ?_
      refine X.iiE 31 .ior (fun x y => x ||| y) i61_30 rfl rfl rfl (fun _ _ => rfl) (fun z513 ez513 hz513 => ?_)
      refine X.goto 35 i61_31 rfl rfl ?_
      refine X.cut [] i61_35 rfl ?_
      exact hK517 z513 (by first | trivial | omega) (Eq.trans (if_neg h512) (Eq.trans (zn_eq ez513) rfl))
  refine X.ifle 17 12 i61_9 rfl rfl rfl (fun h503 => ?_) (fun h503 => ?_)
  · exact hK508 (m g0 27 8) (by first | trivial | omega) (Eq.trans (if_pos h503) rfl)
  · refine X.iload_n 13 i61_12 rfl rfl rfl ?_
    refine X.bipush 15 i61_13 rfl rfl (by decide) ?_
    refine X.iiE 16 .ior (fun x y => x ||| y) i61_15 rfl rfl rfl (fun _ _ => rfl) (fun z504 ez504 hz504 => ?_)
    refine X.istore_n 17 [(0, zr g0 27), (1, zi a1), (2, zi z504)] i61_16 rfl rfl rfl ?_
    exact hK508 z504 (by first | trivial | omega) (Eq.trans (if_neg h503) (Eq.trans (zn_eq ez504) rfl))
def fl62_14_1_b (self : Int → zM → zM) (k47 : zM → zM) (g0 : Nat) (y1 y2 y3 : Int) (y4 : Int) (m : zM) : zM :=
  if 4 ≤ y4 then
  (k47 m)
  else
  (zn (w64 ((m g0 29 y4) + (m g0 28 ((y3 + 1) + y4)))) fun z506 =>
  zs (z_upd m g0 29 y4 z506) fun m507 =>
  self (y4 + 1) m507)
def fl62_14_1 (k47 : zM → zM) (g0 : Nat) (y1 y2 y3 : Int) : Nat → Int → zM → zM
  | 0 => fun y4 m => m
  | n + 1 => fl62_14_1_b (fl62_14_1 k47 g0 y1 y2 y3 n) k47 g0 y1 y2 y3
theorem l62_14_1 {s : Nat × (Nat → Int32)} {S : zS} {m0 : zM} {d : Nat} {Q : Option zV → zM → Prop} {R0 : zM} {k47 : zM → zM} (g0 : Nat) (y1 y2 y3 : Int) (BE : Int) (hE : BE ≤ 1000000000) (hd : 13 ≤ d) (hy1 : 0 ≤ y1 ∧ y1 ≤ 2000000000) (hy2 : (-2147483648) ≤ y2 ∧ y2 ≤ 2147483647) (hy3 : 0 ≤ y3 ∧ y3 ≤ 378) (hf7 : ¬ S.1 7) (hgg0 : ¬ S.2.1 g0)
    (K47 : ∀ (m' : zM) (B' : Int), J S m0 B' m' → B' ≤ BE → R0 = k47 m' → X (EE s) d 62 47 [(0, zr g0 27), (1, zi y1), (2, zi y2), (3, zi y3)] [] m' Q) :
    ∀ (n : Nat) (y4 : Int) (m : zM) (B : Int), J S m0 B m → B + 0 * (n : Int) ≤ BE → (0 ≤ y4 ∧ y4 ≤ 4) → 4 - y4 < (n : Int) → R0 = fl62_14_1 k47 g0 y1 y2 y3 n y4 m → X (EE s) d 62 14 [(0, zr g0 27), (1, zi y1), (2, zi y2), (3, zi y3), (4, zi y4)] [] m Q := by
  intro n
  induction n with
  | zero =>
    intro y4 m B hJ hB hy4 hn hR
    exfalso
    omega
  | succ n ih =>
    intro y4 m B hJ hB hy4 hn hR
    replace hR : R0 = fl62_14_1_b (fl62_14_1 k47 g0 y1 y2 y3 n) k47 g0 y1 y2 y3 y4 m := hR
    refine X.iload 16 i62_14 rfl rfl rfl ?_
    refine X.iconst 17 i62_16 rfl rfl (by decide) ?_
    refine X.icmpge 47 20 i62_17 rfl rfl rfl (fun h505 => ?_) (fun h505 => ?_)
    · refine X.cut [(0, zr g0 27), (1, zi y1), (2, zi y2), (3, zi y3)] i62_47 rfl ?_
      exact K47  m (B) (hJ.up (by omega)) (by omega)  (Eq.trans hR (Eq.trans (if_pos h505) rfl))
    · refine X.aload_n 21 i62_20 rfl rfl rfl ?_
      refine X.getR 24 i62_21 rfl rfl (by decide) rfl rfl ?_
      refine X.iload 26 i62_24 rfl rfl rfl ?_
      refine X.dup2 27 i62_26 rfl rfl ?_
      refine X.lald 28 i62_27 rfl rfl (by decide) rfl (by omega) ?_
      refine X.aload_n 29 i62_28 rfl rfl rfl ?_
      refine X.getR 32 i62_29 rfl rfl (by decide) rfl rfl ?_
      refine X.iload_n 33 i62_32 rfl rfl rfl ?_
      refine X.iconst 34 i62_33 rfl rfl (by decide) ?_
      refine X.iadd 35 i62_34 rfl rfl (by omega) ?_
      refine X.iload 37 i62_35 rfl rfl rfl ?_
      refine X.iadd 38 i62_37 rfl rfl (by omega) ?_
      refine X.lald 39 i62_38 rfl rfl (by decide) rfl (by omega) ?_
      refine X.laddW 40 i62_39 rfl rfl (fun z506 ez506 hz506 => ?_)
      refine X.last' 41 i62_40 rfl rfl (by decide) rfl (by omega) (fun hrm507 m507 hm507 => ?_)
      have hJ508 := w29_0 hJ hm507 (by omega) hrm507 hf7 hgg0
      refine X.iinc 44 [(0, zr g0 27), (1, zi y1), (2, zi y2), (3, zi y3), (4, zi (y4 + 1))] i62_41 rfl rfl rfl (by omega) rfl ?_
      refine X.goto 14 i62_44 rfl rfl ?_
      exact ih (y4 + 1) m507 (B) (hJ508.up (by omega)) (by omega) (by omega) (by omega) (Eq.trans hR (Eq.trans (if_neg h505) (Eq.trans (zn_eq ez506) (Eq.trans (zs_eq hm507) rfl))))
-- WorkMeter$Load.addLine
def f62_1 (g0 : Nat) (a1 a2 : Int) (m : zM) : zM :=
  fl62_14_1 (fun m502 =>
  zs (z_upd m502 g0 28 ((((m g0 27 2) % 64) * 6) + 0) a1) fun m506 =>
  zs (z_upd m506 g0 28 ((((m g0 27 2) % 64) * 6) + 1) (m506 g0 27 3)) fun m508 =>
  zs (z_upd m508 g0 28 ((((m g0 27 2) % 64) * 6) + 2) (m508 g0 27 4)) fun m510 =>
  zs (z_upd m510 g0 28 ((((m g0 27 2) % 64) * 6) + 3) (m510 g0 27 5)) fun m512 =>
  zs (z_upd m512 g0 28 ((((m g0 27 2) % 64) * 6) + 4) (m512 g0 27 6)) fun m515 =>
  zs (z_upd m515 g0 28 ((((m g0 27 2) % 64) * 6) + 5) a2) fun m517 =>
  zs (z_upd m517 g0 27 2 ((m517 g0 27 2) + 1)) fun m520 =>
  m520) g0 a1 a2 (((m g0 27 2) % 64) * 6) 5 0 m
-- WorkMeter$Load.addLine
theorem c62_1 {s : Nat × (Nat → Int32)} {S : zS} {m0 m : zM} {B : Int} {d : Nat} {Q : Option zV → zM → Prop} (g0 : Nat) (a1 a2 : Int) (hd : 13 ≤ d) (hJ : J S m0 B m) (hB : B + 1 ≤ 1000000000) (ha1 : 0 ≤ a1 ∧ a1 ≤ 2000000000) (ha2 : (-2147483648) ≤ a2 ∧ a2 ≤ 2147483647) (hf7 : ¬ S.1 7) (hgg0 : ¬ S.2.1 g0) (hQ : ∀ m', f62_1 g0 a1 a2 m = m' → J S m0 (B + 1) m' → Q none m') : X (EE s) d 62 0 [(0, zr g0 27), (1, zi a1), (2, zi a2)] [] m Q := by
  refine X.aload_n 1 i62_0 rfl rfl rfl ?_
  refine X.getI 4 2 i62_1 rfl rfl (by decide) rfl rfl rfl ?_
  have h501 := r27_2 hJ g0
  refine X.bipush 6 i62_4 rfl rfl (by decide) ?_
  refine X.irem 7 i62_6 rfl rfl (by omega) ?_
  refine X.bipush 9 i62_7 rfl rfl (by decide) ?_
  refine X.imul 10 i62_9 rfl rfl (by omega) ?_
  refine X.istore_n 11 [(0, zr g0 27), (1, zi a1), (2, zi a2), (3, zi (((m g0 27 2) % 64) * 6))] i62_10 rfl rfl rfl ?_
  refine X.iconst 12 i62_11 rfl rfl (by decide) ?_
  refine X.istore 14 [(0, zr g0 27), (1, zi a1), (2, zi a2), (3, zi (((m g0 27 2) % 64) * 6)), (4, zi 0)] i62_12 rfl rfl rfl ?_
  refine l62_14_1 (s := s) (d := d) (R0 := (f62_1 g0 a1 a2 m)) g0 a1 a2 (((m g0 27 2) % 64) * 6)  (BE := B + 0) (by omega) (by omega) (by omega) (by omega) (by omega) hf7 hgg0 (fun  m502 B503 hJ504 hBB503 hR505 => ?_) 5 0 m (B) (hJ.up (by omega)) (by omega) (by omega) (by omega) rfl
  refine X.aload_n 48 i62_47 rfl rfl rfl ?_
  refine X.getR 51 i62_48 rfl rfl (by decide) rfl rfl ?_
  refine X.iload_n 52 i62_51 rfl rfl rfl ?_
  refine X.iconst 53 i62_52 rfl rfl (by decide) ?_
  refine X.iadd 54 i62_53 rfl rfl (by omega) ?_
  refine X.iload_n 55 i62_54 rfl rfl rfl ?_
  refine X.i2l 56 i62_55 rfl rfl ?_
  refine X.last' 57 i62_56 rfl rfl (by decide) rfl (by omega) (fun hrm506 m506 hm506 => ?_)
  have hJ507 := w28_0 hJ504 hm506 (by omega) hrm506 hf7 hgg0
  refine X.aload_n 58 i62_57 rfl rfl rfl ?_
  refine X.getR 61 i62_58 rfl rfl (by decide) rfl rfl ?_
  refine X.iload_n 62 i62_61 rfl rfl rfl ?_
  refine X.iconst 63 i62_62 rfl rfl (by decide) ?_
  refine X.iadd 64 i62_63 rfl rfl (by omega) ?_
  refine X.aload_n 65 i62_64 rfl rfl rfl ?_
  refine X.getL 68 3 i62_65 rfl rfl (by decide) rfl rfl rfl ?_
  refine X.last' 69 i62_68 rfl rfl (by decide) rfl (by omega) (fun hrm508 m508 hm508 => ?_)
  have hJ509 := w28_0 hJ507 hm508 (by omega) hrm508 hf7 hgg0
  refine X.aload_n 70 i62_69 rfl rfl rfl ?_
  refine X.getR 73 i62_70 rfl rfl (by decide) rfl rfl ?_
  refine X.iload_n 74 i62_73 rfl rfl rfl ?_
  refine X.iconst 75 i62_74 rfl rfl (by decide) ?_
  refine X.iadd 76 i62_75 rfl rfl (by omega) ?_
  refine X.aload_n 77 i62_76 rfl rfl rfl ?_
  refine X.getL 80 4 i62_77 rfl rfl (by decide) rfl rfl rfl ?_
  refine X.last' 81 i62_80 rfl rfl (by decide) rfl (by omega) (fun hrm510 m510 hm510 => ?_)
  have hJ511 := w28_0 hJ509 hm510 (by omega) hrm510 hf7 hgg0
  refine X.aload_n 82 i62_81 rfl rfl rfl ?_
  refine X.getR 85 i62_82 rfl rfl (by decide) rfl rfl ?_
  refine X.iload_n 86 i62_85 rfl rfl rfl ?_
  refine X.iconst 87 i62_86 rfl rfl (by decide) ?_
  refine X.iadd 88 i62_87 rfl rfl (by omega) ?_
  refine X.aload_n 89 i62_88 rfl rfl rfl ?_
  refine X.getL 92 5 i62_89 rfl rfl (by decide) rfl rfl rfl ?_
  refine X.last' 93 i62_92 rfl rfl (by decide) rfl (by omega) (fun hrm512 m512 hm512 => ?_)
  have hJ513 := w28_0 hJ511 hm512 (by omega) hrm512 hf7 hgg0
  refine X.aload_n 94 i62_93 rfl rfl rfl ?_
  refine X.getR 97 i62_94 rfl rfl (by decide) rfl rfl ?_
  refine X.iload_n 98 i62_97 rfl rfl rfl ?_
  refine X.iconst 99 i62_98 rfl rfl (by decide) ?_
  refine X.iadd 100 i62_99 rfl rfl (by omega) ?_
  refine X.aload_n 101 i62_100 rfl rfl rfl ?_
  refine X.getIr 104 6 i62_101 rfl rfl (by decide) rfl rfl rfl (fun h514 => ?_)
  refine X.i2l 105 i62_104 rfl rfl ?_
  refine X.last' 106 i62_105 rfl rfl (by decide) rfl (by omega) (fun hrm515 m515 hm515 => ?_)
  have hJ516 := w28_0 hJ513 hm515 (by omega) hrm515 hf7 hgg0
  refine X.aload_n 107 i62_106 rfl rfl rfl ?_
  refine X.getR 110 i62_107 rfl rfl (by decide) rfl rfl ?_
  refine X.iload_n 111 i62_110 rfl rfl rfl ?_
  refine X.iconst 112 i62_111 rfl rfl (by decide) ?_
  refine X.iadd 113 i62_112 rfl rfl (by omega) ?_
  refine X.iload_n 114 i62_113 rfl rfl rfl ?_
  refine X.i2l 115 i62_114 rfl rfl ?_
  refine X.last' 116 i62_115 rfl rfl (by decide) rfl (by omega) (fun hrm517 m517 hm517 => ?_)
  have hJ518 := w28_0 hJ516 hm517 (by omega) hrm517 hf7 hgg0
  refine X.aload_n 117 i62_116 rfl rfl rfl ?_
  refine X.dup 118 i62_117 rfl rfl rfl ?_
  refine X.getI 121 2 i62_118 rfl rfl (by decide) rfl rfl rfl ?_
  have h519 := r27_2 hJ518 g0
  refine X.iconst 122 i62_121 rfl rfl (by decide) ?_
  refine X.iadd 123 i62_122 rfl rfl (by omega) ?_
  refine X.putI' 126 2 i62_123 rfl rfl (by decide) rfl rfl rfl (fun hrm520 m520 hm520 => ?_)
  have hJ521 := w27_2 (hJ518.up (B' := B503 + 1) (by omega)) hm520 (by omega) hf7 hgg0
  refine X.retv i62_126 rfl t62 ?_
  exact hQ  m520  (Eq.trans hR505 (Eq.trans (zs_eq hm506) (Eq.trans (zs_eq hm508) (Eq.trans (zs_eq hm510) (Eq.trans (zs_eq hm512) (Eq.trans (zs_eq hm515) (Eq.trans (zs_eq hm517) (Eq.trans (zs_eq hm520) rfl)))))))) (hJ521.up (by omega)) 
-- WorkMeter$Load.endBlock
def f60_1 (g0 : Nat) (a1 a2 a3 : Int) (m : zM) : zM :=
  zn (w32 ((m g0 27 6) + (m g0 27 7))) fun z503 =>
  zs (if z503 ≤ 0 then
  (m)
  else
  (zn (f61_1 g0 a2 m) fun v507 =>
  zn (zor v507 a3) fun z508 =>
  zn ((a1 % a2)) fun z509 =>
  zn (if z509 = 0 then
  (z508)
  else
  (zn (zor z508 128) fun z511 =>
  z511)) fun v512 =>
  zs (f62_1 g0 a1 v512 m) fun m517 =>
  m517)) fun m521 =>
  zs (z_upd m521 g0 27 3 0) fun m525 =>
  zs (z_upd m525 g0 27 4 0) fun m527 =>
  zs (z_upd m527 g0 27 5 0) fun m529 =>
  zs (z_upd m529 g0 27 6 0) fun m531 =>
  zs (z_upd m531 g0 27 7 0) fun m533 =>
  zs (z_upd m533 g0 27 8 0) fun m535 =>
  zs (z_upd m535 g0 27 9 a1) fun m537 =>
  m537
-- WorkMeter$Load.endBlock
theorem c60_1 {s : Nat × (Nat → Int32)} {S : zS} {m0 m : zM} {B : Int} {d : Nat} {Q : Option zV → zM → Prop} (g0 : Nat) (a1 a2 a3 : Int) (hd : 14 ≤ d) (hJ : J S m0 B m) (hB : B + 1 ≤ 1000000000) (ha1 : 0 ≤ a1 ∧ a1 ≤ 2000000000) (ha2 : 1 ≤ a2 ∧ a2 ≤ 1000000) (ha3 : 0 ≤ a3 ∧ a3 ≤ 64) (hf7 : ¬ S.1 7) (hgg0 : ¬ S.2.1 g0) (hQ : ∀ m', f60_1 g0 a1 a2 a3 m = m' → J S m0 (B + 1) m' → Q none m') : X (EE s) d 60 0 [(0, zr g0 27), (1, zi a1), (2, zi a2), (3, zi a3)] [] m Q := by
  refine X.aload_n 1 i60_0 rfl rfl rfl ?_
  refine X.getIr 4 6 i60_1 rfl rfl (by decide) rfl rfl rfl (fun h501 => ?_)
  refine X.aload_n 5 i60_4 rfl rfl rfl ?_
  refine X.getIr 8 7 i60_5 rfl rfl (by decide) rfl rfl rfl (fun h502 => ?_)
  refine X.iaddW 9 i60_8 rfl rfl (fun z503 ez503 hz503 => ?_)
  have hK523 : ∀ (m' : zM), (if z503 ≤ 0 then
      (m)
      else
      (zn (f61_1 g0 a2 m) fun v507 =>
      zn (zor v507 a3) fun z508 =>
      zn ((a1 % a2)) fun z509 =>
      zn (if z509 = 0 then
      (z508)
      else
      (zn (zor z508 128) fun z511 =>
      z511)) fun v512 =>
      zs (f62_1 g0 a1 v512 m) fun m517 =>
      m517)) = m' → J S m0 (B + 1) m' → X (EE s) d 60 43 [(0, zr g0 27), (1, zi a1)] [] m' Q := by
    intro m521 hT524 hJ522
    refine X.aload_n 44 i60_43 rfl rfl rfl ?_
    refine X.lconst (y := 0) 45 i60_44 rfl rfl rfl ?_
    refine X.putL' 48 3 i60_45 rfl rfl (by decide) rfl rfl rfl (fun hrm525 m525 hm525 => ?_)
    have hJ526 := w27_3 hJ522 hm525 (by omega) hrm525 hf7 hgg0
    refine X.aload_n 49 i60_48 rfl rfl rfl ?_
    refine X.lconst (y := 0) 50 i60_49 rfl rfl rfl ?_
    refine X.putL' 53 4 i60_50 rfl rfl (by decide) rfl rfl rfl (fun hrm527 m527 hm527 => ?_)
    have hJ528 := w27_3 hJ526 hm527 (by omega) hrm527 hf7 hgg0
    refine X.aload_n 54 i60_53 rfl rfl rfl ?_
    refine X.lconst (y := 0) 55 i60_54 rfl rfl rfl ?_
    refine X.putL' 58 5 i60_55 rfl rfl (by decide) rfl rfl rfl (fun hrm529 m529 hm529 => ?_)
    have hJ530 := w27_3 hJ528 hm529 (by omega) hrm529 hf7 hgg0
    refine X.aload_n 59 i60_58 rfl rfl rfl ?_
    refine X.iconst 60 i60_59 rfl rfl (by decide) ?_
    refine X.putI' 63 6 i60_60 rfl rfl (by decide) rfl rfl rfl (fun hrm531 m531 hm531 => ?_)
    have hJ532 := w27_3 hJ530 hm531 (by omega) hrm531 hf7 hgg0
    refine X.aload_n 64 i60_63 rfl rfl rfl ?_
    refine X.iconst 65 i60_64 rfl rfl (by decide) ?_
    refine X.putI' 68 7 i60_65 rfl rfl (by decide) rfl rfl rfl (fun hrm533 m533 hm533 => ?_)
    have hJ534 := w27_3 hJ532 hm533 (by omega) hrm533 hf7 hgg0
    refine X.aload_n 69 i60_68 rfl rfl rfl ?_
    refine X.iconst 70 i60_69 rfl rfl (by decide) ?_
    refine X.putI' 73 8 i60_70 rfl rfl (by decide) rfl rfl rfl (fun hrm535 m535 hm535 => ?_)
    have hJ536 := w27_3 hJ534 hm535 (by omega) hrm535 hf7 hgg0
    refine X.aload_n 74 i60_73 rfl rfl rfl ?_
    refine X.iload_n 75 i60_74 rfl rfl rfl ?_
    refine X.putI' 78 9 i60_75 rfl rfl (by decide) rfl rfl rfl (fun hrm537 m537 hm537 => ?_)
    have hJ538 := w27_9 hJ536 hm537 (by omega) hf7 hgg0
    refine X.retv i60_78 rfl t60 ?_
    exact hQ  m537  (Eq.trans (zn_eq ez503) (Eq.trans (zs_eq hT524.symm) (Eq.trans (zs_eq hm525) (Eq.trans (zs_eq hm527) (Eq.trans (zs_eq hm529) (Eq.trans (zs_eq hm531) (Eq.trans (zs_eq hm533) (Eq.trans (zs_eq hm535) (Eq.trans (zs_eq hm537) rfl))))))))) (hJ538.up (by omega)) 
  refine X.ifle 43 12 i60_9 rfl rfl rfl (fun h504 => ?_) (fun h504 => ?_)
  · refine X.cut [(0, zr g0 27), (1, zi a1)] i60_43 rfl ?_
    exact hK523 m (Eq.trans (if_pos h504) rfl) (hJ.up (by omega))
  · refine X.aload_n 13 i60_12 rfl rfl rfl ?_
    refine X.iload_n 14 i60_13 rfl rfl rfl ?_
    refine X.callv 17 [zi a2] [] [(0, zr g0 27), (1, zi a2)] i60_14 rfl (by decide) rfl rfl (by omega) rfl rfl (by decide) rfl t61 (Nat.le_of_ble_eq_true rfl) (Nat.le_of_ble_eq_true rfl) rfl ?_
    refine c61_1 (B := B) g0 a2 (by omega) (hJ.up (by omega)) (by omega) (by omega) (fun v507 hv507 hFv507 => ?_)
    show X (EE s) d 60 17 [(0, zr g0 27), (1, zi a1), (2, zi a2), (3, zi a3)] [zi v507] m _
    refine X.iload_n 18 i60_17 rfl rfl rfl ?_
    refine X.iiE 19 .ior (fun x y => x ||| y) i60_18 rfl rfl rfl (fun _ _ => rfl) (fun z508 ez508 hz508 => ?_)
    refine X.istore 21 [(0, zr g0 27), (1, zi a1), (2, zi a2), (3, zi a3), (4, zi z508)] i60_19 rfl rfl rfl ?_
    refine X.aload_n 22 i60_21 rfl rfl rfl ?_
    refine X.iload_n 23 i60_22 rfl rfl rfl ?_
    refine X.iload_n 24 i60_23 rfl rfl rfl ?_
    refine X.iload_n 25 i60_24 rfl rfl rfl ?_
    refine X.irem 26 i60_25 rfl rfl (by omega) ?_
    have hz509 := z_modb (x := a1) (y := a2) (by omega) (by omega)
    obtain ⟨z509, ez509⟩ : ∃ z, z = (a1 % a2) := ⟨_, rfl⟩
    rw [← ez509] at hz509 ⊢
    have hK515 : ∀ (v : Int) , ((-2147483648) ≤ v ∧ v ≤ 2147483647) → (if z509 = 0 then
        (z508)
        else
        (zn (zor z508 128) fun z511 =>
        z511)) = v → X (EE s) d 60 40 [(0, zr g0 27), (1, zi a1)] [zi v, zi a1, zr g0 27] m Q := by
      intro v512 hv512 hT516
      refine X.callv 43 [zi a1, zi v512] [] [(0, zr g0 27), (1, zi a1), (2, zi v512)] i60_40 rfl (by decide) rfl rfl (by omega) rfl rfl (by decide) rfl t62 (Nat.le_of_ble_eq_true rfl) (Nat.le_of_ble_eq_true rfl) rfl ?_
      refine c62_1 (B := B) g0 a1 v512 (by omega) (hJ.up (by omega)) (by omega) (by omega) (by omega) hf7 hgg0 (fun m517 hFv519 hJ518 => ?_)
      show X (EE s) d 60 43 [(0, zr g0 27), (1, zi a1)] [] m517 _
      exact hK523 m517 (Eq.trans (if_neg h504) (Eq.trans (zn_eq hFv507.symm) (Eq.trans (zn_eq ez508) (Eq.trans (zn_eq ez509) (Eq.trans (zn_eq hT516.symm) (Eq.trans (zs_eq hFv519.symm) rfl)))))) (hJ518.up (by omega))
    refine X.ifeq 38 29 i60_26 rfl rfl rfl (fun h510 => ?_) (fun h510 => ?_)
    · refine X.cut [(0, zr g0 27), (1, zi a1), (4, zi z508)] i60_38 rfl ?_
      refine X.iload 40 i60_38 rfl rfl rfl ?_
      refine X.cut [(0, zr g0 27), (1, zi a1)] i60_40 rfl ?_
      exact hK515 z508 (by first | trivial | omega) (Eq.trans (if_pos h510) rfl)
    · refine X.iload 31 i60_29 rfl rfl rfl ?_
      refine X.sipush 34 i60_31 rfl rfl (by decide) ?_
      refine X.iiE 35 .ior (fun x y => x ||| y) i60_34 rfl rfl rfl (fun _ _ => rfl) (fun z511 ez511 hz511 => ?_)
      refine X.goto 40 i60_35 rfl rfl ?_
      refine X.cut [(0, zr g0 27), (1, zi a1)] i60_40 rfl ?_
      exact hK515 z511 (by first | trivial | omega) (Eq.trans (if_neg h510) (Eq.trans (zn_eq ez511) rfl))
-- WorkMeter$Load.linesKept
def f66_1 (g0 : Nat) (m : zM) : Int :=
  (min (m g0 27 2) 64)
-- WorkMeter$Load.linesKept
theorem c66_1 {s : Nat × (Nat → Int32)} {S : zS} {m0 m : zM} {B : Int} {d : Nat} {Q : Option zV → zM → Prop} (g0 : Nat) (hd : 13 ≤ d) (hJ : J S m0 B m) (hB : B + 0 ≤ 1000000000) (hQ : ∀ (v : Int), (0 ≤ v ∧ v ≤ 64) → f66_1 g0 m = v → Q (some (zi v)) m) : X (EE s) d 66 0 [(0, zr g0 27)] [] m Q := by
  refine X.aload_n 1 i66_0 rfl rfl rfl ?_
  refine X.getI 4 2 i66_1 rfl rfl (by decide) rfl rfl rfl ?_
  have h501 := r27_2 hJ g0
  refine X.bipush 6 i66_4 rfl rfl (by decide) ?_
  refine X.minI 9 i66_6 rfl rfl (by omega) (Nat.le_of_ble_eq_true rfl) ?_
  refine X.reti i66_9 rfl t66 ?_
  exact hQ (min (m g0 27 2) 64) (by first | trivial | omega) rfl 
-- WorkMeter$Load.field
def f67_1 (g0 : Nat) (a1 a2 : Int) (m : zM) : Int :=
  (m g0 28 ((((((m g0 27 2) - 1) - a1) % 64) * 6) + a2))
-- WorkMeter$Load.field
theorem c67_1 {s : Nat × (Nat → Int32)} {S : zS} {m0 m : zM} {B : Int} {d : Nat} {Q : Option zV → zM → Prop} (g0 : Nat) (a1 a2 : Int) (hd : 13 ≤ d) (hJ : J S m0 B m) (hB : B + 0 ≤ 1000000000) (ha1 : 0 ≤ a1 ∧ a1 ≤ 5) (ha2 : 5 ≤ a2 ∧ a2 ≤ 5) (hQ : ∀ (v : Int), (True) → f67_1 g0 a1 a2 m = v → Q (some (zl v)) m) : X (EE s) d 67 0 [(0, zr g0 27), (1, zi a1), (2, zi a2)] [] m Q := by
  refine X.aload_n 1 i67_0 rfl rfl rfl ?_
  refine X.getR 4 i67_1 rfl rfl (by decide) rfl rfl ?_
  refine X.aload_n 5 i67_4 rfl rfl rfl ?_
  refine X.getI 8 2 i67_5 rfl rfl (by decide) rfl rfl rfl ?_
  have h501 := r27_2 hJ g0
  refine X.iconst 9 i67_8 rfl rfl (by decide) ?_
  refine X.isub 10 i67_9 rfl rfl (by omega) ?_
  refine X.iload_n 11 i67_10 rfl rfl rfl ?_
  refine X.isub 12 i67_11 rfl rfl (by omega) ?_
  refine X.bipush 14 i67_12 rfl rfl (by decide) ?_
  refine X.irem 15 i67_14 rfl rfl (by omega) ?_
  refine X.bipush 17 i67_15 rfl rfl (by decide) ?_
  refine X.imul 18 i67_17 rfl rfl (by omega) ?_
  refine X.iload_n 19 i67_18 rfl rfl rfl ?_
  refine X.iadd 20 i67_19 rfl rfl (by omega) ?_
  refine X.lald 21 i67_20 rfl rfl (by decide) rfl (by omega) ?_
  refine X.retl i67_21 rfl t67 ?_
  exact hQ (m g0 28 ((((((m g0 27 2) - 1) - a1) % 64) * 6) + a2)) (by first | trivial | omega) rfl 
-- WorkMeter$Load.field
theorem c67_2 {s : Nat × (Nat → Int32)} {S : zS} {m0 m : zM} {B : Int} {d : Nat} {Q : Option zV → zM → Prop} (g0 : Nat) (a1 a2 : Int) (hd : 13 ≤ d) (hJ : J S m0 B m) (hB : B + 0 ≤ 1000000000) (ha1 : 0 ≤ a1 ∧ a1 ≤ 4) (ha2 : 0 ≤ a2 ∧ a2 ≤ 0) (hQ : ∀ (v : Int), (True) → f67_1 g0 a1 a2 m = v → Q (some (zl v)) m) : X (EE s) d 67 0 [(0, zr g0 27), (1, zi a1), (2, zi a2)] [] m Q := by
  refine X.aload_n 1 i67_0 rfl rfl rfl ?_
  refine X.getR 4 i67_1 rfl rfl (by decide) rfl rfl ?_
  refine X.aload_n 5 i67_4 rfl rfl rfl ?_
  refine X.getI 8 2 i67_5 rfl rfl (by decide) rfl rfl rfl ?_
  have h501 := r27_2 hJ g0
  refine X.iconst 9 i67_8 rfl rfl (by decide) ?_
  refine X.isub 10 i67_9 rfl rfl (by omega) ?_
  refine X.iload_n 11 i67_10 rfl rfl rfl ?_
  refine X.isub 12 i67_11 rfl rfl (by omega) ?_
  refine X.bipush 14 i67_12 rfl rfl (by decide) ?_
  refine X.irem 15 i67_14 rfl rfl (by omega) ?_
  refine X.bipush 17 i67_15 rfl rfl (by decide) ?_
  refine X.imul 18 i67_17 rfl rfl (by omega) ?_
  refine X.iload_n 19 i67_18 rfl rfl rfl ?_
  refine X.iadd 20 i67_19 rfl rfl (by omega) ?_
  refine X.lald 21 i67_20 rfl rfl (by decide) rfl (by omega) ?_
  refine X.retl i67_21 rfl t67 ?_
  exact hQ (m g0 28 ((((((m g0 27 2) - 1) - a1) % 64) * 6) + a2)) (by first | trivial | omega) rfl 
-- WorkMeter$Load.field
theorem c67_3 {s : Nat × (Nat → Int32)} {S : zS} {m0 m : zM} {B : Int} {d : Nat} {Q : Option zV → zM → Prop} (g0 : Nat) (a1 a2 : Int) (hd : 13 ≤ d) (hJ : J S m0 B m) (hB : B + 0 ≤ 1000000000) (ha1 : 1 ≤ a1 ∧ a1 ≤ 5) (ha2 : 0 ≤ a2 ∧ a2 ≤ 0) (hQ : ∀ (v : Int), (True) → f67_1 g0 a1 a2 m = v → Q (some (zl v)) m) : X (EE s) d 67 0 [(0, zr g0 27), (1, zi a1), (2, zi a2)] [] m Q := by
  refine X.aload_n 1 i67_0 rfl rfl rfl ?_
  refine X.getR 4 i67_1 rfl rfl (by decide) rfl rfl ?_
  refine X.aload_n 5 i67_4 rfl rfl rfl ?_
  refine X.getI 8 2 i67_5 rfl rfl (by decide) rfl rfl rfl ?_
  have h501 := r27_2 hJ g0
  refine X.iconst 9 i67_8 rfl rfl (by decide) ?_
  refine X.isub 10 i67_9 rfl rfl (by omega) ?_
  refine X.iload_n 11 i67_10 rfl rfl rfl ?_
  refine X.isub 12 i67_11 rfl rfl (by omega) ?_
  refine X.bipush 14 i67_12 rfl rfl (by decide) ?_
  refine X.irem 15 i67_14 rfl rfl (by omega) ?_
  refine X.bipush 17 i67_15 rfl rfl (by decide) ?_
  refine X.imul 18 i67_17 rfl rfl (by omega) ?_
  refine X.iload_n 19 i67_18 rfl rfl rfl ?_
  refine X.iadd 20 i67_19 rfl rfl (by omega) ?_
  refine X.lald 21 i67_20 rfl rfl (by decide) rfl (by omega) ?_
  refine X.retl i67_21 rfl t67 ?_
  exact hQ (m g0 28 ((((((m g0 27 2) - 1) - a1) % 64) * 6) + a2)) (by first | trivial | omega) rfl 
def fl65_12_1_b (self : Int → Int) (k32 : Int → Int) (k59 : Int → Int) (k67 : Int) (g0 : Nat) (y1 y2 : Int) (m : zM) (y3 : Int) : Int :=
  if y1 ≤ y3 then
  (k67)
  else
  (zn (f67_1 g0 y3 5 m) fun v521 =>
  zn (zandL v521 192) fun z522 =>
  if z522 = 0 then
  (if y3 ≤ 0 then
  (self (y3 + 1))
  else
  (zn (f67_1 g0 (y3 - 1) 0 m) fun v528 =>
  zn (f67_1 g0 y3 0 m) fun v531 =>
  zn (w64 (v528 - v531)) fun z532 =>
  if z532 = y2 then
  (self (y3 + 1))
  else
  (k59 y3)))
  else
  (k32 y3))
def fl65_12_1 (k32 : Int → Int) (k59 : Int → Int) (k67 : Int) (g0 : Nat) (y1 y2 : Int) (m : zM) : Nat → Int → Int
  | 0 => fun y3 => 0
  | n + 1 => fl65_12_1_b (fl65_12_1 k32 k59 k67 g0 y1 y2 m n) k32 k59 k67 g0 y1 y2 m
theorem l65_12_1 {s : Nat × (Nat → Int32)} {S : zS} {m0 : zM} {m : zM} {B : Int} {d : Nat} {Q : Option zV → zM → Prop} {R0 : Int} {k32 : Int → Int} {k59 : Int → Int} {k67 : Int} (g0 : Nat) (y1 y2 : Int) (hd : 14 ≤ d) (hJ : J S m0 B m) (hB9 : B ≤ 1000000000) (hy1 : 1 ≤ y1 ∧ y1 ≤ 6) (hy2 : 1 ≤ y2 ∧ y2 ≤ 1000000)
    (K32 : ∀ (x3 : Int) , (0 ≤ x3 ∧ x3 ≤ 5) → (y1 ≤ m g0 27 2) → R0 = k32 x3 → X (EE s) d 65 32 [(0, zr g0 27), (1, zi y1), (2, zi y2), (3, zi x3)] [] m Q)
    (K59 : ∀ (x3 : Int) , (1 ≤ x3 ∧ x3 ≤ 5) → (y1 ≤ m g0 27 2) → R0 = k59 x3 → X (EE s) d 65 59 [(0, zr g0 27), (1, zi y1), (2, zi y2), (3, zi x3)] [] m Q)
    (K67 : (y1 ≤ m g0 27 2) → R0 = k67 → X (EE s) d 65 67 [] [] m Q) :
    ∀ (n : Nat) (y3 : Int) , (0 ≤ y3 ∧ y3 ≤ 6) → (y1 ≤ m g0 27 2) → 6 - y3 < (n : Int) → R0 = fl65_12_1 k32 k59 k67 g0 y1 y2 m n y3 → X (EE s) d 65 12 [(0, zr g0 27), (1, zi y1), (2, zi y2), (3, zi y3)] [] m Q := by
  intro n
  induction n with
  | zero =>
    intro y3 hy3 hr0 hn hR
    exfalso
    omega
  | succ n ih =>
    intro y3 hy3 hr0 hn hR
    replace hR : R0 = fl65_12_1_b (fl65_12_1 k32 k59 k67 g0 y1 y2 m n) k32 k59 k67 g0 y1 y2 m y3 := hR
    refine X.iload_n 13 i65_12 rfl rfl rfl ?_
    refine X.iload_n 14 i65_13 rfl rfl rfl ?_
    refine X.icmpge 67 17 i65_14 rfl rfl rfl (fun h518 => ?_) (fun h518 => ?_)
    · refine X.cut [] i65_67 rfl ?_
      exact K67  (by omega) (Eq.trans hR (Eq.trans (if_pos h518) rfl))
    · refine X.aload_n 18 i65_17 rfl rfl rfl ?_
      refine X.iload_n 19 i65_18 rfl rfl rfl ?_
      refine X.iconst 20 i65_19 rfl rfl (by decide) ?_
      refine X.callv 23 [zi y3, zi 5] [] [(0, zr g0 27), (1, zi y3), (2, zi 5)] i65_20 rfl (by decide) rfl rfl (by omega) rfl rfl (by decide) rfl t67 (Nat.le_of_ble_eq_true rfl) (Nat.le_of_ble_eq_true rfl) rfl ?_
      refine c67_1 (B := B) g0 y3 5 (by omega) (hJ.up (by omega)) (by omega) (by omega) (by omega) (fun v521 hv521 hFv521 => ?_)
      show X (EE s) d 65 23 [(0, zr g0 27), (1, zi y1), (2, zi y2), (3, zi y3)] [zl v521] m _
      refine X.ldc2 26 i65_23 rfl rfl (by decide) ?_
      refine X.llE 27 .land (fun x y => x &&& y) i65_26 rfl rfl rfl (fun _ _ => rfl) (fun z522 ez522 hz522 => ?_)
      refine X.lconst (y := 0) 28 i65_27 rfl rfl rfl ?_
      refine X.lcmp 29 i65_28 rfl rfl (fun z523 hz523 => ?_)
      refine X.ifeq 34 32 i65_29 rfl rfl rfl (fun h524 => ?_) (fun h524 => ?_)
      · have h524c : z522 = 0 := by omega
        clear h524 hz523
        refine X.iload_n 35 i65_34 rfl rfl rfl ?_
        refine X.ifle 61 38 i65_35 rfl rfl rfl (fun h525 => ?_) (fun h525 => ?_)
        · refine X.iinc 64 [(0, zr g0 27), (1, zi y1), (2, zi y2), (3, zi (y3 + 1))] i65_61 rfl rfl rfl (by omega) rfl ?_
          refine X.goto 12 i65_64 rfl rfl ?_
          exact ih (y3 + 1) (by omega) (by omega) (by omega) (Eq.trans hR (Eq.trans (if_neg h518) (Eq.trans (zn_eq hFv521.symm) (Eq.trans (zn_eq ez522) (Eq.trans (if_pos h524c) (Eq.trans (if_pos h525) rfl))))))
        · refine X.aload_n 39 i65_38 rfl rfl rfl ?_
          refine X.iload_n 40 i65_39 rfl rfl rfl ?_
          refine X.iconst 41 i65_40 rfl rfl (by decide) ?_
          refine X.isub 42 i65_41 rfl rfl (by omega) ?_
          refine X.iconst 43 i65_42 rfl rfl (by decide) ?_
          refine X.callv 46 [zi (y3 - 1), zi 0] [] [(0, zr g0 27), (1, zi (y3 - 1)), (2, zi 0)] i65_43 rfl (by decide) rfl rfl (by omega) rfl rfl (by decide) rfl t67 (Nat.le_of_ble_eq_true rfl) (Nat.le_of_ble_eq_true rfl) rfl ?_
          refine c67_2 (B := B) g0 (y3 - 1) 0 (by omega) (hJ.up (by omega)) (by omega) (by omega) (by omega) (fun v528 hv528 hFv528 => ?_)
          show X (EE s) d 65 46 [(0, zr g0 27), (1, zi y1), (2, zi y2), (3, zi y3)] [zl v528] m _
          refine X.aload_n 47 i65_46 rfl rfl rfl ?_
          refine X.iload_n 48 i65_47 rfl rfl rfl ?_
          refine X.iconst 49 i65_48 rfl rfl (by decide) ?_
          refine X.callv 52 [zi y3, zi 0] [zl v528] [(0, zr g0 27), (1, zi y3), (2, zi 0)] i65_49 rfl (by decide) rfl rfl (by omega) rfl rfl (by decide) rfl t67 (Nat.le_of_ble_eq_true rfl) (Nat.le_of_ble_eq_true rfl) rfl ?_
          refine c67_3 (B := B) g0 y3 0 (by omega) (hJ.up (by omega)) (by omega) (by omega) (by omega) (fun v531 hv531 hFv531 => ?_)
          show X (EE s) d 65 52 [(0, zr g0 27), (1, zi y1), (2, zi y2), (3, zi y3)] [zl v531, zl v528] m _
          refine X.lsubW 53 i65_52 rfl rfl (fun z532 ez532 hz532 => ?_)
          refine X.iload_n 54 i65_53 rfl rfl rfl ?_
          refine X.i2l 55 i65_54 rfl rfl ?_
          refine X.lcmp 56 i65_55 rfl rfl (fun z533 hz533 => ?_)
          refine X.ifeq 61 59 i65_56 rfl rfl rfl (fun h534 => ?_) (fun h534 => ?_)
          · have h534c : z532 = y2 := by omega
            clear h534 hz533
            refine X.iinc 64 [(0, zr g0 27), (1, zi y1), (2, zi y2), (3, zi (y3 + 1))] i65_61 rfl rfl rfl (by omega) rfl ?_
            refine X.goto 12 i65_64 rfl rfl ?_
            exact ih (y3 + 1) (by omega) (by omega) (by omega) (Eq.trans hR (Eq.trans (if_neg h518) (Eq.trans (zn_eq hFv521.symm) (Eq.trans (zn_eq ez522) (Eq.trans (if_pos h524c) (Eq.trans (if_neg h525) (Eq.trans (zn_eq hFv528.symm) (Eq.trans (zn_eq hFv531.symm) (Eq.trans (zn_eq ez532) (Eq.trans (if_pos h534c) rfl))))))))))
          · have h534c : ¬ z532 = y2 := by omega
            clear h534 hz533
            exact K59 y3 (by first | trivial | omega) (by omega) (Eq.trans hR (Eq.trans (if_neg h518) (Eq.trans (zn_eq hFv521.symm) (Eq.trans (zn_eq ez522) (Eq.trans (if_pos h524c) (Eq.trans (if_neg h525) (Eq.trans (zn_eq hFv528.symm) (Eq.trans (zn_eq hFv531.symm) (Eq.trans (zn_eq ez532) (Eq.trans (if_neg h534c) rfl))))))))))
      · have h524c : ¬ z522 = 0 := by omega
        clear h524 hz523
        exact K32 y3 (by first | trivial | omega) (by omega) (Eq.trans hR (Eq.trans (if_neg h518) (Eq.trans (zn_eq hFv521.symm) (Eq.trans (zn_eq ez522) (Eq.trans (if_neg h524c) rfl)))))
-- WorkMeter$Demand.windowIsWhole
def f65_1 (g0 : Nat) (a1 a2 : Int) (m : zM) : Int :=
  zn (f66_1 g0 m) fun v503 =>
  if a1 ≤ v503 then
  (fl65_12_1 (fun y505 =>
  0) (fun y510 =>
  0) (1) g0 a1 a2 m 7 0)
  else
  (0)
-- WorkMeter$Demand.windowIsWhole
theorem c65_1 {s : Nat × (Nat → Int32)} {S : zS} {m0 m : zM} {B : Int} {d : Nat} {Q : Option zV → zM → Prop} (g0 : Nat) (a1 a2 : Int) (hd : 14 ≤ d) (hJ : J S m0 B m) (hB : B + 0 ≤ 1000000000) (ha1 : 1 ≤ a1 ∧ a1 ≤ 6) (ha2 : 1 ≤ a2 ∧ a2 ≤ 1000000) (hQ : ∀ (v : Int), (0 ≤ v ∧ v ≤ 1) → f65_1 g0 a1 a2 m = v → (v = 1 → a1 ≤ m g0 27 2) → Q (some (zi v)) m) : X (EE s) d 65 0 [(0, zr g0 27), (1, zi a1), (2, zi a2)] [] m Q := by
  refine X.aload_n 1 i65_0 rfl rfl rfl ?_
  refine X.callv 4 [] [] [(0, zr g0 27)] i65_1 rfl (by decide) rfl rfl (by omega) rfl rfl (by decide) rfl t66 (Nat.le_of_ble_eq_true rfl) (Nat.le_of_ble_eq_true rfl) rfl ?_
  refine c66_1 (B := B) g0  (by omega) (hJ.up (by omega)) (by omega)  (fun v503 hv503 hFv503 => ?_)
  show X (EE s) d 65 4 [(0, zr g0 27), (1, zi a1), (2, zi a2)] [zi v503] m _
  refine X.iload_n 5 i65_4 rfl rfl rfl ?_
  refine X.icmpge 10 8 i65_5 rfl rfl rfl (fun h504 => ?_) (fun h504 => ?_)
  · refine X.iconst 11 i65_10 rfl rfl (by decide) ?_
    refine X.istore_n 12 [(0, zr g0 27), (1, zi a1), (2, zi a2), (3, zi 0)] i65_11 rfl rfl rfl ?_
    refine l65_12_1 (s := s) (m := m) (B := B) (d := d) (R0 := (f65_1 g0 a1 a2 m)) g0 a1 a2  (by omega) (hJ.up (by omega)) (by omega) (by omega) (by omega) (fun y505 hby505 hrlm506_0 hR509 => ?_) (fun y510 hby510 hrlm511_0 hR514 => ?_) (fun  hrlm515_0 hR518 => ?_) 7 0 (by omega) (by omega) (by omega) (Eq.trans (zn_eq hFv503.symm) (Eq.trans (if_pos h504) rfl))
    · refine X.iconst 33 i65_32 rfl rfl (by decide) ?_
      refine X.retz i65_33 rfl t65 (by omega) ?_
      exact hQ 0 (by first | trivial | omega) (Eq.trans hR509 rfl) (by omega)
    · refine X.iconst 60 i65_59 rfl rfl (by decide) ?_
      refine X.retz i65_60 rfl t65 (by omega) ?_
      exact hQ 0 (by first | trivial | omega) (Eq.trans hR514 rfl) (by omega)
    · refine X.iconst 68 i65_67 rfl rfl (by decide) ?_
      refine X.retz i65_68 rfl t65 (by omega) ?_
      exact hQ 1 (by first | trivial | omega) (Eq.trans hR518 rfl) (by omega)
  · refine X.iconst 9 i65_8 rfl rfl (by decide) ?_
    refine X.retz i65_9 rfl t65 (by omega) ?_
    exact hQ 0 (by first | trivial | omega) (Eq.trans (zn_eq hFv503.symm) (Eq.trans (if_neg h504) rfl)) (by omega)
-- WorkMeter$Load.field
theorem c67_4 {s : Nat × (Nat → Int32)} {S : zS} {m0 m : zM} {B : Int} {d : Nat} {Q : Option zV → zM → Prop} (g0 : Nat) (a1 a2 : Int) (hd : 13 ≤ d) (hJ : J S m0 B m) (hB : B + 0 ≤ 1000000000) (ha1 : 0 ≤ a1 ∧ a1 ≤ 126) (ha2 : 1 ≤ a2 ∧ a2 ≤ 1) (hQ : ∀ (v : Int), (True) → f67_1 g0 a1 a2 m = v → Q (some (zl v)) m) : X (EE s) d 67 0 [(0, zr g0 27), (1, zi a1), (2, zi a2)] [] m Q := by
  refine X.aload_n 1 i67_0 rfl rfl rfl ?_
  refine X.getR 4 i67_1 rfl rfl (by decide) rfl rfl ?_
  refine X.aload_n 5 i67_4 rfl rfl rfl ?_
  refine X.getI 8 2 i67_5 rfl rfl (by decide) rfl rfl rfl ?_
  have h501 := r27_2 hJ g0
  refine X.iconst 9 i67_8 rfl rfl (by decide) ?_
  refine X.isub 10 i67_9 rfl rfl (by omega) ?_
  refine X.iload_n 11 i67_10 rfl rfl rfl ?_
  refine X.isub 12 i67_11 rfl rfl (by omega) ?_
  refine X.bipush 14 i67_12 rfl rfl (by decide) ?_
  refine X.irem 15 i67_14 rfl rfl (by omega) ?_
  refine X.bipush 17 i67_15 rfl rfl (by decide) ?_
  refine X.imul 18 i67_17 rfl rfl (by omega) ?_
  refine X.iload_n 19 i67_18 rfl rfl rfl ?_
  refine X.iadd 20 i67_19 rfl rfl (by omega) ?_
  refine X.lald 21 i67_20 rfl rfl (by decide) rfl (by omega) ?_
  refine X.retl i67_21 rfl t67 ?_
  exact hQ (m g0 28 ((((((m g0 27 2) - 1) - a1) % 64) * 6) + a2)) (by first | trivial | omega) rfl 
def fl68_5_1_b (self : Int → Int → Int) (k29 : Int → Int) (g0 : Nat) (y1 y2 : Int) (m : zM) (y3 y5 : Int) : Int :=
  if (y1 + y2) ≤ y5 then
  (k29 y3)
  else
  (zn (f67_1 g0 y5 1 m) fun v514 =>
  zn (w64 (y3 + v514)) fun z515 =>
  self z515 (y5 + 1))
def fl68_5_1 (k29 : Int → Int) (g0 : Nat) (y1 y2 : Int) (m : zM) : Nat → Int → Int → Int
  | 0 => fun y3 y5 => 0
  | n + 1 => fl68_5_1_b (fl68_5_1 k29 g0 y1 y2 m n) k29 g0 y1 y2 m
theorem l68_5_1 {s : Nat × (Nat → Int32)} {S : zS} {m0 : zM} {m : zM} {B : Int} {d : Nat} {Q : Option zV → zM → Prop} {R0 : Int} {k29 : Int → Int} (g0 : Nat) (y1 y2 : Int) (hd : 14 ≤ d) (hJ : J S m0 B m) (hB9 : B ≤ 1000000000) (hy1 : 0 ≤ y1 ∧ y1 ≤ 63) (hy2 : 1 ≤ y2 ∧ y2 ≤ 64)
    (K29 : ∀ (x3 : Int) , (True) → (y1 + y2 ≤ m g0 27 2) → R0 = k29 x3 → X (EE s) d 68 29 [(3, zl x3)] [] m Q) :
    ∀ (n : Nat) (y3 y5 : Int) , (0 ≤ y5 ∧ y5 ≤ 127) → (y1 ≤ y5) → (y1 + y2 ≤ m g0 27 2) → 127 - y5 < (n : Int) → R0 = fl68_5_1 k29 g0 y1 y2 m n y3 y5 → X (EE s) d 68 5 [(0, zr g0 27), (1, zi y1), (2, zi y2), (3, zl y3), (5, zi y5)] [] m Q := by
  intro n
  induction n with
  | zero =>
    intro y3 y5 hy5 hr0 hr1 hn hR
    exfalso
    omega
  | succ n ih =>
    intro y3 y5 hy5 hr0 hr1 hn hR
    replace hR : R0 = fl68_5_1_b (fl68_5_1 k29 g0 y1 y2 m n) k29 g0 y1 y2 m y3 y5 := hR
    refine X.iload 7 i68_5 rfl rfl rfl ?_
    refine X.iload_n 8 i68_7 rfl rfl rfl ?_
    refine X.iload_n 9 i68_8 rfl rfl rfl ?_
    refine X.iadd 10 i68_9 rfl rfl (by omega) ?_
    refine X.icmpge 29 13 i68_10 rfl rfl rfl (fun h511 => ?_) (fun h511 => ?_)
    · refine X.cut [(3, zl y3)] i68_29 rfl ?_
      exact K29 y3 (by first | trivial | omega) (by omega) (Eq.trans hR (Eq.trans (if_pos h511) rfl))
    · refine X.lload_n 14 i68_13 rfl rfl rfl ?_
      refine X.aload_n 15 i68_14 rfl rfl rfl ?_
      refine X.iload 17 i68_15 rfl rfl rfl ?_
      refine X.iconst 18 i68_17 rfl rfl (by decide) ?_
      refine X.callv 21 [zi y5, zi 1] [zl y3] [(0, zr g0 27), (1, zi y5), (2, zi 1)] i68_18 rfl (by decide) rfl rfl (by omega) rfl rfl (by decide) rfl t67 (Nat.le_of_ble_eq_true rfl) (Nat.le_of_ble_eq_true rfl) rfl ?_
      refine c67_4 (B := B) g0 y5 1 (by omega) (hJ.up (by omega)) (by omega) (by omega) (by omega) (fun v514 hv514 hFv514 => ?_)
      show X (EE s) d 68 21 [(0, zr g0 27), (1, zi y1), (2, zi y2), (3, zl y3), (5, zi y5)] [zl v514, zl y3] m _
      refine X.laddW 22 i68_21 rfl rfl (fun z515 ez515 hz515 => ?_)
      refine X.lstore_n 23 [(0, zr g0 27), (1, zi y1), (2, zi y2), (3, zl z515), (5, zi y5)] i68_22 rfl rfl rfl ?_
      refine X.iinc 26 [(0, zr g0 27), (1, zi y1), (2, zi y2), (3, zl z515), (5, zi (y5 + 1))] i68_23 rfl rfl rfl (by omega) rfl ?_
      refine X.goto 5 i68_26 rfl rfl ?_
      exact ih z515 (y5 + 1) (by omega) (by omega) (by omega) (by omega) (Eq.trans hR (Eq.trans (if_neg h511) (Eq.trans (zn_eq hFv514.symm) (Eq.trans (zn_eq ez515) rfl))))
-- WorkMeter$Load.importOf
def f68_1 (g0 : Nat) (a1 a2 : Int) (m : zM) : Int :=
  fl68_5_1 (fun y501 =>
  y501) g0 a1 a2 m 128 0 a1
-- WorkMeter$Load.importOf
theorem c68_1 {s : Nat × (Nat → Int32)} {S : zS} {m0 m : zM} {B : Int} {d : Nat} {Q : Option zV → zM → Prop} (g0 : Nat) (a1 a2 : Int) (hd : 14 ≤ d) (hJ : J S m0 B m) (hB : B + 0 ≤ 1000000000) (ha1 : 0 ≤ a1 ∧ a1 ≤ 63) (ha2 : 1 ≤ a2 ∧ a2 ≤ 64) (hp0 : 0 ≤ a1) (hp1 : a1 + a2 ≤ m g0 27 2) (hQ : ∀ (v : Int), (True) → f68_1 g0 a1 a2 m = v → Q (some (zl v)) m) : X (EE s) d 68 0 [(0, zr g0 27), (1, zi a1), (2, zi a2)] [] m Q := by
  refine X.lconst (y := 0) 1 i68_0 rfl rfl rfl ?_
  refine X.lstore_n 2 [(0, zr g0 27), (1, zi a1), (2, zi a2), (3, zl 0)] i68_1 rfl rfl rfl ?_
  refine X.iload_n 3 i68_2 rfl rfl rfl ?_
  refine X.istore 5 [(0, zr g0 27), (1, zi a1), (2, zi a2), (3, zl 0), (5, zi a1)] i68_3 rfl rfl rfl ?_
  refine l68_5_1 (s := s) (m := m) (B := B) (d := d) (R0 := (f68_1 g0 a1 a2 m)) g0 a1 a2  (by omega) (hJ.up (by omega)) (by omega) (by omega) (by omega) (fun y501 hby501 hrlm502_0 hR505 => ?_) 128 0 a1 (by omega) (by omega) (by omega) (by omega) rfl
  refine X.lload_n 30 i68_29 rfl rfl rfl ?_
  refine X.retl i68_30 rfl t68 ?_
  exact hQ y501 (by first | trivial | omega) (Eq.trans hR505 rfl) 
-- WorkMeter$Demand.blockEnded
def f64_1 (g0 g1 : Nat) (a2 a3 a4 : Int) (m : zM) : zM :=
  zn (f65_1 g1 a2 a3 m) fun v503 =>
  if v503 = 0 then
  (m)
  else
  (zn (f68_1 g1 0 a2 m) fun v507 =>
  zs (z_upd m g0 30 2 v507) fun m508 =>
  zn (f67_1 g1 0 0 m508) fun v512 =>
  zn (w32 v512) fun z513 =>
  zs (z_upd m508 g0 30 3 z513) fun m514 =>
  zs (if (m514 g0 30 2) ≤ (m514 g0 31 a4) then
  (m514)
  else
  (zs (z_upd m514 g0 31 a4 (m514 g0 30 2)) fun m518 =>
  zs (z_upd m518 g0 32 a4 (m518 g0 30 3)) fun m521 =>
  m521)) fun m524 =>
  m524)
-- WorkMeter$Demand.blockEnded
theorem c64_1 {s : Nat × (Nat → Int32)} {S : zS} {m0 m : zM} {B : Int} {d : Nat} {Q : Option zV → zM → Prop} (g0 g1 : Nat) (a2 a3 a4 : Int) (hd : 15 ≤ d) (hJ : J S m0 B m) (hB : B + 0 ≤ 1000000000) (ha2 : 1 ≤ a2 ∧ a2 ≤ 6) (ha3 : 1 ≤ a3 ∧ a3 ≤ 1000000) (ha4 : 0 ≤ a4 ∧ a4 ≤ 3) (hf8 : ¬ S.1 8) (hgg0 : ¬ S.2.1 g0) (hQ : ∀ m', f64_1 g0 g1 a2 a3 a4 m = m' → J S m0 (B) m' → Q none m') : X (EE s) d 64 0 [(0, zr g0 30), (1, zr g1 27), (2, zi a2), (3, zi a3), (4, zi a4)] [] m Q := by
  refine X.aload_n 1 i64_0 rfl rfl rfl ?_
  refine X.iload_n 2 i64_1 rfl rfl rfl ?_
  refine X.iload_n 3 i64_2 rfl rfl rfl ?_
  refine X.calls 6 [zr g1 27, zi a2, zi a3] [] [(0, zr g1 27), (1, zi a2), (2, zi a3)] i64_3 (by decide) rfl rfl (by omega) rfl rfl t65 (Nat.le_of_ble_eq_true rfl) (Nat.le_of_ble_eq_true rfl) rfl ?_
  refine c65_1 (B := B) g1 a2 a3 (by omega) (hJ.up (by omega)) (by omega) (by omega) (by omega) (fun v503 hv503 hFv503 hqv503_0 => ?_)
  show X (EE s) d 64 6 [(0, zr g0 30), (1, zr g1 27), (2, zi a2), (3, zi a3), (4, zi a4)] [zi v503] m _
  refine X.ifne 10 9 i64_6 rfl rfl rfl (fun h504 => ?_) (fun h504 => ?_)
  · refine X.cut [(0, zr g0 30), (1, zr g1 27), (2, zi a2), (4, zi a4)] i64_10 rfl ?_
    refine X.aload_n 11 i64_10 rfl rfl rfl ?_
    refine X.aload_n 12 i64_11 rfl rfl rfl ?_
    refine X.iconst 13 i64_12 rfl rfl (by decide) ?_
    refine X.iload_n 14 i64_13 rfl rfl rfl ?_
    refine X.callv 17 [zi 0, zi a2] [zr g0 30] [(0, zr g1 27), (1, zi 0), (2, zi a2)] i64_14 rfl (by decide) rfl rfl (by omega) rfl rfl (by decide) rfl t68 (Nat.le_of_ble_eq_true rfl) (Nat.le_of_ble_eq_true rfl) rfl ?_
    refine c68_1 (B := B) g1 0 a2 (by omega) (hJ.up (by omega)) (by omega) (by omega) (by omega) (by omega) (by omega) (fun v507 hv507 hFv507 => ?_)
    show X (EE s) d 64 17 [(0, zr g0 30), (1, zr g1 27), (2, zi a2), (4, zi a4)] [zl v507, zr g0 30] m _
    refine X.putL' 20 2 i64_17 rfl rfl (by decide) rfl rfl rfl (fun hrm508 m508 hm508 => ?_)
    have hJ509 := w30_0 hJ hm508 (by omega) hrm508 hf8 hgg0
    have wtm508_0 : m508 g1 27 2 = m g1 27 2 := by rw [hm508]; exact z_upd_o _ _ rfl
    refine X.aload_n 21 i64_20 rfl rfl rfl ?_
    refine X.aload_n 22 i64_21 rfl rfl rfl ?_
    refine X.iconst 23 i64_22 rfl rfl (by decide) ?_
    refine X.iconst 24 i64_23 rfl rfl (by decide) ?_
    refine X.callv 27 [zi 0, zi 0] [zr g0 30] [(0, zr g1 27), (1, zi 0), (2, zi 0)] i64_24 rfl (by decide) rfl rfl (by omega) rfl rfl (by decide) rfl t67 (Nat.le_of_ble_eq_true rfl) (Nat.le_of_ble_eq_true rfl) rfl ?_
    refine c67_2 (B := B) g1 0 0 (by omega) (hJ509.up (by omega)) (by omega) (by omega) (by omega) (fun v512 hv512 hFv512 => ?_)
    show X (EE s) d 64 27 [(0, zr g0 30), (1, zr g1 27), (2, zi a2), (4, zi a4)] [zl v512, zr g0 30] m508 _
    refine X.l2iW 28 i64_27 rfl rfl (fun z513 ez513 hz513 => ?_)
    refine X.putI' 31 3 i64_28 rfl rfl (by decide) rfl rfl rfl (fun hrm514 m514 hm514 => ?_)
    have hJ515 := w30_0 hJ509 hm514 (by omega) hrm514 hf8 hgg0
    have wtm514_0 : m514 g1 27 2 = m508 g1 27 2 := by rw [hm514]; exact z_upd_o _ _ rfl
    refine X.aload_n 32 i64_31 rfl rfl rfl ?_
    refine X.getL 35 2 i64_32 rfl rfl (by decide) rfl rfl rfl ?_
    refine X.aload_n 36 i64_35 rfl rfl rfl ?_
    refine X.getR 39 i64_36 rfl rfl (by decide) rfl rfl ?_
    refine X.iload 41 i64_39 rfl rfl rfl ?_
    refine X.lald 42 i64_41 rfl rfl (by decide) rfl (by omega) ?_
    refine X.lcmp 43 i64_42 rfl rfl (fun z516 hz516 => ?_)
    have hK526 : ∀ (m' : zM), (if (m514 g0 30 2) ≤ (m514 g0 31 a4) then
        (m514)
        else
        (zs (z_upd m514 g0 31 a4 (m514 g0 30 2)) fun m518 =>
        zs (z_upd m518 g0 32 a4 (m518 g0 30 3)) fun m521 =>
        m521)) = m' → J S m0 (B) m' → X (EE s) d 64 68 [] [] m' Q := by
      intro m524 hT527 hJ525
      refine X.retv i64_68 rfl t64 ?_
      exact hQ  m524  (Eq.trans (zn_eq hFv503.symm) (Eq.trans (if_neg h504) (Eq.trans (zn_eq hFv507.symm) (Eq.trans (zs_eq hm508) (Eq.trans (zn_eq hFv512.symm) (Eq.trans (zn_eq ez513) (Eq.trans (zs_eq hm514) (Eq.trans (zs_eq hT527.symm) rfl)))))))) (hJ525.up (by omega)) 
    refine X.ifle 68 46 i64_43 rfl rfl rfl (fun h517 => ?_) (fun h517 => ?_)
    · have h517c : (m514 g0 30 2) ≤ (m514 g0 31 a4) := by omega
      clear h517 hz516
      refine X.cut [] i64_68 rfl ?_
      exact hK526 m514 (Eq.trans (if_pos h517c) rfl) (hJ515.up (by omega))
    · have h517c : ¬ (m514 g0 30 2) ≤ (m514 g0 31 a4) := by omega
      clear h517 hz516
      refine X.aload_n 47 i64_46 rfl rfl rfl ?_
      refine X.getR 50 i64_47 rfl rfl (by decide) rfl rfl ?_
      refine X.iload 52 i64_50 rfl rfl rfl ?_
      refine X.aload_n 53 i64_52 rfl rfl rfl ?_
      refine X.getL 56 2 i64_53 rfl rfl (by decide) rfl rfl rfl ?_
      refine X.last' 57 i64_56 rfl rfl (by decide) rfl (by omega) (fun hrm518 m518 hm518 => ?_)
      have hJ519 := w31_0 hJ515 hm518 (by omega) hrm518 hf8 hgg0
      have wtm518_0 : m518 g1 27 2 = m514 g1 27 2 := by rw [hm518]; exact z_upd_o _ _ rfl
      refine X.aload_n 58 i64_57 rfl rfl rfl ?_
      refine X.getR 61 i64_58 rfl rfl (by decide) rfl rfl ?_
      refine X.iload 63 i64_61 rfl rfl rfl ?_
      refine X.aload_n 64 i64_63 rfl rfl rfl ?_
      refine X.getIr 67 3 i64_64 rfl rfl (by decide) rfl rfl rfl (fun h520 => ?_)
      refine X.iast' 68 i64_67 rfl rfl (by decide) rfl (by omega) (fun hrm521 m521 hm521 => ?_)
      have hJ522 := w32_0 hJ519 hm521 (by omega) hrm521 hf8 hgg0
      have wtm521_0 : m521 g1 27 2 = m518 g1 27 2 := by rw [hm521]; exact z_upd_o _ _ rfl
      refine X.cut [] i64_68 rfl ?_
      exact hK526 m521 (Eq.trans (if_neg h517c) (Eq.trans (zs_eq hm518) (Eq.trans (zs_eq hm521) rfl))) (hJ522.up (by omega))
  · refine X.retv i64_9 rfl t64 ?_
    exact hQ  m  (Eq.trans (zn_eq hFv503.symm) (Eq.trans (if_pos h504) rfl)) (hJ.up (by omega)) 
-- WorkMeter$Meter.endBlockIfDue
def f59_1 (g0 : Nat) (a1 : Int) (m : zM) : zM :=
  zn (((m g0 8 9) % (max 1 (m g0 10 4)))) fun z503 =>
  zs (if z503 = 0 then
  (zs (f60_1 g0 (m g0 8 9) (max 1 (m g0 10 4)) 0 m) fun m505 =>
  zs (f64_1 g0 g0 (m505 g0 10 5) (max 1 (m g0 10 4)) a1 m505) fun m509 =>
  m509)
  else
  (m)) fun m513 =>
  m513
-- WorkMeter$Meter.endBlockIfDue
theorem c59_1 {s : Nat × (Nat → Int32)} {S : zS} {m0 m : zM} {B : Int} {d : Nat} {Q : Option zV → zM → Prop} (g0 : Nat) (a1 : Int) (hd : 16 ≤ d) (hJ : J S m0 B m) (hB : B + 1 ≤ 1000000000) (ha1 : 0 ≤ a1 ∧ a1 ≤ 3) (hf7 : ¬ S.1 7) (hf8 : ¬ S.1 8) (hgg0 : ¬ S.2.1 g0) (hQ : ∀ m', f59_1 g0 a1 m = m' → J S m0 (B + 1) m' → Q none m') : X (EE s) d 59 0 [(0, zr g0 8), (1, zi a1)] [] m Q := by
  refine X.aload_n 1 i59_0 rfl rfl rfl ?_
  refine X.getR 4 i59_1 rfl rfl (by decide) rfl rfl ?_
  refine X.callv 7 [] [] [(0, zr g0 9)] i59_4 rfl (by decide) rfl rfl (by omega) rfl rfl (by decide) rfl t36 (Nat.le_of_ble_eq_true rfl) (Nat.le_of_ble_eq_true rfl) rfl ?_
  refine X.iconst 1 i36_0 rfl rfl (by decide) ?_
  refine X.aload_n 2 i36_1 rfl rfl rfl ?_
  refine X.getR 5 i36_2 rfl rfl (by decide) rfl rfl ?_
  refine X.iconst 6 i36_5 rfl rfl (by decide) ?_
  refine X.iald 7 i36_6 rfl rfl (by decide) rfl (by omega) ?_
  have h501 := r10_0 hJ g0 (i := 4) (by omega)
  refine X.maxI 10 i36_7 rfl rfl (by omega) (Nat.le_of_ble_eq_true rfl) ?_
  refine X.reti i36_10 rfl t36 ?_
  show X (EE s) d 59 7 [(0, zr g0 8), (1, zi a1)] [zi (max 1 (m g0 10 4))] m _
  refine X.istore_n 8 [(0, zr g0 8), (1, zi a1), (2, zi (max 1 (m g0 10 4)))] i59_7 rfl rfl rfl ?_
  refine X.aload_n 9 i59_8 rfl rfl rfl ?_
  refine X.getI 12 9 i59_9 rfl rfl (by decide) rfl rfl rfl ?_
  have h502 := r8_9 hJ g0
  refine X.iload_n 13 i59_12 rfl rfl rfl ?_
  refine X.irem 14 i59_13 rfl rfl (by omega) ?_
  have hz503 := z_modb (x := (m g0 8 9)) (y := (max 1 (m g0 10 4))) (by omega) (by omega)
  obtain ⟨z503, ez503⟩ : ∃ z, z = ((m g0 8 9) % (max 1 (m g0 10 4))) := ⟨_, rfl⟩
  rw [← ez503] at hz503 ⊢
  have hK515 : ∀ (m' : zM), (if z503 = 0 then
      (zs (f60_1 g0 (m g0 8 9) (max 1 (m g0 10 4)) 0 m) fun m505 =>
      zs (f64_1 g0 g0 (m505 g0 10 5) (max 1 (m g0 10 4)) a1 m505) fun m509 =>
      m509)
      else
      (m)) = m' → J S m0 (B + 1) m' → X (EE s) d 59 50 [] [] m' Q := by
    intro m513 hT516 hJ514
    refine X.retv i59_50 rfl t59 ?_
    exact hQ  m513  (Eq.trans (zn_eq ez503) (Eq.trans (zs_eq hT516.symm) rfl)) (hJ514.up (by omega)) 
  refine X.ifne 50 17 i59_14 rfl rfl rfl (fun h504 => ?_) (fun h504 => ?_)
  · refine X.cut [] i59_50 rfl ?_
    exact hK515 m (Eq.trans (if_neg h504) rfl) (hJ.up (by omega))
  · refine X.aload_n 18 i59_17 rfl rfl rfl ?_
    refine X.getR 21 i59_18 rfl rfl (by decide) rfl rfl ?_
    refine X.aload_n 22 i59_21 rfl rfl rfl ?_
    refine X.getI 25 9 i59_22 rfl rfl (by decide) rfl rfl rfl ?_
    refine X.iload_n 26 i59_25 rfl rfl rfl ?_
    refine X.iconst 27 i59_26 rfl rfl (by decide) ?_
    refine X.callv 30 [zi (m g0 8 9), zi (max 1 (m g0 10 4)), zi 0] [] [(0, zr g0 27), (1, zi (m g0 8 9)), (2, zi (max 1 (m g0 10 4))), (3, zi 0)] i59_27 rfl (by decide) rfl rfl (by omega) rfl rfl (by decide) rfl t60 (Nat.le_of_ble_eq_true rfl) (Nat.le_of_ble_eq_true rfl) rfl ?_
    refine c60_1 (B := B) g0 (m g0 8 9) (max 1 (m g0 10 4)) 0 (by omega) (hJ.up (by omega)) (by omega) (by omega) (by omega) (by omega) hf7 hgg0 (fun m505 hFv507 hJ506 => ?_)
    show X (EE s) d 59 30 [(0, zr g0 8), (1, zi a1), (2, zi (max 1 (m g0 10 4)))] [] m505 _
    refine X.aload_n 31 i59_30 rfl rfl rfl ?_
    refine X.getR 34 i59_31 rfl rfl (by decide) rfl rfl ?_
    refine X.aload_n 35 i59_34 rfl rfl rfl ?_
    refine X.getR 38 i59_35 rfl rfl (by decide) rfl rfl ?_
    refine X.aload_n 39 i59_38 rfl rfl rfl ?_
    refine X.getR 42 i59_39 rfl rfl (by decide) rfl rfl ?_
    refine X.callv 45 [] [zr g0 27, zr g0 30] [(0, zr g0 9)] i59_42 rfl (by decide) rfl rfl (by omega) rfl rfl (by decide) rfl t63 (Nat.le_of_ble_eq_true rfl) (Nat.le_of_ble_eq_true rfl) rfl ?_
    refine X.aload_n 1 i63_0 rfl rfl rfl ?_
    refine X.getR 4 i63_1 rfl rfl (by decide) rfl rfl ?_
    refine X.iconst 5 i63_4 rfl rfl (by decide) ?_
    refine X.iald 6 i63_5 rfl rfl (by decide) rfl (by omega) ?_
    have h508 := r10_5 hJ506 g0
    refine X.reti i63_6 rfl t63 ?_
    show X (EE s) d 59 45 [(0, zr g0 8), (1, zi a1), (2, zi (max 1 (m g0 10 4)))] [zi (m505 g0 10 5), zr g0 27, zr g0 30] m505 _
    refine X.iload_n 46 i59_45 rfl rfl rfl ?_
    refine X.iload_n 47 i59_46 rfl rfl rfl ?_
    refine X.callv 50 [zr g0 27, zi (m505 g0 10 5), zi (max 1 (m g0 10 4)), zi a1] [] [(0, zr g0 30), (1, zr g0 27), (2, zi (m505 g0 10 5)), (3, zi (max 1 (m g0 10 4))), (4, zi a1)] i59_47 rfl (by decide) rfl rfl (by omega) rfl rfl (by decide) rfl t64 (Nat.le_of_ble_eq_true rfl) (Nat.le_of_ble_eq_true rfl) rfl ?_
    refine c64_1 (B := B + 1) g0 g0 (m505 g0 10 5) (max 1 (m g0 10 4)) a1 (by omega) (hJ506.up (by omega)) (by omega) (by omega) (by omega) (by omega) hf8 hgg0 (fun m509 hFv511 hJ510 => ?_)
    show X (EE s) d 59 50 [(0, zr g0 8), (1, zi a1), (2, zi (max 1 (m g0 10 4)))] [] m509 _
    refine X.cut [] i59_50 rfl ?_
    exact hK515 m509 (Eq.trans (if_pos h504) (Eq.trans (zs_eq hFv507.symm) (Eq.trans (zs_eq hFv511.symm) rfl))) (hJ510.up (by omega))
-- WorkMeter$Meter.meterStretch
def f26_1 (g0 : Nat) (a1 : Int) (m : zM) : Int × zM :=
  zn (f27_1 g0 (m g0 8 9) m) fun v504 =>
  zn (f34_1 g0 (m g0 10 2) m) fun v508 =>
  zn (f35_1 g0 a1 v504 v508 m) fun v511 =>
  zs (f49_1 g0 v511 v504 m) fun m512 =>
  zs (z_upd m512 g0 8 13 ((m512 g0 8 13) + v511)) fun m516 =>
  zs (z_upd m516 g0 8 9 ((m516 g0 8 9) + (v511 - 1))) fun m519 =>
  zs (f53_1 g0 m519) fun m521 =>
  zs (f56_1 g0 g0 v511 v508 (m521 g0 10 3) (m521 g0 8 9) m521) fun m526 =>
  zs (f58_1 g0 v511 (m526 g0 33 3) m526) fun m530 =>
  zs (if 2000000000 ≤ (m530 g0 8 9) then
  (m530)
  else
  (zs (z_upd m530 g0 8 9 ((m530 g0 8 9) + 1)) fun m535 =>
  m535)) fun m538 =>
  zs (f59_1 g0 v504 m538) fun m542 =>
  (v511, m542)
-- WorkMeter$Meter.meterStretch
theorem c26_1 {s : Nat × (Nat → Int32)} {S : zS} {m0 m : zM} {B : Int} {d : Nat} {Q : Option zV → zM → Prop} (g0 : Nat) (a1 : Int) (hd : 17 ≤ d) (hJ : J S m0 B m) (hB : B + 8 ≤ 1000000000) (ha1 : 1 ≤ a1 ∧ a1 ≤ 3600) (hp0 : 1 ≤ a1) (hf6 : ¬ S.1 6) (hf7 : ¬ S.1 7) (hf8 : ¬ S.1 8) (hf9 : ¬ S.1 9) (hf10 : ¬ S.1 10) (hf11 : ¬ S.1 11) (hf12 : ¬ S.1 12) (hf13 : ¬ S.1 13) (hgg0 : ¬ S.2.1 g0) (hQ : ∀ (v : Int) m', (1 ≤ v ∧ v ≤ 3600) → f26_1 g0 a1 m = (v, m') → J S m0 (B + 8) m' → (1 ≤ v) → (v ≤ a1) → Q (some (zi v)) m') : X (EE s) d 26 0 [(0, zr g0 8), (1, zi a1)] [] m Q := by
  refine X.aload_n 1 i26_0 rfl rfl rfl ?_
  refine X.getR 4 i26_1 rfl rfl (by decide) rfl rfl ?_
  refine X.aload_n 5 i26_4 rfl rfl rfl ?_
  refine X.getI 8 9 i26_5 rfl rfl (by decide) rfl rfl rfl ?_
  have h501 := r8_9 hJ g0
  refine X.callv 11 [zi (m g0 8 9)] [] [(0, zr g0 11), (1, zi (m g0 8 9))] i26_8 rfl (by decide) rfl rfl (by omega) rfl rfl (by decide) rfl t27 (Nat.le_of_ble_eq_true rfl) (Nat.le_of_ble_eq_true rfl) rfl ?_
  refine c27_1 (B := B) g0 (m g0 8 9) (by omega) (hJ.up (by omega)) (by omega) (by omega) (fun v504 hv504 hFv504 => ?_)
  show X (EE s) d 26 11 [(0, zr g0 8), (1, zi a1)] [zi v504] m _
  refine X.istore_n 12 [(0, zr g0 8), (1, zi a1), (2, zi v504)] i26_11 rfl rfl rfl ?_
  refine X.aload_n 13 i26_12 rfl rfl rfl ?_
  refine X.getR 16 i26_13 rfl rfl (by decide) rfl rfl ?_
  refine X.aload_n 17 i26_16 rfl rfl rfl ?_
  refine X.getR 20 i26_17 rfl rfl (by decide) rfl rfl ?_
  refine X.callv 23 [] [zr g0 19] [(0, zr g0 9)] i26_20 rfl (by decide) rfl rfl (by omega) rfl rfl (by decide) rfl t33 (Nat.le_of_ble_eq_true rfl) (Nat.le_of_ble_eq_true rfl) rfl ?_
  refine X.aload_n 1 i33_0 rfl rfl rfl ?_
  refine X.getR 4 i33_1 rfl rfl (by decide) rfl rfl ?_
  refine X.iconst 5 i33_4 rfl rfl (by decide) ?_
  refine X.iald 6 i33_5 rfl rfl (by decide) rfl (by omega) ?_
  have h505 := r10_0 hJ g0 (i := 2) (by omega)
  refine X.reti i33_6 rfl t33 ?_
  show X (EE s) d 26 23 [(0, zr g0 8), (1, zi a1), (2, zi v504)] [zi (m g0 10 2), zr g0 19] m _
  refine X.callv 26 [zi (m g0 10 2)] [] [(0, zr g0 19), (1, zi (m g0 10 2))] i26_23 rfl (by decide) rfl rfl (by omega) rfl rfl (by decide) rfl t34 (Nat.le_of_ble_eq_true rfl) (Nat.le_of_ble_eq_true rfl) rfl ?_
  refine c34_1 (B := B) g0 (m g0 10 2) (by omega) (hJ.up (by omega)) (by omega) (by omega) (fun v508 hv508 hFv508 => ?_)
  show X (EE s) d 26 26 [(0, zr g0 8), (1, zi a1), (2, zi v504)] [zi v508] m _
  refine X.istore_n 27 [(0, zr g0 8), (1, zi a1), (2, zi v504), (3, zi v508)] i26_26 rfl rfl rfl ?_
  refine X.aload_n 28 i26_27 rfl rfl rfl ?_
  refine X.iload_n 29 i26_28 rfl rfl rfl ?_
  refine X.iload_n 30 i26_29 rfl rfl rfl ?_
  refine X.iload_n 31 i26_30 rfl rfl rfl ?_
  refine X.callv 34 [zi a1, zi v504, zi v508] [] [(0, zr g0 8), (1, zi a1), (2, zi v504), (3, zi v508)] i26_31 rfl (by decide) rfl rfl (by omega) rfl rfl (by decide) rfl t35 (Nat.le_of_ble_eq_true rfl) (Nat.le_of_ble_eq_true rfl) rfl ?_
  refine c35_1 (B := B) g0 a1 v504 v508 (by omega) (hJ.up (by omega)) (by omega) (by omega) (by omega) (by omega) (by omega) (fun v511 hv511 hFv511 hqv511_0 hqv511_1 hqv511_2 => ?_)
  show X (EE s) d 26 34 [(0, zr g0 8), (1, zi a1), (2, zi v504), (3, zi v508)] [zi v511] m _
  refine X.istore 36 [(0, zr g0 8), (1, zi a1), (2, zi v504), (3, zi v508), (4, zi v511)] i26_34 rfl rfl rfl ?_
  refine X.aload_n 37 i26_36 rfl rfl rfl ?_
  refine X.iload 39 i26_37 rfl rfl rfl ?_
  refine X.iload_n 40 i26_39 rfl rfl rfl ?_
  refine X.callv 43 [zi v511, zi v504] [] [(0, zr g0 8), (1, zi v511), (2, zi v504)] i26_40 rfl (by decide) rfl rfl (by omega) rfl rfl (by decide) rfl t49 (Nat.le_of_ble_eq_true rfl) (Nat.le_of_ble_eq_true rfl) rfl ?_
  refine c49_1 (B := B) g0 v511 v504 (by omega) (hJ.up (by omega)) (by omega) (by omega) (by omega) hf7 hf10 hf12 hf13 hgg0 (fun m512 hFv514 hJ513 => ?_)
  show X (EE s) d 26 43 [(0, zr g0 8), (1, zi a1), (2, zi v504), (3, zi v508), (4, zi v511)] [] m512 _
  refine X.aload_n 44 i26_43 rfl rfl rfl ?_
  refine X.dup 45 i26_44 rfl rfl rfl ?_
  refine X.getI 48 13 i26_45 rfl rfl (by decide) rfl rfl rfl ?_
  have h515 := r8_13 hJ513 g0
  refine X.iload 50 i26_48 rfl rfl rfl ?_
  refine X.iadd 51 i26_50 rfl rfl (by omega) ?_
  refine X.putI' 54 13 i26_51 rfl rfl (by decide) rfl rfl rfl (fun hrm516 m516 hm516 => ?_)
  have hJ517 := w8_13 hJ513 hm516 (by omega) hf13 hgg0
  refine X.aload_n 55 i26_54 rfl rfl rfl ?_
  refine X.dup 56 i26_55 rfl rfl rfl ?_
  refine X.getI 59 9 i26_56 rfl rfl (by decide) rfl rfl rfl ?_
  have h518 := r8_9 hJ517 g0
  refine X.iload 61 i26_59 rfl rfl rfl ?_
  refine X.iconst 62 i26_61 rfl rfl (by decide) ?_
  refine X.isub 63 i26_62 rfl rfl (by omega) ?_
  refine X.iadd 64 i26_63 rfl rfl (by omega) ?_
  refine X.putI' 67 9 i26_64 rfl rfl (by decide) rfl rfl rfl (fun hrm519 m519 hm519 => ?_)
  have hJ520 := w8_9 hJ517 hm519 (by omega) hf11 hgg0
  have em519 : m519 g0 8 9 = ((m516 g0 8 9) + (v511 - 1)) := by rw [hm519]; exact z_upd_same _ _ _ _ _
  refine X.aload_n 68 i26_67 rfl rfl rfl ?_
  refine X.callv 71 [] [] [(0, zr g0 8)] i26_68 rfl (by decide) rfl rfl (by omega) rfl rfl (by decide) rfl t53 (Nat.le_of_ble_eq_true rfl) (Nat.le_of_ble_eq_true rfl) rfl ?_
  refine c53_1 (B := B) g0  (by omega) (hJ520.up (by omega)) (by omega)  hf6 hf12 hgg0 (fun m521 hFv523 hJ522 => ?_)
  show X (EE s) d 26 71 [(0, zr g0 8), (1, zi a1), (2, zi v504), (3, zi v508), (4, zi v511)] [] m521 _
  refine X.aload_n 72 i26_71 rfl rfl rfl ?_
  refine X.getR 75 i26_72 rfl rfl (by decide) rfl rfl ?_
  refine X.iload 77 i26_75 rfl rfl rfl ?_
  refine X.iload_n 78 i26_77 rfl rfl rfl ?_
  refine X.aload_n 79 i26_78 rfl rfl rfl ?_
  refine X.getR 82 i26_79 rfl rfl (by decide) rfl rfl ?_
  refine X.callv 85 [] [zi v508, zi v511, zr g0 33] [(0, zr g0 9)] i26_82 rfl (by decide) rfl rfl (by omega) rfl rfl (by decide) rfl t38 (Nat.le_of_ble_eq_true rfl) (Nat.le_of_ble_eq_true rfl) rfl ?_
  refine X.aload_n 1 i38_0 rfl rfl rfl ?_
  refine X.getR 4 i38_1 rfl rfl (by decide) rfl rfl ?_
  refine X.iconst 5 i38_4 rfl rfl (by decide) ?_
  refine X.iald 6 i38_5 rfl rfl (by decide) rfl (by omega) ?_
  have h524 := r10_0 hJ522 g0 (i := 3) (by omega)
  refine X.reti i38_6 rfl t38 ?_
  show X (EE s) d 26 85 [(0, zr g0 8), (1, zi a1), (2, zi v504), (3, zi v508), (4, zi v511)] [zi (m521 g0 10 3), zi v508, zi v511, zr g0 33] m521 _
  refine X.aload_n 86 i26_85 rfl rfl rfl ?_
  refine X.getR 89 i26_86 rfl rfl (by decide) rfl rfl ?_
  refine X.aload_n 90 i26_89 rfl rfl rfl ?_
  refine X.getI 93 9 i26_90 rfl rfl (by decide) rfl rfl rfl ?_
  have h525 := r8_9 hJ522 g0
  refine X.callv 96 [zi v511, zi v508, zi (m521 g0 10 3), zr g0 37, zi (m521 g0 8 9)] [] [(0, zr g0 33), (1, zi v511), (2, zi v508), (3, zi (m521 g0 10 3)), (4, zr g0 37), (5, zi (m521 g0 8 9))] i26_93 rfl (by decide) rfl rfl (by omega) rfl rfl (by decide) rfl t56 (Nat.le_of_ble_eq_true rfl) (Nat.le_of_ble_eq_true rfl) rfl ?_
  refine c56_1 (B := B + 1) g0 g0 v511 v508 (m521 g0 10 3) (m521 g0 8 9) (by omega) (hJ522.up (by omega)) (by omega) (by omega) (by omega) (by omega) (by omega) hf6 hf9 hgg0 hgg0 (fun m526 hFv528 hJ527 => ?_)
  show X (EE s) d 26 96 [(0, zr g0 8), (1, zi a1), (2, zi v504), (3, zi v508), (4, zi v511)] [] m526 _
  refine X.aload_n 97 i26_96 rfl rfl rfl ?_
  refine X.getR 100 i26_97 rfl rfl (by decide) rfl rfl ?_
  refine X.iload 102 i26_100 rfl rfl rfl ?_
  refine X.aload_n 103 i26_102 rfl rfl rfl ?_
  refine X.getR 106 i26_103 rfl rfl (by decide) rfl rfl ?_
  refine X.getIr 109 3 i26_106 rfl rfl (by decide) rfl rfl rfl (fun h529 => ?_)
  refine X.callv 112 [zi v511, zi (m526 g0 33 3)] [] [(0, zr g0 27), (1, zi v511), (2, zi (m526 g0 33 3))] i26_109 rfl (by decide) rfl rfl (by omega) rfl rfl (by decide) rfl t58 (Nat.le_of_ble_eq_true rfl) (Nat.le_of_ble_eq_true rfl) rfl ?_
  refine c58_1 (B := B + 7) g0 v511 (m526 g0 33 3) (by omega) (hJ527.up (by omega)) (by omega) (by omega) (by omega) hf7 hgg0 (fun m530 hFv532 hJ531 => ?_)
  show X (EE s) d 26 112 [(0, zr g0 8), (1, zi a1), (2, zi v504), (3, zi v508), (4, zi v511)] [] m530 _
  refine X.aload_n 113 i26_112 rfl rfl rfl ?_
  refine X.getI 116 9 i26_113 rfl rfl (by decide) rfl rfl rfl ?_
  have h533 := r8_9 hJ531 g0
  refine X.ldc 118 i26_116 rfl rfl (by decide) ?_
  have hK540 : ∀ (m' : zM), (if 2000000000 ≤ (m530 g0 8 9) then
      (m530)
      else
      (zs (z_upd m530 g0 8 9 ((m530 g0 8 9) + 1)) fun m535 =>
      m535)) = m' → J S m0 (B + 7) m' → X (EE s) d 26 131 [(0, zr g0 8), (2, zi v504), (4, zi v511)] [] m' Q := by
    intro m538 hT541 hJ539
    refine X.aload_n 132 i26_131 rfl rfl rfl ?_
    refine X.iload_n 133 i26_132 rfl rfl rfl ?_
    refine X.callv 136 [zi v504] [] [(0, zr g0 8), (1, zi v504)] i26_133 rfl (by decide) rfl rfl (by omega) rfl rfl (by decide) rfl t59 (Nat.le_of_ble_eq_true rfl) (Nat.le_of_ble_eq_true rfl) rfl ?_
    refine c59_1 (B := B + 7) g0 v504 (by omega) (hJ539.up (by omega)) (by omega) (by omega) hf7 hf8 hgg0 (fun m542 hFv544 hJ543 => ?_)
    show X (EE s) d 26 136 [(0, zr g0 8), (2, zi v504), (4, zi v511)] [] m542 _
    refine X.iload 138 i26_136 rfl rfl rfl ?_
    refine X.reti i26_138 rfl t26 ?_
    exact hQ v511 m542 (by first | trivial | omega) (Eq.trans (zn_eq hFv504.symm) (Eq.trans (zn_eq hFv508.symm) (Eq.trans (zn_eq hFv511.symm) (Eq.trans (zs_eq hFv514.symm) (Eq.trans (zs_eq hm516) (Eq.trans (zs_eq hm519) (Eq.trans (zs_eq hFv523.symm) (Eq.trans (zs_eq hFv528.symm) (Eq.trans (zs_eq hFv532.symm) (Eq.trans (zs_eq hT541.symm) (Eq.trans (zs_eq hFv544.symm) rfl))))))))))) (hJ543.up (by omega)) (by omega) (by omega)
  refine X.icmpge 131 121 i26_118 rfl rfl rfl (fun h534 => ?_) (fun h534 => ?_)
  · refine X.cut [(0, zr g0 8), (2, zi v504), (4, zi v511)] i26_131 rfl ?_
    exact hK540 m530 (Eq.trans (if_pos h534) rfl) (hJ531.up (by omega))
  · refine X.aload_n 122 i26_121 rfl rfl rfl ?_
    refine X.dup 123 i26_122 rfl rfl rfl ?_
    refine X.getI 126 9 i26_123 rfl rfl (by decide) rfl rfl rfl ?_
    refine X.iconst 127 i26_126 rfl rfl (by decide) ?_
    refine X.iadd 128 i26_127 rfl rfl (by omega) ?_
    refine X.putI' 131 9 i26_128 rfl rfl (by decide) rfl rfl rfl (fun hrm535 m535 hm535 => ?_)
    have hJ536 := w8_9 hJ531 hm535 (by omega) hf11 hgg0
    have em535 : m535 g0 8 9 = ((m530 g0 8 9) + 1) := by rw [hm535]; exact z_upd_same _ _ _ _ _
    refine X.cut [(0, zr g0 8), (2, zi v504), (4, zi v511)] i26_131 rfl ?_
    exact hK540 m535 (Eq.trans (if_neg h534) (Eq.trans (zs_eq hm535) rfl)) (hJ536.up (by omega))
def fl25_4_1_b (self : Int → Int → zM → zM) (k27 : zM → zM) (g0 : Nat) (y1 : Int) (y2 y3 : Int) (m : zM) : zM :=
  if y1 ≤ y3 then
  (k27 m)
  else
  (if y2 ≤ 0 then
  (k27 m)
  else
  (zb (f26_1 g0 y2 m) fun v510 m508 =>
  self (y2 - v510) (y3 + 1) m508))
def fl25_4_1 (k27 : zM → zM) (g0 : Nat) (y1 : Int) : Nat → Int → Int → zM → zM
  | 0 => fun y2 y3 m => m
  | n + 1 => fl25_4_1_b (fl25_4_1 k27 g0 y1 n) k27 g0 y1
theorem l25_4_1 {s : Nat × (Nat → Int32)} {S : zS} {m0 : zM} {d : Nat} {Q : Option zV → zM → Prop} {R0 : zM} {k27 : zM → zM} (g0 : Nat) (y1 : Int) (BE : Int) (hE : BE ≤ 1000000000) (hd : 18 ≤ d) (hy1 : 1 ≤ y1 ∧ y1 ≤ 900) (hf6 : ¬ S.1 6) (hf7 : ¬ S.1 7) (hf8 : ¬ S.1 8) (hf9 : ¬ S.1 9) (hf10 : ¬ S.1 10) (hf11 : ¬ S.1 11) (hf12 : ¬ S.1 12) (hf13 : ¬ S.1 13) (hgg0 : ¬ S.2.1 g0)
    (K27 : ∀ (m' : zM) (B' : Int), J S m0 B' m' → B' ≤ BE → R0 = k27 m' → X (EE s) d 25 27 [] [] m' Q) :
    ∀ (n : Nat) (y2 y3 : Int) (m : zM) (B : Int), J S m0 B m → B + 8 * (n : Int) ≤ BE → (0 ≤ y2 ∧ y2 ≤ 3600) → (0 ≤ y3 ∧ y3 ≤ 900) → (y2 + y3 ≤ y1) → 900 - y3 < (n : Int) → R0 = fl25_4_1 k27 g0 y1 n y2 y3 m → X (EE s) d 25 4 [(0, zr g0 8), (1, zi y1), (2, zi y2), (3, zi y3)] [] m Q := by
  intro n
  induction n with
  | zero =>
    intro y2 y3 m B hJ hB hy2 hy3 hr0 hn hR
    exfalso
    omega
  | succ n ih =>
    intro y2 y3 m B hJ hB hy2 hy3 hr0 hn hR
    replace hR : R0 = fl25_4_1_b (fl25_4_1 k27 g0 y1 n) k27 g0 y1 y2 y3 m := hR
    refine X.iload_n 5 i25_4 rfl rfl rfl ?_
    refine X.iload_n 6 i25_5 rfl rfl rfl ?_
    refine X.icmpge 27 9 i25_6 rfl rfl rfl (fun h506 => ?_) (fun h506 => ?_)
    · refine X.cut [] i25_27 rfl ?_
      exact K27  m (B) (hJ.up (by omega)) (by omega)  (Eq.trans hR (Eq.trans (if_pos h506) rfl))
    · refine X.iload_n 10 i25_9 rfl rfl rfl ?_
      refine X.ifle 27 13 i25_10 rfl rfl rfl (fun h507 => ?_) (fun h507 => ?_)
      · refine X.cut [] i25_27 rfl ?_
        exact K27  m (B) (hJ.up (by omega)) (by omega)  (Eq.trans hR (Eq.trans (if_neg h506) (Eq.trans (if_pos h507) rfl)))
      · refine X.iload_n 14 i25_13 rfl rfl rfl ?_
        refine X.aload_n 15 i25_14 rfl rfl rfl ?_
        refine X.iload_n 16 i25_15 rfl rfl rfl ?_
        refine X.callv 19 [zi y2] [zi y2] [(0, zr g0 8), (1, zi y2)] i25_16 rfl (by decide) rfl rfl (by omega) rfl rfl (by decide) rfl t26 (Nat.le_of_ble_eq_true rfl) (Nat.le_of_ble_eq_true rfl) rfl ?_
        refine c26_1 (B := B) g0 y2 (by omega) (hJ.up (by omega)) (by omega) (by omega) (by omega) hf6 hf7 hf8 hf9 hf10 hf11 hf12 hf13 hgg0 (fun v510 m508 hv510 hFv510 hJ509 hqv510_0 hqv510_1 => ?_)
        show X (EE s) d 25 19 [(0, zr g0 8), (1, zi y1), (2, zi y2), (3, zi y3)] [zi v510, zi y2] m508 _
        refine X.isub 20 i25_19 rfl rfl (by omega) ?_
        refine X.istore_n 21 [(0, zr g0 8), (1, zi y1), (2, zi (y2 - v510)), (3, zi y3)] i25_20 rfl rfl rfl ?_
        refine X.iinc 24 [(0, zr g0 8), (1, zi y1), (2, zi (y2 - v510)), (3, zi (y3 + 1))] i25_21 rfl rfl rfl (by omega) rfl ?_
        refine X.goto 4 i25_24 rfl rfl ?_
        exact ih (y2 - v510) (y3 + 1) m508 (B + 8) (hJ509.up (by omega)) (by omega) (by omega) (by omega) (by omega) (by omega) (Eq.trans hR (Eq.trans (if_neg h506) (Eq.trans (if_neg h507) (Eq.trans (zb_eq hFv510) rfl))))
-- WorkMeter$Meter.meterTimes
def f25_1 (g0 : Nat) (a1 : Int) (m : zM) : zM :=
  fl25_4_1 (fun m501 =>
  m501) g0 a1 901 a1 0 m
-- WorkMeter$Meter.meterTimes
theorem c25_1 {s : Nat × (Nat → Int32)} {S : zS} {m0 m : zM} {B : Int} {d : Nat} {Q : Option zV → zM → Prop} (g0 : Nat) (a1 : Int) (hd : 18 ≤ d) (hJ : J S m0 B m) (hB : B + 7208 ≤ 1000000000) (ha1 : 1 ≤ a1 ∧ a1 ≤ 900) (hf6 : ¬ S.1 6) (hf7 : ¬ S.1 7) (hf8 : ¬ S.1 8) (hf9 : ¬ S.1 9) (hf10 : ¬ S.1 10) (hf11 : ¬ S.1 11) (hf12 : ¬ S.1 12) (hf13 : ¬ S.1 13) (hgg0 : ¬ S.2.1 g0) (hQ : ∀ m', f25_1 g0 a1 m = m' → J S m0 (B + 7208) m' → Q none m') : X (EE s) d 25 0 [(0, zr g0 8), (1, zi a1)] [] m Q := by
  refine X.iload_n 1 i25_0 rfl rfl rfl ?_
  refine X.istore_n 2 [(0, zr g0 8), (1, zi a1), (2, zi a1)] i25_1 rfl rfl rfl ?_
  refine X.iconst 3 i25_2 rfl rfl (by decide) ?_
  refine X.istore_n 4 [(0, zr g0 8), (1, zi a1), (2, zi a1), (3, zi 0)] i25_3 rfl rfl rfl ?_
  refine l25_4_1 (s := s) (d := d) (R0 := (f25_1 g0 a1 m)) g0 a1  (BE := B + 7208) (by omega) (by omega) (by omega) hf6 hf7 hf8 hf9 hf10 hf11 hf12 hf13 hgg0 (fun  m501 B502 hJ503 hBB502 hR504 => ?_) 901 a1 0 m (B) (hJ.up (by omega)) (by omega) (by omega) (by omega) (by omega) (by omega) rfl
  refine X.retv i25_27 rfl t25 ?_
  exact hQ  m501  (Eq.trans hR504 rfl) (hJ503.up (by omega)) 
-- WorkMeter.sample
def f19_1 (a1 a2 : Int) (m : zM) : Int × zM :=
  if a1 < (-500) then
  (((-1), m))
  else
  (if 500 < a1 then
  (((-1), m))
  else
  (if a2 < (-500) then
  (((-1), m))
  else
  (if a2 ≤ 500 then
  (zb (f20_1 0 a1 a2 m) fun v507 m505 =>
  zs (if v507 = 0 then
  (m505)
  else
  (zs (f25_1 0 1 m505) fun m509 =>
  m509)) fun m513 =>
  ((m513 0 19 5), m513))
  else
  (((-1), m)))))
-- WorkMeter.sample
theorem c19_1 {s : Nat × (Nat → Int32)} {S : zS} {m0 m : zM} {B : Int} {d : Nat} {Q : Option zV → zM → Prop} (a1 a2 : Int) (hd : 19 ≤ d) (hJ : J S m0 B m) (hB : B + 7208 ≤ 1000000000) (ha1 : (-2147483648) ≤ a1 ∧ a1 ≤ 2147483647) (ha2 : (-2147483648) ≤ a2 ∧ a2 ≤ 2147483647) (hf2 : ¬ S.1 2) (hf6 : ¬ S.1 6) (hf7 : ¬ S.1 7) (hf8 : ¬ S.1 8) (hf9 : ¬ S.1 9) (hf10 : ¬ S.1 10) (hf11 : ¬ S.1 11) (hf12 : ¬ S.1 12) (hf13 : ¬ S.1 13) (hg0 : ¬ S.2.1 0) (hQ : ∀ (v : Int) m', ((-1) ≤ v ∧ v ≤ 47) → f19_1 a1 a2 m = (v, m') → J S m0 (B + 7208) m' → Q (some (zi v)) m') : X (EE s) d 19 0 [(0, zr 4 40), (1, zi a1), (2, zi a2)] [] m Q := by
  refine X.iload_n 1 i19_0 rfl rfl rfl ?_
  refine X.sipush 4 i19_1 rfl rfl (by decide) ?_
  refine X.icmplt 28 7 i19_4 rfl rfl rfl (fun h501 => ?_) (fun h501 => ?_)
  · refine X.cut [] i19_28 rfl ?_
    refine X.iconst 29 i19_28 rfl rfl (by decide) ?_
    refine X.reti i19_29 rfl t19 ?_
    exact hQ (-1) m (by first | trivial | omega) (Eq.trans (if_pos h501) rfl) (hJ.up (by omega)) 
  · refine X.iload_n 8 i19_7 rfl rfl rfl ?_
    refine X.sipush 11 i19_8 rfl rfl (by decide) ?_
    refine X.icmpgt 28 14 i19_11 rfl rfl rfl (fun h502 => ?_) (fun h502 => ?_)
    · refine X.cut [] i19_28 rfl ?_
      refine X.iconst 29 i19_28 rfl rfl (by decide) ?_
      refine X.reti i19_29 rfl t19 ?_
      exact hQ (-1) m (by first | trivial | omega) (Eq.trans (if_neg h501) (Eq.trans (if_pos h502) rfl)) (hJ.up (by omega)) 
    · refine X.iload_n 15 i19_14 rfl rfl rfl ?_
      refine X.sipush 18 i19_15 rfl rfl (by decide) ?_
      refine X.icmplt 28 21 i19_18 rfl rfl rfl (fun h503 => ?_) (fun h503 => ?_)
      · refine X.cut [] i19_28 rfl ?_
        refine X.iconst 29 i19_28 rfl rfl (by decide) ?_
        refine X.reti i19_29 rfl t19 ?_
        exact hQ (-1) m (by first | trivial | omega) (Eq.trans (if_neg h501) (Eq.trans (if_neg h502) (Eq.trans (if_pos h503) rfl))) (hJ.up (by omega)) 
      · refine X.iload_n 22 i19_21 rfl rfl rfl ?_
        refine X.sipush 25 i19_22 rfl rfl (by decide) ?_
        refine X.icmple 30 28 i19_25 rfl rfl rfl (fun h504 => ?_) (fun h504 => ?_)
        · refine X.aload_n 31 i19_30 rfl rfl rfl ?_
          refine X.getF 34 i19_31 rfl rfl (by decide) rfl rfl ?_
          refine X.getR 37 i19_34 rfl rfl (by decide) rfl rfl ?_
          refine X.iload_n 38 i19_37 rfl rfl rfl ?_
          refine X.iload_n 39 i19_38 rfl rfl rfl ?_
          refine X.callv 42 [zi a1, zi a2] [] [(0, zr 0 19), (1, zi a1), (2, zi a2)] i19_39 rfl (by decide) rfl rfl (by omega) rfl rfl (by decide) rfl t20 (Nat.le_of_ble_eq_true rfl) (Nat.le_of_ble_eq_true rfl) rfl ?_
          refine c20_1 (B := B) 0 a1 a2 (by omega) (hJ.up (by omega)) (by omega) (by omega) (by omega) hf2 hg0 (fun v507 m505 hv507 hFv507 hJ506 => ?_)
          show X (EE s) d 19 42 [(0, zr 4 40), (1, zi a1), (2, zi a2)] [zi v507] m505 _
          have hK515 : ∀ (m' : zM), (if v507 = 0 then
              (m505)
              else
              (zs (f25_1 0 1 m505) fun m509 =>
              m509)) = m' → J S m0 (B + 7208) m' → X (EE s) d 19 53 [(0, zr 4 40)] [] m' Q := by
            intro m513 hT516 hJ514
            refine X.aload_n 54 i19_53 rfl rfl rfl ?_
            refine X.getF 57 i19_54 rfl rfl (by decide) rfl rfl ?_
            refine X.getR 60 i19_57 rfl rfl (by decide) rfl rfl ?_
            refine X.getI 63 5 i19_60 rfl rfl (by decide) rfl rfl rfl ?_
            have h517 := r19_5 hJ514 0
            refine X.reti i19_63 rfl t19 ?_
            exact hQ (m513 0 19 5) m513 (by first | trivial | omega) (Eq.trans (if_neg h501) (Eq.trans (if_neg h502) (Eq.trans (if_neg h503) (Eq.trans (if_pos h504) (Eq.trans (zb_eq hFv507) (Eq.trans (zs_eq hT516.symm) rfl)))))) (hJ514.up (by omega)) 
          refine X.ifeq 53 45 i19_42 rfl rfl rfl (fun h508 => ?_) (fun h508 => ?_)
          · refine X.cut [(0, zr 4 40)] i19_53 rfl ?_
            exact hK515 m505 (Eq.trans (if_pos h508) rfl) (hJ506.up (by omega))
          · refine X.aload_n 46 i19_45 rfl rfl rfl ?_
            refine X.getF 49 i19_46 rfl rfl (by decide) rfl rfl ?_
            refine X.iconst 50 i19_49 rfl rfl (by decide) ?_
            refine X.callv 53 [zi 1] [] [(0, zr 0 8), (1, zi 1)] i19_50 rfl (by decide) rfl rfl (by omega) rfl rfl (by decide) rfl t25 (Nat.le_of_ble_eq_true rfl) (Nat.le_of_ble_eq_true rfl) rfl ?_
            refine c25_1 (B := B) 0 1 (by omega) (hJ506.up (by omega)) (by omega) (by omega) hf6 hf7 hf8 hf9 hf10 hf11 hf12 hf13 hg0 (fun m509 hFv511 hJ510 => ?_)
            show X (EE s) d 19 53 [(0, zr 4 40), (1, zi a1), (2, zi a2)] [] m509 _
            refine X.cut [(0, zr 4 40)] i19_53 rfl ?_
            exact hK515 m509 (Eq.trans (if_neg h508) (Eq.trans (zs_eq hFv511.symm) rfl)) (hJ510.up (by omega))
        · refine X.cut [] i19_28 rfl ?_
          refine X.iconst 29 i19_28 rfl rfl (by decide) ?_
          refine X.reti i19_29 rfl t19 ?_
          exact hQ (-1) m (by first | trivial | omega) (Eq.trans (if_neg h501) (Eq.trans (if_neg h502) (Eq.trans (if_neg h503) (Eq.trans (if_neg h504) rfl)))) (hJ.up (by omega)) 
def fl205_139_1_b (self : Int → zM → Int × zM) (k173 : zM → Int × zM) (y4 : Int) (m : zM) : Int × zM :=
  if 96 ≤ y4 then
  (k173 m)
  else
  (zs (z_upd m 4 45 (95 + y4) (m 4 45 (191 + y4))) fun m507 =>
  self (y4 + 1) m507)
def fl205_139_1 (k173 : zM → Int × zM) : Nat → Int → zM → Int × zM
  | 0 => fun y4 m => (0, m)
  | n + 1 => fl205_139_1_b (fl205_139_1 k173 n) k173
theorem l205_139_1 {s : Nat × (Nat → Int32)} {S : zS} {m0 : zM} {d : Nat} {Q : Option zV → zM → Prop} {R0 : Int × zM} {k173 : zM → Int × zM} (BE : Int) (hE : BE ≤ 1000000000) (hd : 13 ≤ d) (hf2 : ¬ S.1 2) (hg4 : ¬ S.2.1 4)
    (K173 : ∀ (m' : zM) (B' : Int), J S m0 B' m' → B' ≤ BE → R0 = k173 m' → X (EE s) d 205 173 [(0, zr 4 44)] [] m' Q) :
    ∀ (n : Nat) (y4 : Int) (m : zM) (B : Int), J S m0 B m → B + 0 * (n : Int) ≤ BE → (0 ≤ y4 ∧ y4 ≤ 96) → 96 - y4 < (n : Int) → R0 = fl205_139_1 k173 n y4 m → X (EE s) d 205 139 [(0, zr 4 44), (4, zi y4)] [] m Q := by
  intro n
  induction n with
  | zero =>
    intro y4 m B hJ hB hy4 hn hR
    exfalso
    omega
  | succ n ih =>
    intro y4 m B hJ hB hy4 hn hR
    replace hR : R0 = fl205_139_1_b (fl205_139_1 k173 n) k173 y4 m := hR
    refine X.iload 141 i205_139 rfl rfl rfl ?_
    refine X.bipush 143 i205_141 rfl rfl (by decide) ?_
    refine X.icmpge 173 146 i205_143 rfl rfl rfl (fun h505 => ?_) (fun h505 => ?_)
    · refine X.cut [(0, zr 4 44)] i205_173 rfl ?_
      exact K173  m (B) (hJ.up (by omega)) (by omega)  (Eq.trans hR (Eq.trans (if_pos h505) rfl))
    · refine X.aload_n 147 i205_146 rfl rfl rfl ?_
      refine X.getF 150 i205_147 rfl rfl (by decide) rfl rfl ?_
      refine X.bipush 152 i205_150 rfl rfl (by decide) ?_
      refine X.iload 154 i205_152 rfl rfl rfl ?_
      refine X.iadd 155 i205_154 rfl rfl (by omega) ?_
      refine X.aload_n 156 i205_155 rfl rfl rfl ?_
      refine X.getF 159 i205_156 rfl rfl (by decide) rfl rfl ?_
      refine X.sipush 162 i205_159 rfl rfl (by decide) ?_
      refine X.iload 164 i205_162 rfl rfl rfl ?_
      refine X.iadd 165 i205_164 rfl rfl (by omega) ?_
      refine X.lald 166 i205_165 rfl rfl (by decide) rfl (by omega) ?_
      have h506 := r45_95 hJ 4 (i := (191 + y4)) (by omega)
      refine X.last' 167 i205_166 rfl rfl (by decide) rfl (by omega) (fun hrm507 m507 hm507 => ?_)
      have hJ508 := w45_95 hJ hm507 (by omega) (by omega) hf2 hg4
      refine X.iinc 170 [(0, zr 4 44), (4, zi (y4 + 1))] i205_167 rfl rfl rfl (by omega) rfl ?_
      refine X.goto 139 i205_170 rfl rfl ?_
      exact ih (y4 + 1) m507 (B) (hJ508.up (by omega)) (by omega) (by omega) (by omega) (Eq.trans hR (Eq.trans (if_neg h505) (Eq.trans (zs_eq hm507) rfl)))
def fl213_5_1_b (self : Int → Int → Int) (k48 : Int → Int) (y1 y2 : Int) (m : zM) (y3 y5 : Int) : Int :=
  if (m 4 45 2) ≤ y5 then
  (k48 y3)
  else
  (zn (((m 4 45 ((y1 + (16 * y2)) + y5)) * (m 4 45 ((y1 + (16 * y2)) + y5)))) fun z509 =>
  self (y3 + z509) (y5 + 1))
def fl213_5_1 (k48 : Int → Int) (y1 y2 : Int) (m : zM) : Nat → Int → Int → Int
  | 0 => fun y3 y5 => 0
  | n + 1 => fl213_5_1_b (fl213_5_1 k48 y1 y2 m n) k48 y1 y2 m
theorem l213_5_1 {s : Nat × (Nat → Int32)} {S : zS} {m0 : zM} {m : zM} {B : Int} {d : Nat} {Q : Option zV → zM → Prop} {R0 : Int} {k48 : Int → Int} (y1 y2 : Int) (hd : 13 ≤ d) (hJ : J S m0 B m) (hB9 : B ≤ 1000000000) (hy1 : 95 ≤ y1 ∧ y1 ≤ 143) (hy2 : 0 ≤ y2 ∧ y2 ≤ 2)
    (K48 : ∀ (x3 : Int) , (0 ≤ x3 ∧ x3 ≤ 4000000) → R0 = k48 x3 → X (EE s) d 213 48 [(3, zl x3)] [] m Q) :
    ∀ (n : Nat) (y3 y5 : Int) , (0 ≤ y3 ∧ y3 ≤ 4000000) → (0 ≤ y5 ∧ y5 ≤ 16) → (y3 ≤ 250000 * y5) → 16 - y5 < (n : Int) → R0 = fl213_5_1 k48 y1 y2 m n y3 y5 → X (EE s) d 213 5 [(0, zr 4 44), (1, zi y1), (2, zi y2), (3, zl y3), (5, zi y5)] [] m Q := by
  intro n
  induction n with
  | zero =>
    intro y3 y5 hy3 hy5 hr0 hn hR
    exfalso
    omega
  | succ n ih =>
    intro y3 y5 hy3 hy5 hr0 hn hR
    replace hR : R0 = fl213_5_1_b (fl213_5_1 k48 y1 y2 m n) k48 y1 y2 m y3 y5 := hR
    refine X.iload 7 i213_5 rfl rfl rfl ?_
    refine X.aload_n 8 i213_7 rfl rfl rfl ?_
    refine X.callv 11 [] [zi y5] [(0, zr 4 44)] i213_8 rfl (by decide) rfl rfl (by omega) rfl rfl (by decide) rfl t211 (Nat.le_of_ble_eq_true rfl) (Nat.le_of_ble_eq_true rfl) rfl ?_
    refine X.aload_n 1 i211_0 rfl rfl rfl ?_
    refine X.getF 4 i211_1 rfl rfl (by decide) rfl rfl ?_
    refine X.iconst 5 i211_4 rfl rfl (by decide) ?_
    refine X.lald 6 i211_5 rfl rfl (by decide) rfl (by omega) ?_
    have h506 := r45_2 hJ 4
    refine X.l2i 7 i211_6 rfl rfl (by omega) ?_
    refine X.reti i211_7 rfl t211 ?_
    show X (EE s) d 213 11 [(0, zr 4 44), (1, zi y1), (2, zi y2), (3, zl y3), (5, zi y5)] [zi (m 4 45 2), zi y5] m _
    refine X.icmpge 48 14 i213_11 rfl rfl rfl (fun h507 => ?_) (fun h507 => ?_)
    · refine X.cut [(3, zl y3)] i213_48 rfl ?_
      exact K48 y3 (by first | trivial | omega) (Eq.trans hR (Eq.trans (if_pos h507) rfl))
    · refine X.lload_n 15 i213_14 rfl rfl rfl ?_
      refine X.aload_n 16 i213_15 rfl rfl rfl ?_
      refine X.getF 19 i213_16 rfl rfl (by decide) rfl rfl ?_
      refine X.iload_n 20 i213_19 rfl rfl rfl ?_
      refine X.iload_n 21 i213_20 rfl rfl rfl ?_
      refine X.iload 23 i213_21 rfl rfl rfl ?_
      refine X.calls 26 [zi y1, zi y2, zi y5] [zr 4 45, zl y3] [(0, zi y1), (1, zi y2), (2, zi y5)] i213_23 (by decide) rfl rfl (by omega) rfl rfl t207 (Nat.le_of_ble_eq_true rfl) (Nat.le_of_ble_eq_true rfl) rfl ?_
      refine X.iload_n 1 i207_0 rfl rfl rfl ?_
      refine X.bipush 3 i207_1 rfl rfl (by decide) ?_
      refine X.iload_n 4 i207_3 rfl rfl rfl ?_
      refine X.imul 5 i207_4 rfl rfl (by omega) ?_
      refine X.iadd 6 i207_5 rfl rfl (by omega) ?_
      refine X.iload_n 7 i207_6 rfl rfl rfl ?_
      refine X.iadd 8 i207_7 rfl rfl (by omega) ?_
      refine X.reti i207_8 rfl t207 ?_
      show X (EE s) d 213 26 [(0, zr 4 44), (1, zi y1), (2, zi y2), (3, zl y3), (5, zi y5)] [zi ((y1 + (16 * y2)) + y5), zr 4 45, zl y3] m _
      refine X.lald 27 i213_26 rfl rfl (by decide) rfl (by omega) ?_
      have h508 := r45_95 hJ 4 (i := ((y1 + (16 * y2)) + y5)) (by omega)
      refine X.aload_n 28 i213_27 rfl rfl rfl ?_
      refine X.getF 31 i213_28 rfl rfl (by decide) rfl rfl ?_
      refine X.iload_n 32 i213_31 rfl rfl rfl ?_
      refine X.iload_n 33 i213_32 rfl rfl rfl ?_
      refine X.iload 35 i213_33 rfl rfl rfl ?_
      refine X.calls 38 [zi y1, zi y2, zi y5] [zr 4 45, zl (m 4 45 ((y1 + (16 * y2)) + y5)), zl y3] [(0, zi y1), (1, zi y2), (2, zi y5)] i213_35 (by decide) rfl rfl (by omega) rfl rfl t207 (Nat.le_of_ble_eq_true rfl) (Nat.le_of_ble_eq_true rfl) rfl ?_
      refine X.iload_n 1 i207_0 rfl rfl rfl ?_
      refine X.bipush 3 i207_1 rfl rfl (by decide) ?_
      refine X.iload_n 4 i207_3 rfl rfl rfl ?_
      refine X.imul 5 i207_4 rfl rfl (by omega) ?_
      refine X.iadd 6 i207_5 rfl rfl (by omega) ?_
      refine X.iload_n 7 i207_6 rfl rfl rfl ?_
      refine X.iadd 8 i207_7 rfl rfl (by omega) ?_
      refine X.reti i207_8 rfl t207 ?_
      show X (EE s) d 213 38 [(0, zr 4 44), (1, zi y1), (2, zi y2), (3, zl y3), (5, zi y5)] [zi ((y1 + (16 * y2)) + y5), zr 4 45, zl (m 4 45 ((y1 + (16 * y2)) + y5)), zl y3] m _
      refine X.lald 39 i213_38 rfl rfl (by decide) rfl (by omega) ?_
      have hz509 := z_sqr (e := 500) (x := (m 4 45 ((y1 + (16 * y2)) + y5))) (by omega)
      refine X.lmul 40 i213_39 rfl rfl (z_in3 hz509 (by decide) (by decide)) ?_
      obtain ⟨z509, ez509⟩ : ∃ z, z = ((m 4 45 ((y1 + (16 * y2)) + y5)) * (m 4 45 ((y1 + (16 * y2)) + y5))) := ⟨_, rfl⟩
      rw [← ez509] at hz509 ⊢
      have gz509 : 0 ≤ z509 ∧ z509 ≤ 250000 := z_in3 hz509 (by decide) (by decide)
      clear hz509
      refine X.ladd 41 i213_40 rfl rfl (by omega) ?_
      refine X.lstore_n 42 [(0, zr 4 44), (1, zi y1), (2, zi y2), (3, zl (y3 + z509)), (5, zi y5)] i213_41 rfl rfl rfl ?_
      refine X.iinc 45 [(0, zr 4 44), (1, zi y1), (2, zi y2), (3, zl (y3 + z509)), (5, zi (y5 + 1))] i213_42 rfl rfl rfl (by omega) rfl ?_
      refine X.goto 5 i213_45 rfl rfl ?_
      exact ih (y3 + z509) (y5 + 1) (by omega) (by omega) (by omega) (by omega) (Eq.trans hR (Eq.trans (if_neg h507) (Eq.trans (zn_eq ez509) rfl)))
-- WorkMeterModel.squares
def f213_1 (a1 a2 : Int) (m : zM) : Int :=
  fl213_5_1 (fun y501 =>
  y501) a1 a2 m 17 0 0
-- WorkMeterModel.squares
theorem c213_1 {s : Nat × (Nat → Int32)} {S : zS} {m0 m : zM} {B : Int} {d : Nat} {Q : Option zV → zM → Prop} (a1 a2 : Int) (hd : 13 ≤ d) (hJ : J S m0 B m) (hB : B + 0 ≤ 1000000000) (ha1 : 95 ≤ a1 ∧ a1 ≤ 143) (ha2 : 0 ≤ a2 ∧ a2 ≤ 2) (hQ : ∀ (v : Int), (0 ≤ v ∧ v ≤ 4000000) → f213_1 a1 a2 m = v → Q (some (zl v)) m) : X (EE s) d 213 0 [(0, zr 4 44), (1, zi a1), (2, zi a2)] [] m Q := by
  refine X.lconst (y := 0) 1 i213_0 rfl rfl rfl ?_
  refine X.lstore_n 2 [(0, zr 4 44), (1, zi a1), (2, zi a2), (3, zl 0)] i213_1 rfl rfl rfl ?_
  refine X.iconst 3 i213_2 rfl rfl (by decide) ?_
  refine X.istore 5 [(0, zr 4 44), (1, zi a1), (2, zi a2), (3, zl 0), (5, zi 0)] i213_3 rfl rfl rfl ?_
  refine l213_5_1 (s := s) (m := m) (B := B) (d := d) (R0 := (f213_1 a1 a2 m))  a1 a2  (by omega) (hJ.up (by omega)) (by omega) (by omega) (by omega) (fun y501 hby501 hR505 => ?_) 17 0 0 (by omega) (by omega) (by omega) (by omega) rfl
  refine X.lload_n 49 i213_48 rfl rfl rfl ?_
  refine X.retl i213_49 rfl t213 ?_
  exact hQ y501 (by first | trivial | omega) (Eq.trans hR505 rfl) 
def fl212_5_1_b (self : Int → Int → Int) (k63 : Int → Int) (y1 : Int) (m : zM) (y2 y4 : Int) : Int :=
  if (m 4 45 2) ≤ y4 then
  (k63 y2)
  else
  (zn (((y4 + ((m 4 45 2) / 4)) % (m 4 45 2))) fun z511 =>
  zn (((m 4 45 ((95 + (16 * y1)) + y4)) * (m 4 45 ((143 + (16 * y1)) + z511)))) fun z513 =>
  self (y2 + z513) (y4 + 1))
def fl212_5_1 (k63 : Int → Int) (y1 : Int) (m : zM) : Nat → Int → Int → Int
  | 0 => fun y2 y4 => 0
  | n + 1 => fl212_5_1_b (fl212_5_1 k63 y1 m n) k63 y1 m
theorem l212_5_1 {s : Nat × (Nat → Int32)} {S : zS} {m0 : zM} {m : zM} {B : Int} {d : Nat} {Q : Option zV → zM → Prop} {R0 : Int} {k63 : Int → Int} (y1 : Int) (hd : 13 ≤ d) (hJ : J S m0 B m) (hB9 : B ≤ 1000000000) (hy1 : 0 ≤ y1 ∧ y1 ≤ 2)
    (K63 : ∀ (x2 : Int) , ((-4000000) ≤ x2 ∧ x2 ≤ 4000000) → R0 = k63 x2 → X (EE s) d 212 63 [(2, zl x2)] [] m Q) :
    ∀ (n : Nat) (y2 y4 : Int) , ((-4000000) ≤ y2 ∧ y2 ≤ 4000000) → (0 ≤ y4 ∧ y4 ≤ 16) → (-250000 * y4 ≤ y2) → (y2 ≤ 250000 * y4) → 16 - y4 < (n : Int) → R0 = fl212_5_1 k63 y1 m n y2 y4 → X (EE s) d 212 5 [(0, zr 4 44), (1, zi y1), (2, zl y2), (4, zi y4)] [] m Q := by
  intro n
  induction n with
  | zero =>
    intro y2 y4 hy2 hy4 hr0 hr1 hn hR
    exfalso
    omega
  | succ n ih =>
    intro y2 y4 hy2 hy4 hr0 hr1 hn hR
    replace hR : R0 = fl212_5_1_b (fl212_5_1 k63 y1 m n) k63 y1 m y2 y4 := hR
    refine X.iload 7 i212_5 rfl rfl rfl ?_
    refine X.aload_n 8 i212_7 rfl rfl rfl ?_
    refine X.callv 11 [] [zi y4] [(0, zr 4 44)] i212_8 rfl (by decide) rfl rfl (by omega) rfl rfl (by decide) rfl t211 (Nat.le_of_ble_eq_true rfl) (Nat.le_of_ble_eq_true rfl) rfl ?_
    refine X.aload_n 1 i211_0 rfl rfl rfl ?_
    refine X.getF 4 i211_1 rfl rfl (by decide) rfl rfl ?_
    refine X.iconst 5 i211_4 rfl rfl (by decide) ?_
    refine X.lald 6 i211_5 rfl rfl (by decide) rfl (by omega) ?_
    have h508 := r45_2 hJ 4
    refine X.l2i 7 i211_6 rfl rfl (by omega) ?_
    refine X.reti i211_7 rfl t211 ?_
    show X (EE s) d 212 11 [(0, zr 4 44), (1, zi y1), (2, zl y2), (4, zi y4)] [zi (m 4 45 2), zi y4] m _
    refine X.icmpge 63 14 i212_11 rfl rfl rfl (fun h509 => ?_) (fun h509 => ?_)
    · refine X.cut [(2, zl y2)] i212_63 rfl ?_
      exact K63 y2 (by first | trivial | omega) (Eq.trans hR (Eq.trans (if_pos h509) rfl))
    · refine X.lload_n 15 i212_14 rfl rfl rfl ?_
      refine X.aload_n 16 i212_15 rfl rfl rfl ?_
      refine X.getF 19 i212_16 rfl rfl (by decide) rfl rfl ?_
      refine X.bipush 21 i212_19 rfl rfl (by decide) ?_
      refine X.iload_n 22 i212_21 rfl rfl rfl ?_
      refine X.iload 24 i212_22 rfl rfl rfl ?_
      refine X.calls 27 [zi 95, zi y1, zi y4] [zr 4 45, zl y2] [(0, zi 95), (1, zi y1), (2, zi y4)] i212_24 (by decide) rfl rfl (by omega) rfl rfl t207 (Nat.le_of_ble_eq_true rfl) (Nat.le_of_ble_eq_true rfl) rfl ?_
      refine X.iload_n 1 i207_0 rfl rfl rfl ?_
      refine X.bipush 3 i207_1 rfl rfl (by decide) ?_
      refine X.iload_n 4 i207_3 rfl rfl rfl ?_
      refine X.imul 5 i207_4 rfl rfl (by omega) ?_
      refine X.iadd 6 i207_5 rfl rfl (by omega) ?_
      refine X.iload_n 7 i207_6 rfl rfl rfl ?_
      refine X.iadd 8 i207_7 rfl rfl (by omega) ?_
      refine X.reti i207_8 rfl t207 ?_
      show X (EE s) d 212 27 [(0, zr 4 44), (1, zi y1), (2, zl y2), (4, zi y4)] [zi ((95 + (16 * y1)) + y4), zr 4 45, zl y2] m _
      refine X.lald 28 i212_27 rfl rfl (by decide) rfl (by omega) ?_
      have h510 := r45_95 hJ 4 (i := ((95 + (16 * y1)) + y4)) (by omega)
      refine X.aload_n 29 i212_28 rfl rfl rfl ?_
      refine X.getF 32 i212_29 rfl rfl (by decide) rfl rfl ?_
      refine X.sipush 35 i212_32 rfl rfl (by decide) ?_
      refine X.iload_n 36 i212_35 rfl rfl rfl ?_
      refine X.iload 38 i212_36 rfl rfl rfl ?_
      refine X.aload_n 39 i212_38 rfl rfl rfl ?_
      refine X.callv 42 [] [zi y4, zi y1, zi 143, zr 4 45, zl (m 4 45 ((95 + (16 * y1)) + y4)), zl y2] [(0, zr 4 44)] i212_39 rfl (by decide) rfl rfl (by omega) rfl rfl (by decide) rfl t211 (Nat.le_of_ble_eq_true rfl) (Nat.le_of_ble_eq_true rfl) rfl ?_
      refine X.aload_n 1 i211_0 rfl rfl rfl ?_
      refine X.getF 4 i211_1 rfl rfl (by decide) rfl rfl ?_
      refine X.iconst 5 i211_4 rfl rfl (by decide) ?_
      refine X.lald 6 i211_5 rfl rfl (by decide) rfl (by omega) ?_
      refine X.l2i 7 i211_6 rfl rfl (by omega) ?_
      refine X.reti i211_7 rfl t211 ?_
      show X (EE s) d 212 42 [(0, zr 4 44), (1, zi y1), (2, zl y2), (4, zi y4)] [zi (m 4 45 2), zi y4, zi y1, zi 143, zr 4 45, zl (m 4 45 ((95 + (16 * y1)) + y4)), zl y2] m _
      refine X.iconst 43 i212_42 rfl rfl (by decide) ?_
      refine X.idiv 44 i212_43 rfl rfl (by omega) ?_
      refine X.iadd 45 i212_44 rfl rfl (by omega) ?_
      refine X.aload_n 46 i212_45 rfl rfl rfl ?_
      refine X.callv 49 [] [zi (y4 + ((m 4 45 2) / 4)), zi y1, zi 143, zr 4 45, zl (m 4 45 ((95 + (16 * y1)) + y4)), zl y2] [(0, zr 4 44)] i212_46 rfl (by decide) rfl rfl (by omega) rfl rfl (by decide) rfl t211 (Nat.le_of_ble_eq_true rfl) (Nat.le_of_ble_eq_true rfl) rfl ?_
      refine X.aload_n 1 i211_0 rfl rfl rfl ?_
      refine X.getF 4 i211_1 rfl rfl (by decide) rfl rfl ?_
      refine X.iconst 5 i211_4 rfl rfl (by decide) ?_
      refine X.lald 6 i211_5 rfl rfl (by decide) rfl (by omega) ?_
      refine X.l2i 7 i211_6 rfl rfl (by omega) ?_
      refine X.reti i211_7 rfl t211 ?_
      show X (EE s) d 212 49 [(0, zr 4 44), (1, zi y1), (2, zl y2), (4, zi y4)] [zi (m 4 45 2), zi (y4 + ((m 4 45 2) / 4)), zi y1, zi 143, zr 4 45, zl (m 4 45 ((95 + (16 * y1)) + y4)), zl y2] m _
      refine X.irem 50 i212_49 rfl rfl (by omega) ?_
      have hz511 := z_modb (x := (y4 + ((m 4 45 2) / 4))) (y := (m 4 45 2)) (by omega) (by omega)
      obtain ⟨z511, ez511⟩ : ∃ z, z = ((y4 + ((m 4 45 2) / 4)) % (m 4 45 2)) := ⟨_, rfl⟩
      rw [← ez511] at hz511 ⊢
      refine X.calls 53 [zi 143, zi y1, zi z511] [zr 4 45, zl (m 4 45 ((95 + (16 * y1)) + y4)), zl y2] [(0, zi 143), (1, zi y1), (2, zi z511)] i212_50 (by decide) rfl rfl (by omega) rfl rfl t207 (Nat.le_of_ble_eq_true rfl) (Nat.le_of_ble_eq_true rfl) rfl ?_
      refine X.iload_n 1 i207_0 rfl rfl rfl ?_
      refine X.bipush 3 i207_1 rfl rfl (by decide) ?_
      refine X.iload_n 4 i207_3 rfl rfl rfl ?_
      refine X.imul 5 i207_4 rfl rfl (by omega) ?_
      refine X.iadd 6 i207_5 rfl rfl (by omega) ?_
      refine X.iload_n 7 i207_6 rfl rfl rfl ?_
      refine X.iadd 8 i207_7 rfl rfl (by omega) ?_
      refine X.reti i207_8 rfl t207 ?_
      show X (EE s) d 212 53 [(0, zr 4 44), (1, zi y1), (2, zl y2), (4, zi y4)] [zi ((143 + (16 * y1)) + z511), zr 4 45, zl (m 4 45 ((95 + (16 * y1)) + y4)), zl y2] m _
      refine X.lald 54 i212_53 rfl rfl (by decide) rfl (by omega) ?_
      have h512 := r45_95 hJ 4 (i := ((143 + (16 * y1)) + z511)) (by omega)
      have hz513 := z_mulr (a := (-500)) (b := 500) (c := (-500)) (e := 500) (x := (m 4 45 ((95 + (16 * y1)) + y4))) (y := (m 4 45 ((143 + (16 * y1)) + z511))) (by omega) (by omega)
      refine X.lmul 55 i212_54 rfl rfl (z_in3 hz513 (by decide) (by decide)) ?_
      obtain ⟨z513, ez513⟩ : ∃ z, z = ((m 4 45 ((95 + (16 * y1)) + y4)) * (m 4 45 ((143 + (16 * y1)) + z511))) := ⟨_, rfl⟩
      rw [← ez513] at hz513 ⊢
      have gz513 : (-250000) ≤ z513 ∧ z513 ≤ 250000 := z_in3 hz513 (by decide) (by decide)
      clear hz513
      refine X.ladd 56 i212_55 rfl rfl (by omega) ?_
      refine X.lstore_n 57 [(0, zr 4 44), (1, zi y1), (2, zl (y2 + z513)), (4, zi y4)] i212_56 rfl rfl rfl ?_
      refine X.iinc 60 [(0, zr 4 44), (1, zi y1), (2, zl (y2 + z513)), (4, zi (y4 + 1))] i212_57 rfl rfl rfl (by omega) rfl ?_
      refine X.goto 5 i212_60 rfl rfl ?_
      exact ih (y2 + z513) (y4 + 1) (by omega) (by omega) (by omega) (by omega) (by omega) (Eq.trans hR (Eq.trans (if_neg h509) (Eq.trans (zn_eq ez511) (Eq.trans (zn_eq ez513) rfl))))
-- WorkMeterModel.reactive
def f212_1 (a1 : Int) (m : zM) : Int :=
  fl212_5_1 (fun y501 =>
  y501) a1 m 17 0 0
-- WorkMeterModel.reactive
theorem c212_1 {s : Nat × (Nat → Int32)} {S : zS} {m0 m : zM} {B : Int} {d : Nat} {Q : Option zV → zM → Prop} (a1 : Int) (hd : 13 ≤ d) (hJ : J S m0 B m) (hB : B + 0 ≤ 1000000000) (ha1 : 0 ≤ a1 ∧ a1 ≤ 2) (hQ : ∀ (v : Int), ((-4000000) ≤ v ∧ v ≤ 4000000) → f212_1 a1 m = v → Q (some (zl v)) m) : X (EE s) d 212 0 [(0, zr 4 44), (1, zi a1)] [] m Q := by
  refine X.lconst (y := 0) 1 i212_0 rfl rfl rfl ?_
  refine X.lstore_n 2 [(0, zr 4 44), (1, zi a1), (2, zl 0)] i212_1 rfl rfl rfl ?_
  refine X.iconst 3 i212_2 rfl rfl (by decide) ?_
  refine X.istore 5 [(0, zr 4 44), (1, zi a1), (2, zl 0), (4, zi 0)] i212_3 rfl rfl rfl ?_
  refine l212_5_1 (s := s) (m := m) (B := B) (d := d) (R0 := (f212_1 a1 m))  a1  (by omega) (hJ.up (by omega)) (by omega) (by omega) (fun y501 hby501 hR505 => ?_) 17 0 0 (by omega) (by omega) (by omega) (by omega) (by omega) rfl
  refine X.lload_n 64 i212_63 rfl rfl rfl ?_
  refine X.retl i212_64 rfl t212 ?_
  exact hQ y501 (by first | trivial | omega) (Eq.trans hR505 rfl) 
def fl210_5_1_b (self : Int → Int → Int) (k51 : Int → Int) (y1 : Int) (m : zM) (y2 y4 : Int) : Int :=
  if (m 4 45 2) ≤ y4 then
  (k51 y2)
  else
  (zn (((m 4 45 ((95 + (16 * y1)) + y4)) * (m 4 45 ((143 + (16 * y1)) + y4)))) fun z511 =>
  self (y2 + z511) (y4 + 1))
def fl210_5_1 (k51 : Int → Int) (y1 : Int) (m : zM) : Nat → Int → Int → Int
  | 0 => fun y2 y4 => 0
  | n + 1 => fl210_5_1_b (fl210_5_1 k51 y1 m n) k51 y1 m
theorem l210_5_1 {s : Nat × (Nat → Int32)} {S : zS} {m0 : zM} {m : zM} {B : Int} {d : Nat} {Q : Option zV → zM → Prop} {R0 : Int} {k51 : Int → Int} (y1 : Int) (hd : 13 ≤ d) (hJ : J S m0 B m) (hB9 : B ≤ 1000000000) (hy1 : 0 ≤ y1 ∧ y1 ≤ 2)
    (K51 : ∀ (x2 : Int) , ((-4000000) ≤ x2 ∧ x2 ≤ 4000000) → R0 = k51 x2 → X (EE s) d 210 51 [(2, zl x2)] [] m Q) :
    ∀ (n : Nat) (y2 y4 : Int) , ((-4000000) ≤ y2 ∧ y2 ≤ 4000000) → (0 ≤ y4 ∧ y4 ≤ 16) → (-250000 * y4 ≤ y2) → (y2 ≤ 250000 * y4) → 16 - y4 < (n : Int) → R0 = fl210_5_1 k51 y1 m n y2 y4 → X (EE s) d 210 5 [(0, zr 4 44), (1, zi y1), (2, zl y2), (4, zi y4)] [] m Q := by
  intro n
  induction n with
  | zero =>
    intro y2 y4 hy2 hy4 hr0 hr1 hn hR
    exfalso
    omega
  | succ n ih =>
    intro y2 y4 hy2 hy4 hr0 hr1 hn hR
    replace hR : R0 = fl210_5_1_b (fl210_5_1 k51 y1 m n) k51 y1 m y2 y4 := hR
    refine X.iload 7 i210_5 rfl rfl rfl ?_
    refine X.aload_n 8 i210_7 rfl rfl rfl ?_
    refine X.callv 11 [] [zi y4] [(0, zr 4 44)] i210_8 rfl (by decide) rfl rfl (by omega) rfl rfl (by decide) rfl t211 (Nat.le_of_ble_eq_true rfl) (Nat.le_of_ble_eq_true rfl) rfl ?_
    refine X.aload_n 1 i211_0 rfl rfl rfl ?_
    refine X.getF 4 i211_1 rfl rfl (by decide) rfl rfl ?_
    refine X.iconst 5 i211_4 rfl rfl (by decide) ?_
    refine X.lald 6 i211_5 rfl rfl (by decide) rfl (by omega) ?_
    have h507 := r45_2 hJ 4
    refine X.l2i 7 i211_6 rfl rfl (by omega) ?_
    refine X.reti i211_7 rfl t211 ?_
    show X (EE s) d 210 11 [(0, zr 4 44), (1, zi y1), (2, zl y2), (4, zi y4)] [zi (m 4 45 2), zi y4] m _
    refine X.icmpge 51 14 i210_11 rfl rfl rfl (fun h508 => ?_) (fun h508 => ?_)
    · refine X.cut [(2, zl y2)] i210_51 rfl ?_
      exact K51 y2 (by first | trivial | omega) (Eq.trans hR (Eq.trans (if_pos h508) rfl))
    · refine X.lload_n 15 i210_14 rfl rfl rfl ?_
      refine X.aload_n 16 i210_15 rfl rfl rfl ?_
      refine X.getF 19 i210_16 rfl rfl (by decide) rfl rfl ?_
      refine X.bipush 21 i210_19 rfl rfl (by decide) ?_
      refine X.iload_n 22 i210_21 rfl rfl rfl ?_
      refine X.iload 24 i210_22 rfl rfl rfl ?_
      refine X.calls 27 [zi 95, zi y1, zi y4] [zr 4 45, zl y2] [(0, zi 95), (1, zi y1), (2, zi y4)] i210_24 (by decide) rfl rfl (by omega) rfl rfl t207 (Nat.le_of_ble_eq_true rfl) (Nat.le_of_ble_eq_true rfl) rfl ?_
      refine X.iload_n 1 i207_0 rfl rfl rfl ?_
      refine X.bipush 3 i207_1 rfl rfl (by decide) ?_
      refine X.iload_n 4 i207_3 rfl rfl rfl ?_
      refine X.imul 5 i207_4 rfl rfl (by omega) ?_
      refine X.iadd 6 i207_5 rfl rfl (by omega) ?_
      refine X.iload_n 7 i207_6 rfl rfl rfl ?_
      refine X.iadd 8 i207_7 rfl rfl (by omega) ?_
      refine X.reti i207_8 rfl t207 ?_
      show X (EE s) d 210 27 [(0, zr 4 44), (1, zi y1), (2, zl y2), (4, zi y4)] [zi ((95 + (16 * y1)) + y4), zr 4 45, zl y2] m _
      refine X.lald 28 i210_27 rfl rfl (by decide) rfl (by omega) ?_
      have h509 := r45_95 hJ 4 (i := ((95 + (16 * y1)) + y4)) (by omega)
      refine X.aload_n 29 i210_28 rfl rfl rfl ?_
      refine X.getF 32 i210_29 rfl rfl (by decide) rfl rfl ?_
      refine X.sipush 35 i210_32 rfl rfl (by decide) ?_
      refine X.iload_n 36 i210_35 rfl rfl rfl ?_
      refine X.iload 38 i210_36 rfl rfl rfl ?_
      refine X.calls 41 [zi 143, zi y1, zi y4] [zr 4 45, zl (m 4 45 ((95 + (16 * y1)) + y4)), zl y2] [(0, zi 143), (1, zi y1), (2, zi y4)] i210_38 (by decide) rfl rfl (by omega) rfl rfl t207 (Nat.le_of_ble_eq_true rfl) (Nat.le_of_ble_eq_true rfl) rfl ?_
      refine X.iload_n 1 i207_0 rfl rfl rfl ?_
      refine X.bipush 3 i207_1 rfl rfl (by decide) ?_
      refine X.iload_n 4 i207_3 rfl rfl rfl ?_
      refine X.imul 5 i207_4 rfl rfl (by omega) ?_
      refine X.iadd 6 i207_5 rfl rfl (by omega) ?_
      refine X.iload_n 7 i207_6 rfl rfl rfl ?_
      refine X.iadd 8 i207_7 rfl rfl (by omega) ?_
      refine X.reti i207_8 rfl t207 ?_
      show X (EE s) d 210 41 [(0, zr 4 44), (1, zi y1), (2, zl y2), (4, zi y4)] [zi ((143 + (16 * y1)) + y4), zr 4 45, zl (m 4 45 ((95 + (16 * y1)) + y4)), zl y2] m _
      refine X.lald 42 i210_41 rfl rfl (by decide) rfl (by omega) ?_
      have h510 := r45_95 hJ 4 (i := ((143 + (16 * y1)) + y4)) (by omega)
      have hz511 := z_mulr (a := (-500)) (b := 500) (c := (-500)) (e := 500) (x := (m 4 45 ((95 + (16 * y1)) + y4))) (y := (m 4 45 ((143 + (16 * y1)) + y4))) (by omega) (by omega)
      refine X.lmul 43 i210_42 rfl rfl (z_in3 hz511 (by decide) (by decide)) ?_
      obtain ⟨z511, ez511⟩ : ∃ z, z = ((m 4 45 ((95 + (16 * y1)) + y4)) * (m 4 45 ((143 + (16 * y1)) + y4))) := ⟨_, rfl⟩
      rw [← ez511] at hz511 ⊢
      have gz511 : (-250000) ≤ z511 ∧ z511 ≤ 250000 := z_in3 hz511 (by decide) (by decide)
      clear hz511
      refine X.ladd 44 i210_43 rfl rfl (by omega) ?_
      refine X.lstore_n 45 [(0, zr 4 44), (1, zi y1), (2, zl (y2 + z511)), (4, zi y4)] i210_44 rfl rfl rfl ?_
      refine X.iinc 48 [(0, zr 4 44), (1, zi y1), (2, zl (y2 + z511)), (4, zi (y4 + 1))] i210_45 rfl rfl rfl (by omega) rfl ?_
      refine X.goto 5 i210_48 rfl rfl ?_
      exact ih (y2 + z511) (y4 + 1) (by omega) (by omega) (by omega) (by omega) (by omega) (Eq.trans hR (Eq.trans (if_neg h508) (Eq.trans (zn_eq ez511) rfl)))
-- WorkMeterModel.active
def f210_1 (a1 : Int) (m : zM) : Int :=
  fl210_5_1 (fun y501 =>
  y501) a1 m 17 0 0
-- WorkMeterModel.active
theorem c210_1 {s : Nat × (Nat → Int32)} {S : zS} {m0 m : zM} {B : Int} {d : Nat} {Q : Option zV → zM → Prop} (a1 : Int) (hd : 13 ≤ d) (hJ : J S m0 B m) (hB : B + 0 ≤ 1000000000) (ha1 : 0 ≤ a1 ∧ a1 ≤ 2) (hQ : ∀ (v : Int), ((-4000000) ≤ v ∧ v ≤ 4000000) → f210_1 a1 m = v → Q (some (zl v)) m) : X (EE s) d 210 0 [(0, zr 4 44), (1, zi a1)] [] m Q := by
  refine X.lconst (y := 0) 1 i210_0 rfl rfl rfl ?_
  refine X.lstore_n 2 [(0, zr 4 44), (1, zi a1), (2, zl 0)] i210_1 rfl rfl rfl ?_
  refine X.iconst 3 i210_2 rfl rfl (by decide) ?_
  refine X.istore 5 [(0, zr 4 44), (1, zi a1), (2, zl 0), (4, zi 0)] i210_3 rfl rfl rfl ?_
  refine l210_5_1 (s := s) (m := m) (B := B) (d := d) (R0 := (f210_1 a1 m))  a1  (by omega) (hJ.up (by omega)) (by omega) (by omega) (fun y501 hby501 hR505 => ?_) 17 0 0 (by omega) (by omega) (by omega) (by omega) (by omega) rfl
  refine X.lload_n 52 i210_51 rfl rfl rfl ?_
  refine X.retl i210_52 rfl t210 ?_
  exact hQ y501 (by first | trivial | omega) (Eq.trans hR505 rfl) 
def fl209_5_1_b (self : Int → Int → Int) (k75 : Int → Int) (y1 : Int) (m : zM) (y2 y4 : Int) : Int :=
  if (m 4 45 1) ≤ y4 then
  (k75 y2)
  else
  (zn (if y1 = 0 then
  (zn (f210_1 y4 m) fun v540 =>
  v540)
  else
  (if y1 = 1 then
  (zn (f212_1 y4 m) fun v537 =>
  v537)
  else
  (if y1 = 2 then
  (zn (f213_1 95 y4 m) fun v534 =>
  v534)
  else
  (zn (f213_1 143 y4 m) fun v531 =>
  v531)))) fun v541 =>
  self (y2 + v541) (y4 + 1))
def fl209_5_1 (k75 : Int → Int) (y1 : Int) (m : zM) : Nat → Int → Int → Int
  | 0 => fun y2 y4 => 0
  | n + 1 => fl209_5_1_b (fl209_5_1 k75 y1 m n) k75 y1 m
theorem l209_5_1 {s : Nat × (Nat → Int32)} {S : zS} {m0 : zM} {m : zM} {B : Int} {d : Nat} {Q : Option zV → zM → Prop} {R0 : Int} {k75 : Int → Int} (y1 : Int) (hd : 14 ≤ d) (hJ : J S m0 B m) (hB9 : B ≤ 1000000000) (hy1 : 0 ≤ y1 ∧ y1 ≤ 3)
    (K75 : ∀ (x2 : Int) , ((-12000000) ≤ x2 ∧ x2 ≤ 12000000) → R0 = k75 x2 → X (EE s) d 209 75 [(2, zl x2)] [] m Q) :
    ∀ (n : Nat) (y2 y4 : Int) , ((-12000000) ≤ y2 ∧ y2 ≤ 12000000) → (0 ≤ y4 ∧ y4 ≤ 3) → (-4000000 * y4 ≤ y2) → (y2 ≤ 4000000 * y4) → 3 - y4 < (n : Int) → R0 = fl209_5_1 k75 y1 m n y2 y4 → X (EE s) d 209 5 [(0, zr 4 44), (1, zi y1), (2, zl y2), (4, zi y4)] [] m Q := by
  intro n
  induction n with
  | zero =>
    intro y2 y4 hy2 hy4 hr0 hr1 hn hR
    exfalso
    omega
  | succ n ih =>
    intro y2 y4 hy2 hy4 hr0 hr1 hn hR
    replace hR : R0 = fl209_5_1_b (fl209_5_1 k75 y1 m n) k75 y1 m y2 y4 := hR
    refine X.iload 7 i209_5 rfl rfl rfl ?_
    refine X.aload_n 8 i209_7 rfl rfl rfl ?_
    refine X.callv 11 [] [zi y4] [(0, zr 4 44)] i209_8 rfl (by decide) rfl rfl (by omega) rfl rfl (by decide) rfl t206 (Nat.le_of_ble_eq_true rfl) (Nat.le_of_ble_eq_true rfl) rfl ?_
    refine X.aload_n 1 i206_0 rfl rfl rfl ?_
    refine X.getF 4 i206_1 rfl rfl (by decide) rfl rfl ?_
    refine X.iconst 5 i206_4 rfl rfl (by decide) ?_
    refine X.lald 6 i206_5 rfl rfl (by decide) rfl (by omega) ?_
    have h524 := r45_1 hJ 4
    refine X.l2i 7 i206_6 rfl rfl (by omega) ?_
    refine X.reti i206_7 rfl t206 ?_
    show X (EE s) d 209 11 [(0, zr 4 44), (1, zi y1), (2, zl y2), (4, zi y4)] [zi (m 4 45 1), zi y4] m _
    refine X.icmpge 75 14 i209_11 rfl rfl rfl (fun h525 => ?_) (fun h525 => ?_)
    · refine X.cut [(2, zl y2)] i209_75 rfl ?_
      exact K75 y2 (by first | trivial | omega) (Eq.trans hR (Eq.trans (if_pos h525) rfl))
    · refine X.lload_n 15 i209_14 rfl rfl rfl ?_
      refine X.iload_n 16 i209_15 rfl rfl rfl ?_
      have hK544 : ∀ (v : Int) , ((-4000000) ≤ v ∧ v ≤ 4000000) → (if y1 = 0 then
          (zn (f210_1 y4 m) fun v540 =>
          v540)
          else
          (if y1 = 1 then
          (zn (f212_1 y4 m) fun v537 =>
          v537)
          else
          (if y1 = 2 then
          (zn (f213_1 95 y4 m) fun v534 =>
          v534)
          else
          (zn (f213_1 143 y4 m) fun v531 =>
          v531)))) = v → X (EE s) d 209 67 [(0, zr 4 44), (1, zi y1), (4, zi y4)] [zl v, zl y2] m Q := by
        intro v541 hv541 hT545
        refine X.ladd 68 i209_67 rfl rfl (by omega) ?_
        refine X.lstore_n 69 [(0, zr 4 44), (1, zi y1), (2, zl (y2 + v541)), (4, zi y4)] i209_68 rfl rfl rfl ?_
        refine X.iinc 72 [(0, zr 4 44), (1, zi y1), (2, zl (y2 + v541)), (4, zi (y4 + 1))] i209_69 rfl rfl rfl (by omega) rfl ?_
        refine X.goto 5 i209_72 rfl rfl ?_
        exact ih (y2 + v541) (y4 + 1) (by omega) (by omega) (by omega) (by omega) (by omega) (Eq.trans hR (Eq.trans (if_neg h525) (Eq.trans (zn_eq hT545.symm) rfl)))
      refine X.ifne 28 19 i209_16 rfl rfl rfl (fun h526 => ?_) (fun h526 => ?_)
      · refine X.cut [(0, zr 4 44), (1, zi y1), (4, zi y4)] i209_28 rfl ?_
        refine X.iload_n 29 i209_28 rfl rfl rfl ?_
        refine X.iconst 30 i209_29 rfl rfl (by decide) ?_
        refine X.icmpne 42 33 i209_30 rfl rfl rfl (fun h527 => ?_) (fun h527 => ?_)
        · refine X.iload_n 43 i209_42 rfl rfl rfl ?_
          refine X.iconst 44 i209_43 rfl rfl (by decide) ?_
          refine X.icmpne 58 47 i209_44 rfl rfl rfl (fun h528 => ?_) (fun h528 => ?_)
          · refine X.aload_n 59 i209_58 rfl rfl rfl ?_
            refine X.sipush 62 i209_59 rfl rfl (by decide) ?_
            refine X.iload 64 i209_62 rfl rfl rfl ?_
            refine X.callv 67 [zi 143, zi y4] [zl y2] [(0, zr 4 44), (1, zi 143), (2, zi y4)] i209_64 rfl (by decide) rfl rfl (by omega) rfl rfl (by decide) rfl t213 (Nat.le_of_ble_eq_true rfl) (Nat.le_of_ble_eq_true rfl) rfl ?_
            refine c213_1 (B := B)  143 y4 (by omega) (hJ.up (by omega)) (by omega) (by omega) (by omega) (fun v531 hv531 hFv531 => ?_)
            show X (EE s) d 209 67 [(0, zr 4 44), (1, zi y1), (4, zi y4)] [zl v531, zl y2] m _
            exact hK544 v531 (by first | trivial | omega) (Eq.trans (if_neg h526) (Eq.trans (if_neg h527) (Eq.trans (if_neg h528) (Eq.trans (zn_eq hFv531.symm) rfl))))
          · refine X.aload_n 48 i209_47 rfl rfl rfl ?_
            refine X.bipush 50 i209_48 rfl rfl (by decide) ?_
            refine X.iload 52 i209_50 rfl rfl rfl ?_
            refine X.callv 55 [zi 95, zi y4] [zl y2] [(0, zr 4 44), (1, zi 95), (2, zi y4)] i209_52 rfl (by decide) rfl rfl (by omega) rfl rfl (by decide) rfl t213 (Nat.le_of_ble_eq_true rfl) (Nat.le_of_ble_eq_true rfl) rfl ?_
            refine c213_1 (B := B)  95 y4 (by omega) (hJ.up (by omega)) (by omega) (by omega) (by omega) (fun v534 hv534 hFv534 => ?_)
            show X (EE s) d 209 55 [(0, zr 4 44), (1, zi y1), (4, zi y4)] [zl v534, zl y2] m _
            refine X.goto 67 i209_55 rfl rfl ?_
            exact hK544 v534 (by first | trivial | omega) (Eq.trans (if_neg h526) (Eq.trans (if_neg h527) (Eq.trans (if_pos h528) (Eq.trans (zn_eq hFv534.symm) rfl))))
        · refine X.aload_n 34 i209_33 rfl rfl rfl ?_
          refine X.iload 36 i209_34 rfl rfl rfl ?_
          refine X.callv 39 [zi y4] [zl y2] [(0, zr 4 44), (1, zi y4)] i209_36 rfl (by decide) rfl rfl (by omega) rfl rfl (by decide) rfl t212 (Nat.le_of_ble_eq_true rfl) (Nat.le_of_ble_eq_true rfl) rfl ?_
          refine c212_1 (B := B)  y4 (by omega) (hJ.up (by omega)) (by omega) (by omega) (fun v537 hv537 hFv537 => ?_)
          show X (EE s) d 209 39 [(0, zr 4 44), (1, zi y1), (4, zi y4)] [zl v537, zl y2] m _
          refine X.goto 67 i209_39 rfl rfl ?_
          exact hK544 v537 (by first | trivial | omega) (Eq.trans (if_neg h526) (Eq.trans (if_pos h527) (Eq.trans (zn_eq hFv537.symm) rfl)))
      · refine X.aload_n 20 i209_19 rfl rfl rfl ?_
        refine X.iload 22 i209_20 rfl rfl rfl ?_
        refine X.callv 25 [zi y4] [zl y2] [(0, zr 4 44), (1, zi y4)] i209_22 rfl (by decide) rfl rfl (by omega) rfl rfl (by decide) rfl t210 (Nat.le_of_ble_eq_true rfl) (Nat.le_of_ble_eq_true rfl) rfl ?_
        refine c210_1 (B := B)  y4 (by omega) (hJ.up (by omega)) (by omega) (by omega) (fun v540 hv540 hFv540 => ?_)
        show X (EE s) d 209 25 [(0, zr 4 44), (1, zi y1), (2, zl y2), (4, zi y4)] [zl v540, zl y2] m _
        refine X.goto 67 i209_25 rfl rfl ?_
        refine X.cut [(0, zr 4 44), (1, zi y1), (4, zi y4)] i209_67 rfl ?_
        exact hK544 v540 (by first | trivial | omega) (Eq.trans (if_pos h526) (Eq.trans (zn_eq hFv540.symm) rfl))
-- WorkMeterModel.together
def f209_1 (a1 : Int) (m : zM) : Int :=
  fl209_5_1 (fun y501 =>
  y501) a1 m 4 0 0
-- WorkMeterModel.together
theorem c209_1 {s : Nat × (Nat → Int32)} {S : zS} {m0 m : zM} {B : Int} {d : Nat} {Q : Option zV → zM → Prop} (a1 : Int) (hd : 14 ≤ d) (hJ : J S m0 B m) (hB : B + 0 ≤ 1000000000) (ha1 : 0 ≤ a1 ∧ a1 ≤ 3) (hQ : ∀ (v : Int), ((-12000000) ≤ v ∧ v ≤ 12000000) → f209_1 a1 m = v → Q (some (zl v)) m) : X (EE s) d 209 0 [(0, zr 4 44), (1, zi a1)] [] m Q := by
  refine X.lconst (y := 0) 1 i209_0 rfl rfl rfl ?_
  refine X.lstore_n 2 [(0, zr 4 44), (1, zi a1), (2, zl 0)] i209_1 rfl rfl rfl ?_
  refine X.iconst 3 i209_2 rfl rfl (by decide) ?_
  refine X.istore 5 [(0, zr 4 44), (1, zi a1), (2, zl 0), (4, zi 0)] i209_3 rfl rfl rfl ?_
  refine l209_5_1 (s := s) (m := m) (B := B) (d := d) (R0 := (f209_1 a1 m))  a1  (by omega) (hJ.up (by omega)) (by omega) (by omega) (fun y501 hby501 hR505 => ?_) 4 0 0 (by omega) (by omega) (by omega) (by omega) (by omega) rfl
  refine X.lload_n 76 i209_75 rfl rfl rfl ?_
  refine X.retl i209_76 rfl t209 ?_
  exact hQ y501 (by first | trivial | omega) (Eq.trans hR505 rfl) 
def fl214_7_1_b (self : Int → Int → Int) (k51 : Int → Int) (y0 : Int) (m : zM) (y2 y4 : Int) : Int :=
  if y2 < y4 then
  (zn (((((y2 + y4) + 1) / 2) * (((y2 + y4) + 1) / 2))) fun z508 =>
  if z508 ≤ y0 then
  (self (((y2 + y4) + 1) / 2) y4)
  else
  (self y2 ((((y2 + y4) + 1) / 2) - 1)))
  else
  (k51 y2)
def fl214_7_1 (k51 : Int → Int) (y0 : Int) (m : zM) : Nat → Int → Int → Int
  | 0 => fun y2 y4 => 0
  | n + 1 => fl214_7_1_b (fl214_7_1 k51 y0 m n) k51 y0 m
theorem l214_7_1 {s : Nat × (Nat → Int32)} {S : zS} {m0 : zM} {m : zM} {B : Int} {d : Nat} {Q : Option zV → zM → Prop} {R0 : Int} {k51 : Int → Int} (y0 : Int) (hd : 13 ≤ d) (hJ : J S m0 B m) (hB9 : B ≤ 1000000000) (hy0 : 0 ≤ y0 ∧ y0 ≤ 288000000000000)
    (K51 : ∀ (x2 : Int) , (0 ≤ x2 ∧ x2 ≤ 3000000000) → R0 = k51 x2 → X (EE s) d 214 51 [(2, zl x2)] [] m Q) :
    ∀ (n : Nat) (y2 y4 : Int) , (0 ≤ y2 ∧ y2 ≤ 3000000000) → (0 ≤ y4 ∧ y4 ≤ 3000000000) → (y2 ≤ y4) → y4 - y2 < (n : Int) → R0 = fl214_7_1 k51 y0 m n y2 y4 → X (EE s) d 214 7 [(0, zl y0), (2, zl y2), (4, zl y4)] [] m Q := by
  intro n
  induction n with
  | zero =>
    intro y2 y4 hy2 hy4 hr0 hn hR
    exfalso
    omega
  | succ n ih =>
    intro y2 y4 hy2 hy4 hr0 hn hR
    replace hR : R0 = fl214_7_1_b (fl214_7_1 k51 y0 m n) k51 y0 m y2 y4 := hR
    refine X.lload_n 8 i214_7 rfl rfl rfl ?_
    refine X.lload 10 i214_8 rfl rfl rfl ?_
    refine X.lcmp 11 i214_10 rfl rfl (fun z506 hz506 => ?_)
    refine X.ifge 51 14 i214_11 rfl rfl rfl (fun h507 => ?_) (fun h507 => ?_)
    · have h507c : ¬ y2 < y4 := by omega
      clear h507 hz506
      refine X.cut [(2, zl y2)] i214_51 rfl ?_
      exact K51 y2 (by first | trivial | omega) (Eq.trans hR (Eq.trans (if_neg h507c) rfl))
    · have h507c : y2 < y4 := by omega
      clear h507 hz506
      refine X.lload_n 15 i214_14 rfl rfl rfl ?_
      refine X.lload 17 i214_15 rfl rfl rfl ?_
      refine X.ladd 18 i214_17 rfl rfl (by omega) ?_
      refine X.lconst (y := 1) 19 i214_18 rfl rfl rfl ?_
      refine X.ladd 20 i214_19 rfl rfl (by omega) ?_
      refine X.ldc2 23 i214_20 rfl rfl (by decide) ?_
      refine X.ldivp 24 i214_23 rfl rfl (by omega) ?_
      refine X.lstore 26 [(0, zl y0), (2, zl y2), (4, zl y4), (6, zl (((y2 + y4) + 1) / 2))] i214_24 rfl rfl rfl ?_
      refine X.lload 28 i214_26 rfl rfl rfl ?_
      refine X.lload 30 i214_28 rfl rfl rfl ?_
      have hz508 := z_sqr (e := 3000000000) (x := (((y2 + y4) + 1) / 2)) (by omega)
      refine X.lmul 31 i214_30 rfl rfl (z_in3 hz508 (by decide) (by decide)) ?_
      obtain ⟨z508, ez508⟩ : ∃ z, z = ((((y2 + y4) + 1) / 2) * (((y2 + y4) + 1) / 2)) := ⟨_, rfl⟩
      rw [← ez508] at hz508 ⊢
      have gz508 : 0 ≤ z508 ∧ z508 ≤ 9000000000000000000 := z_in3 hz508 (by decide) (by decide)
      clear hz508
      refine X.lload_n 32 i214_31 rfl rfl rfl ?_
      refine X.lcmp 33 i214_32 rfl rfl (fun z509 hz509 => ?_)
      refine X.ifgt 42 36 i214_33 rfl rfl rfl (fun h510 => ?_) (fun h510 => ?_)
      · have h510c : ¬ z508 ≤ y0 := by omega
        clear h510 hz509
        refine X.cut [(0, zl y0), (2, zl y2), (6, zl (((y2 + y4) + 1) / 2))] i214_42 rfl ?_
        refine X.lload 44 i214_42 rfl rfl rfl ?_
        refine X.lconst (y := 1) 45 i214_44 rfl rfl rfl ?_
        refine X.lsub 46 i214_45 rfl rfl (by omega) ?_
        refine X.lstore 48 [(0, zl y0), (2, zl y2), (4, zl ((((y2 + y4) + 1) / 2) - 1)), (6, zl (((y2 + y4) + 1) / 2))] i214_46 rfl rfl rfl ?_
        refine X.cut [(0, zl y0), (2, zl y2), (4, zl ((((y2 + y4) + 1) / 2) - 1))] i214_48 rfl ?_
        refine X.goto 7 i214_48 rfl rfl ?_
        exact ih y2 ((((y2 + y4) + 1) / 2) - 1) (by omega) (by omega) (by omega) (by omega) (Eq.trans hR (Eq.trans (if_pos h507c) (Eq.trans (zn_eq ez508) (Eq.trans (if_neg h510c) rfl))))
      · have h510c : z508 ≤ y0 := by omega
        clear h510 hz509
        refine X.lload 38 i214_36 rfl rfl rfl ?_
        refine X.lstore_n 39 [(0, zl y0), (2, zl (((y2 + y4) + 1) / 2)), (4, zl y4), (6, zl (((y2 + y4) + 1) / 2))] i214_38 rfl rfl rfl ?_
        refine X.goto 48 i214_39 rfl rfl ?_
        refine X.cut [(0, zl y0), (2, zl (((y2 + y4) + 1) / 2)), (4, zl y4)] i214_48 rfl ?_
        refine X.goto 7 i214_48 rfl rfl ?_
        exact ih (((y2 + y4) + 1) / 2) y4 (by omega) (by omega) (by omega) (by omega) (Eq.trans hR (Eq.trans (if_pos h507c) (Eq.trans (zn_eq ez508) (Eq.trans (if_pos h510c) rfl))))
-- WorkMeterModel.root
def f214_1 (a0 : Int) (m : zM) : Int :=
  fl214_7_1 (fun y501 =>
  y501) a0 m 3000000001 0 3000000000
-- WorkMeterModel.root
theorem c214_1 {s : Nat × (Nat → Int32)} {S : zS} {m0 m : zM} {B : Int} {d : Nat} {Q : Option zV → zM → Prop} (a0 : Int) (hd : 13 ≤ d) (hJ : J S m0 B m) (hB : B + 0 ≤ 1000000000) (ha0 : 0 ≤ a0 ∧ a0 ≤ 288000000000000) (hQ : ∀ (v : Int), (0 ≤ v ∧ v ≤ 3000000000) → f214_1 a0 m = v → Q (some (zl v)) m) : X (EE s) d 214 0 [(0, zl a0)] [] m Q := by
  refine X.lconst (y := 0) 1 i214_0 rfl rfl rfl ?_
  refine X.lstore_n 2 [(0, zl a0), (2, zl 0)] i214_1 rfl rfl rfl ?_
  refine X.ldc2 5 i214_2 rfl rfl (by decide) ?_
  refine X.lstore 7 [(0, zl a0), (2, zl 0), (4, zl 3000000000)] i214_5 rfl rfl rfl ?_
  refine l214_7_1 (s := s) (m := m) (B := B) (d := d) (R0 := (f214_1 a0 m))  a0  (by omega) (hJ.up (by omega)) (by omega) (by omega) (fun y501 hby501 hR505 => ?_) 3000000001 0 3000000000 (by omega) (by omega) (by omega) (by omega) rfl
  refine X.lload_n 52 i214_51 rfl rfl rfl ?_
  refine X.retl i214_52 rfl t214 ?_
  exact hQ y501 (by first | trivial | omega) (Eq.trans hR505 rfl) 
-- WorkMeterModel.size
def f215_1 (a0 : Int) (m : zM) : Int :=
  zn (if a0 < 0 then
  ((-a0))
  else
  (a0)) fun v503 =>
  v503
-- WorkMeterModel.size
theorem c215_1 {s : Nat × (Nat → Int32)} {S : zS} {m0 m : zM} {B : Int} {d : Nat} {Q : Option zV → zM → Prop} (a0 : Int) (hd : 13 ≤ d) (hJ : J S m0 B m) (hB : B + 0 ≤ 1000000000) (ha0 : (-12000000) ≤ a0 ∧ a0 ≤ 12000000) (hQ : ∀ (v : Int), (0 ≤ v ∧ v ≤ 12000000) → f215_1 a0 m = v → Q (some (zl v)) m) : X (EE s) d 215 0 [(0, zl a0)] [] m Q := by
  refine X.lload_n 1 i215_0 rfl rfl rfl ?_
  refine X.lconst (y := 0) 2 i215_1 rfl rfl rfl ?_
  refine X.lcmp 3 i215_2 rfl rfl (fun z501 hz501 => ?_)
  have hK506 : ∀ (v : Int) , (0 ≤ v ∧ v ≤ 12000000) → (if a0 < 0 then
      ((-a0))
      else
      (a0)) = v → X (EE s) d 215 12 [] [zl v] m Q := by
    intro v503 hv503 hT507
    refine X.retl i215_12 rfl t215 ?_
    exact hQ v503 (by first | trivial | omega) (Eq.trans (zn_eq hT507.symm) rfl) 
  refine X.ifge 11 6 i215_3 rfl rfl rfl (fun h502 => ?_) (fun h502 => ?_)
  · have h502c : ¬ a0 < 0 := by omega
    clear h502 hz501
    refine X.lload_n 12 i215_11 rfl rfl rfl ?_
    refine X.cut [] i215_12 rfl ?_
    exact hK506 a0 (by first | trivial | omega) (Eq.trans (if_neg h502c) rfl)
  · have h502c : a0 < 0 := by omega
    clear h502 hz501
    refine X.lload_n 7 i215_6 rfl rfl rfl ?_
    refine X.lneg 8 i215_7 rfl rfl (by omega) ?_
    refine X.goto 12 i215_8 rfl rfl ?_
    refine X.cut [] i215_12 rfl ?_
    exact hK506 (-a0) (by first | trivial | omega) (Eq.trans (if_pos h502c) rfl)
def fl219_7_1_b (self : Int → Int → Int → Int) (k95 : Int → Int → Int) (y1 : Int) (m : zM) (y2 y3 y4 : Int) : Int :=
  if 4 ≤ y4 then
  (k95 y2 y3)
  else
  (if (m 4 45 (391 + y4)) = (-1) then
  (self y2 y3 (y4 + 1))
  else
  (zn (if (m 4 45 (391 + y4)) ≤ y1 then
  (if y2 = (-1) then
  (y4)
  else
  (if (m 4 45 (391 + y4)) ≤ (m 4 45 (391 + y2)) then
  (y2)
  else
  (y4)))
  else
  (y2)) fun v554 =>
  zn (if (m 4 45 (391 + y4)) ≤ (m 4 45 (391 + y3)) then
  (y3)
  else
  (y4)) fun v562 =>
  self v554 v562 (y4 + 1)))
def fl219_7_1 (k95 : Int → Int → Int) (y1 : Int) (m : zM) : Nat → Int → Int → Int → Int
  | 0 => fun y2 y3 y4 => 0
  | n + 1 => fl219_7_1_b (fl219_7_1 k95 y1 m n) k95 y1 m
theorem l219_7_1 {s : Nat × (Nat → Int32)} {S : zS} {m0 : zM} {m : zM} {B : Int} {d : Nat} {Q : Option zV → zM → Prop} {R0 : Int} {k95 : Int → Int → Int} (y1 : Int) (hd : 13 ≤ d) (hJ : J S m0 B m) (hB9 : B ≤ 1000000000) (hy1 : 0 ≤ y1 ∧ y1 ≤ 364)
    (K95 : ∀ (x2 x3 : Int) , ((-1) ≤ x2 ∧ x2 ≤ 3) → (0 ≤ x3 ∧ x3 ≤ 3) → R0 = k95 x2 x3 → X (EE s) d 219 95 [(2, zi x2), (3, zi x3)] [] m Q) :
    ∀ (n : Nat) (y2 y3 y4 : Int) , ((-1) ≤ y2 ∧ y2 ≤ 3) → (0 ≤ y3 ∧ y3 ≤ 3) → (0 ≤ y4 ∧ y4 ≤ 4) → 4 - y4 < (n : Int) → R0 = fl219_7_1 k95 y1 m n y2 y3 y4 → X (EE s) d 219 7 [(0, zr 4 44), (1, zi y1), (2, zi y2), (3, zi y3), (4, zi y4)] [] m Q := by
  intro n
  induction n with
  | zero =>
    intro y2 y3 y4 hy2 hy3 hy4 hn hR
    exfalso
    omega
  | succ n ih =>
    intro y2 y3 y4 hy2 hy3 hy4 hn hR
    replace hR : R0 = fl219_7_1_b (fl219_7_1 k95 y1 m n) k95 y1 m y2 y3 y4 := hR
    refine X.iload 9 i219_7 rfl rfl rfl ?_
    refine X.iconst 10 i219_9 rfl rfl (by decide) ?_
    refine X.icmpge 95 13 i219_10 rfl rfl rfl (fun h544 => ?_) (fun h544 => ?_)
    · refine X.cut [(2, zi y2), (3, zi y3)] i219_95 rfl ?_
      exact K95 y2 y3 (by first | trivial | omega) (by first | trivial | omega) (Eq.trans hR (Eq.trans (if_pos h544) rfl))
    · refine X.aload_n 14 i219_13 rfl rfl rfl ?_
      refine X.getF 17 i219_14 rfl rfl (by decide) rfl rfl ?_
      refine X.sipush 20 i219_17 rfl rfl (by decide) ?_
      refine X.iload 22 i219_20 rfl rfl rfl ?_
      refine X.iadd 23 i219_22 rfl rfl (by omega) ?_
      refine X.lald 24 i219_23 rfl rfl (by decide) rfl (by omega) ?_
      have h545 := r45_391 hJ 4 (i := (391 + y4)) (by omega)
      refine X.lstore 26 [(0, zr 4 44), (1, zi y1), (2, zi y2), (3, zi y3), (4, zi y4), (5, zl (m 4 45 (391 + y4)))] i219_24 rfl rfl rfl ?_
      refine X.lload 28 i219_26 rfl rfl rfl ?_
      refine X.ldc2 31 i219_28 rfl rfl (by decide) ?_
      refine X.lcmp 32 i219_31 rfl rfl (fun z546 hz546 => ?_)
      refine X.ifne 38 35 i219_32 rfl rfl rfl (fun h547 => ?_) (fun h547 => ?_)
      · have h547c : ¬ (m 4 45 (391 + y4)) = (-1) := by omega
        clear h547 hz546
        refine X.lload 40 i219_38 rfl rfl rfl ?_
        refine X.iload_n 41 i219_40 rfl rfl rfl ?_
        refine X.i2l 42 i219_41 rfl rfl ?_
        refine X.lcmp 43 i219_42 rfl rfl (fun z548 hz548 => ?_)
        have hK557 : ∀ (v : Int) , ((-1) ≤ v ∧ v ≤ 3) → (if (m 4 45 (391 + y4)) ≤ y1 then
            (if y2 = (-1) then
            (y4)
            else
            (if (m 4 45 (391 + y4)) ≤ (m 4 45 (391 + y2)) then
            (y2)
            else
            (y4)))
            else
            (y2)) = v → X (EE s) d 219 70 [(0, zr 4 44), (1, zi y1), (2, zi v), (3, zi y3), (4, zi y4), (5, zl (m 4 45 (391 + y4)))] [] m Q := by
          intro v554 hv554 hT558
          refine X.lload 72 i219_70 rfl rfl rfl ?_
          refine X.aload_n 73 i219_72 rfl rfl rfl ?_
          refine X.getF 76 i219_73 rfl rfl (by decide) rfl rfl ?_
          refine X.sipush 79 i219_76 rfl rfl (by decide) ?_
          refine X.iload_n 80 i219_79 rfl rfl rfl ?_
          refine X.iadd 81 i219_80 rfl rfl (by omega) ?_
          refine X.lald 82 i219_81 rfl rfl (by decide) rfl (by omega) ?_
          have h559 := r45_391 hJ 4 (i := (391 + y3)) (by omega)
          refine X.lcmp 83 i219_82 rfl rfl (fun z560 hz560 => ?_)
          have hK565 : ∀ (v : Int) , (0 ≤ v ∧ v ≤ 3) → (if (m 4 45 (391 + y4)) ≤ (m 4 45 (391 + y3)) then
              (y3)
              else
              (y4)) = v → X (EE s) d 219 89 [(0, zr 4 44), (1, zi y1), (2, zi v554), (3, zi v), (4, zi y4)] [] m Q := by
            intro v562 hv562 hT566
            refine X.iinc 92 [(0, zr 4 44), (1, zi y1), (2, zi v554), (3, zi v562), (4, zi (y4 + 1))] i219_89 rfl rfl rfl (by omega) rfl ?_
            refine X.goto 7 i219_92 rfl rfl ?_
            exact ih v554 v562 (y4 + 1) (by omega) (by omega) (by omega) (by omega) (Eq.trans hR (Eq.trans (if_neg h544) (Eq.trans (if_neg h547c) (Eq.trans (zn_eq hT558.symm) (Eq.trans (zn_eq hT566.symm) rfl)))))
          refine X.ifle 89 86 i219_83 rfl rfl rfl (fun h561 => ?_) (fun h561 => ?_)
          · have h561c : (m 4 45 (391 + y4)) ≤ (m 4 45 (391 + y3)) := by omega
            clear h561 hz560
            refine X.cut [(0, zr 4 44), (1, zi y1), (2, zi v554), (3, zi y3), (4, zi y4)] i219_89 rfl ?_
            exact hK565 y3 (by first | trivial | omega) (Eq.trans (if_pos h561c) rfl)
          · have h561c : ¬ (m 4 45 (391 + y4)) ≤ (m 4 45 (391 + y3)) := by omega
            clear h561 hz560
            refine X.iload 88 i219_86 rfl rfl rfl ?_
            refine X.istore_n 89 [(0, zr 4 44), (1, zi y1), (2, zi v554), (3, zi y4), (4, zi y4), (5, zl (m 4 45 (391 + y4)))] i219_88 rfl rfl rfl ?_
            refine X.cut [(0, zr 4 44), (1, zi y1), (2, zi v554), (3, zi y4), (4, zi y4)] i219_89 rfl ?_
            exact hK565 y4 (by first | trivial | omega) (Eq.trans (if_neg h561c) rfl)
        refine X.ifgt 70 46 i219_43 rfl rfl rfl (fun h549 => ?_) (fun h549 => ?_)
        · have h549c : ¬ (m 4 45 (391 + y4)) ≤ y1 := by omega
          clear h549 hz548
          exact hK557 y2 (by first | trivial | omega) (Eq.trans (if_neg h549c) rfl)
        · have h549c : (m 4 45 (391 + y4)) ≤ y1 := by omega
          clear h549 hz548
          refine X.iload_n 47 i219_46 rfl rfl rfl ?_
          refine X.iconst 48 i219_47 rfl rfl (by decide) ?_
          refine X.icmpeq 67 51 i219_48 rfl rfl rfl (fun h550 => ?_) (fun h550 => ?_)
          · refine X.cut [(0, zr 4 44), (1, zi y1), (3, zi y3), (4, zi y4), (5, zl (m 4 45 (391 + y4)))] i219_67 rfl ?_
            refine X.iload 69 i219_67 rfl rfl rfl ?_
            refine X.istore_n 70 [(0, zr 4 44), (1, zi y1), (2, zi y4), (3, zi y3), (4, zi y4), (5, zl (m 4 45 (391 + y4)))] i219_69 rfl rfl rfl ?_
            exact hK557 y4 (by first | trivial | omega) (Eq.trans (if_pos h549c) (Eq.trans (if_pos h550) rfl))
          · refine X.lload 53 i219_51 rfl rfl rfl ?_
            refine X.aload_n 54 i219_53 rfl rfl rfl ?_
            refine X.getF 57 i219_54 rfl rfl (by decide) rfl rfl ?_
            refine X.sipush 60 i219_57 rfl rfl (by decide) ?_
            refine X.iload_n 61 i219_60 rfl rfl rfl ?_
            refine X.iadd 62 i219_61 rfl rfl (by omega) ?_
            refine X.lald 63 i219_62 rfl rfl (by decide) rfl (by omega) ?_
            have h551 := r45_391 hJ 4 (i := (391 + y2)) (by omega)
            refine X.lcmp 64 i219_63 rfl rfl (fun z552 hz552 => ?_)
            refine X.ifle 70 67 i219_64 rfl rfl rfl (fun h553 => ?_) (fun h553 => ?_)
            · have h553c : (m 4 45 (391 + y4)) ≤ (m 4 45 (391 + y2)) := by omega
              clear h553 hz552
              exact hK557 y2 (by first | trivial | omega) (Eq.trans (if_pos h549c) (Eq.trans (if_neg h550) (Eq.trans (if_pos h553c) rfl)))
            · have h553c : ¬ (m 4 45 (391 + y4)) ≤ (m 4 45 (391 + y2)) := by omega
              clear h553 hz552
              refine X.cut [(0, zr 4 44), (1, zi y1), (3, zi y3), (4, zi y4), (5, zl (m 4 45 (391 + y4)))] i219_67 rfl ?_
              refine X.iload 69 i219_67 rfl rfl rfl ?_
              refine X.istore_n 70 [(0, zr 4 44), (1, zi y1), (2, zi y4), (3, zi y3), (4, zi y4), (5, zl (m 4 45 (391 + y4)))] i219_69 rfl rfl rfl ?_
              exact hK557 y4 (by first | trivial | omega) (Eq.trans (if_pos h549c) (Eq.trans (if_neg h550) (Eq.trans (if_neg h553c) rfl)))
      · have h547c : (m 4 45 (391 + y4)) = (-1) := by omega
        clear h547 hz546
        refine X.goto 89 i219_35 rfl rfl ?_
        refine X.cut [(0, zr 4 44), (1, zi y1), (2, zi y2), (3, zi y3), (4, zi y4)] i219_89 rfl ?_
        refine X.iinc 92 [(0, zr 4 44), (1, zi y1), (2, zi y2), (3, zi y3), (4, zi (y4 + 1))] i219_89 rfl rfl rfl (by omega) rfl ?_
        refine X.goto 7 i219_92 rfl rfl ?_
        exact ih y2 y3 (y4 + 1) (by omega) (by omega) (by omega) (by omega) (Eq.trans hR (Eq.trans (if_neg h544) (Eq.trans (if_pos h547c) rfl)))
-- WorkMeterModel.seasonOf
def f219_1 (a1 : Int) (m : zM) : Int :=
  fl219_7_1 (fun y501 y502 =>
  zn (if y501 = (-1) then
  (y502)
  else
  (y501)) fun v508 =>
  v508) a1 m 5 (-1) 0 0
-- WorkMeterModel.seasonOf
theorem c219_1 {s : Nat × (Nat → Int32)} {S : zS} {m0 m : zM} {B : Int} {d : Nat} {Q : Option zV → zM → Prop} (a1 : Int) (hd : 13 ≤ d) (hJ : J S m0 B m) (hB : B + 0 ≤ 1000000000) (ha1 : 0 ≤ a1 ∧ a1 ≤ 364) (hQ : ∀ (v : Int), (0 ≤ v ∧ v ≤ 3) → f219_1 a1 m = v → Q (some (zi v)) m) : X (EE s) d 219 0 [(0, zr 4 44), (1, zi a1)] [] m Q := by
  refine X.iconst 1 i219_0 rfl rfl (by decide) ?_
  refine X.istore_n 2 [(0, zr 4 44), (1, zi a1), (2, zi (-1))] i219_1 rfl rfl rfl ?_
  refine X.iconst 3 i219_2 rfl rfl (by decide) ?_
  refine X.istore_n 4 [(0, zr 4 44), (1, zi a1), (2, zi (-1)), (3, zi 0)] i219_3 rfl rfl rfl ?_
  refine X.iconst 5 i219_4 rfl rfl (by decide) ?_
  refine X.istore 7 [(0, zr 4 44), (1, zi a1), (2, zi (-1)), (3, zi 0), (4, zi 0)] i219_5 rfl rfl rfl ?_
  refine l219_7_1 (s := s) (m := m) (B := B) (d := d) (R0 := (f219_1 a1 m))  a1  (by omega) (hJ.up (by omega)) (by omega) (by omega) (fun y501 y502 hby501 hby502 hR506 => ?_) 5 (-1) 0 0 (by omega) (by omega) (by omega) (by omega) rfl
  refine X.iload_n 96 i219_95 rfl rfl rfl ?_
  refine X.iconst 97 i219_96 rfl rfl (by decide) ?_
  have hK511 : ∀ (v : Int) , (0 ≤ v ∧ v ≤ 3) → (if y501 = (-1) then
      (y502)
      else
      (y501)) = v → X (EE s) d 219 105 [] [zi v] m Q := by
    intro v508 hv508 hT512
    refine X.reti i219_105 rfl t219 ?_
    exact hQ v508 (by first | trivial | omega) (Eq.trans hR506 (Eq.trans (zn_eq hT512.symm) rfl)) 
  refine X.icmpne 104 100 i219_97 rfl rfl rfl (fun h507 => ?_) (fun h507 => ?_)
  · refine X.cut [(2, zi y501)] i219_104 rfl ?_
    refine X.iload_n 105 i219_104 rfl rfl rfl ?_
    refine X.cut [] i219_105 rfl ?_
    exact hK511 y501 (by first | trivial | omega) (Eq.trans (if_neg h507) rfl)
  · refine X.iload_n 101 i219_100 rfl rfl rfl ?_
    refine X.goto 105 i219_101 rfl rfl ?_
    refine X.cut [] i219_105 rfl ?_
    exact hK511 y502 (by first | trivial | omega) (Eq.trans (if_pos h507) rfl)
-- WorkMeterModel.tableAt
def f218_1 (a1 : Int) (m : zM) : Int :=
  if (m 4 45 (423 + (a1 % 365))) = (-1) then
  (zn (f219_1 (a1 % 365) m) fun v506 =>
  (m 4 45 ((395 + (7 * v506)) + (a1 % 7))))
  else
  ((m 4 45 (423 + (a1 % 365))))
-- WorkMeterModel.tableAt
theorem c218_1 {s : Nat × (Nat → Int32)} {S : zS} {m0 m : zM} {B : Int} {d : Nat} {Q : Option zV → zM → Prop} (a1 : Int) (hd : 14 ≤ d) (hJ : J S m0 B m) (hB : B + 0 ≤ 1000000000) (ha1 : 0 ≤ a1 ∧ a1 ≤ 23150) (hQ : ∀ (v : Int), (0 ≤ v ∧ v ≤ 7) → f218_1 a1 m = v → Q (some (zi v)) m) : X (EE s) d 218 0 [(0, zr 4 44), (1, zi a1)] [] m Q := by
  refine X.iload_n 1 i218_0 rfl rfl rfl ?_
  refine X.sipush 4 i218_1 rfl rfl (by decide) ?_
  refine X.irem 5 i218_4 rfl rfl (by omega) ?_
  refine X.istore_n 6 [(0, zr 4 44), (1, zi a1), (2, zi (a1 % 365))] i218_5 rfl rfl rfl ?_
  refine X.aload_n 7 i218_6 rfl rfl rfl ?_
  refine X.getF 10 i218_7 rfl rfl (by decide) rfl rfl ?_
  refine X.sipush 13 i218_10 rfl rfl (by decide) ?_
  refine X.iload_n 14 i218_13 rfl rfl rfl ?_
  refine X.iadd 15 i218_14 rfl rfl (by omega) ?_
  refine X.lald 16 i218_15 rfl rfl (by decide) rfl (by omega) ?_
  have h501 := r45_423 hJ 4 (i := (423 + (a1 % 365))) (by omega)
  refine X.ldc2 19 i218_16 rfl rfl (by decide) ?_
  refine X.lcmp 20 i218_19 rfl rfl (fun z502 hz502 => ?_)
  refine X.ifeq 35 23 i218_20 rfl rfl rfl (fun h503 => ?_) (fun h503 => ?_)
  · have h503c : (m 4 45 (423 + (a1 % 365))) = (-1) := by omega
    clear h503 hz502
    refine X.aload_n 36 i218_35 rfl rfl rfl ?_
    refine X.getF 39 i218_36 rfl rfl (by decide) rfl rfl ?_
    refine X.sipush 42 i218_39 rfl rfl (by decide) ?_
    refine X.bipush 44 i218_42 rfl rfl (by decide) ?_
    refine X.aload_n 45 i218_44 rfl rfl rfl ?_
    refine X.iload_n 46 i218_45 rfl rfl rfl ?_
    refine X.callv 49 [zi (a1 % 365)] [zi 7, zi 395, zr 4 45] [(0, zr 4 44), (1, zi (a1 % 365))] i218_46 rfl (by decide) rfl rfl (by omega) rfl rfl (by decide) rfl t219 (Nat.le_of_ble_eq_true rfl) (Nat.le_of_ble_eq_true rfl) rfl ?_
    refine c219_1 (B := B)  (a1 % 365) (by omega) (hJ.up (by omega)) (by omega) (by omega) (fun v506 hv506 hFv506 => ?_)
    show X (EE s) d 218 49 [(0, zr 4 44), (1, zi a1), (2, zi (a1 % 365))] [zi v506, zi 7, zi 395, zr 4 45] m _
    refine X.imul 50 i218_49 rfl rfl (by omega) ?_
    refine X.iadd 51 i218_50 rfl rfl (by omega) ?_
    refine X.iload_n 52 i218_51 rfl rfl rfl ?_
    refine X.bipush 54 i218_52 rfl rfl (by decide) ?_
    refine X.irem 55 i218_54 rfl rfl (by omega) ?_
    refine X.iadd 56 i218_55 rfl rfl (by omega) ?_
    refine X.lald 57 i218_56 rfl rfl (by decide) rfl (by omega) ?_
    have h507 := r45_395 hJ 4 (i := ((395 + (7 * v506)) + (a1 % 7))) (by omega)
    refine X.l2i 58 i218_57 rfl rfl (by omega) ?_
    refine X.reti i218_58 rfl t218 ?_
    exact hQ (m 4 45 ((395 + (7 * v506)) + (a1 % 7))) (by first | trivial | omega) (Eq.trans (if_pos h503c) (Eq.trans (zn_eq hFv506.symm) rfl)) 
  · have h503c : ¬ (m 4 45 (423 + (a1 % 365))) = (-1) := by omega
    clear h503 hz502
    refine X.aload_n 24 i218_23 rfl rfl rfl ?_
    refine X.getF 27 i218_24 rfl rfl (by decide) rfl rfl ?_
    refine X.sipush 30 i218_27 rfl rfl (by decide) ?_
    refine X.iload_n 31 i218_30 rfl rfl rfl ?_
    refine X.iadd 32 i218_31 rfl rfl (by omega) ?_
    refine X.lald 33 i218_32 rfl rfl (by decide) rfl (by omega) ?_
    refine X.l2i 34 i218_33 rfl rfl (by omega) ?_
    refine X.reti i218_34 rfl t218 ?_
    exact hQ (m 4 45 (423 + (a1 % 365))) (by first | trivial | omega) (Eq.trans (if_neg h503c) rfl) 
def fl217_14_1_b (self : Int → Int → Int) (k80 : Int → Int) (y1 y2 : Int) (m : zM) (y3 y4 : Int) : Int :=
  if y4 < (m 4 45 (287 + y2)) then
  (zn ((y1).tmod 86400) fun z533 =>
  zn (if (m 4 45 ((295 + (6 * y2)) + y4)) ≤ z533 then
  ((m 4 45 ((343 + (6 * y2)) + y4)))
  else
  (y3)) fun v537 =>
  self v537 (y4 + 1))
  else
  (k80 y3)
def fl217_14_1 (k80 : Int → Int) (y1 y2 : Int) (m : zM) : Nat → Int → Int → Int
  | 0 => fun y3 y4 => 0
  | n + 1 => fl217_14_1_b (fl217_14_1 k80 y1 y2 m n) k80 y1 y2 m
theorem l217_14_1 {s : Nat × (Nat → Int32)} {S : zS} {m0 : zM} {m : zM} {B : Int} {d : Nat} {Q : Option zV → zM → Prop} {R0 : Int} {k80 : Int → Int} (y1 y2 : Int) (hd : 13 ≤ d) (hJ : J S m0 B m) (hB9 : B ≤ 1000000000) (hy1 : (-1) ≤ y1 ∧ y1 ≤ 2000000000) (hy2 : 0 ≤ y2 ∧ y2 ≤ 7)
    (K80 : ∀ (x3 : Int) , (0 ≤ x3 ∧ x3 ≤ 3) → R0 = k80 x3 → X (EE s) d 217 80 [(3, zi x3)] [] m Q) :
    ∀ (n : Nat) (y3 y4 : Int) , (0 ≤ y3 ∧ y3 ≤ 3) → (0 ≤ y4 ∧ y4 ≤ 6) → 6 - y4 < (n : Int) → R0 = fl217_14_1 k80 y1 y2 m n y3 y4 → X (EE s) d 217 14 [(0, zr 4 44), (1, zi y1), (2, zi y2), (3, zi y3), (4, zi y4)] [] m Q := by
  intro n
  induction n with
  | zero =>
    intro y3 y4 hy3 hy4 hn hR
    exfalso
    omega
  | succ n ih =>
    intro y3 y4 hy3 hy4 hn hR
    replace hR : R0 = fl217_14_1_b (fl217_14_1 k80 y1 y2 m n) k80 y1 y2 m y3 y4 := hR
    refine X.iload 16 i217_14 rfl rfl rfl ?_
    refine X.i2l 17 i217_16 rfl rfl ?_
    refine X.aload_n 18 i217_17 rfl rfl rfl ?_
    refine X.getF 21 i217_18 rfl rfl (by decide) rfl rfl ?_
    refine X.sipush 24 i217_21 rfl rfl (by decide) ?_
    refine X.iload_n 25 i217_24 rfl rfl rfl ?_
    refine X.iadd 26 i217_25 rfl rfl (by omega) ?_
    refine X.lald 27 i217_26 rfl rfl (by decide) rfl (by omega) ?_
    have h529 := r45_287 hJ 4 (i := (287 + y2)) (by omega)
    refine X.lcmp 28 i217_27 rfl rfl (fun z530 hz530 => ?_)
    refine X.ifge 80 31 i217_28 rfl rfl rfl (fun h531 => ?_) (fun h531 => ?_)
    · have h531c : ¬ y4 < (m 4 45 (287 + y2)) := by omega
      clear h531 hz530
      refine X.cut [(3, zi y3)] i217_80 rfl ?_
      exact K80 y3 (by first | trivial | omega) (Eq.trans hR (Eq.trans (if_neg h531c) rfl))
    · have h531c : y4 < (m 4 45 (287 + y2)) := by omega
      clear h531 hz530
      refine X.aload_n 32 i217_31 rfl rfl rfl ?_
      refine X.getF 35 i217_32 rfl rfl (by decide) rfl rfl ?_
      refine X.sipush 38 i217_35 rfl rfl (by decide) ?_
      refine X.bipush 40 i217_38 rfl rfl (by decide) ?_
      refine X.iload_n 41 i217_40 rfl rfl rfl ?_
      refine X.imul 42 i217_41 rfl rfl (by omega) ?_
      refine X.iadd 43 i217_42 rfl rfl (by omega) ?_
      refine X.iload 45 i217_43 rfl rfl rfl ?_
      refine X.iadd 46 i217_45 rfl rfl (by omega) ?_
      refine X.lald 47 i217_46 rfl rfl (by decide) rfl (by omega) ?_
      have h532 := r45_295 hJ 4 (i := ((295 + (6 * y2)) + y4)) (by omega)
      refine X.iload_n 48 i217_47 rfl rfl rfl ?_
      refine X.ldc 50 i217_48 rfl rfl (by decide) ?_
      refine X.iremE 51 i217_50 rfl rfl (by decide) (fun z533 ez533 hz533 => ?_)
      refine X.i2l 52 i217_51 rfl rfl ?_
      refine X.lcmp 53 i217_52 rfl rfl (fun z534 hz534 => ?_)
      have hK540 : ∀ (v : Int) , (0 ≤ v ∧ v ≤ 3) → (if (m 4 45 ((295 + (6 * y2)) + y4)) ≤ z533 then
          ((m 4 45 ((343 + (6 * y2)) + y4)))
          else
          (y3)) = v → X (EE s) d 217 74 [(0, zr 4 44), (1, zi y1), (2, zi y2), (3, zi v), (4, zi y4)] [] m Q := by
        intro v537 hv537 hT541
        refine X.iinc 77 [(0, zr 4 44), (1, zi y1), (2, zi y2), (3, zi v537), (4, zi (y4 + 1))] i217_74 rfl rfl rfl (by omega) rfl ?_
        refine X.goto 14 i217_77 rfl rfl ?_
        exact ih v537 (y4 + 1) (by omega) (by omega) (by omega) (Eq.trans hR (Eq.trans (if_pos h531c) (Eq.trans (zn_eq ez533) (Eq.trans (zn_eq hT541.symm) rfl))))
      refine X.ifgt 74 56 i217_53 rfl rfl rfl (fun h535 => ?_) (fun h535 => ?_)
      · have h535c : ¬ (m 4 45 ((295 + (6 * y2)) + y4)) ≤ z533 := by omega
        clear h535 hz534
        exact hK540 y3 (by first | trivial | omega) (Eq.trans (if_neg h535c) rfl)
      · have h535c : (m 4 45 ((295 + (6 * y2)) + y4)) ≤ z533 := by omega
        clear h535 hz534
        refine X.aload_n 57 i217_56 rfl rfl rfl ?_
        refine X.getF 60 i217_57 rfl rfl (by decide) rfl rfl ?_
        refine X.sipush 63 i217_60 rfl rfl (by decide) ?_
        refine X.bipush 65 i217_63 rfl rfl (by decide) ?_
        refine X.iload_n 66 i217_65 rfl rfl rfl ?_
        refine X.imul 67 i217_66 rfl rfl (by omega) ?_
        refine X.iadd 68 i217_67 rfl rfl (by omega) ?_
        refine X.iload 70 i217_68 rfl rfl rfl ?_
        refine X.iadd 71 i217_70 rfl rfl (by omega) ?_
        refine X.lald 72 i217_71 rfl rfl (by decide) rfl (by omega) ?_
        have h536 := r45_343 hJ 4 (i := ((343 + (6 * y2)) + y4)) (by omega)
        refine X.l2i 73 i217_72 rfl rfl (by omega) ?_
        refine X.istore_n 74 [(0, zr 4 44), (1, zi y1), (2, zi y2), (3, zi (m 4 45 ((343 + (6 * y2)) + y4))), (4, zi y4)] i217_73 rfl rfl rfl ?_
        exact hK540 (m 4 45 ((343 + (6 * y2)) + y4)) (by first | trivial | omega) (Eq.trans (if_pos h535c) rfl)
-- WorkMeterModel.tariff
def f217_1 (a1 : Int) (m : zM) : Int :=
  zn ((a1).tdiv 86400) fun z501 =>
  zn (f218_1 z501 m) fun v504 =>
  fl217_14_1 (fun y505 =>
  y505) a1 v504 m 7 0 0
-- WorkMeterModel.tariff
theorem c217_1 {s : Nat × (Nat → Int32)} {S : zS} {m0 m : zM} {B : Int} {d : Nat} {Q : Option zV → zM → Prop} (a1 : Int) (hd : 15 ≤ d) (hJ : J S m0 B m) (hB : B + 0 ≤ 1000000000) (ha1 : (-1) ≤ a1 ∧ a1 ≤ 2000000000) (hQ : ∀ (v : Int), (0 ≤ v ∧ v ≤ 3) → f217_1 a1 m = v → Q (some (zi v)) m) : X (EE s) d 217 0 [(0, zr 4 44), (1, zi a1)] [] m Q := by
  refine X.aload_n 1 i217_0 rfl rfl rfl ?_
  refine X.iload_n 2 i217_1 rfl rfl rfl ?_
  refine X.ldc 4 i217_2 rfl rfl (by decide) ?_
  refine X.idivE 5 i217_4 rfl rfl (by decide) (fun z501 ez501 hz501 => ?_)
  refine X.callv 8 [zi z501] [] [(0, zr 4 44), (1, zi z501)] i217_5 rfl (by decide) rfl rfl (by omega) rfl rfl (by decide) rfl t218 (Nat.le_of_ble_eq_true rfl) (Nat.le_of_ble_eq_true rfl) rfl ?_
  refine c218_1 (B := B)  z501 (by omega) (hJ.up (by omega)) (by omega) (by omega) (fun v504 hv504 hFv504 => ?_)
  show X (EE s) d 217 8 [(0, zr 4 44), (1, zi a1)] [zi v504] m _
  refine X.istore_n 9 [(0, zr 4 44), (1, zi a1), (2, zi v504)] i217_8 rfl rfl rfl ?_
  refine X.iconst 10 i217_9 rfl rfl (by decide) ?_
  refine X.istore_n 11 [(0, zr 4 44), (1, zi a1), (2, zi v504), (3, zi 0)] i217_10 rfl rfl rfl ?_
  refine X.iconst 12 i217_11 rfl rfl (by decide) ?_
  refine X.istore 14 [(0, zr 4 44), (1, zi a1), (2, zi v504), (3, zi 0), (4, zi 0)] i217_12 rfl rfl rfl ?_
  refine l217_14_1 (s := s) (m := m) (B := B) (d := d) (R0 := (f217_1 a1 m))  a1 v504  (by omega) (hJ.up (by omega)) (by omega) (by omega) (by omega) (fun y505 hby505 hR509 => ?_) 7 0 0 (by omega) (by omega) (by omega) (Eq.trans (zn_eq ez501) (Eq.trans (zn_eq hFv504.symm) rfl))
  refine X.iload_n 81 i217_80 rfl rfl rfl ?_
  refine X.reti i217_81 rfl t217 ?_
  exact hQ y505 (by first | trivial | omega) (Eq.trans hR509 rfl) 
-- WorkMeterModel.counts
def f220_1 (a1 a2 a3 : Int) (m : zM) : zM :=
  zn (w64 ((m 4 45 ((60 + (5 * a1)) + a2)) + a3)) fun z501 =>
  zs (z_upd m 4 45 ((60 + (5 * a1)) + a2) z501) fun m502 =>
  zn (w64 ((m502 4 45 ((60 + (5 * a1)) + 4)) + a3)) fun z504 =>
  zs (z_upd m502 4 45 ((60 + (5 * a1)) + 4) z504) fun m505 =>
  m505
-- WorkMeterModel.counts
theorem c220_1 {s : Nat × (Nat → Int32)} {S : zS} {m0 m : zM} {B : Int} {d : Nat} {Q : Option zV → zM → Prop} (a1 a2 a3 : Int) (hd : 13 ≤ d) (hJ : J S m0 B m) (hB : B + 0 ≤ 1000000000) (ha1 : 0 ≤ a1 ∧ a1 ≤ 0) (ha2 : 0 ≤ a2 ∧ a2 ≤ 3) (ha3 : 1 ≤ a3 ∧ a3 ≤ 12000000) (hf10 : ¬ S.1 10) (hg4 : ¬ S.2.1 4) (hQ : ∀ m', f220_1 a1 a2 a3 m = m' → J S m0 (B) m' → Q none m') : X (EE s) d 220 0 [(0, zr 4 44), (1, zi a1), (2, zi a2), (3, zl a3)] [] m Q := by
  refine X.aload_n 1 i220_0 rfl rfl rfl ?_
  refine X.getF 4 i220_1 rfl rfl (by decide) rfl rfl ?_
  refine X.bipush 6 i220_4 rfl rfl (by decide) ?_
  refine X.iconst 7 i220_6 rfl rfl (by decide) ?_
  refine X.iload_n 8 i220_7 rfl rfl rfl ?_
  refine X.imul 9 i220_8 rfl rfl (by omega) ?_
  refine X.iadd 10 i220_9 rfl rfl (by omega) ?_
  refine X.iload_n 11 i220_10 rfl rfl rfl ?_
  refine X.iadd 12 i220_11 rfl rfl (by omega) ?_
  refine X.dup2 13 i220_12 rfl rfl ?_
  refine X.lald 14 i220_13 rfl rfl (by decide) rfl (by omega) ?_
  refine X.lload_n 15 i220_14 rfl rfl rfl ?_
  refine X.laddW 16 i220_15 rfl rfl (fun z501 ez501 hz501 => ?_)
  refine X.last' 17 i220_16 rfl rfl (by decide) rfl (by omega) (fun hrm502 m502 hm502 => ?_)
  have hJ503 := w45_60 hJ hm502 (by omega) hrm502 hf10 hg4
  refine X.aload_n 18 i220_17 rfl rfl rfl ?_
  refine X.getF 21 i220_18 rfl rfl (by decide) rfl rfl ?_
  refine X.bipush 23 i220_21 rfl rfl (by decide) ?_
  refine X.iconst 24 i220_23 rfl rfl (by decide) ?_
  refine X.iload_n 25 i220_24 rfl rfl rfl ?_
  refine X.imul 26 i220_25 rfl rfl (by omega) ?_
  refine X.iadd 27 i220_26 rfl rfl (by omega) ?_
  refine X.iconst 28 i220_27 rfl rfl (by decide) ?_
  refine X.iadd 29 i220_28 rfl rfl (by omega) ?_
  refine X.dup2 30 i220_29 rfl rfl ?_
  refine X.lald 31 i220_30 rfl rfl (by decide) rfl (by omega) ?_
  refine X.lload_n 32 i220_31 rfl rfl rfl ?_
  refine X.laddW 33 i220_32 rfl rfl (fun z504 ez504 hz504 => ?_)
  refine X.last' 34 i220_33 rfl rfl (by decide) rfl (by omega) (fun hrm505 m505 hm505 => ?_)
  have hJ506 := w45_60 hJ503 hm505 (by omega) hrm505 hf10 hg4
  refine X.retv i220_34 rfl t220 ?_
  exact hQ  m505  (Eq.trans (zn_eq ez501) (Eq.trans (zs_eq hm502) (Eq.trans (zn_eq ez504) (Eq.trans (zs_eq hm505) rfl)))) (hJ506.up (by omega)) 
-- WorkMeterModel.counts
theorem c220_2 {s : Nat × (Nat → Int32)} {S : zS} {m0 m : zM} {B : Int} {d : Nat} {Q : Option zV → zM → Prop} (a1 a2 a3 : Int) (hd : 13 ≤ d) (hJ : J S m0 B m) (hB : B + 0 ≤ 1000000000) (ha1 : 1 ≤ a1 ∧ a1 ≤ 1) (ha2 : 0 ≤ a2 ∧ a2 ≤ 3) (ha3 : 1 ≤ a3 ∧ a3 ≤ 12000000) (hf10 : ¬ S.1 10) (hg4 : ¬ S.2.1 4) (hQ : ∀ m', f220_1 a1 a2 a3 m = m' → J S m0 (B) m' → Q none m') : X (EE s) d 220 0 [(0, zr 4 44), (1, zi a1), (2, zi a2), (3, zl a3)] [] m Q := by
  refine X.aload_n 1 i220_0 rfl rfl rfl ?_
  refine X.getF 4 i220_1 rfl rfl (by decide) rfl rfl ?_
  refine X.bipush 6 i220_4 rfl rfl (by decide) ?_
  refine X.iconst 7 i220_6 rfl rfl (by decide) ?_
  refine X.iload_n 8 i220_7 rfl rfl rfl ?_
  refine X.imul 9 i220_8 rfl rfl (by omega) ?_
  refine X.iadd 10 i220_9 rfl rfl (by omega) ?_
  refine X.iload_n 11 i220_10 rfl rfl rfl ?_
  refine X.iadd 12 i220_11 rfl rfl (by omega) ?_
  refine X.dup2 13 i220_12 rfl rfl ?_
  refine X.lald 14 i220_13 rfl rfl (by decide) rfl (by omega) ?_
  refine X.lload_n 15 i220_14 rfl rfl rfl ?_
  refine X.laddW 16 i220_15 rfl rfl (fun z501 ez501 hz501 => ?_)
  refine X.last' 17 i220_16 rfl rfl (by decide) rfl (by omega) (fun hrm502 m502 hm502 => ?_)
  have hJ503 := w45_60 hJ hm502 (by omega) hrm502 hf10 hg4
  refine X.aload_n 18 i220_17 rfl rfl rfl ?_
  refine X.getF 21 i220_18 rfl rfl (by decide) rfl rfl ?_
  refine X.bipush 23 i220_21 rfl rfl (by decide) ?_
  refine X.iconst 24 i220_23 rfl rfl (by decide) ?_
  refine X.iload_n 25 i220_24 rfl rfl rfl ?_
  refine X.imul 26 i220_25 rfl rfl (by omega) ?_
  refine X.iadd 27 i220_26 rfl rfl (by omega) ?_
  refine X.iconst 28 i220_27 rfl rfl (by decide) ?_
  refine X.iadd 29 i220_28 rfl rfl (by omega) ?_
  refine X.dup2 30 i220_29 rfl rfl ?_
  refine X.lald 31 i220_30 rfl rfl (by decide) rfl (by omega) ?_
  refine X.lload_n 32 i220_31 rfl rfl rfl ?_
  refine X.laddW 33 i220_32 rfl rfl (fun z504 ez504 hz504 => ?_)
  refine X.last' 34 i220_33 rfl rfl (by decide) rfl (by omega) (fun hrm505 m505 hm505 => ?_)
  have hJ506 := w45_60 hJ503 hm505 (by omega) hrm505 hf10 hg4
  refine X.retv i220_34 rfl t220 ?_
  exact hQ  m505  (Eq.trans (zn_eq ez501) (Eq.trans (zs_eq hm502) (Eq.trans (zn_eq ez504) (Eq.trans (zs_eq hm505) rfl)))) (hJ506.up (by omega)) 
-- WorkMeterModel.quadrant
def f221_1 (a0 a1 : Int) (m : zM) : Int :=
  zn (if a0 < 0 then
  (if a1 < 0 then
  (3)
  else
  (2))
  else
  (if a1 < 0 then
  (4)
  else
  (1))) fun v507 =>
  v507
-- WorkMeterModel.quadrant
theorem c221_1 {s : Nat × (Nat → Int32)} {S : zS} {m0 m : zM} {B : Int} {d : Nat} {Q : Option zV → zM → Prop} (a0 a1 : Int) (hd : 13 ≤ d) (hJ : J S m0 B m) (hB : B + 0 ≤ 1000000000) (ha0 : (-12000000) ≤ a0 ∧ a0 ≤ 12000000) (ha1 : (-12000000) ≤ a1 ∧ a1 ≤ 12000000) (hQ : ∀ (v : Int), (1 ≤ v ∧ v ≤ 4) → f221_1 a0 a1 m = v → Q (some (zi v)) m) : X (EE s) d 221 0 [(0, zl a0), (2, zl a1)] [] m Q := by
  refine X.lload_n 1 i221_0 rfl rfl rfl ?_
  refine X.lconst (y := 0) 2 i221_1 rfl rfl rfl ?_
  refine X.lcmp 3 i221_2 rfl rfl (fun z501 hz501 => ?_)
  have hK510 : ∀ (v : Int) , (1 ≤ v ∧ v ≤ 4) → (if a0 < 0 then
      (if a1 < 0 then
      (3)
      else
      (2))
      else
      (if a1 < 0 then
      (4)
      else
      (1))) = v → X (EE s) d 221 31 [] [zi v] m Q := by
    intro v507 hv507 hT511
    refine X.reti i221_31 rfl t221 ?_
    exact hQ v507 (by first | trivial | omega) (Eq.trans (zn_eq hT511.symm) rfl) 
  refine X.iflt 20 6 i221_3 rfl rfl rfl (fun h502 => ?_) (fun h502 => ?_)
  · have h502c : a0 < 0 := by omega
    clear h502 hz501
    refine X.cut [(2, zl a1)] i221_20 rfl ?_
    refine X.lload_n 21 i221_20 rfl rfl rfl ?_
    refine X.lconst (y := 0) 22 i221_21 rfl rfl rfl ?_
    refine X.lcmp 23 i221_22 rfl rfl (fun z503 hz503 => ?_)
    refine X.iflt 30 26 i221_23 rfl rfl rfl (fun h504 => ?_) (fun h504 => ?_)
    · have h504c : a1 < 0 := by omega
      clear h504 hz503
      refine X.cut [] i221_30 rfl ?_
      refine X.iconst 31 i221_30 rfl rfl (by decide) ?_
      exact hK510 3 (by first | trivial | omega) (Eq.trans (if_pos h502c) (Eq.trans (if_pos h504c) rfl))
    · have h504c : ¬ a1 < 0 := by omega
      clear h504 hz503
      refine X.iconst 27 i221_26 rfl rfl (by decide) ?_
      refine X.goto 31 i221_27 rfl rfl ?_
      refine X.cut [] i221_31 rfl ?_
      exact hK510 2 (by first | trivial | omega) (Eq.trans (if_pos h502c) (Eq.trans (if_neg h504c) rfl))
  · have h502c : ¬ a0 < 0 := by omega
    clear h502 hz501
    refine X.lload_n 7 i221_6 rfl rfl rfl ?_
    refine X.lconst (y := 0) 8 i221_7 rfl rfl rfl ?_
    refine X.lcmp 9 i221_8 rfl rfl (fun z505 hz505 => ?_)
    refine X.iflt 16 12 i221_9 rfl rfl rfl (fun h506 => ?_) (fun h506 => ?_)
    · have h506c : a1 < 0 := by omega
      clear h506 hz505
      refine X.cut [] i221_16 rfl ?_
      refine X.iconst 17 i221_16 rfl rfl (by decide) ?_
      refine X.goto 31 i221_17 rfl rfl ?_
      exact hK510 4 (by first | trivial | omega) (Eq.trans (if_neg h502c) (Eq.trans (if_pos h506c) rfl))
    · have h506c : ¬ a1 < 0 := by omega
      clear h506 hz505
      refine X.iconst 13 i221_12 rfl rfl (by decide) ?_
      refine X.goto 31 i221_13 rfl rfl ?_
      refine X.cut [] i221_31 rfl ?_
      exact hK510 1 (by first | trivial | omega) (Eq.trans (if_neg h502c) (Eq.trans (if_neg h506c) rfl))
-- WorkMeterModel.counts
theorem c220_3 {s : Nat × (Nat → Int32)} {S : zS} {m0 m : zM} {B : Int} {d : Nat} {Q : Option zV → zM → Prop} (a1 a2 a3 : Int) (hd : 13 ≤ d) (hJ : J S m0 B m) (hB : B + 0 ≤ 1000000000) (ha1 : 2 ≤ a1 ∧ a1 ≤ 5) (ha2 : 0 ≤ a2 ∧ a2 ≤ 3) (ha3 : 0 ≤ a3 ∧ a3 ≤ 12000000) (hf10 : ¬ S.1 10) (hg4 : ¬ S.2.1 4) (hQ : ∀ m', f220_1 a1 a2 a3 m = m' → J S m0 (B) m' → Q none m') : X (EE s) d 220 0 [(0, zr 4 44), (1, zi a1), (2, zi a2), (3, zl a3)] [] m Q := by
  refine X.aload_n 1 i220_0 rfl rfl rfl ?_
  refine X.getF 4 i220_1 rfl rfl (by decide) rfl rfl ?_
  refine X.bipush 6 i220_4 rfl rfl (by decide) ?_
  refine X.iconst 7 i220_6 rfl rfl (by decide) ?_
  refine X.iload_n 8 i220_7 rfl rfl rfl ?_
  refine X.imul 9 i220_8 rfl rfl (by omega) ?_
  refine X.iadd 10 i220_9 rfl rfl (by omega) ?_
  refine X.iload_n 11 i220_10 rfl rfl rfl ?_
  refine X.iadd 12 i220_11 rfl rfl (by omega) ?_
  refine X.dup2 13 i220_12 rfl rfl ?_
  refine X.lald 14 i220_13 rfl rfl (by decide) rfl (by omega) ?_
  refine X.lload_n 15 i220_14 rfl rfl rfl ?_
  refine X.laddW 16 i220_15 rfl rfl (fun z501 ez501 hz501 => ?_)
  refine X.last' 17 i220_16 rfl rfl (by decide) rfl (by omega) (fun hrm502 m502 hm502 => ?_)
  have hJ503 := w45_60 hJ hm502 (by omega) hrm502 hf10 hg4
  refine X.aload_n 18 i220_17 rfl rfl rfl ?_
  refine X.getF 21 i220_18 rfl rfl (by decide) rfl rfl ?_
  refine X.bipush 23 i220_21 rfl rfl (by decide) ?_
  refine X.iconst 24 i220_23 rfl rfl (by decide) ?_
  refine X.iload_n 25 i220_24 rfl rfl rfl ?_
  refine X.imul 26 i220_25 rfl rfl (by omega) ?_
  refine X.iadd 27 i220_26 rfl rfl (by omega) ?_
  refine X.iconst 28 i220_27 rfl rfl (by decide) ?_
  refine X.iadd 29 i220_28 rfl rfl (by omega) ?_
  refine X.dup2 30 i220_29 rfl rfl ?_
  refine X.lald 31 i220_30 rfl rfl (by decide) rfl (by omega) ?_
  refine X.lload_n 32 i220_31 rfl rfl rfl ?_
  refine X.laddW 33 i220_32 rfl rfl (fun z504 ez504 hz504 => ?_)
  refine X.last' 34 i220_33 rfl rfl (by decide) rfl (by omega) (fun hrm505 m505 hm505 => ?_)
  have hJ506 := w45_60 hJ503 hm505 (by omega) hrm505 hf10 hg4
  refine X.retv i220_34 rfl t220 ?_
  exact hQ  m505  (Eq.trans (zn_eq ez501) (Eq.trans (zs_eq hm502) (Eq.trans (zn_eq ez504) (Eq.trans (zs_eq hm505) rfl)))) (hJ506.up (by omega)) 
-- WorkMeterModel.counts
theorem c220_4 {s : Nat × (Nat → Int32)} {S : zS} {m0 m : zM} {B : Int} {d : Nat} {Q : Option zV → zM → Prop} (a1 a2 a3 : Int) (hd : 13 ≤ d) (hJ : J S m0 B m) (hB : B + 0 ≤ 1000000000) (ha1 : 6 ≤ a1 ∧ a1 ≤ 6) (ha2 : 0 ≤ a2 ∧ a2 ≤ 3) (ha3 : 0 ≤ a3 ∧ a3 ≤ 3000000000) (hf10 : ¬ S.1 10) (hg4 : ¬ S.2.1 4) (hQ : ∀ m', f220_1 a1 a2 a3 m = m' → J S m0 (B) m' → Q none m') : X (EE s) d 220 0 [(0, zr 4 44), (1, zi a1), (2, zi a2), (3, zl a3)] [] m Q := by
  refine X.aload_n 1 i220_0 rfl rfl rfl ?_
  refine X.getF 4 i220_1 rfl rfl (by decide) rfl rfl ?_
  refine X.bipush 6 i220_4 rfl rfl (by decide) ?_
  refine X.iconst 7 i220_6 rfl rfl (by decide) ?_
  refine X.iload_n 8 i220_7 rfl rfl rfl ?_
  refine X.imul 9 i220_8 rfl rfl (by omega) ?_
  refine X.iadd 10 i220_9 rfl rfl (by omega) ?_
  refine X.iload_n 11 i220_10 rfl rfl rfl ?_
  refine X.iadd 12 i220_11 rfl rfl (by omega) ?_
  refine X.dup2 13 i220_12 rfl rfl ?_
  refine X.lald 14 i220_13 rfl rfl (by decide) rfl (by omega) ?_
  refine X.lload_n 15 i220_14 rfl rfl rfl ?_
  refine X.laddW 16 i220_15 rfl rfl (fun z501 ez501 hz501 => ?_)
  refine X.last' 17 i220_16 rfl rfl (by decide) rfl (by omega) (fun hrm502 m502 hm502 => ?_)
  have hJ503 := w45_60 hJ hm502 (by omega) hrm502 hf10 hg4
  refine X.aload_n 18 i220_17 rfl rfl rfl ?_
  refine X.getF 21 i220_18 rfl rfl (by decide) rfl rfl ?_
  refine X.bipush 23 i220_21 rfl rfl (by decide) ?_
  refine X.iconst 24 i220_23 rfl rfl (by decide) ?_
  refine X.iload_n 25 i220_24 rfl rfl rfl ?_
  refine X.imul 26 i220_25 rfl rfl (by omega) ?_
  refine X.iadd 27 i220_26 rfl rfl (by omega) ?_
  refine X.iconst 28 i220_27 rfl rfl (by decide) ?_
  refine X.iadd 29 i220_28 rfl rfl (by omega) ?_
  refine X.dup2 30 i220_29 rfl rfl ?_
  refine X.lald 31 i220_30 rfl rfl (by decide) rfl (by omega) ?_
  refine X.lload_n 32 i220_31 rfl rfl rfl ?_
  refine X.laddW 33 i220_32 rfl rfl (fun z504 ez504 hz504 => ?_)
  refine X.last' 34 i220_33 rfl rfl (by decide) rfl (by omega) (fun hrm505 m505 hm505 => ?_)
  have hJ506 := w45_60 hJ503 hm505 (by omega) hrm505 hf10 hg4
  refine X.retv i220_34 rfl t220 ?_
  exact hQ  m505  (Eq.trans (zn_eq ez501) (Eq.trans (zs_eq hm502) (Eq.trans (zn_eq ez504) (Eq.trans (zs_eq hm505) rfl)))) (hJ506.up (by omega)) 
-- WorkMeterModel.registers
def f216_1 (a1 a2 a3 : Int) (m : zM) : zM :=
  zn (f217_1 (m 4 45 0) m) fun v504 =>
  zn (w64 (((m 4 45 (60 + v504))).tdiv (m 4 45 5))) fun z506 =>
  zs (if a1 ≤ 0 then
  (m)
  else
  (zs (f220_1 0 v504 a1 m) fun m509 =>
  m509)) fun m513 =>
  zs (if a1 < 0 then
  (zs (f220_1 1 v504 (-a1) m513) fun m519 =>
  m519)
  else
  (m513)) fun m523 =>
  zn (f221_1 a1 a2 m523) fun v529 =>
  zn (f215_1 a2 m523) fun v532 =>
  zs (f220_1 (1 + v529) v504 v532 m523) fun m533 =>
  zs (f220_1 6 v504 a3 m533) fun m536 =>
  zn (w64 (((m536 4 45 (60 + v504))).tdiv (m536 4 45 5))) fun z540 =>
  zn (w64 (z540 - z506)) fun z541 =>
  zn (w64 (z541 * (m536 4 45 (28 + v504)))) fun z543 =>
  zn (w64 ((m536 4 45 10) - z543)) fun z544 =>
  zs (z_upd m536 4 45 10 z544) fun m545 =>
  zn (if a1 ≤ 0 then
  (0)
  else
  (a1)) fun v549 =>
  zn (w64 ((m545 4 45 22) + v549)) fun z554 =>
  zs (z_upd m545 4 45 22 z554) fun m555 =>
  zn (if a1 < 0 then
  ((-a1))
  else
  (0)) fun v559 =>
  zn (w64 ((m555 4 45 23) + v559)) fun z564 =>
  zs (z_upd m555 4 45 23 z564) fun m565 =>
  zn (w64 ((m565 4 45 24) + a3)) fun z567 =>
  zs (z_upd m565 4 45 24 z567) fun m568 =>
  m568
-- WorkMeterModel.registers
theorem c216_1 {s : Nat × (Nat → Int32)} {S : zS} {m0 m : zM} {B : Int} {d : Nat} {Q : Option zV → zM → Prop} (a1 a2 a3 : Int) (hd : 16 ≤ d) (hJ : J S m0 B m) (hB : B + 0 ≤ 1000000000) (ha1 : (-12000000) ≤ a1 ∧ a1 ≤ 12000000) (ha2 : (-12000000) ≤ a2 ∧ a2 ≤ 12000000) (ha3 : 0 ≤ a3 ∧ a3 ≤ 3000000000) (hf7 : ¬ S.1 7) (hf10 : ¬ S.1 10) (hf12 : ¬ S.1 12) (hg4 : ¬ S.2.1 4) (hQ : ∀ m', f216_1 a1 a2 a3 m = m' → J S m0 (B) m' → Q none m') : X (EE s) d 216 0 [(0, zr 4 44), (1, zl a1), (3, zl a2), (5, zl a3)] [] m Q := by
  refine X.aload_n 1 i216_0 rfl rfl rfl ?_
  refine X.aload_n 2 i216_1 rfl rfl rfl ?_
  refine X.getF 5 i216_2 rfl rfl (by decide) rfl rfl ?_
  refine X.iconst 6 i216_5 rfl rfl (by decide) ?_
  refine X.lald 7 i216_6 rfl rfl (by decide) rfl (by omega) ?_
  have h501 := r45_0 hJ 4
  refine X.l2i 8 i216_7 rfl rfl (by omega) ?_
  refine X.callv 11 [zi (m 4 45 0)] [] [(0, zr 4 44), (1, zi (m 4 45 0))] i216_8 rfl (by decide) rfl rfl (by omega) rfl rfl (by decide) rfl t217 (Nat.le_of_ble_eq_true rfl) (Nat.le_of_ble_eq_true rfl) rfl ?_
  refine c217_1 (B := B)  (m 4 45 0) (by omega) (hJ.up (by omega)) (by omega) (by omega) (fun v504 hv504 hFv504 => ?_)
  show X (EE s) d 216 11 [(0, zr 4 44), (1, zl a1), (3, zl a2), (5, zl a3)] [zi v504] m _
  refine X.istore 13 [(0, zr 4 44), (1, zl a1), (3, zl a2), (5, zl a3), (7, zi v504)] i216_11 rfl rfl rfl ?_
  refine X.aload_n 14 i216_13 rfl rfl rfl ?_
  refine X.getF 17 i216_14 rfl rfl (by decide) rfl rfl ?_
  refine X.bipush 19 i216_17 rfl rfl (by decide) ?_
  refine X.iload 21 i216_19 rfl rfl rfl ?_
  refine X.iadd 22 i216_21 rfl rfl (by omega) ?_
  refine X.lald 23 i216_22 rfl rfl (by decide) rfl (by omega) ?_
  refine X.aload_n 24 i216_23 rfl rfl rfl ?_
  refine X.getF 27 i216_24 rfl rfl (by decide) rfl rfl ?_
  refine X.iconst 28 i216_27 rfl rfl (by decide) ?_
  refine X.lald 29 i216_28 rfl rfl (by decide) rfl (by omega) ?_
  have h505 := r45_5 hJ 4
  refine X.ldivW 30 i216_29 rfl rfl (by omega) (fun z506 ez506 hz506 => ?_)
  refine X.lstore 32 [(0, zr 4 44), (1, zl a1), (3, zl a2), (5, zl a3), (7, zi v504), (8, zl z506)] i216_30 rfl rfl rfl ?_
  refine X.lload_n 33 i216_32 rfl rfl rfl ?_
  refine X.lconst (y := 0) 34 i216_33 rfl rfl rfl ?_
  refine X.lcmp 35 i216_34 rfl rfl (fun z507 hz507 => ?_)
  have hK515 : ∀ (m' : zM), (if a1 ≤ 0 then
      (m)
      else
      (zs (f220_1 0 v504 a1 m) fun m509 =>
      m509)) = m' → J S m0 (B) m' → X (EE s) d 216 46 [(0, zr 4 44), (1, zl a1), (3, zl a2), (5, zl a3), (7, zi v504), (8, zl z506)] [] m' Q := by
    intro m513 hT516 hJ514
    refine X.lload_n 47 i216_46 rfl rfl rfl ?_
    refine X.lconst (y := 0) 48 i216_47 rfl rfl rfl ?_
    refine X.lcmp 49 i216_48 rfl rfl (fun z517 hz517 => ?_)
    have hK525 : ∀ (m' : zM), (if a1 < 0 then
        (zs (f220_1 1 v504 (-a1) m513) fun m519 =>
        m519)
        else
        (m513)) = m' → J S m0 (B) m' → X (EE s) d 216 61 [(0, zr 4 44), (1, zl a1), (3, zl a2), (5, zl a3), (7, zi v504), (8, zl z506)] [] m' Q := by
      intro m523 hT526 hJ524
      refine X.aload_n 62 i216_61 rfl rfl rfl ?_
      refine X.iconst 63 i216_62 rfl rfl (by decide) ?_
      refine X.lload_n 64 i216_63 rfl rfl rfl ?_
      refine X.lload_n 65 i216_64 rfl rfl rfl ?_
      refine X.calls 68 [zl a1, zl a2] [zi 1, zr 4 44] [(0, zl a1), (2, zl a2)] i216_65 (by decide) rfl rfl (by omega) rfl rfl t221 (Nat.le_of_ble_eq_true rfl) (Nat.le_of_ble_eq_true rfl) rfl ?_
      refine c221_1 (B := B)  a1 a2 (by omega) (hJ524.up (by omega)) (by omega) (by omega) (by omega) (fun v529 hv529 hFv529 => ?_)
      show X (EE s) d 216 68 [(0, zr 4 44), (1, zl a1), (3, zl a2), (5, zl a3), (7, zi v504), (8, zl z506)] [zi v529, zi 1, zr 4 44] m523 _
      refine X.iadd 69 i216_68 rfl rfl (by omega) ?_
      refine X.iload 71 i216_69 rfl rfl rfl ?_
      refine X.lload_n 72 i216_71 rfl rfl rfl ?_
      refine X.calls 75 [zl a2] [zi v504, zi (1 + v529), zr 4 44] [(0, zl a2)] i216_72 (by decide) rfl rfl (by omega) rfl rfl t215 (Nat.le_of_ble_eq_true rfl) (Nat.le_of_ble_eq_true rfl) rfl ?_
      refine c215_1 (B := B)  a2 (by omega) (hJ524.up (by omega)) (by omega) (by omega) (fun v532 hv532 hFv532 => ?_)
      show X (EE s) d 216 75 [(0, zr 4 44), (1, zl a1), (3, zl a2), (5, zl a3), (7, zi v504), (8, zl z506)] [zl v532, zi v504, zi (1 + v529), zr 4 44] m523 _
      refine X.callv 78 [zi (1 + v529), zi v504, zl v532] [] [(0, zr 4 44), (1, zi (1 + v529)), (2, zi v504), (3, zl v532)] i216_75 rfl (by decide) rfl rfl (by omega) rfl rfl (by decide) rfl t220 (Nat.le_of_ble_eq_true rfl) (Nat.le_of_ble_eq_true rfl) rfl ?_
      refine c220_3 (B := B)  (1 + v529) v504 v532 (by omega) (hJ524.up (by omega)) (by omega) (by omega) (by omega) (by omega) hf10 hg4 (fun m533 hFv535 hJ534 => ?_)
      show X (EE s) d 216 78 [(0, zr 4 44), (1, zl a1), (3, zl a2), (5, zl a3), (7, zi v504), (8, zl z506)] [] m533 _
      refine X.aload_n 79 i216_78 rfl rfl rfl ?_
      refine X.bipush 81 i216_79 rfl rfl (by decide) ?_
      refine X.iload 83 i216_81 rfl rfl rfl ?_
      refine X.lload 85 i216_83 rfl rfl rfl ?_
      refine X.callv 88 [zi 6, zi v504, zl a3] [] [(0, zr 4 44), (1, zi 6), (2, zi v504), (3, zl a3)] i216_85 rfl (by decide) rfl rfl (by omega) rfl rfl (by decide) rfl t220 (Nat.le_of_ble_eq_true rfl) (Nat.le_of_ble_eq_true rfl) rfl ?_
      refine c220_4 (B := B)  6 v504 a3 (by omega) (hJ534.up (by omega)) (by omega) (by omega) (by omega) (by omega) hf10 hg4 (fun m536 hFv538 hJ537 => ?_)
      show X (EE s) d 216 88 [(0, zr 4 44), (1, zl a1), (3, zl a2), (5, zl a3), (7, zi v504), (8, zl z506)] [] m536 _
      refine X.aload_n 89 i216_88 rfl rfl rfl ?_
      refine X.getF 92 i216_89 rfl rfl (by decide) rfl rfl ?_
      refine X.bipush 94 i216_92 rfl rfl (by decide) ?_
      refine X.dup2 95 i216_94 rfl rfl ?_
      refine X.lald 96 i216_95 rfl rfl (by decide) rfl (by omega) ?_
      refine X.aload_n 97 i216_96 rfl rfl rfl ?_
      refine X.getF 100 i216_97 rfl rfl (by decide) rfl rfl ?_
      refine X.bipush 102 i216_100 rfl rfl (by decide) ?_
      refine X.iload 104 i216_102 rfl rfl rfl ?_
      refine X.iadd 105 i216_104 rfl rfl (by omega) ?_
      refine X.lald 106 i216_105 rfl rfl (by decide) rfl (by omega) ?_
      refine X.aload_n 107 i216_106 rfl rfl rfl ?_
      refine X.getF 110 i216_107 rfl rfl (by decide) rfl rfl ?_
      refine X.iconst 111 i216_110 rfl rfl (by decide) ?_
      refine X.lald 112 i216_111 rfl rfl (by decide) rfl (by omega) ?_
      have h539 := r45_5 hJ537 4
      refine X.ldivW 113 i216_112 rfl rfl (by omega) (fun z540 ez540 hz540 => ?_)
      refine X.lload 115 i216_113 rfl rfl rfl ?_
      refine X.lsubW 116 i216_115 rfl rfl (fun z541 ez541 hz541 => ?_)
      refine X.aload_n 117 i216_116 rfl rfl rfl ?_
      refine X.getF 120 i216_117 rfl rfl (by decide) rfl rfl ?_
      refine X.bipush 122 i216_120 rfl rfl (by decide) ?_
      refine X.iload 124 i216_122 rfl rfl rfl ?_
      refine X.iadd 125 i216_124 rfl rfl (by omega) ?_
      refine X.lald 126 i216_125 rfl rfl (by decide) rfl (by omega) ?_
      have h542 := r45_28 hJ537 4 (i := (28 + v504)) (by omega)
      refine X.lmulW 127 i216_126 rfl rfl (fun z543 ez543 hz543 => ?_)
      refine X.lsubW 128 i216_127 rfl rfl (fun z544 ez544 hz544 => ?_)
      refine X.last' 129 i216_128 rfl rfl (by decide) rfl (by omega) (fun hrm545 m545 hm545 => ?_)
      have hJ546 := w45_10 hJ537 hm545 hrm545 hf12 hg4
      refine X.aload_n 130 i216_129 rfl rfl rfl ?_
      refine X.getF 133 i216_130 rfl rfl (by decide) rfl rfl ?_
      refine X.bipush 135 i216_133 rfl rfl (by decide) ?_
      refine X.dup2 136 i216_135 rfl rfl ?_
      refine X.lald 137 i216_136 rfl rfl (by decide) rfl (by omega) ?_
      refine X.lload_n 138 i216_137 rfl rfl rfl ?_
      refine X.lconst (y := 0) 139 i216_138 rfl rfl rfl ?_
      refine X.lcmp 140 i216_139 rfl rfl (fun z547 hz547 => ?_)
      have hK552 : ∀ (v : Int) , (0 ≤ v ∧ v ≤ 12000000) → (if a1 ≤ 0 then
          (0)
          else
          (a1)) = v → X (EE s) d 216 148 [(0, zr 4 44), (1, zl a1), (5, zl a3)] [zl v, zl (m545 4 45 22), zi 22, zr 4 45] m545 Q := by
        intro v549 hv549 hT553
        refine X.laddW 149 i216_148 rfl rfl (fun z554 ez554 hz554 => ?_)
        refine X.last' 150 i216_149 rfl rfl (by decide) rfl (by omega) (fun hrm555 m555 hm555 => ?_)
        have hJ556 := w45_21 hJ546 hm555 (by omega) hrm555 hf7 hg4
        refine X.aload_n 151 i216_150 rfl rfl rfl ?_
        refine X.getF 154 i216_151 rfl rfl (by decide) rfl rfl ?_
        refine X.bipush 156 i216_154 rfl rfl (by decide) ?_
        refine X.dup2 157 i216_156 rfl rfl ?_
        refine X.lald 158 i216_157 rfl rfl (by decide) rfl (by omega) ?_
        refine X.lload_n 159 i216_158 rfl rfl rfl ?_
        refine X.lconst (y := 0) 160 i216_159 rfl rfl rfl ?_
        refine X.lcmp 161 i216_160 rfl rfl (fun z557 hz557 => ?_)
        have hK562 : ∀ (v : Int) , (0 ≤ v ∧ v ≤ 12000000) → (if a1 < 0 then
            ((-a1))
            else
            (0)) = v → X (EE s) d 216 170 [(0, zr 4 44), (5, zl a3)] [zl v, zl (m555 4 45 23), zi 23, zr 4 45] m555 Q := by
          intro v559 hv559 hT563
          refine X.laddW 171 i216_170 rfl rfl (fun z564 ez564 hz564 => ?_)
          refine X.last' 172 i216_171 rfl rfl (by decide) rfl (by omega) (fun hrm565 m565 hm565 => ?_)
          have hJ566 := w45_21 hJ556 hm565 (by omega) hrm565 hf7 hg4
          refine X.aload_n 173 i216_172 rfl rfl rfl ?_
          refine X.getF 176 i216_173 rfl rfl (by decide) rfl rfl ?_
          refine X.bipush 178 i216_176 rfl rfl (by decide) ?_
          refine X.dup2 179 i216_178 rfl rfl ?_
          refine X.lald 180 i216_179 rfl rfl (by decide) rfl (by omega) ?_
          refine X.lload 182 i216_180 rfl rfl rfl ?_
          refine X.laddW 183 i216_182 rfl rfl (fun z567 ez567 hz567 => ?_)
          refine X.last' 184 i216_183 rfl rfl (by decide) rfl (by omega) (fun hrm568 m568 hm568 => ?_)
          have hJ569 := w45_21 hJ566 hm568 (by omega) hrm568 hf7 hg4
          refine X.retv i216_184 rfl t216 ?_
          exact hQ  m568  (Eq.trans (zn_eq hFv504.symm) (Eq.trans (zn_eq ez506) (Eq.trans (zs_eq hT516.symm) (Eq.trans (zs_eq hT526.symm) (Eq.trans (zn_eq hFv529.symm) (Eq.trans (zn_eq hFv532.symm) (Eq.trans (zs_eq hFv535.symm) (Eq.trans (zs_eq hFv538.symm) (Eq.trans (zn_eq ez540) (Eq.trans (zn_eq ez541) (Eq.trans (zn_eq ez543) (Eq.trans (zn_eq ez544) (Eq.trans (zs_eq hm545) (Eq.trans (zn_eq hT553.symm) (Eq.trans (zn_eq ez554) (Eq.trans (zs_eq hm555) (Eq.trans (zn_eq hT563.symm) (Eq.trans (zn_eq ez564) (Eq.trans (zs_eq hm565) (Eq.trans (zn_eq ez567) (Eq.trans (zs_eq hm568) rfl))))))))))))))))))))) (hJ569.up (by omega)) 
        refine X.ifge 169 164 i216_161 rfl rfl rfl (fun h558 => ?_) (fun h558 => ?_)
        · have h558c : ¬ a1 < 0 := by omega
          clear h558 hz557
          refine X.cut [(0, zr 4 44), (5, zl a3)] i216_169 rfl ?_
          refine X.lconst (y := 0) 170 i216_169 rfl rfl rfl ?_
          exact hK562 0 (by first | trivial | omega) (Eq.trans (if_neg h558c) rfl)
        · have h558c : a1 < 0 := by omega
          clear h558 hz557
          refine X.lload_n 165 i216_164 rfl rfl rfl ?_
          refine X.lneg 166 i216_165 rfl rfl (by omega) ?_
          refine X.goto 170 i216_166 rfl rfl ?_
          refine X.cut [(0, zr 4 44), (5, zl a3)] i216_170 rfl ?_
          exact hK562 (-a1) (by first | trivial | omega) (Eq.trans (if_pos h558c) rfl)
      refine X.ifle 147 143 i216_140 rfl rfl rfl (fun h548 => ?_) (fun h548 => ?_)
      · have h548c : a1 ≤ 0 := by omega
        clear h548 hz547
        refine X.cut [(0, zr 4 44), (1, zl a1), (5, zl a3)] i216_147 rfl ?_
        refine X.lconst (y := 0) 148 i216_147 rfl rfl rfl ?_
        exact hK552 0 (by first | trivial | omega) (Eq.trans (if_pos h548c) rfl)
      · have h548c : ¬ a1 ≤ 0 := by omega
        clear h548 hz547
        refine X.lload_n 144 i216_143 rfl rfl rfl ?_
        refine X.goto 148 i216_144 rfl rfl ?_
        refine X.cut [(0, zr 4 44), (1, zl a1), (5, zl a3)] i216_148 rfl ?_
        exact hK552 a1 (by first | trivial | omega) (Eq.trans (if_neg h548c) rfl)
    refine X.ifge 61 52 i216_49 rfl rfl rfl (fun h518 => ?_) (fun h518 => ?_)
    · have h518c : ¬ a1 < 0 := by omega
      clear h518 hz517
      exact hK525 m513 (Eq.trans (if_neg h518c) rfl) (hJ514.up (by omega))
    · have h518c : a1 < 0 := by omega
      clear h518 hz517
      refine X.aload_n 53 i216_52 rfl rfl rfl ?_
      refine X.iconst 54 i216_53 rfl rfl (by decide) ?_
      refine X.iload 56 i216_54 rfl rfl rfl ?_
      refine X.lload_n 57 i216_56 rfl rfl rfl ?_
      refine X.lneg 58 i216_57 rfl rfl (by omega) ?_
      refine X.callv 61 [zi 1, zi v504, zl (-a1)] [] [(0, zr 4 44), (1, zi 1), (2, zi v504), (3, zl (-a1))] i216_58 rfl (by decide) rfl rfl (by omega) rfl rfl (by decide) rfl t220 (Nat.le_of_ble_eq_true rfl) (Nat.le_of_ble_eq_true rfl) rfl ?_
      refine c220_2 (B := B)  1 v504 (-a1) (by omega) (hJ514.up (by omega)) (by omega) (by omega) (by omega) (by omega) hf10 hg4 (fun m519 hFv521 hJ520 => ?_)
      show X (EE s) d 216 61 [(0, zr 4 44), (1, zl a1), (3, zl a2), (5, zl a3), (7, zi v504), (8, zl z506)] [] m519 _
      exact hK525 m519 (Eq.trans (if_pos h518c) (Eq.trans (zs_eq hFv521.symm) rfl)) (hJ520.up (by omega))
  refine X.ifle 46 38 i216_35 rfl rfl rfl (fun h508 => ?_) (fun h508 => ?_)
  · have h508c : a1 ≤ 0 := by omega
    clear h508 hz507
    exact hK515 m (Eq.trans (if_pos h508c) rfl) (hJ.up (by omega))
  · have h508c : ¬ a1 ≤ 0 := by omega
    clear h508 hz507
    refine X.aload_n 39 i216_38 rfl rfl rfl ?_
    refine X.iconst 40 i216_39 rfl rfl (by decide) ?_
    refine X.iload 42 i216_40 rfl rfl rfl ?_
    refine X.lload_n 43 i216_42 rfl rfl rfl ?_
    refine X.callv 46 [zi 0, zi v504, zl a1] [] [(0, zr 4 44), (1, zi 0), (2, zi v504), (3, zl a1)] i216_43 rfl (by decide) rfl rfl (by omega) rfl rfl (by decide) rfl t220 (Nat.le_of_ble_eq_true rfl) (Nat.le_of_ble_eq_true rfl) rfl ?_
    refine c220_1 (B := B)  0 v504 a1 (by omega) (hJ.up (by omega)) (by omega) (by omega) (by omega) (by omega) hf10 hg4 (fun m509 hFv511 hJ510 => ?_)
    show X (EE s) d 216 46 [(0, zr 4 44), (1, zl a1), (3, zl a2), (5, zl a3), (7, zi v504), (8, zl z506)] [] m509 _
    exact hK515 m509 (Eq.trans (if_neg h508c) (Eq.trans (zs_eq hFv511.symm) rfl)) (hJ510.up (by omega))
def fl223_17_1_b (self : Int → zM → zM) (k54 : zM → zM) (y1 y2 : Int) (y4 : Int) (m : zM) : zM :=
  if 120 ≤ y4 then
  (k54 m)
  else
  (zs (z_upd m 4 45 ((1487 + y4) - 3) (m 4 45 (1487 + y4))) fun m505 =>
  self (y4 + 1) m505)
def fl223_17_1 (k54 : zM → zM) (y1 y2 : Int) : Nat → Int → zM → zM
  | 0 => fun y4 m => m
  | n + 1 => fl223_17_1_b (fl223_17_1 k54 y1 y2 n) k54 y1 y2
theorem l223_17_1 {s : Nat × (Nat → Int32)} {S : zS} {m0 : zM} {d : Nat} {Q : Option zV → zM → Prop} {R0 : zM} {k54 : zM → zM} (y1 y2 : Int) (BE : Int) (hE : BE ≤ 1000000000) (hd : 13 ≤ d) (hy1 : 0 ≤ y1 ∧ y1 ≤ 40) (hf6 : ¬ S.1 6) (hg4 : ¬ S.2.1 4)
    (K54 : ∀ (m' : zM) (B' : Int), J S m0 B' m' → B' ≤ BE → R0 = k54 m' → X (EE s) d 223 54 [(0, zr 4 44), (1, zi y1), (2, zl y2)] [] m' Q) :
    ∀ (n : Nat) (y4 : Int) (m : zM) (B : Int), J S m0 B m → B + 0 * (n : Int) ≤ BE → (3 ≤ y4 ∧ y4 ≤ 120) → 120 - y4 < (n : Int) → R0 = fl223_17_1 k54 y1 y2 n y4 m → X (EE s) d 223 17 [(0, zr 4 44), (1, zi y1), (2, zl y2), (4, zi y4)] [] m Q := by
  intro n
  induction n with
  | zero =>
    intro y4 m B hJ hB hy4 hn hR
    exfalso
    omega
  | succ n ih =>
    intro y4 m B hJ hB hy4 hn hR
    replace hR : R0 = fl223_17_1_b (fl223_17_1 k54 y1 y2 n) k54 y1 y2 y4 m := hR
    refine X.iload 19 i223_17 rfl rfl rfl ?_
    refine X.bipush 21 i223_19 rfl rfl (by decide) ?_
    refine X.icmpge 54 24 i223_21 rfl rfl rfl (fun h504 => ?_) (fun h504 => ?_)
    · refine X.cut [(0, zr 4 44), (1, zi y1), (2, zl y2)] i223_54 rfl ?_
      exact K54  m (B) (hJ.up (by omega)) (by omega)  (Eq.trans hR (Eq.trans (if_pos h504) rfl))
    · refine X.aload_n 25 i223_24 rfl rfl rfl ?_
      refine X.getF 28 i223_25 rfl rfl (by decide) rfl rfl ?_
      refine X.sipush 31 i223_28 rfl rfl (by decide) ?_
      refine X.iload 33 i223_31 rfl rfl rfl ?_
      refine X.iadd 34 i223_33 rfl rfl (by omega) ?_
      refine X.iconst 35 i223_34 rfl rfl (by decide) ?_
      refine X.isub 36 i223_35 rfl rfl (by omega) ?_
      refine X.aload_n 37 i223_36 rfl rfl rfl ?_
      refine X.getF 40 i223_37 rfl rfl (by decide) rfl rfl ?_
      refine X.sipush 43 i223_40 rfl rfl (by decide) ?_
      refine X.iload 45 i223_43 rfl rfl rfl ?_
      refine X.iadd 46 i223_45 rfl rfl (by omega) ?_
      refine X.lald 47 i223_46 rfl rfl (by decide) rfl (by omega) ?_
      refine X.last' 48 i223_47 rfl rfl (by decide) rfl (by omega) (fun hrm505 m505 hm505 => ?_)
      have hJ506 := w45_1487 hJ hm505 (by omega) hrm505 hf6 hg4
      refine X.iinc 51 [(0, zr 4 44), (1, zi y1), (2, zl y2), (4, zi (y4 + 1))] i223_48 rfl rfl rfl (by omega) rfl ?_
      refine X.goto 17 i223_51 rfl rfl ?_
      exact ih (y4 + 1) m505 (B) (hJ506.up (by omega)) (by omega) (by omega) (by omega) (Eq.trans hR (Eq.trans (if_neg h504) (Eq.trans (zs_eq hm505) rfl)))
-- WorkMeterModel.logs
def f223_1 (a1 a2 : Int) (m : zM) : zM :=
  if (m 4 45 16) < 40 then
  (zs (z_upd m 4 45 (1487 + (3 * (m 4 45 16))) (m 4 45 0)) fun m507 =>
  zs (z_upd m507 4 45 ((1487 + (3 * (m 4 45 16))) + 1) a1) fun m509 =>
  zs (z_upd m509 4 45 ((1487 + (3 * (m 4 45 16))) + 2) a2) fun m511 =>
  zs (z_upd m511 4 45 16 ((m511 4 45 16) + 1)) fun m514 =>
  m514)
  else
  (fl223_17_1 (fun m516 =>
  zn (if (m516 4 45 16) < 40 then
  ((m516 4 45 16))
  else
  (39)) fun v523 =>
  zs (z_upd m516 4 45 (1487 + (3 * v523)) (m516 4 45 0)) fun m529 =>
  zs (z_upd m529 4 45 ((1487 + (3 * v523)) + 1) a1) fun m531 =>
  zs (z_upd m531 4 45 ((1487 + (3 * v523)) + 2) a2) fun m533 =>
  zs (z_upd m533 4 45 16 ((m533 4 45 16) + 1)) fun m536 =>
  m536) a1 a2 118 3 m)
-- WorkMeterModel.logs
theorem c223_1 {s : Nat × (Nat → Int32)} {S : zS} {m0 m : zM} {B : Int} {d : Nat} {Q : Option zV → zM → Prop} (a1 a2 : Int) (hd : 13 ≤ d) (hJ : J S m0 B m) (hB : B + 1 ≤ 1000000000) (ha1 : 0 ≤ a1 ∧ a1 ≤ 40) (hf6 : ¬ S.1 6) (hg4 : ¬ S.2.1 4) (hQ : ∀ m', f223_1 a1 a2 m = m' → J S m0 (B + 1) m' → Q none m') : X (EE s) d 223 0 [(0, zr 4 44), (1, zi a1), (2, zl a2)] [] m Q := by
  refine X.aload_n 1 i223_0 rfl rfl rfl ?_
  refine X.getF 4 i223_1 rfl rfl (by decide) rfl rfl ?_
  refine X.bipush 6 i223_4 rfl rfl (by decide) ?_
  refine X.lald 7 i223_6 rfl rfl (by decide) rfl (by omega) ?_
  have h501 := r45_16 hJ 4
  refine X.ldc2 10 i223_7 rfl rfl (by decide) ?_
  refine X.lcmp 11 i223_10 rfl rfl (fun z502 hz502 => ?_)
  refine X.iflt 54 14 i223_11 rfl rfl rfl (fun h503 => ?_) (fun h503 => ?_)
  · have h503c : (m 4 45 16) < 40 := by omega
    clear h503 hz502
    refine X.sipush 57 i223_54 rfl rfl (by decide) ?_
    refine X.iconst 58 i223_57 rfl rfl (by decide) ?_
    refine X.aload_n 59 i223_58 rfl rfl rfl ?_
    refine X.getF 62 i223_59 rfl rfl (by decide) rfl rfl ?_
    refine X.bipush 64 i223_62 rfl rfl (by decide) ?_
    refine X.lald 65 i223_64 rfl rfl (by decide) rfl (by omega) ?_
    refine X.ldc2 68 i223_65 rfl rfl (by decide) ?_
    refine X.lcmp 69 i223_68 rfl rfl (fun z504 hz504 => ?_)
    refine X.ifge 82 72 i223_69 rfl rfl rfl (fun h505 => (by exfalso; omega)) (fun h505 => ?_)
    have h505c : (m 4 45 16) < 40 := by omega
    clear h505 hz504
    refine X.aload_n 73 i223_72 rfl rfl rfl ?_
    refine X.getF 76 i223_73 rfl rfl (by decide) rfl rfl ?_
    refine X.bipush 78 i223_76 rfl rfl (by decide) ?_
    refine X.lald 79 i223_78 rfl rfl (by decide) rfl (by omega) ?_
    refine X.goto 85 i223_79 rfl rfl ?_
    refine X.l2i 86 i223_85 rfl rfl (by omega) ?_
    refine X.imul 87 i223_86 rfl rfl (by omega) ?_
    refine X.iadd 88 i223_87 rfl rfl (by omega) ?_
    refine X.istore 90 [(0, zr 4 44), (1, zi a1), (2, zl a2), (4, zi (1487 + (3 * (m 4 45 16))))] i223_88 rfl rfl rfl ?_
    refine X.aload_n 91 i223_90 rfl rfl rfl ?_
    refine X.getF 94 i223_91 rfl rfl (by decide) rfl rfl ?_
    refine X.iload 96 i223_94 rfl rfl rfl ?_
    refine X.aload_n 97 i223_96 rfl rfl rfl ?_
    refine X.getF 100 i223_97 rfl rfl (by decide) rfl rfl ?_
    refine X.iconst 101 i223_100 rfl rfl (by decide) ?_
    refine X.lald 102 i223_101 rfl rfl (by decide) rfl (by omega) ?_
    have h506 := r45_0 hJ 4
    refine X.last' 103 i223_102 rfl rfl (by decide) rfl (by omega) (fun hrm507 m507 hm507 => ?_)
    have hJ508 := w45_1487 hJ hm507 (by omega) hrm507 hf6 hg4
    refine X.aload_n 104 i223_103 rfl rfl rfl ?_
    refine X.getF 107 i223_104 rfl rfl (by decide) rfl rfl ?_
    refine X.iload 109 i223_107 rfl rfl rfl ?_
    refine X.iconst 110 i223_109 rfl rfl (by decide) ?_
    refine X.iadd 111 i223_110 rfl rfl (by omega) ?_
    refine X.iload_n 112 i223_111 rfl rfl rfl ?_
    refine X.i2l 113 i223_112 rfl rfl ?_
    refine X.last' 114 i223_113 rfl rfl (by decide) rfl (by omega) (fun hrm509 m509 hm509 => ?_)
    have hJ510 := w45_1487 hJ508 hm509 (by omega) hrm509 hf6 hg4
    refine X.aload_n 115 i223_114 rfl rfl rfl ?_
    refine X.getF 118 i223_115 rfl rfl (by decide) rfl rfl ?_
    refine X.iload 120 i223_118 rfl rfl rfl ?_
    refine X.iconst 121 i223_120 rfl rfl (by decide) ?_
    refine X.iadd 122 i223_121 rfl rfl (by omega) ?_
    refine X.lload_n 123 i223_122 rfl rfl rfl ?_
    refine X.last' 124 i223_123 rfl rfl (by decide) rfl (by omega) (fun hrm511 m511 hm511 => ?_)
    have hJ512 := w45_1487 hJ510 hm511 (by omega) hrm511 hf6 hg4
    refine X.aload_n 125 i223_124 rfl rfl rfl ?_
    refine X.getF 128 i223_125 rfl rfl (by decide) rfl rfl ?_
    refine X.bipush 130 i223_128 rfl rfl (by decide) ?_
    refine X.dup2 131 i223_130 rfl rfl ?_
    refine X.lald 132 i223_131 rfl rfl (by decide) rfl (by omega) ?_
    have h513 := r45_16 hJ512 4
    refine X.lconst (y := 1) 133 i223_132 rfl rfl rfl ?_
    refine X.ladd 134 i223_133 rfl rfl (by omega) ?_
    refine X.last' 135 i223_134 rfl rfl (by decide) rfl (by omega) (fun hrm514 m514 hm514 => ?_)
    have hJ515 := w45_16 (hJ512.up (B' := B + 1) (by omega)) hm514 (by omega) hf6 hg4
    refine X.retv i223_135 rfl t223 ?_
    exact hQ  m514  (Eq.trans (if_pos h503c) (Eq.trans (zs_eq hm507) (Eq.trans (zs_eq hm509) (Eq.trans (zs_eq hm511) (Eq.trans (zs_eq hm514) rfl))))) (hJ515.up (by omega)) 
  · have h503c : ¬ (m 4 45 16) < 40 := by omega
    clear h503 hz502
    refine X.iconst 15 i223_14 rfl rfl (by decide) ?_
    refine X.istore 17 [(0, zr 4 44), (1, zi a1), (2, zl a2), (4, zi 3)] i223_15 rfl rfl rfl ?_
    refine l223_17_1 (s := s) (d := d) (R0 := (f223_1 a1 a2 m))  a1 a2  (BE := B + 0) (by omega) (by omega) (by omega) hf6 hg4 (fun  m516 B517 hJ518 hBB517 hR519 => ?_) 118 3 m (B) (hJ.up (by omega)) (by omega) (by omega) (by omega) (Eq.trans (if_neg h503c) rfl)
    refine X.sipush 57 i223_54 rfl rfl (by decide) ?_
    refine X.iconst 58 i223_57 rfl rfl (by decide) ?_
    refine X.aload_n 59 i223_58 rfl rfl rfl ?_
    refine X.getF 62 i223_59 rfl rfl (by decide) rfl rfl ?_
    refine X.bipush 64 i223_62 rfl rfl (by decide) ?_
    refine X.lald 65 i223_64 rfl rfl (by decide) rfl (by omega) ?_
    have h520 := r45_16 hJ518 4
    refine X.ldc2 68 i223_65 rfl rfl (by decide) ?_
    refine X.lcmp 69 i223_68 rfl rfl (fun z521 hz521 => ?_)
    have hK526 : ∀ (v : Int) , (0 ≤ v ∧ v ≤ 39) → (if (m516 4 45 16) < 40 then
        ((m516 4 45 16))
        else
        (39)) = v → X (EE s) d 223 85 [(0, zr 4 44), (1, zi a1), (2, zl a2)] [zl v, zi 3, zi 1487] m516 Q := by
      intro v523 hv523 hT527
      refine X.l2i 86 i223_85 rfl rfl (by omega) ?_
      refine X.imul 87 i223_86 rfl rfl (by omega) ?_
      refine X.iadd 88 i223_87 rfl rfl (by omega) ?_
      refine X.istore 90 [(0, zr 4 44), (1, zi a1), (2, zl a2), (4, zi (1487 + (3 * v523)))] i223_88 rfl rfl rfl ?_
      refine X.aload_n 91 i223_90 rfl rfl rfl ?_
      refine X.getF 94 i223_91 rfl rfl (by decide) rfl rfl ?_
      refine X.iload 96 i223_94 rfl rfl rfl ?_
      refine X.aload_n 97 i223_96 rfl rfl rfl ?_
      refine X.getF 100 i223_97 rfl rfl (by decide) rfl rfl ?_
      refine X.iconst 101 i223_100 rfl rfl (by decide) ?_
      refine X.lald 102 i223_101 rfl rfl (by decide) rfl (by omega) ?_
      have h528 := r45_0 hJ518 4
      refine X.last' 103 i223_102 rfl rfl (by decide) rfl (by omega) (fun hrm529 m529 hm529 => ?_)
      have hJ530 := w45_1487 hJ518 hm529 (by omega) hrm529 hf6 hg4
      refine X.aload_n 104 i223_103 rfl rfl rfl ?_
      refine X.getF 107 i223_104 rfl rfl (by decide) rfl rfl ?_
      refine X.iload 109 i223_107 rfl rfl rfl ?_
      refine X.iconst 110 i223_109 rfl rfl (by decide) ?_
      refine X.iadd 111 i223_110 rfl rfl (by omega) ?_
      refine X.iload_n 112 i223_111 rfl rfl rfl ?_
      refine X.i2l 113 i223_112 rfl rfl ?_
      refine X.last' 114 i223_113 rfl rfl (by decide) rfl (by omega) (fun hrm531 m531 hm531 => ?_)
      have hJ532 := w45_1487 hJ530 hm531 (by omega) hrm531 hf6 hg4
      refine X.aload_n 115 i223_114 rfl rfl rfl ?_
      refine X.getF 118 i223_115 rfl rfl (by decide) rfl rfl ?_
      refine X.iload 120 i223_118 rfl rfl rfl ?_
      refine X.iconst 121 i223_120 rfl rfl (by decide) ?_
      refine X.iadd 122 i223_121 rfl rfl (by omega) ?_
      refine X.lload_n 123 i223_122 rfl rfl rfl ?_
      refine X.last' 124 i223_123 rfl rfl (by decide) rfl (by omega) (fun hrm533 m533 hm533 => ?_)
      have hJ534 := w45_1487 hJ532 hm533 (by omega) hrm533 hf6 hg4
      refine X.aload_n 125 i223_124 rfl rfl rfl ?_
      refine X.getF 128 i223_125 rfl rfl (by decide) rfl rfl ?_
      refine X.bipush 130 i223_128 rfl rfl (by decide) ?_
      refine X.dup2 131 i223_130 rfl rfl ?_
      refine X.lald 132 i223_131 rfl rfl (by decide) rfl (by omega) ?_
      have h535 := r45_16 hJ534 4
      refine X.lconst (y := 1) 133 i223_132 rfl rfl rfl ?_
      refine X.ladd 134 i223_133 rfl rfl (by omega) ?_
      refine X.last' 135 i223_134 rfl rfl (by decide) rfl (by omega) (fun hrm536 m536 hm536 => ?_)
      have hJ537 := w45_16 (hJ534.up (B' := B517 + 1) (by omega)) hm536 (by omega) hf6 hg4
      refine X.retv i223_135 rfl t223 ?_
      exact hQ  m536  (Eq.trans hR519 (Eq.trans (zn_eq hT527.symm) (Eq.trans (zs_eq hm529) (Eq.trans (zs_eq hm531) (Eq.trans (zs_eq hm533) (Eq.trans (zs_eq hm536) rfl)))))) (hJ537.up (by omega)) 
    refine X.ifge 82 72 i223_69 rfl rfl rfl (fun h522 => ?_) (fun h522 => ?_)
    · have h522c : ¬ (m516 4 45 16) < 40 := by omega
      clear h522 hz521
      refine X.ldc2 85 i223_82 rfl rfl (by decide) ?_
      exact hK526 39 (by first | trivial | omega) (Eq.trans (if_neg h522c) rfl)
    · have h522c : (m516 4 45 16) < 40 := by omega
      clear h522 hz521
      refine X.aload_n 73 i223_72 rfl rfl rfl ?_
      refine X.getF 76 i223_73 rfl rfl (by decide) rfl rfl ?_
      refine X.bipush 78 i223_76 rfl rfl (by decide) ?_
      refine X.lald 79 i223_78 rfl rfl (by decide) rfl (by omega) ?_
      refine X.goto 85 i223_79 rfl rfl ?_
      exact hK526 (m516 4 45 16) (by first | trivial | omega) (Eq.trans (if_pos h522c) rfl)
-- WorkMeterModel.switches
def f222_1 (m : zM) : zM :=
  zn (if (m 4 45 11) = 1 then
  (if (m 4 45 10) ≤ 0 then
  (1)
  else
  (0))
  else
  (0)) fun v506 =>
  if (m 4 45 12) = v506 then
  (m)
  else
  (zs (z_upd m 4 45 12 v506) fun m514 =>
  zn (if v506 = 1 then
  (22)
  else
  (23)) fun v517 =>
  zs (f223_1 v517 0 m514) fun m522 =>
  m522)
-- WorkMeterModel.switches
theorem c222_1 {s : Nat × (Nat → Int32)} {S : zS} {m0 m : zM} {B : Int} {d : Nat} {Q : Option zV → zM → Prop} (hd : 14 ≤ d) (hJ : J S m0 B m) (hB : B + 1 ≤ 1000000000) (hf6 : ¬ S.1 6) (hf12 : ¬ S.1 12) (hg4 : ¬ S.2.1 4) (hQ : ∀ m', f222_1 m = m' → J S m0 (B + 1) m' → Q none m') : X (EE s) d 222 0 [(0, zr 4 44)] [] m Q := by
  refine X.aload_n 1 i222_0 rfl rfl rfl ?_
  refine X.getF 4 i222_1 rfl rfl (by decide) rfl rfl ?_
  refine X.bipush 6 i222_4 rfl rfl (by decide) ?_
  refine X.lald 7 i222_6 rfl rfl (by decide) rfl (by omega) ?_
  have h501 := r45_11 hJ 4
  refine X.lconst (y := 1) 8 i222_7 rfl rfl rfl ?_
  refine X.lcmp 9 i222_8 rfl rfl (fun z502 hz502 => ?_)
  have hK509 : ∀ (v : Int) , (0 ≤ v ∧ v ≤ 1) → (if (m 4 45 11) = 1 then
      (if (m 4 45 10) ≤ 0 then
      (1)
      else
      (0))
      else
      (0)) = v → X (EE s) d 222 29 [(0, zr 4 44)] [zi v] m Q := by
    intro v506 hv506 hT510
    refine X.istore_n 30 [(0, zr 4 44), (1, zi v506)] i222_29 rfl rfl rfl ?_
    refine X.aload_n 31 i222_30 rfl rfl rfl ?_
    refine X.getF 34 i222_31 rfl rfl (by decide) rfl rfl ?_
    refine X.bipush 36 i222_34 rfl rfl (by decide) ?_
    refine X.lald 37 i222_36 rfl rfl (by decide) rfl (by omega) ?_
    have h511 := r45_12 hJ 4
    refine X.iload_n 38 i222_37 rfl rfl rfl ?_
    refine X.i2l 39 i222_38 rfl rfl ?_
    refine X.lcmp 40 i222_39 rfl rfl (fun z512 hz512 => ?_)
    refine X.ifne 44 43 i222_40 rfl rfl rfl (fun h513 => ?_) (fun h513 => ?_)
    · have h513c : ¬ (m 4 45 12) = v506 := by omega
      clear h513 hz512
      refine X.aload_n 45 i222_44 rfl rfl rfl ?_
      refine X.getF 48 i222_45 rfl rfl (by decide) rfl rfl ?_
      refine X.bipush 50 i222_48 rfl rfl (by decide) ?_
      refine X.iload_n 51 i222_50 rfl rfl rfl ?_
      refine X.i2l 52 i222_51 rfl rfl ?_
      refine X.last' 53 i222_52 rfl rfl (by decide) rfl (by omega) (fun hrm514 m514 hm514 => ?_)
      have hJ515 := w45_12 hJ hm514 (by omega) hf12 hg4
      refine X.aload_n 54 i222_53 rfl rfl rfl ?_
      refine X.iload_n 55 i222_54 rfl rfl rfl ?_
      refine X.iconst 56 i222_55 rfl rfl (by decide) ?_
      have hK520 : ∀ (v : Int) , (22 ≤ v ∧ v ≤ 23) → (if v506 = 1 then
          (22)
          else
          (23)) = v → X (EE s) d 222 66 [] [zi v, zr 4 44] m514 Q := by
        intro v517 hv517 hT521
        refine X.lconst (y := 0) 67 i222_66 rfl rfl rfl ?_
        refine X.callv 70 [zi v517, zl 0] [] [(0, zr 4 44), (1, zi v517), (2, zl 0)] i222_67 rfl (by decide) rfl rfl (by omega) rfl rfl (by decide) rfl t223 (Nat.le_of_ble_eq_true rfl) (Nat.le_of_ble_eq_true rfl) rfl ?_
        refine c223_1 (B := B)  v517 0 (by omega) (hJ515.up (by omega)) (by omega) (by omega) hf6 hg4 (fun m522 hFv524 hJ523 => ?_)
        show X (EE s) d 222 70 [] [] m522 _
        refine X.retv i222_70 rfl t222 ?_
        exact hQ  m522  (Eq.trans (zn_eq hT510.symm) (Eq.trans (if_neg h513c) (Eq.trans (zs_eq hm514) (Eq.trans (zn_eq hT521.symm) (Eq.trans (zs_eq hFv524.symm) rfl))))) (hJ523.up (by omega)) 
      refine X.icmpne 64 59 i222_56 rfl rfl rfl (fun h516 => ?_) (fun h516 => ?_)
      · refine X.cut [] i222_64 rfl ?_
        refine X.bipush 66 i222_64 rfl rfl (by decide) ?_
        exact hK520 23 (by first | trivial | omega) (Eq.trans (if_neg h516) rfl)
      · refine X.bipush 61 i222_59 rfl rfl (by decide) ?_
        refine X.goto 66 i222_61 rfl rfl ?_
        refine X.cut [] i222_66 rfl ?_
        exact hK520 22 (by first | trivial | omega) (Eq.trans (if_pos h516) rfl)
    · have h513c : (m 4 45 12) = v506 := by omega
      clear h513 hz512
      refine X.retv i222_43 rfl t222 ?_
      exact hQ  m  (Eq.trans (zn_eq hT510.symm) (Eq.trans (if_pos h513c) rfl)) (hJ.up (by omega)) 
  refine X.ifne 28 12 i222_9 rfl rfl rfl (fun h503 => ?_) (fun h503 => ?_)
  · have h503c : ¬ (m 4 45 11) = 1 := by omega
    clear h503 hz502
    refine X.iconst 29 i222_28 rfl rfl (by decide) ?_
    exact hK509 0 (by first | trivial | omega) (Eq.trans (if_neg h503c) rfl)
  · have h503c : (m 4 45 11) = 1 := by omega
    clear h503 hz502
    refine X.aload_n 13 i222_12 rfl rfl rfl ?_
    refine X.getF 16 i222_13 rfl rfl (by decide) rfl rfl ?_
    refine X.bipush 18 i222_16 rfl rfl (by decide) ?_
    refine X.lald 19 i222_18 rfl rfl (by decide) rfl (by omega) ?_
    refine X.lconst (y := 0) 20 i222_19 rfl rfl rfl ?_
    refine X.lcmp 21 i222_20 rfl rfl (fun z504 hz504 => ?_)
    refine X.ifgt 28 24 i222_21 rfl rfl rfl (fun h505 => ?_) (fun h505 => ?_)
    · have h505c : ¬ (m 4 45 10) ≤ 0 := by omega
      clear h505 hz504
      refine X.iconst 29 i222_28 rfl rfl (by decide) ?_
      exact hK509 0 (by first | trivial | omega) (Eq.trans (if_pos h503c) (Eq.trans (if_neg h505c) rfl))
    · have h505c : (m 4 45 10) ≤ 0 := by omega
      clear h505 hz504
      refine X.iconst 25 i222_24 rfl rfl (by decide) ?_
      refine X.goto 29 i222_25 rfl rfl ?_
      exact hK509 1 (by first | trivial | omega) (Eq.trans (if_pos h503c) (Eq.trans (if_pos h505c) rfl))
def fl227_2_1_b (self : Int → Int) (k35 : Int → Int) (k43 : Int) (m : zM) (y1 : Int) : Int :=
  if (m 4 45 1) ≤ y1 then
  (k43)
  else
  (zn (f213_1 143 y1 m) fun v518 =>
  if v518 ≤ 0 then
  (self (y1 + 1))
  else
  (zn (f213_1 95 y1 m) fun v523 =>
  if v523 = 0 then
  (k35 y1)
  else
  (self (y1 + 1))))
def fl227_2_1 (k35 : Int → Int) (k43 : Int) (m : zM) : Nat → Int → Int
  | 0 => fun y1 => 0
  | n + 1 => fl227_2_1_b (fl227_2_1 k35 k43 m n) k35 k43 m
theorem l227_2_1 {s : Nat × (Nat → Int32)} {S : zS} {m0 : zM} {m : zM} {B : Int} {d : Nat} {Q : Option zV → zM → Prop} {R0 : Int} {k35 : Int → Int} {k43 : Int} (hd : 14 ≤ d) (hJ : J S m0 B m) (hB9 : B ≤ 1000000000)
    (K35 : ∀ (x1 : Int) , (0 ≤ x1 ∧ x1 ≤ 2) → R0 = k35 x1 → X (EE s) d 227 35 [(0, zr 4 44), (1, zi x1)] [] m Q)
    (K43 : R0 = k43 → X (EE s) d 227 43 [] [] m Q) :
    ∀ (n : Nat) (y1 : Int) , (0 ≤ y1 ∧ y1 ≤ 3) → 3 - y1 < (n : Int) → R0 = fl227_2_1 k35 k43 m n y1 → X (EE s) d 227 2 [(0, zr 4 44), (1, zi y1)] [] m Q := by
  intro n
  induction n with
  | zero =>
    intro y1 hy1 hn hR
    exfalso
    omega
  | succ n ih =>
    intro y1 hy1 hn hR
    replace hR : R0 = fl227_2_1_b (fl227_2_1 k35 k43 m n) k35 k43 m y1 := hR
    refine X.iload_n 3 i227_2 rfl rfl rfl ?_
    refine X.aload_n 4 i227_3 rfl rfl rfl ?_
    refine X.callv 7 [] [zi y1] [(0, zr 4 44)] i227_4 rfl (by decide) rfl rfl (by omega) rfl rfl (by decide) rfl t206 (Nat.le_of_ble_eq_true rfl) (Nat.le_of_ble_eq_true rfl) rfl ?_
    refine X.aload_n 1 i206_0 rfl rfl rfl ?_
    refine X.getF 4 i206_1 rfl rfl (by decide) rfl rfl ?_
    refine X.iconst 5 i206_4 rfl rfl (by decide) ?_
    refine X.lald 6 i206_5 rfl rfl (by decide) rfl (by omega) ?_
    have h514 := r45_1 hJ 4
    refine X.l2i 7 i206_6 rfl rfl (by omega) ?_
    refine X.reti i206_7 rfl t206 ?_
    show X (EE s) d 227 7 [(0, zr 4 44), (1, zi y1)] [zi (m 4 45 1), zi y1] m _
    refine X.icmpge 43 10 i227_7 rfl rfl rfl (fun h515 => ?_) (fun h515 => ?_)
    · refine X.cut [] i227_43 rfl ?_
      exact K43   (Eq.trans hR (Eq.trans (if_pos h515) rfl))
    · refine X.aload_n 11 i227_10 rfl rfl rfl ?_
      refine X.sipush 14 i227_11 rfl rfl (by decide) ?_
      refine X.iload_n 15 i227_14 rfl rfl rfl ?_
      refine X.callv 18 [zi 143, zi y1] [] [(0, zr 4 44), (1, zi 143), (2, zi y1)] i227_15 rfl (by decide) rfl rfl (by omega) rfl rfl (by decide) rfl t213 (Nat.le_of_ble_eq_true rfl) (Nat.le_of_ble_eq_true rfl) rfl ?_
      refine c213_1 (B := B)  143 y1 (by omega) (hJ.up (by omega)) (by omega) (by omega) (by omega) (fun v518 hv518 hFv518 => ?_)
      show X (EE s) d 227 18 [(0, zr 4 44), (1, zi y1)] [zl v518] m _
      refine X.lconst (y := 0) 19 i227_18 rfl rfl rfl ?_
      refine X.lcmp 20 i227_19 rfl rfl (fun z519 hz519 => ?_)
      refine X.ifle 37 23 i227_20 rfl rfl rfl (fun h520 => ?_) (fun h520 => ?_)
      · have h520c : v518 ≤ 0 := by omega
        clear h520 hz519
        refine X.iinc 40 [(0, zr 4 44), (1, zi (y1 + 1))] i227_37 rfl rfl rfl (by omega) rfl ?_
        refine X.goto 2 i227_40 rfl rfl ?_
        exact ih (y1 + 1) (by omega) (by omega) (Eq.trans hR (Eq.trans (if_neg h515) (Eq.trans (zn_eq hFv518.symm) (Eq.trans (if_pos h520c) rfl))))
      · have h520c : ¬ v518 ≤ 0 := by omega
        clear h520 hz519
        refine X.aload_n 24 i227_23 rfl rfl rfl ?_
        refine X.bipush 26 i227_24 rfl rfl (by decide) ?_
        refine X.iload_n 27 i227_26 rfl rfl rfl ?_
        refine X.callv 30 [zi 95, zi y1] [] [(0, zr 4 44), (1, zi 95), (2, zi y1)] i227_27 rfl (by decide) rfl rfl (by omega) rfl rfl (by decide) rfl t213 (Nat.le_of_ble_eq_true rfl) (Nat.le_of_ble_eq_true rfl) rfl ?_
        refine c213_1 (B := B)  95 y1 (by omega) (hJ.up (by omega)) (by omega) (by omega) (by omega) (fun v523 hv523 hFv523 => ?_)
        show X (EE s) d 227 30 [(0, zr 4 44), (1, zi y1)] [zl v523] m _
        refine X.lconst (y := 0) 31 i227_30 rfl rfl rfl ?_
        refine X.lcmp 32 i227_31 rfl rfl (fun z524 hz524 => ?_)
        refine X.ifne 37 35 i227_32 rfl rfl rfl (fun h525 => ?_) (fun h525 => ?_)
        · have h525c : ¬ v523 = 0 := by omega
          clear h525 hz524
          refine X.iinc 40 [(0, zr 4 44), (1, zi (y1 + 1))] i227_37 rfl rfl rfl (by omega) rfl ?_
          refine X.goto 2 i227_40 rfl rfl ?_
          exact ih (y1 + 1) (by omega) (by omega) (Eq.trans hR (Eq.trans (if_neg h515) (Eq.trans (zn_eq hFv518.symm) (Eq.trans (if_neg h520c) (Eq.trans (zn_eq hFv523.symm) (Eq.trans (if_neg h525c) rfl))))))
        · have h525c : v523 = 0 := by omega
          clear h525 hz524
          exact K35 y1 (by first | trivial | omega) (Eq.trans hR (Eq.trans (if_neg h515) (Eq.trans (zn_eq hFv518.symm) (Eq.trans (if_neg h520c) (Eq.trans (zn_eq hFv523.symm) (Eq.trans (if_pos h525c) rfl))))))
-- WorkMeterModel.isStrange
def f227_1 (m : zM) : Int :=
  fl227_2_1 (fun y501 =>
  1) (0) m 4 0
-- WorkMeterModel.isStrange
theorem c227_1 {s : Nat × (Nat → Int32)} {S : zS} {m0 m : zM} {B : Int} {d : Nat} {Q : Option zV → zM → Prop} (hd : 14 ≤ d) (hJ : J S m0 B m) (hB : B + 0 ≤ 1000000000) (hQ : ∀ (v : Int), (0 ≤ v ∧ v ≤ 1) → f227_1 m = v → Q (some (zi v)) m) : X (EE s) d 227 0 [(0, zr 4 44)] [] m Q := by
  refine X.iconst 1 i227_0 rfl rfl (by decide) ?_
  refine X.istore_n 2 [(0, zr 4 44), (1, zi 0)] i227_1 rfl rfl rfl ?_
  refine l227_2_1 (s := s) (m := m) (B := B) (d := d) (R0 := (f227_1 m))    (by omega) (hJ.up (by omega)) (by omega) (fun y501 hby501 hR505 => ?_) (fun  hR509 => ?_) 4 0 (by omega) (by omega) rfl
  · refine X.iconst 36 i227_35 rfl rfl (by decide) ?_
    refine X.retz i227_36 rfl t227 (by omega) ?_
    exact hQ 1 (by first | trivial | omega) (Eq.trans hR505 rfl) 
  · refine X.iconst 44 i227_43 rfl rfl (by decide) ?_
    refine X.retz i227_44 rfl t227 (by omega) ?_
    exact hQ 0 (by first | trivial | omega) (Eq.trans hR509 rfl) 
def fl226_6_1_b (self : Int → Int → Int → Int) (k60 : Int → Int → Int) (m : zM) (y1 y2 y3 : Int) : Int :=
  if (m 4 45 1) ≤ y3 then
  (k60 y1 y2)
  else
  (zn (if y1 = 0 then
  (zn (f210_1 y3 m) fun v555 =>
  if v555 < 0 then
  (1)
  else
  (0))
  else
  (1)) fun v558 =>
  zn (if y2 = 0 then
  (zn (f210_1 y3 m) fun v566 =>
  if v566 ≤ 0 then
  (0)
  else
  (1))
  else
  (1)) fun v569 =>
  self v558 v569 (y3 + 1))
def fl226_6_1 (k60 : Int → Int → Int) (m : zM) : Nat → Int → Int → Int → Int
  | 0 => fun y1 y2 y3 => 0
  | n + 1 => fl226_6_1_b (fl226_6_1 k60 m n) k60 m
theorem l226_6_1 {s : Nat × (Nat → Int32)} {S : zS} {m0 : zM} {m : zM} {B : Int} {d : Nat} {Q : Option zV → zM → Prop} {R0 : Int} {k60 : Int → Int → Int} (hd : 14 ≤ d) (hJ : J S m0 B m) (hB9 : B ≤ 1000000000)
    (K60 : ∀ (x1 x2 : Int) , (0 ≤ x1 ∧ x1 ≤ 1) → (0 ≤ x2 ∧ x2 ≤ 1) → R0 = k60 x1 x2 → X (EE s) d 226 60 [(1, zi x1), (2, zi x2)] [] m Q) :
    ∀ (n : Nat) (y1 y2 y3 : Int) , (0 ≤ y1 ∧ y1 ≤ 1) → (0 ≤ y2 ∧ y2 ≤ 1) → (0 ≤ y3 ∧ y3 ≤ 3) → 3 - y3 < (n : Int) → R0 = fl226_6_1 k60 m n y1 y2 y3 → X (EE s) d 226 6 [(0, zr 4 44), (1, zi y1), (2, zi y2), (3, zi y3)] [] m Q := by
  intro n
  induction n with
  | zero =>
    intro y1 y2 y3 hy1 hy2 hy3 hn hR
    exfalso
    omega
  | succ n ih =>
    intro y1 y2 y3 hy1 hy2 hy3 hn hR
    replace hR : R0 = fl226_6_1_b (fl226_6_1 k60 m n) k60 m y1 y2 y3 := hR
    refine X.iload_n 7 i226_6 rfl rfl rfl ?_
    refine X.aload_n 8 i226_7 rfl rfl rfl ?_
    refine X.callv 11 [] [zi y3] [(0, zr 4 44)] i226_8 rfl (by decide) rfl rfl (by omega) rfl rfl (by decide) rfl t206 (Nat.le_of_ble_eq_true rfl) (Nat.le_of_ble_eq_true rfl) rfl ?_
    refine X.aload_n 1 i206_0 rfl rfl rfl ?_
    refine X.getF 4 i206_1 rfl rfl (by decide) rfl rfl ?_
    refine X.iconst 5 i206_4 rfl rfl (by decide) ?_
    refine X.lald 6 i206_5 rfl rfl (by decide) rfl (by omega) ?_
    have h550 := r45_1 hJ 4
    refine X.l2i 7 i206_6 rfl rfl (by omega) ?_
    refine X.reti i206_7 rfl t206 ?_
    show X (EE s) d 226 11 [(0, zr 4 44), (1, zi y1), (2, zi y2), (3, zi y3)] [zi (m 4 45 1), zi y3] m _
    refine X.icmpge 60 14 i226_11 rfl rfl rfl (fun h551 => ?_) (fun h551 => ?_)
    · refine X.cut [(1, zi y1), (2, zi y2)] i226_60 rfl ?_
      exact K60 y1 y2 (by first | trivial | omega) (by first | trivial | omega) (Eq.trans hR (Eq.trans (if_pos h551) rfl))
    · refine X.iload_n 15 i226_14 rfl rfl rfl ?_
      have hK561 : ∀ (v : Int) , (0 ≤ v ∧ v ≤ 1) → (if y1 = 0 then
          (zn (f210_1 y3 m) fun v555 =>
          if v555 < 0 then
          (1)
          else
          (0))
          else
          (1)) = v → X (EE s) d 226 33 [(0, zr 4 44), (2, zi y2), (3, zi y3)] [zi v] m Q := by
        intro v558 hv558 hT562
        refine X.istore_n 34 [(0, zr 4 44), (1, zi v558), (2, zi y2), (3, zi y3)] i226_33 rfl rfl rfl ?_
        refine X.iload_n 35 i226_34 rfl rfl rfl ?_
        have hK572 : ∀ (v : Int) , (0 ≤ v ∧ v ≤ 1) → (if y2 = 0 then
            (zn (f210_1 y3 m) fun v566 =>
            if v566 ≤ 0 then
            (0)
            else
            (1))
            else
            (1)) = v → X (EE s) d 226 53 [(0, zr 4 44), (1, zi v558), (3, zi y3)] [zi v] m Q := by
          intro v569 hv569 hT573
          refine X.istore_n 54 [(0, zr 4 44), (1, zi v558), (2, zi v569), (3, zi y3)] i226_53 rfl rfl rfl ?_
          refine X.iinc 57 [(0, zr 4 44), (1, zi v558), (2, zi v569), (3, zi (y3 + 1))] i226_54 rfl rfl rfl (by omega) rfl ?_
          refine X.goto 6 i226_57 rfl rfl ?_
          exact ih v558 v569 (y3 + 1) (by omega) (by omega) (by omega) (by omega) (Eq.trans hR (Eq.trans (if_neg h551) (Eq.trans (zn_eq hT562.symm) (Eq.trans (zn_eq hT573.symm) rfl))))
        refine X.ifne 48 38 i226_35 rfl rfl rfl (fun h563 => ?_) (fun h563 => ?_)
        · refine X.cut [(0, zr 4 44), (1, zi v558), (3, zi y3)] i226_48 rfl ?_
          refine X.iconst 49 i226_48 rfl rfl (by decide) ?_
          refine X.goto 53 i226_49 rfl rfl ?_
          exact hK572 1 (by first | trivial | omega) (Eq.trans (if_neg h563) rfl)
        · refine X.aload_n 39 i226_38 rfl rfl rfl ?_
          refine X.iload_n 40 i226_39 rfl rfl rfl ?_
          refine X.callv 43 [zi y3] [] [(0, zr 4 44), (1, zi y3)] i226_40 rfl (by decide) rfl rfl (by omega) rfl rfl (by decide) rfl t210 (Nat.le_of_ble_eq_true rfl) (Nat.le_of_ble_eq_true rfl) rfl ?_
          refine c210_1 (B := B)  y3 (by omega) (hJ.up (by omega)) (by omega) (by omega) (fun v566 hv566 hFv566 => ?_)
          show X (EE s) d 226 43 [(0, zr 4 44), (1, zi v558), (2, zi y2), (3, zi y3)] [zl v566] m _
          refine X.lconst (y := 0) 44 i226_43 rfl rfl rfl ?_
          refine X.lcmp 45 i226_44 rfl rfl (fun z567 hz567 => ?_)
          refine X.ifle 52 48 i226_45 rfl rfl rfl (fun h568 => ?_) (fun h568 => ?_)
          · have h568c : v566 ≤ 0 := by omega
            clear h568 hz567
            refine X.cut [(0, zr 4 44), (1, zi v558), (3, zi y3)] i226_52 rfl ?_
            refine X.iconst 53 i226_52 rfl rfl (by decide) ?_
            exact hK572 0 (by first | trivial | omega) (Eq.trans (if_pos h563) (Eq.trans (zn_eq hFv566.symm) (Eq.trans (if_pos h568c) rfl)))
          · have h568c : ¬ v566 ≤ 0 := by omega
            clear h568 hz567
            refine X.cut [(0, zr 4 44), (1, zi v558), (3, zi y3)] i226_48 rfl ?_
            refine X.iconst 49 i226_48 rfl rfl (by decide) ?_
            refine X.goto 53 i226_49 rfl rfl ?_
            exact hK572 1 (by first | trivial | omega) (Eq.trans (if_pos h563) (Eq.trans (zn_eq hFv566.symm) (Eq.trans (if_neg h568c) rfl)))
      refine X.ifne 28 18 i226_15 rfl rfl rfl (fun h552 => ?_) (fun h552 => ?_)
      · refine X.cut [(0, zr 4 44), (2, zi y2), (3, zi y3)] i226_28 rfl ?_
        refine X.iconst 29 i226_28 rfl rfl (by decide) ?_
        refine X.goto 33 i226_29 rfl rfl ?_
        exact hK561 1 (by first | trivial | omega) (Eq.trans (if_neg h552) rfl)
      · refine X.aload_n 19 i226_18 rfl rfl rfl ?_
        refine X.iload_n 20 i226_19 rfl rfl rfl ?_
        refine X.callv 23 [zi y3] [] [(0, zr 4 44), (1, zi y3)] i226_20 rfl (by decide) rfl rfl (by omega) rfl rfl (by decide) rfl t210 (Nat.le_of_ble_eq_true rfl) (Nat.le_of_ble_eq_true rfl) rfl ?_
        refine c210_1 (B := B)  y3 (by omega) (hJ.up (by omega)) (by omega) (by omega) (fun v555 hv555 hFv555 => ?_)
        show X (EE s) d 226 23 [(0, zr 4 44), (1, zi y1), (2, zi y2), (3, zi y3)] [zl v555] m _
        refine X.lconst (y := 0) 24 i226_23 rfl rfl rfl ?_
        refine X.lcmp 25 i226_24 rfl rfl (fun z556 hz556 => ?_)
        refine X.ifge 32 28 i226_25 rfl rfl rfl (fun h557 => ?_) (fun h557 => ?_)
        · have h557c : ¬ v555 < 0 := by omega
          clear h557 hz556
          refine X.cut [(0, zr 4 44), (2, zi y2), (3, zi y3)] i226_32 rfl ?_
          refine X.iconst 33 i226_32 rfl rfl (by decide) ?_
          exact hK561 0 (by first | trivial | omega) (Eq.trans (if_pos h552) (Eq.trans (zn_eq hFv555.symm) (Eq.trans (if_neg h557c) rfl)))
        · have h557c : v555 < 0 := by omega
          clear h557 hz556
          refine X.cut [(0, zr 4 44), (2, zi y2), (3, zi y3)] i226_28 rfl ?_
          refine X.iconst 29 i226_28 rfl rfl (by decide) ?_
          refine X.goto 33 i226_29 rfl rfl ?_
          exact hK561 1 (by first | trivial | omega) (Eq.trans (if_pos h552) (Eq.trans (zn_eq hFv555.symm) (Eq.trans (if_pos h557c) rfl)))
-- WorkMeterModel.isReversed
def f226_1 (m : zM) : Int :=
  fl226_6_1 (fun y501 y502 =>
  zn (if y501 = 0 then
  (0)
  else
  (if y502 = 0 then
  (0)
  else
  (1))) fun v509 =>
  v509) m 4 0 0 0
-- WorkMeterModel.isReversed
theorem c226_1 {s : Nat × (Nat → Int32)} {S : zS} {m0 m : zM} {B : Int} {d : Nat} {Q : Option zV → zM → Prop} (hd : 14 ≤ d) (hJ : J S m0 B m) (hB : B + 0 ≤ 1000000000) (hQ : ∀ (v : Int), (0 ≤ v ∧ v ≤ 1) → f226_1 m = v → Q (some (zi v)) m) : X (EE s) d 226 0 [(0, zr 4 44)] [] m Q := by
  refine X.iconst 1 i226_0 rfl rfl (by decide) ?_
  refine X.istore_n 2 [(0, zr 4 44), (1, zi 0)] i226_1 rfl rfl rfl ?_
  refine X.iconst 3 i226_2 rfl rfl (by decide) ?_
  refine X.istore_n 4 [(0, zr 4 44), (1, zi 0), (2, zi 0)] i226_3 rfl rfl rfl ?_
  refine X.iconst 5 i226_4 rfl rfl (by decide) ?_
  refine X.istore_n 6 [(0, zr 4 44), (1, zi 0), (2, zi 0), (3, zi 0)] i226_5 rfl rfl rfl ?_
  refine l226_6_1 (s := s) (m := m) (B := B) (d := d) (R0 := (f226_1 m))    (by omega) (hJ.up (by omega)) (by omega) (fun y501 y502 hby501 hby502 hR506 => ?_) 4 0 0 0 (by omega) (by omega) (by omega) (by omega) rfl
  refine X.iload_n 61 i226_60 rfl rfl rfl ?_
  have hK512 : ∀ (v : Int) , (0 ≤ v ∧ v ≤ 1) → (if y501 = 0 then
      (0)
      else
      (if y502 = 0 then
      (0)
      else
      (1))) = v → X (EE s) d 226 73 [] [zi v] m Q := by
    intro v509 hv509 hT513
    refine X.retz i226_73 rfl t226 (by omega) ?_
    exact hQ v509 (by first | trivial | omega) (Eq.trans hR506 (Eq.trans (zn_eq hT513.symm) rfl)) 
  refine X.ifeq 72 64 i226_61 rfl rfl rfl (fun h507 => ?_) (fun h507 => ?_)
  · refine X.cut [] i226_72 rfl ?_
    refine X.iconst 73 i226_72 rfl rfl (by decide) ?_
    exact hK512 0 (by first | trivial | omega) (Eq.trans (if_pos h507) rfl)
  · refine X.iload_n 65 i226_64 rfl rfl rfl ?_
    refine X.ifeq 72 68 i226_65 rfl rfl rfl (fun h508 => ?_) (fun h508 => ?_)
    · refine X.cut [] i226_72 rfl ?_
      refine X.iconst 73 i226_72 rfl rfl (by decide) ?_
      exact hK512 0 (by first | trivial | omega) (Eq.trans (if_neg h507) (Eq.trans (if_pos h508) rfl))
    · refine X.iconst 69 i226_68 rfl rfl (by decide) ?_
      refine X.goto 73 i226_69 rfl rfl ?_
      refine X.cut [] i226_73 rfl ?_
      exact hK512 1 (by first | trivial | omega) (Eq.trans (if_neg h507) (Eq.trans (if_neg h508) rfl))
def fl225_6_1_b (self : Int → Int → Int → Int) (k82 : Int → Int → Int) (m : zM) (y1 y2 y3 : Int) : Int :=
  if (m 4 45 1) ≤ y3 then
  (k82 y1 y2)
  else
  (zn (f213_1 95 y3 m) fun v564 =>
  zn (((m 4 45 2) * (m 4 45 6))) fun z567 =>
  zn (if v564 < z567 then
  (1)
  else
  (0)) fun v570 =>
  zn (if y1 = 0 then
  (if v570 = 0 then
  (0)
  else
  (1))
  else
  (1)) fun v577 =>
  zn (if y2 = 0 then
  (if v570 = 0 then
  (1)
  else
  (0))
  else
  (1)) fun v584 =>
  self v577 v584 (y3 + 1))
def fl225_6_1 (k82 : Int → Int → Int) (m : zM) : Nat → Int → Int → Int → Int
  | 0 => fun y1 y2 y3 => 0
  | n + 1 => fl225_6_1_b (fl225_6_1 k82 m n) k82 m
theorem l225_6_1 {s : Nat × (Nat → Int32)} {S : zS} {m0 : zM} {m : zM} {B : Int} {d : Nat} {Q : Option zV → zM → Prop} {R0 : Int} {k82 : Int → Int → Int} (hd : 14 ≤ d) (hJ : J S m0 B m) (hB9 : B ≤ 1000000000)
    (K82 : ∀ (x1 x2 : Int) , (0 ≤ x1 ∧ x1 ≤ 1) → (0 ≤ x2 ∧ x2 ≤ 1) → R0 = k82 x1 x2 → X (EE s) d 225 82 [(1, zi x1), (2, zi x2)] [] m Q) :
    ∀ (n : Nat) (y1 y2 y3 : Int) , (0 ≤ y1 ∧ y1 ≤ 1) → (0 ≤ y2 ∧ y2 ≤ 1) → (0 ≤ y3 ∧ y3 ≤ 3) → 3 - y3 < (n : Int) → R0 = fl225_6_1 k82 m n y1 y2 y3 → X (EE s) d 225 6 [(0, zr 4 44), (1, zi y1), (2, zi y2), (3, zi y3)] [] m Q := by
  intro n
  induction n with
  | zero =>
    intro y1 y2 y3 hy1 hy2 hy3 hn hR
    exfalso
    omega
  | succ n ih =>
    intro y1 y2 y3 hy1 hy2 hy3 hn hR
    replace hR : R0 = fl225_6_1_b (fl225_6_1 k82 m n) k82 m y1 y2 y3 := hR
    refine X.iload_n 7 i225_6 rfl rfl rfl ?_
    refine X.aload_n 8 i225_7 rfl rfl rfl ?_
    refine X.callv 11 [] [zi y3] [(0, zr 4 44)] i225_8 rfl (by decide) rfl rfl (by omega) rfl rfl (by decide) rfl t206 (Nat.le_of_ble_eq_true rfl) (Nat.le_of_ble_eq_true rfl) rfl ?_
    refine X.aload_n 1 i206_0 rfl rfl rfl ?_
    refine X.getF 4 i206_1 rfl rfl (by decide) rfl rfl ?_
    refine X.iconst 5 i206_4 rfl rfl (by decide) ?_
    refine X.lald 6 i206_5 rfl rfl (by decide) rfl (by omega) ?_
    have h560 := r45_1 hJ 4
    refine X.l2i 7 i206_6 rfl rfl (by omega) ?_
    refine X.reti i206_7 rfl t206 ?_
    show X (EE s) d 225 11 [(0, zr 4 44), (1, zi y1), (2, zi y2), (3, zi y3)] [zi (m 4 45 1), zi y3] m _
    refine X.icmpge 82 14 i225_11 rfl rfl rfl (fun h561 => ?_) (fun h561 => ?_)
    · refine X.cut [(1, zi y1), (2, zi y2)] i225_82 rfl ?_
      exact K82 y1 y2 (by first | trivial | omega) (by first | trivial | omega) (Eq.trans hR (Eq.trans (if_pos h561) rfl))
    · refine X.aload_n 15 i225_14 rfl rfl rfl ?_
      refine X.bipush 17 i225_15 rfl rfl (by decide) ?_
      refine X.iload_n 18 i225_17 rfl rfl rfl ?_
      refine X.callv 21 [zi 95, zi y3] [] [(0, zr 4 44), (1, zi 95), (2, zi y3)] i225_18 rfl (by decide) rfl rfl (by omega) rfl rfl (by decide) rfl t213 (Nat.le_of_ble_eq_true rfl) (Nat.le_of_ble_eq_true rfl) rfl ?_
      refine c213_1 (B := B)  95 y3 (by omega) (hJ.up (by omega)) (by omega) (by omega) (by omega) (fun v564 hv564 hFv564 => ?_)
      show X (EE s) d 225 21 [(0, zr 4 44), (1, zi y1), (2, zi y2), (3, zi y3)] [zl v564] m _
      refine X.aload_n 22 i225_21 rfl rfl rfl ?_
      refine X.getF 25 i225_22 rfl rfl (by decide) rfl rfl ?_
      refine X.iconst 26 i225_25 rfl rfl (by decide) ?_
      refine X.lald 27 i225_26 rfl rfl (by decide) rfl (by omega) ?_
      have h565 := r45_2 hJ 4
      refine X.aload_n 28 i225_27 rfl rfl rfl ?_
      refine X.getF 31 i225_28 rfl rfl (by decide) rfl rfl ?_
      refine X.bipush 33 i225_31 rfl rfl (by decide) ?_
      refine X.lald 34 i225_33 rfl rfl (by decide) rfl (by omega) ?_
      have h566 := r45_6 hJ 4
      have hz567 := z_mulr (a := 4) (b := 16) (c := 0) (e := 250000) (x := (m 4 45 2)) (y := (m 4 45 6)) (by omega) (by omega)
      refine X.lmul 35 i225_34 rfl rfl (z_in3 hz567 (by decide) (by decide)) ?_
      obtain ⟨z567, ez567⟩ : ∃ z, z = ((m 4 45 2) * (m 4 45 6)) := ⟨_, rfl⟩
      rw [← ez567] at hz567 ⊢
      have gz567 : 0 ≤ z567 ∧ z567 ≤ 4000000 := z_in3 hz567 (by decide) (by decide)
      clear hz567
      refine X.lcmp 36 i225_35 rfl rfl (fun z568 hz568 => ?_)
      have hK573 : ∀ (v : Int) , (0 ≤ v ∧ v ≤ 1) → (if v564 < z567 then
          (1)
          else
          (0)) = v → X (EE s) d 225 44 [(0, zr 4 44), (1, zi y1), (2, zi y2), (3, zi y3)] [zi v] m Q := by
        intro v570 hv570 hT574
        refine X.istore 46 [(0, zr 4 44), (1, zi y1), (2, zi y2), (3, zi y3), (4, zi v570)] i225_44 rfl rfl rfl ?_
        refine X.iload_n 47 i225_46 rfl rfl rfl ?_
        have hK580 : ∀ (v : Int) , (0 ≤ v ∧ v ≤ 1) → (if y1 = 0 then
            (if v570 = 0 then
            (0)
            else
            (1))
            else
            (1)) = v → X (EE s) d 225 60 [(0, zr 4 44), (2, zi y2), (3, zi y3), (4, zi v570)] [zi v] m Q := by
          intro v577 hv577 hT581
          refine X.istore_n 61 [(0, zr 4 44), (1, zi v577), (2, zi y2), (3, zi y3), (4, zi v570)] i225_60 rfl rfl rfl ?_
          refine X.iload_n 62 i225_61 rfl rfl rfl ?_
          have hK587 : ∀ (v : Int) , (0 ≤ v ∧ v ≤ 1) → (if y2 = 0 then
              (if v570 = 0 then
              (1)
              else
              (0))
              else
              (1)) = v → X (EE s) d 225 75 [(0, zr 4 44), (1, zi v577), (3, zi y3)] [zi v] m Q := by
            intro v584 hv584 hT588
            refine X.istore_n 76 [(0, zr 4 44), (1, zi v577), (2, zi v584), (3, zi y3)] i225_75 rfl rfl rfl ?_
            refine X.iinc 79 [(0, zr 4 44), (1, zi v577), (2, zi v584), (3, zi (y3 + 1))] i225_76 rfl rfl rfl (by omega) rfl ?_
            refine X.goto 6 i225_79 rfl rfl ?_
            exact ih v577 v584 (y3 + 1) (by omega) (by omega) (by omega) (by omega) (Eq.trans hR (Eq.trans (if_neg h561) (Eq.trans (zn_eq hFv564.symm) (Eq.trans (zn_eq ez567) (Eq.trans (zn_eq hT574.symm) (Eq.trans (zn_eq hT581.symm) (Eq.trans (zn_eq hT588.symm) rfl)))))))
          refine X.ifne 70 65 i225_62 rfl rfl rfl (fun h582 => ?_) (fun h582 => ?_)
          · refine X.cut [(0, zr 4 44), (1, zi v577), (3, zi y3)] i225_70 rfl ?_
            refine X.iconst 71 i225_70 rfl rfl (by decide) ?_
            refine X.goto 75 i225_71 rfl rfl ?_
            exact hK587 1 (by first | trivial | omega) (Eq.trans (if_neg h582) rfl)
          · refine X.iload 67 i225_65 rfl rfl rfl ?_
            refine X.ifne 74 70 i225_67 rfl rfl rfl (fun h583 => ?_) (fun h583 => ?_)
            · refine X.cut [(0, zr 4 44), (1, zi v577), (3, zi y3)] i225_74 rfl ?_
              refine X.iconst 75 i225_74 rfl rfl (by decide) ?_
              exact hK587 0 (by first | trivial | omega) (Eq.trans (if_pos h582) (Eq.trans (if_neg h583) rfl))
            · refine X.cut [(0, zr 4 44), (1, zi v577), (3, zi y3)] i225_70 rfl ?_
              refine X.iconst 71 i225_70 rfl rfl (by decide) ?_
              refine X.goto 75 i225_71 rfl rfl ?_
              exact hK587 1 (by first | trivial | omega) (Eq.trans (if_pos h582) (Eq.trans (if_pos h583) rfl))
        refine X.ifne 55 50 i225_47 rfl rfl rfl (fun h575 => ?_) (fun h575 => ?_)
        · refine X.cut [(0, zr 4 44), (2, zi y2), (3, zi y3), (4, zi v570)] i225_55 rfl ?_
          refine X.iconst 56 i225_55 rfl rfl (by decide) ?_
          refine X.goto 60 i225_56 rfl rfl ?_
          exact hK580 1 (by first | trivial | omega) (Eq.trans (if_neg h575) rfl)
        · refine X.iload 52 i225_50 rfl rfl rfl ?_
          refine X.ifeq 59 55 i225_52 rfl rfl rfl (fun h576 => ?_) (fun h576 => ?_)
          · refine X.cut [(0, zr 4 44), (2, zi y2), (3, zi y3), (4, zi v570)] i225_59 rfl ?_
            refine X.iconst 60 i225_59 rfl rfl (by decide) ?_
            exact hK580 0 (by first | trivial | omega) (Eq.trans (if_pos h575) (Eq.trans (if_pos h576) rfl))
          · refine X.cut [(0, zr 4 44), (2, zi y2), (3, zi y3), (4, zi v570)] i225_55 rfl ?_
            refine X.iconst 56 i225_55 rfl rfl (by decide) ?_
            refine X.goto 60 i225_56 rfl rfl ?_
            exact hK580 1 (by first | trivial | omega) (Eq.trans (if_pos h575) (Eq.trans (if_neg h576) rfl))
      refine X.ifge 43 39 i225_36 rfl rfl rfl (fun h569 => ?_) (fun h569 => ?_)
      · have h569c : ¬ v564 < z567 := by omega
        clear h569 hz568
        refine X.iconst 44 i225_43 rfl rfl (by decide) ?_
        exact hK573 0 (by first | trivial | omega) (Eq.trans (if_neg h569c) rfl)
      · have h569c : v564 < z567 := by omega
        clear h569 hz568
        refine X.iconst 40 i225_39 rfl rfl (by decide) ?_
        refine X.goto 44 i225_40 rfl rfl ?_
        exact hK573 1 (by first | trivial | omega) (Eq.trans (if_pos h569c) rfl)
-- WorkMeterModel.isMissing
def f225_1 (m : zM) : Int :=
  fl225_6_1 (fun y501 y502 =>
  zn (if y501 = 0 then
  (0)
  else
  (if y502 = 0 then
  (0)
  else
  (1))) fun v509 =>
  v509) m 4 0 0 0
-- WorkMeterModel.isMissing
theorem c225_1 {s : Nat × (Nat → Int32)} {S : zS} {m0 m : zM} {B : Int} {d : Nat} {Q : Option zV → zM → Prop} (hd : 14 ≤ d) (hJ : J S m0 B m) (hB : B + 0 ≤ 1000000000) (hQ : ∀ (v : Int), (0 ≤ v ∧ v ≤ 1) → f225_1 m = v → Q (some (zi v)) m) : X (EE s) d 225 0 [(0, zr 4 44)] [] m Q := by
  refine X.iconst 1 i225_0 rfl rfl (by decide) ?_
  refine X.istore_n 2 [(0, zr 4 44), (1, zi 0)] i225_1 rfl rfl rfl ?_
  refine X.iconst 3 i225_2 rfl rfl (by decide) ?_
  refine X.istore_n 4 [(0, zr 4 44), (1, zi 0), (2, zi 0)] i225_3 rfl rfl rfl ?_
  refine X.iconst 5 i225_4 rfl rfl (by decide) ?_
  refine X.istore_n 6 [(0, zr 4 44), (1, zi 0), (2, zi 0), (3, zi 0)] i225_5 rfl rfl rfl ?_
  refine l225_6_1 (s := s) (m := m) (B := B) (d := d) (R0 := (f225_1 m))    (by omega) (hJ.up (by omega)) (by omega) (fun y501 y502 hby501 hby502 hR506 => ?_) 4 0 0 0 (by omega) (by omega) (by omega) (by omega) rfl
  refine X.iload_n 83 i225_82 rfl rfl rfl ?_
  have hK512 : ∀ (v : Int) , (0 ≤ v ∧ v ≤ 1) → (if y501 = 0 then
      (0)
      else
      (if y502 = 0 then
      (0)
      else
      (1))) = v → X (EE s) d 225 95 [] [zi v] m Q := by
    intro v509 hv509 hT513
    refine X.retz i225_95 rfl t225 (by omega) ?_
    exact hQ v509 (by first | trivial | omega) (Eq.trans hR506 (Eq.trans (zn_eq hT513.symm) rfl)) 
  refine X.ifeq 94 86 i225_83 rfl rfl rfl (fun h507 => ?_) (fun h507 => ?_)
  · refine X.cut [] i225_94 rfl ?_
    refine X.iconst 95 i225_94 rfl rfl (by decide) ?_
    exact hK512 0 (by first | trivial | omega) (Eq.trans (if_pos h507) rfl)
  · refine X.iload_n 87 i225_86 rfl rfl rfl ?_
    refine X.ifeq 94 90 i225_87 rfl rfl rfl (fun h508 => ?_) (fun h508 => ?_)
    · refine X.cut [] i225_94 rfl ?_
      refine X.iconst 95 i225_94 rfl rfl (by decide) ?_
      exact hK512 0 (by first | trivial | omega) (Eq.trans (if_neg h507) (Eq.trans (if_pos h508) rfl))
    · refine X.iconst 91 i225_90 rfl rfl (by decide) ?_
      refine X.goto 95 i225_91 rfl rfl ?_
      refine X.cut [] i225_95 rfl ?_
      exact hK512 1 (by first | trivial | omega) (Eq.trans (if_neg h507) (Eq.trans (if_neg h508) rfl))
-- WorkMeterModel.turnsOn
def f228_1 (a1 : Int) (m : zM) : zM :=
  zs (z_upd m 4 45 (40 + a1) 1) fun m501 =>
  zn (w64 ((m501 4 45 (45 + a1)) + 1)) fun z503 =>
  zs (z_upd m501 4 45 (45 + a1) z503) fun m504 =>
  zs (f223_1 a1 0 m504) fun m506 =>
  m506
-- WorkMeterModel.turnsOn
theorem c228_1 {s : Nat × (Nat → Int32)} {S : zS} {m0 m : zM} {B : Int} {d : Nat} {Q : Option zV → zM → Prop} (a1 : Int) (hd : 14 ≤ d) (hJ : J S m0 B m) (hB : B + 1 ≤ 1000000000) (ha1 : 2 ≤ a1 ∧ a1 ≤ 4) (hf6 : ¬ S.1 6) (hf9 : ¬ S.1 9) (hg4 : ¬ S.2.1 4) (hQ : ∀ m', f228_1 a1 m = m' → J S m0 (B + 1) m' → Q none m') : X (EE s) d 228 0 [(0, zr 4 44), (1, zi a1)] [] m Q := by
  refine X.aload_n 1 i228_0 rfl rfl rfl ?_
  refine X.getF 4 i228_1 rfl rfl (by decide) rfl rfl ?_
  refine X.bipush 6 i228_4 rfl rfl (by decide) ?_
  refine X.iload_n 7 i228_6 rfl rfl rfl ?_
  refine X.iadd 8 i228_7 rfl rfl (by omega) ?_
  refine X.lconst (y := 1) 9 i228_8 rfl rfl rfl ?_
  refine X.last' 10 i228_9 rfl rfl (by decide) rfl (by omega) (fun hrm501 m501 hm501 => ?_)
  have hJ502 := w45_40 hJ hm501 (by omega) hrm501 hf9 hg4
  refine X.aload_n 11 i228_10 rfl rfl rfl ?_
  refine X.getF 14 i228_11 rfl rfl (by decide) rfl rfl ?_
  refine X.bipush 16 i228_14 rfl rfl (by decide) ?_
  refine X.iload_n 17 i228_16 rfl rfl rfl ?_
  refine X.iadd 18 i228_17 rfl rfl (by omega) ?_
  refine X.dup2 19 i228_18 rfl rfl ?_
  refine X.lald 20 i228_19 rfl rfl (by decide) rfl (by omega) ?_
  refine X.lconst (y := 1) 21 i228_20 rfl rfl rfl ?_
  refine X.laddW 22 i228_21 rfl rfl (fun z503 ez503 hz503 => ?_)
  refine X.last' 23 i228_22 rfl rfl (by decide) rfl (by omega) (fun hrm504 m504 hm504 => ?_)
  have hJ505 := w45_40 hJ502 hm504 (by omega) hrm504 hf9 hg4
  refine X.aload_n 24 i228_23 rfl rfl rfl ?_
  refine X.iload_n 25 i228_24 rfl rfl rfl ?_
  refine X.lconst (y := 0) 26 i228_25 rfl rfl rfl ?_
  refine X.callv 29 [zi a1, zl 0] [] [(0, zr 4 44), (1, zi a1), (2, zl 0)] i228_26 rfl (by decide) rfl rfl (by omega) rfl rfl (by decide) rfl t223 (Nat.le_of_ble_eq_true rfl) (Nat.le_of_ble_eq_true rfl) rfl ?_
  refine c223_1 (B := B)  a1 0 (by omega) (hJ505.up (by omega)) (by omega) (by omega) hf6 hg4 (fun m506 hFv508 hJ507 => ?_)
  show X (EE s) d 228 29 [(0, zr 4 44), (1, zi a1)] [] m506 _
  refine X.retv i228_29 rfl t228 ?_
  exact hQ  m506  (Eq.trans (zs_eq hm501) (Eq.trans (zn_eq ez503) (Eq.trans (zs_eq hm504) (Eq.trans (zs_eq hFv508.symm) rfl)))) (hJ507.up (by omega)) 
-- WorkMeterModel.turnsOff
def f229_1 (a1 : Int) (m : zM) : zM :=
  zs (z_upd m 4 45 (40 + a1) 0) fun m501 =>
  zs (f223_1 (10 + a1) 0 m501) fun m503 =>
  m503
-- WorkMeterModel.turnsOff
theorem c229_1 {s : Nat × (Nat → Int32)} {S : zS} {m0 m : zM} {B : Int} {d : Nat} {Q : Option zV → zM → Prop} (a1 : Int) (hd : 14 ≤ d) (hJ : J S m0 B m) (hB : B + 1 ≤ 1000000000) (ha1 : 2 ≤ a1 ∧ a1 ≤ 4) (hf6 : ¬ S.1 6) (hf9 : ¬ S.1 9) (hg4 : ¬ S.2.1 4) (hQ : ∀ m', f229_1 a1 m = m' → J S m0 (B + 1) m' → Q none m') : X (EE s) d 229 0 [(0, zr 4 44), (1, zi a1)] [] m Q := by
  refine X.aload_n 1 i229_0 rfl rfl rfl ?_
  refine X.getF 4 i229_1 rfl rfl (by decide) rfl rfl ?_
  refine X.bipush 6 i229_4 rfl rfl (by decide) ?_
  refine X.iload_n 7 i229_6 rfl rfl rfl ?_
  refine X.iadd 8 i229_7 rfl rfl (by omega) ?_
  refine X.lconst (y := 0) 9 i229_8 rfl rfl rfl ?_
  refine X.last' 10 i229_9 rfl rfl (by decide) rfl (by omega) (fun hrm501 m501 hm501 => ?_)
  have hJ502 := w45_40 hJ hm501 (by omega) hrm501 hf9 hg4
  refine X.aload_n 11 i229_10 rfl rfl rfl ?_
  refine X.bipush 13 i229_11 rfl rfl (by decide) ?_
  refine X.iload_n 14 i229_13 rfl rfl rfl ?_
  refine X.iadd 15 i229_14 rfl rfl (by omega) ?_
  refine X.lconst (y := 0) 16 i229_15 rfl rfl rfl ?_
  refine X.callv 19 [zi (10 + a1), zl 0] [] [(0, zr 4 44), (1, zi (10 + a1)), (2, zl 0)] i229_16 rfl (by decide) rfl rfl (by omega) rfl rfl (by decide) rfl t223 (Nat.le_of_ble_eq_true rfl) (Nat.le_of_ble_eq_true rfl) rfl ?_
  refine c223_1 (B := B)  (10 + a1) 0 (by omega) (hJ502.up (by omega)) (by omega) (by omega) hf6 hg4 (fun m503 hFv505 hJ504 => ?_)
  show X (EE s) d 229 19 [(0, zr 4 44), (1, zi a1)] [] m503 _
  refine X.retv i229_19 rfl t229 ?_
  exact hQ  m503  (Eq.trans (zs_eq hm501) (Eq.trans (zs_eq hFv505.symm) rfl)) (hJ504.up (by omega)) 
def fl224_2_1_b (self : Int → zM → zM) (k142 : zM → zM) (y1 : Int) (m : zM) : zM :=
  if 5 ≤ y1 then
  (k142 m)
  else
  (zn (if y1 = 2 then
  (zn (f225_1 m) fun v568 =>
  v568)
  else
  (if y1 = 3 then
  (zn (f226_1 m) fun v565 =>
  v565)
  else
  (zn (f227_1 m) fun v562 =>
  v562))) fun v569 =>
  zn (if v569 = 0 then
  (0)
  else
  (zn (w64 ((m 4 45 (55 + y1)) + 1)) fun z575 =>
  z575)) fun v576 =>
  zs (z_upd m 4 45 (55 + y1) v576) fun m581 =>
  zn (if (m581 4 45 (55 + y1)) ≤ (m581 4 45 7) then
  (0)
  else
  (1)) fun v586 =>
  zs (if v586 = 0 then
  (m581)
  else
  (if (m581 4 45 (40 + y1)) = 0 then
  (zs (f228_1 y1 m581) fun m594 =>
  m594)
  else
  (m581))) fun m598 =>
  zs (if v569 = 0 then
  (if (m598 4 45 (40 + y1)) = 1 then
  (zs (f229_1 y1 m598) fun m605 =>
  m605)
  else
  (m598))
  else
  (m598)) fun m609 =>
  self (y1 + 1) m609)
def fl224_2_1 (k142 : zM → zM) : Nat → Int → zM → zM
  | 0 => fun y1 m => m
  | n + 1 => fl224_2_1_b (fl224_2_1 k142 n) k142
theorem l224_2_1 {s : Nat × (Nat → Int32)} {S : zS} {m0 : zM} {d : Nat} {Q : Option zV → zM → Prop} {R0 : zM} {k142 : zM → zM} (BE : Int) (hE : BE ≤ 1000000000) (hd : 15 ≤ d) (hf6 : ¬ S.1 6) (hf9 : ¬ S.1 9) (hg4 : ¬ S.2.1 4)
    (K142 : ∀ (m' : zM) (B' : Int), J S m0 B' m' → B' ≤ BE → R0 = k142 m' → X (EE s) d 224 142 [(0, zr 4 44)] [] m' Q) :
    ∀ (n : Nat) (y1 : Int) (m : zM) (B : Int), J S m0 B m → B + 2 * (n : Int) ≤ BE → (2 ≤ y1 ∧ y1 ≤ 5) → 5 - y1 < (n : Int) → R0 = fl224_2_1 k142 n y1 m → X (EE s) d 224 2 [(0, zr 4 44), (1, zi y1)] [] m Q := by
  intro n
  induction n with
  | zero =>
    intro y1 m B hJ hB hy1 hn hR
    exfalso
    omega
  | succ n ih =>
    intro y1 m B hJ hB hy1 hn hR
    replace hR : R0 = fl224_2_1_b (fl224_2_1 k142 n) k142 y1 m := hR
    refine X.iload_n 3 i224_2 rfl rfl rfl ?_
    refine X.iconst 4 i224_3 rfl rfl (by decide) ?_
    refine X.icmpge 142 7 i224_4 rfl rfl rfl (fun h557 => ?_) (fun h557 => ?_)
    · refine X.cut [(0, zr 4 44)] i224_142 rfl ?_
      exact K142  m (B) (hJ.up (by omega)) (by omega)  (Eq.trans hR (Eq.trans (if_pos h557) rfl))
    · refine X.iload_n 8 i224_7 rfl rfl rfl ?_
      refine X.iconst 9 i224_8 rfl rfl (by decide) ?_
      have hK572 : ∀ (v : Int) , (0 ≤ v ∧ v ≤ 1) → (if y1 = 2 then
          (zn (f225_1 m) fun v568 =>
          v568)
          else
          (if y1 = 3 then
          (zn (f226_1 m) fun v565 =>
          v565)
          else
          (zn (f227_1 m) fun v562 =>
          v562))) = v → X (EE s) d 224 35 [(0, zr 4 44), (1, zi y1)] [zi v] m Q := by
        intro v569 hv569 hT573
        refine X.istore_n 36 [(0, zr 4 44), (1, zi y1), (2, zi v569)] i224_35 rfl rfl rfl ?_
        refine X.aload_n 37 i224_36 rfl rfl rfl ?_
        refine X.getF 40 i224_37 rfl rfl (by decide) rfl rfl ?_
        refine X.bipush 42 i224_40 rfl rfl (by decide) ?_
        refine X.iload_n 43 i224_42 rfl rfl rfl ?_
        refine X.iadd 44 i224_43 rfl rfl (by omega) ?_
        refine X.iload_n 45 i224_44 rfl rfl rfl ?_
        have hK579 : ∀ (v : Int) , (True) → (if v569 = 0 then
            (0)
            else
            (zn (w64 ((m 4 45 (55 + y1)) + 1)) fun z575 =>
            z575)) = v → X (EE s) d 224 63 [(0, zr 4 44), (1, zi y1), (2, zi v569)] [zl v, zi (55 + y1), zr 4 45] m Q := by
          intro v576 hv576 hT580
          refine X.last' 64 i224_63 rfl rfl (by decide) rfl (by omega) (fun hrm581 m581 hm581 => ?_)
          have hJ582 := w45_40 hJ hm581 (by omega) hrm581 hf9 hg4
          refine X.aload_n 65 i224_64 rfl rfl rfl ?_
          refine X.getF 68 i224_65 rfl rfl (by decide) rfl rfl ?_
          refine X.bipush 70 i224_68 rfl rfl (by decide) ?_
          refine X.iload_n 71 i224_70 rfl rfl rfl ?_
          refine X.iadd 72 i224_71 rfl rfl (by omega) ?_
          refine X.lald 73 i224_72 rfl rfl (by decide) rfl (by omega) ?_
          refine X.aload_n 74 i224_73 rfl rfl rfl ?_
          refine X.getF 77 i224_74 rfl rfl (by decide) rfl rfl ?_
          refine X.bipush 79 i224_77 rfl rfl (by decide) ?_
          refine X.lald 80 i224_79 rfl rfl (by decide) rfl (by omega) ?_
          have h583 := r45_7 hJ582 4
          refine X.lcmp 81 i224_80 rfl rfl (fun z584 hz584 => ?_)
          have hK589 : ∀ (v : Int) , (0 ≤ v ∧ v ≤ 1) → (if (m581 4 45 (55 + y1)) ≤ (m581 4 45 7) then
              (0)
              else
              (1)) = v → X (EE s) d 224 89 [(0, zr 4 44), (1, zi y1), (2, zi v569)] [zi v] m581 Q := by
            intro v586 hv586 hT590
            refine X.istore_n 90 [(0, zr 4 44), (1, zi y1), (2, zi v569), (3, zi v586)] i224_89 rfl rfl rfl ?_
            refine X.iload_n 91 i224_90 rfl rfl rfl ?_
            have hK600 : ∀ (m' : zM), (if v586 = 0 then
                (m581)
                else
                (if (m581 4 45 (40 + y1)) = 0 then
                (zs (f228_1 y1 m581) fun m594 =>
                m594)
                else
                (m581))) = m' → J S m0 (B + 1) m' → X (EE s) d 224 113 [(0, zr 4 44), (1, zi y1), (2, zi v569)] [] m' Q := by
              intro m598 hT601 hJ599
              refine X.iload_n 114 i224_113 rfl rfl rfl ?_
              have hK611 : ∀ (m' : zM), (if v569 = 0 then
                  (if (m598 4 45 (40 + y1)) = 1 then
                  (zs (f229_1 y1 m598) fun m605 =>
                  m605)
                  else
                  (m598))
                  else
                  (m598)) = m' → J S m0 (B + 2) m' → X (EE s) d 224 136 [(0, zr 4 44), (1, zi y1)] [] m' Q := by
                intro m609 hT612 hJ610
                refine X.iinc 139 [(0, zr 4 44), (1, zi (y1 + 1))] i224_136 rfl rfl rfl (by omega) rfl ?_
                refine X.goto 2 i224_139 rfl rfl ?_
                exact ih (y1 + 1) m609 (B + 2) (hJ610.up (by omega)) (by omega) (by omega) (by omega) (Eq.trans hR (Eq.trans (if_neg h557) (Eq.trans (zn_eq hT573.symm) (Eq.trans (zn_eq hT580.symm) (Eq.trans (zs_eq hm581) (Eq.trans (zn_eq hT590.symm) (Eq.trans (zs_eq hT601.symm) (Eq.trans (zs_eq hT612.symm) rfl))))))))
              refine X.ifne 136 117 i224_114 rfl rfl rfl (fun h602 => ?_) (fun h602 => ?_)
              · refine X.cut [(0, zr 4 44), (1, zi y1)] i224_136 rfl ?_
                exact hK611 m598 (Eq.trans (if_neg h602) rfl) (hJ599.up (by omega))
              · refine X.aload_n 118 i224_117 rfl rfl rfl ?_
                refine X.getF 121 i224_118 rfl rfl (by decide) rfl rfl ?_
                refine X.bipush 123 i224_121 rfl rfl (by decide) ?_
                refine X.iload_n 124 i224_123 rfl rfl rfl ?_
                refine X.iadd 125 i224_124 rfl rfl (by omega) ?_
                refine X.lald 126 i224_125 rfl rfl (by decide) rfl (by omega) ?_
                refine X.lconst (y := 1) 127 i224_126 rfl rfl rfl ?_
                refine X.lcmp 128 i224_127 rfl rfl (fun z603 hz603 => ?_)
                refine X.ifne 136 131 i224_128 rfl rfl rfl (fun h604 => ?_) (fun h604 => ?_)
                · have h604c : ¬ (m598 4 45 (40 + y1)) = 1 := by omega
                  clear h604 hz603
                  refine X.cut [(0, zr 4 44), (1, zi y1)] i224_136 rfl ?_
                  exact hK611 m598 (Eq.trans (if_pos h602) (Eq.trans (if_neg h604c) rfl)) (hJ599.up (by omega))
                · have h604c : (m598 4 45 (40 + y1)) = 1 := by omega
                  clear h604 hz603
                  refine X.aload_n 132 i224_131 rfl rfl rfl ?_
                  refine X.iload_n 133 i224_132 rfl rfl rfl ?_
                  refine X.callv 136 [zi y1] [] [(0, zr 4 44), (1, zi y1)] i224_133 rfl (by decide) rfl rfl (by omega) rfl rfl (by decide) rfl t229 (Nat.le_of_ble_eq_true rfl) (Nat.le_of_ble_eq_true rfl) rfl ?_
                  refine c229_1 (B := B + 1)  y1 (by omega) (hJ599.up (by omega)) (by omega) (by omega) hf6 hf9 hg4 (fun m605 hFv607 hJ606 => ?_)
                  show X (EE s) d 224 136 [(0, zr 4 44), (1, zi y1), (2, zi v569)] [] m605 _
                  refine X.cut [(0, zr 4 44), (1, zi y1)] i224_136 rfl ?_
                  exact hK611 m605 (Eq.trans (if_pos h602) (Eq.trans (if_pos h604c) (Eq.trans (zs_eq hFv607.symm) rfl))) (hJ606.up (by omega))
            refine X.ifeq 113 94 i224_91 rfl rfl rfl (fun h591 => ?_) (fun h591 => ?_)
            · refine X.cut [(0, zr 4 44), (1, zi y1), (2, zi v569)] i224_113 rfl ?_
              exact hK600 m581 (Eq.trans (if_pos h591) rfl) (hJ582.up (by omega))
            · refine X.aload_n 95 i224_94 rfl rfl rfl ?_
              refine X.getF 98 i224_95 rfl rfl (by decide) rfl rfl ?_
              refine X.bipush 100 i224_98 rfl rfl (by decide) ?_
              refine X.iload_n 101 i224_100 rfl rfl rfl ?_
              refine X.iadd 102 i224_101 rfl rfl (by omega) ?_
              refine X.lald 103 i224_102 rfl rfl (by decide) rfl (by omega) ?_
              refine X.lconst (y := 0) 104 i224_103 rfl rfl rfl ?_
              refine X.lcmp 105 i224_104 rfl rfl (fun z592 hz592 => ?_)
              refine X.ifne 113 108 i224_105 rfl rfl rfl (fun h593 => ?_) (fun h593 => ?_)
              · have h593c : ¬ (m581 4 45 (40 + y1)) = 0 := by omega
                clear h593 hz592
                refine X.cut [(0, zr 4 44), (1, zi y1), (2, zi v569)] i224_113 rfl ?_
                exact hK600 m581 (Eq.trans (if_neg h591) (Eq.trans (if_neg h593c) rfl)) (hJ582.up (by omega))
              · have h593c : (m581 4 45 (40 + y1)) = 0 := by omega
                clear h593 hz592
                refine X.aload_n 109 i224_108 rfl rfl rfl ?_
                refine X.iload_n 110 i224_109 rfl rfl rfl ?_
                refine X.callv 113 [zi y1] [] [(0, zr 4 44), (1, zi y1)] i224_110 rfl (by decide) rfl rfl (by omega) rfl rfl (by decide) rfl t228 (Nat.le_of_ble_eq_true rfl) (Nat.le_of_ble_eq_true rfl) rfl ?_
                refine c228_1 (B := B)  y1 (by omega) (hJ582.up (by omega)) (by omega) (by omega) hf6 hf9 hg4 (fun m594 hFv596 hJ595 => ?_)
                show X (EE s) d 224 113 [(0, zr 4 44), (1, zi y1), (2, zi v569), (3, zi v586)] [] m594 _
                refine X.cut [(0, zr 4 44), (1, zi y1), (2, zi v569)] i224_113 rfl ?_
                exact hK600 m594 (Eq.trans (if_neg h591) (Eq.trans (if_pos h593c) (Eq.trans (zs_eq hFv596.symm) rfl))) (hJ595.up (by omega))
          refine X.ifle 88 84 i224_81 rfl rfl rfl (fun h585 => ?_) (fun h585 => ?_)
          · have h585c : (m581 4 45 (55 + y1)) ≤ (m581 4 45 7) := by omega
            clear h585 hz584
            refine X.iconst 89 i224_88 rfl rfl (by decide) ?_
            exact hK589 0 (by first | trivial | omega) (Eq.trans (if_pos h585c) rfl)
          · have h585c : ¬ (m581 4 45 (55 + y1)) ≤ (m581 4 45 7) := by omega
            clear h585 hz584
            refine X.iconst 85 i224_84 rfl rfl (by decide) ?_
            refine X.goto 89 i224_85 rfl rfl ?_
            exact hK589 1 (by first | trivial | omega) (Eq.trans (if_neg h585c) rfl)
        refine X.ifeq 62 48 i224_45 rfl rfl rfl (fun h574 => ?_) (fun h574 => ?_)
        · refine X.lconst (y := 0) 63 i224_62 rfl rfl rfl ?_
          exact hK579 0 (by first | trivial | omega) (Eq.trans (if_pos h574) rfl)
        · refine X.aload_n 49 i224_48 rfl rfl rfl ?_
          refine X.getF 52 i224_49 rfl rfl (by decide) rfl rfl ?_
          refine X.bipush 54 i224_52 rfl rfl (by decide) ?_
          refine X.iload_n 55 i224_54 rfl rfl rfl ?_
          refine X.iadd 56 i224_55 rfl rfl (by omega) ?_
          refine X.lald 57 i224_56 rfl rfl (by decide) rfl (by omega) ?_
          refine X.lconst (y := 1) 58 i224_57 rfl rfl rfl ?_
          refine X.laddW 59 i224_58 rfl rfl (fun z575 ez575 hz575 => ?_)
          refine X.goto 63 i224_59 rfl rfl ?_
          exact hK579 z575 (by first | trivial | omega) (Eq.trans (if_neg h574) (Eq.trans (zn_eq ez575) rfl))
      refine X.icmpne 19 12 i224_9 rfl rfl rfl (fun h558 => ?_) (fun h558 => ?_)
      · refine X.iload_n 20 i224_19 rfl rfl rfl ?_
        refine X.iconst 21 i224_20 rfl rfl (by decide) ?_
        refine X.icmpne 31 24 i224_21 rfl rfl rfl (fun h559 => ?_) (fun h559 => ?_)
        · refine X.aload_n 32 i224_31 rfl rfl rfl ?_
          refine X.callv 35 [] [] [(0, zr 4 44)] i224_32 rfl (by decide) rfl rfl (by omega) rfl rfl (by decide) rfl t227 (Nat.le_of_ble_eq_true rfl) (Nat.le_of_ble_eq_true rfl) rfl ?_
          refine c227_1 (B := B)   (by omega) (hJ.up (by omega)) (by omega)  (fun v562 hv562 hFv562 => ?_)
          show X (EE s) d 224 35 [(0, zr 4 44), (1, zi y1)] [zi v562] m _
          exact hK572 v562 (by first | trivial | omega) (Eq.trans (if_neg h558) (Eq.trans (if_neg h559) (Eq.trans (zn_eq hFv562.symm) rfl)))
        · refine X.aload_n 25 i224_24 rfl rfl rfl ?_
          refine X.callv 28 [] [] [(0, zr 4 44)] i224_25 rfl (by decide) rfl rfl (by omega) rfl rfl (by decide) rfl t226 (Nat.le_of_ble_eq_true rfl) (Nat.le_of_ble_eq_true rfl) rfl ?_
          refine c226_1 (B := B)   (by omega) (hJ.up (by omega)) (by omega)  (fun v565 hv565 hFv565 => ?_)
          show X (EE s) d 224 28 [(0, zr 4 44), (1, zi y1)] [zi v565] m _
          refine X.goto 35 i224_28 rfl rfl ?_
          exact hK572 v565 (by first | trivial | omega) (Eq.trans (if_neg h558) (Eq.trans (if_pos h559) (Eq.trans (zn_eq hFv565.symm) rfl)))
      · refine X.aload_n 13 i224_12 rfl rfl rfl ?_
        refine X.callv 16 [] [] [(0, zr 4 44)] i224_13 rfl (by decide) rfl rfl (by omega) rfl rfl (by decide) rfl t225 (Nat.le_of_ble_eq_true rfl) (Nat.le_of_ble_eq_true rfl) rfl ?_
        refine c225_1 (B := B)   (by omega) (hJ.up (by omega)) (by omega)  (fun v568 hv568 hFv568 => ?_)
        show X (EE s) d 224 16 [(0, zr 4 44), (1, zi y1)] [zi v568] m _
        refine X.goto 35 i224_16 rfl rfl ?_
        exact hK572 v568 (by first | trivial | omega) (Eq.trans (if_pos h558) (Eq.trans (zn_eq hFv568.symm) rfl))
def fl224_144_1_b (self : Int → zM → zM) (k176 : zM → zM) (y1 : Int) (m : zM) : zM :=
  if 5 ≤ y1 then
  (k176 m)
  else
  (zn (w64 ((m 4 45 (50 + y1)) + (m 4 45 (40 + y1)))) fun z506 =>
  zs (z_upd m 4 45 (50 + y1) z506) fun m507 =>
  self (y1 + 1) m507)
def fl224_144_1 (k176 : zM → zM) : Nat → Int → zM → zM
  | 0 => fun y1 m => m
  | n + 1 => fl224_144_1_b (fl224_144_1 k176 n) k176
theorem l224_144_1 {s : Nat × (Nat → Int32)} {S : zS} {m0 : zM} {d : Nat} {Q : Option zV → zM → Prop} {R0 : zM} {k176 : zM → zM} (BE : Int) (hE : BE ≤ 1000000000) (hd : 13 ≤ d) (hf9 : ¬ S.1 9) (hg4 : ¬ S.2.1 4)
    (K176 : ∀ (m' : zM) (B' : Int), J S m0 B' m' → B' ≤ BE → R0 = k176 m' → X (EE s) d 224 176 [] [] m' Q) :
    ∀ (n : Nat) (y1 : Int) (m : zM) (B : Int), J S m0 B m → B + 0 * (n : Int) ≤ BE → (0 ≤ y1 ∧ y1 ≤ 5) → 5 - y1 < (n : Int) → R0 = fl224_144_1 k176 n y1 m → X (EE s) d 224 144 [(0, zr 4 44), (1, zi y1)] [] m Q := by
  intro n
  induction n with
  | zero =>
    intro y1 m B hJ hB hy1 hn hR
    exfalso
    omega
  | succ n ih =>
    intro y1 m B hJ hB hy1 hn hR
    replace hR : R0 = fl224_144_1_b (fl224_144_1 k176 n) k176 y1 m := hR
    refine X.iload_n 145 i224_144 rfl rfl rfl ?_
    refine X.iconst 146 i224_145 rfl rfl (by decide) ?_
    refine X.icmpge 176 149 i224_146 rfl rfl rfl (fun h505 => ?_) (fun h505 => ?_)
    · refine X.cut [] i224_176 rfl ?_
      exact K176  m (B) (hJ.up (by omega)) (by omega)  (Eq.trans hR (Eq.trans (if_pos h505) rfl))
    · refine X.aload_n 150 i224_149 rfl rfl rfl ?_
      refine X.getF 153 i224_150 rfl rfl (by decide) rfl rfl ?_
      refine X.bipush 155 i224_153 rfl rfl (by decide) ?_
      refine X.iload_n 156 i224_155 rfl rfl rfl ?_
      refine X.iadd 157 i224_156 rfl rfl (by omega) ?_
      refine X.dup2 158 i224_157 rfl rfl ?_
      refine X.lald 159 i224_158 rfl rfl (by decide) rfl (by omega) ?_
      refine X.aload_n 160 i224_159 rfl rfl rfl ?_
      refine X.getF 163 i224_160 rfl rfl (by decide) rfl rfl ?_
      refine X.bipush 165 i224_163 rfl rfl (by decide) ?_
      refine X.iload_n 166 i224_165 rfl rfl rfl ?_
      refine X.iadd 167 i224_166 rfl rfl (by omega) ?_
      refine X.lald 168 i224_167 rfl rfl (by decide) rfl (by omega) ?_
      refine X.laddW 169 i224_168 rfl rfl (fun z506 ez506 hz506 => ?_)
      refine X.last' 170 i224_169 rfl rfl (by decide) rfl (by omega) (fun hrm507 m507 hm507 => ?_)
      have hJ508 := w45_40 hJ hm507 (by omega) hrm507 hf9 hg4
      refine X.iinc 173 [(0, zr 4 44), (1, zi (y1 + 1))] i224_170 rfl rfl rfl (by omega) rfl ?_
      refine X.goto 144 i224_173 rfl rfl ?_
      exact ih (y1 + 1) m507 (B) (hJ508.up (by omega)) (by omega) (by omega) (by omega) (Eq.trans hR (Eq.trans (if_neg h505) (Eq.trans (zn_eq ez506) (Eq.trans (zs_eq hm507) rfl))))
-- WorkMeterModel.marks
def f224_1 (m : zM) : zM :=
  fl224_2_1 (fun m501 =>
  fl224_144_1 (fun m505 =>
  m505) 6 0 m501) 4 2 m
-- WorkMeterModel.marks
theorem c224_1 {s : Nat × (Nat → Int32)} {S : zS} {m0 m : zM} {B : Int} {d : Nat} {Q : Option zV → zM → Prop} (hd : 15 ≤ d) (hJ : J S m0 B m) (hB : B + 8 ≤ 1000000000) (hf6 : ¬ S.1 6) (hf9 : ¬ S.1 9) (hg4 : ¬ S.2.1 4) (hQ : ∀ m', f224_1 m = m' → J S m0 (B + 8) m' → Q none m') : X (EE s) d 224 0 [(0, zr 4 44)] [] m Q := by
  refine X.iconst 1 i224_0 rfl rfl (by decide) ?_
  refine X.istore_n 2 [(0, zr 4 44), (1, zi 2)] i224_1 rfl rfl rfl ?_
  refine l224_2_1 (s := s) (d := d) (R0 := (f224_1 m))    (BE := B + 8) (by omega) (by omega) hf6 hf9 hg4 (fun  m501 B502 hJ503 hBB502 hR504 => ?_) 4 2 m (B) (hJ.up (by omega)) (by omega) (by omega) (by omega) rfl
  refine X.iconst 143 i224_142 rfl rfl (by decide) ?_
  refine X.istore_n 144 [(0, zr 4 44), (1, zi 0)] i224_143 rfl rfl rfl ?_
  refine l224_144_1 (s := s) (d := d)    (BE := B502 + 0) (by omega) (by omega) hf9 hg4 (fun  m505 B506 hJ507 hBB506 hR508 => ?_) 6 0 m501 (B502) (hJ503.up (by omega)) (by omega) (by omega) (by omega) (Eq.trans hR504 rfl)
  refine X.retv i224_176 rfl t224 ?_
  exact hQ  m505  (Eq.trans hR508 rfl) (hJ507.up (by omega)) 
def fl231_4_1_b (self : Int → Int → Int) (k29 : Int → Int) (m : zM) (y1 y3 : Int) : Int :=
  if 5 ≤ y3 then
  (k29 y1)
  else
  (zn (zshlL (m 4 45 (40 + y3)) y3) fun z508 =>
  zn (zorL y1 z508) fun z509 =>
  self z509 (y3 + 1))
def fl231_4_1 (k29 : Int → Int) (m : zM) : Nat → Int → Int → Int
  | 0 => fun y1 y3 => 0
  | n + 1 => fl231_4_1_b (fl231_4_1 k29 m n) k29 m
theorem l231_4_1 {s : Nat × (Nat → Int32)} {S : zS} {m0 : zM} {m : zM} {B : Int} {d : Nat} {Q : Option zV → zM → Prop} {R0 : Int} {k29 : Int → Int} (hd : 13 ≤ d) (hJ : J S m0 B m) (hB9 : B ≤ 1000000000)
    (K29 : ∀ (x1 : Int) , (True) → R0 = k29 x1 → X (EE s) d 231 29 [(1, zl x1)] [] m Q) :
    ∀ (n : Nat) (y1 y3 : Int) , (0 ≤ y3 ∧ y3 ≤ 5) → 5 - y3 < (n : Int) → R0 = fl231_4_1 k29 m n y1 y3 → X (EE s) d 231 4 [(0, zr 4 44), (1, zl y1), (3, zi y3)] [] m Q := by
  intro n
  induction n with
  | zero =>
    intro y1 y3 hy3 hn hR
    exfalso
    omega
  | succ n ih =>
    intro y1 y3 hy3 hn hR
    replace hR : R0 = fl231_4_1_b (fl231_4_1 k29 m n) k29 m y1 y3 := hR
    refine X.iload_n 5 i231_4 rfl rfl rfl ?_
    refine X.iconst 6 i231_5 rfl rfl (by decide) ?_
    refine X.icmpge 29 9 i231_6 rfl rfl rfl (fun h507 => ?_) (fun h507 => ?_)
    · refine X.cut [(1, zl y1)] i231_29 rfl ?_
      exact K29 y1 (by first | trivial | omega) (Eq.trans hR (Eq.trans (if_pos h507) rfl))
    · refine X.lload_n 10 i231_9 rfl rfl rfl ?_
      refine X.aload_n 11 i231_10 rfl rfl rfl ?_
      refine X.getF 14 i231_11 rfl rfl (by decide) rfl rfl ?_
      refine X.bipush 16 i231_14 rfl rfl (by decide) ?_
      refine X.iload_n 17 i231_16 rfl rfl rfl ?_
      refine X.iadd 18 i231_17 rfl rfl (by omega) ?_
      refine X.lald 19 i231_18 rfl rfl (by decide) rfl (by omega) ?_
      refine X.iload_n 20 i231_19 rfl rfl rfl ?_
      refine X.lshlE 21 i231_20 rfl rfl (fun z508 ez508 hz508 => ?_)
      refine X.llE 22 .lor (fun x y => x ||| y) i231_21 rfl rfl rfl (fun _ _ => rfl) (fun z509 ez509 hz509 => ?_)
      refine X.lstore_n 23 [(0, zr 4 44), (1, zl z509), (3, zi y3)] i231_22 rfl rfl rfl ?_
      refine X.iinc 26 [(0, zr 4 44), (1, zl z509), (3, zi (y3 + 1))] i231_23 rfl rfl rfl (by omega) rfl ?_
      refine X.goto 4 i231_26 rfl rfl ?_
      exact ih z509 (y3 + 1) (by omega) (by omega) (Eq.trans hR (Eq.trans (if_neg h507) (Eq.trans (zn_eq ez508) (Eq.trans (zn_eq ez509) rfl))))
-- WorkMeterModel.marksOn
def f231_1 (m : zM) : Int :=
  fl231_4_1 (fun y501 =>
  y501) m 6 0 0
-- WorkMeterModel.marksOn
theorem c231_1 {s : Nat × (Nat → Int32)} {S : zS} {m0 m : zM} {B : Int} {d : Nat} {Q : Option zV → zM → Prop} (hd : 13 ≤ d) (hJ : J S m0 B m) (hB : B + 0 ≤ 1000000000) (hQ : ∀ (v : Int), (True) → f231_1 m = v → Q (some (zl v)) m) : X (EE s) d 231 0 [(0, zr 4 44)] [] m Q := by
  refine X.lconst (y := 0) 1 i231_0 rfl rfl rfl ?_
  refine X.lstore_n 2 [(0, zr 4 44), (1, zl 0)] i231_1 rfl rfl rfl ?_
  refine X.iconst 3 i231_2 rfl rfl (by decide) ?_
  refine X.istore_n 4 [(0, zr 4 44), (1, zl 0), (3, zi 0)] i231_3 rfl rfl rfl ?_
  refine l231_4_1 (s := s) (m := m) (B := B) (d := d) (R0 := (f231_1 m))    (by omega) (hJ.up (by omega)) (by omega) (fun y501 hby501 hR505 => ?_) 6 0 0 (by omega) (by omega) rfl
  refine X.lload_n 30 i231_29 rfl rfl rfl ?_
  refine X.retl i231_30 rfl t231 ?_
  exact hQ y501 (by first | trivial | omega) (Eq.trans hR505 rfl) 
-- WorkMeterModel.lines
def f235_1 (m : zM) : Int :=
  zn (if (m 4 45 17) < 64 then
  ((m 4 45 17))
  else
  (64)) fun v504 =>
  v504
-- WorkMeterModel.lines
theorem c235_1 {s : Nat × (Nat → Int32)} {S : zS} {m0 m : zM} {B : Int} {d : Nat} {Q : Option zV → zM → Prop} (hd : 13 ≤ d) (hJ : J S m0 B m) (hB : B + 0 ≤ 1000000000) (hQ : ∀ (v : Int), (0 ≤ v ∧ v ≤ 64) → f235_1 m = v → Q (some (zi v)) m) : X (EE s) d 235 0 [(0, zr 4 44)] [] m Q := by
  refine X.aload_n 1 i235_0 rfl rfl rfl ?_
  refine X.getF 4 i235_1 rfl rfl (by decide) rfl rfl ?_
  refine X.bipush 6 i235_4 rfl rfl (by decide) ?_
  refine X.lald 7 i235_6 rfl rfl (by decide) rfl (by omega) ?_
  have h501 := r45_17 hJ 4
  refine X.ldc2 10 i235_7 rfl rfl (by decide) ?_
  refine X.lcmp 11 i235_10 rfl rfl (fun z502 hz502 => ?_)
  have hK507 : ∀ (v : Int) , (0 ≤ v ∧ v ≤ 64) → (if (m 4 45 17) < 64 then
      ((m 4 45 17))
      else
      (64)) = v → X (EE s) d 235 27 [] [zl v] m Q := by
    intro v504 hv504 hT508
    refine X.l2i 28 i235_27 rfl rfl (by omega) ?_
    refine X.reti i235_28 rfl t235 ?_
    exact hQ v504 (by first | trivial | omega) (Eq.trans (zn_eq hT508.symm) rfl) 
  refine X.ifge 24 14 i235_11 rfl rfl rfl (fun h503 => ?_) (fun h503 => ?_)
  · have h503c : ¬ (m 4 45 17) < 64 := by omega
    clear h503 hz502
    refine X.cut [] i235_24 rfl ?_
    refine X.ldc2 27 i235_24 rfl rfl (by decide) ?_
    exact hK507 64 (by first | trivial | omega) (Eq.trans (if_neg h503c) rfl)
  · have h503c : (m 4 45 17) < 64 := by omega
    clear h503 hz502
    refine X.aload_n 15 i235_14 rfl rfl rfl ?_
    refine X.getF 18 i235_15 rfl rfl (by decide) rfl rfl ?_
    refine X.bipush 20 i235_18 rfl rfl (by decide) ?_
    refine X.lald 21 i235_20 rfl rfl (by decide) rfl (by omega) ?_
    refine X.goto 27 i235_21 rfl rfl ?_
    refine X.cut [] i235_27 rfl ?_
    exact hK507 (m 4 45 17) (by first | trivial | omega) (Eq.trans (if_pos h503c) rfl)
def fl233_3_1_b (self : Int → zM → zM) (k22 : zM → zM) (y1 : Int) (m : zM) : zM :=
  if 27 < y1 then
  (k22 m)
  else
  (zs (z_upd m 4 45 y1 0) fun m505 =>
  self (y1 + 1) m505)
def fl233_3_1 (k22 : zM → zM) : Nat → Int → zM → zM
  | 0 => fun y1 m => m
  | n + 1 => fl233_3_1_b (fl233_3_1 k22 n) k22
theorem l233_3_1 {s : Nat × (Nat → Int32)} {S : zS} {m0 : zM} {d : Nat} {Q : Option zV → zM → Prop} {R0 : zM} {k22 : zM → zM} (BE : Int) (hE : BE ≤ 1000000000) (hd : 13 ≤ d) (hf7 : ¬ S.1 7) (hg4 : ¬ S.2.1 4)
    (K22 : ∀ (m' : zM) (B' : Int), J S m0 B' m' → B' ≤ BE → R0 = k22 m' → X (EE s) d 233 22 [(0, zr 4 44)] [] m' Q) :
    ∀ (n : Nat) (y1 : Int) (m : zM) (B : Int), J S m0 B m → B + 0 * (n : Int) ≤ BE → (22 ≤ y1 ∧ y1 ≤ 28) → 28 - y1 < (n : Int) → R0 = fl233_3_1 k22 n y1 m → X (EE s) d 233 3 [(0, zr 4 44), (1, zi y1)] [] m Q := by
  intro n
  induction n with
  | zero =>
    intro y1 m B hJ hB hy1 hn hR
    exfalso
    omega
  | succ n ih =>
    intro y1 m B hJ hB hy1 hn hR
    replace hR : R0 = fl233_3_1_b (fl233_3_1 k22 n) k22 y1 m := hR
    refine X.iload_n 4 i233_3 rfl rfl rfl ?_
    refine X.bipush 6 i233_4 rfl rfl (by decide) ?_
    refine X.icmpgt 22 9 i233_6 rfl rfl rfl (fun h504 => ?_) (fun h504 => ?_)
    · refine X.cut [(0, zr 4 44)] i233_22 rfl ?_
      exact K22  m (B) (hJ.up (by omega)) (by omega)  (Eq.trans hR (Eq.trans (if_pos h504) rfl))
    · refine X.aload_n 10 i233_9 rfl rfl rfl ?_
      refine X.getF 13 i233_10 rfl rfl (by decide) rfl rfl ?_
      refine X.iload_n 14 i233_13 rfl rfl rfl ?_
      refine X.lconst (y := 0) 15 i233_14 rfl rfl rfl ?_
      refine X.last' 16 i233_15 rfl rfl (by decide) rfl (by omega) (fun hrm505 m505 hm505 => ?_)
      have hJ506 := w45_21 hJ hm505 (by omega) hrm505 hf7 hg4
      refine X.iinc 19 [(0, zr 4 44), (1, zi (y1 + 1))] i233_16 rfl rfl rfl (by omega) rfl ?_
      refine X.goto 3 i233_19 rfl rfl ?_
      exact ih (y1 + 1) m505 (B) (hJ506.up (by omega)) (by omega) (by omega) (by omega) (Eq.trans hR (Eq.trans (if_neg h504) (Eq.trans (zs_eq hm505) rfl)))
-- WorkMeterModel.beginsBlock
def f233_1 (m : zM) : zM :=
  fl233_3_1 (fun m501 =>
  zn (((m501 4 45 0) % (m501 4 45 8))) fun z507 =>
  zn (if z507 = 0 then
  (0)
  else
  (1)) fun v510 =>
  zs (z_upd m501 4 45 21 v510) fun m515 =>
  m515) 7 22 m
-- WorkMeterModel.beginsBlock
theorem c233_1 {s : Nat × (Nat → Int32)} {S : zS} {m0 m : zM} {B : Int} {d : Nat} {Q : Option zV → zM → Prop} (hd : 13 ≤ d) (hJ : J S m0 B m) (hB : B + 0 ≤ 1000000000) (hf7 : ¬ S.1 7) (hg4 : ¬ S.2.1 4) (hQ : ∀ m', f233_1 m = m' → J S m0 (B) m' → Q none m') : X (EE s) d 233 0 [(0, zr 4 44)] [] m Q := by
  refine X.bipush 2 i233_0 rfl rfl (by decide) ?_
  refine X.istore_n 3 [(0, zr 4 44), (1, zi 22)] i233_2 rfl rfl rfl ?_
  refine l233_3_1 (s := s) (d := d) (R0 := (f233_1 m))    (BE := B + 0) (by omega) (by omega) hf7 hg4 (fun  m501 B502 hJ503 hBB502 hR504 => ?_) 7 22 m (B) (hJ.up (by omega)) (by omega) (by omega) (by omega) rfl
  refine X.aload_n 23 i233_22 rfl rfl rfl ?_
  refine X.getF 26 i233_23 rfl rfl (by decide) rfl rfl ?_
  refine X.bipush 28 i233_26 rfl rfl (by decide) ?_
  refine X.aload_n 29 i233_28 rfl rfl rfl ?_
  refine X.getF 32 i233_29 rfl rfl (by decide) rfl rfl ?_
  refine X.iconst 33 i233_32 rfl rfl (by decide) ?_
  refine X.lald 34 i233_33 rfl rfl (by decide) rfl (by omega) ?_
  have h505 := r45_0 hJ503 4
  refine X.aload_n 35 i233_34 rfl rfl rfl ?_
  refine X.getF 38 i233_35 rfl rfl (by decide) rfl rfl ?_
  refine X.bipush 40 i233_38 rfl rfl (by decide) ?_
  refine X.lald 41 i233_40 rfl rfl (by decide) rfl (by omega) ?_
  have h506 := r45_8 hJ503 4
  refine X.lremp 42 i233_41 rfl rfl (by omega) ?_
  have hz507 := z_modb (x := (m501 4 45 0)) (y := (m501 4 45 8)) (by omega) (by omega)
  obtain ⟨z507, ez507⟩ : ∃ z, z = ((m501 4 45 0) % (m501 4 45 8)) := ⟨_, rfl⟩
  rw [← ez507] at hz507 ⊢
  refine X.lconst (y := 0) 43 i233_42 rfl rfl rfl ?_
  refine X.lcmp 44 i233_43 rfl rfl (fun z508 hz508 => ?_)
  have hK513 : ∀ (v : Int) , (0 ≤ v ∧ v ≤ 1) → (if z507 = 0 then
      (0)
      else
      (1)) = v → X (EE s) d 233 52 [] [zl v, zi 21, zr 4 45] m501 Q := by
    intro v510 hv510 hT514
    refine X.last' 53 i233_52 rfl rfl (by decide) rfl (by omega) (fun hrm515 m515 hm515 => ?_)
    have hJ516 := w45_21 hJ503 hm515 (by omega) hrm515 hf7 hg4
    refine X.retv i233_53 rfl t233 ?_
    exact hQ  m515  (Eq.trans hR504 (Eq.trans (zn_eq ez507) (Eq.trans (zn_eq hT514.symm) (Eq.trans (zs_eq hm515) rfl)))) (hJ516.up (by omega)) 
  refine X.ifne 51 47 i233_44 rfl rfl rfl (fun h509 => ?_) (fun h509 => ?_)
  · have h509c : ¬ z507 = 0 := by omega
    clear h509 hz508
    refine X.cut [] i233_51 rfl ?_
    refine X.lconst (y := 1) 52 i233_51 rfl rfl rfl ?_
    exact hK513 1 (by first | trivial | omega) (Eq.trans (if_neg h509c) rfl)
  · have h509c : z507 = 0 := by omega
    clear h509 hz508
    refine X.lconst (y := 0) 48 i233_47 rfl rfl rfl ?_
    refine X.goto 52 i233_48 rfl rfl ?_
    refine X.cut [] i233_52 rfl ?_
    exact hK513 0 (by first | trivial | omega) (Eq.trans (if_pos h509c) rfl)
-- WorkMeterModel.line
def f234_1 (a1 a2 : Int) (m : zM) : Int :=
  (m 4 45 ((788 + (6 * a1)) + a2))
-- WorkMeterModel.line
theorem c234_1 {s : Nat × (Nat → Int32)} {S : zS} {m0 m : zM} {B : Int} {d : Nat} {Q : Option zV → zM → Prop} (a1 a2 : Int) (hd : 13 ≤ d) (hJ : J S m0 B m) (hB : B + 0 ≤ 1000000000) (ha1 : (-5) ≤ a1 ∧ a1 ≤ 63) (ha2 : 5 ≤ a2 ∧ a2 ≤ 5) (hQ : ∀ (v : Int), (True) → f234_1 a1 a2 m = v → Q (some (zl v)) m) : X (EE s) d 234 0 [(0, zr 4 44), (1, zi a1), (2, zi a2)] [] m Q := by
  refine X.aload_n 1 i234_0 rfl rfl rfl ?_
  refine X.getF 4 i234_1 rfl rfl (by decide) rfl rfl ?_
  refine X.sipush 7 i234_4 rfl rfl (by decide) ?_
  refine X.bipush 9 i234_7 rfl rfl (by decide) ?_
  refine X.iload_n 10 i234_9 rfl rfl rfl ?_
  refine X.imul 11 i234_10 rfl rfl (by omega) ?_
  refine X.iadd 12 i234_11 rfl rfl (by omega) ?_
  refine X.iload_n 13 i234_12 rfl rfl rfl ?_
  refine X.iadd 14 i234_13 rfl rfl (by omega) ?_
  refine X.lald 15 i234_14 rfl rfl (by decide) rfl (by omega) ?_
  refine X.retl i234_15 rfl t234 ?_
  exact hQ (m 4 45 ((788 + (6 * a1)) + a2)) (by first | trivial | omega) rfl 
-- WorkMeterModel.line
theorem c234_2 {s : Nat × (Nat → Int32)} {S : zS} {m0 m : zM} {B : Int} {d : Nat} {Q : Option zV → zM → Prop} (a1 a2 : Int) (hd : 13 ≤ d) (hJ : J S m0 B m) (hB : B + 0 ≤ 1000000000) (ha1 : 0 ≤ a1 ∧ a1 ≤ 63) (ha2 : 1 ≤ a2 ∧ a2 ≤ 1) (hQ : ∀ (v : Int), (True) → f234_1 a1 a2 m = v → Q (some (zl v)) m) : X (EE s) d 234 0 [(0, zr 4 44), (1, zi a1), (2, zi a2)] [] m Q := by
  refine X.aload_n 1 i234_0 rfl rfl rfl ?_
  refine X.getF 4 i234_1 rfl rfl (by decide) rfl rfl ?_
  refine X.sipush 7 i234_4 rfl rfl (by decide) ?_
  refine X.bipush 9 i234_7 rfl rfl (by decide) ?_
  refine X.iload_n 10 i234_9 rfl rfl rfl ?_
  refine X.imul 11 i234_10 rfl rfl (by omega) ?_
  refine X.iadd 12 i234_11 rfl rfl (by omega) ?_
  refine X.iload_n 13 i234_12 rfl rfl rfl ?_
  refine X.iadd 14 i234_13 rfl rfl (by omega) ?_
  refine X.lald 15 i234_14 rfl rfl (by decide) rfl (by omega) ?_
  refine X.retl i234_15 rfl t234 ?_
  exact hQ (m 4 45 ((788 + (6 * a1)) + a2)) (by first | trivial | omega) rfl 
-- WorkMeterModel.line
theorem c234_3 {s : Nat × (Nat → Int32)} {S : zS} {m0 m : zM} {B : Int} {d : Nat} {Q : Option zV → zM → Prop} (a1 a2 : Int) (hd : 13 ≤ d) (hJ : J S m0 B m) (hB : B + 0 ≤ 1000000000) (ha1 : (-4) ≤ a1 ∧ a1 ≤ 63) (ha2 : 0 ≤ a2 ∧ a2 ≤ 0) (hQ : ∀ (v : Int), (True) → f234_1 a1 a2 m = v → Q (some (zl v)) m) : X (EE s) d 234 0 [(0, zr 4 44), (1, zi a1), (2, zi a2)] [] m Q := by
  refine X.aload_n 1 i234_0 rfl rfl rfl ?_
  refine X.getF 4 i234_1 rfl rfl (by decide) rfl rfl ?_
  refine X.sipush 7 i234_4 rfl rfl (by decide) ?_
  refine X.bipush 9 i234_7 rfl rfl (by decide) ?_
  refine X.iload_n 10 i234_9 rfl rfl rfl ?_
  refine X.imul 11 i234_10 rfl rfl (by omega) ?_
  refine X.iadd 12 i234_11 rfl rfl (by omega) ?_
  refine X.iload_n 13 i234_12 rfl rfl rfl ?_
  refine X.iadd 14 i234_13 rfl rfl (by omega) ?_
  refine X.lald 15 i234_14 rfl rfl (by decide) rfl (by omega) ?_
  refine X.retl i234_15 rfl t234 ?_
  exact hQ (m 4 45 ((788 + (6 * a1)) + a2)) (by first | trivial | omega) rfl 
-- WorkMeterModel.line
theorem c234_4 {s : Nat × (Nat → Int32)} {S : zS} {m0 m : zM} {B : Int} {d : Nat} {Q : Option zV → zM → Prop} (a1 a2 : Int) (hd : 13 ≤ d) (hJ : J S m0 B m) (hB : B + 0 ≤ 1000000000) (ha1 : (-5) ≤ a1 ∧ a1 ≤ 62) (ha2 : 0 ≤ a2 ∧ a2 ≤ 0) (hQ : ∀ (v : Int), (True) → f234_1 a1 a2 m = v → Q (some (zl v)) m) : X (EE s) d 234 0 [(0, zr 4 44), (1, zi a1), (2, zi a2)] [] m Q := by
  refine X.aload_n 1 i234_0 rfl rfl rfl ?_
  refine X.getF 4 i234_1 rfl rfl (by decide) rfl rfl ?_
  refine X.sipush 7 i234_4 rfl rfl (by decide) ?_
  refine X.bipush 9 i234_7 rfl rfl (by decide) ?_
  refine X.iload_n 10 i234_9 rfl rfl rfl ?_
  refine X.imul 11 i234_10 rfl rfl (by omega) ?_
  refine X.iadd 12 i234_11 rfl rfl (by omega) ?_
  refine X.iload_n 13 i234_12 rfl rfl rfl ?_
  refine X.iadd 14 i234_13 rfl rfl (by omega) ?_
  refine X.lald 15 i234_14 rfl rfl (by decide) rfl (by omega) ?_
  refine X.retl i234_15 rfl t234 ?_
  exact hQ (m 4 45 ((788 + (6 * a1)) + a2)) (by first | trivial | omega) rfl 
-- WorkMeterModel.line
theorem c234_5 {s : Nat × (Nat → Int32)} {S : zS} {m0 m : zM} {B : Int} {d : Nat} {Q : Option zV → zM → Prop} (a1 a2 : Int) (hd : 13 ≤ d) (hJ : J S m0 B m) (hB : B + 0 ≤ 1000000000) (ha1 : (-5) ≤ a1 ∧ a1 ≤ 62) (ha2 : 1 ≤ a2 ∧ a2 ≤ 1) (hQ : ∀ (v : Int), (True) → f234_1 a1 a2 m = v → Q (some (zl v)) m) : X (EE s) d 234 0 [(0, zr 4 44), (1, zi a1), (2, zi a2)] [] m Q := by
  refine X.aload_n 1 i234_0 rfl rfl rfl ?_
  refine X.getF 4 i234_1 rfl rfl (by decide) rfl rfl ?_
  refine X.sipush 7 i234_4 rfl rfl (by decide) ?_
  refine X.bipush 9 i234_7 rfl rfl (by decide) ?_
  refine X.iload_n 10 i234_9 rfl rfl rfl ?_
  refine X.imul 11 i234_10 rfl rfl (by omega) ?_
  refine X.iadd 12 i234_11 rfl rfl (by omega) ?_
  refine X.iload_n 13 i234_12 rfl rfl rfl ?_
  refine X.iadd 14 i234_13 rfl rfl (by omega) ?_
  refine X.lald 15 i234_14 rfl rfl (by decide) rfl (by omega) ?_
  refine X.retl i234_15 rfl t234 ?_
  exact hQ (m 4 45 ((788 + (6 * a1)) + a2)) (by first | trivial | omega) rfl 
def fl236_24_1_b (self : Int → Int → zM) (k95 : zM) (k112 : Int → zM) (y1 : Int) (m : zM) (y2 y4 : Int) : zM :=
  if y4 < (m 4 45 9) then
  (zn (f234_1 ((y1 - 1) - y4) 5 m) fun v564 =>
  zn (zandL v564 192) fun z565 =>
  if z565 = 0 then
  (if y4 ≤ 0 then
  (zn (f234_1 ((y1 - 1) - y4) 1 m) fun v571 =>
  zn (w64 (y2 + v571)) fun z572 =>
  self z572 (y4 + 1))
  else
  (zn (f234_1 (((y1 - 1) - y4) + 1) 0 m) fun v575 =>
  zn (w64 (v575 - (m 4 45 8))) fun z577 =>
  zn (f234_1 ((y1 - 1) - y4) 0 m) fun v580 =>
  if z577 = v580 then
  (zn (f234_1 ((y1 - 1) - y4) 1 m) fun v585 =>
  zn (w64 (y2 + v585)) fun z586 =>
  self z586 (y4 + 1))
  else
  (k95)))
  else
  (k95))
  else
  (k112 y2)
def fl236_24_1 (k95 : zM) (k112 : Int → zM) (y1 : Int) (m : zM) : Nat → Int → Int → zM
  | 0 => fun y2 y4 => m
  | n + 1 => fl236_24_1_b (fl236_24_1 k95 k112 y1 m n) k95 k112 y1 m
theorem l236_24_1 {s : Nat × (Nat → Int32)} {S : zS} {m0 : zM} {m : zM} {B : Int} {d : Nat} {Q : Option zV → zM → Prop} {R0 : zM} {k95 : zM} {k112 : Int → zM} (y1 : Int) (hd : 14 ≤ d) (hJ : J S m0 B m) (hB9 : B ≤ 1000000000) (hy1 : 1 ≤ y1 ∧ y1 ≤ 64)
    (K95 : R0 = k95 → X (EE s) d 236 95 [] [] m Q)
    (K112 : ∀ (x2 : Int) , (True) → R0 = k112 x2 → X (EE s) d 236 112 [(0, zr 4 44), (2, zl x2)] [] m Q) :
    ∀ (n : Nat) (y2 y4 : Int) , (0 ≤ y4 ∧ y4 ≤ 6) → 6 - y4 < (n : Int) → R0 = fl236_24_1 k95 k112 y1 m n y2 y4 → X (EE s) d 236 24 [(0, zr 4 44), (1, zi y1), (2, zl y2), (4, zi y4)] [] m Q := by
  intro n
  induction n with
  | zero =>
    intro y2 y4 hy4 hn hR
    exfalso
    omega
  | succ n ih =>
    intro y2 y4 hy4 hn hR
    replace hR : R0 = fl236_24_1_b (fl236_24_1 k95 k112 y1 m n) k95 k112 y1 m y2 y4 := hR
    refine X.iload 26 i236_24 rfl rfl rfl ?_
    refine X.i2l 27 i236_26 rfl rfl ?_
    refine X.aload_n 28 i236_27 rfl rfl rfl ?_
    refine X.getF 31 i236_28 rfl rfl (by decide) rfl rfl ?_
    refine X.bipush 33 i236_31 rfl rfl (by decide) ?_
    refine X.lald 34 i236_33 rfl rfl (by decide) rfl (by omega) ?_
    have h559 := r45_9 hJ 4
    refine X.lcmp 35 i236_34 rfl rfl (fun z560 hz560 => ?_)
    refine X.ifge 112 38 i236_35 rfl rfl rfl (fun h561 => ?_) (fun h561 => ?_)
    · have h561c : ¬ y4 < (m 4 45 9) := by omega
      clear h561 hz560
      refine X.cut [(0, zr 4 44), (2, zl y2)] i236_112 rfl ?_
      exact K112 y2 (by first | trivial | omega) (Eq.trans hR (Eq.trans (if_neg h561c) rfl))
    · have h561c : y4 < (m 4 45 9) := by omega
      clear h561 hz560
      refine X.iload_n 39 i236_38 rfl rfl rfl ?_
      refine X.iconst 40 i236_39 rfl rfl (by decide) ?_
      refine X.isub 41 i236_40 rfl rfl (by omega) ?_
      refine X.iload 43 i236_41 rfl rfl rfl ?_
      refine X.isub 44 i236_43 rfl rfl (by omega) ?_
      refine X.istore 46 [(0, zr 4 44), (1, zi y1), (2, zl y2), (4, zi y4), (5, zi ((y1 - 1) - y4))] i236_44 rfl rfl rfl ?_
      refine X.aload_n 47 i236_46 rfl rfl rfl ?_
      refine X.iload 49 i236_47 rfl rfl rfl ?_
      refine X.iconst 50 i236_49 rfl rfl (by decide) ?_
      refine X.callv 53 [zi ((y1 - 1) - y4), zi 5] [] [(0, zr 4 44), (1, zi ((y1 - 1) - y4)), (2, zi 5)] i236_50 rfl (by decide) rfl rfl (by omega) rfl rfl (by decide) rfl t234 (Nat.le_of_ble_eq_true rfl) (Nat.le_of_ble_eq_true rfl) rfl ?_
      refine c234_1 (B := B)  ((y1 - 1) - y4) 5 (by omega) (hJ.up (by omega)) (by omega) (by omega) (by omega) (fun v564 hv564 hFv564 => ?_)
      show X (EE s) d 236 53 [(0, zr 4 44), (1, zi y1), (2, zl y2), (4, zi y4), (5, zi ((y1 - 1) - y4))] [zl v564] m _
      refine X.ldc2 56 i236_53 rfl rfl (by decide) ?_
      refine X.llE 57 .land (fun x y => x &&& y) i236_56 rfl rfl rfl (fun _ _ => rfl) (fun z565 ez565 hz565 => ?_)
      refine X.lconst (y := 0) 58 i236_57 rfl rfl rfl ?_
      refine X.lcmp 59 i236_58 rfl rfl (fun z566 hz566 => ?_)
      refine X.ifne 95 62 i236_59 rfl rfl rfl (fun h567 => ?_) (fun h567 => ?_)
      · have h567c : ¬ z565 = 0 := by omega
        clear h567 hz566
        refine X.cut [] i236_95 rfl ?_
        exact K95   (Eq.trans hR (Eq.trans (if_pos h561c) (Eq.trans (zn_eq hFv564.symm) (Eq.trans (zn_eq ez565) (Eq.trans (if_neg h567c) rfl)))))
      · have h567c : z565 = 0 := by omega
        clear h567 hz566
        refine X.iload 64 i236_62 rfl rfl rfl ?_
        refine X.ifle 96 67 i236_64 rfl rfl rfl (fun h568 => ?_) (fun h568 => ?_)
        · refine X.lload_n 97 i236_96 rfl rfl rfl ?_
          refine X.aload_n 98 i236_97 rfl rfl rfl ?_
          refine X.iload 100 i236_98 rfl rfl rfl ?_
          refine X.iconst 101 i236_100 rfl rfl (by decide) ?_
          refine X.callv 104 [zi ((y1 - 1) - y4), zi 1] [zl y2] [(0, zr 4 44), (1, zi ((y1 - 1) - y4)), (2, zi 1)] i236_101 rfl (by decide) rfl rfl (by omega) rfl rfl (by decide) rfl t234 (Nat.le_of_ble_eq_true rfl) (Nat.le_of_ble_eq_true rfl) rfl ?_
          refine c234_2 (B := B)  ((y1 - 1) - y4) 1 (by omega) (hJ.up (by omega)) (by omega) (by omega) (by omega) (fun v571 hv571 hFv571 => ?_)
          show X (EE s) d 236 104 [(0, zr 4 44), (1, zi y1), (2, zl y2), (4, zi y4), (5, zi ((y1 - 1) - y4))] [zl v571, zl y2] m _
          refine X.laddW 105 i236_104 rfl rfl (fun z572 ez572 hz572 => ?_)
          refine X.lstore_n 106 [(0, zr 4 44), (1, zi y1), (2, zl z572), (4, zi y4), (5, zi ((y1 - 1) - y4))] i236_105 rfl rfl rfl ?_
          refine X.iinc 109 [(0, zr 4 44), (1, zi y1), (2, zl z572), (4, zi (y4 + 1)), (5, zi ((y1 - 1) - y4))] i236_106 rfl rfl rfl (by omega) rfl ?_
          refine X.goto 24 i236_109 rfl rfl ?_
          refine X.cut [(0, zr 4 44), (1, zi y1), (2, zl z572), (4, zi (y4 + 1))] i236_24 rfl ?_
          exact ih z572 (y4 + 1) (by omega) (by omega) (Eq.trans hR (Eq.trans (if_pos h561c) (Eq.trans (zn_eq hFv564.symm) (Eq.trans (zn_eq ez565) (Eq.trans (if_pos h567c) (Eq.trans (if_pos h568) (Eq.trans (zn_eq hFv571.symm) (Eq.trans (zn_eq ez572) rfl))))))))
        · refine X.aload_n 68 i236_67 rfl rfl rfl ?_
          refine X.iload 70 i236_68 rfl rfl rfl ?_
          refine X.iconst 71 i236_70 rfl rfl (by decide) ?_
          refine X.iadd 72 i236_71 rfl rfl (by omega) ?_
          refine X.iconst 73 i236_72 rfl rfl (by decide) ?_
          refine X.callv 76 [zi (((y1 - 1) - y4) + 1), zi 0] [] [(0, zr 4 44), (1, zi (((y1 - 1) - y4) + 1)), (2, zi 0)] i236_73 rfl (by decide) rfl rfl (by omega) rfl rfl (by decide) rfl t234 (Nat.le_of_ble_eq_true rfl) (Nat.le_of_ble_eq_true rfl) rfl ?_
          refine c234_3 (B := B)  (((y1 - 1) - y4) + 1) 0 (by omega) (hJ.up (by omega)) (by omega) (by omega) (by omega) (fun v575 hv575 hFv575 => ?_)
          show X (EE s) d 236 76 [(0, zr 4 44), (1, zi y1), (2, zl y2), (4, zi y4), (5, zi ((y1 - 1) - y4))] [zl v575] m _
          refine X.aload_n 77 i236_76 rfl rfl rfl ?_
          refine X.getF 80 i236_77 rfl rfl (by decide) rfl rfl ?_
          refine X.bipush 82 i236_80 rfl rfl (by decide) ?_
          refine X.lald 83 i236_82 rfl rfl (by decide) rfl (by omega) ?_
          have h576 := r45_8 hJ 4
          refine X.lsubW 84 i236_83 rfl rfl (fun z577 ez577 hz577 => ?_)
          refine X.aload_n 85 i236_84 rfl rfl rfl ?_
          refine X.iload 87 i236_85 rfl rfl rfl ?_
          refine X.iconst 88 i236_87 rfl rfl (by decide) ?_
          refine X.callv 91 [zi ((y1 - 1) - y4), zi 0] [zl z577] [(0, zr 4 44), (1, zi ((y1 - 1) - y4)), (2, zi 0)] i236_88 rfl (by decide) rfl rfl (by omega) rfl rfl (by decide) rfl t234 (Nat.le_of_ble_eq_true rfl) (Nat.le_of_ble_eq_true rfl) rfl ?_
          refine c234_4 (B := B)  ((y1 - 1) - y4) 0 (by omega) (hJ.up (by omega)) (by omega) (by omega) (by omega) (fun v580 hv580 hFv580 => ?_)
          show X (EE s) d 236 91 [(0, zr 4 44), (1, zi y1), (2, zl y2), (4, zi y4), (5, zi ((y1 - 1) - y4))] [zl v580, zl z577] m _
          refine X.lcmp 92 i236_91 rfl rfl (fun z581 hz581 => ?_)
          refine X.ifeq 96 95 i236_92 rfl rfl rfl (fun h582 => ?_) (fun h582 => ?_)
          · have h582c : z577 = v580 := by omega
            clear h582 hz581
            refine X.lload_n 97 i236_96 rfl rfl rfl ?_
            refine X.aload_n 98 i236_97 rfl rfl rfl ?_
            refine X.iload 100 i236_98 rfl rfl rfl ?_
            refine X.iconst 101 i236_100 rfl rfl (by decide) ?_
            refine X.callv 104 [zi ((y1 - 1) - y4), zi 1] [zl y2] [(0, zr 4 44), (1, zi ((y1 - 1) - y4)), (2, zi 1)] i236_101 rfl (by decide) rfl rfl (by omega) rfl rfl (by decide) rfl t234 (Nat.le_of_ble_eq_true rfl) (Nat.le_of_ble_eq_true rfl) rfl ?_
            refine c234_5 (B := B)  ((y1 - 1) - y4) 1 (by omega) (hJ.up (by omega)) (by omega) (by omega) (by omega) (fun v585 hv585 hFv585 => ?_)
            show X (EE s) d 236 104 [(0, zr 4 44), (1, zi y1), (2, zl y2), (4, zi y4), (5, zi ((y1 - 1) - y4))] [zl v585, zl y2] m _
            refine X.laddW 105 i236_104 rfl rfl (fun z586 ez586 hz586 => ?_)
            refine X.lstore_n 106 [(0, zr 4 44), (1, zi y1), (2, zl z586), (4, zi y4), (5, zi ((y1 - 1) - y4))] i236_105 rfl rfl rfl ?_
            refine X.iinc 109 [(0, zr 4 44), (1, zi y1), (2, zl z586), (4, zi (y4 + 1)), (5, zi ((y1 - 1) - y4))] i236_106 rfl rfl rfl (by omega) rfl ?_
            refine X.goto 24 i236_109 rfl rfl ?_
            refine X.cut [(0, zr 4 44), (1, zi y1), (2, zl z586), (4, zi (y4 + 1))] i236_24 rfl ?_
            exact ih z586 (y4 + 1) (by omega) (by omega) (Eq.trans hR (Eq.trans (if_pos h561c) (Eq.trans (zn_eq hFv564.symm) (Eq.trans (zn_eq ez565) (Eq.trans (if_pos h567c) (Eq.trans (if_neg h568) (Eq.trans (zn_eq hFv575.symm) (Eq.trans (zn_eq ez577) (Eq.trans (zn_eq hFv580.symm) (Eq.trans (if_pos h582c) (Eq.trans (zn_eq hFv585.symm) (Eq.trans (zn_eq ez586) rfl))))))))))))
          · have h582c : ¬ z577 = v580 := by omega
            clear h582 hz581
            refine X.cut [] i236_95 rfl ?_
            exact K95   (Eq.trans hR (Eq.trans (if_pos h561c) (Eq.trans (zn_eq hFv564.symm) (Eq.trans (zn_eq ez565) (Eq.trans (if_pos h567c) (Eq.trans (if_neg h568) (Eq.trans (zn_eq hFv575.symm) (Eq.trans (zn_eq ez577) (Eq.trans (zn_eq hFv580.symm) (Eq.trans (if_neg h582c) rfl))))))))))
-- WorkMeterModel.demands
def f236_1 (m : zM) : zM :=
  zn (f235_1 m) fun v503 =>
  if v503 < (m 4 45 9) then
  (m)
  else
  (fl236_24_1 (m) (fun y511 =>
  zs (z_upd m 4 45 19 y511) fun m516 =>
  zs (z_upd m516 4 45 20 (m516 4 45 0)) fun m519 =>
  zn (f217_1 ((m519 4 45 0) - 1) m519) fun v524 =>
  if y511 ≤ (m519 4 45 (32 + v524)) then
  (m519)
  else
  (zs (z_upd m519 4 45 (32 + v524) y511) fun m527 =>
  zs (z_upd m527 4 45 (36 + v524) (m527 4 45 0)) fun m530 =>
  m530)) v503 m 7 0 0)
-- WorkMeterModel.demands
theorem c236_1 {s : Nat × (Nat → Int32)} {S : zS} {m0 m : zM} {B : Int} {d : Nat} {Q : Option zV → zM → Prop} (hd : 16 ≤ d) (hJ : J S m0 B m) (hB : B + 0 ≤ 1000000000) (hf8 : ¬ S.1 8) (hg4 : ¬ S.2.1 4) (hQ : ∀ m', f236_1 m = m' → J S m0 (B) m' → Q none m') : X (EE s) d 236 0 [(0, zr 4 44)] [] m Q := by
  refine X.aload_n 1 i236_0 rfl rfl rfl ?_
  refine X.callv 4 [] [] [(0, zr 4 44)] i236_1 rfl (by decide) rfl rfl (by omega) rfl rfl (by decide) rfl t235 (Nat.le_of_ble_eq_true rfl) (Nat.le_of_ble_eq_true rfl) rfl ?_
  refine c235_1 (B := B)   (by omega) (hJ.up (by omega)) (by omega)  (fun v503 hv503 hFv503 => ?_)
  show X (EE s) d 236 4 [(0, zr 4 44)] [zi v503] m _
  refine X.istore_n 5 [(0, zr 4 44), (1, zi v503)] i236_4 rfl rfl rfl ?_
  refine X.iload_n 6 i236_5 rfl rfl rfl ?_
  refine X.i2l 7 i236_6 rfl rfl ?_
  refine X.aload_n 8 i236_7 rfl rfl rfl ?_
  refine X.getF 11 i236_8 rfl rfl (by decide) rfl rfl ?_
  refine X.bipush 13 i236_11 rfl rfl (by decide) ?_
  refine X.lald 14 i236_13 rfl rfl (by decide) rfl (by omega) ?_
  have h504 := r45_9 hJ 4
  refine X.lcmp 15 i236_14 rfl rfl (fun z505 hz505 => ?_)
  refine X.ifge 19 18 i236_15 rfl rfl rfl (fun h506 => ?_) (fun h506 => ?_)
  · have h506c : ¬ v503 < (m 4 45 9) := by omega
    clear h506 hz505
    refine X.lconst (y := 0) 20 i236_19 rfl rfl rfl ?_
    refine X.lstore_n 21 [(0, zr 4 44), (1, zi v503), (2, zl 0)] i236_20 rfl rfl rfl ?_
    refine X.iconst 22 i236_21 rfl rfl (by decide) ?_
    refine X.istore 24 [(0, zr 4 44), (1, zi v503), (2, zl 0), (4, zi 0)] i236_22 rfl rfl rfl ?_
    refine l236_24_1 (s := s) (m := m) (B := B) (d := d) (R0 := (f236_1 m))  v503  (by omega) (hJ.up (by omega)) (by omega) (by omega) (fun  hR510 => ?_) (fun y511 hby511 hR515 => ?_) 7 0 0 (by omega) (by omega) (Eq.trans (zn_eq hFv503.symm) (Eq.trans (if_neg h506c) rfl))
    · refine X.retv i236_95 rfl t236 ?_
      exact hQ  m  (Eq.trans hR510 rfl) (hJ.up (by omega)) 
    · refine X.aload_n 113 i236_112 rfl rfl rfl ?_
      refine X.getF 116 i236_113 rfl rfl (by decide) rfl rfl ?_
      refine X.bipush 118 i236_116 rfl rfl (by decide) ?_
      refine X.lload_n 119 i236_118 rfl rfl rfl ?_
      refine X.last' 120 i236_119 rfl rfl (by decide) rfl (by omega) (fun hrm516 m516 hm516 => ?_)
      have hJ517 := w45_19 hJ hm516 (by omega) hrm516 hf8 hg4
      refine X.aload_n 121 i236_120 rfl rfl rfl ?_
      refine X.getF 124 i236_121 rfl rfl (by decide) rfl rfl ?_
      refine X.bipush 126 i236_124 rfl rfl (by decide) ?_
      refine X.aload_n 127 i236_126 rfl rfl rfl ?_
      refine X.getF 130 i236_127 rfl rfl (by decide) rfl rfl ?_
      refine X.iconst 131 i236_130 rfl rfl (by decide) ?_
      refine X.lald 132 i236_131 rfl rfl (by decide) rfl (by omega) ?_
      have h518 := r45_0 hJ517 4
      refine X.last' 133 i236_132 rfl rfl (by decide) rfl (by omega) (fun hrm519 m519 hm519 => ?_)
      have hJ520 := w45_19 hJ517 hm519 (by omega) hrm519 hf8 hg4
      refine X.aload_n 134 i236_133 rfl rfl rfl ?_
      refine X.aload_n 135 i236_134 rfl rfl rfl ?_
      refine X.getF 138 i236_135 rfl rfl (by decide) rfl rfl ?_
      refine X.iconst 139 i236_138 rfl rfl (by decide) ?_
      refine X.lald 140 i236_139 rfl rfl (by decide) rfl (by omega) ?_
      have h521 := r45_0 hJ520 4
      refine X.l2i 141 i236_140 rfl rfl (by omega) ?_
      refine X.iconst 142 i236_141 rfl rfl (by decide) ?_
      refine X.isub 143 i236_142 rfl rfl (by omega) ?_
      refine X.callv 146 [zi ((m519 4 45 0) - 1)] [] [(0, zr 4 44), (1, zi ((m519 4 45 0) - 1))] i236_143 rfl (by decide) rfl rfl (by omega) rfl rfl (by decide) rfl t217 (Nat.le_of_ble_eq_true rfl) (Nat.le_of_ble_eq_true rfl) rfl ?_
      refine c217_1 (B := B)  ((m519 4 45 0) - 1) (by omega) (hJ520.up (by omega)) (by omega) (by omega) (fun v524 hv524 hFv524 => ?_)
      show X (EE s) d 236 146 [(0, zr 4 44), (2, zl y511)] [zi v524] m519 _
      refine X.istore 148 [(0, zr 4 44), (2, zl y511), (4, zi v524)] i236_146 rfl rfl rfl ?_
      refine X.lload_n 149 i236_148 rfl rfl rfl ?_
      refine X.aload_n 150 i236_149 rfl rfl rfl ?_
      refine X.getF 153 i236_150 rfl rfl (by decide) rfl rfl ?_
      refine X.bipush 155 i236_153 rfl rfl (by decide) ?_
      refine X.iload 157 i236_155 rfl rfl rfl ?_
      refine X.iadd 158 i236_157 rfl rfl (by omega) ?_
      refine X.lald 159 i236_158 rfl rfl (by decide) rfl (by omega) ?_
      refine X.lcmp 160 i236_159 rfl rfl (fun z525 hz525 => ?_)
      refine X.ifgt 164 163 i236_160 rfl rfl rfl (fun h526 => ?_) (fun h526 => ?_)
      · have h526c : ¬ y511 ≤ (m519 4 45 (32 + v524)) := by omega
        clear h526 hz525
        refine X.aload_n 165 i236_164 rfl rfl rfl ?_
        refine X.getF 168 i236_165 rfl rfl (by decide) rfl rfl ?_
        refine X.bipush 170 i236_168 rfl rfl (by decide) ?_
        refine X.iload 172 i236_170 rfl rfl rfl ?_
        refine X.iadd 173 i236_172 rfl rfl (by omega) ?_
        refine X.lload_n 174 i236_173 rfl rfl rfl ?_
        refine X.last' 175 i236_174 rfl rfl (by decide) rfl (by omega) (fun hrm527 m527 hm527 => ?_)
        have hJ528 := w45_32 hJ520 hm527 (by omega) hrm527 hf8 hg4
        refine X.aload_n 176 i236_175 rfl rfl rfl ?_
        refine X.getF 179 i236_176 rfl rfl (by decide) rfl rfl ?_
        refine X.bipush 181 i236_179 rfl rfl (by decide) ?_
        refine X.iload 183 i236_181 rfl rfl rfl ?_
        refine X.iadd 184 i236_183 rfl rfl (by omega) ?_
        refine X.aload_n 185 i236_184 rfl rfl rfl ?_
        refine X.getF 188 i236_185 rfl rfl (by decide) rfl rfl ?_
        refine X.iconst 189 i236_188 rfl rfl (by decide) ?_
        refine X.lald 190 i236_189 rfl rfl (by decide) rfl (by omega) ?_
        have h529 := r45_0 hJ528 4
        refine X.last' 191 i236_190 rfl rfl (by decide) rfl (by omega) (fun hrm530 m530 hm530 => ?_)
        have hJ531 := w45_32 hJ528 hm530 (by omega) hrm530 hf8 hg4
        refine X.retv i236_191 rfl t236 ?_
        exact hQ  m530  (Eq.trans hR515 (Eq.trans (zs_eq hm516) (Eq.trans (zs_eq hm519) (Eq.trans (zn_eq hFv524.symm) (Eq.trans (if_neg h526c) (Eq.trans (zs_eq hm527) (Eq.trans (zs_eq hm530) rfl))))))) (hJ531.up (by omega)) 
      · have h526c : y511 ≤ (m519 4 45 (32 + v524)) := by omega
        clear h526 hz525
        refine X.retv i236_163 rfl t236 ?_
        exact hQ  m519  (Eq.trans hR515 (Eq.trans (zs_eq hm516) (Eq.trans (zs_eq hm519) (Eq.trans (zn_eq hFv524.symm) (Eq.trans (if_pos h526c) rfl))))) (hJ520.up (by omega)) 
  · have h506c : v503 < (m 4 45 9) := by omega
    clear h506 hz505
    refine X.retv i236_18 rfl t236 ?_
    exact hQ  m  (Eq.trans (zn_eq hFv503.symm) (Eq.trans (if_pos h506c) rfl)) (hJ.up (by omega)) 
-- WorkMeterModel.line
theorem c234_6 {s : Nat × (Nat → Int32)} {S : zS} {m0 m : zM} {B : Int} {d : Nat} {Q : Option zV → zM → Prop} (a1 a2 : Int) (hd : 13 ≤ d) (hJ : J S m0 B m) (hB : B + 0 ≤ 1000000000) (ha1 : 0 ≤ a1 ∧ a1 ≤ 0) (ha2 : 1 ≤ a2 ∧ a2 ≤ 4) (hQ : ∀ (v : Int), (True) → f234_1 a1 a2 m = v → Q (some (zl v)) m) : X (EE s) d 234 0 [(0, zr 4 44), (1, zi a1), (2, zi a2)] [] m Q := by
  refine X.aload_n 1 i234_0 rfl rfl rfl ?_
  refine X.getF 4 i234_1 rfl rfl (by decide) rfl rfl ?_
  refine X.sipush 7 i234_4 rfl rfl (by decide) ?_
  refine X.bipush 9 i234_7 rfl rfl (by decide) ?_
  refine X.iload_n 10 i234_9 rfl rfl rfl ?_
  refine X.imul 11 i234_10 rfl rfl (by omega) ?_
  refine X.iadd 12 i234_11 rfl rfl (by omega) ?_
  refine X.iload_n 13 i234_12 rfl rfl rfl ?_
  refine X.iadd 14 i234_13 rfl rfl (by omega) ?_
  refine X.lald 15 i234_14 rfl rfl (by decide) rfl (by omega) ?_
  refine X.retl i234_15 rfl t234 ?_
  exact hQ (m 4 45 ((788 + (6 * a1)) + a2)) (by first | trivial | omega) rfl 
def fl232_112_1_b (self : Int → zM → zM) (k147 : zM → zM) (y1 y3 : Int) (y5 : Int) (m : zM) : zM :=
  if 4 ≤ y5 then
  (k147 m)
  else
  (zn (f234_1 0 (1 + y5) m) fun v511 =>
  zn (w64 ((m 4 45 (1607 + y5)) + v511)) fun z512 =>
  zs (z_upd m 4 45 (1607 + y5) z512) fun m513 =>
  self (y5 + 1) m513)
def fl232_112_1 (k147 : zM → zM) (y1 y3 : Int) : Nat → Int → zM → zM
  | 0 => fun y5 m => m
  | n + 1 => fl232_112_1_b (fl232_112_1 k147 y1 y3 n) k147 y1 y3
theorem l232_112_1 {s : Nat × (Nat → Int32)} {S : zS} {m0 : zM} {d : Nat} {Q : Option zV → zM → Prop} {R0 : zM} {k147 : zM → zM} (y1 y3 : Int) (BE : Int) (hE : BE ≤ 1000000000) (hd : 14 ≤ d) (hy1 : 0 ≤ y1 ∧ y1 ≤ 64) (hf7 : ¬ S.1 7) (hg4 : ¬ S.2.1 4)
    (K147 : ∀ (m' : zM) (B' : Int), J S m0 B' m' → B' ≤ BE → R0 = k147 m' → X (EE s) d 232 147 [(0, zr 4 44), (1, zl y1), (3, zl y3)] [] m' Q) :
    ∀ (n : Nat) (y5 : Int) (m : zM) (B : Int), J S m0 B m → B + 0 * (n : Int) ≤ BE → (0 ≤ y5 ∧ y5 ≤ 4) → 4 - y5 < (n : Int) → R0 = fl232_112_1 k147 y1 y3 n y5 m → X (EE s) d 232 112 [(0, zr 4 44), (1, zl y1), (3, zl y3), (5, zi y5)] [] m Q := by
  intro n
  induction n with
  | zero =>
    intro y5 m B hJ hB hy5 hn hR
    exfalso
    omega
  | succ n ih =>
    intro y5 m B hJ hB hy5 hn hR
    replace hR : R0 = fl232_112_1_b (fl232_112_1 k147 y1 y3 n) k147 y1 y3 y5 m := hR
    refine X.iload 114 i232_112 rfl rfl rfl ?_
    refine X.iconst 115 i232_114 rfl rfl (by decide) ?_
    refine X.icmpge 147 118 i232_115 rfl rfl rfl (fun h508 => ?_) (fun h508 => ?_)
    · refine X.cut [(0, zr 4 44), (1, zl y1), (3, zl y3)] i232_147 rfl ?_
      exact K147  m (B) (hJ.up (by omega)) (by omega)  (Eq.trans hR (Eq.trans (if_pos h508) rfl))
    · refine X.aload_n 119 i232_118 rfl rfl rfl ?_
      refine X.getF 122 i232_119 rfl rfl (by decide) rfl rfl ?_
      refine X.sipush 125 i232_122 rfl rfl (by decide) ?_
      refine X.iload 127 i232_125 rfl rfl rfl ?_
      refine X.iadd 128 i232_127 rfl rfl (by omega) ?_
      refine X.dup2 129 i232_128 rfl rfl ?_
      refine X.lald 130 i232_129 rfl rfl (by decide) rfl (by omega) ?_
      refine X.aload_n 131 i232_130 rfl rfl rfl ?_
      refine X.iconst 132 i232_131 rfl rfl (by decide) ?_
      refine X.iconst 133 i232_132 rfl rfl (by decide) ?_
      refine X.iload 135 i232_133 rfl rfl rfl ?_
      refine X.iadd 136 i232_135 rfl rfl (by omega) ?_
      refine X.callv 139 [zi 0, zi (1 + y5)] [zl (m 4 45 (1607 + y5)), zi (1607 + y5), zr 4 45] [(0, zr 4 44), (1, zi 0), (2, zi (1 + y5))] i232_136 rfl (by decide) rfl rfl (by omega) rfl rfl (by decide) rfl t234 (Nat.le_of_ble_eq_true rfl) (Nat.le_of_ble_eq_true rfl) rfl ?_
      refine c234_6 (B := B)  0 (1 + y5) (by omega) (hJ.up (by omega)) (by omega) (by omega) (by omega) (fun v511 hv511 hFv511 => ?_)
      show X (EE s) d 232 139 [(0, zr 4 44), (1, zl y1), (3, zl y3), (5, zi y5)] [zl v511, zl (m 4 45 (1607 + y5)), zi (1607 + y5), zr 4 45] m _
      refine X.laddW 140 i232_139 rfl rfl (fun z512 ez512 hz512 => ?_)
      refine X.last' 141 i232_140 rfl rfl (by decide) rfl (by omega) (fun hrm513 m513 hm513 => ?_)
      have hJ514 := w45_1607 hJ hm513 (by omega) hrm513 hf7 hg4
      refine X.iinc 144 [(0, zr 4 44), (1, zl y1), (3, zl y3), (5, zi (y5 + 1))] i232_141 rfl rfl rfl (by omega) rfl ?_
      refine X.goto 112 i232_144 rfl rfl ?_
      exact ih (y5 + 1) m513 (B) (hJ514.up (by omega)) (by omega) (by omega) (by omega) (Eq.trans hR (Eq.trans (if_neg h508) (Eq.trans (zn_eq hFv511.symm) (Eq.trans (zn_eq ez512) (Eq.trans (zs_eq hm513) rfl)))))
def fl232_151_1_b (self : Int → zM → zM) (k190 : zM → zM) (y1 y3 : Int) (y5 : Int) (m : zM) : zM :=
  if 384 ≤ y5 then
  (k190 m)
  else
  (zs (z_upd m 4 45 ((788 + y5) - 6) (m 4 45 (788 + y5))) fun m505 =>
  self (y5 + 1) m505)
def fl232_151_1 (k190 : zM → zM) (y1 y3 : Int) : Nat → Int → zM → zM
  | 0 => fun y5 m => m
  | n + 1 => fl232_151_1_b (fl232_151_1 k190 y1 y3 n) k190 y1 y3
theorem l232_151_1 {s : Nat × (Nat → Int32)} {S : zS} {m0 : zM} {d : Nat} {Q : Option zV → zM → Prop} {R0 : zM} {k190 : zM → zM} (y1 y3 : Int) (BE : Int) (hE : BE ≤ 1000000000) (hd : 13 ≤ d) (hy1 : 0 ≤ y1 ∧ y1 ≤ 64) (hf7 : ¬ S.1 7) (hg4 : ¬ S.2.1 4)
    (K190 : ∀ (m' : zM) (B' : Int), J S m0 B' m' → B' ≤ BE → R0 = k190 m' → X (EE s) d 232 190 [(0, zr 4 44), (1, zl y1), (3, zl y3)] [] m' Q) :
    ∀ (n : Nat) (y5 : Int) (m : zM) (B : Int), J S m0 B m → B + 0 * (n : Int) ≤ BE → (6 ≤ y5 ∧ y5 ≤ 384) → 384 - y5 < (n : Int) → R0 = fl232_151_1 k190 y1 y3 n y5 m → X (EE s) d 232 151 [(0, zr 4 44), (1, zl y1), (3, zl y3), (5, zi y5)] [] m Q := by
  intro n
  induction n with
  | zero =>
    intro y5 m B hJ hB hy5 hn hR
    exfalso
    omega
  | succ n ih =>
    intro y5 m B hJ hB hy5 hn hR
    replace hR : R0 = fl232_151_1_b (fl232_151_1 k190 y1 y3 n) k190 y1 y3 y5 m := hR
    refine X.iload 153 i232_151 rfl rfl rfl ?_
    refine X.sipush 156 i232_153 rfl rfl (by decide) ?_
    refine X.icmpge 190 159 i232_156 rfl rfl rfl (fun h504 => ?_) (fun h504 => ?_)
    · refine X.cut [(0, zr 4 44), (1, zl y1), (3, zl y3)] i232_190 rfl ?_
      exact K190  m (B) (hJ.up (by omega)) (by omega)  (Eq.trans hR (Eq.trans (if_pos h504) rfl))
    · refine X.aload_n 160 i232_159 rfl rfl rfl ?_
      refine X.getF 163 i232_160 rfl rfl (by decide) rfl rfl ?_
      refine X.sipush 166 i232_163 rfl rfl (by decide) ?_
      refine X.iload 168 i232_166 rfl rfl rfl ?_
      refine X.iadd 169 i232_168 rfl rfl (by omega) ?_
      refine X.bipush 171 i232_169 rfl rfl (by decide) ?_
      refine X.isub 172 i232_171 rfl rfl (by omega) ?_
      refine X.aload_n 173 i232_172 rfl rfl rfl ?_
      refine X.getF 176 i232_173 rfl rfl (by decide) rfl rfl ?_
      refine X.sipush 179 i232_176 rfl rfl (by decide) ?_
      refine X.iload 181 i232_179 rfl rfl rfl ?_
      refine X.iadd 182 i232_181 rfl rfl (by omega) ?_
      refine X.lald 183 i232_182 rfl rfl (by decide) rfl (by omega) ?_
      refine X.last' 184 i232_183 rfl rfl (by decide) rfl (by omega) (fun hrm505 m505 hm505 => ?_)
      have hJ506 := w45_788 hJ hm505 (by omega) hrm505 hf7 hg4
      refine X.iinc 187 [(0, zr 4 44), (1, zl y1), (3, zl y3), (5, zi (y5 + 1))] i232_184 rfl rfl rfl (by omega) rfl ?_
      refine X.goto 151 i232_187 rfl rfl ?_
      exact ih (y5 + 1) m505 (B) (hJ506.up (by omega)) (by omega) (by omega) (by omega) (Eq.trans hR (Eq.trans (if_neg h504) (Eq.trans (zs_eq hm505) rfl)))
-- WorkMeterModel.ends
def f232_1 (a1 : Int) (m : zM) : zM :=
  zn (w64 ((m 4 45 25) + (m 4 45 26))) fun z501 =>
  if z501 = 0 then
  (zs (f233_1 m) fun m618 =>
  m618)
  else
  (zn (if (m 4 45 26) ≤ 0 then
  (0)
  else
  (32)) fun v506 =>
  zn (zorL (m 4 45 27) v506) fun z511 =>
  zn (zorL z511 a1) fun z512 =>
  zn (if (m 4 45 21) = 1 then
  (128)
  else
  (zn (((m 4 45 0) % (m 4 45 8))) fun z517 =>
  if z517 = 0 then
  (0)
  else
  (128))) fun v520 =>
  zn (zorL z512 v520) fun z525 =>
  if (m 4 45 17) < 64 then
  (zn (f235_1 m) fun v531 =>
  zn (if 64 ≤ v531 then
  (63)
  else
  (zn (f235_1 m) fun v535 =>
  v535)) fun v536 =>
  zs (z_upd m 4 45 17 ((m 4 45 17) + 1)) fun m541 =>
  zs (z_upd m541 4 45 (788 + (6 * v536)) (m541 4 45 0)) fun m544 =>
  zs (z_upd m544 4 45 ((788 + (6 * v536)) + 1) (m544 4 45 22)) fun m546 =>
  zs (z_upd m546 4 45 ((788 + (6 * v536)) + 2) (m546 4 45 23)) fun m548 =>
  zs (z_upd m548 4 45 ((788 + (6 * v536)) + 3) (m548 4 45 24)) fun m550 =>
  zs (z_upd m550 4 45 ((788 + (6 * v536)) + 4) (m550 4 45 25)) fun m552 =>
  zs (z_upd m552 4 45 ((788 + (6 * v536)) + 5) z525) fun m554 =>
  zs (f233_1 m554) fun m556 =>
  zs (if a1 = 0 then
  (zs (f236_1 m556) fun m561 =>
  m561)
  else
  (m556)) fun m565 =>
  m565)
  else
  (fl232_112_1 (fun m569 =>
  fl232_151_1 (fun m573 =>
  zn (f235_1 m573) fun v579 =>
  zn (if 64 ≤ v579 then
  (63)
  else
  (zn (f235_1 m573) fun v583 =>
  v583)) fun v584 =>
  zs (z_upd m573 4 45 17 ((m573 4 45 17) + 1)) fun m590 =>
  zs (z_upd m590 4 45 (788 + (6 * v584)) (m590 4 45 0)) fun m593 =>
  zs (z_upd m593 4 45 ((788 + (6 * v584)) + 1) (m593 4 45 22)) fun m595 =>
  zs (z_upd m595 4 45 ((788 + (6 * v584)) + 2) (m595 4 45 23)) fun m597 =>
  zs (z_upd m597 4 45 ((788 + (6 * v584)) + 3) (m597 4 45 24)) fun m599 =>
  zs (z_upd m599 4 45 ((788 + (6 * v584)) + 4) (m599 4 45 25)) fun m601 =>
  zs (z_upd m601 4 45 ((788 + (6 * v584)) + 5) z525) fun m603 =>
  zs (f233_1 m603) fun m605 =>
  zs (if a1 = 0 then
  (zs (f236_1 m605) fun m610 =>
  m610)
  else
  (m605)) fun m614 =>
  m614) a1 z525 379 6 m569) a1 z525 5 0 m))
-- WorkMeterModel.ends
theorem c232_1 {s : Nat × (Nat → Int32)} {S : zS} {m0 m : zM} {B : Int} {d : Nat} {Q : Option zV → zM → Prop} (a1 : Int) (hd : 17 ≤ d) (hJ : J S m0 B m) (hB : B + 1 ≤ 1000000000) (ha1 : 0 ≤ a1 ∧ a1 ≤ 64) (hf7 : ¬ S.1 7) (hf8 : ¬ S.1 8) (hg4 : ¬ S.2.1 4) (hQ : ∀ m', f232_1 a1 m = m' → J S m0 (B + 1) m' → Q none m') : X (EE s) d 232 0 [(0, zr 4 44), (1, zl a1)] [] m Q := by
  refine X.aload_n 1 i232_0 rfl rfl rfl ?_
  refine X.getF 4 i232_1 rfl rfl (by decide) rfl rfl ?_
  refine X.bipush 6 i232_4 rfl rfl (by decide) ?_
  refine X.lald 7 i232_6 rfl rfl (by decide) rfl (by omega) ?_
  refine X.aload_n 8 i232_7 rfl rfl rfl ?_
  refine X.getF 11 i232_8 rfl rfl (by decide) rfl rfl ?_
  refine X.bipush 13 i232_11 rfl rfl (by decide) ?_
  refine X.lald 14 i232_13 rfl rfl (by decide) rfl (by omega) ?_
  refine X.laddW 15 i232_14 rfl rfl (fun z501 ez501 hz501 => ?_)
  refine X.lconst (y := 0) 16 i232_15 rfl rfl rfl ?_
  refine X.lcmp 17 i232_16 rfl rfl (fun z502 hz502 => ?_)
  refine X.ifne 25 20 i232_17 rfl rfl rfl (fun h503 => ?_) (fun h503 => ?_)
  · have h503c : ¬ z501 = 0 := by omega
    clear h503 hz502
    refine X.aload_n 26 i232_25 rfl rfl rfl ?_
    refine X.getF 29 i232_26 rfl rfl (by decide) rfl rfl ?_
    refine X.bipush 31 i232_29 rfl rfl (by decide) ?_
    refine X.lald 32 i232_31 rfl rfl (by decide) rfl (by omega) ?_
    refine X.aload_n 33 i232_32 rfl rfl rfl ?_
    refine X.getF 36 i232_33 rfl rfl (by decide) rfl rfl ?_
    refine X.bipush 38 i232_36 rfl rfl (by decide) ?_
    refine X.lald 39 i232_38 rfl rfl (by decide) rfl (by omega) ?_
    refine X.lconst (y := 0) 40 i232_39 rfl rfl rfl ?_
    refine X.lcmp 41 i232_40 rfl rfl (fun z504 hz504 => ?_)
    have hK509 : ∀ (v : Int) , (0 ≤ v ∧ v ≤ 32) → (if (m 4 45 26) ≤ 0 then
        (0)
        else
        (32)) = v → X (EE s) d 232 50 [(0, zr 4 44), (1, zl a1)] [zi v, zl (m 4 45 27)] m Q := by
      intro v506 hv506 hT510
      refine X.i2l 51 i232_50 rfl rfl ?_
      refine X.llE 52 .lor (fun x y => x ||| y) i232_51 rfl rfl rfl (fun _ _ => rfl) (fun z511 ez511 hz511 => ?_)
      refine X.lload_n 53 i232_52 rfl rfl rfl ?_
      refine X.llE 54 .lor (fun x y => x ||| y) i232_53 rfl rfl rfl (fun _ _ => rfl) (fun z512 ez512 hz512 => ?_)
      refine X.aload_n 55 i232_54 rfl rfl rfl ?_
      refine X.getF 58 i232_55 rfl rfl (by decide) rfl rfl ?_
      refine X.bipush 60 i232_58 rfl rfl (by decide) ?_
      refine X.lald 61 i232_60 rfl rfl (by decide) rfl (by omega) ?_
      refine X.lconst (y := 1) 62 i232_61 rfl rfl rfl ?_
      refine X.lcmp 63 i232_62 rfl rfl (fun z513 hz513 => ?_)
      have hK523 : ∀ (v : Int) , (0 ≤ v ∧ v ≤ 128) → (if (m 4 45 21) = 1 then
          (128)
          else
          (zn (((m 4 45 0) % (m 4 45 8))) fun z517 =>
          if z517 = 0 then
          (0)
          else
          (128))) = v → X (EE s) d 232 92 [(0, zr 4 44), (1, zl a1)] [zi v, zl z512] m Q := by
        intro v520 hv520 hT524
        refine X.i2l 93 i232_92 rfl rfl ?_
        refine X.llE 94 .lor (fun x y => x ||| y) i232_93 rfl rfl rfl (fun _ _ => rfl) (fun z525 ez525 hz525 => ?_)
        refine X.lstore_n 95 [(0, zr 4 44), (1, zl a1), (3, zl z525)] i232_94 rfl rfl rfl ?_
        refine X.aload_n 96 i232_95 rfl rfl rfl ?_
        refine X.getF 99 i232_96 rfl rfl (by decide) rfl rfl ?_
        refine X.bipush 101 i232_99 rfl rfl (by decide) ?_
        refine X.lald 102 i232_101 rfl rfl (by decide) rfl (by omega) ?_
        have h526 := r45_17 hJ 4
        refine X.ldc2 105 i232_102 rfl rfl (by decide) ?_
        refine X.lcmp 106 i232_105 rfl rfl (fun z527 hz527 => ?_)
        refine X.iflt 190 109 i232_106 rfl rfl rfl (fun h528 => ?_) (fun h528 => ?_)
        · have h528c : (m 4 45 17) < 64 := by omega
          clear h528 hz527
          refine X.sipush 193 i232_190 rfl rfl (by decide) ?_
          refine X.bipush 195 i232_193 rfl rfl (by decide) ?_
          refine X.aload_n 196 i232_195 rfl rfl rfl ?_
          refine X.callv 199 [] [zi 6, zi 788] [(0, zr 4 44)] i232_196 rfl (by decide) rfl rfl (by omega) rfl rfl (by decide) rfl t235 (Nat.le_of_ble_eq_true rfl) (Nat.le_of_ble_eq_true rfl) rfl ?_
          refine c235_1 (B := B)   (by omega) (hJ.up (by omega)) (by omega)  (fun v531 hv531 hFv531 => ?_)
          show X (EE s) d 232 199 [(0, zr 4 44), (1, zl a1), (3, zl z525)] [zi v531, zi 6, zi 788] m _
          refine X.bipush 201 i232_199 rfl rfl (by decide) ?_
          have hK539 : ∀ (v : Int) , (0 ≤ v ∧ v ≤ 64) → (if 64 ≤ v531 then
              (63)
              else
              (zn (f235_1 m) fun v535 =>
              v535)) = v → X (EE s) d 232 213 [(0, zr 4 44), (1, zl a1), (3, zl z525)] [zi v, zi 6, zi 788] m Q := by
            intro v536 hv536 hT540
            refine X.imul 214 i232_213 rfl rfl (by omega) ?_
            refine X.iadd 215 i232_214 rfl rfl (by omega) ?_
            refine X.istore 217 [(0, zr 4 44), (1, zl a1), (3, zl z525), (5, zi (788 + (6 * v536)))] i232_215 rfl rfl rfl ?_
            refine X.aload_n 218 i232_217 rfl rfl rfl ?_
            refine X.getF 221 i232_218 rfl rfl (by decide) rfl rfl ?_
            refine X.bipush 223 i232_221 rfl rfl (by decide) ?_
            refine X.dup2 224 i232_223 rfl rfl ?_
            refine X.lald 225 i232_224 rfl rfl (by decide) rfl (by omega) ?_
            refine X.lconst (y := 1) 226 i232_225 rfl rfl rfl ?_
            refine X.ladd 227 i232_226 rfl rfl (by omega) ?_
            refine X.last' 228 i232_227 rfl rfl (by decide) rfl (by omega) (fun hrm541 m541 hm541 => ?_)
            have hJ542 := w45_17 (hJ.up (B' := B + 1) (by omega)) hm541 (by omega) hf7 hg4
            refine X.aload_n 229 i232_228 rfl rfl rfl ?_
            refine X.getF 232 i232_229 rfl rfl (by decide) rfl rfl ?_
            refine X.iload 234 i232_232 rfl rfl rfl ?_
            refine X.aload_n 235 i232_234 rfl rfl rfl ?_
            refine X.getF 238 i232_235 rfl rfl (by decide) rfl rfl ?_
            refine X.iconst 239 i232_238 rfl rfl (by decide) ?_
            refine X.lald 240 i232_239 rfl rfl (by decide) rfl (by omega) ?_
            have h543 := r45_0 hJ542 4
            refine X.last' 241 i232_240 rfl rfl (by decide) rfl (by omega) (fun hrm544 m544 hm544 => ?_)
            have hJ545 := w45_788 hJ542 hm544 (by omega) hrm544 hf7 hg4
            refine X.aload_n 242 i232_241 rfl rfl rfl ?_
            refine X.getF 245 i232_242 rfl rfl (by decide) rfl rfl ?_
            refine X.iload 247 i232_245 rfl rfl rfl ?_
            refine X.iconst 248 i232_247 rfl rfl (by decide) ?_
            refine X.iadd 249 i232_248 rfl rfl (by omega) ?_
            refine X.aload_n 250 i232_249 rfl rfl rfl ?_
            refine X.getF 253 i232_250 rfl rfl (by decide) rfl rfl ?_
            refine X.bipush 255 i232_253 rfl rfl (by decide) ?_
            refine X.lald 256 i232_255 rfl rfl (by decide) rfl (by omega) ?_
            refine X.last' 257 i232_256 rfl rfl (by decide) rfl (by omega) (fun hrm546 m546 hm546 => ?_)
            have hJ547 := w45_788 hJ545 hm546 (by omega) hrm546 hf7 hg4
            refine X.aload_n 258 i232_257 rfl rfl rfl ?_
            refine X.getF 261 i232_258 rfl rfl (by decide) rfl rfl ?_
            refine X.iload 263 i232_261 rfl rfl rfl ?_
            refine X.iconst 264 i232_263 rfl rfl (by decide) ?_
            refine X.iadd 265 i232_264 rfl rfl (by omega) ?_
            refine X.aload_n 266 i232_265 rfl rfl rfl ?_
            refine X.getF 269 i232_266 rfl rfl (by decide) rfl rfl ?_
            refine X.bipush 271 i232_269 rfl rfl (by decide) ?_
            refine X.lald 272 i232_271 rfl rfl (by decide) rfl (by omega) ?_
            refine X.last' 273 i232_272 rfl rfl (by decide) rfl (by omega) (fun hrm548 m548 hm548 => ?_)
            have hJ549 := w45_788 hJ547 hm548 (by omega) hrm548 hf7 hg4
            refine X.aload_n 274 i232_273 rfl rfl rfl ?_
            refine X.getF 277 i232_274 rfl rfl (by decide) rfl rfl ?_
            refine X.iload 279 i232_277 rfl rfl rfl ?_
            refine X.iconst 280 i232_279 rfl rfl (by decide) ?_
            refine X.iadd 281 i232_280 rfl rfl (by omega) ?_
            refine X.aload_n 282 i232_281 rfl rfl rfl ?_
            refine X.getF 285 i232_282 rfl rfl (by decide) rfl rfl ?_
            refine X.bipush 287 i232_285 rfl rfl (by decide) ?_
            refine X.lald 288 i232_287 rfl rfl (by decide) rfl (by omega) ?_
            refine X.last' 289 i232_288 rfl rfl (by decide) rfl (by omega) (fun hrm550 m550 hm550 => ?_)
            have hJ551 := w45_788 hJ549 hm550 (by omega) hrm550 hf7 hg4
            refine X.aload_n 290 i232_289 rfl rfl rfl ?_
            refine X.getF 293 i232_290 rfl rfl (by decide) rfl rfl ?_
            refine X.iload 295 i232_293 rfl rfl rfl ?_
            refine X.iconst 296 i232_295 rfl rfl (by decide) ?_
            refine X.iadd 297 i232_296 rfl rfl (by omega) ?_
            refine X.aload_n 298 i232_297 rfl rfl rfl ?_
            refine X.getF 301 i232_298 rfl rfl (by decide) rfl rfl ?_
            refine X.bipush 303 i232_301 rfl rfl (by decide) ?_
            refine X.lald 304 i232_303 rfl rfl (by decide) rfl (by omega) ?_
            refine X.last' 305 i232_304 rfl rfl (by decide) rfl (by omega) (fun hrm552 m552 hm552 => ?_)
            have hJ553 := w45_788 hJ551 hm552 (by omega) hrm552 hf7 hg4
            refine X.aload_n 306 i232_305 rfl rfl rfl ?_
            refine X.getF 309 i232_306 rfl rfl (by decide) rfl rfl ?_
            refine X.iload 311 i232_309 rfl rfl rfl ?_
            refine X.iconst 312 i232_311 rfl rfl (by decide) ?_
            refine X.iadd 313 i232_312 rfl rfl (by omega) ?_
            refine X.lload_n 314 i232_313 rfl rfl rfl ?_
            refine X.last' 315 i232_314 rfl rfl (by decide) rfl (by omega) (fun hrm554 m554 hm554 => ?_)
            have hJ555 := w45_788 hJ553 hm554 (by omega) hrm554 hf7 hg4
            refine X.aload_n 316 i232_315 rfl rfl rfl ?_
            refine X.callv 319 [] [] [(0, zr 4 44)] i232_316 rfl (by decide) rfl rfl (by omega) rfl rfl (by decide) rfl t233 (Nat.le_of_ble_eq_true rfl) (Nat.le_of_ble_eq_true rfl) rfl ?_
            refine c233_1 (B := B + 1)   (by omega) (hJ555.up (by omega)) (by omega)  hf7 hg4 (fun m556 hFv558 hJ557 => ?_)
            show X (EE s) d 232 319 [(0, zr 4 44), (1, zl a1), (3, zl z525), (5, zi (788 + (6 * v536)))] [] m556 _
            refine X.lload_n 320 i232_319 rfl rfl rfl ?_
            refine X.lconst (y := 0) 321 i232_320 rfl rfl rfl ?_
            refine X.lcmp 322 i232_321 rfl rfl (fun z559 hz559 => ?_)
            have hK567 : ∀ (m' : zM), (if a1 = 0 then
                (zs (f236_1 m556) fun m561 =>
                m561)
                else
                (m556)) = m' → J S m0 (B + 1) m' → X (EE s) d 232 329 [] [] m' Q := by
              intro m565 hT568 hJ566
              refine X.retv i232_329 rfl t232 ?_
              exact hQ  m565  (Eq.trans (zn_eq ez501) (Eq.trans (if_neg h503c) (Eq.trans (zn_eq hT510.symm) (Eq.trans (zn_eq ez511) (Eq.trans (zn_eq ez512) (Eq.trans (zn_eq hT524.symm) (Eq.trans (zn_eq ez525) (Eq.trans (if_pos h528c) (Eq.trans (zn_eq hFv531.symm) (Eq.trans (zn_eq hT540.symm) (Eq.trans (zs_eq hm541) (Eq.trans (zs_eq hm544) (Eq.trans (zs_eq hm546) (Eq.trans (zs_eq hm548) (Eq.trans (zs_eq hm550) (Eq.trans (zs_eq hm552) (Eq.trans (zs_eq hm554) (Eq.trans (zs_eq hFv558.symm) (Eq.trans (zs_eq hT568.symm) rfl))))))))))))))))))) (hJ566.up (by omega)) 
            refine X.ifne 329 325 i232_322 rfl rfl rfl (fun h560 => ?_) (fun h560 => ?_)
            · have h560c : ¬ a1 = 0 := by omega
              clear h560 hz559
              refine X.cut [] i232_329 rfl ?_
              exact hK567 m556 (Eq.trans (if_neg h560c) rfl) (hJ557.up (by omega))
            · have h560c : a1 = 0 := by omega
              clear h560 hz559
              refine X.aload_n 326 i232_325 rfl rfl rfl ?_
              refine X.callv 329 [] [] [(0, zr 4 44)] i232_326 rfl (by decide) rfl rfl (by omega) rfl rfl (by decide) rfl t236 (Nat.le_of_ble_eq_true rfl) (Nat.le_of_ble_eq_true rfl) rfl ?_
              refine c236_1 (B := B + 1)   (by omega) (hJ557.up (by omega)) (by omega)  hf8 hg4 (fun m561 hFv563 hJ562 => ?_)
              show X (EE s) d 232 329 [(0, zr 4 44), (1, zl a1), (3, zl z525), (5, zi (788 + (6 * v536)))] [] m561 _
              refine X.cut [] i232_329 rfl ?_
              exact hK567 m561 (Eq.trans (if_pos h560c) (Eq.trans (zs_eq hFv563.symm) rfl)) (hJ562.up (by omega))
          refine X.icmpge 211 204 i232_201 rfl rfl rfl (fun h532 => ?_) (fun h532 => ?_)
          · refine X.bipush 213 i232_211 rfl rfl (by decide) ?_
            exact hK539 63 (by first | trivial | omega) (Eq.trans (if_pos h532) rfl)
          · refine X.aload_n 205 i232_204 rfl rfl rfl ?_
            refine X.callv 208 [] [zi 6, zi 788] [(0, zr 4 44)] i232_205 rfl (by decide) rfl rfl (by omega) rfl rfl (by decide) rfl t235 (Nat.le_of_ble_eq_true rfl) (Nat.le_of_ble_eq_true rfl) rfl ?_
            refine c235_1 (B := B)   (by omega) (hJ.up (by omega)) (by omega)  (fun v535 hv535 hFv535 => ?_)
            show X (EE s) d 232 208 [(0, zr 4 44), (1, zl a1), (3, zl z525)] [zi v535, zi 6, zi 788] m _
            refine X.goto 213 i232_208 rfl rfl ?_
            exact hK539 v535 (by first | trivial | omega) (Eq.trans (if_neg h532) (Eq.trans (zn_eq hFv535.symm) rfl))
        · have h528c : ¬ (m 4 45 17) < 64 := by omega
          clear h528 hz527
          refine X.iconst 110 i232_109 rfl rfl (by decide) ?_
          refine X.istore 112 [(0, zr 4 44), (1, zl a1), (3, zl z525), (5, zi 0)] i232_110 rfl rfl rfl ?_
          refine l232_112_1 (s := s) (d := d) (R0 := (f232_1 a1 m))  a1 z525  (BE := B + 0) (by omega) (by omega) (by omega) hf7 hg4 (fun  m569 B570 hJ571 hBB570 hR572 => ?_) 5 0 m (B) (hJ.up (by omega)) (by omega) (by omega) (by omega) (Eq.trans (zn_eq ez501) (Eq.trans (if_neg h503c) (Eq.trans (zn_eq hT510.symm) (Eq.trans (zn_eq ez511) (Eq.trans (zn_eq ez512) (Eq.trans (zn_eq hT524.symm) (Eq.trans (zn_eq ez525) (Eq.trans (if_neg h528c) rfl))))))))
          refine X.bipush 149 i232_147 rfl rfl (by decide) ?_
          refine X.istore 151 [(0, zr 4 44), (1, zl a1), (3, zl z525), (5, zi 6)] i232_149 rfl rfl rfl ?_
          refine l232_151_1 (s := s) (d := d)  a1 z525  (BE := B570 + 0) (by omega) (by omega) (by omega) hf7 hg4 (fun  m573 B574 hJ575 hBB574 hR576 => ?_) 379 6 m569 (B570) (hJ571.up (by omega)) (by omega) (by omega) (by omega) (Eq.trans hR572 rfl)
          refine X.sipush 193 i232_190 rfl rfl (by decide) ?_
          refine X.bipush 195 i232_193 rfl rfl (by decide) ?_
          refine X.aload_n 196 i232_195 rfl rfl rfl ?_
          refine X.callv 199 [] [zi 6, zi 788] [(0, zr 4 44)] i232_196 rfl (by decide) rfl rfl (by omega) rfl rfl (by decide) rfl t235 (Nat.le_of_ble_eq_true rfl) (Nat.le_of_ble_eq_true rfl) rfl ?_
          refine c235_1 (B := B574)   (by omega) (hJ575.up (by omega)) (by omega)  (fun v579 hv579 hFv579 => ?_)
          show X (EE s) d 232 199 [(0, zr 4 44), (1, zl a1), (3, zl z525)] [zi v579, zi 6, zi 788] m573 _
          refine X.bipush 201 i232_199 rfl rfl (by decide) ?_
          have hK587 : ∀ (v : Int) , (0 ≤ v ∧ v ≤ 64) → (if 64 ≤ v579 then
              (63)
              else
              (zn (f235_1 m573) fun v583 =>
              v583)) = v → X (EE s) d 232 213 [(0, zr 4 44), (1, zl a1), (3, zl z525)] [zi v, zi 6, zi 788] m573 Q := by
            intro v584 hv584 hT588
            refine X.imul 214 i232_213 rfl rfl (by omega) ?_
            refine X.iadd 215 i232_214 rfl rfl (by omega) ?_
            refine X.istore 217 [(0, zr 4 44), (1, zl a1), (3, zl z525), (5, zi (788 + (6 * v584)))] i232_215 rfl rfl rfl ?_
            refine X.aload_n 218 i232_217 rfl rfl rfl ?_
            refine X.getF 221 i232_218 rfl rfl (by decide) rfl rfl ?_
            refine X.bipush 223 i232_221 rfl rfl (by decide) ?_
            refine X.dup2 224 i232_223 rfl rfl ?_
            refine X.lald 225 i232_224 rfl rfl (by decide) rfl (by omega) ?_
            have h589 := r45_17 hJ575 4
            refine X.lconst (y := 1) 226 i232_225 rfl rfl rfl ?_
            refine X.ladd 227 i232_226 rfl rfl (by omega) ?_
            refine X.last' 228 i232_227 rfl rfl (by decide) rfl (by omega) (fun hrm590 m590 hm590 => ?_)
            have hJ591 := w45_17 (hJ575.up (B' := B574 + 1) (by omega)) hm590 (by omega) hf7 hg4
            refine X.aload_n 229 i232_228 rfl rfl rfl ?_
            refine X.getF 232 i232_229 rfl rfl (by decide) rfl rfl ?_
            refine X.iload 234 i232_232 rfl rfl rfl ?_
            refine X.aload_n 235 i232_234 rfl rfl rfl ?_
            refine X.getF 238 i232_235 rfl rfl (by decide) rfl rfl ?_
            refine X.iconst 239 i232_238 rfl rfl (by decide) ?_
            refine X.lald 240 i232_239 rfl rfl (by decide) rfl (by omega) ?_
            have h592 := r45_0 hJ591 4
            refine X.last' 241 i232_240 rfl rfl (by decide) rfl (by omega) (fun hrm593 m593 hm593 => ?_)
            have hJ594 := w45_788 hJ591 hm593 (by omega) hrm593 hf7 hg4
            refine X.aload_n 242 i232_241 rfl rfl rfl ?_
            refine X.getF 245 i232_242 rfl rfl (by decide) rfl rfl ?_
            refine X.iload 247 i232_245 rfl rfl rfl ?_
            refine X.iconst 248 i232_247 rfl rfl (by decide) ?_
            refine X.iadd 249 i232_248 rfl rfl (by omega) ?_
            refine X.aload_n 250 i232_249 rfl rfl rfl ?_
            refine X.getF 253 i232_250 rfl rfl (by decide) rfl rfl ?_
            refine X.bipush 255 i232_253 rfl rfl (by decide) ?_
            refine X.lald 256 i232_255 rfl rfl (by decide) rfl (by omega) ?_
            refine X.last' 257 i232_256 rfl rfl (by decide) rfl (by omega) (fun hrm595 m595 hm595 => ?_)
            have hJ596 := w45_788 hJ594 hm595 (by omega) hrm595 hf7 hg4
            refine X.aload_n 258 i232_257 rfl rfl rfl ?_
            refine X.getF 261 i232_258 rfl rfl (by decide) rfl rfl ?_
            refine X.iload 263 i232_261 rfl rfl rfl ?_
            refine X.iconst 264 i232_263 rfl rfl (by decide) ?_
            refine X.iadd 265 i232_264 rfl rfl (by omega) ?_
            refine X.aload_n 266 i232_265 rfl rfl rfl ?_
            refine X.getF 269 i232_266 rfl rfl (by decide) rfl rfl ?_
            refine X.bipush 271 i232_269 rfl rfl (by decide) ?_
            refine X.lald 272 i232_271 rfl rfl (by decide) rfl (by omega) ?_
            refine X.last' 273 i232_272 rfl rfl (by decide) rfl (by omega) (fun hrm597 m597 hm597 => ?_)
            have hJ598 := w45_788 hJ596 hm597 (by omega) hrm597 hf7 hg4
            refine X.aload_n 274 i232_273 rfl rfl rfl ?_
            refine X.getF 277 i232_274 rfl rfl (by decide) rfl rfl ?_
            refine X.iload 279 i232_277 rfl rfl rfl ?_
            refine X.iconst 280 i232_279 rfl rfl (by decide) ?_
            refine X.iadd 281 i232_280 rfl rfl (by omega) ?_
            refine X.aload_n 282 i232_281 rfl rfl rfl ?_
            refine X.getF 285 i232_282 rfl rfl (by decide) rfl rfl ?_
            refine X.bipush 287 i232_285 rfl rfl (by decide) ?_
            refine X.lald 288 i232_287 rfl rfl (by decide) rfl (by omega) ?_
            refine X.last' 289 i232_288 rfl rfl (by decide) rfl (by omega) (fun hrm599 m599 hm599 => ?_)
            have hJ600 := w45_788 hJ598 hm599 (by omega) hrm599 hf7 hg4
            refine X.aload_n 290 i232_289 rfl rfl rfl ?_
            refine X.getF 293 i232_290 rfl rfl (by decide) rfl rfl ?_
            refine X.iload 295 i232_293 rfl rfl rfl ?_
            refine X.iconst 296 i232_295 rfl rfl (by decide) ?_
            refine X.iadd 297 i232_296 rfl rfl (by omega) ?_
            refine X.aload_n 298 i232_297 rfl rfl rfl ?_
            refine X.getF 301 i232_298 rfl rfl (by decide) rfl rfl ?_
            refine X.bipush 303 i232_301 rfl rfl (by decide) ?_
            refine X.lald 304 i232_303 rfl rfl (by decide) rfl (by omega) ?_
            refine X.last' 305 i232_304 rfl rfl (by decide) rfl (by omega) (fun hrm601 m601 hm601 => ?_)
            have hJ602 := w45_788 hJ600 hm601 (by omega) hrm601 hf7 hg4
            refine X.aload_n 306 i232_305 rfl rfl rfl ?_
            refine X.getF 309 i232_306 rfl rfl (by decide) rfl rfl ?_
            refine X.iload 311 i232_309 rfl rfl rfl ?_
            refine X.iconst 312 i232_311 rfl rfl (by decide) ?_
            refine X.iadd 313 i232_312 rfl rfl (by omega) ?_
            refine X.lload_n 314 i232_313 rfl rfl rfl ?_
            refine X.last' 315 i232_314 rfl rfl (by decide) rfl (by omega) (fun hrm603 m603 hm603 => ?_)
            have hJ604 := w45_788 hJ602 hm603 (by omega) hrm603 hf7 hg4
            refine X.aload_n 316 i232_315 rfl rfl rfl ?_
            refine X.callv 319 [] [] [(0, zr 4 44)] i232_316 rfl (by decide) rfl rfl (by omega) rfl rfl (by decide) rfl t233 (Nat.le_of_ble_eq_true rfl) (Nat.le_of_ble_eq_true rfl) rfl ?_
            refine c233_1 (B := B574 + 1)   (by omega) (hJ604.up (by omega)) (by omega)  hf7 hg4 (fun m605 hFv607 hJ606 => ?_)
            show X (EE s) d 232 319 [(0, zr 4 44), (1, zl a1), (3, zl z525), (5, zi (788 + (6 * v584)))] [] m605 _
            refine X.lload_n 320 i232_319 rfl rfl rfl ?_
            refine X.lconst (y := 0) 321 i232_320 rfl rfl rfl ?_
            refine X.lcmp 322 i232_321 rfl rfl (fun z608 hz608 => ?_)
            have hK616 : ∀ (m' : zM), (if a1 = 0 then
                (zs (f236_1 m605) fun m610 =>
                m610)
                else
                (m605)) = m' → J S m0 (B574 + 1) m' → X (EE s) d 232 329 [] [] m' Q := by
              intro m614 hT617 hJ615
              refine X.retv i232_329 rfl t232 ?_
              exact hQ  m614  (Eq.trans hR576 (Eq.trans (zn_eq hFv579.symm) (Eq.trans (zn_eq hT588.symm) (Eq.trans (zs_eq hm590) (Eq.trans (zs_eq hm593) (Eq.trans (zs_eq hm595) (Eq.trans (zs_eq hm597) (Eq.trans (zs_eq hm599) (Eq.trans (zs_eq hm601) (Eq.trans (zs_eq hm603) (Eq.trans (zs_eq hFv607.symm) (Eq.trans (zs_eq hT617.symm) rfl)))))))))))) (hJ615.up (by omega)) 
            refine X.ifne 329 325 i232_322 rfl rfl rfl (fun h609 => ?_) (fun h609 => ?_)
            · have h609c : ¬ a1 = 0 := by omega
              clear h609 hz608
              refine X.cut [] i232_329 rfl ?_
              exact hK616 m605 (Eq.trans (if_neg h609c) rfl) (hJ606.up (by omega))
            · have h609c : a1 = 0 := by omega
              clear h609 hz608
              refine X.aload_n 326 i232_325 rfl rfl rfl ?_
              refine X.callv 329 [] [] [(0, zr 4 44)] i232_326 rfl (by decide) rfl rfl (by omega) rfl rfl (by decide) rfl t236 (Nat.le_of_ble_eq_true rfl) (Nat.le_of_ble_eq_true rfl) rfl ?_
              refine c236_1 (B := B574 + 1)   (by omega) (hJ606.up (by omega)) (by omega)  hf8 hg4 (fun m610 hFv612 hJ611 => ?_)
              show X (EE s) d 232 329 [(0, zr 4 44), (1, zl a1), (3, zl z525), (5, zi (788 + (6 * v584)))] [] m610 _
              refine X.cut [] i232_329 rfl ?_
              exact hK616 m610 (Eq.trans (if_pos h609c) (Eq.trans (zs_eq hFv612.symm) rfl)) (hJ611.up (by omega))
          refine X.icmpge 211 204 i232_201 rfl rfl rfl (fun h580 => ?_) (fun h580 => ?_)
          · refine X.bipush 213 i232_211 rfl rfl (by decide) ?_
            exact hK587 63 (by first | trivial | omega) (Eq.trans (if_pos h580) rfl)
          · refine X.aload_n 205 i232_204 rfl rfl rfl ?_
            refine X.callv 208 [] [zi 6, zi 788] [(0, zr 4 44)] i232_205 rfl (by decide) rfl rfl (by omega) rfl rfl (by decide) rfl t235 (Nat.le_of_ble_eq_true rfl) (Nat.le_of_ble_eq_true rfl) rfl ?_
            refine c235_1 (B := B574)   (by omega) (hJ575.up (by omega)) (by omega)  (fun v583 hv583 hFv583 => ?_)
            show X (EE s) d 232 208 [(0, zr 4 44), (1, zl a1), (3, zl z525)] [zi v583, zi 6, zi 788] m573 _
            refine X.goto 213 i232_208 rfl rfl ?_
            exact hK587 v583 (by first | trivial | omega) (Eq.trans (if_neg h580) (Eq.trans (zn_eq hFv583.symm) rfl))
      refine X.ifeq 85 66 i232_63 rfl rfl rfl (fun h514 => ?_) (fun h514 => ?_)
      · have h514c : (m 4 45 21) = 1 := by omega
        clear h514 hz513
        refine X.sipush 88 i232_85 rfl rfl (by decide) ?_
        refine X.goto 92 i232_88 rfl rfl ?_
        exact hK523 128 (by first | trivial | omega) (Eq.trans (if_pos h514c) rfl)
      · have h514c : ¬ (m 4 45 21) = 1 := by omega
        clear h514 hz513
        refine X.aload_n 67 i232_66 rfl rfl rfl ?_
        refine X.getF 70 i232_67 rfl rfl (by decide) rfl rfl ?_
        refine X.iconst 71 i232_70 rfl rfl (by decide) ?_
        refine X.lald 72 i232_71 rfl rfl (by decide) rfl (by omega) ?_
        have h515 := r45_0 hJ 4
        refine X.aload_n 73 i232_72 rfl rfl rfl ?_
        refine X.getF 76 i232_73 rfl rfl (by decide) rfl rfl ?_
        refine X.bipush 78 i232_76 rfl rfl (by decide) ?_
        refine X.lald 79 i232_78 rfl rfl (by decide) rfl (by omega) ?_
        have h516 := r45_8 hJ 4
        refine X.lremp 80 i232_79 rfl rfl (by omega) ?_
        have hz517 := z_modb (x := (m 4 45 0)) (y := (m 4 45 8)) (by omega) (by omega)
        obtain ⟨z517, ez517⟩ : ∃ z, z = ((m 4 45 0) % (m 4 45 8)) := ⟨_, rfl⟩
        rw [← ez517] at hz517 ⊢
        refine X.lconst (y := 0) 81 i232_80 rfl rfl rfl ?_
        refine X.lcmp 82 i232_81 rfl rfl (fun z518 hz518 => ?_)
        refine X.ifeq 91 85 i232_82 rfl rfl rfl (fun h519 => ?_) (fun h519 => ?_)
        · have h519c : z517 = 0 := by omega
          clear h519 hz518
          refine X.iconst 92 i232_91 rfl rfl (by decide) ?_
          exact hK523 0 (by first | trivial | omega) (Eq.trans (if_neg h514c) (Eq.trans (zn_eq ez517) (Eq.trans (if_pos h519c) rfl)))
        · have h519c : ¬ z517 = 0 := by omega
          clear h519 hz518
          refine X.sipush 88 i232_85 rfl rfl (by decide) ?_
          refine X.goto 92 i232_88 rfl rfl ?_
          exact hK523 128 (by first | trivial | omega) (Eq.trans (if_neg h514c) (Eq.trans (zn_eq ez517) (Eq.trans (if_neg h519c) rfl)))
    refine X.ifle 49 44 i232_41 rfl rfl rfl (fun h505 => ?_) (fun h505 => ?_)
    · have h505c : (m 4 45 26) ≤ 0 := by omega
      clear h505 hz504
      refine X.iconst 50 i232_49 rfl rfl (by decide) ?_
      exact hK509 0 (by first | trivial | omega) (Eq.trans (if_pos h505c) rfl)
    · have h505c : ¬ (m 4 45 26) ≤ 0 := by omega
      clear h505 hz504
      refine X.bipush 46 i232_44 rfl rfl (by decide) ?_
      refine X.goto 50 i232_46 rfl rfl ?_
      exact hK509 32 (by first | trivial | omega) (Eq.trans (if_neg h505c) rfl)
  · have h503c : z501 = 0 := by omega
    clear h503 hz502
    refine X.aload_n 21 i232_20 rfl rfl rfl ?_
    refine X.callv 24 [] [] [(0, zr 4 44)] i232_21 rfl (by decide) rfl rfl (by omega) rfl rfl (by decide) rfl t233 (Nat.le_of_ble_eq_true rfl) (Nat.le_of_ble_eq_true rfl) rfl ?_
    refine c233_1 (B := B)   (by omega) (hJ.up (by omega)) (by omega)  hf7 hg4 (fun m618 hFv620 hJ619 => ?_)
    show X (EE s) d 232 24 [(0, zr 4 44), (1, zl a1)] [] m618 _
    refine X.retv i232_24 rfl t232 ?_
    exact hQ  m618  (Eq.trans (zn_eq ez501) (Eq.trans (if_pos h503c) (Eq.trans (zs_eq hFv620.symm) rfl))) (hJ619.up (by omega)) 
-- WorkMeterModel.goes
def f230_1 (m : zM) : zM :=
  zn (f231_1 m) fun v503 =>
  zn (zorL (m 4 45 27) v503) fun z504 =>
  zs (z_upd m 4 45 27 z504) fun m505 =>
  if (m505 4 45 0) = 2000000000 then
  (m505)
  else
  (zs (z_upd m505 4 45 0 ((m505 4 45 0) + 1)) fun m510 =>
  zn (((m510 4 45 0) % (m510 4 45 8))) fun z514 =>
  zs (if z514 = 0 then
  (zs (f232_1 0 m510) fun m517 =>
  m517)
  else
  (m510)) fun m521 =>
  m521)
