section
-- WorkMeter$Seal.refuses
noncomputable def f17_1 (g0 : Nat) (m : zM) : Int × zM :=
  zs (if (m g0 39 0) = 0 then
  (m)
  else
  (zn (w32 ((m g0 39 3) + 1)) fun z504 =>
  zs (z_upd m g0 39 3 z504) fun m505 =>
  m505)) fun m508 =>
  ((m508 g0 39 0), m508)
-- WorkMeter$Seal.refuses
theorem c17_1 {s : Nat × (Nat → Int32)} {S : zS} {m0 m : zM} {B : Int} {d : Nat} {Q : Option zV → zM → Prop} (g0 : Nat) (hd : 13 ≤ d) (hJ : J S m0 B m) (hB : B + 0 ≤ 1000000000) (hf4 : ¬ S.1 4) (hgg0 : ¬ S.2.1 g0) (hQ : ∀ (v : Int) m', (0 ≤ v ∧ v ≤ 1) → f17_1 g0 m = (v, m') → J S m0 (B) m' → Q (some (zi v)) m') : X (EE s) d 17 0 [(0, zr g0 39)] [] m Q := by
  refine X.aload_n 1 (zi17 0) rfl rfl rfl ?_
  refine X.getZ 4 0 (zi17 1) rfl rfl (by decide) rfl rfl rfl (fun h501 => ?_)
  have hK510 : ∀ (m' : zM), (if (m g0 39 0) = 0 then
      (m)
      else
      (zn (w32 ((m g0 39 3) + 1)) fun z504 =>
      zs (z_upd m g0 39 3 z504) fun m505 =>
      m505)) = m' → J S m0 (B) m' → X (EE s) d 17 17 [(0, zr g0 39)] [] m' Q := by
    intro m508 hT511 hJ509
    refine X.aload_n 18 (zi17 17) rfl rfl rfl ?_
    refine X.getZ 21 0 (zi17 18) rfl rfl (by decide) rfl rfl rfl (fun h512 => ?_)
    refine X.retz (zi17 21) rfl t17 (by omega) ?_
    exact hQ (m508 g0 39 0) m508 (by first | trivial | omega) (Eq.trans (zs_eq hT511.symm) rfl) (hJ509.up (by omega)) 
  refine X.ifeq 17 7 (zi17 4) rfl rfl rfl (fun h502 => ?_) (fun h502 => ?_)
  · exact hK510 m (Eq.trans (if_pos h502) rfl) (hJ.up (by omega))
  · refine X.aload_n 8 (zi17 7) rfl rfl rfl ?_
    refine X.dup 9 (zi17 8) rfl rfl rfl ?_
    refine X.getIr 12 3 (zi17 9) rfl rfl (by decide) rfl rfl rfl (fun h503 => ?_)
    refine X.iconst 13 (zi17 12) rfl rfl (by decide) ?_
    refine X.iaddW 14 (zi17 13) rfl rfl (fun z504 ez504 hz504 => ?_)
    refine X.putI' 17 3 (zi17 14) rfl rfl (by decide) rfl rfl rfl (fun hrm505 m505 hm505 => ?_)
    have hJ506 := w39_3 hJ hm505 hrm505 hf4 hgg0
    exact hK510 m505 (Eq.trans (if_neg h502) (Eq.trans (zn_eq ez504) (Eq.trans (zs_eq hm505) rfl))) (hJ506.up (by omega))
noncomputable def fl11_6_1_b (self : Int → zM → zM) (k22 : zM → zM) (g0 : Nat) (y1 y4 : Int) (y3 : Int) (m : zM) : zM :=
  if y4 ≤ y3 then
  (k22 m)
  else
  (zs (z_upd m g0 22 y3 y1) fun m505 =>
  self (y3 + 1) m505)
noncomputable def fl11_6_1 (k22 : zM → zM) (g0 : Nat) (y1 y4 : Int) : Nat → Int → zM → zM
  | 0 => fun y3 m => m
  | n + 1 => fl11_6_1_b (fl11_6_1 k22 g0 y1 y4 n) k22 g0 y1 y4
theorem l11_6_1 {s : Nat × (Nat → Int32)} {S : zS} {m0 : zM} {d : Nat} {Q : Option zV → zM → Prop} {R0 : zM} {k22 : zM → zM} (g0 : Nat) (y1 y4 : Int) (BE : Int) (hE : BE ≤ 1000000000) (hd : 13 ≤ d) (hy1 : 0 ≤ y1 ∧ y1 ≤ 0) (hy4 : 16 ≤ y4 ∧ y4 ≤ 16) (hf2 : ¬ S.1 2) (hgg0 : ¬ S.2.1 g0)
    (K22 : ∀ (m' : zM) (B' : Int), J S m0 B' m' → B' ≤ BE → R0 = k22 m' → X (EE s) d 11 22 [] [] m' Q) :
    ∀ (n : Nat) (y3 : Int) (m : zM) (B : Int), J S m0 B m → B + 0 * (n : Int) ≤ BE → (0 ≤ y3 ∧ y3 ≤ 16) → 16 - y3 < (n : Int) → R0 = fl11_6_1 k22 g0 y1 y4 n y3 m → X (EE s) d 11 6 [(0, zr g0 22), (1, zl y1), (3, zi y3), (4, zi y4)] [] m Q := by
  intro n
  induction n with
  | zero =>
    intro y3 m B hJ hB hy3 hn hR
    exfalso
    omega
  | succ n ih =>
    intro y3 m B hJ hB hy3 hn hR
    replace hR : R0 = fl11_6_1_b (fl11_6_1 k22 g0 y1 y4 n) k22 g0 y1 y4 y3 m := hR
    refine X.iload_n 7 (zi11 6) rfl rfl rfl ?_
    refine X.iload 9 (zi11 7) rfl rfl rfl ?_
    refine X.icmpge 22 12 (zi11 9) rfl rfl rfl (fun h504 => ?_) (fun h504 => ?_)
    · refine X.cut [] (zi11 22) rfl ?_
      exact K22  m (B) (hJ.up (by omega)) (by omega)  (Eq.trans hR (Eq.trans (if_pos h504) rfl))
    · refine X.aload_n 13 (zi11 12) rfl rfl rfl ?_
      refine X.iload_n 14 (zi11 13) rfl rfl rfl ?_
      refine X.lload_n 15 (zi11 14) rfl rfl rfl ?_
      refine X.last' 16 (zi11 15) rfl rfl (by decide) rfl (by omega) (fun hrm505 m505 hm505 => ?_)
      have hJ506 := w22_0 hJ hm505 (by omega) hrm505 hf2 hgg0
      refine X.iinc 19 [(0, zr g0 22), (1, zl y1), (3, zi (y3 + 1)), (4, zi y4)] (zi11 16) rfl rfl rfl (by omega) rfl ?_
      refine X.goto 6 (zi11 19) rfl rfl ?_
      exact ih (y3 + 1) m505 (B) (hJ506.up (by omega)) (by omega) (by omega) (by omega) (Eq.trans hR (Eq.trans (if_neg h504) (Eq.trans (zs_eq hm505) rfl)))
-- java/util/Arrays.fill
noncomputable def f11_1 (g0 : Nat) (a1 : Int) (m : zM) : zM :=
  fl11_6_1 (fun m501 =>
  m501) g0 a1 16 (zfu 17) 0 m
-- java/util/Arrays.fill
theorem c11_1 {s : Nat × (Nat → Int32)} {S : zS} {m0 m : zM} {B : Int} {d : Nat} {Q : Option zV → zM → Prop} (g0 : Nat) (a1 : Int) (hd : 13 ≤ d) (hJ : J S m0 B m) (hB : B + 0 ≤ 1000000000) (ha1 : 0 ≤ a1 ∧ a1 ≤ 0) (hf2 : ¬ S.1 2) (hgg0 : ¬ S.2.1 g0) (hQ : ∀ m', f11_1 g0 a1 m = m' → J S m0 (B) m' → Q none m') : X (EE s) d 11 0 [(0, zr g0 22), (1, zl a1)] [] m Q := by
  refine X.iconst 1 (zi11 0) rfl rfl (by decide) ?_
  refine X.istore_n 2 [(0, zr g0 22), (1, zl a1), (3, zi 0)] (zi11 1) rfl rfl rfl ?_
  refine X.aload_n 3 (zi11 2) rfl rfl rfl ?_
  refine X.alen 4 (zi11 3) rfl rfl (by decide) rfl ?_
  show X (EE s) d 11 4 [(0, zr g0 22), (1, zl a1), (3, zi 0)] [zi 16] m _
  refine X.istore 6 [(0, zr g0 22), (1, zl a1), (3, zi 0), (4, zi 16)] (zi11 4) rfl rfl rfl ?_
  have hz17 := zfu_eq 17
  refine l11_6_1 (s := s) (d := d) (R0 := (f11_1 g0 a1 m)) g0 a1 16  (BE := B + 0) (by omega) (by omega) (by omega) (by omega) hf2 hgg0 (fun  m501 B502 hJ503 hBB502 hR504 => ?_) (zfu 17) 0 m (B) (hJ.up (by omega)) (by omega) (by omega) (by omega) rfl
  refine X.retv (zi11 22) rfl t11 ?_
  exact hQ  m501  (Eq.trans hR504 rfl) (hJ503.up (by omega)) 
-- WorkMeter$Wave.tellShape
noncomputable def f18_1 (g0 : Nat) (a1 a2 : Int) (m : zM) : Int × zM :=
  if a1 < 1 then
  ((0, m))
  else
  (if 3 < a1 then
  ((0, m))
  else
  (if a2 < 4 then
  ((0, m))
  else
  (if 16 < a2 then
  ((0, m))
  else
  (if (a2 % 4) = 0 then
  (zs (z_upd m g0 19 3 a1) fun m506 =>
  zs (z_upd m506 g0 19 4 a2) fun m508 =>
  zs (z_upd m508 g0 19 5 0) fun m510 =>
  zs (z_upd m510 g0 19 6 0) fun m512 =>
  zs (f11_1 g0 0 m512) fun m514 =>
  (1, m514))
  else
  ((0, m))))))
-- WorkMeter$Wave.tellShape
theorem c18_1 {s : Nat × (Nat → Int32)} {S : zS} {m0 m : zM} {B : Int} {d : Nat} {Q : Option zV → zM → Prop} (g0 : Nat) (a1 a2 : Int) (hd : 14 ≤ d) (hJ : J S m0 B m) (hB : B + 0 ≤ 1000000000) (ha1 : (-2147483648) ≤ a1 ∧ a1 ≤ 2147483647) (ha2 : (-2147483648) ≤ a2 ∧ a2 ≤ 2147483647) (hf2 : ¬ S.1 2) (hgg0 : ¬ S.2.1 g0) (hQ : ∀ (v : Int) m', (0 ≤ v ∧ v ≤ 1) → f18_1 g0 a1 a2 m = (v, m') → J S m0 (B) m' → Q (some (zi v)) m') : X (EE s) d 18 0 [(0, zr g0 19), (1, zi a1), (2, zi a2)] [] m Q := by
  refine X.iload_n 1 (zi18 0) rfl rfl rfl ?_
  refine X.iconst 2 (zi18 1) rfl rfl (by decide) ?_
  refine X.icmplt 27 5 (zi18 2) rfl rfl rfl (fun h501 => ?_) (fun h501 => ?_)
  · refine X.cut [] (zi18 27) rfl ?_
    refine X.iconst 28 (zi18 27) rfl rfl (by decide) ?_
    refine X.retz (zi18 28) rfl t18 (by omega) ?_
    exact hQ 0 m (by first | trivial | omega) (Eq.trans (if_pos h501) rfl) (hJ.up (by omega)) 
  · refine X.iload_n 6 (zi18 5) rfl rfl rfl ?_
    refine X.iconst 7 (zi18 6) rfl rfl (by decide) ?_
    refine X.icmpgt 27 10 (zi18 7) rfl rfl rfl (fun h502 => ?_) (fun h502 => ?_)
    · refine X.cut [] (zi18 27) rfl ?_
      refine X.iconst 28 (zi18 27) rfl rfl (by decide) ?_
      refine X.retz (zi18 28) rfl t18 (by omega) ?_
      exact hQ 0 m (by first | trivial | omega) (Eq.trans (if_neg h501) (Eq.trans (if_pos h502) rfl)) (hJ.up (by omega)) 
    · refine X.iload_n 11 (zi18 10) rfl rfl rfl ?_
      refine X.iconst 12 (zi18 11) rfl rfl (by decide) ?_
      refine X.icmplt 27 15 (zi18 12) rfl rfl rfl (fun h503 => ?_) (fun h503 => ?_)
      · refine X.cut [] (zi18 27) rfl ?_
        refine X.iconst 28 (zi18 27) rfl rfl (by decide) ?_
        refine X.retz (zi18 28) rfl t18 (by omega) ?_
        exact hQ 0 m (by first | trivial | omega) (Eq.trans (if_neg h501) (Eq.trans (if_neg h502) (Eq.trans (if_pos h503) rfl))) (hJ.up (by omega)) 
      · refine X.iload_n 16 (zi18 15) rfl rfl rfl ?_
        refine X.bipush 18 (zi18 16) rfl rfl (by decide) ?_
        refine X.icmpgt 27 21 (zi18 18) rfl rfl rfl (fun h504 => ?_) (fun h504 => ?_)
        · refine X.cut [] (zi18 27) rfl ?_
          refine X.iconst 28 (zi18 27) rfl rfl (by decide) ?_
          refine X.retz (zi18 28) rfl t18 (by omega) ?_
          exact hQ 0 m (by first | trivial | omega) (Eq.trans (if_neg h501) (Eq.trans (if_neg h502) (Eq.trans (if_neg h503) (Eq.trans (if_pos h504) rfl)))) (hJ.up (by omega)) 
        · refine X.iload_n 22 (zi18 21) rfl rfl rfl ?_
          refine X.iconst 23 (zi18 22) rfl rfl (by decide) ?_
          refine X.irem 24 (zi18 23) rfl rfl (by omega) ?_
          refine X.ifeq 29 27 (zi18 24) rfl rfl rfl (fun h505 => ?_) (fun h505 => ?_)
          · refine X.aload_n 30 (zi18 29) rfl rfl rfl ?_
            refine X.iload_n 31 (zi18 30) rfl rfl rfl ?_
            refine X.putI' 34 3 (zi18 31) rfl rfl (by decide) rfl rfl rfl (fun hrm506 m506 hm506 => ?_)
            have hJ507 := w19_3 hJ hm506 (by omega) hf2 hgg0
            refine X.aload_n 35 (zi18 34) rfl rfl rfl ?_
            refine X.iload_n 36 (zi18 35) rfl rfl rfl ?_
            refine X.putI' 39 4 (zi18 36) rfl rfl (by decide) rfl rfl rfl (fun hrm508 m508 hm508 => ?_)
            have hJ509 := w19_4 hJ507 hm508 (by omega) hf2 hgg0
            refine X.aload_n 40 (zi18 39) rfl rfl rfl ?_
            refine X.iconst 41 (zi18 40) rfl rfl (by decide) ?_
            refine X.putI' 44 5 (zi18 41) rfl rfl (by decide) rfl rfl rfl (fun hrm510 m510 hm510 => ?_)
            have hJ511 := w19_5 hJ509 hm510 (by omega) hf2 hgg0
            have em510 : m510 g0 19 5 = 0 := by rw [hm510]; exact z_upd_same _ _ _ _ _
            refine X.aload_n 45 (zi18 44) rfl rfl rfl ?_
            refine X.lconst (y := 0) 46 (zi18 45) rfl rfl rfl ?_
            refine X.putL' 49 6 (zi18 46) rfl rfl (by decide) rfl rfl rfl (fun hrm512 m512 hm512 => ?_)
            have hJ513 := w19_6 hJ511 hm512 hrm512 hf2 hgg0
            refine X.aload_n 50 (zi18 49) rfl rfl rfl ?_
            refine X.getR 53 (zi18 50) rfl rfl (by decide) rfl rfl ?_
            refine X.lconst (y := 0) 54 (zi18 53) rfl rfl rfl ?_
            refine X.calls 57 [zr g0 22, zl 0] [] [(0, zr g0 22), (1, zl 0)] (zi18 54) (by decide) rfl rfl (by omega) rfl rfl t11 (Nat.le_of_ble_eq_true rfl) (Nat.le_of_ble_eq_true rfl) rfl ?_
            refine c11_1 (B := B) g0 0 (by omega) (hJ513.up (by omega)) (by omega) (by omega) hf2 hgg0 (fun m514 hFv516 hJ515 => ?_)
            show X (EE s) d 18 57 [(0, zr g0 19), (1, zi a1), (2, zi a2)] [] m514 _
            refine X.iconst 58 (zi18 57) rfl rfl (by decide) ?_
            refine X.retz (zi18 58) rfl t18 (by omega) ?_
            exact hQ 1 m514 (by first | trivial | omega) (Eq.trans (if_neg h501) (Eq.trans (if_neg h502) (Eq.trans (if_neg h503) (Eq.trans (if_neg h504) (Eq.trans (if_pos h505) (Eq.trans (zs_eq hm506) (Eq.trans (zs_eq hm508) (Eq.trans (zs_eq hm510) (Eq.trans (zs_eq hm512) (Eq.trans (zs_eq hFv516.symm) rfl)))))))))) (hJ515.up (by omega)) 
          · refine X.cut [] (zi18 27) rfl ?_
            refine X.iconst 28 (zi18 27) rfl rfl (by decide) ?_
            refine X.retz (zi18 28) rfl t18 (by omega) ?_
            exact hQ 0 m (by first | trivial | omega) (Eq.trans (if_neg h501) (Eq.trans (if_neg h502) (Eq.trans (if_neg h503) (Eq.trans (if_neg h504) (Eq.trans (if_neg h505) rfl))))) (hJ.up (by omega)) 
-- WorkMeter.phases
noncomputable def f16_1 (a1 a2 : Int) (m : zM) : Int × zM :=
  zb (f17_1 0 m) fun v503 m501 =>
  if v503 = 0 then
  (zb (f18_1 0 a1 a2 m501) fun v507 m505 =>
  (v507, m505))
  else
  ((0, m501))
-- WorkMeter.phases
theorem c16_1 {s : Nat × (Nat → Int32)} {S : zS} {m0 m : zM} {B : Int} {d : Nat} {Q : Option zV → zM → Prop} (a1 a2 : Int) (hd : 15 ≤ d) (hJ : J S m0 B m) (hB : B + 0 ≤ 1000000000) (ha1 : (-2147483648) ≤ a1 ∧ a1 ≤ 2147483647) (ha2 : (-2147483648) ≤ a2 ∧ a2 ≤ 2147483647) (hf2 : ¬ S.1 2) (hf4 : ¬ S.1 4) (hg0 : ¬ S.2.1 0) (hQ : ∀ (v : Int) m', (0 ≤ v ∧ v ≤ 1) → f16_1 a1 a2 m = (v, m') → J S m0 (B) m' → Q (some (zi v)) m') : X (EE s) d 16 0 [(0, zr 4 40), (1, zi a1), (2, zi a2)] [] m Q := by
  refine X.aload_n 1 (zi16 0) rfl rfl rfl ?_
  refine X.getF 4 (zi16 1) rfl rfl (by decide) rfl rfl ?_
  refine X.getR 7 (zi16 4) rfl rfl (by decide) rfl rfl ?_
  refine X.callv 10 [] [] [(0, zr 0 39)] (zi16 7) rfl (by decide) rfl rfl (by omega) rfl rfl (by decide) rfl t17 (Nat.le_of_ble_eq_true rfl) (Nat.le_of_ble_eq_true rfl) rfl ?_
  refine c17_1 (B := B) 0  (by omega) (hJ.up (by omega)) (by omega)  hf4 hg0 (fun v503 m501 hv503 hFv503 hJ502 => ?_)
  show X (EE s) d 16 10 [(0, zr 4 40), (1, zi a1), (2, zi a2)] [zi v503] m501 _
  refine X.ifeq 15 13 (zi16 10) rfl rfl rfl (fun h504 => ?_) (fun h504 => ?_)
  · refine X.aload_n 16 (zi16 15) rfl rfl rfl ?_
    refine X.getF 19 (zi16 16) rfl rfl (by decide) rfl rfl ?_
    refine X.getR 22 (zi16 19) rfl rfl (by decide) rfl rfl ?_
    refine X.iload_n 23 (zi16 22) rfl rfl rfl ?_
    refine X.iload_n 24 (zi16 23) rfl rfl rfl ?_
    refine X.callv 27 [zi a1, zi a2] [] [(0, zr 0 19), (1, zi a1), (2, zi a2)] (zi16 24) rfl (by decide) rfl rfl (by omega) rfl rfl (by decide) rfl t18 (Nat.le_of_ble_eq_true rfl) (Nat.le_of_ble_eq_true rfl) rfl ?_
    refine c18_1 (B := B) 0 a1 a2 (by omega) (hJ502.up (by omega)) (by omega) (by omega) (by omega) hf2 hg0 (fun v507 m505 hv507 hFv507 hJ506 => ?_)
    show X (EE s) d 16 27 [(0, zr 4 40), (1, zi a1), (2, zi a2)] [zi v507] m505 _
    refine X.retz (zi16 27) rfl t16 (by omega) ?_
    exact hQ v507 m505 (by first | trivial | omega) (Eq.trans (zb_eq hFv503) (Eq.trans (if_pos h504) (Eq.trans (zb_eq hFv507) rfl))) (hJ506.up (by omega)) 
  · refine X.iconst 14 (zi16 13) rfl rfl (by decide) ?_
    refine X.retz (zi16 14) rfl t16 (by omega) ?_
    exact hQ 0 m501 (by first | trivial | omega) (Eq.trans (zb_eq hFv503) (Eq.trans (if_neg h504) rfl)) (hJ502.up (by omega)) 
-- WorkMeterModel.isShut
noncomputable def f203_1 (m : zM) : Int × zM :=
  zn (w64 ((m 4 45 1618) + (m 4 45 1614))) fun z502 =>
  zs (z_upd m 4 45 1618 z502) fun m503 =>
  zn (if (m503 4 45 1614) = 1 then
  (1)
  else
  (0)) fun v508 =>
  (v508, m503)
-- WorkMeterModel.isShut
theorem c203_1 {s : Nat × (Nat → Int32)} {S : zS} {m0 m : zM} {B : Int} {d : Nat} {Q : Option zV → zM → Prop} (hd : 13 ≤ d) (hJ : J S m0 B m) (hB : B + 0 ≤ 1000000000) (hf24 : ¬ S.1 24) (hg4 : ¬ S.2.1 4) (hQ : ∀ (v : Int) m', (0 ≤ v ∧ v ≤ 1) → f203_1 m = (v, m') → J S m0 (B) m' → Q (some (zi v)) m') : X (EE s) d 203 0 [(0, zr 4 44)] [] m Q := by
  refine X.aload_n 1 (zi203 0) rfl rfl rfl ?_
  refine X.getF 4 (zi203 1) rfl rfl (by decide) rfl rfl ?_
  refine X.sipush 7 (zi203 4) rfl rfl (by decide) ?_
  refine X.dup2 8 (zi203 7) rfl rfl ?_
  refine X.lald 9 (zi203 8) rfl rfl (by decide) rfl (by omega) ?_
  refine X.aload_n 10 (zi203 9) rfl rfl rfl ?_
  refine X.getF 13 (zi203 10) rfl rfl (by decide) rfl rfl ?_
  refine X.sipush 16 (zi203 13) rfl rfl (by decide) ?_
  refine X.lald 17 (zi203 16) rfl rfl (by decide) rfl (by omega) ?_
  have h501 := r45_1614 hJ 4
  refine X.laddW 18 (zi203 17) rfl rfl (fun z502 ez502 hz502 => ?_)
  refine X.last' 19 (zi203 18) rfl rfl (by decide) rfl (by omega) (fun hrm503 m503 hm503 => ?_)
  have hJ504 := w45_1618 hJ hm503 hrm503 hf24 hg4
  refine X.aload_n 20 (zi203 19) rfl rfl rfl ?_
  refine X.getF 23 (zi203 20) rfl rfl (by decide) rfl rfl ?_
  refine X.sipush 26 (zi203 23) rfl rfl (by decide) ?_
  refine X.lald 27 (zi203 26) rfl rfl (by decide) rfl (by omega) ?_
  have h505 := r45_1614 hJ504 4
  refine X.lconst (y := 1) 28 (zi203 27) rfl rfl rfl ?_
  refine X.lcmp 29 (zi203 28) rfl rfl (fun z506 hz506 => ?_)
  have hK511 : ∀ (v : Int) , (0 ≤ v ∧ v ≤ 1) → (if (m503 4 45 1614) = 1 then
      (1)
      else
      (0)) = v → X (EE s) d 203 37 [] [zi v] m503 Q := by
    intro v508 hv508 hT512
    refine X.retz (zi203 37) rfl t203 (by omega) ?_
    exact hQ v508 m503 (by first | trivial | omega) (Eq.trans (zn_eq ez502) (Eq.trans (zs_eq hm503) (Eq.trans (zn_eq hT512.symm) rfl))) (hJ504.up (by omega)) 
  refine X.ifne 36 32 (zi203 29) rfl rfl rfl (fun h507 => ?_) (fun h507 => ?_)
  · have h507c : ¬ (m503 4 45 1614) = 1 := by omega
    clear h507 hz506
    refine X.cut [] (zi203 36) rfl ?_
    refine X.iconst 37 (zi203 36) rfl rfl (by decide) ?_
    exact hK511 0 (by first | trivial | omega) (Eq.trans (if_neg h507c) rfl)
  · have h507c : (m503 4 45 1614) = 1 := by omega
    clear h507 hz506
    refine X.iconst 33 (zi203 32) rfl rfl (by decide) ?_
    refine X.goto 37 (zi203 33) rfl rfl ?_
    refine X.cut [] (zi203 37) rfl ?_
    exact hK511 1 (by first | trivial | omega) (Eq.trans (if_pos h507c) rfl)
noncomputable def fl202_67_1_b (self : Int → zM → Int × zM) (k87 : zM → Int × zM) (y3 : Int) (m : zM) : Int × zM :=
  if 191 ≤ y3 then
  (k87 m)
  else
  (zs (z_upd m 4 45 y3 0) fun m505 =>
  self (y3 + 1) m505)
noncomputable def fl202_67_1 (k87 : zM → Int × zM) : Nat → Int → zM → Int × zM
  | 0 => fun y3 m => (0, m)
  | n + 1 => fl202_67_1_b (fl202_67_1 k87 n) k87
theorem l202_67_1 {s : Nat × (Nat → Int32)} {S : zS} {m0 : zM} {d : Nat} {Q : Option zV → zM → Prop} {R0 : Int × zM} {k87 : zM → Int × zM} (BE : Int) (hE : BE ≤ 1000000000) (hd : 13 ≤ d) (hf22 : ¬ S.1 22) (hg4 : ¬ S.2.1 4)
    (K87 : ∀ (m' : zM) (B' : Int), J S m0 B' m' → B' ≤ BE → R0 = k87 m' → X (EE s) d 202 87 [] [] m' Q) :
    ∀ (n : Nat) (y3 : Int) (m : zM) (B : Int), J S m0 B m → B + 0 * (n : Int) ≤ BE → (95 ≤ y3 ∧ y3 ≤ 191) → 191 - y3 < (n : Int) → R0 = fl202_67_1 k87 n y3 m → X (EE s) d 202 67 [(0, zr 4 44), (3, zi y3)] [] m Q := by
  intro n
  induction n with
  | zero =>
    intro y3 m B hJ hB hy3 hn hR
    exfalso
    omega
  | succ n ih =>
    intro y3 m B hJ hB hy3 hn hR
    replace hR : R0 = fl202_67_1_b (fl202_67_1 k87 n) k87 y3 m := hR
    refine X.iload_n 68 (zi202 67) rfl rfl rfl ?_
    refine X.sipush 71 (zi202 68) rfl rfl (by decide) ?_
    refine X.icmpge 87 74 (zi202 71) rfl rfl rfl (fun h504 => ?_) (fun h504 => ?_)
    · refine X.cut [] (zi202 87) rfl ?_
      exact K87  m (B) (hJ.up (by omega)) (by omega)  (Eq.trans hR (Eq.trans (if_pos h504) rfl))
    · refine X.aload_n 75 (zi202 74) rfl rfl rfl ?_
      refine X.getF 78 (zi202 75) rfl rfl (by decide) rfl rfl ?_
      refine X.iload_n 79 (zi202 78) rfl rfl rfl ?_
      refine X.lconst (y := 0) 80 (zi202 79) rfl rfl rfl ?_
      refine X.last' 81 (zi202 80) rfl rfl (by decide) rfl (by omega) (fun hrm505 m505 hm505 => ?_)
      have hJ506 := w45_95 hJ hm505 (by omega) (by omega) hf22 hg4
      refine X.iinc 84 [(0, zr 4 44), (3, zi (y3 + 1))] (zi202 81) rfl rfl rfl (by omega) rfl ?_
      refine X.goto 67 (zi202 84) rfl rfl ?_
      exact ih (y3 + 1) m505 (B) (hJ506.up (by omega)) (by omega) (by omega) (by omega) (Eq.trans hR (Eq.trans (if_neg h504) (Eq.trans (zs_eq hm505) rfl)))
-- WorkMeterModel.phases
noncomputable def f202_1 (a1 a2 : Int) (m : zM) : Int × zM :=
  zb (f203_1 m) fun v503 m501 =>
  if v503 = 0 then
  (if a1 < 1 then
  ((0, m501))
  else
  (if a1 ≤ 3 then
  (if a2 < 4 then
  ((0, m501))
  else
  (if a2 ≤ 16 then
  (if (a2 % 4) = 0 then
  (zs (z_upd m501 4 45 1 a1) fun m520 =>
  zs (z_upd m520 4 45 2 a2) fun m522 =>
  zs (z_upd m522 4 45 3 0) fun m524 =>
  fl202_67_1 (fun m526 =>
  (1, m526)) (zfu 97) 95 m524)
  else
  ((0, m501)))
  else
  ((0, m501))))
  else
  ((0, m501))))
  else
  ((0, m501))
-- WorkMeterModel.phases
theorem c202_1 {s : Nat × (Nat → Int32)} {S : zS} {m0 m : zM} {B : Int} {d : Nat} {Q : Option zV → zM → Prop} (a1 a2 : Int) (hd : 14 ≤ d) (hJ : J S m0 B m) (hB : B + 0 ≤ 1000000000) (ha1 : (-2147483648) ≤ a1 ∧ a1 ≤ 2147483647) (ha2 : (-2147483648) ≤ a2 ∧ a2 ≤ 2147483647) (hf22 : ¬ S.1 22) (hf24 : ¬ S.1 24) (hg4 : ¬ S.2.1 4) (hQ : ∀ (v : Int) m', (0 ≤ v ∧ v ≤ 1) → f202_1 a1 a2 m = (v, m') → J S m0 (B) m' → Q (some (zi v)) m') : X (EE s) d 202 0 [(0, zr 4 44), (1, zi a1), (2, zi a2)] [] m Q := by
  refine X.aload_n 1 (zi202 0) rfl rfl rfl ?_
  refine X.callv 4 [] [] [(0, zr 4 44)] (zi202 1) rfl (by decide) rfl rfl (by omega) rfl rfl (by decide) rfl t203 (Nat.le_of_ble_eq_true rfl) (Nat.le_of_ble_eq_true rfl) rfl ?_
  refine c203_1 (B := B)   (by omega) (hJ.up (by omega)) (by omega)  hf24 hg4 (fun v503 m501 hv503 hFv503 hJ502 => ?_)
  show X (EE s) d 202 4 [(0, zr 4 44), (1, zi a1), (2, zi a2)] [zi v503] m501 _
  refine X.ifne 39 7 (zi202 4) rfl rfl rfl (fun h504 => ?_) (fun h504 => ?_)
  · refine X.cut [] (zi202 39) rfl ?_
    refine X.iconst 40 (zi202 39) rfl rfl (by decide) ?_
    refine X.retz (zi202 40) rfl t202 (by omega) ?_
    exact hQ 0 m501 (by first | trivial | omega) (Eq.trans (zb_eq hFv503) (Eq.trans (if_neg h504) rfl)) (hJ502.up (by omega)) 
  · refine X.iload_n 8 (zi202 7) rfl rfl rfl ?_
    refine X.i2l 9 (zi202 8) rfl rfl ?_
    refine X.lconst (y := 1) 10 (zi202 9) rfl rfl rfl ?_
    refine X.ldc2 13 (zi202 10) rfl rfl (by decide) ?_
    refine X.calls 16 [zl a1, zl 1, zl 3] [] [(0, zl a1), (2, zl 1), (4, zl 3)] (zi202 13) (by decide) rfl rfl (by omega) rfl rfl t204 (Nat.le_of_ble_eq_true rfl) (Nat.le_of_ble_eq_true rfl) rfl ?_
    refine X.lload_n 1 (zi204 0) rfl rfl rfl ?_
    refine X.lload_n 2 (zi204 1) rfl rfl rfl ?_
    refine X.lcmp 3 (zi204 2) rfl rfl (fun z505 hz505 => ?_)
    refine X.iflt 17 6 (zi204 3) rfl rfl rfl (fun h506 => ?_) (fun h506 => ?_)
    · have h506c : a1 < 1 := by omega
      clear h506 hz505
      refine X.cut [] (zi204 17) rfl ?_
      refine X.iconst 18 (zi204 17) rfl rfl (by decide) ?_
      refine X.retz (zi204 18) rfl t204 (by omega) ?_
      show X (EE s) d 202 16 [(0, zr 4 44), (1, zi a1), (2, zi a2)] [zi 0] m501 _
      refine X.ifeq 39 19 (zi202 16) rfl rfl rfl (fun h507 => ?_) (fun h507 => (by exfalso; omega))
      refine X.cut [] (zi202 39) rfl ?_
      refine X.iconst 40 (zi202 39) rfl rfl (by decide) ?_
      refine X.retz (zi202 40) rfl t202 (by omega) ?_
      exact hQ 0 m501 (by first | trivial | omega) (Eq.trans (zb_eq hFv503) (Eq.trans (if_pos h504) (Eq.trans (if_pos h506c) rfl))) (hJ502.up (by omega)) 
    · have h506c : ¬ a1 < 1 := by omega
      clear h506 hz505
      refine X.lload_n 7 (zi204 6) rfl rfl rfl ?_
      refine X.lload 9 (zi204 7) rfl rfl rfl ?_
      refine X.lcmp 10 (zi204 9) rfl rfl (fun z508 hz508 => ?_)
      refine X.ifgt 17 13 (zi204 10) rfl rfl rfl (fun h509 => ?_) (fun h509 => ?_)
      · have h509c : ¬ a1 ≤ 3 := by omega
        clear h509 hz508
        refine X.cut [] (zi204 17) rfl ?_
        refine X.iconst 18 (zi204 17) rfl rfl (by decide) ?_
        refine X.retz (zi204 18) rfl t204 (by omega) ?_
        show X (EE s) d 202 16 [(0, zr 4 44), (1, zi a1), (2, zi a2)] [zi 0] m501 _
        refine X.ifeq 39 19 (zi202 16) rfl rfl rfl (fun h510 => ?_) (fun h510 => (by exfalso; omega))
        refine X.cut [] (zi202 39) rfl ?_
        refine X.iconst 40 (zi202 39) rfl rfl (by decide) ?_
        refine X.retz (zi202 40) rfl t202 (by omega) ?_
        exact hQ 0 m501 (by first | trivial | omega) (Eq.trans (zb_eq hFv503) (Eq.trans (if_pos h504) (Eq.trans (if_neg h506c) (Eq.trans (if_neg h509c) rfl)))) (hJ502.up (by omega)) 
      · have h509c : a1 ≤ 3 := by omega
        clear h509 hz508
        refine X.iconst 14 (zi204 13) rfl rfl (by decide) ?_
        refine X.goto 18 (zi204 14) rfl rfl ?_
        refine X.cut [] (zi204 18) rfl ?_
        refine X.retz (zi204 18) rfl t204 (by omega) ?_
        show X (EE s) d 202 16 [(0, zr 4 44), (1, zi a1), (2, zi a2)] [zi 1] m501 _
        refine X.ifeq 39 19 (zi202 16) rfl rfl rfl (fun h511 => (by exfalso; omega)) (fun h511 => ?_)
        refine X.iload_n 20 (zi202 19) rfl rfl rfl ?_
        refine X.i2l 21 (zi202 20) rfl rfl ?_
        refine X.ldc2 24 (zi202 21) rfl rfl (by decide) ?_
        refine X.ldc2 27 (zi202 24) rfl rfl (by decide) ?_
        refine X.calls 30 [zl a2, zl 4, zl 16] [] [(0, zl a2), (2, zl 4), (4, zl 16)] (zi202 27) (by decide) rfl rfl (by omega) rfl rfl t204 (Nat.le_of_ble_eq_true rfl) (Nat.le_of_ble_eq_true rfl) rfl ?_
        refine X.lload_n 1 (zi204 0) rfl rfl rfl ?_
        refine X.lload_n 2 (zi204 1) rfl rfl rfl ?_
        refine X.lcmp 3 (zi204 2) rfl rfl (fun z512 hz512 => ?_)
        refine X.iflt 17 6 (zi204 3) rfl rfl rfl (fun h513 => ?_) (fun h513 => ?_)
        · have h513c : a2 < 4 := by omega
          clear h513 hz512
          refine X.cut [] (zi204 17) rfl ?_
          refine X.iconst 18 (zi204 17) rfl rfl (by decide) ?_
          refine X.retz (zi204 18) rfl t204 (by omega) ?_
          show X (EE s) d 202 30 [(0, zr 4 44), (1, zi a1), (2, zi a2)] [zi 0] m501 _
          refine X.ifeq 39 33 (zi202 30) rfl rfl rfl (fun h514 => ?_) (fun h514 => (by exfalso; omega))
          refine X.cut [] (zi202 39) rfl ?_
          refine X.iconst 40 (zi202 39) rfl rfl (by decide) ?_
          refine X.retz (zi202 40) rfl t202 (by omega) ?_
          exact hQ 0 m501 (by first | trivial | omega) (Eq.trans (zb_eq hFv503) (Eq.trans (if_pos h504) (Eq.trans (if_neg h506c) (Eq.trans (if_pos h509c) (Eq.trans (if_pos h513c) rfl))))) (hJ502.up (by omega)) 
        · have h513c : ¬ a2 < 4 := by omega
          clear h513 hz512
          refine X.lload_n 7 (zi204 6) rfl rfl rfl ?_
          refine X.lload 9 (zi204 7) rfl rfl rfl ?_
          refine X.lcmp 10 (zi204 9) rfl rfl (fun z515 hz515 => ?_)
          refine X.ifgt 17 13 (zi204 10) rfl rfl rfl (fun h516 => ?_) (fun h516 => ?_)
          · have h516c : ¬ a2 ≤ 16 := by omega
            clear h516 hz515
            refine X.cut [] (zi204 17) rfl ?_
            refine X.iconst 18 (zi204 17) rfl rfl (by decide) ?_
            refine X.retz (zi204 18) rfl t204 (by omega) ?_
            show X (EE s) d 202 30 [(0, zr 4 44), (1, zi a1), (2, zi a2)] [zi 0] m501 _
            refine X.ifeq 39 33 (zi202 30) rfl rfl rfl (fun h517 => ?_) (fun h517 => (by exfalso; omega))
            refine X.cut [] (zi202 39) rfl ?_
            refine X.iconst 40 (zi202 39) rfl rfl (by decide) ?_
            refine X.retz (zi202 40) rfl t202 (by omega) ?_
            exact hQ 0 m501 (by first | trivial | omega) (Eq.trans (zb_eq hFv503) (Eq.trans (if_pos h504) (Eq.trans (if_neg h506c) (Eq.trans (if_pos h509c) (Eq.trans (if_neg h513c) (Eq.trans (if_neg h516c) rfl)))))) (hJ502.up (by omega)) 
          · have h516c : a2 ≤ 16 := by omega
            clear h516 hz515
            refine X.iconst 14 (zi204 13) rfl rfl (by decide) ?_
            refine X.goto 18 (zi204 14) rfl rfl ?_
            refine X.cut [] (zi204 18) rfl ?_
            refine X.retz (zi204 18) rfl t204 (by omega) ?_
            show X (EE s) d 202 30 [(0, zr 4 44), (1, zi a1), (2, zi a2)] [zi 1] m501 _
            refine X.ifeq 39 33 (zi202 30) rfl rfl rfl (fun h518 => (by exfalso; omega)) (fun h518 => ?_)
            refine X.iload_n 34 (zi202 33) rfl rfl rfl ?_
            refine X.iconst 35 (zi202 34) rfl rfl (by decide) ?_
            refine X.irem 36 (zi202 35) rfl rfl (by omega) ?_
            refine X.ifeq 41 39 (zi202 36) rfl rfl rfl (fun h519 => ?_) (fun h519 => ?_)
            · refine X.aload_n 42 (zi202 41) rfl rfl rfl ?_
              refine X.getF 45 (zi202 42) rfl rfl (by decide) rfl rfl ?_
              refine X.iconst 46 (zi202 45) rfl rfl (by decide) ?_
              refine X.iload_n 47 (zi202 46) rfl rfl rfl ?_
              refine X.i2l 48 (zi202 47) rfl rfl ?_
              refine X.last' 49 (zi202 48) rfl rfl (by decide) rfl (by omega) (fun hrm520 m520 hm520 => ?_)
              have hJ521 := w45_1 hJ502 hm520 (by omega) hf22 hg4
              refine X.aload_n 50 (zi202 49) rfl rfl rfl ?_
              refine X.getF 53 (zi202 50) rfl rfl (by decide) rfl rfl ?_
              refine X.iconst 54 (zi202 53) rfl rfl (by decide) ?_
              refine X.iload_n 55 (zi202 54) rfl rfl rfl ?_
              refine X.i2l 56 (zi202 55) rfl rfl ?_
              refine X.last' 57 (zi202 56) rfl rfl (by decide) rfl (by omega) (fun hrm522 m522 hm522 => ?_)
              have hJ523 := w45_2 hJ521 hm522 (by omega) hf22 hg4
              refine X.aload_n 58 (zi202 57) rfl rfl rfl ?_
              refine X.getF 61 (zi202 58) rfl rfl (by decide) rfl rfl ?_
              refine X.iconst 62 (zi202 61) rfl rfl (by decide) ?_
              refine X.lconst (y := 0) 63 (zi202 62) rfl rfl rfl ?_
              refine X.last' 64 (zi202 63) rfl rfl (by decide) rfl (by omega) (fun hrm524 m524 hm524 => ?_)
              have hJ525 := w45_3 hJ523 hm524 (by omega) hf22 hg4
              refine X.bipush 66 (zi202 64) rfl rfl (by decide) ?_
              refine X.istore_n 67 [(0, zr 4 44), (1, zi a1), (2, zi a2), (3, zi 95)] (zi202 66) rfl rfl rfl ?_
              refine X.cut [(0, zr 4 44), (3, zi 95)] (zi202 67) rfl ?_
              have hz97 := zfu_eq 97
              refine l202_67_1 (s := s) (d := d) (R0 := (f202_1 a1 a2 m))    (BE := B + 0) (by omega) (by omega) hf22 hg4 (fun  m526 B527 hJ528 hBB527 hR529 => ?_) (zfu 97) 95 m524 (B) (hJ525.up (by omega)) (by omega) (by omega) (by omega) (Eq.trans (zb_eq hFv503) (Eq.trans (if_pos h504) (Eq.trans (if_neg h506c) (Eq.trans (if_pos h509c) (Eq.trans (if_neg h513c) (Eq.trans (if_pos h516c) (Eq.trans (if_pos h519) (Eq.trans (zs_eq hm520) (Eq.trans (zs_eq hm522) (Eq.trans (zs_eq hm524) rfl))))))))))
              refine X.iconst 88 (zi202 87) rfl rfl (by decide) ?_
              refine X.retz (zi202 88) rfl t202 (by omega) ?_
              exact hQ 1 m526 (by first | trivial | omega) (Eq.trans hR529 rfl) (hJ528.up (by omega)) 
            · refine X.cut [] (zi202 39) rfl ?_
              refine X.iconst 40 (zi202 39) rfl rfl (by decide) ?_
              refine X.retz (zi202 40) rfl t202 (by omega) ?_
              exact hQ 0 m501 (by first | trivial | omega) (Eq.trans (zb_eq hFv503) (Eq.trans (if_pos h504) (Eq.trans (if_neg h506c) (Eq.trans (if_pos h509c) (Eq.trans (if_neg h513c) (Eq.trans (if_pos h516c) (Eq.trans (if_neg h519) rfl))))))) (hJ502.up (by omega)) 
-- WorkMeter$Wave.addTo
noncomputable def f22_1 (g0 : Nat) (a1 a2 a3 : Int) (m : zM) : zM :=
  zn (w64 ((m g0 22 ((a1 * 4) + a2)) + a3)) fun z501 =>
  zs (z_upd m g0 22 ((a1 * 4) + a2) z501) fun m502 =>
  zn (w64 ((m502 g0 22 ((a1 * 4) + 3)) + a3)) fun z504 =>
  zs (z_upd m502 g0 22 ((a1 * 4) + 3) z504) fun m505 =>
  m505
-- WorkMeter$Wave.addTo
theorem c22_1 {s : Nat × (Nat → Int32)} {S : zS} {m0 m : zM} {B : Int} {d : Nat} {Q : Option zV → zM → Prop} (g0 : Nat) (a1 a2 a3 : Int) (hd : 13 ≤ d) (hJ : J S m0 B m) (hB : B + 0 ≤ 1000000000) (ha1 : 0 ≤ a1 ∧ a1 ≤ 0) (ha2 : 0 ≤ a2 ∧ a2 ≤ 2) (ha3 : (-250000) ≤ a3 ∧ a3 ≤ 250000) (hf2 : ¬ S.1 2) (hgg0 : ¬ S.2.1 g0) (hQ : ∀ m', f22_1 g0 a1 a2 a3 m = m' → J S m0 (B) m' → Q none m') : X (EE s) d 22 0 [(0, zr g0 19), (1, zi a1), (2, zi a2), (3, zi a3)] [] m Q := by
  refine X.aload_n 1 (zi22 0) rfl rfl rfl ?_
  refine X.getR 4 (zi22 1) rfl rfl (by decide) rfl rfl ?_
  refine X.iload_n 5 (zi22 4) rfl rfl rfl ?_
  refine X.iconst 6 (zi22 5) rfl rfl (by decide) ?_
  refine X.imul 7 (zi22 6) rfl rfl (by omega) ?_
  refine X.iload_n 8 (zi22 7) rfl rfl rfl ?_
  refine X.iadd 9 (zi22 8) rfl rfl (by omega) ?_
  refine X.dup2 10 (zi22 9) rfl rfl ?_
  refine X.lald 11 (zi22 10) rfl rfl (by decide) rfl (by omega) ?_
  refine X.iload_n 12 (zi22 11) rfl rfl rfl ?_
  refine X.i2l 13 (zi22 12) rfl rfl ?_
  refine X.laddW 14 (zi22 13) rfl rfl (fun z501 ez501 hz501 => ?_)
  refine X.last' 15 (zi22 14) rfl rfl (by decide) rfl (by omega) (fun hrm502 m502 hm502 => ?_)
  have hJ503 := w22_0 hJ hm502 (by omega) hrm502 hf2 hgg0
  refine X.aload_n 16 (zi22 15) rfl rfl rfl ?_
  refine X.getR 19 (zi22 16) rfl rfl (by decide) rfl rfl ?_
  refine X.iload_n 20 (zi22 19) rfl rfl rfl ?_
  refine X.iconst 21 (zi22 20) rfl rfl (by decide) ?_
  refine X.imul 22 (zi22 21) rfl rfl (by omega) ?_
  refine X.iconst 23 (zi22 22) rfl rfl (by decide) ?_
  refine X.iadd 24 (zi22 23) rfl rfl (by omega) ?_
  refine X.dup2 25 (zi22 24) rfl rfl ?_
  refine X.lald 26 (zi22 25) rfl rfl (by decide) rfl (by omega) ?_
  refine X.iload_n 27 (zi22 26) rfl rfl rfl ?_
  refine X.i2l 28 (zi22 27) rfl rfl ?_
  refine X.laddW 29 (zi22 28) rfl rfl (fun z504 ez504 hz504 => ?_)
  refine X.last' 30 (zi22 29) rfl rfl (by decide) rfl (by omega) (fun hrm505 m505 hm505 => ?_)
  have hJ506 := w22_0 hJ503 hm505 (by omega) hrm505 hf2 hgg0
  refine X.retv (zi22 30) rfl t22 ?_
  exact hQ  m505  (Eq.trans (zn_eq ez501) (Eq.trans (zs_eq hm502) (Eq.trans (zn_eq ez504) (Eq.trans (zs_eq hm505) rfl)))) (hJ506.up (by omega)) 
-- WorkMeter$Wave.addTo
theorem c22_2 {s : Nat × (Nat → Int32)} {S : zS} {m0 m : zM} {B : Int} {d : Nat} {Q : Option zV → zM → Prop} (g0 : Nat) (a1 a2 a3 : Int) (hd : 13 ≤ d) (hJ : J S m0 B m) (hB : B + 0 ≤ 1000000000) (ha1 : 1 ≤ a1 ∧ a1 ≤ 1) (ha2 : 0 ≤ a2 ∧ a2 ≤ 2) (ha3 : (-250000) ≤ a3 ∧ a3 ≤ 250000) (hf2 : ¬ S.1 2) (hgg0 : ¬ S.2.1 g0) (hQ : ∀ m', f22_1 g0 a1 a2 a3 m = m' → J S m0 (B) m' → Q none m') : X (EE s) d 22 0 [(0, zr g0 19), (1, zi a1), (2, zi a2), (3, zi a3)] [] m Q := by
  refine X.aload_n 1 (zi22 0) rfl rfl rfl ?_
  refine X.getR 4 (zi22 1) rfl rfl (by decide) rfl rfl ?_
  refine X.iload_n 5 (zi22 4) rfl rfl rfl ?_
  refine X.iconst 6 (zi22 5) rfl rfl (by decide) ?_
  refine X.imul 7 (zi22 6) rfl rfl (by omega) ?_
  refine X.iload_n 8 (zi22 7) rfl rfl rfl ?_
  refine X.iadd 9 (zi22 8) rfl rfl (by omega) ?_
  refine X.dup2 10 (zi22 9) rfl rfl ?_
  refine X.lald 11 (zi22 10) rfl rfl (by decide) rfl (by omega) ?_
  refine X.iload_n 12 (zi22 11) rfl rfl rfl ?_
  refine X.i2l 13 (zi22 12) rfl rfl ?_
  refine X.laddW 14 (zi22 13) rfl rfl (fun z501 ez501 hz501 => ?_)
  refine X.last' 15 (zi22 14) rfl rfl (by decide) rfl (by omega) (fun hrm502 m502 hm502 => ?_)
  have hJ503 := w22_0 hJ hm502 (by omega) hrm502 hf2 hgg0
  refine X.aload_n 16 (zi22 15) rfl rfl rfl ?_
  refine X.getR 19 (zi22 16) rfl rfl (by decide) rfl rfl ?_
  refine X.iload_n 20 (zi22 19) rfl rfl rfl ?_
  refine X.iconst 21 (zi22 20) rfl rfl (by decide) ?_
  refine X.imul 22 (zi22 21) rfl rfl (by omega) ?_
  refine X.iconst 23 (zi22 22) rfl rfl (by decide) ?_
  refine X.iadd 24 (zi22 23) rfl rfl (by omega) ?_
  refine X.dup2 25 (zi22 24) rfl rfl ?_
  refine X.lald 26 (zi22 25) rfl rfl (by decide) rfl (by omega) ?_
  refine X.iload_n 27 (zi22 26) rfl rfl rfl ?_
  refine X.i2l 28 (zi22 27) rfl rfl ?_
  refine X.laddW 29 (zi22 28) rfl rfl (fun z504 ez504 hz504 => ?_)
  refine X.last' 30 (zi22 29) rfl rfl (by decide) rfl (by omega) (fun hrm505 m505 hm505 => ?_)
  have hJ506 := w22_0 hJ503 hm505 (by omega) hrm505 hf2 hgg0
  refine X.retv (zi22 30) rfl t22 ?_
  exact hQ  m505  (Eq.trans (zn_eq ez501) (Eq.trans (zs_eq hm502) (Eq.trans (zn_eq ez504) (Eq.trans (zs_eq hm505) rfl)))) (hJ506.up (by omega)) 
-- WorkMeter$Wave.addTo
theorem c22_3 {s : Nat × (Nat → Int32)} {S : zS} {m0 m : zM} {B : Int} {d : Nat} {Q : Option zV → zM → Prop} (g0 : Nat) (a1 a2 a3 : Int) (hd : 13 ≤ d) (hJ : J S m0 B m) (hB : B + 0 ≤ 1000000000) (ha1 : 2 ≤ a1 ∧ a1 ≤ 2) (ha2 : 0 ≤ a2 ∧ a2 ≤ 2) (ha3 : 0 ≤ a3 ∧ a3 ≤ 250000) (hf2 : ¬ S.1 2) (hgg0 : ¬ S.2.1 g0) (hQ : ∀ m', f22_1 g0 a1 a2 a3 m = m' → J S m0 (B) m' → Q none m') : X (EE s) d 22 0 [(0, zr g0 19), (1, zi a1), (2, zi a2), (3, zi a3)] [] m Q := by
  refine X.aload_n 1 (zi22 0) rfl rfl rfl ?_
  refine X.getR 4 (zi22 1) rfl rfl (by decide) rfl rfl ?_
  refine X.iload_n 5 (zi22 4) rfl rfl rfl ?_
  refine X.iconst 6 (zi22 5) rfl rfl (by decide) ?_
  refine X.imul 7 (zi22 6) rfl rfl (by omega) ?_
  refine X.iload_n 8 (zi22 7) rfl rfl rfl ?_
  refine X.iadd 9 (zi22 8) rfl rfl (by omega) ?_
  refine X.dup2 10 (zi22 9) rfl rfl ?_
  refine X.lald 11 (zi22 10) rfl rfl (by decide) rfl (by omega) ?_
  refine X.iload_n 12 (zi22 11) rfl rfl rfl ?_
  refine X.i2l 13 (zi22 12) rfl rfl ?_
  refine X.laddW 14 (zi22 13) rfl rfl (fun z501 ez501 hz501 => ?_)
  refine X.last' 15 (zi22 14) rfl rfl (by decide) rfl (by omega) (fun hrm502 m502 hm502 => ?_)
  have hJ503 := w22_0 hJ hm502 (by omega) hrm502 hf2 hgg0
  refine X.aload_n 16 (zi22 15) rfl rfl rfl ?_
  refine X.getR 19 (zi22 16) rfl rfl (by decide) rfl rfl ?_
  refine X.iload_n 20 (zi22 19) rfl rfl rfl ?_
  refine X.iconst 21 (zi22 20) rfl rfl (by decide) ?_
  refine X.imul 22 (zi22 21) rfl rfl (by omega) ?_
  refine X.iconst 23 (zi22 22) rfl rfl (by decide) ?_
  refine X.iadd 24 (zi22 23) rfl rfl (by omega) ?_
  refine X.dup2 25 (zi22 24) rfl rfl ?_
  refine X.lald 26 (zi22 25) rfl rfl (by decide) rfl (by omega) ?_
  refine X.iload_n 27 (zi22 26) rfl rfl rfl ?_
  refine X.i2l 28 (zi22 27) rfl rfl ?_
  refine X.laddW 29 (zi22 28) rfl rfl (fun z504 ez504 hz504 => ?_)
  refine X.last' 30 (zi22 29) rfl rfl (by decide) rfl (by omega) (fun hrm505 m505 hm505 => ?_)
  have hJ506 := w22_0 hJ503 hm505 (by omega) hrm505 hf2 hgg0
  refine X.retv (zi22 30) rfl t22 ?_
  exact hQ  m505  (Eq.trans (zn_eq ez501) (Eq.trans (zs_eq hm502) (Eq.trans (zn_eq ez504) (Eq.trans (zs_eq hm505) rfl)))) (hJ506.up (by omega)) 
-- WorkMeter$Wave.addTo
theorem c22_4 {s : Nat × (Nat → Int32)} {S : zS} {m0 m : zM} {B : Int} {d : Nat} {Q : Option zV → zM → Prop} (g0 : Nat) (a1 a2 a3 : Int) (hd : 13 ≤ d) (hJ : J S m0 B m) (hB : B + 0 ≤ 1000000000) (ha1 : 3 ≤ a1 ∧ a1 ≤ 3) (ha2 : 0 ≤ a2 ∧ a2 ≤ 2) (ha3 : 0 ≤ a3 ∧ a3 ≤ 250000) (hf2 : ¬ S.1 2) (hgg0 : ¬ S.2.1 g0) (hQ : ∀ m', f22_1 g0 a1 a2 a3 m = m' → J S m0 (B) m' → Q none m') : X (EE s) d 22 0 [(0, zr g0 19), (1, zi a1), (2, zi a2), (3, zi a3)] [] m Q := by
  refine X.aload_n 1 (zi22 0) rfl rfl rfl ?_
  refine X.getR 4 (zi22 1) rfl rfl (by decide) rfl rfl ?_
  refine X.iload_n 5 (zi22 4) rfl rfl rfl ?_
  refine X.iconst 6 (zi22 5) rfl rfl (by decide) ?_
  refine X.imul 7 (zi22 6) rfl rfl (by omega) ?_
  refine X.iload_n 8 (zi22 7) rfl rfl rfl ?_
  refine X.iadd 9 (zi22 8) rfl rfl (by omega) ?_
  refine X.dup2 10 (zi22 9) rfl rfl ?_
  refine X.lald 11 (zi22 10) rfl rfl (by decide) rfl (by omega) ?_
  refine X.iload_n 12 (zi22 11) rfl rfl rfl ?_
  refine X.i2l 13 (zi22 12) rfl rfl ?_
  refine X.laddW 14 (zi22 13) rfl rfl (fun z501 ez501 hz501 => ?_)
  refine X.last' 15 (zi22 14) rfl rfl (by decide) rfl (by omega) (fun hrm502 m502 hm502 => ?_)
  have hJ503 := w22_0 hJ hm502 (by omega) hrm502 hf2 hgg0
  refine X.aload_n 16 (zi22 15) rfl rfl rfl ?_
  refine X.getR 19 (zi22 16) rfl rfl (by decide) rfl rfl ?_
  refine X.iload_n 20 (zi22 19) rfl rfl rfl ?_
  refine X.iconst 21 (zi22 20) rfl rfl (by decide) ?_
  refine X.imul 22 (zi22 21) rfl rfl (by omega) ?_
  refine X.iconst 23 (zi22 22) rfl rfl (by decide) ?_
  refine X.iadd 24 (zi22 23) rfl rfl (by omega) ?_
  refine X.dup2 25 (zi22 24) rfl rfl ?_
  refine X.lald 26 (zi22 25) rfl rfl (by decide) rfl (by omega) ?_
  refine X.iload_n 27 (zi22 26) rfl rfl rfl ?_
  refine X.i2l 28 (zi22 27) rfl rfl ?_
  refine X.laddW 29 (zi22 28) rfl rfl (fun z504 ez504 hz504 => ?_)
  refine X.last' 30 (zi22 29) rfl rfl (by decide) rfl (by omega) (fun hrm505 m505 hm505 => ?_)
  have hJ506 := w22_0 hJ503 hm505 (by omega) hrm505 hf2 hgg0
  refine X.retv (zi22 30) rfl t22 ?_
  exact hQ  m505  (Eq.trans (zn_eq ez501) (Eq.trans (zs_eq hm502) (Eq.trans (zn_eq ez504) (Eq.trans (zs_eq hm505) rfl)))) (hJ506.up (by omega)) 
noncomputable def fl21_37_1_b (self : Int → zM → zM) (k158 : zM → zM) (g0 : Nat) (y1 y2 y3 : Int) (y4 : Int) (m : zM) : zM :=
  if (m g0 19 3) ≤ y4 then
  (k158 m)
  else
  (zn ((y2 * (m g0 19 3))) fun z531 =>
  zn (((m g0 20 (z531 + y4)) * (m g0 21 (z531 + y4)))) fun z534 =>
  zs (f22_1 g0 0 y4 z534 m) fun m535 =>
  zn ((y3 * (m535 g0 19 3))) fun z540 =>
  zn (((m535 g0 20 (z531 + y4)) * (m535 g0 21 (z540 + y4)))) fun z542 =>
  zs (f22_1 g0 1 y4 z542 m535) fun m543 =>
  zn (((m543 g0 20 (z531 + y4)) * (m543 g0 20 (z531 + y4)))) fun z547 =>
  zs (f22_1 g0 2 y4 z547 m543) fun m548 =>
  zn (((m548 g0 21 (z531 + y4)) * (m548 g0 21 (z531 + y4)))) fun z552 =>
  zs (f22_1 g0 3 y4 z552 m548) fun m553 =>
  self (y4 + 1) m553)
noncomputable def fl21_37_1 (k158 : zM → zM) (g0 : Nat) (y1 y2 y3 : Int) : Nat → Int → zM → zM
  | 0 => fun y4 m => m
  | n + 1 => fl21_37_1_b (fl21_37_1 k158 g0 y1 y2 y3 n) k158 g0 y1 y2 y3
theorem l21_37_1 {s : Nat × (Nat → Int32)} {S : zS} {m0 : zM} {d : Nat} {Q : Option zV → zM → Prop} {R0 : zM} {k158 : zM → zM} (g0 : Nat) (y1 y2 y3 : Int) (BE : Int) (hE : BE ≤ 1000000000) (hd : 14 ≤ d) (hy1 : 1 ≤ y1 ∧ y1 ≤ 4) (hy2 : 0 ≤ y2 ∧ y2 ≤ 15) (hy3 : 0 ≤ y3 ∧ y3 ≤ 15) (hf2 : ¬ S.1 2) (hgg0 : ¬ S.2.1 g0)
    (K158 : ∀ (m' : zM) (B' : Int), J S m0 B' m' → B' ≤ BE → R0 = k158 m' → X (EE s) d 21 158 [(0, zr g0 19), (1, zi y1), (2, zi y2)] [] m' Q) :
    ∀ (n : Nat) (y4 : Int) (m : zM) (B : Int), J S m0 B m → B + 0 * (n : Int) ≤ BE → (0 ≤ y4 ∧ y4 ≤ 3) → 3 - y4 < (n : Int) → R0 = fl21_37_1 k158 g0 y1 y2 y3 n y4 m → X (EE s) d 21 37 [(0, zr g0 19), (1, zi y1), (2, zi y2), (3, zi y3), (4, zi y4)] [] m Q := by
  intro n
  induction n with
  | zero =>
    intro y4 m B hJ hB hy4 hn hR
    exfalso
    omega
  | succ n ih =>
    intro y4 m B hJ hB hy4 hn hR
    replace hR : R0 = fl21_37_1_b (fl21_37_1 k158 g0 y1 y2 y3 n) k158 g0 y1 y2 y3 y4 m := hR
    refine X.iload 39 (zi21 37) rfl rfl rfl ?_
    refine X.aload_n 40 (zi21 39) rfl rfl rfl ?_
    refine X.getI 43 3 (zi21 40) rfl rfl (by decide) rfl rfl rfl ?_
    have h529 := r19_3 hJ g0
    refine X.icmpge 158 46 (zi21 43) rfl rfl rfl (fun h530 => ?_) (fun h530 => ?_)
    · refine X.cut [(0, zr g0 19), (1, zi y1), (2, zi y2)] (zi21 158) rfl ?_
      exact K158  m (B) (hJ.up (by omega)) (by omega)  (Eq.trans hR (Eq.trans (if_pos h530) rfl))
    · refine X.iload_n 47 (zi21 46) rfl rfl rfl ?_
      refine X.aload_n 48 (zi21 47) rfl rfl rfl ?_
      refine X.getI 51 3 (zi21 48) rfl rfl (by decide) rfl rfl rfl ?_
      have hz531 := z_mulr (a := 0) (b := 15) (c := 1) (e := 3) (x := y2) (y := (m g0 19 3)) (by omega) (by omega)
      refine X.imul 52 (zi21 51) rfl rfl (z_in3 hz531 (by decide) (by decide)) ?_
      obtain ⟨z531, ez531⟩ : ∃ z, z = (y2 * (m g0 19 3)) := ⟨_, rfl⟩
      rw [← ez531] at hz531 ⊢
      have gz531 : 0 ≤ z531 ∧ z531 ≤ 45 := z_in3 hz531 (by decide) (by decide)
      clear hz531
      refine X.iload 54 (zi21 52) rfl rfl rfl ?_
      refine X.iadd 55 (zi21 54) rfl rfl (by omega) ?_
      refine X.istore 57 [(0, zr g0 19), (1, zi y1), (2, zi y2), (3, zi y3), (4, zi y4), (5, zi (z531 + y4))] (zi21 55) rfl rfl rfl ?_
      refine X.aload_n 58 (zi21 57) rfl rfl rfl ?_
      refine X.iconst 59 (zi21 58) rfl rfl (by decide) ?_
      refine X.iload 61 (zi21 59) rfl rfl rfl ?_
      refine X.aload_n 62 (zi21 61) rfl rfl rfl ?_
      refine X.getR 65 (zi21 62) rfl rfl (by decide) rfl rfl ?_
      refine X.iload 67 (zi21 65) rfl rfl rfl ?_
      refine X.iald 68 (zi21 67) rfl rfl (by decide) rfl (by omega) ?_
      have h532 := r20_0 hJ g0 (i := (z531 + y4)) (by omega)
      refine X.aload_n 69 (zi21 68) rfl rfl rfl ?_
      refine X.getR 72 (zi21 69) rfl rfl (by decide) rfl rfl ?_
      refine X.iload 74 (zi21 72) rfl rfl rfl ?_
      refine X.iald 75 (zi21 74) rfl rfl (by decide) rfl (by omega) ?_
      have h533 := r21_0 hJ g0 (i := (z531 + y4)) (by omega)
      have hz534 := z_mulr (a := (-500)) (b := 500) (c := (-500)) (e := 500) (x := (m g0 20 (z531 + y4))) (y := (m g0 21 (z531 + y4))) (by omega) (by omega)
      refine X.imul 76 (zi21 75) rfl rfl (z_in3 hz534 (by decide) (by decide)) ?_
      obtain ⟨z534, ez534⟩ : ∃ z, z = ((m g0 20 (z531 + y4)) * (m g0 21 (z531 + y4))) := ⟨_, rfl⟩
      rw [← ez534] at hz534 ⊢
      have gz534 : (-250000) ≤ z534 ∧ z534 ≤ 250000 := z_in3 hz534 (by decide) (by decide)
      clear hz534
      refine X.callv 79 [zi 0, zi y4, zi z534] [] [(0, zr g0 19), (1, zi 0), (2, zi y4), (3, zi z534)] (zi21 76) rfl (by decide) rfl rfl (by omega) rfl rfl (by decide) rfl t22 (Nat.le_of_ble_eq_true rfl) (Nat.le_of_ble_eq_true rfl) rfl ?_
      refine c22_1 (B := B) g0 0 y4 z534 (by omega) (hJ.up (by omega)) (by omega) (by omega) (by omega) (by omega) hf2 hgg0 (fun m535 hFv537 hJ536 => ?_)
      show X (EE s) d 21 79 [(0, zr g0 19), (1, zi y1), (2, zi y2), (3, zi y3), (4, zi y4), (5, zi (z531 + y4))] [] m535 _
      refine X.aload_n 80 (zi21 79) rfl rfl rfl ?_
      refine X.iconst 81 (zi21 80) rfl rfl (by decide) ?_
      refine X.iload 83 (zi21 81) rfl rfl rfl ?_
      refine X.aload_n 84 (zi21 83) rfl rfl rfl ?_
      refine X.getR 87 (zi21 84) rfl rfl (by decide) rfl rfl ?_
      refine X.iload 89 (zi21 87) rfl rfl rfl ?_
      refine X.iald 90 (zi21 89) rfl rfl (by decide) rfl (by omega) ?_
      have h538 := r20_0 hJ536 g0 (i := (z531 + y4)) (by omega)
      refine X.aload_n 91 (zi21 90) rfl rfl rfl ?_
      refine X.getR 94 (zi21 91) rfl rfl (by decide) rfl rfl ?_
      refine X.iload_n 95 (zi21 94) rfl rfl rfl ?_
      refine X.aload_n 96 (zi21 95) rfl rfl rfl ?_
      refine X.getI 99 3 (zi21 96) rfl rfl (by decide) rfl rfl rfl ?_
      have h539 := r19_3 hJ536 g0
      have hz540 := z_mulr (a := 0) (b := 15) (c := 1) (e := 3) (x := y3) (y := (m535 g0 19 3)) (by omega) (by omega)
      refine X.imul 100 (zi21 99) rfl rfl (z_in3 hz540 (by decide) (by decide)) ?_
      obtain ⟨z540, ez540⟩ : ∃ z, z = (y3 * (m535 g0 19 3)) := ⟨_, rfl⟩
      rw [← ez540] at hz540 ⊢
      have gz540 : 0 ≤ z540 ∧ z540 ≤ 45 := z_in3 hz540 (by decide) (by decide)
      clear hz540
      refine X.iload 102 (zi21 100) rfl rfl rfl ?_
      refine X.iadd 103 (zi21 102) rfl rfl (by omega) ?_
      refine X.iald 104 (zi21 103) rfl rfl (by decide) rfl (by omega) ?_
      have h541 := r21_0 hJ536 g0 (i := (z540 + y4)) (by omega)
      have hz542 := z_mulr (a := (-500)) (b := 500) (c := (-500)) (e := 500) (x := (m535 g0 20 (z531 + y4))) (y := (m535 g0 21 (z540 + y4))) (by omega) (by omega)
      refine X.imul 105 (zi21 104) rfl rfl (z_in3 hz542 (by decide) (by decide)) ?_
      obtain ⟨z542, ez542⟩ : ∃ z, z = ((m535 g0 20 (z531 + y4)) * (m535 g0 21 (z540 + y4))) := ⟨_, rfl⟩
      rw [← ez542] at hz542 ⊢
      have gz542 : (-250000) ≤ z542 ∧ z542 ≤ 250000 := z_in3 hz542 (by decide) (by decide)
      clear hz542
      refine X.callv 108 [zi 1, zi y4, zi z542] [] [(0, zr g0 19), (1, zi 1), (2, zi y4), (3, zi z542)] (zi21 105) rfl (by decide) rfl rfl (by omega) rfl rfl (by decide) rfl t22 (Nat.le_of_ble_eq_true rfl) (Nat.le_of_ble_eq_true rfl) rfl ?_
      refine c22_2 (B := B) g0 1 y4 z542 (by omega) (hJ536.up (by omega)) (by omega) (by omega) (by omega) (by omega) hf2 hgg0 (fun m543 hFv545 hJ544 => ?_)
      show X (EE s) d 21 108 [(0, zr g0 19), (1, zi y1), (2, zi y2), (3, zi y3), (4, zi y4), (5, zi (z531 + y4))] [] m543 _
      refine X.aload_n 109 (zi21 108) rfl rfl rfl ?_
      refine X.iconst 110 (zi21 109) rfl rfl (by decide) ?_
      refine X.iload 112 (zi21 110) rfl rfl rfl ?_
      refine X.aload_n 113 (zi21 112) rfl rfl rfl ?_
      refine X.getR 116 (zi21 113) rfl rfl (by decide) rfl rfl ?_
      refine X.iload 118 (zi21 116) rfl rfl rfl ?_
      refine X.iald 119 (zi21 118) rfl rfl (by decide) rfl (by omega) ?_
      have h546 := r20_0 hJ544 g0 (i := (z531 + y4)) (by omega)
      refine X.aload_n 120 (zi21 119) rfl rfl rfl ?_
      refine X.getR 123 (zi21 120) rfl rfl (by decide) rfl rfl ?_
      refine X.iload 125 (zi21 123) rfl rfl rfl ?_
      refine X.iald 126 (zi21 125) rfl rfl (by decide) rfl (by omega) ?_
      have hz547 := z_sqr (e := 500) (x := (m543 g0 20 (z531 + y4))) (by omega)
      refine X.imul 127 (zi21 126) rfl rfl (z_in3 hz547 (by decide) (by decide)) ?_
      obtain ⟨z547, ez547⟩ : ∃ z, z = ((m543 g0 20 (z531 + y4)) * (m543 g0 20 (z531 + y4))) := ⟨_, rfl⟩
      rw [← ez547] at hz547 ⊢
      have gz547 : 0 ≤ z547 ∧ z547 ≤ 250000 := z_in3 hz547 (by decide) (by decide)
      clear hz547
      refine X.callv 130 [zi 2, zi y4, zi z547] [] [(0, zr g0 19), (1, zi 2), (2, zi y4), (3, zi z547)] (zi21 127) rfl (by decide) rfl rfl (by omega) rfl rfl (by decide) rfl t22 (Nat.le_of_ble_eq_true rfl) (Nat.le_of_ble_eq_true rfl) rfl ?_
      refine c22_3 (B := B) g0 2 y4 z547 (by omega) (hJ544.up (by omega)) (by omega) (by omega) (by omega) (by omega) hf2 hgg0 (fun m548 hFv550 hJ549 => ?_)
      show X (EE s) d 21 130 [(0, zr g0 19), (1, zi y1), (2, zi y2), (3, zi y3), (4, zi y4), (5, zi (z531 + y4))] [] m548 _
      refine X.aload_n 131 (zi21 130) rfl rfl rfl ?_
      refine X.iconst 132 (zi21 131) rfl rfl (by decide) ?_
      refine X.iload 134 (zi21 132) rfl rfl rfl ?_
      refine X.aload_n 135 (zi21 134) rfl rfl rfl ?_
      refine X.getR 138 (zi21 135) rfl rfl (by decide) rfl rfl ?_
      refine X.iload 140 (zi21 138) rfl rfl rfl ?_
      refine X.iald 141 (zi21 140) rfl rfl (by decide) rfl (by omega) ?_
      have h551 := r21_0 hJ549 g0 (i := (z531 + y4)) (by omega)
      refine X.aload_n 142 (zi21 141) rfl rfl rfl ?_
      refine X.getR 145 (zi21 142) rfl rfl (by decide) rfl rfl ?_
      refine X.iload 147 (zi21 145) rfl rfl rfl ?_
      refine X.iald 148 (zi21 147) rfl rfl (by decide) rfl (by omega) ?_
      have hz552 := z_sqr (e := 500) (x := (m548 g0 21 (z531 + y4))) (by omega)
      refine X.imul 149 (zi21 148) rfl rfl (z_in3 hz552 (by decide) (by decide)) ?_
      obtain ⟨z552, ez552⟩ : ∃ z, z = ((m548 g0 21 (z531 + y4)) * (m548 g0 21 (z531 + y4))) := ⟨_, rfl⟩
      rw [← ez552] at hz552 ⊢
      have gz552 : 0 ≤ z552 ∧ z552 ≤ 250000 := z_in3 hz552 (by decide) (by decide)
      clear hz552
      refine X.callv 152 [zi 3, zi y4, zi z552] [] [(0, zr g0 19), (1, zi 3), (2, zi y4), (3, zi z552)] (zi21 149) rfl (by decide) rfl rfl (by omega) rfl rfl (by decide) rfl t22 (Nat.le_of_ble_eq_true rfl) (Nat.le_of_ble_eq_true rfl) rfl ?_
      refine c22_4 (B := B) g0 3 y4 z552 (by omega) (hJ549.up (by omega)) (by omega) (by omega) (by omega) (by omega) hf2 hgg0 (fun m553 hFv555 hJ554 => ?_)
      show X (EE s) d 21 152 [(0, zr g0 19), (1, zi y1), (2, zi y2), (3, zi y3), (4, zi y4), (5, zi (z531 + y4))] [] m553 _
      refine X.iinc 155 [(0, zr g0 19), (1, zi y1), (2, zi y2), (3, zi y3), (4, zi (y4 + 1)), (5, zi (z531 + y4))] (zi21 152) rfl rfl rfl (by omega) rfl ?_
      refine X.goto 37 (zi21 155) rfl rfl ?_
      refine X.cut [(0, zr g0 19), (1, zi y1), (2, zi y2), (3, zi y3), (4, zi (y4 + 1))] (zi21 37) rfl ?_
      exact ih (y4 + 1) m553 (B) (hJ554.up (by omega)) (by omega) (by omega) (by omega) (Eq.trans hR (Eq.trans (if_neg h530) (Eq.trans (zn_eq ez531) (Eq.trans (zn_eq ez534) (Eq.trans (zs_eq hFv537.symm) (Eq.trans (zn_eq ez540) (Eq.trans (zn_eq ez542) (Eq.trans (zs_eq hFv545.symm) (Eq.trans (zn_eq ez547) (Eq.trans (zs_eq hFv550.symm) (Eq.trans (zn_eq ez552) (Eq.trans (zs_eq hFv555.symm) rfl))))))))))))
noncomputable def fl21_17_1_b (self : Int → zM → zM) (k164 : zM → zM) (g0 : Nat) (y1 : Int) (y2 : Int) (m : zM) : zM :=
  if (m g0 19 4) ≤ y2 then
  (k164 m)
  else
  (zn (((y2 + y1) % (m g0 19 4))) fun z511 =>
  fl21_37_1 (fun m512 =>
  self (y2 + 1) m512) g0 y1 y2 z511 (zfu 4) 0 m)
noncomputable def fl21_17_1 (k164 : zM → zM) (g0 : Nat) (y1 : Int) : Nat → Int → zM → zM
  | 0 => fun y2 m => m
  | n + 1 => fl21_17_1_b (fl21_17_1 k164 g0 y1 n) k164 g0 y1
theorem l21_17_1 {s : Nat × (Nat → Int32)} {S : zS} {m0 : zM} {d : Nat} {Q : Option zV → zM → Prop} {R0 : zM} {k164 : zM → zM} (g0 : Nat) (y1 : Int) (BE : Int) (hE : BE ≤ 1000000000) (hd : 14 ≤ d) (hy1 : 1 ≤ y1 ∧ y1 ≤ 4) (hf2 : ¬ S.1 2) (hgg0 : ¬ S.2.1 g0)
    (K164 : ∀ (m' : zM) (B' : Int), J S m0 B' m' → B' ≤ BE → R0 = k164 m' → X (EE s) d 21 164 [(0, zr g0 19)] [] m' Q) :
    ∀ (n : Nat) (y2 : Int) (m : zM) (B : Int), J S m0 B m → B + 0 * (n : Int) ≤ BE → (0 ≤ y2 ∧ y2 ≤ 16) → 16 - y2 < (n : Int) → R0 = fl21_17_1 k164 g0 y1 n y2 m → X (EE s) d 21 17 [(0, zr g0 19), (1, zi y1), (2, zi y2)] [] m Q := by
  intro n
  induction n with
  | zero =>
    intro y2 m B hJ hB hy2 hn hR
    exfalso
    omega
  | succ n ih =>
    intro y2 m B hJ hB hy2 hn hR
    replace hR : R0 = fl21_17_1_b (fl21_17_1 k164 g0 y1 n) k164 g0 y1 y2 m := hR
    refine X.iload_n 18 (zi21 17) rfl rfl rfl ?_
    refine X.aload_n 19 (zi21 18) rfl rfl rfl ?_
    refine X.getI 22 4 (zi21 19) rfl rfl (by decide) rfl rfl rfl ?_
    have h509 := r19_4 hJ g0
    refine X.icmpge 164 25 (zi21 22) rfl rfl rfl (fun h510 => ?_) (fun h510 => ?_)
    · refine X.cut [(0, zr g0 19)] (zi21 164) rfl ?_
      exact K164  m (B) (hJ.up (by omega)) (by omega)  (Eq.trans hR (Eq.trans (if_pos h510) rfl))
    · refine X.iload_n 26 (zi21 25) rfl rfl rfl ?_
      refine X.iload_n 27 (zi21 26) rfl rfl rfl ?_
      refine X.iadd 28 (zi21 27) rfl rfl (by omega) ?_
      refine X.aload_n 29 (zi21 28) rfl rfl rfl ?_
      refine X.getI 32 4 (zi21 29) rfl rfl (by decide) rfl rfl rfl ?_
      refine X.irem 33 (zi21 32) rfl rfl (by omega) ?_
      have hz511 := z_modb (x := (y2 + y1)) (y := (m g0 19 4)) (by omega) (by omega)
      obtain ⟨z511, ez511⟩ : ∃ z, z = ((y2 + y1) % (m g0 19 4)) := ⟨_, rfl⟩
      rw [← ez511] at hz511 ⊢
      refine X.istore_n 34 [(0, zr g0 19), (1, zi y1), (2, zi y2), (3, zi z511)] (zi21 33) rfl rfl rfl ?_
      refine X.iconst 35 (zi21 34) rfl rfl (by decide) ?_
      refine X.istore 37 [(0, zr g0 19), (1, zi y1), (2, zi y2), (3, zi z511), (4, zi 0)] (zi21 35) rfl rfl rfl ?_
      have hz4 := zfu_eq 4
      refine l21_37_1 (s := s) (d := d) g0 y1 y2 z511  (BE := B + 0) (by omega) (by omega) (by omega) (by omega) (by omega) hf2 hgg0 (fun  m512 B513 hJ514 hBB513 hR515 => ?_) (zfu 4) 0 m (B) (hJ.up (by omega)) (by omega) (by omega) (by omega) (Eq.trans hR (Eq.trans (if_neg h510) (Eq.trans (zn_eq ez511) rfl)))
      refine X.iinc 161 [(0, zr g0 19), (1, zi y1), (2, zi (y2 + 1))] (zi21 158) rfl rfl rfl (by omega) rfl ?_
      refine X.goto 17 (zi21 161) rfl rfl ?_
      exact ih (y2 + 1) m512 (B513) (hJ514.up (by omega)) (by omega) (by omega) (by omega) (Eq.trans hR515 rfl)
noncomputable def fl24_6_1_b (self : Int → Int → Int) (k38 : Int → Int) (y0 : Int) (m : zM) (y2 y4 : Int) : Int :=
  if y4 < 0 then
  (k38 y2)
  else
  (zn (zshlL 1 y4) fun z523 =>
  zn (w64 (y2 + z523)) fun z524 =>
  zn (w64 (z524 * z524)) fun z525 =>
  zn (if z525 ≤ y0 then
  (z524)
  else
  (y2)) fun v528 =>
  self v528 (y4 + (-1)))
noncomputable def fl24_6_1 (k38 : Int → Int) (y0 : Int) (m : zM) : Nat → Int → Int → Int
  | 0 => fun y2 y4 => 0
  | n + 1 => fl24_6_1_b (fl24_6_1 k38 y0 m n) k38 y0 m
theorem l24_6_1 {s : Nat × (Nat → Int32)} {S : zS} {m0 : zM} {m : zM} {B : Int} {d : Nat} {Q : Option zV → zM → Prop} {R0 : Int} {k38 : Int → Int} (y0 : Int) (hd : 13 ≤ d) (hJ : J S m0 B m) (hB9 : B ≤ 1000000000)
    (K38 : ∀ (x2 : Int) , (True) → R0 = k38 x2 → X (EE s) d 24 38 [(2, zl x2)] [] m Q) :
    ∀ (n : Nat) (y2 y4 : Int) , ((-1) ≤ y4 ∧ y4 ≤ 25) → y4 - (-1) < (n : Int) → R0 = fl24_6_1 k38 y0 m n y2 y4 → X (EE s) d 24 6 [(0, zl y0), (2, zl y2), (4, zi y4)] [] m Q := by
  intro n
  induction n with
  | zero =>
    intro y2 y4 hy4 hn hR
    exfalso
    omega
  | succ n ih =>
    intro y2 y4 hy4 hn hR
    replace hR : R0 = fl24_6_1_b (fl24_6_1 k38 y0 m n) k38 y0 m y2 y4 := hR
    refine X.iload 8 (zi24 6) rfl rfl rfl ?_
    refine X.iflt 38 11 (zi24 8) rfl rfl rfl (fun h522 => ?_) (fun h522 => ?_)
    · refine X.cut [(2, zl y2)] (zi24 38) rfl ?_
      exact K38 y2 (by first | trivial | omega) (Eq.trans hR (Eq.trans (if_pos h522) rfl))
    · refine X.lload_n 12 (zi24 11) rfl rfl rfl ?_
      refine X.lconst (y := 1) 13 (zi24 12) rfl rfl rfl ?_
      refine X.iload 15 (zi24 13) rfl rfl rfl ?_
      refine X.lshlE 16 (zi24 15) rfl rfl (fun z523 ez523 hz523 => ?_)
      refine X.laddW 17 (zi24 16) rfl rfl (fun z524 ez524 hz524 => ?_)
      refine X.lstore 19 [(0, zl y0), (2, zl y2), (4, zi y4), (5, zl z524)] (zi24 17) rfl rfl rfl ?_
      refine X.lload 21 (zi24 19) rfl rfl rfl ?_
      refine X.lload 23 (zi24 21) rfl rfl rfl ?_
      refine X.lmulW 24 (zi24 23) rfl rfl (fun z525 ez525 hz525 => ?_)
      refine X.lload_n 25 (zi24 24) rfl rfl rfl ?_
      refine X.lcmp 26 (zi24 25) rfl rfl (fun z526 hz526 => ?_)
      have hK531 : ∀ (v : Int) , (True) → (if z525 ≤ y0 then
          (z524)
          else
          (y2)) = v → X (EE s) d 24 32 [(0, zl y0), (2, zl v), (4, zi y4)] [] m Q := by
        intro v528 hv528 hT532
        refine X.iinc 35 [(0, zl y0), (2, zl v528), (4, zi (y4 + (-1)))] (zi24 32) rfl rfl rfl (by omega) rfl ?_
        refine X.goto 6 (zi24 35) rfl rfl ?_
        exact ih v528 (y4 + (-1)) (by omega) (by omega) (Eq.trans hR (Eq.trans (if_neg h522) (Eq.trans (zn_eq ez523) (Eq.trans (zn_eq ez524) (Eq.trans (zn_eq ez525) (Eq.trans (zn_eq hT532.symm) rfl))))))
      refine X.ifgt 32 29 (zi24 26) rfl rfl rfl (fun h527 => ?_) (fun h527 => ?_)
      · have h527c : ¬ z525 ≤ y0 := by omega
        clear h527 hz526
        refine X.cut [(0, zl y0), (2, zl y2), (4, zi y4)] (zi24 32) rfl ?_
        exact hK531 y2 (by first | trivial | omega) (Eq.trans (if_neg h527c) rfl)
      · have h527c : z525 ≤ y0 := by omega
        clear h527 hz526
        refine X.lload 31 (zi24 29) rfl rfl rfl ?_
        refine X.lstore_n 32 [(0, zl y0), (2, zl z524), (4, zi y4), (5, zl z524)] (zi24 31) rfl rfl rfl ?_
        refine X.cut [(0, zl y0), (2, zl z524), (4, zi y4)] (zi24 32) rfl ?_
        exact hK531 z524 (by first | trivial | omega) (Eq.trans (if_pos h527c) rfl)
-- WorkMeter$Wave.wholeRoot
noncomputable def f24_1 (a0 : Int) (m : zM) : Int :=
  fl24_6_1 (fun y501 =>
  y501) a0 m (zfu 27) 0 25
-- WorkMeter$Wave.wholeRoot
theorem c24_1 {s : Nat × (Nat → Int32)} {S : zS} {m0 m : zM} {B : Int} {d : Nat} {Q : Option zV → zM → Prop} (a0 : Int) (hd : 13 ≤ d) (hJ : J S m0 B m) (hB : B + 0 ≤ 1000000000) (hQ : ∀ (v : Int), (True) → f24_1 a0 m = v → Q (some (zl v)) m) : X (EE s) d 24 0 [(0, zl a0)] [] m Q := by
  refine X.lconst (y := 0) 1 (zi24 0) rfl rfl rfl ?_
  refine X.lstore_n 2 [(0, zl a0), (2, zl 0)] (zi24 1) rfl rfl rfl ?_
  refine X.bipush 4 (zi24 2) rfl rfl (by decide) ?_
  refine X.istore 6 [(0, zl a0), (2, zl 0), (4, zi 25)] (zi24 4) rfl rfl rfl ?_
  have hz27 := zfu_eq 27
  refine l24_6_1 (s := s) (m := m) (B := B) (d := d) (R0 := (f24_1 a0 m))  a0  (by omega) (hJ.up (by omega)) (by omega) (fun y501 hby501 hR505 => ?_) (zfu 27) 0 25 (by omega) (by omega) rfl
  refine X.lload_n 39 (zi24 38) rfl rfl rfl ?_
  refine X.retl (zi24 39) rfl t24 ?_
  exact hQ y501 (by first | trivial | omega) (Eq.trans hR505 rfl) 
-- WorkMeter$Wave.apparentOf
noncomputable def f23_1 (g0 : Nat) (a1 : Int) (m : zM) : Int :=
  zn (w64 ((m g0 22 (0 + a1)) * (m g0 22 (0 + a1)))) fun z501 =>
  zn (w64 ((m g0 22 (4 + a1)) * (m g0 22 (4 + a1)))) fun z502 =>
  zn (w64 (z501 + z502)) fun z503 =>
  zn (f24_1 z503 m) fun v506 =>
  v506
-- WorkMeter$Wave.apparentOf
theorem c23_1 {s : Nat × (Nat → Int32)} {S : zS} {m0 m : zM} {B : Int} {d : Nat} {Q : Option zV → zM → Prop} (g0 : Nat) (a1 : Int) (hd : 14 ≤ d) (hJ : J S m0 B m) (hB : B + 0 ≤ 1000000000) (ha1 : 3 ≤ a1 ∧ a1 ≤ 3) (hQ : ∀ (v : Int), (True) → f23_1 g0 a1 m = v → Q (some (zl v)) m) : X (EE s) d 23 0 [(0, zr g0 19), (1, zi a1)] [] m Q := by
  refine X.aload_n 1 (zi23 0) rfl rfl rfl ?_
  refine X.getR 4 (zi23 1) rfl rfl (by decide) rfl rfl ?_
  refine X.iconst 5 (zi23 4) rfl rfl (by decide) ?_
  refine X.iload_n 6 (zi23 5) rfl rfl rfl ?_
  refine X.iadd 7 (zi23 6) rfl rfl (by omega) ?_
  refine X.lald 8 (zi23 7) rfl rfl (by decide) rfl (by omega) ?_
  refine X.lstore_n 9 [(0, zr g0 19), (1, zi a1), (2, zl (m g0 22 (0 + a1)))] (zi23 8) rfl rfl rfl ?_
  refine X.aload_n 10 (zi23 9) rfl rfl rfl ?_
  refine X.getR 13 (zi23 10) rfl rfl (by decide) rfl rfl ?_
  refine X.iconst 14 (zi23 13) rfl rfl (by decide) ?_
  refine X.iload_n 15 (zi23 14) rfl rfl rfl ?_
  refine X.iadd 16 (zi23 15) rfl rfl (by omega) ?_
  refine X.lald 17 (zi23 16) rfl rfl (by decide) rfl (by omega) ?_
  refine X.lstore 19 [(0, zr g0 19), (1, zi a1), (2, zl (m g0 22 (0 + a1))), (4, zl (m g0 22 (4 + a1)))] (zi23 17) rfl rfl rfl ?_
  refine X.lload_n 20 (zi23 19) rfl rfl rfl ?_
  refine X.lload_n 21 (zi23 20) rfl rfl rfl ?_
  refine X.lmulW 22 (zi23 21) rfl rfl (fun z501 ez501 hz501 => ?_)
  refine X.lload 24 (zi23 22) rfl rfl rfl ?_
  refine X.lload 26 (zi23 24) rfl rfl rfl ?_
  refine X.lmulW 27 (zi23 26) rfl rfl (fun z502 ez502 hz502 => ?_)
  refine X.laddW 28 (zi23 27) rfl rfl (fun z503 ez503 hz503 => ?_)
  refine X.calls 31 [zl z503] [] [(0, zl z503)] (zi23 28) (by decide) rfl rfl (by omega) rfl rfl t24 (Nat.le_of_ble_eq_true rfl) (Nat.le_of_ble_eq_true rfl) rfl ?_
  refine c24_1 (B := B)  z503 (by omega) (hJ.up (by omega)) (by omega)  (fun v506 hv506 hFv506 => ?_)
  show X (EE s) d 23 31 [(0, zr g0 19), (1, zi a1), (2, zl (m g0 22 (0 + a1))), (4, zl (m g0 22 (4 + a1)))] [zl v506] m _
  refine X.retl (zi23 31) rfl t23 ?_
  exact hQ v506 (by first | trivial | omega) (Eq.trans (zn_eq ez501) (Eq.trans (zn_eq ez502) (Eq.trans (zn_eq ez503) (Eq.trans (zn_eq hFv506.symm) rfl)))) 
-- WorkMeter$Wave.sumUp
noncomputable def f21_1 (g0 : Nat) (m : zM) : zM :=
  zs (f11_1 g0 0 m) fun m501 =>
  fl21_17_1 (fun m505 =>
  zn (f23_1 g0 3 m505) fun v511 =>
  zs (z_upd m505 g0 19 6 v511) fun m512 =>
  m512) g0 ((m501 g0 19 4) / 4) (zfu 17) 0 m501
-- WorkMeter$Wave.sumUp
theorem c21_1 {s : Nat × (Nat → Int32)} {S : zS} {m0 m : zM} {B : Int} {d : Nat} {Q : Option zV → zM → Prop} (g0 : Nat) (hd : 15 ≤ d) (hJ : J S m0 B m) (hB : B + 0 ≤ 1000000000) (hf2 : ¬ S.1 2) (hgg0 : ¬ S.2.1 g0) (hQ : ∀ m', f21_1 g0 m = m' → J S m0 (B) m' → Q none m') : X (EE s) d 21 0 [(0, zr g0 19)] [] m Q := by
  refine X.aload_n 1 (zi21 0) rfl rfl rfl ?_
  refine X.getR 4 (zi21 1) rfl rfl (by decide) rfl rfl ?_
  refine X.lconst (y := 0) 5 (zi21 4) rfl rfl rfl ?_
  refine X.calls 8 [zr g0 22, zl 0] [] [(0, zr g0 22), (1, zl 0)] (zi21 5) (by decide) rfl rfl (by omega) rfl rfl t11 (Nat.le_of_ble_eq_true rfl) (Nat.le_of_ble_eq_true rfl) rfl ?_
  refine c11_1 (B := B) g0 0 (by omega) (hJ.up (by omega)) (by omega) (by omega) hf2 hgg0 (fun m501 hFv503 hJ502 => ?_)
  show X (EE s) d 21 8 [(0, zr g0 19)] [] m501 _
  refine X.aload_n 9 (zi21 8) rfl rfl rfl ?_
  refine X.getI 12 4 (zi21 9) rfl rfl (by decide) rfl rfl rfl ?_
  have h504 := r19_4 hJ502 g0
  refine X.iconst 13 (zi21 12) rfl rfl (by decide) ?_
  refine X.idiv 14 (zi21 13) rfl rfl (by omega) ?_
  refine X.istore_n 15 [(0, zr g0 19), (1, zi ((m501 g0 19 4) / 4))] (zi21 14) rfl rfl rfl ?_
  refine X.iconst 16 (zi21 15) rfl rfl (by decide) ?_
  refine X.istore_n 17 [(0, zr g0 19), (1, zi ((m501 g0 19 4) / 4)), (2, zi 0)] (zi21 16) rfl rfl rfl ?_
  have hz17 := zfu_eq 17
  refine l21_17_1 (s := s) (d := d) (R0 := (f21_1 g0 m)) g0 ((m501 g0 19 4) / 4)  (BE := B + 0) (by omega) (by omega) (by omega) hf2 hgg0 (fun  m505 B506 hJ507 hBB506 hR508 => ?_) (zfu 17) 0 m501 (B) (hJ502.up (by omega)) (by omega) (by omega) (by omega) (Eq.trans (zs_eq hFv503.symm) rfl)
  refine X.aload_n 165 (zi21 164) rfl rfl rfl ?_
  refine X.aload_n 166 (zi21 165) rfl rfl rfl ?_
  refine X.iconst 167 (zi21 166) rfl rfl (by decide) ?_
  refine X.callv 170 [zi 3] [zr g0 19] [(0, zr g0 19), (1, zi 3)] (zi21 167) rfl (by decide) rfl rfl (by omega) rfl rfl (by decide) rfl t23 (Nat.le_of_ble_eq_true rfl) (Nat.le_of_ble_eq_true rfl) rfl ?_
  refine c23_1 (B := B506) g0 3 (by omega) (hJ507.up (by omega)) (by omega) (by omega) (fun v511 hv511 hFv511 => ?_)
  show X (EE s) d 21 170 [(0, zr g0 19)] [zl v511, zr g0 19] m505 _
  refine X.putL' 173 6 (zi21 170) rfl rfl (by decide) rfl rfl rfl (fun hrm512 m512 hm512 => ?_)
  have hJ513 := w19_6 hJ507 hm512 hrm512 hf2 hgg0
  refine X.retv (zi21 173) rfl t21 ?_
  exact hQ  m512  (Eq.trans hR508 (Eq.trans (zn_eq hFv511.symm) (Eq.trans (zs_eq hm512) rfl))) (hJ513.up (by omega)) 
-- WorkMeter$Wave.takeSample
noncomputable def f20_1 (g0 : Nat) (a1 a2 : Int) (m : zM) : Int × zM :=
  zs (z_upd m g0 20 (m g0 19 5) a1) fun m502 =>
  zs (z_upd m502 g0 21 (m502 g0 19 5) a2) fun m505 =>
  zs (z_upd m505 g0 19 5 ((m505 g0 19 5) + 1)) fun m508 =>
  zn (((m508 g0 19 3) * (m508 g0 19 4))) fun z510 =>
  if z510 ≤ (m508 g0 19 5) then
  (zs (z_upd m508 g0 19 5 0) fun m512 =>
  zs (f21_1 g0 m512) fun m514 =>
  (1, m514))
  else
  ((0, m508))
-- WorkMeter$Wave.takeSample
theorem c20_1 {s : Nat × (Nat → Int32)} {S : zS} {m0 m : zM} {B : Int} {d : Nat} {Q : Option zV → zM → Prop} (g0 : Nat) (a1 a2 : Int) (hd : 16 ≤ d) (hJ : J S m0 B m) (hB : B + 0 ≤ 1000000000) (ha1 : (-500) ≤ a1 ∧ a1 ≤ 500) (ha2 : (-500) ≤ a2 ∧ a2 ≤ 500) (hf2 : ¬ S.1 2) (hgg0 : ¬ S.2.1 g0) (hQ : ∀ (v : Int) m', (0 ≤ v ∧ v ≤ 1) → f20_1 g0 a1 a2 m = (v, m') → J S m0 (B) m' → Q (some (zi v)) m') : X (EE s) d 20 0 [(0, zr g0 19), (1, zi a1), (2, zi a2)] [] m Q := by
  refine X.aload_n 1 (zi20 0) rfl rfl rfl ?_
  refine X.getR 4 (zi20 1) rfl rfl (by decide) rfl rfl ?_
  refine X.aload_n 5 (zi20 4) rfl rfl rfl ?_
  refine X.getI 8 5 (zi20 5) rfl rfl (by decide) rfl rfl rfl ?_
  have h501 := r19_5 hJ g0
  refine X.iload_n 9 (zi20 8) rfl rfl rfl ?_
  refine X.iast' 10 (zi20 9) rfl rfl (by decide) rfl (by omega) (fun hrm502 m502 hm502 => ?_)
  have hJ503 := w20_0 hJ hm502 (by omega) (by omega) hf2 hgg0
  refine X.aload_n 11 (zi20 10) rfl rfl rfl ?_
  refine X.getR 14 (zi20 11) rfl rfl (by decide) rfl rfl ?_
  refine X.aload_n 15 (zi20 14) rfl rfl rfl ?_
  refine X.getI 18 5 (zi20 15) rfl rfl (by decide) rfl rfl rfl ?_
  have h504 := r19_5 hJ503 g0
  refine X.iload_n 19 (zi20 18) rfl rfl rfl ?_
  refine X.iast' 20 (zi20 19) rfl rfl (by decide) rfl (by omega) (fun hrm505 m505 hm505 => ?_)
  have hJ506 := w21_0 hJ503 hm505 (by omega) (by omega) hf2 hgg0
  refine X.aload_n 21 (zi20 20) rfl rfl rfl ?_
  refine X.dup 22 (zi20 21) rfl rfl rfl ?_
  refine X.getI 25 5 (zi20 22) rfl rfl (by decide) rfl rfl rfl ?_
  have h507 := r19_5 hJ506 g0
  refine X.iconst 26 (zi20 25) rfl rfl (by decide) ?_
  refine X.iadd 27 (zi20 26) rfl rfl (by omega) ?_
  refine X.putI' 30 5 (zi20 27) rfl rfl (by decide) rfl rfl rfl (fun hrm508 m508 hm508 => ?_)
  have em508 : m508 g0 19 5 = ((m505 g0 19 5) + 1) := by rw [hm508]; exact z_upd_same _ _ _ _ _
  have qm508_3 : m508 g0 19 3 = m505 g0 19 3 := by rw [hm508]; exact z_upd_o _ _ rfl
  have qqm508_3 := r19_3 hJ506 g0
  have qm508_4 : m508 g0 19 4 = m505 g0 19 4 := by rw [hm508]; exact z_upd_o _ _ rfl
  have qqm508_4 := r19_4 hJ506 g0
  refine X.aload_n 31 (zi20 30) rfl rfl rfl ?_
  refine X.getI 34 5 (zi20 31) rfl rfl (by decide) rfl rfl rfl ?_
  refine X.aload_n 35 (zi20 34) rfl rfl rfl ?_
  refine X.getI 38 3 (zi20 35) rfl rfl (by decide) rfl rfl rfl ?_
  refine X.aload_n 39 (zi20 38) rfl rfl rfl ?_
  refine X.getI 42 4 (zi20 39) rfl rfl (by decide) rfl rfl rfl ?_
  have hz510 := z_mulr (a := 1) (b := 3) (c := 4) (e := 16) (x := (m508 g0 19 3)) (y := (m508 g0 19 4)) (by omega) (by omega)
  refine X.imul 43 (zi20 42) rfl rfl (z_in3 hz510 (by decide) (by decide)) ?_
  obtain ⟨z510, ez510⟩ : ∃ z, z = ((m508 g0 19 3) * (m508 g0 19 4)) := ⟨_, rfl⟩
  rw [← ez510] at hz510 ⊢
  have gz510 : 4 ≤ z510 ∧ z510 ≤ 48 := z_in3 hz510 (by decide) (by decide)
  clear hz510
  refine X.icmpge 48 46 (zi20 43) rfl rfl rfl (fun h511 => ?_) (fun h511 => ?_)
  · refine X.cut [(0, zr g0 19)] (zi20 48) rfl ?_
    refine X.aload_n 49 (zi20 48) rfl rfl rfl ?_
    refine X.iconst 50 (zi20 49) rfl rfl (by decide) ?_
    refine X.putI' 53 5 (zi20 50) rfl rfl (by decide) rfl rfl rfl (fun hrm512 m512 hm512 => ?_)
    have hJ513 := w19_5 (x := 0) hJ506 (show m512 = z_upd m505 g0 19 5 0 by rw [hm512, hm508]; exact z_upd_upd _ _ _ _ _ _) (by omega) hf2 hgg0
    have em512 : m512 g0 19 5 = 0 := by rw [hm512]; exact z_upd_same _ _ _ _ _
    refine X.aload_n 54 (zi20 53) rfl rfl rfl ?_
    refine X.callv 57 [] [] [(0, zr g0 19)] (zi20 54) rfl (by decide) rfl rfl (by omega) rfl rfl (by decide) rfl t21 (Nat.le_of_ble_eq_true rfl) (Nat.le_of_ble_eq_true rfl) rfl ?_
    refine c21_1 (B := B) g0  (by omega) (hJ513.up (by omega)) (by omega)  hf2 hgg0 (fun m514 hFv516 hJ515 => ?_)
    show X (EE s) d 20 57 [(0, zr g0 19)] [] m514 _
    refine X.iconst 58 (zi20 57) rfl rfl (by decide) ?_
    refine X.retz (zi20 58) rfl t20 (by omega) ?_
    exact hQ 1 m514 (by first | trivial | omega) (Eq.trans (zs_eq hm502) (Eq.trans (zs_eq hm505) (Eq.trans (zs_eq hm508) (Eq.trans (zn_eq ez510) (Eq.trans (if_pos h511) (Eq.trans (zs_eq hm512) (Eq.trans (zs_eq hFv516.symm) rfl))))))) (hJ515.up (by omega)) 
  · refine X.iconst 47 (zi20 46) rfl rfl (by decide) ?_
    have hJ517 := w19_5 hJ506 hm508 (by omega) hf2 hgg0
    refine X.retz (zi20 47) rfl t20 (by omega) ?_
    exact hQ 0 m508 (by first | trivial | omega) (Eq.trans (zs_eq hm502) (Eq.trans (zs_eq hm505) (Eq.trans (zs_eq hm508) (Eq.trans (zn_eq ez510) (Eq.trans (if_neg h511) rfl))))) (hJ517.up (by omega)) 
noncomputable def fl29_2_1_b (self : Int → Int) (k20 : Int → Int) (k28 : Int) (g0 : Nat) (y1 : Int) (m : zM) (y2 : Int) : Int :=
  if (m g0 11 7) ≤ y2 then
  (k28)
  else
  (if (m g0 17 y2) = y1 then
  (k20 y2)
  else
  (self (y2 + 1)))
noncomputable def fl29_2_1 (k20 : Int → Int) (k28 : Int) (g0 : Nat) (y1 : Int) (m : zM) : Nat → Int → Int
  | 0 => fun y2 => 0
  | n + 1 => fl29_2_1_b (fl29_2_1 k20 k28 g0 y1 m n) k20 k28 g0 y1 m
theorem l29_2_1 {s : Nat × (Nat → Int32)} {S : zS} {m0 : zM} {m : zM} {B : Int} {d : Nat} {Q : Option zV → zM → Prop} {R0 : Int} {k20 : Int → Int} {k28 : Int} (g0 : Nat) (y1 : Int) (hd : 13 ≤ d) (hJ : J S m0 B m) (hB9 : B ≤ 1000000000) (hy1 : 0 ≤ y1 ∧ y1 ≤ 364)
    (K20 : ∀ (x2 : Int) , (0 ≤ x2 ∧ x2 ≤ 15) → (x2 < m g0 11 7) → R0 = k20 x2 → X (EE s) d 29 20 [(0, zr g0 11), (1, zi y1), (2, zi x2)] [] m Q)
    (K28 : R0 = k28 → X (EE s) d 29 28 [] [] m Q) :
    ∀ (n : Nat) (y2 : Int) , (0 ≤ y2 ∧ y2 ≤ 16) → 16 - y2 < (n : Int) → R0 = fl29_2_1 k20 k28 g0 y1 m n y2 → X (EE s) d 29 2 [(0, zr g0 11), (1, zi y1), (2, zi y2)] [] m Q := by
  intro n
  induction n with
  | zero =>
    intro y2 hy2 hn hR
    exfalso
    omega
  | succ n ih =>
    intro y2 hy2 hn hR
    replace hR : R0 = fl29_2_1_b (fl29_2_1 k20 k28 g0 y1 m n) k20 k28 g0 y1 m y2 := hR
    refine X.iload_n 3 (zi29 2) rfl rfl rfl ?_
    refine X.aload_n 4 (zi29 3) rfl rfl rfl ?_
    refine X.getI 7 7 (zi29 4) rfl rfl (by decide) rfl rfl rfl ?_
    have h506 := r11_7 hJ g0
    refine X.icmpge 28 10 (zi29 7) rfl rfl rfl (fun h507 => ?_) (fun h507 => ?_)
    · refine X.cut [] (zi29 28) rfl ?_
      exact K28   (Eq.trans hR (Eq.trans (if_pos h507) rfl))
    · refine X.aload_n 11 (zi29 10) rfl rfl rfl ?_
      refine X.getR 14 (zi29 11) rfl rfl (by decide) rfl rfl ?_
      refine X.iload_n 15 (zi29 14) rfl rfl rfl ?_
      refine X.iald 16 (zi29 15) rfl rfl (by decide) rfl (by omega) ?_
      have h508 := r17_0 hJ g0 (i := y2) (by omega)
      refine X.iload_n 17 (zi29 16) rfl rfl rfl ?_
      refine X.icmpne 22 20 (zi29 17) rfl rfl rfl (fun h509 => ?_) (fun h509 => ?_)
      · refine X.iinc 25 [(0, zr g0 11), (1, zi y1), (2, zi (y2 + 1))] (zi29 22) rfl rfl rfl (by omega) rfl ?_
        refine X.goto 2 (zi29 25) rfl rfl ?_
        exact ih (y2 + 1) (by omega) (by omega) (Eq.trans hR (Eq.trans (if_neg h507) (Eq.trans (if_neg h509) rfl)))
      · exact K20 y2 (by first | trivial | omega) (by omega) (Eq.trans hR (Eq.trans (if_neg h507) (Eq.trans (if_pos h509) rfl)))
-- WorkMeter$Calendar.specialPlace
noncomputable def f29_1 (g0 : Nat) (a1 : Int) (m : zM) : Int :=
  fl29_2_1 (fun y501 =>
  y501) ((-1)) g0 a1 m (zfu 17) 0
-- WorkMeter$Calendar.specialPlace
theorem c29_1 {s : Nat × (Nat → Int32)} {S : zS} {m0 m : zM} {B : Int} {d : Nat} {Q : Option zV → zM → Prop} (g0 : Nat) (a1 : Int) (hd : 13 ≤ d) (hJ : J S m0 B m) (hB : B + 0 ≤ 1000000000) (ha1 : 0 ≤ a1 ∧ a1 ≤ 364) (hQ : ∀ (v : Int), ((-1) ≤ v ∧ v ≤ 15) → f29_1 g0 a1 m = v → (v < m g0 11 7) → Q (some (zi v)) m) : X (EE s) d 29 0 [(0, zr g0 11), (1, zi a1)] [] m Q := by
  have f0 := r11_7 hJ g0
  refine X.iconst 1 (zi29 0) rfl rfl (by decide) ?_
  refine X.istore_n 2 [(0, zr g0 11), (1, zi a1), (2, zi 0)] (zi29 1) rfl rfl rfl ?_
  have hz17 := zfu_eq 17
  refine l29_2_1 (s := s) (m := m) (B := B) (d := d) (R0 := (f29_1 g0 a1 m)) g0 a1  (by omega) (hJ.up (by omega)) (by omega) (by omega) (fun y501 hby501 hrlm502_0 hR505 => ?_) (fun  hR509 => ?_) (zfu 17) 0 (by omega) (by omega) rfl
  · refine X.iload_n 21 (zi29 20) rfl rfl rfl ?_
    refine X.reti (zi29 21) rfl t29 ?_
    exact hQ y501 (by first | trivial | omega) (Eq.trans hR505 rfl) (by omega)
  · refine X.iconst 29 (zi29 28) rfl rfl (by decide) ?_
    refine X.reti (zi29 29) rfl t29 ?_
    exact hQ (-1) (by first | trivial | omega) (Eq.trans hR509 rfl) (by omega)
noncomputable def fl30_7_1_b (self : Int → Int → Int → Int) (k87 : Int → Int → Int) (g0 : Nat) (y1 : Int) (m : zM) (y2 y3 y4 : Int) : Int :=
  if 4 ≤ y4 then
  (k87 y2 y3)
  else
  (if (m g0 15 y4) = (-1) then
  (self y2 y3 (y4 + 1))
  else
  (zn (if y1 < (m g0 15 y4) then
  (y2)
  else
  (if y2 = (-1) then
  (y4)
  else
  (if (m g0 15 y4) ≤ (m g0 15 y2) then
  (y2)
  else
  (y4)))) fun v544 =>
  zn (if (m g0 15 y4) ≤ (m g0 15 y3) then
  (y3)
  else
  (y4)) fun v551 =>
  self v544 v551 (y4 + 1)))
noncomputable def fl30_7_1 (k87 : Int → Int → Int) (g0 : Nat) (y1 : Int) (m : zM) : Nat → Int → Int → Int → Int
  | 0 => fun y2 y3 y4 => 0
  | n + 1 => fl30_7_1_b (fl30_7_1 k87 g0 y1 m n) k87 g0 y1 m
theorem l30_7_1 {s : Nat × (Nat → Int32)} {S : zS} {m0 : zM} {m : zM} {B : Int} {d : Nat} {Q : Option zV → zM → Prop} {R0 : Int} {k87 : Int → Int → Int} (g0 : Nat) (y1 : Int) (hd : 13 ≤ d) (hJ : J S m0 B m) (hB9 : B ≤ 1000000000) (hy1 : 0 ≤ y1 ∧ y1 ≤ 364)
    (K87 : ∀ (x2 x3 : Int) , ((-1) ≤ x2 ∧ x2 ≤ 3) → (0 ≤ x3 ∧ x3 ≤ 3) → R0 = k87 x2 x3 → X (EE s) d 30 87 [(2, zi x2), (3, zi x3)] [] m Q) :
    ∀ (n : Nat) (y2 y3 y4 : Int) , ((-1) ≤ y2 ∧ y2 ≤ 3) → (0 ≤ y3 ∧ y3 ≤ 3) → (0 ≤ y4 ∧ y4 ≤ 4) → 4 - y4 < (n : Int) → R0 = fl30_7_1 k87 g0 y1 m n y2 y3 y4 → X (EE s) d 30 7 [(0, zr g0 11), (1, zi y1), (2, zi y2), (3, zi y3), (4, zi y4)] [] m Q := by
  intro n
  induction n with
  | zero =>
    intro y2 y3 y4 hy2 hy3 hy4 hn hR
    exfalso
    omega
  | succ n ih =>
    intro y2 y3 y4 hy2 hy3 hy4 hn hR
    replace hR : R0 = fl30_7_1_b (fl30_7_1 k87 g0 y1 m n) k87 g0 y1 m y2 y3 y4 := hR
    refine X.iload 9 (zi30 7) rfl rfl rfl ?_
    refine X.iconst 10 (zi30 9) rfl rfl (by decide) ?_
    refine X.icmpge 87 13 (zi30 10) rfl rfl rfl (fun h537 => ?_) (fun h537 => ?_)
    · refine X.cut [(2, zi y2), (3, zi y3)] (zi30 87) rfl ?_
      exact K87 y2 y3 (by first | trivial | omega) (by first | trivial | omega) (Eq.trans hR (Eq.trans (if_pos h537) rfl))
    · refine X.aload_n 14 (zi30 13) rfl rfl rfl ?_
      refine X.getR 17 (zi30 14) rfl rfl (by decide) rfl rfl ?_
      refine X.iload 19 (zi30 17) rfl rfl rfl ?_
      refine X.iald 20 (zi30 19) rfl rfl (by decide) rfl (by omega) ?_
      have h538 := r15_0 hJ g0 (i := y4) (by omega)
      refine X.iconst 21 (zi30 20) rfl rfl (by decide) ?_
      refine X.icmpne 27 24 (zi30 21) rfl rfl rfl (fun h539 => ?_) (fun h539 => ?_)
      · refine X.aload_n 28 (zi30 27) rfl rfl rfl ?_
        refine X.getR 31 (zi30 28) rfl rfl (by decide) rfl rfl ?_
        refine X.iload 33 (zi30 31) rfl rfl rfl ?_
        refine X.iald 34 (zi30 33) rfl rfl (by decide) rfl (by omega) ?_
        refine X.iload_n 35 (zi30 34) rfl rfl rfl ?_
        have hK547 : ∀ (v : Int) , ((-1) ≤ v ∧ v ≤ 3) → (if y1 < (m g0 15 y4) then
            (y2)
            else
            (if y2 = (-1) then
            (y4)
            else
            (if (m g0 15 y4) ≤ (m g0 15 y2) then
            (y2)
            else
            (y4)))) = v → X (EE s) d 30 62 [(0, zr g0 11), (1, zi y1), (2, zi v), (3, zi y3), (4, zi y4)] [] m Q := by
          intro v544 hv544 hT548
          refine X.aload_n 63 (zi30 62) rfl rfl rfl ?_
          refine X.getR 66 (zi30 63) rfl rfl (by decide) rfl rfl ?_
          refine X.iload 68 (zi30 66) rfl rfl rfl ?_
          refine X.iald 69 (zi30 68) rfl rfl (by decide) rfl (by omega) ?_
          refine X.aload_n 70 (zi30 69) rfl rfl rfl ?_
          refine X.getR 73 (zi30 70) rfl rfl (by decide) rfl rfl ?_
          refine X.iload_n 74 (zi30 73) rfl rfl rfl ?_
          refine X.iald 75 (zi30 74) rfl rfl (by decide) rfl (by omega) ?_
          have h549 := r15_0 hJ g0 (i := y3) (by omega)
          have hK554 : ∀ (v : Int) , (0 ≤ v ∧ v ≤ 3) → (if (m g0 15 y4) ≤ (m g0 15 y3) then
              (y3)
              else
              (y4)) = v → X (EE s) d 30 81 [(0, zr g0 11), (1, zi y1), (2, zi v544), (3, zi v), (4, zi y4)] [] m Q := by
            intro v551 hv551 hT555
            refine X.iinc 84 [(0, zr g0 11), (1, zi y1), (2, zi v544), (3, zi v551), (4, zi (y4 + 1))] (zi30 81) rfl rfl rfl (by omega) rfl ?_
            refine X.goto 7 (zi30 84) rfl rfl ?_
            exact ih v544 v551 (y4 + 1) (by omega) (by omega) (by omega) (by omega) (Eq.trans hR (Eq.trans (if_neg h537) (Eq.trans (if_neg h539) (Eq.trans (zn_eq hT548.symm) (Eq.trans (zn_eq hT555.symm) rfl)))))
          refine X.icmple 81 78 (zi30 75) rfl rfl rfl (fun h550 => ?_) (fun h550 => ?_)
          · exact hK554 y3 (by first | trivial | omega) (Eq.trans (if_pos h550) rfl)
          · refine X.iload 80 (zi30 78) rfl rfl rfl ?_
            refine X.istore_n 81 [(0, zr g0 11), (1, zi y1), (2, zi v544), (3, zi y4), (4, zi y4)] (zi30 80) rfl rfl rfl ?_
            exact hK554 y4 (by first | trivial | omega) (Eq.trans (if_neg h550) rfl)
        refine X.icmpgt 62 38 (zi30 35) rfl rfl rfl (fun h540 => ?_) (fun h540 => ?_)
        · exact hK547 y2 (by first | trivial | omega) (Eq.trans (if_pos h540) rfl)
        · refine X.iload_n 39 (zi30 38) rfl rfl rfl ?_
          refine X.iconst 40 (zi30 39) rfl rfl (by decide) ?_
          refine X.icmpeq 59 43 (zi30 40) rfl rfl rfl (fun h541 => ?_) (fun h541 => ?_)
          · refine X.cut [(0, zr g0 11), (1, zi y1), (3, zi y3), (4, zi y4)] (zi30 59) rfl ?_
            refine X.iload 61 (zi30 59) rfl rfl rfl ?_
            refine X.istore_n 62 [(0, zr g0 11), (1, zi y1), (2, zi y4), (3, zi y3), (4, zi y4)] (zi30 61) rfl rfl rfl ?_
            exact hK547 y4 (by first | trivial | omega) (Eq.trans (if_neg h540) (Eq.trans (if_pos h541) rfl))
          · refine X.aload_n 44 (zi30 43) rfl rfl rfl ?_
            refine X.getR 47 (zi30 44) rfl rfl (by decide) rfl rfl ?_
            refine X.iload 49 (zi30 47) rfl rfl rfl ?_
            refine X.iald 50 (zi30 49) rfl rfl (by decide) rfl (by omega) ?_
            refine X.aload_n 51 (zi30 50) rfl rfl rfl ?_
            refine X.getR 54 (zi30 51) rfl rfl (by decide) rfl rfl ?_
            refine X.iload_n 55 (zi30 54) rfl rfl rfl ?_
            refine X.iald 56 (zi30 55) rfl rfl (by decide) rfl (by omega) ?_
            have h542 := r15_0 hJ g0 (i := y2) (by omega)
            refine X.icmple 62 59 (zi30 56) rfl rfl rfl (fun h543 => ?_) (fun h543 => ?_)
            · exact hK547 y2 (by first | trivial | omega) (Eq.trans (if_neg h540) (Eq.trans (if_neg h541) (Eq.trans (if_pos h543) rfl)))
            · refine X.cut [(0, zr g0 11), (1, zi y1), (3, zi y3), (4, zi y4)] (zi30 59) rfl ?_
              refine X.iload 61 (zi30 59) rfl rfl rfl ?_
              refine X.istore_n 62 [(0, zr g0 11), (1, zi y1), (2, zi y4), (3, zi y3), (4, zi y4)] (zi30 61) rfl rfl rfl ?_
              exact hK547 y4 (by first | trivial | omega) (Eq.trans (if_neg h540) (Eq.trans (if_neg h541) (Eq.trans (if_neg h543) rfl)))
      · refine X.goto 81 (zi30 24) rfl rfl ?_
        refine X.iinc 84 [(0, zr g0 11), (1, zi y1), (2, zi y2), (3, zi y3), (4, zi (y4 + 1))] (zi30 81) rfl rfl rfl (by omega) rfl ?_
        refine X.goto 7 (zi30 84) rfl rfl ?_
        exact ih y2 y3 (y4 + 1) (by omega) (by omega) (by omega) (by omega) (Eq.trans hR (Eq.trans (if_neg h537) (Eq.trans (if_pos h539) rfl)))
-- WorkMeter$Calendar.seasonOf
noncomputable def f30_1 (g0 : Nat) (a1 : Int) (m : zM) : Int :=
  fl30_7_1 (fun y501 y502 =>
  zn (if y501 = (-1) then
  (y502)
  else
  (y501)) fun v508 =>
  v508) g0 a1 m (zfu 5) (-1) 0 0
-- WorkMeter$Calendar.seasonOf
theorem c30_1 {s : Nat × (Nat → Int32)} {S : zS} {m0 m : zM} {B : Int} {d : Nat} {Q : Option zV → zM → Prop} (g0 : Nat) (a1 : Int) (hd : 13 ≤ d) (hJ : J S m0 B m) (hB : B + 0 ≤ 1000000000) (ha1 : 0 ≤ a1 ∧ a1 ≤ 364) (hQ : ∀ (v : Int), (0 ≤ v ∧ v ≤ 3) → f30_1 g0 a1 m = v → Q (some (zi v)) m) : X (EE s) d 30 0 [(0, zr g0 11), (1, zi a1)] [] m Q := by
  refine X.iconst 1 (zi30 0) rfl rfl (by decide) ?_
  refine X.istore_n 2 [(0, zr g0 11), (1, zi a1), (2, zi (-1))] (zi30 1) rfl rfl rfl ?_
  refine X.iconst 3 (zi30 2) rfl rfl (by decide) ?_
  refine X.istore_n 4 [(0, zr g0 11), (1, zi a1), (2, zi (-1)), (3, zi 0)] (zi30 3) rfl rfl rfl ?_
  refine X.iconst 5 (zi30 4) rfl rfl (by decide) ?_
  refine X.istore 7 [(0, zr g0 11), (1, zi a1), (2, zi (-1)), (3, zi 0), (4, zi 0)] (zi30 5) rfl rfl rfl ?_
  have hz5 := zfu_eq 5
  refine l30_7_1 (s := s) (m := m) (B := B) (d := d) (R0 := (f30_1 g0 a1 m)) g0 a1  (by omega) (hJ.up (by omega)) (by omega) (by omega) (fun y501 y502 hby501 hby502 hR506 => ?_) (zfu 5) (-1) 0 0 (by omega) (by omega) (by omega) (by omega) rfl
  refine X.iload_n 88 (zi30 87) rfl rfl rfl ?_
  refine X.iconst 89 (zi30 88) rfl rfl (by decide) ?_
  have hK511 : ∀ (v : Int) , (0 ≤ v ∧ v ≤ 3) → (if y501 = (-1) then
      (y502)
      else
      (y501)) = v → X (EE s) d 30 97 [] [zi v] m Q := by
    intro v508 hv508 hT512
    refine X.reti (zi30 97) rfl t30 ?_
    exact hQ v508 (by first | trivial | omega) (Eq.trans hR506 (Eq.trans (zn_eq hT512.symm) rfl)) 
  refine X.icmpne 96 92 (zi30 89) rfl rfl rfl (fun h507 => ?_) (fun h507 => ?_)
  · refine X.cut [(2, zi y501)] (zi30 96) rfl ?_
    refine X.iload_n 97 (zi30 96) rfl rfl rfl ?_
    refine X.cut [] (zi30 97) rfl ?_
    exact hK511 y501 (by first | trivial | omega) (Eq.trans (if_neg h507) rfl)
  · refine X.iload_n 93 (zi30 92) rfl rfl rfl ?_
    refine X.goto 97 (zi30 93) rfl rfl ?_
    refine X.cut [] (zi30 97) rfl ?_
    exact hK511 y502 (by first | trivial | omega) (Eq.trans (if_pos h507) rfl)
-- WorkMeter$Calendar.tableFor
noncomputable def f28_1 (g0 : Nat) (a1 : Int) (m : zM) : Int :=
  zn (f29_1 g0 (a1 % 365) m) fun v503 =>
  if v503 = (-1) then
  (zn (f30_1 g0 (a1 % 365) m) fun v507 =>
  (m g0 16 ((v507 * 7) + (a1 % 7))))
  else
  ((m g0 18 v503))
-- WorkMeter$Calendar.tableFor
theorem c28_1 {s : Nat × (Nat → Int32)} {S : zS} {m0 m : zM} {B : Int} {d : Nat} {Q : Option zV → zM → Prop} (g0 : Nat) (a1 : Int) (hd : 14 ≤ d) (hJ : J S m0 B m) (hB : B + 0 ≤ 1000000000) (ha1 : 0 ≤ a1 ∧ a1 ≤ 23150) (hQ : ∀ (v : Int), (0 ≤ v ∧ v ≤ 7) → f28_1 g0 a1 m = v → Q (some (zi v)) m) : X (EE s) d 28 0 [(0, zr g0 11), (1, zi a1)] [] m Q := by
  refine X.aload_n 1 (zi28 0) rfl rfl rfl ?_
  refine X.iload_n 2 (zi28 1) rfl rfl rfl ?_
  refine X.sipush 5 (zi28 2) rfl rfl (by decide) ?_
  refine X.irem 6 (zi28 5) rfl rfl (by omega) ?_
  refine X.callv 9 [zi (a1 % 365)] [] [(0, zr g0 11), (1, zi (a1 % 365))] (zi28 6) rfl (by decide) rfl rfl (by omega) rfl rfl (by decide) rfl t29 (Nat.le_of_ble_eq_true rfl) (Nat.le_of_ble_eq_true rfl) rfl ?_
  refine c29_1 (B := B) g0 (a1 % 365) (by omega) (hJ.up (by omega)) (by omega) (by omega) (fun v503 hv503 hFv503 hqv503_0 => ?_)
  show X (EE s) d 28 9 [(0, zr g0 11), (1, zi a1)] [zi v503] m _
  refine X.istore_n 10 [(0, zr g0 11), (1, zi a1), (2, zi v503)] (zi28 9) rfl rfl rfl ?_
  refine X.iload_n 11 (zi28 10) rfl rfl rfl ?_
  refine X.iconst 12 (zi28 11) rfl rfl (by decide) ?_
  refine X.icmpeq 22 15 (zi28 12) rfl rfl rfl (fun h504 => ?_) (fun h504 => ?_)
  · refine X.cut [(0, zr g0 11), (1, zi a1)] (zi28 22) rfl ?_
    refine X.aload_n 23 (zi28 22) rfl rfl rfl ?_
    refine X.getR 26 (zi28 23) rfl rfl (by decide) rfl rfl ?_
    refine X.aload_n 27 (zi28 26) rfl rfl rfl ?_
    refine X.iload_n 28 (zi28 27) rfl rfl rfl ?_
    refine X.sipush 31 (zi28 28) rfl rfl (by decide) ?_
    refine X.irem 32 (zi28 31) rfl rfl (by omega) ?_
    refine X.callv 35 [zi (a1 % 365)] [zr g0 16] [(0, zr g0 11), (1, zi (a1 % 365))] (zi28 32) rfl (by decide) rfl rfl (by omega) rfl rfl (by decide) rfl t30 (Nat.le_of_ble_eq_true rfl) (Nat.le_of_ble_eq_true rfl) rfl ?_
    refine c30_1 (B := B) g0 (a1 % 365) (by omega) (hJ.up (by omega)) (by omega) (by omega) (fun v507 hv507 hFv507 => ?_)
    show X (EE s) d 28 35 [(0, zr g0 11), (1, zi a1)] [zi v507, zr g0 16] m _
    refine X.bipush 37 (zi28 35) rfl rfl (by decide) ?_
    refine X.imul 38 (zi28 37) rfl rfl (by omega) ?_
    refine X.iload_n 39 (zi28 38) rfl rfl rfl ?_
    refine X.bipush 41 (zi28 39) rfl rfl (by decide) ?_
    refine X.irem 42 (zi28 41) rfl rfl (by omega) ?_
    refine X.iadd 43 (zi28 42) rfl rfl (by omega) ?_
    refine X.iald 44 (zi28 43) rfl rfl (by decide) rfl (by omega) ?_
    have h508 := r16_0 hJ g0 (i := ((v507 * 7) + (a1 % 7))) (by omega)
    refine X.reti (zi28 44) rfl t28 ?_
    exact hQ (m g0 16 ((v507 * 7) + (a1 % 7))) (by first | trivial | omega) (Eq.trans (zn_eq hFv503.symm) (Eq.trans (if_pos h504) (Eq.trans (zn_eq hFv507.symm) rfl))) 
  · refine X.aload_n 16 (zi28 15) rfl rfl rfl ?_
    refine X.getR 19 (zi28 16) rfl rfl (by decide) rfl rfl ?_
    refine X.iload_n 20 (zi28 19) rfl rfl rfl ?_
    refine X.iald 21 (zi28 20) rfl rfl (by decide) rfl (by omega) ?_
    have h509 := r18_0 hJ g0 (i := v503) (by omega)
    refine X.reti (zi28 21) rfl t28 ?_
    exact hQ (m g0 18 v503) (by first | trivial | omega) (Eq.trans (zn_eq hFv503.symm) (Eq.trans (if_neg h504) rfl)) 
noncomputable def fl32_8_1_b (self : Int → Int) (k38 : Int → Int) (g0 : Nat) (y1 y2 y3 : Int) (m : zM) (y4 : Int) : Int :=
  if (m g0 12 y1) ≤ y4 then
  (k38 y4)
  else
  (if y2 ≤ (m g0 13 (y3 + y4)) then
  (k38 y4)
  else
  (self (y4 + 1)))
noncomputable def fl32_8_1 (k38 : Int → Int) (g0 : Nat) (y1 y2 y3 : Int) (m : zM) : Nat → Int → Int
  | 0 => fun y4 => 0
  | n + 1 => fl32_8_1_b (fl32_8_1 k38 g0 y1 y2 y3 m n) k38 g0 y1 y2 y3 m
theorem l32_8_1 {s : Nat × (Nat → Int32)} {S : zS} {m0 : zM} {m : zM} {B : Int} {d : Nat} {Q : Option zV → zM → Prop} {R0 : Int} {k38 : Int → Int} (g0 : Nat) (y1 y2 y3 : Int) (hd : 13 ≤ d) (hJ : J S m0 B m) (hB9 : B ≤ 1000000000) (hy1 : 0 ≤ y1 ∧ y1 ≤ 7) (hy2 : (-2147483648) ≤ y2 ∧ y2 ≤ 2147483647) (hy3 : 0 ≤ y3 ∧ y3 ≤ 42)
    (K38 : ∀ (x4 : Int) , (0 ≤ x4 ∧ x4 ≤ 6) → (x4 ≤ m g0 12 y1) → (x4 ≤ m g0 12 y1) → (x4 < m g0 12 y1 → y2 ≤ m g0 13 (y3 + x4)) → R0 = k38 x4 → X (EE s) d 32 38 [(4, zi x4)] [] m Q) :
    ∀ (n : Nat) (y4 : Int) , (0 ≤ y4 ∧ y4 ≤ 6) → (y4 ≤ m g0 12 y1) → 6 - y4 < (n : Int) → R0 = fl32_8_1 k38 g0 y1 y2 y3 m n y4 → X (EE s) d 32 8 [(0, zr g0 11), (1, zi y1), (2, zi y2), (3, zi y3), (4, zi y4)] [] m Q := by
  intro n
  induction n with
  | zero =>
    intro y4 hy4 hr0 hn hR
    exfalso
    omega
  | succ n ih =>
    intro y4 hy4 hr0 hn hR
    replace hR : R0 = fl32_8_1_b (fl32_8_1 k38 g0 y1 y2 y3 m n) k38 g0 y1 y2 y3 m y4 := hR
    refine X.iload 10 (zi32 8) rfl rfl rfl ?_
    refine X.aload_n 11 (zi32 10) rfl rfl rfl ?_
    refine X.getR 14 (zi32 11) rfl rfl (by decide) rfl rfl ?_
    refine X.iload_n 15 (zi32 14) rfl rfl rfl ?_
    refine X.iald 16 (zi32 15) rfl rfl (by decide) rfl (by omega) ?_
    have h506 := r12_0 hJ g0 (i := y1) (by omega)
    refine X.icmpge 38 19 (zi32 16) rfl rfl rfl (fun h507 => ?_) (fun h507 => ?_)
    · refine X.cut [(4, zi y4)] (zi32 38) rfl ?_
      exact K38 y4 (by first | trivial | omega) (by omega) (by omega) (by omega) (Eq.trans hR (Eq.trans (if_pos h507) rfl))
    · refine X.aload_n 20 (zi32 19) rfl rfl rfl ?_
      refine X.getR 23 (zi32 20) rfl rfl (by decide) rfl rfl ?_
      refine X.iload_n 24 (zi32 23) rfl rfl rfl ?_
      refine X.iload 26 (zi32 24) rfl rfl rfl ?_
      refine X.iadd 27 (zi32 26) rfl rfl (by omega) ?_
      refine X.iald 28 (zi32 27) rfl rfl (by decide) rfl (by omega) ?_
      have h508 := r13_0 hJ g0 (i := (y3 + y4)) (by omega)
      refine X.iload_n 29 (zi32 28) rfl rfl rfl ?_
      refine X.icmpge 38 32 (zi32 29) rfl rfl rfl (fun h509 => ?_) (fun h509 => ?_)
      · refine X.cut [(4, zi y4)] (zi32 38) rfl ?_
        exact K38 y4 (by first | trivial | omega) (by omega) (by omega) (by omega) (Eq.trans hR (Eq.trans (if_neg h507) (Eq.trans (if_pos h509) rfl)))
      · refine X.iinc 35 [(0, zr g0 11), (1, zi y1), (2, zi y2), (3, zi y3), (4, zi (y4 + 1))] (zi32 32) rfl rfl rfl (by omega) rfl ?_
        refine X.goto 8 (zi32 35) rfl rfl ?_
        exact ih (y4 + 1) (by omega) (by omega) (by omega) (Eq.trans hR (Eq.trans (if_neg h507) (Eq.trans (if_neg h509) rfl)))
-- WorkMeter$Calendar.switchesBefore
noncomputable def f32_1 (g0 : Nat) (a1 a2 : Int) (m : zM) : Int :=
  fl32_8_1 (fun y501 =>
  y501) g0 a1 a2 (a1 * 6) m (zfu 7) 0
-- WorkMeter$Calendar.switchesBefore
theorem c32_1 {s : Nat × (Nat → Int32)} {S : zS} {m0 m : zM} {B : Int} {d : Nat} {Q : Option zV → zM → Prop} (g0 : Nat) (a1 a2 : Int) (hd : 13 ≤ d) (hJ : J S m0 B m) (hB : B + 0 ≤ 1000000000) (ha1 : 0 ≤ a1 ∧ a1 ≤ 7) (ha2 : (-2147483648) ≤ a2 ∧ a2 ≤ 2147483647) (hQ : ∀ (v : Int), (0 ≤ v ∧ v ≤ 6) → f32_1 g0 a1 a2 m = v → (v ≤ m g0 12 a1) → (v < m g0 12 a1 → a2 ≤ m g0 13 (a1 * 6 + v)) → Q (some (zi v)) m) : X (EE s) d 32 0 [(0, zr g0 11), (1, zi a1), (2, zi a2)] [] m Q := by
  have f0 := r12_0 hJ g0 (i := a1) (by omega)
  refine X.iload_n 1 (zi32 0) rfl rfl rfl ?_
  refine X.bipush 3 (zi32 1) rfl rfl (by decide) ?_
  refine X.imul 4 (zi32 3) rfl rfl (by omega) ?_
  refine X.istore_n 5 [(0, zr g0 11), (1, zi a1), (2, zi a2), (3, zi (a1 * 6))] (zi32 4) rfl rfl rfl ?_
  refine X.iconst 6 (zi32 5) rfl rfl (by decide) ?_
  refine X.istore 8 [(0, zr g0 11), (1, zi a1), (2, zi a2), (3, zi (a1 * 6)), (4, zi 0)] (zi32 6) rfl rfl rfl ?_
  have hz7 := zfu_eq 7
  refine l32_8_1 (s := s) (m := m) (B := B) (d := d) (R0 := (f32_1 g0 a1 a2 m)) g0 a1 a2 (a1 * 6)  (by omega) (hJ.up (by omega)) (by omega) (by omega) (by omega) (by omega) (fun y501 hby501 hrlm502_0 hrlm502_1 hrlm502_2 hR505 => ?_) (zfu 7) 0 (by omega) (by omega) (by omega) rfl
  refine X.iload 40 (zi32 38) rfl rfl rfl ?_
  refine X.reti (zi32 40) rfl t32 ?_
  exact hQ y501 (by first | trivial | omega) (Eq.trans hR505 rfl) (by omega) (by omega)
-- WorkMeter$Calendar.tariffIn
noncomputable def f31_1 (g0 : Nat) (a1 a2 : Int) (m : zM) : Int :=
  zn (f32_1 g0 a1 (a2 + 1) m) fun v503 =>
  zn (if v503 = 0 then
  (0)
  else
  ((m g0 14 (((a1 * 6) + v503) - 1)))) fun v506 =>
  v506
-- WorkMeter$Calendar.tariffIn
theorem c31_1 {s : Nat × (Nat → Int32)} {S : zS} {m0 m : zM} {B : Int} {d : Nat} {Q : Option zV → zM → Prop} (g0 : Nat) (a1 a2 : Int) (hd : 14 ≤ d) (hJ : J S m0 B m) (hB : B + 0 ≤ 1000000000) (ha1 : 0 ≤ a1 ∧ a1 ≤ 7) (ha2 : 0 ≤ a2 ∧ a2 ≤ 86399) (hQ : ∀ (v : Int), (0 ≤ v ∧ v ≤ 3) → f31_1 g0 a1 a2 m = v → Q (some (zi v)) m) : X (EE s) d 31 0 [(0, zr g0 11), (1, zi a1), (2, zi a2)] [] m Q := by
  refine X.aload_n 1 (zi31 0) rfl rfl rfl ?_
  refine X.iload_n 2 (zi31 1) rfl rfl rfl ?_
  refine X.iload_n 3 (zi31 2) rfl rfl rfl ?_
  refine X.iconst 4 (zi31 3) rfl rfl (by decide) ?_
  refine X.iadd 5 (zi31 4) rfl rfl (by omega) ?_
  refine X.callv 8 [zi a1, zi (a2 + 1)] [] [(0, zr g0 11), (1, zi a1), (2, zi (a2 + 1))] (zi31 5) rfl (by decide) rfl rfl (by omega) rfl rfl (by decide) rfl t32 (Nat.le_of_ble_eq_true rfl) (Nat.le_of_ble_eq_true rfl) rfl ?_
  refine c32_1 (B := B) g0 a1 (a2 + 1) (by omega) (hJ.up (by omega)) (by omega) (by omega) (by omega) (fun v503 hv503 hFv503 hqv503_0 hqv503_1 => ?_)
  show X (EE s) d 31 8 [(0, zr g0 11), (1, zi a1), (2, zi a2)] [zi v503] m _
  refine X.istore_n 9 [(0, zr g0 11), (1, zi a1), (2, zi a2), (3, zi v503)] (zi31 8) rfl rfl rfl ?_
  refine X.iload_n 10 (zi31 9) rfl rfl rfl ?_
  have hK509 : ∀ (v : Int) , (0 ≤ v ∧ v ≤ 3) → (if v503 = 0 then
      (0)
      else
      ((m g0 14 (((a1 * 6) + v503) - 1)))) = v → X (EE s) d 31 30 [] [zi v] m Q := by
    intro v506 hv506 hT510
    refine X.reti (zi31 30) rfl t31 ?_
    exact hQ v506 (by first | trivial | omega) (Eq.trans (zn_eq hFv503.symm) (Eq.trans (zn_eq hT510.symm) rfl)) 
  refine X.ifne 17 13 (zi31 10) rfl rfl rfl (fun h504 => ?_) (fun h504 => ?_)
  · refine X.cut [(0, zr g0 11), (1, zi a1), (3, zi v503)] (zi31 17) rfl ?_
    refine X.aload_n 18 (zi31 17) rfl rfl rfl ?_
    refine X.getR 21 (zi31 18) rfl rfl (by decide) rfl rfl ?_
    refine X.iload_n 22 (zi31 21) rfl rfl rfl ?_
    refine X.bipush 24 (zi31 22) rfl rfl (by decide) ?_
    refine X.imul 25 (zi31 24) rfl rfl (by omega) ?_
    refine X.iload_n 26 (zi31 25) rfl rfl rfl ?_
    refine X.iadd 27 (zi31 26) rfl rfl (by omega) ?_
    refine X.iconst 28 (zi31 27) rfl rfl (by decide) ?_
    refine X.isub 29 (zi31 28) rfl rfl (by omega) ?_
    refine X.iald 30 (zi31 29) rfl rfl (by decide) rfl (by omega) ?_
    have h505 := r14_0 hJ g0 (i := (((a1 * 6) + v503) - 1)) (by omega)
    refine X.cut [] (zi31 30) rfl ?_
    exact hK509 (m g0 14 (((a1 * 6) + v503) - 1)) (by first | trivial | omega) (Eq.trans (if_neg h504) rfl)
  · refine X.iconst 14 (zi31 13) rfl rfl (by decide) ?_
    refine X.goto 30 (zi31 14) rfl rfl ?_
    refine X.cut [] (zi31 30) rfl ?_
    exact hK509 0 (by first | trivial | omega) (Eq.trans (if_pos h504) rfl)
-- WorkMeter$Calendar.tariffOn
noncomputable def f27_1 (g0 : Nat) (a1 : Int) (m : zM) : Int :=
  zn (f28_1 g0 (a1 / 86400) m) fun v503 =>
  zn (f31_1 g0 v503 (a1 % 86400) m) fun v506 =>
  v506
-- WorkMeter$Calendar.tariffOn
theorem c27_1 {s : Nat × (Nat → Int32)} {S : zS} {m0 m : zM} {B : Int} {d : Nat} {Q : Option zV → zM → Prop} (g0 : Nat) (a1 : Int) (hd : 15 ≤ d) (hJ : J S m0 B m) (hB : B + 0 ≤ 1000000000) (ha1 : 0 ≤ a1 ∧ a1 ≤ 2000185600) (hQ : ∀ (v : Int), (0 ≤ v ∧ v ≤ 3) → f27_1 g0 a1 m = v → Q (some (zi v)) m) : X (EE s) d 27 0 [(0, zr g0 11), (1, zi a1)] [] m Q := by
  refine X.aload_n 1 (zi27 0) rfl rfl rfl ?_
  refine X.aload_n 2 (zi27 1) rfl rfl rfl ?_
  refine X.iload_n 3 (zi27 2) rfl rfl rfl ?_
  refine X.ldc 5 (zi27 3) rfl rfl (by decide) ?_
  refine X.idiv 6 (zi27 5) rfl rfl (by omega) ?_
  refine X.callv 9 [zi (a1 / 86400)] [zr g0 11] [(0, zr g0 11), (1, zi (a1 / 86400))] (zi27 6) rfl (by decide) rfl rfl (by omega) rfl rfl (by decide) rfl t28 (Nat.le_of_ble_eq_true rfl) (Nat.le_of_ble_eq_true rfl) rfl ?_
  refine c28_1 (B := B) g0 (a1 / 86400) (by omega) (hJ.up (by omega)) (by omega) (by omega) (fun v503 hv503 hFv503 => ?_)
  show X (EE s) d 27 9 [(0, zr g0 11), (1, zi a1)] [zi v503, zr g0 11] m _
  refine X.iload_n 10 (zi27 9) rfl rfl rfl ?_
  refine X.ldc 12 (zi27 10) rfl rfl (by decide) ?_
  refine X.irem 13 (zi27 12) rfl rfl (by omega) ?_
  refine X.callv 16 [zi v503, zi (a1 % 86400)] [] [(0, zr g0 11), (1, zi v503), (2, zi (a1 % 86400))] (zi27 13) rfl (by decide) rfl rfl (by omega) rfl rfl (by decide) rfl t31 (Nat.le_of_ble_eq_true rfl) (Nat.le_of_ble_eq_true rfl) rfl ?_
  refine c31_1 (B := B) g0 v503 (a1 % 86400) (by omega) (hJ.up (by omega)) (by omega) (by omega) (by omega) (fun v506 hv506 hFv506 => ?_)
  show X (EE s) d 27 16 [(0, zr g0 11), (1, zi a1)] [zi v506] m _
  refine X.reti (zi27 16) rfl t27 ?_
  exact hQ v506 (by first | trivial | omega) (Eq.trans (zn_eq hFv503.symm) (Eq.trans (zn_eq hFv506.symm) rfl)) 
noncomputable def fl34_16_1_b (self : Int → Int → Int → Int → Int → Int → Int) (k177 : Int → Int → Int → Int → Int → Int) (g0 : Nat) (y1 : Int) (m : zM) (y2 y3 y4 y5 y6 y7 : Int) : Int :=
  if (m g0 19 3) ≤ y7 then
  (k177 y2 y3 y4 y5 y6)
  else
  (zn (((m g0 19 4) * y1)) fun z607 =>
  zn (if (m g0 22 (8 + y7)) < z607 then
  (1)
  else
  (0)) fun v610 =>
  zn (if y2 = 0 then
  (if v610 = 0 then
  (0)
  else
  (1))
  else
  (1)) fun v617 =>
  zn (if y3 = 0 then
  (if v610 = 0 then
  (1)
  else
  (0))
  else
  (1)) fun v624 =>
  zn (if y4 = 0 then
  (if (m g0 22 (0 + y7)) ≤ 0 then
  (0)
  else
  (1))
  else
  (1)) fun v632 =>
  zn (if y5 = 0 then
  (if (m g0 22 (0 + y7)) < 0 then
  (1)
  else
  (0))
  else
  (1)) fun v640 =>
  zn (if y6 = 0 then
  (if (m g0 22 (8 + y7)) = 0 then
  (if (m g0 22 (12 + y7)) ≤ 0 then
  (0)
  else
  (1))
  else
  (0))
  else
  (1)) fun v650 =>
  self v617 v624 v632 v640 v650 (y7 + 1))
noncomputable def fl34_16_1 (k177 : Int → Int → Int → Int → Int → Int) (g0 : Nat) (y1 : Int) (m : zM) : Nat → Int → Int → Int → Int → Int → Int → Int
  | 0 => fun y2 y3 y4 y5 y6 y7 => 0
  | n + 1 => fl34_16_1_b (fl34_16_1 k177 g0 y1 m n) k177 g0 y1 m
end
section
theorem l34_16_1 {s : Nat × (Nat → Int32)} {S : zS} {m0 : zM} {m : zM} {B : Int} {d : Nat} {Q : Option zV → zM → Prop} {R0 : Int} {k177 : Int → Int → Int → Int → Int → Int} (g0 : Nat) (y1 : Int) (hd : 13 ≤ d) (hJ : J S m0 B m) (hB9 : B ≤ 1000000000) (hy1 : 0 ≤ y1 ∧ y1 ≤ 1000000)
    (K177 : ∀ (x2 x3 x4 x5 x6 : Int) , (0 ≤ x2 ∧ x2 ≤ 1) → (0 ≤ x3 ∧ x3 ≤ 1) → (0 ≤ x4 ∧ x4 ≤ 1) → (0 ≤ x5 ∧ x5 ≤ 1) → (0 ≤ x6 ∧ x6 ≤ 1) → R0 = k177 x2 x3 x4 x5 x6 → X (EE s) d 34 177 [(2, zi x2), (3, zi x3), (4, zi x4), (5, zi x5), (6, zi x6)] [] m Q) :
    ∀ (n : Nat) (y2 y3 y4 y5 y6 y7 : Int) , (0 ≤ y2 ∧ y2 ≤ 1) → (0 ≤ y3 ∧ y3 ≤ 1) → (0 ≤ y4 ∧ y4 ≤ 1) → (0 ≤ y5 ∧ y5 ≤ 1) → (0 ≤ y6 ∧ y6 ≤ 1) → (0 ≤ y7 ∧ y7 ≤ 3) → 3 - y7 < (n : Int) → R0 = fl34_16_1 k177 g0 y1 m n y2 y3 y4 y5 y6 y7 → X (EE s) d 34 16 [(0, zr g0 19), (1, zi y1), (2, zi y2), (3, zi y3), (4, zi y4), (5, zi y5), (6, zi y6), (7, zi y7)] [] m Q := by
  intro n
  induction n with
  | zero =>
    intro y2 y3 y4 y5 y6 y7 hy2 hy3 hy4 hy5 hy6 hy7 hn hR
    exfalso
    omega
  | succ n ih =>
    intro y2 y3 y4 y5 y6 y7 hy2 hy3 hy4 hy5 hy6 hy7 hn hR
    replace hR : R0 = fl34_16_1_b (fl34_16_1 k177 g0 y1 m n) k177 g0 y1 m y2 y3 y4 y5 y6 y7 := hR
    refine X.iload 18 (zi34 16) rfl rfl rfl ?_
    refine X.aload_n 19 (zi34 18) rfl rfl rfl ?_
    refine X.getI 22 3 (zi34 19) rfl rfl (by decide) rfl rfl rfl ?_
    have h604 := r19_3 hJ g0
    refine X.icmpge 177 25 (zi34 22) rfl rfl rfl (fun h605 => ?_) (fun h605 => ?_)
    · refine X.cut [(2, zi y2), (3, zi y3), (4, zi y4), (5, zi y5), (6, zi y6)] (zi34 177) rfl ?_
      exact K177 y2 y3 y4 y5 y6 (by first | trivial | omega) (by first | trivial | omega) (by first | trivial | omega) (by first | trivial | omega) (by first | trivial | omega) (Eq.trans hR (Eq.trans (if_pos h605) rfl))
    · refine X.aload_n 26 (zi34 25) rfl rfl rfl ?_
      refine X.getR 29 (zi34 26) rfl rfl (by decide) rfl rfl ?_
      refine X.bipush 31 (zi34 29) rfl rfl (by decide) ?_
      refine X.iload 33 (zi34 31) rfl rfl rfl ?_
      refine X.iadd 34 (zi34 33) rfl rfl (by omega) ?_
      refine X.lald 35 (zi34 34) rfl rfl (by decide) rfl (by omega) ?_
      refine X.lstore 37 [(0, zr g0 19), (1, zi y1), (2, zi y2), (3, zi y3), (4, zi y4), (5, zi y5), (6, zi y6), (7, zi y7), (8, zl (m g0 22 (8 + y7)))] (zi34 35) rfl rfl rfl ?_
      refine X.aload_n 38 (zi34 37) rfl rfl rfl ?_
      refine X.getR 41 (zi34 38) rfl rfl (by decide) rfl rfl ?_
      refine X.iconst 42 (zi34 41) rfl rfl (by decide) ?_
      refine X.iload 44 (zi34 42) rfl rfl rfl ?_
      refine X.iadd 45 (zi34 44) rfl rfl (by omega) ?_
      refine X.lald 46 (zi34 45) rfl rfl (by decide) rfl (by omega) ?_
      refine X.lstore 48 [(0, zr g0 19), (1, zi y1), (2, zi y2), (3, zi y3), (4, zi y4), (5, zi y5), (6, zi y6), (7, zi y7), (8, zl (m g0 22 (8 + y7))), (10, zl (m g0 22 (0 + y7)))] (zi34 46) rfl rfl rfl ?_
      refine X.lload 50 (zi34 48) rfl rfl rfl ?_
      refine X.aload_n 51 (zi34 50) rfl rfl rfl ?_
      refine X.getI 54 4 (zi34 51) rfl rfl (by decide) rfl rfl rfl ?_
      have h606 := r19_4 hJ g0
      refine X.i2l 55 (zi34 54) rfl rfl ?_
      refine X.iload_n 56 (zi34 55) rfl rfl rfl ?_
      refine X.i2l 57 (zi34 56) rfl rfl ?_
      have hz607 := z_mulr (a := 4) (b := 16) (c := 0) (e := 1000000) (x := (m g0 19 4)) (y := y1) (by omega) (by omega)
      refine X.lmul 58 (zi34 57) rfl rfl (z_in3 hz607 (by decide) (by decide)) ?_
      obtain ⟨z607, ez607⟩ : ∃ z, z = ((m g0 19 4) * y1) := ⟨_, rfl⟩
      rw [← ez607] at hz607 ⊢
      have gz607 : 0 ≤ z607 ∧ z607 ≤ 16000000 := z_in3 hz607 (by decide) (by decide)
      clear hz607
      refine X.lcmp 59 (zi34 58) rfl rfl (fun z608 hz608 => ?_)
      have hK613 : ∀ (v : Int) , (0 ≤ v ∧ v ≤ 1) → (if (m g0 22 (8 + y7)) < z607 then
          (1)
          else
          (0)) = v → X (EE s) d 34 67 [(0, zr g0 19), (1, zi y1), (2, zi y2), (3, zi y3), (4, zi y4), (5, zi y5), (6, zi y6), (7, zi y7), (8, zl (m g0 22 (8 + y7))), (10, zl (m g0 22 (0 + y7)))] [zi v] m Q := by
        intro v610 hv610 hT614
        refine X.istore 69 [(0, zr g0 19), (1, zi y1), (2, zi y2), (3, zi y3), (4, zi y4), (5, zi y5), (6, zi y6), (7, zi y7), (8, zl (m g0 22 (8 + y7))), (10, zl (m g0 22 (0 + y7))), (12, zi v610)] (zi34 67) rfl rfl rfl ?_
        refine X.iload_n 70 (zi34 69) rfl rfl rfl ?_
        have hK620 : ∀ (v : Int) , (0 ≤ v ∧ v ≤ 1) → (if y2 = 0 then
            (if v610 = 0 then
            (0)
            else
            (1))
            else
            (1)) = v → X (EE s) d 34 83 [(0, zr g0 19), (1, zi y1), (3, zi y3), (4, zi y4), (5, zi y5), (6, zi y6), (7, zi y7), (8, zl (m g0 22 (8 + y7))), (10, zl (m g0 22 (0 + y7))), (12, zi v610)] [zi v] m Q := by
          intro v617 hv617 hT621
          refine X.istore_n 84 [(0, zr g0 19), (1, zi y1), (2, zi v617), (3, zi y3), (4, zi y4), (5, zi y5), (6, zi y6), (7, zi y7), (8, zl (m g0 22 (8 + y7))), (10, zl (m g0 22 (0 + y7))), (12, zi v610)] (zi34 83) rfl rfl rfl ?_
          refine X.iload_n 85 (zi34 84) rfl rfl rfl ?_
          have hK627 : ∀ (v : Int) , (0 ≤ v ∧ v ≤ 1) → (if y3 = 0 then
              (if v610 = 0 then
              (1)
              else
              (0))
              else
              (1)) = v → X (EE s) d 34 98 [(0, zr g0 19), (1, zi y1), (2, zi v617), (4, zi y4), (5, zi y5), (6, zi y6), (7, zi y7), (8, zl (m g0 22 (8 + y7))), (10, zl (m g0 22 (0 + y7)))] [zi v] m Q := by
            intro v624 hv624 hT628
            refine X.istore_n 99 [(0, zr g0 19), (1, zi y1), (2, zi v617), (3, zi v624), (4, zi y4), (5, zi y5), (6, zi y6), (7, zi y7), (8, zl (m g0 22 (8 + y7))), (10, zl (m g0 22 (0 + y7)))] (zi34 98) rfl rfl rfl ?_
            refine X.iload 101 (zi34 99) rfl rfl rfl ?_
            have hK635 : ∀ (v : Int) , (0 ≤ v ∧ v ≤ 1) → (if y4 = 0 then
                (if (m g0 22 (0 + y7)) ≤ 0 then
                (0)
                else
                (1))
                else
                (1)) = v → X (EE s) d 34 116 [(0, zr g0 19), (1, zi y1), (2, zi v617), (3, zi v624), (5, zi y5), (6, zi y6), (7, zi y7), (8, zl (m g0 22 (8 + y7))), (10, zl (m g0 22 (0 + y7)))] [zi v] m Q := by
              intro v632 hv632 hT636
              refine X.istore 118 [(0, zr g0 19), (1, zi y1), (2, zi v617), (3, zi v624), (4, zi v632), (5, zi y5), (6, zi y6), (7, zi y7), (8, zl (m g0 22 (8 + y7))), (10, zl (m g0 22 (0 + y7)))] (zi34 116) rfl rfl rfl ?_
              refine X.iload 120 (zi34 118) rfl rfl rfl ?_
              have hK643 : ∀ (v : Int) , (0 ≤ v ∧ v ≤ 1) → (if y5 = 0 then
                  (if (m g0 22 (0 + y7)) < 0 then
                  (1)
                  else
                  (0))
                  else
                  (1)) = v → X (EE s) d 34 135 [(0, zr g0 19), (1, zi y1), (2, zi v617), (3, zi v624), (4, zi v632), (6, zi y6), (7, zi y7), (8, zl (m g0 22 (8 + y7)))] [zi v] m Q := by
                intro v640 hv640 hT644
                refine X.istore 137 [(0, zr g0 19), (1, zi y1), (2, zi v617), (3, zi v624), (4, zi v632), (5, zi v640), (6, zi y6), (7, zi y7), (8, zl (m g0 22 (8 + y7)))] (zi34 135) rfl rfl rfl ?_
                refine X.iload 139 (zi34 137) rfl rfl rfl ?_
                have hK653 : ∀ (v : Int) , (0 ≤ v ∧ v ≤ 1) → (if y6 = 0 then
                    (if (m g0 22 (8 + y7)) = 0 then
                    (if (m g0 22 (12 + y7)) ≤ 0 then
                    (0)
                    else
                    (1))
                    else
                    (0))
                    else
                    (1)) = v → X (EE s) d 34 169 [(0, zr g0 19), (1, zi y1), (2, zi v617), (3, zi v624), (4, zi v632), (5, zi v640), (7, zi y7)] [zi v] m Q := by
                  intro v650 hv650 hT654
                  refine X.istore 171 [(0, zr g0 19), (1, zi y1), (2, zi v617), (3, zi v624), (4, zi v632), (5, zi v640), (6, zi v650), (7, zi y7)] (zi34 169) rfl rfl rfl ?_
                  refine X.iinc 174 [(0, zr g0 19), (1, zi y1), (2, zi v617), (3, zi v624), (4, zi v632), (5, zi v640), (6, zi v650), (7, zi (y7 + 1))] (zi34 171) rfl rfl rfl (by omega) rfl ?_
                  refine X.goto 16 (zi34 174) rfl rfl ?_
                  exact ih v617 v624 v632 v640 v650 (y7 + 1) (by omega) (by omega) (by omega) (by omega) (by omega) (by omega) (by omega) (Eq.trans hR (Eq.trans (if_neg h605) (Eq.trans (zn_eq ez607) (Eq.trans (zn_eq hT614.symm) (Eq.trans (zn_eq hT621.symm) (Eq.trans (zn_eq hT628.symm) (Eq.trans (zn_eq hT636.symm) (Eq.trans (zn_eq hT644.symm) (Eq.trans (zn_eq hT654.symm) rfl)))))))))
                refine X.ifne 164 142 (zi34 139) rfl rfl rfl (fun h645 => ?_) (fun h645 => ?_)
                · refine X.cut [(0, zr g0 19), (1, zi y1), (2, zi v617), (3, zi v624), (4, zi v632), (5, zi v640), (7, zi y7)] (zi34 164) rfl ?_
                  refine X.iconst 165 (zi34 164) rfl rfl (by decide) ?_
                  refine X.goto 169 (zi34 165) rfl rfl ?_
                  exact hK653 1 (by first | trivial | omega) (Eq.trans (if_neg h645) rfl)
                · refine X.lload 144 (zi34 142) rfl rfl rfl ?_
                  refine X.lconst (y := 0) 145 (zi34 144) rfl rfl rfl ?_
                  refine X.lcmp 146 (zi34 145) rfl rfl (fun z646 hz646 => ?_)
                  refine X.ifne 168 149 (zi34 146) rfl rfl rfl (fun h647 => ?_) (fun h647 => ?_)
                  · have h647c : ¬ (m g0 22 (8 + y7)) = 0 := by omega
                    clear h647 hz646
                    refine X.cut [(0, zr g0 19), (1, zi y1), (2, zi v617), (3, zi v624), (4, zi v632), (5, zi v640), (7, zi y7)] (zi34 168) rfl ?_
                    refine X.iconst 169 (zi34 168) rfl rfl (by decide) ?_
                    exact hK653 0 (by first | trivial | omega) (Eq.trans (if_pos h645) (Eq.trans (if_neg h647c) rfl))
                  · have h647c : (m g0 22 (8 + y7)) = 0 := by omega
                    clear h647 hz646
                    refine X.aload_n 150 (zi34 149) rfl rfl rfl ?_
                    refine X.getR 153 (zi34 150) rfl rfl (by decide) rfl rfl ?_
                    refine X.bipush 155 (zi34 153) rfl rfl (by decide) ?_
                    refine X.iload 157 (zi34 155) rfl rfl rfl ?_
                    refine X.iadd 158 (zi34 157) rfl rfl (by omega) ?_
                    refine X.lald 159 (zi34 158) rfl rfl (by decide) rfl (by omega) ?_
                    refine X.lconst (y := 0) 160 (zi34 159) rfl rfl rfl ?_
                    refine X.lcmp 161 (zi34 160) rfl rfl (fun z648 hz648 => ?_)
                    refine X.ifle 168 164 (zi34 161) rfl rfl rfl (fun h649 => ?_) (fun h649 => ?_)
                    · have h649c : (m g0 22 (12 + y7)) ≤ 0 := by omega
                      clear h649 hz648
                      refine X.cut [(0, zr g0 19), (1, zi y1), (2, zi v617), (3, zi v624), (4, zi v632), (5, zi v640), (7, zi y7)] (zi34 168) rfl ?_
                      refine X.iconst 169 (zi34 168) rfl rfl (by decide) ?_
                      exact hK653 0 (by first | trivial | omega) (Eq.trans (if_pos h645) (Eq.trans (if_pos h647c) (Eq.trans (if_pos h649c) rfl)))
                    · have h649c : ¬ (m g0 22 (12 + y7)) ≤ 0 := by omega
                      clear h649 hz648
                      refine X.cut [(0, zr g0 19), (1, zi y1), (2, zi v617), (3, zi v624), (4, zi v632), (5, zi v640), (7, zi y7)] (zi34 164) rfl ?_
                      refine X.iconst 165 (zi34 164) rfl rfl (by decide) ?_
                      refine X.goto 169 (zi34 165) rfl rfl ?_
                      exact hK653 1 (by first | trivial | omega) (Eq.trans (if_pos h645) (Eq.trans (if_pos h647c) (Eq.trans (if_neg h649c) rfl)))
              refine X.ifne 130 123 (zi34 120) rfl rfl rfl (fun h637 => ?_) (fun h637 => ?_)
              · refine X.cut [(0, zr g0 19), (1, zi y1), (2, zi v617), (3, zi v624), (4, zi v632), (6, zi y6), (7, zi y7), (8, zl (m g0 22 (8 + y7)))] (zi34 130) rfl ?_
                refine X.iconst 131 (zi34 130) rfl rfl (by decide) ?_
                refine X.goto 135 (zi34 131) rfl rfl ?_
                exact hK643 1 (by first | trivial | omega) (Eq.trans (if_neg h637) rfl)
              · refine X.lload 125 (zi34 123) rfl rfl rfl ?_
                refine X.lconst (y := 0) 126 (zi34 125) rfl rfl rfl ?_
                refine X.lcmp 127 (zi34 126) rfl rfl (fun z638 hz638 => ?_)
                refine X.ifge 134 130 (zi34 127) rfl rfl rfl (fun h639 => ?_) (fun h639 => ?_)
                · have h639c : ¬ (m g0 22 (0 + y7)) < 0 := by omega
                  clear h639 hz638
                  refine X.cut [(0, zr g0 19), (1, zi y1), (2, zi v617), (3, zi v624), (4, zi v632), (6, zi y6), (7, zi y7), (8, zl (m g0 22 (8 + y7)))] (zi34 134) rfl ?_
                  refine X.iconst 135 (zi34 134) rfl rfl (by decide) ?_
                  exact hK643 0 (by first | trivial | omega) (Eq.trans (if_pos h637) (Eq.trans (if_neg h639c) rfl))
                · have h639c : (m g0 22 (0 + y7)) < 0 := by omega
                  clear h639 hz638
                  refine X.cut [(0, zr g0 19), (1, zi y1), (2, zi v617), (3, zi v624), (4, zi v632), (6, zi y6), (7, zi y7), (8, zl (m g0 22 (8 + y7)))] (zi34 130) rfl ?_
                  refine X.iconst 131 (zi34 130) rfl rfl (by decide) ?_
                  refine X.goto 135 (zi34 131) rfl rfl ?_
                  exact hK643 1 (by first | trivial | omega) (Eq.trans (if_pos h637) (Eq.trans (if_pos h639c) rfl))
            refine X.ifne 111 104 (zi34 101) rfl rfl rfl (fun h629 => ?_) (fun h629 => ?_)
            · refine X.cut [(0, zr g0 19), (1, zi y1), (2, zi v617), (3, zi v624), (5, zi y5), (6, zi y6), (7, zi y7), (8, zl (m g0 22 (8 + y7))), (10, zl (m g0 22 (0 + y7)))] (zi34 111) rfl ?_
              refine X.iconst 112 (zi34 111) rfl rfl (by decide) ?_
              refine X.goto 116 (zi34 112) rfl rfl ?_
              exact hK635 1 (by first | trivial | omega) (Eq.trans (if_neg h629) rfl)
            · refine X.lload 106 (zi34 104) rfl rfl rfl ?_
              refine X.lconst (y := 0) 107 (zi34 106) rfl rfl rfl ?_
              refine X.lcmp 108 (zi34 107) rfl rfl (fun z630 hz630 => ?_)
              refine X.ifle 115 111 (zi34 108) rfl rfl rfl (fun h631 => ?_) (fun h631 => ?_)
              · have h631c : (m g0 22 (0 + y7)) ≤ 0 := by omega
                clear h631 hz630
                refine X.cut [(0, zr g0 19), (1, zi y1), (2, zi v617), (3, zi v624), (5, zi y5), (6, zi y6), (7, zi y7), (8, zl (m g0 22 (8 + y7))), (10, zl (m g0 22 (0 + y7)))] (zi34 115) rfl ?_
                refine X.iconst 116 (zi34 115) rfl rfl (by decide) ?_
                exact hK635 0 (by first | trivial | omega) (Eq.trans (if_pos h629) (Eq.trans (if_pos h631c) rfl))
              · have h631c : ¬ (m g0 22 (0 + y7)) ≤ 0 := by omega
                clear h631 hz630
                refine X.cut [(0, zr g0 19), (1, zi y1), (2, zi v617), (3, zi v624), (5, zi y5), (6, zi y6), (7, zi y7), (8, zl (m g0 22 (8 + y7))), (10, zl (m g0 22 (0 + y7)))] (zi34 111) rfl ?_
                refine X.iconst 112 (zi34 111) rfl rfl (by decide) ?_
                refine X.goto 116 (zi34 112) rfl rfl ?_
                exact hK635 1 (by first | trivial | omega) (Eq.trans (if_pos h629) (Eq.trans (if_neg h631c) rfl))
          refine X.ifne 93 88 (zi34 85) rfl rfl rfl (fun h622 => ?_) (fun h622 => ?_)
          · refine X.cut [(0, zr g0 19), (1, zi y1), (2, zi v617), (4, zi y4), (5, zi y5), (6, zi y6), (7, zi y7), (8, zl (m g0 22 (8 + y7))), (10, zl (m g0 22 (0 + y7)))] (zi34 93) rfl ?_
            refine X.iconst 94 (zi34 93) rfl rfl (by decide) ?_
            refine X.goto 98 (zi34 94) rfl rfl ?_
            exact hK627 1 (by first | trivial | omega) (Eq.trans (if_neg h622) rfl)
          · refine X.iload 90 (zi34 88) rfl rfl rfl ?_
            refine X.ifne 97 93 (zi34 90) rfl rfl rfl (fun h623 => ?_) (fun h623 => ?_)
            · refine X.cut [(0, zr g0 19), (1, zi y1), (2, zi v617), (4, zi y4), (5, zi y5), (6, zi y6), (7, zi y7), (8, zl (m g0 22 (8 + y7))), (10, zl (m g0 22 (0 + y7)))] (zi34 97) rfl ?_
              refine X.iconst 98 (zi34 97) rfl rfl (by decide) ?_
              exact hK627 0 (by first | trivial | omega) (Eq.trans (if_pos h622) (Eq.trans (if_neg h623) rfl))
            · refine X.cut [(0, zr g0 19), (1, zi y1), (2, zi v617), (4, zi y4), (5, zi y5), (6, zi y6), (7, zi y7), (8, zl (m g0 22 (8 + y7))), (10, zl (m g0 22 (0 + y7)))] (zi34 93) rfl ?_
              refine X.iconst 94 (zi34 93) rfl rfl (by decide) ?_
              refine X.goto 98 (zi34 94) rfl rfl ?_
              exact hK627 1 (by first | trivial | omega) (Eq.trans (if_pos h622) (Eq.trans (if_pos h623) rfl))
        refine X.ifne 78 73 (zi34 70) rfl rfl rfl (fun h615 => ?_) (fun h615 => ?_)
        · refine X.cut [(0, zr g0 19), (1, zi y1), (3, zi y3), (4, zi y4), (5, zi y5), (6, zi y6), (7, zi y7), (8, zl (m g0 22 (8 + y7))), (10, zl (m g0 22 (0 + y7))), (12, zi v610)] (zi34 78) rfl ?_
          refine X.iconst 79 (zi34 78) rfl rfl (by decide) ?_
          refine X.goto 83 (zi34 79) rfl rfl ?_
          exact hK620 1 (by first | trivial | omega) (Eq.trans (if_neg h615) rfl)
        · refine X.iload 75 (zi34 73) rfl rfl rfl ?_
          refine X.ifeq 82 78 (zi34 75) rfl rfl rfl (fun h616 => ?_) (fun h616 => ?_)
          · refine X.cut [(0, zr g0 19), (1, zi y1), (3, zi y3), (4, zi y4), (5, zi y5), (6, zi y6), (7, zi y7), (8, zl (m g0 22 (8 + y7))), (10, zl (m g0 22 (0 + y7))), (12, zi v610)] (zi34 82) rfl ?_
            refine X.iconst 83 (zi34 82) rfl rfl (by decide) ?_
            exact hK620 0 (by first | trivial | omega) (Eq.trans (if_pos h615) (Eq.trans (if_pos h616) rfl))
          · refine X.cut [(0, zr g0 19), (1, zi y1), (3, zi y3), (4, zi y4), (5, zi y5), (6, zi y6), (7, zi y7), (8, zl (m g0 22 (8 + y7))), (10, zl (m g0 22 (0 + y7))), (12, zi v610)] (zi34 78) rfl ?_
            refine X.iconst 79 (zi34 78) rfl rfl (by decide) ?_
            refine X.goto 83 (zi34 79) rfl rfl ?_
            exact hK620 1 (by first | trivial | omega) (Eq.trans (if_pos h615) (Eq.trans (if_neg h616) rfl))
      refine X.ifge 66 62 (zi34 59) rfl rfl rfl (fun h609 => ?_) (fun h609 => ?_)
      · have h609c : ¬ (m g0 22 (8 + y7)) < z607 := by omega
        clear h609 hz608
        refine X.iconst 67 (zi34 66) rfl rfl (by decide) ?_
        exact hK613 0 (by first | trivial | omega) (Eq.trans (if_neg h609c) rfl)
      · have h609c : (m g0 22 (8 + y7)) < z607 := by omega
        clear h609 hz608
        refine X.iconst 63 (zi34 62) rfl rfl (by decide) ?_
        refine X.goto 67 (zi34 63) rfl rfl ?_
        exact hK613 1 (by first | trivial | omega) (Eq.trans (if_pos h609c) rfl)
-- WorkMeter$Wave.marksSeen
noncomputable def f34_1 (g0 : Nat) (a1 : Int) (m : zM) : Int :=
  fl34_16_1 (fun y501 y502 y503 y504 y505 =>
  zn (if y501 = 0 then
  (0)
  else
  (if y502 = 0 then
  (0)
  else
  (4))) fun v512 =>
  zn (if y503 = 0 then
  (0)
  else
  (if y504 = 0 then
  (0)
  else
  (8))) fun v519 =>
  zn (zor v512 v519) fun z524 =>
  zn (if y505 = 0 then
  (0)
  else
  (16)) fun v526 =>
  zn (zor z524 v526) fun z531 =>
  z531) g0 a1 m (zfu 4) 0 0 0 0 0 0
-- WorkMeter$Wave.marksSeen
theorem c34_1 {s : Nat × (Nat → Int32)} {S : zS} {m0 m : zM} {B : Int} {d : Nat} {Q : Option zV → zM → Prop} (g0 : Nat) (a1 : Int) (hd : 13 ≤ d) (hJ : J S m0 B m) (hB : B + 0 ≤ 1000000000) (ha1 : 0 ≤ a1 ∧ a1 ≤ 1000000) (hQ : ∀ (v : Int), ((-2147483648) ≤ v ∧ v ≤ 2147483647) → f34_1 g0 a1 m = v → Q (some (zi v)) m) : X (EE s) d 34 0 [(0, zr g0 19), (1, zi a1)] [] m Q := by
  refine X.iconst 1 (zi34 0) rfl rfl (by decide) ?_
  refine X.istore_n 2 [(0, zr g0 19), (1, zi a1), (2, zi 0)] (zi34 1) rfl rfl rfl ?_
  refine X.iconst 3 (zi34 2) rfl rfl (by decide) ?_
  refine X.istore_n 4 [(0, zr g0 19), (1, zi a1), (2, zi 0), (3, zi 0)] (zi34 3) rfl rfl rfl ?_
  refine X.iconst 5 (zi34 4) rfl rfl (by decide) ?_
  refine X.istore 7 [(0, zr g0 19), (1, zi a1), (2, zi 0), (3, zi 0), (4, zi 0)] (zi34 5) rfl rfl rfl ?_
  refine X.iconst 8 (zi34 7) rfl rfl (by decide) ?_
  refine X.istore 10 [(0, zr g0 19), (1, zi a1), (2, zi 0), (3, zi 0), (4, zi 0), (5, zi 0)] (zi34 8) rfl rfl rfl ?_
  refine X.iconst 11 (zi34 10) rfl rfl (by decide) ?_
  refine X.istore 13 [(0, zr g0 19), (1, zi a1), (2, zi 0), (3, zi 0), (4, zi 0), (5, zi 0), (6, zi 0)] (zi34 11) rfl rfl rfl ?_
  refine X.iconst 14 (zi34 13) rfl rfl (by decide) ?_
  refine X.istore 16 [(0, zr g0 19), (1, zi a1), (2, zi 0), (3, zi 0), (4, zi 0), (5, zi 0), (6, zi 0), (7, zi 0)] (zi34 14) rfl rfl rfl ?_
  have hz4 := zfu_eq 4
  refine l34_16_1 (s := s) (m := m) (B := B) (d := d) (R0 := (f34_1 g0 a1 m)) g0 a1  (by omega) (hJ.up (by omega)) (by omega) (by omega) (fun y501 y502 y503 y504 y505 hby501 hby502 hby503 hby504 hby505 hR509 => ?_) (zfu 4) 0 0 0 0 0 0 (by omega) (by omega) (by omega) (by omega) (by omega) (by omega) (by omega) rfl
  refine X.iload_n 178 (zi34 177) rfl rfl rfl ?_
  have hK515 : ∀ (v : Int) , (0 ≤ v ∧ v ≤ 4) → (if y501 = 0 then
      (0)
      else
      (if y502 = 0 then
      (0)
      else
      (4))) = v → X (EE s) d 34 190 [(4, zi y503), (5, zi y504), (6, zi y505)] [zi v] m Q := by
    intro v512 hv512 hT516
    refine X.iload 192 (zi34 190) rfl rfl rfl ?_
    have hK522 : ∀ (v : Int) , (0 ≤ v ∧ v ≤ 8) → (if y503 = 0 then
        (0)
        else
        (if y504 = 0 then
        (0)
        else
        (8))) = v → X (EE s) d 34 206 [(6, zi y505)] [zi v, zi v512] m Q := by
      intro v519 hv519 hT523
      refine X.iiE 207 .ior (fun x y => x ||| y) (zi34 206) rfl rfl rfl (fun _ _ => rfl) (fun z524 ez524 hz524 => ?_)
      refine X.iload 209 (zi34 207) rfl rfl rfl ?_
      have hK529 : ∀ (v : Int) , (0 ≤ v ∧ v ≤ 16) → (if y505 = 0 then
          (0)
          else
          (16)) = v → X (EE s) d 34 218 [] [zi v, zi z524] m Q := by
        intro v526 hv526 hT530
        refine X.iiE 219 .ior (fun x y => x ||| y) (zi34 218) rfl rfl rfl (fun _ _ => rfl) (fun z531 ez531 hz531 => ?_)
        refine X.reti (zi34 219) rfl t34 ?_
        exact hQ z531 (by first | trivial | omega) (Eq.trans hR509 (Eq.trans (zn_eq hT516.symm) (Eq.trans (zn_eq hT523.symm) (Eq.trans (zn_eq ez524) (Eq.trans (zn_eq hT530.symm) (Eq.trans (zn_eq ez531) rfl)))))) 
      refine X.ifeq 217 212 (zi34 209) rfl rfl rfl (fun h525 => ?_) (fun h525 => ?_)
      · refine X.cut [] (zi34 217) rfl ?_
        refine X.iconst 218 (zi34 217) rfl rfl (by decide) ?_
        exact hK529 0 (by first | trivial | omega) (Eq.trans (if_pos h525) rfl)
      · refine X.bipush 214 (zi34 212) rfl rfl (by decide) ?_
        refine X.goto 218 (zi34 214) rfl rfl ?_
        refine X.cut [] (zi34 218) rfl ?_
        exact hK529 16 (by first | trivial | omega) (Eq.trans (if_neg h525) rfl)
    refine X.ifeq 205 195 (zi34 192) rfl rfl rfl (fun h517 => ?_) (fun h517 => ?_)
    · refine X.cut [(6, zi y505)] (zi34 205) rfl ?_
      refine X.iconst 206 (zi34 205) rfl rfl (by decide) ?_
      exact hK522 0 (by first | trivial | omega) (Eq.trans (if_pos h517) rfl)
    · refine X.iload 197 (zi34 195) rfl rfl rfl ?_
      refine X.ifeq 205 200 (zi34 197) rfl rfl rfl (fun h518 => ?_) (fun h518 => ?_)
      · refine X.cut [(6, zi y505)] (zi34 205) rfl ?_
        refine X.iconst 206 (zi34 205) rfl rfl (by decide) ?_
        exact hK522 0 (by first | trivial | omega) (Eq.trans (if_neg h517) (Eq.trans (if_pos h518) rfl))
      · refine X.bipush 202 (zi34 200) rfl rfl (by decide) ?_
        refine X.goto 206 (zi34 202) rfl rfl ?_
        refine X.cut [(6, zi y505)] (zi34 206) rfl ?_
        exact hK522 8 (by first | trivial | omega) (Eq.trans (if_neg h517) (Eq.trans (if_neg h518) rfl))
  refine X.ifeq 189 181 (zi34 178) rfl rfl rfl (fun h510 => ?_) (fun h510 => ?_)
  · refine X.cut [(4, zi y503), (5, zi y504), (6, zi y505)] (zi34 189) rfl ?_
    refine X.iconst 190 (zi34 189) rfl rfl (by decide) ?_
    exact hK515 0 (by first | trivial | omega) (Eq.trans (if_pos h510) rfl)
  · refine X.iload_n 182 (zi34 181) rfl rfl rfl ?_
    refine X.ifeq 189 185 (zi34 182) rfl rfl rfl (fun h511 => ?_) (fun h511 => ?_)
    · refine X.cut [(4, zi y503), (5, zi y504), (6, zi y505)] (zi34 189) rfl ?_
      refine X.iconst 190 (zi34 189) rfl rfl (by decide) ?_
      exact hK515 0 (by first | trivial | omega) (Eq.trans (if_neg h510) (Eq.trans (if_pos h511) rfl))
    · refine X.iconst 186 (zi34 185) rfl rfl (by decide) ?_
      refine X.goto 190 (zi34 186) rfl rfl ?_
      refine X.cut [(4, zi y503), (5, zi y504), (6, zi y505)] (zi34 190) rfl ?_
      exact hK515 4 (by first | trivial | omega) (Eq.trans (if_neg h510) (Eq.trans (if_neg h511) rfl))
-- WorkMeter$Calendar.heldUntil
noncomputable def f37_1 (g0 : Nat) (a1 : Int) (m : zM) : Int :=
  zn (f28_1 g0 (a1 / 86400) m) fun v503 =>
  zn (f32_1 g0 v503 ((a1 % 86400) + 1) m) fun v506 =>
  zn (if (m g0 12 v503) ≤ v506 then
  (86400)
  else
  ((m g0 13 ((v503 * 6) + v506)))) fun v510 =>
  (((a1 / 86400) * 86400) + v510)
-- WorkMeter$Calendar.heldUntil
theorem c37_1 {s : Nat × (Nat → Int32)} {S : zS} {m0 m : zM} {B : Int} {d : Nat} {Q : Option zV → zM → Prop} (g0 : Nat) (a1 : Int) (hd : 15 ≤ d) (hJ : J S m0 B m) (hB : B + 0 ≤ 1000000000) (ha1 : 0 ≤ a1 ∧ a1 ≤ 2000185600) (hQ : ∀ (v : Int), (0 ≤ v ∧ v ≤ 2000246400) → f37_1 g0 a1 m = v → (a1 < v) → Q (some (zi v)) m) : X (EE s) d 37 0 [(0, zr g0 11), (1, zi a1)] [] m Q := by
  refine X.iload_n 1 (zi37 0) rfl rfl rfl ?_
  refine X.ldc 3 (zi37 1) rfl rfl (by decide) ?_
  refine X.idiv 4 (zi37 3) rfl rfl (by omega) ?_
  refine X.istore_n 5 [(0, zr g0 11), (1, zi a1), (2, zi (a1 / 86400))] (zi37 4) rfl rfl rfl ?_
  refine X.aload_n 6 (zi37 5) rfl rfl rfl ?_
  refine X.iload_n 7 (zi37 6) rfl rfl rfl ?_
  refine X.callv 10 [zi (a1 / 86400)] [] [(0, zr g0 11), (1, zi (a1 / 86400))] (zi37 7) rfl (by decide) rfl rfl (by omega) rfl rfl (by decide) rfl t28 (Nat.le_of_ble_eq_true rfl) (Nat.le_of_ble_eq_true rfl) rfl ?_
  refine c28_1 (B := B) g0 (a1 / 86400) (by omega) (hJ.up (by omega)) (by omega) (by omega) (fun v503 hv503 hFv503 => ?_)
  show X (EE s) d 37 10 [(0, zr g0 11), (1, zi a1), (2, zi (a1 / 86400))] [zi v503] m _
  refine X.istore_n 11 [(0, zr g0 11), (1, zi a1), (2, zi (a1 / 86400)), (3, zi v503)] (zi37 10) rfl rfl rfl ?_
  refine X.aload_n 12 (zi37 11) rfl rfl rfl ?_
  refine X.iload_n 13 (zi37 12) rfl rfl rfl ?_
  refine X.iload_n 14 (zi37 13) rfl rfl rfl ?_
  refine X.ldc 16 (zi37 14) rfl rfl (by decide) ?_
  refine X.irem 17 (zi37 16) rfl rfl (by omega) ?_
  refine X.iconst 18 (zi37 17) rfl rfl (by decide) ?_
  refine X.iadd 19 (zi37 18) rfl rfl (by omega) ?_
  refine X.callv 22 [zi v503, zi ((a1 % 86400) + 1)] [] [(0, zr g0 11), (1, zi v503), (2, zi ((a1 % 86400) + 1))] (zi37 19) rfl (by decide) rfl rfl (by omega) rfl rfl (by decide) rfl t32 (Nat.le_of_ble_eq_true rfl) (Nat.le_of_ble_eq_true rfl) rfl ?_
  refine c32_1 (B := B) g0 v503 ((a1 % 86400) + 1) (by omega) (hJ.up (by omega)) (by omega) (by omega) (by omega) (fun v506 hv506 hFv506 hqv506_0 hqv506_1 => ?_)
  show X (EE s) d 37 22 [(0, zr g0 11), (1, zi a1), (2, zi (a1 / 86400)), (3, zi v503)] [zi v506] m _
  refine X.istore 24 [(0, zr g0 11), (1, zi a1), (2, zi (a1 / 86400)), (3, zi v503), (4, zi v506)] (zi37 22) rfl rfl rfl ?_
  refine X.iload 26 (zi37 24) rfl rfl rfl ?_
  refine X.aload_n 27 (zi37 26) rfl rfl rfl ?_
  refine X.getR 30 (zi37 27) rfl rfl (by decide) rfl rfl ?_
  refine X.iload_n 31 (zi37 30) rfl rfl rfl ?_
  refine X.iald 32 (zi37 31) rfl rfl (by decide) rfl (by omega) ?_
  have h507 := r12_0 hJ g0 (i := v503) (by omega)
  have hK513 : ∀ (v : Int) , (0 ≤ v ∧ v ≤ 86400) → (if (m g0 12 v503) ≤ v506 then
      (86400)
      else
      ((m g0 13 ((v503 * 6) + v506)))) = v → X (EE s) d 37 52 [(2, zi (a1 / 86400))] [zi v] m Q := by
    intro v510 hv510 hT514
    refine X.istore 54 [(2, zi (a1 / 86400)), (5, zi v510)] (zi37 52) rfl rfl rfl ?_
    refine X.iload_n 55 (zi37 54) rfl rfl rfl ?_
    refine X.ldc 57 (zi37 55) rfl rfl (by decide) ?_
    refine X.imul 58 (zi37 57) rfl rfl (by omega) ?_
    refine X.iload 60 (zi37 58) rfl rfl rfl ?_
    refine X.iadd 61 (zi37 60) rfl rfl (by omega) ?_
    refine X.reti (zi37 61) rfl t37 ?_
    exact hQ (((a1 / 86400) * 86400) + v510) (by first | trivial | omega) (Eq.trans (zn_eq hFv503.symm) (Eq.trans (zn_eq hFv506.symm) (Eq.trans (zn_eq hT514.symm) rfl))) (by omega)
  refine X.icmpge 50 35 (zi37 32) rfl rfl rfl (fun h508 => ?_) (fun h508 => ?_)
  · refine X.cut [(2, zi (a1 / 86400))] (zi37 50) rfl ?_
    refine X.ldc 52 (zi37 50) rfl rfl (by decide) ?_
    exact hK513 86400 (by first | trivial | omega) (Eq.trans (if_pos h508) rfl)
  · refine X.aload_n 36 (zi37 35) rfl rfl rfl ?_
    refine X.getR 39 (zi37 36) rfl rfl (by decide) rfl rfl ?_
    refine X.iload_n 40 (zi37 39) rfl rfl rfl ?_
    refine X.bipush 42 (zi37 40) rfl rfl (by decide) ?_
    refine X.imul 43 (zi37 42) rfl rfl (by omega) ?_
    refine X.iload 45 (zi37 43) rfl rfl rfl ?_
    refine X.iadd 46 (zi37 45) rfl rfl (by omega) ?_
    refine X.iald 47 (zi37 46) rfl rfl (by decide) rfl (by omega) ?_
    have h509 := r13_0 hJ g0 (i := ((v503 * 6) + v506)) (by omega)
    refine X.goto 52 (zi37 47) rfl rfl ?_
    refine X.cut [(2, zi (a1 / 86400))] (zi37 52) rfl ?_
    exact hK513 (m g0 13 ((v503 * 6) + v506)) (by first | trivial | omega) (Eq.trans (if_neg h508) rfl)
-- WorkMeter$Marks.isOn
noncomputable def f40_1 (g0 : Nat) (a1 : Int) (m : zM) : Int :=
  zn (zshr (m g0 33 3) a1) fun z502 =>
  zn (zand z502 1) fun z503 =>
  zn (if z503 = 1 then
  (1)
  else
  (0)) fun v505 =>
  v505
-- WorkMeter$Marks.isOn
theorem c40_1 {s : Nat × (Nat → Int32)} {S : zS} {m0 m : zM} {B : Int} {d : Nat} {Q : Option zV → zM → Prop} (g0 : Nat) (a1 : Int) (hd : 13 ≤ d) (hJ : J S m0 B m) (hB : B + 0 ≤ 1000000000) (ha1 : 2 ≤ a1 ∧ a1 ≤ 4) (hQ : ∀ (v : Int), (0 ≤ v ∧ v ≤ 1) → f40_1 g0 a1 m = v → Q (some (zi v)) m) : X (EE s) d 40 0 [(0, zr g0 33), (1, zi a1)] [] m Q := by
  refine X.aload_n 1 (zi40 0) rfl rfl rfl ?_
  refine X.getIr 4 3 (zi40 1) rfl rfl (by decide) rfl rfl rfl (fun h501 => ?_)
  refine X.iload_n 5 (zi40 4) rfl rfl rfl ?_
  refine X.iiE 6 .ishr (fun x y => x >>> (y &&& 31)) (zi40 5) rfl rfl rfl (fun _ _ => rfl) (fun z502 ez502 hz502 => ?_)
  refine X.iconst 7 (zi40 6) rfl rfl (by decide) ?_
  refine X.andE 8 1 (zi40 7) rfl rfl (by decide) (.inl rfl) (fun z503 ez503 hz503 => ?_)
  refine X.iconst 9 (zi40 8) rfl rfl (by decide) ?_
  have hK508 : ∀ (v : Int) , (0 ≤ v ∧ v ≤ 1) → (if z503 = 1 then
      (1)
      else
      (0)) = v → X (EE s) d 40 17 [] [zi v] m Q := by
    intro v505 hv505 hT509
    refine X.retz (zi40 17) rfl t40 (by omega) ?_
    exact hQ v505 (by first | trivial | omega) (Eq.trans (zn_eq ez502) (Eq.trans (zn_eq ez503) (Eq.trans (zn_eq hT509.symm) rfl))) 
  refine X.icmpne 16 12 (zi40 9) rfl rfl rfl (fun h504 => ?_) (fun h504 => ?_)
  · refine X.cut [] (zi40 16) rfl ?_
    refine X.iconst 17 (zi40 16) rfl rfl (by decide) ?_
    exact hK508 0 (by first | trivial | omega) (Eq.trans (if_neg h504) rfl)
  · refine X.iconst 13 (zi40 12) rfl rfl (by decide) ?_
    refine X.goto 17 (zi40 13) rfl rfl ?_
    refine X.cut [] (zi40 17) rfl ?_
    exact hK508 1 (by first | trivial | omega) (Eq.trans (if_pos h504) rfl)
noncomputable def fl39_6_1_b (self : Int → Int → Int) (k43 : Int → Int → Int → Int) (k87 : Int → Int) (g0 : Nat) (y1 y2 y3 : Int) (m : zM) (y4 y5 : Int) : Int :=
  if 5 ≤ y5 then
  (k87 y4)
  else
  (zn (zshr y1 y5) fun z532 =>
  zn (zand z532 1) fun z533 =>
  if z533 = 1 then
  (zn (f40_1 g0 y5 m) fun v547 =>
  if v547 = 0 then
  (zn (f40_1 g0 y5 m) fun v551 =>
  zn (w32 ((y2 + 1) - (m g0 36 y5))) fun z555 =>
  self (min y4 (max 1 z555)) (y5 + 1))
  else
  (zn (f40_1 g0 y5 m) fun v559 =>
  self y4 (y5 + 1)))
  else
  (zn (f40_1 g0 y5 m) fun v537 =>
  if v537 = 0 then
  (zn (f40_1 g0 y5 m) fun v541 =>
  self y4 (y5 + 1))
  else
  (k43 y4 y5 0)))
noncomputable def fl39_6_1 (k43 : Int → Int → Int → Int) (k87 : Int → Int) (g0 : Nat) (y1 y2 y3 : Int) (m : zM) : Nat → Int → Int → Int
  | 0 => fun y4 y5 => 0
  | n + 1 => fl39_6_1_b (fl39_6_1 k43 k87 g0 y1 y2 y3 m n) k43 k87 g0 y1 y2 y3 m
theorem l39_6_1 {s : Nat × (Nat → Int32)} {S : zS} {m0 : zM} {m : zM} {B : Int} {d : Nat} {Q : Option zV → zM → Prop} {R0 : Int} {k43 : Int → Int → Int → Int} {k87 : Int → Int} (g0 : Nat) (y1 y2 y3 : Int) (hd : 14 ≤ d) (hJ : J S m0 B m) (hB9 : B ≤ 1000000000) (hy1 : (-2147483648) ≤ y1 ∧ y1 ≤ 2147483647) (hy2 : 0 ≤ y2 ∧ y2 ≤ 1000000) (hy3 : (-1999999999) ≤ y3 ∧ y3 ≤ 3600)
    (K43 : ∀ (x4 x5 x6 : Int) , ((-1999999999) ≤ x4 ∧ x4 ≤ 3600) → (2 ≤ x5 ∧ x5 ≤ 4) → (0 ≤ x6 ∧ x6 ≤ 0) → (1 ≤ x4) → (x4 ≤ y3) → R0 = k43 x4 x5 x6 → X (EE s) d 39 43 [(0, zr g0 33), (1, zi y1), (2, zi y2), (4, zi x4), (5, zi x5), (6, zi x6)] [] m Q)
    (K87 : ∀ (x4 : Int) , ((-1999999999) ≤ x4 ∧ x4 ≤ 3600) → (1 ≤ x4) → (x4 ≤ y3) → R0 = k87 x4 → X (EE s) d 39 87 [(4, zi x4)] [] m Q) :
    ∀ (n : Nat) (y4 y5 : Int) , ((-1999999999) ≤ y4 ∧ y4 ≤ 3600) → (2 ≤ y5 ∧ y5 ≤ 5) → (1 ≤ y4) → (y4 ≤ y3) → 5 - y5 < (n : Int) → R0 = fl39_6_1 k43 k87 g0 y1 y2 y3 m n y4 y5 → X (EE s) d 39 6 [(0, zr g0 33), (1, zi y1), (2, zi y2), (4, zi y4), (5, zi y5)] [] m Q := by
  intro n
  induction n with
  | zero =>
    intro y4 y5 hy4 hy5 hr0 hr1 hn hR
    exfalso
    omega
  | succ n ih =>
    intro y4 y5 hy4 hy5 hr0 hr1 hn hR
    replace hR : R0 = fl39_6_1_b (fl39_6_1 k43 k87 g0 y1 y2 y3 m n) k43 k87 g0 y1 y2 y3 m y4 y5 := hR
    refine X.iload 8 (zi39 6) rfl rfl rfl ?_
    refine X.iconst 9 (zi39 8) rfl rfl (by decide) ?_
    refine X.icmpge 87 12 (zi39 9) rfl rfl rfl (fun h531 => ?_) (fun h531 => ?_)
    · refine X.cut [(4, zi y4)] (zi39 87) rfl ?_
      exact K87 y4 (by first | trivial | omega) (by omega) (by omega) (Eq.trans hR (Eq.trans (if_pos h531) rfl))
    · refine X.iload_n 13 (zi39 12) rfl rfl rfl ?_
      refine X.iload 15 (zi39 13) rfl rfl rfl ?_
      refine X.iiE 16 .ishr (fun x y => x >>> (y &&& 31)) (zi39 15) rfl rfl rfl (fun _ _ => rfl) (fun z532 ez532 hz532 => ?_)
      refine X.iconst 17 (zi39 16) rfl rfl (by decide) ?_
      refine X.andE 18 1 (zi39 17) rfl rfl (by decide) (.inl rfl) (fun z533 ez533 hz533 => ?_)
      refine X.iconst 19 (zi39 18) rfl rfl (by decide) ?_
      refine X.icmpne 26 22 (zi39 19) rfl rfl rfl (fun h534 => ?_) (fun h534 => ?_)
      · refine X.iconst 27 (zi39 26) rfl rfl (by decide) ?_
        refine X.istore 29 [(0, zr g0 33), (1, zi y1), (2, zi y2), (4, zi y4), (5, zi y5), (6, zi 0)] (zi39 27) rfl rfl rfl ?_
        refine X.aload_n 30 (zi39 29) rfl rfl rfl ?_
        refine X.iload 32 (zi39 30) rfl rfl rfl ?_
        refine X.callv 35 [zi y5] [] [(0, zr g0 33), (1, zi y5)] (zi39 32) rfl (by decide) rfl rfl (by omega) rfl rfl (by decide) rfl t40 (Nat.le_of_ble_eq_true rfl) (Nat.le_of_ble_eq_true rfl) rfl ?_
        refine c40_1 (B := B) g0 y5 (by omega) (hJ.up (by omega)) (by omega) (by omega) (fun v537 hv537 hFv537 => ?_)
        show X (EE s) d 39 35 [(0, zr g0 33), (1, zi y1), (2, zi y2), (4, zi y4), (5, zi y5), (6, zi 0)] [zi v537] m _
        refine X.ifeq 45 38 (zi39 35) rfl rfl rfl (fun h538 => ?_) (fun h538 => ?_)
        · refine X.aload_n 46 (zi39 45) rfl rfl rfl ?_
          refine X.iload 48 (zi39 46) rfl rfl rfl ?_
          refine X.callv 51 [zi y5] [] [(0, zr g0 33), (1, zi y5)] (zi39 48) rfl (by decide) rfl rfl (by omega) rfl rfl (by decide) rfl t40 (Nat.le_of_ble_eq_true rfl) (Nat.le_of_ble_eq_true rfl) rfl ?_
          refine c40_1 (B := B) g0 y5 (by omega) (hJ.up (by omega)) (by omega) (by omega) (fun v541 hv541 hFv541 => ?_)
          show X (EE s) d 39 51 [(0, zr g0 33), (1, zi y1), (2, zi y2), (4, zi y4), (5, zi y5), (6, zi 0)] [zi v541] m _
          refine X.ifne 81 54 (zi39 51) rfl rfl rfl (fun h542 => (by exfalso; omega)) (fun h542 => ?_)
          refine X.iload 56 (zi39 54) rfl rfl rfl ?_
          refine X.ifeq 81 59 (zi39 56) rfl rfl rfl (fun h543 => ?_) (fun h543 => (by exfalso; omega))
          refine X.cut [(0, zr g0 33), (1, zi y1), (2, zi y2), (4, zi y4), (5, zi y5)] (zi39 81) rfl ?_
          refine X.iinc 84 [(0, zr g0 33), (1, zi y1), (2, zi y2), (4, zi y4), (5, zi (y5 + 1))] (zi39 81) rfl rfl rfl (by omega) rfl ?_
          refine X.goto 6 (zi39 84) rfl rfl ?_
          exact ih y4 (y5 + 1) (by omega) (by omega) (by omega) (by omega) (by omega) (Eq.trans hR (Eq.trans (if_neg h531) (Eq.trans (zn_eq ez532) (Eq.trans (zn_eq ez533) (Eq.trans (if_neg h534) (Eq.trans (zn_eq hFv537.symm) (Eq.trans (if_pos h538) (Eq.trans (zn_eq hFv541.symm) rfl))))))))
        · refine X.iload 40 (zi39 38) rfl rfl rfl ?_
          refine X.ifne 45 43 (zi39 40) rfl rfl rfl (fun h544 => (by exfalso; omega)) (fun h544 => ?_)
          exact K43 y4 y5 0 (by first | trivial | omega) (by first | trivial | omega) (by first | trivial | omega) (by omega) (by omega) (Eq.trans hR (Eq.trans (if_neg h531) (Eq.trans (zn_eq ez532) (Eq.trans (zn_eq ez533) (Eq.trans (if_neg h534) (Eq.trans (zn_eq hFv537.symm) (Eq.trans (if_neg h538) rfl)))))))
      · refine X.iconst 23 (zi39 22) rfl rfl (by decide) ?_
        refine X.goto 27 (zi39 23) rfl rfl ?_
        refine X.istore 29 [(0, zr g0 33), (1, zi y1), (2, zi y2), (4, zi y4), (5, zi y5), (6, zi 1)] (zi39 27) rfl rfl rfl ?_
        refine X.aload_n 30 (zi39 29) rfl rfl rfl ?_
        refine X.iload 32 (zi39 30) rfl rfl rfl ?_
        refine X.callv 35 [zi y5] [] [(0, zr g0 33), (1, zi y5)] (zi39 32) rfl (by decide) rfl rfl (by omega) rfl rfl (by decide) rfl t40 (Nat.le_of_ble_eq_true rfl) (Nat.le_of_ble_eq_true rfl) rfl ?_
        refine c40_1 (B := B) g0 y5 (by omega) (hJ.up (by omega)) (by omega) (by omega) (fun v547 hv547 hFv547 => ?_)
        show X (EE s) d 39 35 [(0, zr g0 33), (1, zi y1), (2, zi y2), (4, zi y4), (5, zi y5), (6, zi 1)] [zi v547] m _
        refine X.ifeq 45 38 (zi39 35) rfl rfl rfl (fun h548 => ?_) (fun h548 => ?_)
        · refine X.aload_n 46 (zi39 45) rfl rfl rfl ?_
          refine X.iload 48 (zi39 46) rfl rfl rfl ?_
          refine X.callv 51 [zi y5] [] [(0, zr g0 33), (1, zi y5)] (zi39 48) rfl (by decide) rfl rfl (by omega) rfl rfl (by decide) rfl t40 (Nat.le_of_ble_eq_true rfl) (Nat.le_of_ble_eq_true rfl) rfl ?_
          refine c40_1 (B := B) g0 y5 (by omega) (hJ.up (by omega)) (by omega) (by omega) (fun v551 hv551 hFv551 => ?_)
          show X (EE s) d 39 51 [(0, zr g0 33), (1, zi y1), (2, zi y2), (4, zi y4), (5, zi y5), (6, zi 1)] [zi v551] m _
          refine X.ifne 81 54 (zi39 51) rfl rfl rfl (fun h552 => (by exfalso; omega)) (fun h552 => ?_)
          refine X.iload 56 (zi39 54) rfl rfl rfl ?_
          refine X.ifeq 81 59 (zi39 56) rfl rfl rfl (fun h553 => (by exfalso; omega)) (fun h553 => ?_)
          refine X.iload 61 (zi39 59) rfl rfl rfl ?_
          refine X.iconst 62 (zi39 61) rfl rfl (by decide) ?_
          refine X.iload_n 63 (zi39 62) rfl rfl rfl ?_
          refine X.iconst 64 (zi39 63) rfl rfl (by decide) ?_
          refine X.iadd 65 (zi39 64) rfl rfl (by omega) ?_
          refine X.aload_n 66 (zi39 65) rfl rfl rfl ?_
          refine X.getR 69 (zi39 66) rfl rfl (by decide) rfl rfl ?_
          refine X.iload 71 (zi39 69) rfl rfl rfl ?_
          refine X.ialdr 72 (zi39 71) rfl rfl (by decide) rfl (by omega) (fun h554 => ?_)
          refine X.isubW 73 (zi39 72) rfl rfl (fun z555 ez555 hz555 => ?_)
          refine X.maxI 76 (zi39 73) rfl rfl (by omega) (Nat.le_of_ble_eq_true rfl) ?_
          refine X.minI 79 (zi39 76) rfl rfl (by omega) (Nat.le_of_ble_eq_true rfl) ?_
          refine X.istore 81 [(0, zr g0 33), (1, zi y1), (2, zi y2), (4, zi (min y4 (max 1 z555))), (5, zi y5), (6, zi 1)] (zi39 79) rfl rfl rfl ?_
          refine X.cut [(0, zr g0 33), (1, zi y1), (2, zi y2), (4, zi (min y4 (max 1 z555))), (5, zi y5)] (zi39 81) rfl ?_
          refine X.iinc 84 [(0, zr g0 33), (1, zi y1), (2, zi y2), (4, zi (min y4 (max 1 z555))), (5, zi (y5 + 1))] (zi39 81) rfl rfl rfl (by omega) rfl ?_
          refine X.goto 6 (zi39 84) rfl rfl ?_
          exact ih (min y4 (max 1 z555)) (y5 + 1) (by omega) (by omega) (by omega) (by omega) (by omega) (Eq.trans hR (Eq.trans (if_neg h531) (Eq.trans (zn_eq ez532) (Eq.trans (zn_eq ez533) (Eq.trans (if_pos h534) (Eq.trans (zn_eq hFv547.symm) (Eq.trans (if_pos h548) (Eq.trans (zn_eq hFv551.symm) (Eq.trans (zn_eq ez555) rfl)))))))))
        · refine X.iload 40 (zi39 38) rfl rfl rfl ?_
          refine X.ifne 45 43 (zi39 40) rfl rfl rfl (fun h556 => ?_) (fun h556 => (by exfalso; omega))
          refine X.aload_n 46 (zi39 45) rfl rfl rfl ?_
          refine X.iload 48 (zi39 46) rfl rfl rfl ?_
          refine X.callv 51 [zi y5] [] [(0, zr g0 33), (1, zi y5)] (zi39 48) rfl (by decide) rfl rfl (by omega) rfl rfl (by decide) rfl t40 (Nat.le_of_ble_eq_true rfl) (Nat.le_of_ble_eq_true rfl) rfl ?_
          refine c40_1 (B := B) g0 y5 (by omega) (hJ.up (by omega)) (by omega) (by omega) (fun v559 hv559 hFv559 => ?_)
          show X (EE s) d 39 51 [(0, zr g0 33), (1, zi y1), (2, zi y2), (4, zi y4), (5, zi y5), (6, zi 1)] [zi v559] m _
          refine X.ifne 81 54 (zi39 51) rfl rfl rfl (fun h560 => ?_) (fun h560 => (by exfalso; omega))
          refine X.cut [(0, zr g0 33), (1, zi y1), (2, zi y2), (4, zi y4), (5, zi y5)] (zi39 81) rfl ?_
          refine X.iinc 84 [(0, zr g0 33), (1, zi y1), (2, zi y2), (4, zi y4), (5, zi (y5 + 1))] (zi39 81) rfl rfl rfl (by omega) rfl ?_
          refine X.goto 6 (zi39 84) rfl rfl ?_
          exact ih y4 (y5 + 1) (by omega) (by omega) (by omega) (by omega) (by omega) (Eq.trans hR (Eq.trans (if_neg h531) (Eq.trans (zn_eq ez532) (Eq.trans (zn_eq ez533) (Eq.trans (if_pos h534) (Eq.trans (zn_eq hFv547.symm) (Eq.trans (if_neg h548) (Eq.trans (zn_eq hFv559.symm) rfl))))))))
-- WorkMeter$Marks.secondsToTurn
noncomputable def f39_1 (g0 : Nat) (a1 a2 a3 : Int) (m : zM) : Int :=
  fl39_6_1 (fun y501 y502 y503 =>
  1) (fun y508 =>
  y508) g0 a1 a2 a3 m (zfu 4) a3 2
-- WorkMeter$Marks.secondsToTurn
theorem c39_1 {s : Nat × (Nat → Int32)} {S : zS} {m0 m : zM} {B : Int} {d : Nat} {Q : Option zV → zM → Prop} (g0 : Nat) (a1 a2 a3 : Int) (hd : 14 ≤ d) (hJ : J S m0 B m) (hB : B + 0 ≤ 1000000000) (ha1 : (-2147483648) ≤ a1 ∧ a1 ≤ 2147483647) (ha2 : 0 ≤ a2 ∧ a2 ≤ 1000000) (ha3 : (-1999999999) ≤ a3 ∧ a3 ≤ 3600) (hp0 : 1 ≤ a3) (hQ : ∀ (v : Int), ((-1999999999) ≤ v ∧ v ≤ 3600) → f39_1 g0 a1 a2 a3 m = v → (1 ≤ v) → (v ≤ a3) → Q (some (zi v)) m) : X (EE s) d 39 0 [(0, zr g0 33), (1, zi a1), (2, zi a2), (3, zi a3)] [] m Q := by
  refine X.iload_n 1 (zi39 0) rfl rfl rfl ?_
  refine X.istore 3 [(0, zr g0 33), (1, zi a1), (2, zi a2), (3, zi a3), (4, zi a3)] (zi39 1) rfl rfl rfl ?_
  refine X.iconst 4 (zi39 3) rfl rfl (by decide) ?_
  refine X.istore 6 [(0, zr g0 33), (1, zi a1), (2, zi a2), (3, zi a3), (4, zi a3), (5, zi 2)] (zi39 4) rfl rfl rfl ?_
  refine X.cut [(0, zr g0 33), (1, zi a1), (2, zi a2), (4, zi a3), (5, zi 2)] (zi39 6) rfl ?_
  have hz4 := zfu_eq 4
  refine l39_6_1 (s := s) (m := m) (B := B) (d := d) (R0 := (f39_1 g0 a1 a2 a3 m)) g0 a1 a2 a3  (by omega) (hJ.up (by omega)) (by omega) (by omega) (by omega) (by omega) (fun y501 y502 y503 hby501 hby502 hby503 hrlm504_0 hrlm504_1 hR507 => ?_) (fun y508 hby508 hrlm509_0 hrlm509_1 hR512 => ?_) (zfu 4) a3 2 (by omega) (by omega) (by omega) (by omega) (by omega) rfl
  · refine X.iconst 44 (zi39 43) rfl rfl (by decide) ?_
    refine X.reti (zi39 44) rfl t39 ?_
    exact hQ 1 (by first | trivial | omega) (Eq.trans hR507 rfl) (by omega) (by omega)
  · refine X.iload 89 (zi39 87) rfl rfl rfl ?_
    refine X.reti (zi39 89) rfl t39 ?_
    exact hQ y508 (by first | trivial | omega) (Eq.trans hR512 rfl) (by omega) (by omega)
-- WorkMeter$Meter.isCreeping
noncomputable def f44_1 (g0 : Nat) (m : zM) : Int :=
  zn (if (m g0 8 12) = 0 then
  ((m g0 22 3))
  else
  (0)) fun v504 =>
  zn (if (m g0 8 12) = 0 then
  ((m g0 22 7))
  else
  (0)) fun v511 =>
  zn (w64 (max v504 (-v504))) fun z516 =>
  zn (if z516 < (m g0 10 0) then
  (zn (w64 (max v511 (-v511))) fun z519 =>
  if z519 < (m g0 10 0) then
  (1)
  else
  (0))
  else
  (0)) fun v522 =>
  v522
-- WorkMeter$Meter.isCreeping
theorem c44_1 {s : Nat × (Nat → Int32)} {S : zS} {m0 m : zM} {B : Int} {d : Nat} {Q : Option zV → zM → Prop} (g0 : Nat) (hd : 13 ≤ d) (hJ : J S m0 B m) (hB : B + 0 ≤ 1000000000) (hQ : ∀ (v : Int), (0 ≤ v ∧ v ≤ 1) → f44_1 g0 m = v → Q (some (zi v)) m) : X (EE s) d 44 0 [(0, zr g0 8)] [] m Q := by
  refine X.aload_n 1 (zi44 0) rfl rfl rfl ?_
  refine X.getR 4 (zi44 1) rfl rfl (by decide) rfl rfl ?_
  refine X.callv 7 [] [] [(0, zr g0 9)] (zi44 4) rfl (by decide) rfl rfl (by omega) rfl rfl (by decide) rfl t45 (Nat.le_of_ble_eq_true rfl) (Nat.le_of_ble_eq_true rfl) rfl ?_
  refine X.aload_n 1 (zi45 0) rfl rfl rfl ?_
  refine X.getR 4 (zi45 1) rfl rfl (by decide) rfl rfl ?_
  refine X.iconst 5 (zi45 4) rfl rfl (by decide) ?_
  refine X.iald 6 (zi45 5) rfl rfl (by decide) rfl (by omega) ?_
  have h501 := r10_0 hJ g0 (i := 0) (by omega)
  refine X.reti (zi45 6) rfl t45 ?_
  show X (EE s) d 44 7 [(0, zr g0 8)] [zi (m g0 10 0)] m _
  refine X.istore_n 8 [(0, zr g0 8), (1, zi (m g0 10 0))] (zi44 7) rfl rfl rfl ?_
  refine X.aload_n 9 (zi44 8) rfl rfl rfl ?_
  refine X.getZ 12 12 (zi44 9) rfl rfl (by decide) rfl rfl rfl (fun h502 => ?_)
  have hK507 : ∀ (v : Int) , (True) → (if (m g0 8 12) = 0 then
      ((m g0 22 3))
      else
      (0)) = v → X (EE s) d 44 26 [(0, zr g0 8), (1, zi (m g0 10 0))] [zl v] m Q := by
    intro v504 hv504 hT508
    refine X.lstore_n 27 [(0, zr g0 8), (1, zi (m g0 10 0)), (2, zl v504)] (zi44 26) rfl rfl rfl ?_
    refine X.aload_n 28 (zi44 27) rfl rfl rfl ?_
    refine X.getZ 31 12 (zi44 28) rfl rfl (by decide) rfl rfl rfl (fun h509 => ?_)
    have hK514 : ∀ (v : Int) , (True) → (if (m g0 8 12) = 0 then
        ((m g0 22 7))
        else
        (0)) = v → X (EE s) d 44 45 [(1, zi (m g0 10 0)), (2, zl v504)] [zl v] m Q := by
      intro v511 hv511 hT515
      refine X.lstore 47 [(1, zi (m g0 10 0)), (2, zl v504), (4, zl v511)] (zi44 45) rfl rfl rfl ?_
      refine X.lload_n 48 (zi44 47) rfl rfl rfl ?_
      refine X.absW 51 (zi44 48) rfl rfl (by omega) (Nat.le_of_ble_eq_true rfl) (fun z516 ez516 hz516 => ?_)
      refine X.iload_n 52 (zi44 51) rfl rfl rfl ?_
      refine X.i2l 53 (zi44 52) rfl rfl ?_
      refine X.lcmp 54 (zi44 53) rfl rfl (fun z517 hz517 => ?_)
      have hK525 : ∀ (v : Int) , (0 ≤ v ∧ v ≤ 1) → (if z516 < (m g0 10 0) then
          (zn (w64 (max v511 (-v511))) fun z519 =>
          if z519 < (m g0 10 0) then
          (1)
          else
          (0))
          else
          (0)) = v → X (EE s) d 44 73 [] [zi v] m Q := by
        intro v522 hv522 hT526
        refine X.retz (zi44 73) rfl t44 (by omega) ?_
        exact hQ v522 (by first | trivial | omega) (Eq.trans (zn_eq hT508.symm) (Eq.trans (zn_eq hT515.symm) (Eq.trans (zn_eq ez516) (Eq.trans (zn_eq hT526.symm) rfl)))) 
      refine X.ifge 72 57 (zi44 54) rfl rfl rfl (fun h518 => ?_) (fun h518 => ?_)
      · have h518c : ¬ z516 < (m g0 10 0) := by omega
        clear h518 hz517
        refine X.cut [] (zi44 72) rfl ?_
        refine X.iconst 73 (zi44 72) rfl rfl (by decide) ?_
        exact hK525 0 (by first | trivial | omega) (Eq.trans (if_neg h518c) rfl)
      · have h518c : z516 < (m g0 10 0) := by omega
        clear h518 hz517
        refine X.lload 59 (zi44 57) rfl rfl rfl ?_
        refine X.absW 62 (zi44 59) rfl rfl (by omega) (Nat.le_of_ble_eq_true rfl) (fun z519 ez519 hz519 => ?_)
        refine X.iload_n 63 (zi44 62) rfl rfl rfl ?_
        refine X.i2l 64 (zi44 63) rfl rfl ?_
        refine X.lcmp 65 (zi44 64) rfl rfl (fun z520 hz520 => ?_)
        refine X.ifge 72 68 (zi44 65) rfl rfl rfl (fun h521 => ?_) (fun h521 => ?_)
        · have h521c : ¬ z519 < (m g0 10 0) := by omega
          clear h521 hz520
          refine X.cut [] (zi44 72) rfl ?_
          refine X.iconst 73 (zi44 72) rfl rfl (by decide) ?_
          exact hK525 0 (by first | trivial | omega) (Eq.trans (if_pos h518c) (Eq.trans (zn_eq ez519) (Eq.trans (if_neg h521c) rfl)))
        · have h521c : z519 < (m g0 10 0) := by omega
          clear h521 hz520
          refine X.iconst 69 (zi44 68) rfl rfl (by decide) ?_
          refine X.goto 73 (zi44 69) rfl rfl ?_
          refine X.cut [] (zi44 73) rfl ?_
          exact hK525 1 (by first | trivial | omega) (Eq.trans (if_pos h518c) (Eq.trans (zn_eq ez519) (Eq.trans (if_pos h521c) rfl)))
    refine X.ifeq 38 34 (zi44 31) rfl rfl rfl (fun h510 => ?_) (fun h510 => ?_)
    · refine X.aload_n 39 (zi44 38) rfl rfl rfl ?_
      refine X.getR 42 (zi44 39) rfl rfl (by decide) rfl rfl ?_
      refine X.callv 45 [] [] [(0, zr g0 19)] (zi44 42) rfl (by decide) rfl rfl (by omega) rfl rfl (by decide) rfl t46 (Nat.le_of_ble_eq_true rfl) (Nat.le_of_ble_eq_true rfl) rfl ?_
      refine X.aload_n 1 (zi46 0) rfl rfl rfl ?_
      refine X.getR 4 (zi46 1) rfl rfl (by decide) rfl rfl ?_
      refine X.bipush 6 (zi46 4) rfl rfl (by decide) ?_
      refine X.lald 7 (zi46 6) rfl rfl (by decide) rfl (by omega) ?_
      refine X.retl (zi46 7) rfl t46 ?_
      show X (EE s) d 44 45 [(0, zr g0 8), (1, zi (m g0 10 0)), (2, zl v504)] [zl (m g0 22 7)] m _
      refine X.cut [(1, zi (m g0 10 0)), (2, zl v504)] (zi44 45) rfl ?_
      exact hK514 (m g0 22 7) (by first | trivial | omega) (Eq.trans (if_pos h510) rfl)
    · refine X.lconst (y := 0) 35 (zi44 34) rfl rfl rfl ?_
      refine X.goto 45 (zi44 35) rfl rfl ?_
      refine X.cut [(1, zi (m g0 10 0)), (2, zl v504)] (zi44 45) rfl ?_
      exact hK514 0 (by first | trivial | omega) (Eq.trans (if_neg h510) rfl)
  refine X.ifeq 19 15 (zi44 12) rfl rfl rfl (fun h503 => ?_) (fun h503 => ?_)
  · refine X.aload_n 20 (zi44 19) rfl rfl rfl ?_
    refine X.getR 23 (zi44 20) rfl rfl (by decide) rfl rfl ?_
    refine X.callv 26 [] [] [(0, zr g0 19)] (zi44 23) rfl (by decide) rfl rfl (by omega) rfl rfl (by decide) rfl t42 (Nat.le_of_ble_eq_true rfl) (Nat.le_of_ble_eq_true rfl) rfl ?_
    refine X.aload_n 1 (zi42 0) rfl rfl rfl ?_
    refine X.getR 4 (zi42 1) rfl rfl (by decide) rfl rfl ?_
    refine X.iconst 5 (zi42 4) rfl rfl (by decide) ?_
    refine X.lald 6 (zi42 5) rfl rfl (by decide) rfl (by omega) ?_
    refine X.retl (zi42 6) rfl t42 ?_
    show X (EE s) d 44 26 [(0, zr g0 8), (1, zi (m g0 10 0))] [zl (m g0 22 3)] m _
    exact hK507 (m g0 22 3) (by first | trivial | omega) (Eq.trans (if_pos h503) rfl)
  · refine X.lconst (y := 0) 16 (zi44 15) rfl rfl rfl ?_
    refine X.goto 26 (zi44 16) rfl rfl ?_
    exact hK507 0 (by first | trivial | omega) (Eq.trans (if_neg h503) rfl)
-- WorkMeter$Meter.secondsToOpen
noncomputable def f41_1 (g0 : Nat) (a1 a2 : Int) (m : zM) : Int :=
  if (m g0 8 11) = 0 then
  (a2)
  else
  (if (m g0 8 12) = 0 then
  (if (m g0 22 3) ≤ 0 then
  (a2)
  else
  (if (m g0 10 (6 + a1)) ≤ 0 then
  (a2)
  else
  (zn (f44_1 g0 m) fun v511 =>
  if v511 = 0 then
  (zn (w64 ((m g0 8 10) + (m g0 10 (6 + a1)))) fun z513 =>
  zn (w64 (z513 - 1)) fun z514 =>
  zn (w64 ((z514).tdiv (m g0 10 (6 + a1)))) fun z515 =>
  zn (w64 (((m g0 24 (0 + a1))).tdiv (max 1 (m g0 10 1)))) fun z517 =>
  zn (w64 (z517 + z515)) fun z518 =>
  zn (w64 (z518 * (max 1 (m g0 10 1)))) fun z519 =>
  zn (w64 (z519 - (m g0 24 (0 + a1)))) fun z520 =>
  zn (w64 (z520 + (m g0 22 3))) fun z521 =>
  zn (w64 (z521 - 1)) fun z522 =>
  zn (w64 ((z522).tdiv (m g0 22 3))) fun z523 =>
  (max 1 (min a2 z523)))
  else
  (a2))))
  else
  (a2))
-- WorkMeter$Meter.secondsToOpen
theorem c41_1 {s : Nat × (Nat → Int32)} {S : zS} {m0 m : zM} {B : Int} {d : Nat} {Q : Option zV → zM → Prop} (g0 : Nat) (a1 a2 : Int) (hd : 14 ≤ d) (hJ : J S m0 B m) (hB : B + 0 ≤ 1000000000) (ha1 : 0 ≤ a1 ∧ a1 ≤ 3) (ha2 : 1 ≤ a2 ∧ a2 ≤ 3600) (hp0 : 1 ≤ a2) (hQ : ∀ (v : Int), (1 ≤ v ∧ v ≤ 3600) → f41_1 g0 a1 a2 m = v → (1 ≤ v) → (v ≤ a2) → Q (some (zi v)) m) : X (EE s) d 41 0 [(0, zr g0 8), (1, zi a1), (2, zi a2)] [] m Q := by
  refine X.aload_n 1 (zi41 0) rfl rfl rfl ?_
  refine X.getR 4 (zi41 1) rfl rfl (by decide) rfl rfl ?_
  refine X.callv 7 [] [] [(0, zr g0 19)] (zi41 4) rfl (by decide) rfl rfl (by omega) rfl rfl (by decide) rfl t42 (Nat.le_of_ble_eq_true rfl) (Nat.le_of_ble_eq_true rfl) rfl ?_
  refine X.aload_n 1 (zi42 0) rfl rfl rfl ?_
  refine X.getR 4 (zi42 1) rfl rfl (by decide) rfl rfl ?_
  refine X.iconst 5 (zi42 4) rfl rfl (by decide) ?_
  refine X.lald 6 (zi42 5) rfl rfl (by decide) rfl (by omega) ?_
  refine X.retl (zi42 6) rfl t42 ?_
  show X (EE s) d 41 7 [(0, zr g0 8), (1, zi a1), (2, zi a2)] [zl (m g0 22 3)] m _
  refine X.lstore_n 8 [(0, zr g0 8), (1, zi a1), (2, zi a2), (3, zl (m g0 22 3))] (zi41 7) rfl rfl rfl ?_
  refine X.aload_n 9 (zi41 8) rfl rfl rfl ?_
  refine X.getR 12 (zi41 9) rfl rfl (by decide) rfl rfl ?_
  refine X.iload_n 13 (zi41 12) rfl rfl rfl ?_
  refine X.callv 16 [zi a1] [] [(0, zr g0 9), (1, zi a1)] (zi41 13) rfl (by decide) rfl rfl (by omega) rfl rfl (by decide) rfl t43 (Nat.le_of_ble_eq_true rfl) (Nat.le_of_ble_eq_true rfl) rfl ?_
  refine X.aload_n 1 (zi43 0) rfl rfl rfl ?_
  refine X.getR 4 (zi43 1) rfl rfl (by decide) rfl rfl ?_
  refine X.bipush 6 (zi43 4) rfl rfl (by decide) ?_
  refine X.iload_n 7 (zi43 6) rfl rfl rfl ?_
  refine X.iadd 8 (zi43 7) rfl rfl (by omega) ?_
  refine X.iald 9 (zi43 8) rfl rfl (by decide) rfl (by omega) ?_
  have h501 := r10_6 hJ g0 (i := (6 + a1)) (by omega)
  refine X.reti (zi43 9) rfl t43 ?_
  show X (EE s) d 41 16 [(0, zr g0 8), (1, zi a1), (2, zi a2), (3, zl (m g0 22 3))] [zi (m g0 10 (6 + a1))] m _
  refine X.istore 18 [(0, zr g0 8), (1, zi a1), (2, zi a2), (3, zl (m g0 22 3)), (5, zi (m g0 10 (6 + a1)))] (zi41 16) rfl rfl rfl ?_
  refine X.aload_n 19 (zi41 18) rfl rfl rfl ?_
  refine X.getZ 22 11 (zi41 19) rfl rfl (by decide) rfl rfl rfl (fun h502 => ?_)
  refine X.ifeq 50 25 (zi41 22) rfl rfl rfl (fun h503 => ?_) (fun h503 => ?_)
  · refine X.cut [(2, zi a2)] (zi41 50) rfl ?_
    refine X.iload_n 51 (zi41 50) rfl rfl rfl ?_
    refine X.reti (zi41 51) rfl t41 ?_
    exact hQ a2 (by first | trivial | omega) (Eq.trans (if_pos h503) rfl) (by omega) (by omega)
  · refine X.aload_n 26 (zi41 25) rfl rfl rfl ?_
    refine X.getZ 29 12 (zi41 26) rfl rfl (by decide) rfl rfl rfl (fun h504 => ?_)
    refine X.ifne 50 32 (zi41 29) rfl rfl rfl (fun h505 => ?_) (fun h505 => ?_)
    · refine X.cut [(2, zi a2)] (zi41 50) rfl ?_
      refine X.iload_n 51 (zi41 50) rfl rfl rfl ?_
      refine X.reti (zi41 51) rfl t41 ?_
      exact hQ a2 (by first | trivial | omega) (Eq.trans (if_neg h503) (Eq.trans (if_neg h505) rfl)) (by omega) (by omega)
    · refine X.lload_n 33 (zi41 32) rfl rfl rfl ?_
      refine X.lconst (y := 0) 34 (zi41 33) rfl rfl rfl ?_
      refine X.lcmp 35 (zi41 34) rfl rfl (fun z506 hz506 => ?_)
      refine X.ifle 50 38 (zi41 35) rfl rfl rfl (fun h507 => ?_) (fun h507 => ?_)
      · have h507c : (m g0 22 3) ≤ 0 := by omega
        clear h507 hz506
        refine X.cut [(2, zi a2)] (zi41 50) rfl ?_
        refine X.iload_n 51 (zi41 50) rfl rfl rfl ?_
        refine X.reti (zi41 51) rfl t41 ?_
        exact hQ a2 (by first | trivial | omega) (Eq.trans (if_neg h503) (Eq.trans (if_pos h505) (Eq.trans (if_pos h507c) rfl))) (by omega) (by omega)
      · have h507c : ¬ (m g0 22 3) ≤ 0 := by omega
        clear h507 hz506
        refine X.iload 40 (zi41 38) rfl rfl rfl ?_
        refine X.ifle 50 43 (zi41 40) rfl rfl rfl (fun h508 => ?_) (fun h508 => ?_)
        · refine X.cut [(2, zi a2)] (zi41 50) rfl ?_
          refine X.iload_n 51 (zi41 50) rfl rfl rfl ?_
          refine X.reti (zi41 51) rfl t41 ?_
          exact hQ a2 (by first | trivial | omega) (Eq.trans (if_neg h503) (Eq.trans (if_pos h505) (Eq.trans (if_neg h507c) (Eq.trans (if_pos h508) rfl)))) (by omega) (by omega)
        · refine X.aload_n 44 (zi41 43) rfl rfl rfl ?_
          refine X.callv 47 [] [] [(0, zr g0 8)] (zi41 44) rfl (by decide) rfl rfl (by omega) rfl rfl (by decide) rfl t44 (Nat.le_of_ble_eq_true rfl) (Nat.le_of_ble_eq_true rfl) rfl ?_
          refine c44_1 (B := B) g0  (by omega) (hJ.up (by omega)) (by omega)  (fun v511 hv511 hFv511 => ?_)
          show X (EE s) d 41 47 [(0, zr g0 8), (1, zi a1), (2, zi a2), (3, zl (m g0 22 3)), (5, zi (m g0 10 (6 + a1)))] [zi v511] m _
          refine X.ifeq 52 50 (zi41 47) rfl rfl rfl (fun h512 => ?_) (fun h512 => ?_)
          · refine X.aload_n 53 (zi41 52) rfl rfl rfl ?_
            refine X.getL 56 10 (zi41 53) rfl rfl (by decide) rfl rfl rfl ?_
            refine X.iload 58 (zi41 56) rfl rfl rfl ?_
            refine X.i2l 59 (zi41 58) rfl rfl ?_
            refine X.laddW 60 (zi41 59) rfl rfl (fun z513 ez513 hz513 => ?_)
            refine X.lconst (y := 1) 61 (zi41 60) rfl rfl rfl ?_
            refine X.lsubW 62 (zi41 61) rfl rfl (fun z514 ez514 hz514 => ?_)
            refine X.iload 64 (zi41 62) rfl rfl rfl ?_
            refine X.i2l 65 (zi41 64) rfl rfl ?_
            refine X.ldivW 66 (zi41 65) rfl rfl (by omega) (fun z515 ez515 hz515 => ?_)
            refine X.lstore 68 [(0, zr g0 8), (1, zi a1), (2, zi a2), (3, zl (m g0 22 3)), (5, zi (m g0 10 (6 + a1))), (6, zl z515)] (zi41 66) rfl rfl rfl ?_
            refine X.aload_n 69 (zi41 68) rfl rfl rfl ?_
            refine X.getR 72 (zi41 69) rfl rfl (by decide) rfl rfl ?_
            refine X.iload_n 73 (zi41 72) rfl rfl rfl ?_
            refine X.callv 76 [zi a1] [] [(0, zr g0 23), (1, zi a1)] (zi41 73) rfl (by decide) rfl rfl (by omega) rfl rfl (by decide) rfl t47 (Nat.le_of_ble_eq_true rfl) (Nat.le_of_ble_eq_true rfl) rfl ?_
            refine X.aload_n 1 (zi47 0) rfl rfl rfl ?_
            refine X.getR 4 (zi47 1) rfl rfl (by decide) rfl rfl ?_
            refine X.iconst 5 (zi47 4) rfl rfl (by decide) ?_
            refine X.iload_n 6 (zi47 5) rfl rfl rfl ?_
            refine X.iadd 7 (zi47 6) rfl rfl (by omega) ?_
            refine X.lald 8 (zi47 7) rfl rfl (by decide) rfl (by omega) ?_
            refine X.retl (zi47 8) rfl t47 ?_
            show X (EE s) d 41 76 [(0, zr g0 8), (1, zi a1), (2, zi a2), (3, zl (m g0 22 3)), (5, zi (m g0 10 (6 + a1))), (6, zl z515)] [zl (m g0 24 (0 + a1))] m _
            refine X.lstore 78 [(0, zr g0 8), (1, zi a1), (2, zi a2), (3, zl (m g0 22 3)), (5, zi (m g0 10 (6 + a1))), (6, zl z515), (8, zl (m g0 24 (0 + a1)))] (zi41 76) rfl rfl rfl ?_
            refine X.lload 80 (zi41 78) rfl rfl rfl ?_
            refine X.aload_n 81 (zi41 80) rfl rfl rfl ?_
            refine X.getR 84 (zi41 81) rfl rfl (by decide) rfl rfl ?_
            refine X.callv 87 [] [zl (m g0 24 (0 + a1))] [(0, zr g0 9)] (zi41 84) rfl (by decide) rfl rfl (by omega) rfl rfl (by decide) rfl t48 (Nat.le_of_ble_eq_true rfl) (Nat.le_of_ble_eq_true rfl) rfl ?_
            refine X.iconst 1 (zi48 0) rfl rfl (by decide) ?_
            refine X.aload_n 2 (zi48 1) rfl rfl rfl ?_
            refine X.getR 5 (zi48 2) rfl rfl (by decide) rfl rfl ?_
            refine X.iconst 6 (zi48 5) rfl rfl (by decide) ?_
            refine X.iald 7 (zi48 6) rfl rfl (by decide) rfl (by omega) ?_
            have h516 := r10_0 hJ g0 (i := 1) (by omega)
            refine X.maxI 10 (zi48 7) rfl rfl (by omega) (Nat.le_of_ble_eq_true rfl) ?_
            refine X.reti (zi48 10) rfl t48 ?_
            show X (EE s) d 41 87 [(0, zr g0 8), (1, zi a1), (2, zi a2), (3, zl (m g0 22 3)), (5, zi (m g0 10 (6 + a1))), (6, zl z515), (8, zl (m g0 24 (0 + a1)))] [zi (max 1 (m g0 10 1)), zl (m g0 24 (0 + a1))] m _
            refine X.i2l 88 (zi41 87) rfl rfl ?_
            refine X.ldivW 89 (zi41 88) rfl rfl (by omega) (fun z517 ez517 hz517 => ?_)
            refine X.lload 91 (zi41 89) rfl rfl rfl ?_
            refine X.laddW 92 (zi41 91) rfl rfl (fun z518 ez518 hz518 => ?_)
            refine X.aload_n 93 (zi41 92) rfl rfl rfl ?_
            refine X.getR 96 (zi41 93) rfl rfl (by decide) rfl rfl ?_
            refine X.callv 99 [] [zl z518] [(0, zr g0 9)] (zi41 96) rfl (by decide) rfl rfl (by omega) rfl rfl (by decide) rfl t48 (Nat.le_of_ble_eq_true rfl) (Nat.le_of_ble_eq_true rfl) rfl ?_
            refine X.iconst 1 (zi48 0) rfl rfl (by decide) ?_
            refine X.aload_n 2 (zi48 1) rfl rfl rfl ?_
            refine X.getR 5 (zi48 2) rfl rfl (by decide) rfl rfl ?_
            refine X.iconst 6 (zi48 5) rfl rfl (by decide) ?_
            refine X.iald 7 (zi48 6) rfl rfl (by decide) rfl (by omega) ?_
            refine X.maxI 10 (zi48 7) rfl rfl (by omega) (Nat.le_of_ble_eq_true rfl) ?_
            refine X.reti (zi48 10) rfl t48 ?_
            show X (EE s) d 41 99 [(0, zr g0 8), (1, zi a1), (2, zi a2), (3, zl (m g0 22 3)), (5, zi (m g0 10 (6 + a1))), (6, zl z515), (8, zl (m g0 24 (0 + a1)))] [zi (max 1 (m g0 10 1)), zl z518] m _
            refine X.i2l 100 (zi41 99) rfl rfl ?_
            refine X.lmulW 101 (zi41 100) rfl rfl (fun z519 ez519 hz519 => ?_)
            refine X.lload 103 (zi41 101) rfl rfl rfl ?_
            refine X.lsubW 104 (zi41 103) rfl rfl (fun z520 ez520 hz520 => ?_)
            refine X.lstore 106 [(0, zr g0 8), (1, zi a1), (2, zi a2), (3, zl (m g0 22 3)), (5, zi (m g0 10 (6 + a1))), (6, zl z515), (8, zl (m g0 24 (0 + a1))), (10, zl z520)] (zi41 104) rfl rfl rfl ?_
            refine X.lconst (y := 1) 107 (zi41 106) rfl rfl rfl ?_
            refine X.iload_n 108 (zi41 107) rfl rfl rfl ?_
            refine X.i2l 109 (zi41 108) rfl rfl ?_
            refine X.lload 111 (zi41 109) rfl rfl rfl ?_
            refine X.lload_n 112 (zi41 111) rfl rfl rfl ?_
            refine X.laddW 113 (zi41 112) rfl rfl (fun z521 ez521 hz521 => ?_)
            refine X.lconst (y := 1) 114 (zi41 113) rfl rfl rfl ?_
            refine X.lsubW 115 (zi41 114) rfl rfl (fun z522 ez522 hz522 => ?_)
            refine X.lload_n 116 (zi41 115) rfl rfl rfl ?_
            refine X.ldivW 117 (zi41 116) rfl rfl (by omega) (fun z523 ez523 hz523 => ?_)
            refine X.minL 120 (zi41 117) rfl rfl (by omega) (Nat.le_of_ble_eq_true rfl) ?_
            refine X.maxL 123 (zi41 120) rfl rfl (by omega) (Nat.le_of_ble_eq_true rfl) ?_
            refine X.l2i 124 (zi41 123) rfl rfl (by omega) ?_
            refine X.reti (zi41 124) rfl t41 ?_
            exact hQ (max 1 (min a2 z523)) (by first | trivial | omega) (Eq.trans (if_neg h503) (Eq.trans (if_pos h505) (Eq.trans (if_neg h507c) (Eq.trans (if_neg h508) (Eq.trans (zn_eq hFv511.symm) (Eq.trans (if_pos h512) (Eq.trans (zn_eq ez513) (Eq.trans (zn_eq ez514) (Eq.trans (zn_eq ez515) (Eq.trans (zn_eq ez517) (Eq.trans (zn_eq ez518) (Eq.trans (zn_eq ez519) (Eq.trans (zn_eq ez520) (Eq.trans (zn_eq ez521) (Eq.trans (zn_eq ez522) (Eq.trans (zn_eq ez523) rfl)))))))))))))))) (by omega) (by omega)
          · refine X.cut [(2, zi a2)] (zi41 50) rfl ?_
            refine X.iload_n 51 (zi41 50) rfl rfl rfl ?_
            refine X.reti (zi41 51) rfl t41 ?_
            exact hQ a2 (by first | trivial | omega) (Eq.trans (if_neg h503) (Eq.trans (if_pos h505) (Eq.trans (if_neg h507c) (Eq.trans (if_neg h508) (Eq.trans (zn_eq hFv511.symm) (Eq.trans (if_neg h512) rfl)))))) (by omega) (by omega)
-- WorkMeter$Meter.stretch
noncomputable def f35_1 (g0 : Nat) (a1 a2 a3 : Int) (m : zM) : Int :=
  if (m g0 8 9) < 2000000000 then
  (zn (f37_1 g0 (m g0 8 9) m) fun v506 =>
  zn (((m g0 8 9) % (max 1 (m g0 10 4)))) fun z507 =>
  zn (f39_1 g0 a3 (m g0 10 3) (min (min (min a1 (2000000000 - (m g0 8 9))) (v506 - (m g0 8 9))) ((max 1 (m g0 10 4)) - z507)) m) fun v511 =>
  zn (f41_1 g0 a2 v511 m) fun v514 =>
  v514)
  else
  (1)
-- WorkMeter$Meter.stretch
theorem c35_1 {s : Nat × (Nat → Int32)} {S : zS} {m0 m : zM} {B : Int} {d : Nat} {Q : Option zV → zM → Prop} (g0 : Nat) (a1 a2 a3 : Int) (hd : 16 ≤ d) (hJ : J S m0 B m) (hB : B + 0 ≤ 1000000000) (ha1 : 1 ≤ a1 ∧ a1 ≤ 3600) (ha2 : 0 ≤ a2 ∧ a2 ≤ 3) (ha3 : (-2147483648) ≤ a3 ∧ a3 ≤ 2147483647) (hp0 : 1 ≤ a1) (hQ : ∀ (v : Int), (1 ≤ v ∧ v ≤ 3600) → f35_1 g0 a1 a2 a3 m = v → (1 ≤ v) → (v + m g0 8 9 ≤ 2000000001) → (v ≤ a1) → Q (some (zi v)) m) : X (EE s) d 35 0 [(0, zr g0 8), (1, zi a1), (2, zi a2), (3, zi a3)] [] m Q := by
  refine X.aload_n 1 (zi35 0) rfl rfl rfl ?_
  refine X.getI 4 9 (zi35 1) rfl rfl (by decide) rfl rfl rfl ?_
  have h501 := r8_9 hJ g0
  refine X.ldc 6 (zi35 4) rfl rfl (by decide) ?_
  refine X.icmplt 11 9 (zi35 6) rfl rfl rfl (fun h502 => ?_) (fun h502 => ?_)
  · refine X.aload_n 12 (zi35 11) rfl rfl rfl ?_
    refine X.getR 15 (zi35 12) rfl rfl (by decide) rfl rfl ?_
    refine X.callv 18 [] [] [(0, zr g0 9)] (zi35 15) rfl (by decide) rfl rfl (by omega) rfl rfl (by decide) rfl t36 (Nat.le_of_ble_eq_true rfl) (Nat.le_of_ble_eq_true rfl) rfl ?_
    refine X.iconst 1 (zi36 0) rfl rfl (by decide) ?_
    refine X.aload_n 2 (zi36 1) rfl rfl rfl ?_
    refine X.getR 5 (zi36 2) rfl rfl (by decide) rfl rfl ?_
    refine X.iconst 6 (zi36 5) rfl rfl (by decide) ?_
    refine X.iald 7 (zi36 6) rfl rfl (by decide) rfl (by omega) ?_
    have h503 := r10_0 hJ g0 (i := 4) (by omega)
    refine X.maxI 10 (zi36 7) rfl rfl (by omega) (Nat.le_of_ble_eq_true rfl) ?_
    refine X.reti (zi36 10) rfl t36 ?_
    show X (EE s) d 35 18 [(0, zr g0 8), (1, zi a1), (2, zi a2), (3, zi a3)] [zi (max 1 (m g0 10 4))] m _
    refine X.istore 20 [(0, zr g0 8), (1, zi a1), (2, zi a2), (3, zi a3), (4, zi (max 1 (m g0 10 4)))] (zi35 18) rfl rfl rfl ?_
    refine X.iload_n 21 (zi35 20) rfl rfl rfl ?_
    refine X.ldc 23 (zi35 21) rfl rfl (by decide) ?_
    refine X.aload_n 24 (zi35 23) rfl rfl rfl ?_
    refine X.getI 27 9 (zi35 24) rfl rfl (by decide) rfl rfl rfl ?_
    refine X.isub 28 (zi35 27) rfl rfl (by omega) ?_
    refine X.minI 31 (zi35 28) rfl rfl (by omega) (Nat.le_of_ble_eq_true rfl) ?_
    refine X.istore 33 [(0, zr g0 8), (1, zi a1), (2, zi a2), (3, zi a3), (4, zi (max 1 (m g0 10 4))), (5, zi (min a1 (2000000000 - (m g0 8 9))))] (zi35 31) rfl rfl rfl ?_
    refine X.iload 35 (zi35 33) rfl rfl rfl ?_
    refine X.aload_n 36 (zi35 35) rfl rfl rfl ?_
    refine X.getR 39 (zi35 36) rfl rfl (by decide) rfl rfl ?_
    refine X.aload_n 40 (zi35 39) rfl rfl rfl ?_
    refine X.getI 43 9 (zi35 40) rfl rfl (by decide) rfl rfl rfl ?_
    refine X.callv 46 [zi (m g0 8 9)] [zi (min a1 (2000000000 - (m g0 8 9)))] [(0, zr g0 11), (1, zi (m g0 8 9))] (zi35 43) rfl (by decide) rfl rfl (by omega) rfl rfl (by decide) rfl t37 (Nat.le_of_ble_eq_true rfl) (Nat.le_of_ble_eq_true rfl) rfl ?_
    refine c37_1 (B := B) g0 (m g0 8 9) (by omega) (hJ.up (by omega)) (by omega) (by omega) (fun v506 hv506 hFv506 hqv506_0 => ?_)
    show X (EE s) d 35 46 [(0, zr g0 8), (1, zi a1), (2, zi a2), (3, zi a3), (4, zi (max 1 (m g0 10 4))), (5, zi (min a1 (2000000000 - (m g0 8 9))))] [zi v506, zi (min a1 (2000000000 - (m g0 8 9)))] m _
    refine X.aload_n 47 (zi35 46) rfl rfl rfl ?_
    refine X.getI 50 9 (zi35 47) rfl rfl (by decide) rfl rfl rfl ?_
    refine X.isub 51 (zi35 50) rfl rfl (by omega) ?_
    refine X.minI 54 (zi35 51) rfl rfl (by omega) (Nat.le_of_ble_eq_true rfl) ?_
    refine X.istore 56 [(0, zr g0 8), (1, zi a1), (2, zi a2), (3, zi a3), (4, zi (max 1 (m g0 10 4))), (5, zi (min (min a1 (2000000000 - (m g0 8 9))) (v506 - (m g0 8 9))))] (zi35 54) rfl rfl rfl ?_
    refine X.iload 58 (zi35 56) rfl rfl rfl ?_
    refine X.iload 60 (zi35 58) rfl rfl rfl ?_
    refine X.aload_n 61 (zi35 60) rfl rfl rfl ?_
    refine X.getI 64 9 (zi35 61) rfl rfl (by decide) rfl rfl rfl ?_
    refine X.iload 66 (zi35 64) rfl rfl rfl ?_
    refine X.irem 67 (zi35 66) rfl rfl (by omega) ?_
    have hz507 := z_modb (x := (m g0 8 9)) (y := (max 1 (m g0 10 4))) (by omega) (by omega)
    obtain ⟨z507, ez507⟩ : ∃ z, z = ((m g0 8 9) % (max 1 (m g0 10 4))) := ⟨_, rfl⟩
    rw [← ez507] at hz507 ⊢
    refine X.isub 68 (zi35 67) rfl rfl (by omega) ?_
    refine X.minI 71 (zi35 68) rfl rfl (by omega) (Nat.le_of_ble_eq_true rfl) ?_
    refine X.istore 73 [(0, zr g0 8), (1, zi a1), (2, zi a2), (3, zi a3), (4, zi (max 1 (m g0 10 4))), (5, zi (min (min (min a1 (2000000000 - (m g0 8 9))) (v506 - (m g0 8 9))) ((max 1 (m g0 10 4)) - z507)))] (zi35 71) rfl rfl rfl ?_
    refine X.aload_n 74 (zi35 73) rfl rfl rfl ?_
    refine X.getR 77 (zi35 74) rfl rfl (by decide) rfl rfl ?_
    refine X.iload_n 78 (zi35 77) rfl rfl rfl ?_
    refine X.aload_n 79 (zi35 78) rfl rfl rfl ?_
    refine X.getR 82 (zi35 79) rfl rfl (by decide) rfl rfl ?_
    refine X.callv 85 [] [zi a3, zr g0 33] [(0, zr g0 9)] (zi35 82) rfl (by decide) rfl rfl (by omega) rfl rfl (by decide) rfl t38 (Nat.le_of_ble_eq_true rfl) (Nat.le_of_ble_eq_true rfl) rfl ?_
    refine X.aload_n 1 (zi38 0) rfl rfl rfl ?_
    refine X.getR 4 (zi38 1) rfl rfl (by decide) rfl rfl ?_
    refine X.iconst 5 (zi38 4) rfl rfl (by decide) ?_
    refine X.iald 6 (zi38 5) rfl rfl (by decide) rfl (by omega) ?_
    have h508 := r10_0 hJ g0 (i := 3) (by omega)
    refine X.reti (zi38 6) rfl t38 ?_
    show X (EE s) d 35 85 [(0, zr g0 8), (1, zi a1), (2, zi a2), (3, zi a3), (4, zi (max 1 (m g0 10 4))), (5, zi (min (min (min a1 (2000000000 - (m g0 8 9))) (v506 - (m g0 8 9))) ((max 1 (m g0 10 4)) - z507)))] [zi (m g0 10 3), zi a3, zr g0 33] m _
    refine X.iload 87 (zi35 85) rfl rfl rfl ?_
    refine X.callv 90 [zi a3, zi (m g0 10 3), zi (min (min (min a1 (2000000000 - (m g0 8 9))) (v506 - (m g0 8 9))) ((max 1 (m g0 10 4)) - z507))] [] [(0, zr g0 33), (1, zi a3), (2, zi (m g0 10 3)), (3, zi (min (min (min a1 (2000000000 - (m g0 8 9))) (v506 - (m g0 8 9))) ((max 1 (m g0 10 4)) - z507)))] (zi35 87) rfl (by decide) rfl rfl (by omega) rfl rfl (by decide) rfl t39 (Nat.le_of_ble_eq_true rfl) (Nat.le_of_ble_eq_true rfl) rfl ?_
    refine c39_1 (B := B) g0 a3 (m g0 10 3) (min (min (min a1 (2000000000 - (m g0 8 9))) (v506 - (m g0 8 9))) ((max 1 (m g0 10 4)) - z507)) (by omega) (hJ.up (by omega)) (by omega) (by omega) (by omega) (by omega) (by omega) (fun v511 hv511 hFv511 hqv511_0 hqv511_1 => ?_)
    show X (EE s) d 35 90 [(0, zr g0 8), (1, zi a1), (2, zi a2), (3, zi a3), (4, zi (max 1 (m g0 10 4))), (5, zi (min (min (min a1 (2000000000 - (m g0 8 9))) (v506 - (m g0 8 9))) ((max 1 (m g0 10 4)) - z507)))] [zi v511] m _
    refine X.istore 92 [(0, zr g0 8), (1, zi a1), (2, zi a2), (3, zi a3), (4, zi (max 1 (m g0 10 4))), (5, zi v511)] (zi35 90) rfl rfl rfl ?_
    refine X.aload_n 93 (zi35 92) rfl rfl rfl ?_
    refine X.iload_n 94 (zi35 93) rfl rfl rfl ?_
    refine X.iload 96 (zi35 94) rfl rfl rfl ?_
    refine X.callv 99 [zi a2, zi v511] [] [(0, zr g0 8), (1, zi a2), (2, zi v511)] (zi35 96) rfl (by decide) rfl rfl (by omega) rfl rfl (by decide) rfl t41 (Nat.le_of_ble_eq_true rfl) (Nat.le_of_ble_eq_true rfl) rfl ?_
    refine c41_1 (B := B) g0 a2 v511 (by omega) (hJ.up (by omega)) (by omega) (by omega) (by omega) (by omega) (fun v514 hv514 hFv514 hqv514_0 hqv514_1 => ?_)
    show X (EE s) d 35 99 [(0, zr g0 8), (1, zi a1), (2, zi a2), (3, zi a3), (4, zi (max 1 (m g0 10 4))), (5, zi v511)] [zi v514] m _
    refine X.reti (zi35 99) rfl t35 ?_
    exact hQ v514 (by first | trivial | omega) (Eq.trans (if_pos h502) (Eq.trans (zn_eq hFv506.symm) (Eq.trans (zn_eq ez507) (Eq.trans (zn_eq hFv511.symm) (Eq.trans (zn_eq hFv514.symm) rfl))))) (by omega) (by omega) (by omega)
  · refine X.iconst 10 (zi35 9) rfl rfl (by decide) ?_
    refine X.reti (zi35 10) rfl t35 ?_
    exact hQ 1 (by first | trivial | omega) (Eq.trans (if_neg h502) rfl) (by omega) (by omega) (by omega)
-- WorkMeter$Wave.quadrantOf
noncomputable def f51_1 (a0 a1 : Int) (m : zM) : Int :=
  if a0 < 0 then
  (zn (if a1 < 0 then
  (3)
  else
  (2)) fun v505 =>
  v505)
  else
  (zn (if a1 < 0 then
  (4)
  else
  (1)) fun v512 =>
  v512)
-- WorkMeter$Wave.quadrantOf
theorem c51_1 {s : Nat × (Nat → Int32)} {S : zS} {m0 m : zM} {B : Int} {d : Nat} {Q : Option zV → zM → Prop} (a0 a1 : Int) (hd : 13 ≤ d) (hJ : J S m0 B m) (hB : B + 0 ≤ 1000000000) (hQ : ∀ (v : Int), (1 ≤ v ∧ v ≤ 4) → f51_1 a0 a1 m = v → Q (some (zi v)) m) : X (EE s) d 51 0 [(0, zl a0), (2, zl a1)] [] m Q := by
  refine X.lload_n 1 (zi51 0) rfl rfl rfl ?_
  refine X.lconst (y := 0) 2 (zi51 1) rfl rfl rfl ?_
  refine X.lcmp 3 (zi51 2) rfl rfl (fun z501 hz501 => ?_)
  refine X.iflt 18 6 (zi51 3) rfl rfl rfl (fun h502 => ?_) (fun h502 => ?_)
  · have h502c : a0 < 0 := by omega
    clear h502 hz501
    refine X.cut [(2, zl a1)] (zi51 18) rfl ?_
    refine X.lload_n 19 (zi51 18) rfl rfl rfl ?_
    refine X.lconst (y := 0) 20 (zi51 19) rfl rfl rfl ?_
    refine X.lcmp 21 (zi51 20) rfl rfl (fun z503 hz503 => ?_)
    have hK508 : ∀ (v : Int) , (2 ≤ v ∧ v ≤ 3) → (if a1 < 0 then
        (3)
        else
        (2)) = v → X (EE s) d 51 29 [] [zi v] m Q := by
      intro v505 hv505 hT509
      refine X.reti (zi51 29) rfl t51 ?_
      exact hQ v505 (by first | trivial | omega) (Eq.trans (if_pos h502c) (Eq.trans (zn_eq hT509.symm) rfl)) 
    refine X.iflt 28 24 (zi51 21) rfl rfl rfl (fun h504 => ?_) (fun h504 => ?_)
    · have h504c : a1 < 0 := by omega
      clear h504 hz503
      refine X.cut [] (zi51 28) rfl ?_
      refine X.iconst 29 (zi51 28) rfl rfl (by decide) ?_
      exact hK508 3 (by first | trivial | omega) (Eq.trans (if_pos h504c) rfl)
    · have h504c : ¬ a1 < 0 := by omega
      clear h504 hz503
      refine X.iconst 25 (zi51 24) rfl rfl (by decide) ?_
      refine X.goto 29 (zi51 25) rfl rfl ?_
      refine X.cut [] (zi51 29) rfl ?_
      exact hK508 2 (by first | trivial | omega) (Eq.trans (if_neg h504c) rfl)
  · have h502c : ¬ a0 < 0 := by omega
    clear h502 hz501
    refine X.lload_n 7 (zi51 6) rfl rfl rfl ?_
    refine X.lconst (y := 0) 8 (zi51 7) rfl rfl rfl ?_
    refine X.lcmp 9 (zi51 8) rfl rfl (fun z510 hz510 => ?_)
    have hK515 : ∀ (v : Int) , (1 ≤ v ∧ v ≤ 4) → (if a1 < 0 then
        (4)
        else
        (1)) = v → X (EE s) d 51 17 [] [zi v] m Q := by
      intro v512 hv512 hT516
      refine X.reti (zi51 17) rfl t51 ?_
      exact hQ v512 (by first | trivial | omega) (Eq.trans (if_neg h502c) (Eq.trans (zn_eq hT516.symm) rfl)) 
    refine X.iflt 16 12 (zi51 9) rfl rfl rfl (fun h511 => ?_) (fun h511 => ?_)
    · have h511c : a1 < 0 := by omega
      clear h511 hz510
      refine X.cut [] (zi51 16) rfl ?_
      refine X.iconst 17 (zi51 16) rfl rfl (by decide) ?_
      exact hK515 4 (by first | trivial | omega) (Eq.trans (if_pos h511c) rfl)
    · have h511c : ¬ a1 < 0 := by omega
      clear h511 hz510
      refine X.iconst 13 (zi51 12) rfl rfl (by decide) ?_
      refine X.goto 17 (zi51 13) rfl rfl ?_
      refine X.cut [] (zi51 17) rfl ?_
      exact hK515 1 (by first | trivial | omega) (Eq.trans (if_neg h511c) rfl)
-- WorkMeter$Registers.count
noncomputable def f50_1 (g0 : Nat) (a1 a2 a3 a4 : Int) (m : zM) : zM :=
  zs (if a2 ≤ 0 then
  (zn (w64 ((m g0 24 (4 + a1)) - a2)) fun z503 =>
  zs (z_upd m g0 24 (4 + a1) z503) fun m504 =>
  m504)
  else
  (zn (w64 ((m g0 24 (0 + a1)) + a2)) fun z506 =>
  zs (z_upd m g0 24 (0 + a1) z506) fun m507 =>
  m507)) fun m510 =>
  zn (f51_1 a2 a3 m510) fun v516 =>
  zn (w64 (max a3 (-a3))) fun z517 =>
  zn (w64 ((m510 g0 24 ((((2 + v516) - 1) * 4) + a1)) + z517)) fun z518 =>
  zs (z_upd m510 g0 24 ((((2 + v516) - 1) * 4) + a1) z518) fun m519 =>
  zn (w64 ((m519 g0 24 (24 + a1)) + a4)) fun z521 =>
  zs (z_upd m519 g0 24 (24 + a1) z521) fun m522 =>
  m522
-- WorkMeter$Registers.count
theorem c50_1 {s : Nat × (Nat → Int32)} {S : zS} {m0 m : zM} {B : Int} {d : Nat} {Q : Option zV → zM → Prop} (g0 : Nat) (a1 a2 a3 a4 : Int) (hd : 14 ≤ d) (hJ : J S m0 B m) (hB : B + 0 ≤ 1000000000) (ha1 : 0 ≤ a1 ∧ a1 ≤ 3) (hf10 : ¬ S.1 10) (hgg0 : ¬ S.2.1 g0) (hQ : ∀ m', f50_1 g0 a1 a2 a3 a4 m = m' → J S m0 (B) m' → Q none m') : X (EE s) d 50 0 [(0, zr g0 23), (1, zi a1), (2, zl a2), (4, zl a3), (6, zl a4)] [] m Q := by
  refine X.lload_n 1 (zi50 0) rfl rfl rfl ?_
  refine X.lconst (y := 0) 2 (zi50 1) rfl rfl rfl ?_
  refine X.lcmp 3 (zi50 2) rfl rfl (fun z501 hz501 => ?_)
  have hK512 : ∀ (m' : zM), (if a2 ≤ 0 then
      (zn (w64 ((m g0 24 (4 + a1)) - a2)) fun z503 =>
      zs (z_upd m g0 24 (4 + a1) z503) fun m504 =>
      m504)
      else
      (zn (w64 ((m g0 24 (0 + a1)) + a2)) fun z506 =>
      zs (z_upd m g0 24 (0 + a1) z506) fun m507 =>
      m507)) = m' → J S m0 (B) m' → X (EE s) d 50 33 [(0, zr g0 23), (1, zi a1), (2, zl a2), (4, zl a3), (6, zl a4)] [] m' Q := by
    intro m510 hT513 hJ511
    refine X.iconst 34 (zi50 33) rfl rfl (by decide) ?_
    refine X.lload_n 35 (zi50 34) rfl rfl rfl ?_
    refine X.lload 37 (zi50 35) rfl rfl rfl ?_
    refine X.calls 40 [zl a2, zl a3] [zi 2] [(0, zl a2), (2, zl a3)] (zi50 37) (by decide) rfl rfl (by omega) rfl rfl t51 (Nat.le_of_ble_eq_true rfl) (Nat.le_of_ble_eq_true rfl) rfl ?_
    refine c51_1 (B := B)  a2 a3 (by omega) (hJ511.up (by omega)) (by omega)  (fun v516 hv516 hFv516 => ?_)
    show X (EE s) d 50 40 [(0, zr g0 23), (1, zi a1), (2, zl a2), (4, zl a3), (6, zl a4)] [zi v516, zi 2] m510 _
    refine X.iadd 41 (zi50 40) rfl rfl (by omega) ?_
    refine X.iconst 42 (zi50 41) rfl rfl (by decide) ?_
    refine X.isub 43 (zi50 42) rfl rfl (by omega) ?_
    refine X.istore 45 [(0, zr g0 23), (1, zi a1), (2, zl a2), (4, zl a3), (6, zl a4), (8, zi ((2 + v516) - 1))] (zi50 43) rfl rfl rfl ?_
    refine X.aload_n 46 (zi50 45) rfl rfl rfl ?_
    refine X.getR 49 (zi50 46) rfl rfl (by decide) rfl rfl ?_
    refine X.iload 51 (zi50 49) rfl rfl rfl ?_
    refine X.iconst 52 (zi50 51) rfl rfl (by decide) ?_
    refine X.imul 53 (zi50 52) rfl rfl (by omega) ?_
    refine X.iload_n 54 (zi50 53) rfl rfl rfl ?_
    refine X.iadd 55 (zi50 54) rfl rfl (by omega) ?_
    refine X.dup2 56 (zi50 55) rfl rfl ?_
    refine X.lald 57 (zi50 56) rfl rfl (by decide) rfl (by omega) ?_
    refine X.lload 59 (zi50 57) rfl rfl rfl ?_
    refine X.absW 62 (zi50 59) rfl rfl (by omega) (Nat.le_of_ble_eq_true rfl) (fun z517 ez517 hz517 => ?_)
    refine X.laddW 63 (zi50 62) rfl rfl (fun z518 ez518 hz518 => ?_)
    refine X.last' 64 (zi50 63) rfl rfl (by decide) rfl (by omega) (fun hrm519 m519 hm519 => ?_)
    have hJ520 := w24_0 hJ511 hm519 (by omega) hrm519 hf10 hgg0
    refine X.aload_n 65 (zi50 64) rfl rfl rfl ?_
    refine X.getR 68 (zi50 65) rfl rfl (by decide) rfl rfl ?_
    refine X.bipush 70 (zi50 68) rfl rfl (by decide) ?_
    refine X.iload_n 71 (zi50 70) rfl rfl rfl ?_
    refine X.iadd 72 (zi50 71) rfl rfl (by omega) ?_
    refine X.dup2 73 (zi50 72) rfl rfl ?_
    refine X.lald 74 (zi50 73) rfl rfl (by decide) rfl (by omega) ?_
    refine X.lload 76 (zi50 74) rfl rfl rfl ?_
    refine X.laddW 77 (zi50 76) rfl rfl (fun z521 ez521 hz521 => ?_)
    refine X.last' 78 (zi50 77) rfl rfl (by decide) rfl (by omega) (fun hrm522 m522 hm522 => ?_)
    have hJ523 := w24_0 hJ520 hm522 (by omega) hrm522 hf10 hgg0
    refine X.retv (zi50 78) rfl t50 ?_
    exact hQ  m522  (Eq.trans (zs_eq hT513.symm) (Eq.trans (zn_eq hFv516.symm) (Eq.trans (zn_eq ez517) (Eq.trans (zn_eq ez518) (Eq.trans (zs_eq hm519) (Eq.trans (zn_eq ez521) (Eq.trans (zs_eq hm522) rfl))))))) (hJ523.up (by omega)) 
  refine X.ifle 21 6 (zi50 3) rfl rfl rfl (fun h502 => ?_) (fun h502 => ?_)
  · have h502c : a2 ≤ 0 := by omega
    clear h502 hz501
    refine X.aload_n 22 (zi50 21) rfl rfl rfl ?_
    refine X.getR 25 (zi50 22) rfl rfl (by decide) rfl rfl ?_
    refine X.iconst 26 (zi50 25) rfl rfl (by decide) ?_
    refine X.iload_n 27 (zi50 26) rfl rfl rfl ?_
    refine X.iadd 28 (zi50 27) rfl rfl (by omega) ?_
    refine X.dup2 29 (zi50 28) rfl rfl ?_
    refine X.lald 30 (zi50 29) rfl rfl (by decide) rfl (by omega) ?_
    refine X.lload_n 31 (zi50 30) rfl rfl rfl ?_
    refine X.lsubW 32 (zi50 31) rfl rfl (fun z503 ez503 hz503 => ?_)
    refine X.last' 33 (zi50 32) rfl rfl (by decide) rfl (by omega) (fun hrm504 m504 hm504 => ?_)
    have hJ505 := w24_0 hJ hm504 (by omega) hrm504 hf10 hgg0
    exact hK512 m504 (Eq.trans (if_pos h502c) (Eq.trans (zn_eq ez503) (Eq.trans (zs_eq hm504) rfl))) (hJ505.up (by omega))
  · have h502c : ¬ a2 ≤ 0 := by omega
    clear h502 hz501
    refine X.aload_n 7 (zi50 6) rfl rfl rfl ?_
    refine X.getR 10 (zi50 7) rfl rfl (by decide) rfl rfl ?_
    refine X.iconst 11 (zi50 10) rfl rfl (by decide) ?_
    refine X.iload_n 12 (zi50 11) rfl rfl rfl ?_
    refine X.iadd 13 (zi50 12) rfl rfl (by omega) ?_
    refine X.dup2 14 (zi50 13) rfl rfl ?_
    refine X.lald 15 (zi50 14) rfl rfl (by decide) rfl (by omega) ?_
    refine X.lload_n 16 (zi50 15) rfl rfl rfl ?_
    refine X.laddW 17 (zi50 16) rfl rfl (fun z506 ez506 hz506 => ?_)
    refine X.last' 18 (zi50 17) rfl rfl (by decide) rfl (by omega) (fun hrm507 m507 hm507 => ?_)
    have hJ508 := w24_0 hJ hm507 (by omega) hrm507 hf10 hgg0
    refine X.goto 33 (zi50 18) rfl rfl ?_
    exact hK512 m507 (Eq.trans (if_neg h502c) (Eq.trans (zn_eq ez506) (Eq.trans (zs_eq hm507) rfl))) (hJ508.up (by omega))
-- WorkMeter$Load.addPower
noncomputable def f52_1 (g0 : Nat) (a1 a2 : Int) (m : zM) : zM :=
  zs (if a1 ≤ 0 then
  (zn (w64 ((m g0 27 4) - a1)) fun z503 =>
  zs (z_upd m g0 27 4 z503) fun m504 =>
  m504)
  else
  (zn (w64 ((m g0 27 3) + a1)) fun z506 =>
  zs (z_upd m g0 27 3 z506) fun m507 =>
  m507)) fun m510 =>
  zn (w64 ((m510 g0 27 5) + a2)) fun z514 =>
  zs (z_upd m510 g0 27 5 z514) fun m515 =>
  m515
-- WorkMeter$Load.addPower
theorem c52_1 {s : Nat × (Nat → Int32)} {S : zS} {m0 m : zM} {B : Int} {d : Nat} {Q : Option zV → zM → Prop} (g0 : Nat) (a1 a2 : Int) (hd : 13 ≤ d) (hJ : J S m0 B m) (hB : B + 0 ≤ 1000000000) (hf7 : ¬ S.1 7) (hgg0 : ¬ S.2.1 g0) (hQ : ∀ m', f52_1 g0 a1 a2 m = m' → J S m0 (B) m' → Q none m') : X (EE s) d 52 0 [(0, zr g0 27), (1, zl a1), (3, zl a2)] [] m Q := by
  refine X.lload_n 1 (zi52 0) rfl rfl rfl ?_
  refine X.lconst (y := 0) 2 (zi52 1) rfl rfl rfl ?_
  refine X.lcmp 3 (zi52 2) rfl rfl (fun z501 hz501 => ?_)
  have hK512 : ∀ (m' : zM), (if a1 ≤ 0 then
      (zn (w64 ((m g0 27 4) - a1)) fun z503 =>
      zs (z_upd m g0 27 4 z503) fun m504 =>
      m504)
      else
      (zn (w64 ((m g0 27 3) + a1)) fun z506 =>
      zs (z_upd m g0 27 3 z506) fun m507 =>
      m507)) = m' → J S m0 (B) m' → X (EE s) d 52 29 [(0, zr g0 27), (3, zl a2)] [] m' Q := by
    intro m510 hT513 hJ511
    refine X.aload_n 30 (zi52 29) rfl rfl rfl ?_
    refine X.dup 31 (zi52 30) rfl rfl rfl ?_
    refine X.getL 34 5 (zi52 31) rfl rfl (by decide) rfl rfl rfl ?_
    refine X.lload_n 35 (zi52 34) rfl rfl rfl ?_
    refine X.laddW 36 (zi52 35) rfl rfl (fun z514 ez514 hz514 => ?_)
    refine X.putL' 39 5 (zi52 36) rfl rfl (by decide) rfl rfl rfl (fun hrm515 m515 hm515 => ?_)
    have hJ516 := w27_3 hJ511 hm515 (by omega) hrm515 hf7 hgg0
    refine X.retv (zi52 39) rfl t52 ?_
    exact hQ  m515  (Eq.trans (zs_eq hT513.symm) (Eq.trans (zn_eq ez514) (Eq.trans (zs_eq hm515) rfl))) (hJ516.up (by omega)) 
  refine X.ifle 19 6 (zi52 3) rfl rfl rfl (fun h502 => ?_) (fun h502 => ?_)
  · have h502c : a1 ≤ 0 := by omega
    clear h502 hz501
    refine X.aload_n 20 (zi52 19) rfl rfl rfl ?_
    refine X.dup 21 (zi52 20) rfl rfl rfl ?_
    refine X.getL 24 4 (zi52 21) rfl rfl (by decide) rfl rfl rfl ?_
    refine X.lload_n 25 (zi52 24) rfl rfl rfl ?_
    refine X.lsubW 26 (zi52 25) rfl rfl (fun z503 ez503 hz503 => ?_)
    refine X.putL' 29 4 (zi52 26) rfl rfl (by decide) rfl rfl rfl (fun hrm504 m504 hm504 => ?_)
    have hJ505 := w27_3 hJ hm504 (by omega) hrm504 hf7 hgg0
    refine X.cut [(0, zr g0 27), (3, zl a2)] (zi52 29) rfl ?_
    exact hK512 m504 (Eq.trans (if_pos h502c) (Eq.trans (zn_eq ez503) (Eq.trans (zs_eq hm504) rfl))) (hJ505.up (by omega))
  · have h502c : ¬ a1 ≤ 0 := by omega
    clear h502 hz501
    refine X.aload_n 7 (zi52 6) rfl rfl rfl ?_
    refine X.dup 8 (zi52 7) rfl rfl rfl ?_
    refine X.getL 11 3 (zi52 8) rfl rfl (by decide) rfl rfl rfl ?_
    refine X.lload_n 12 (zi52 11) rfl rfl rfl ?_
    refine X.laddW 13 (zi52 12) rfl rfl (fun z506 ez506 hz506 => ?_)
    refine X.putL' 16 3 (zi52 13) rfl rfl (by decide) rfl rfl rfl (fun hrm507 m507 hm507 => ?_)
    have hJ508 := w27_3 hJ hm507 (by omega) hrm507 hf7 hgg0
    refine X.goto 29 (zi52 16) rfl rfl ?_
    refine X.cut [(0, zr g0 27), (3, zl a2)] (zi52 29) rfl ?_
    exact hK512 m507 (Eq.trans (if_neg h502c) (Eq.trans (zn_eq ez506) (Eq.trans (zs_eq hm507) rfl))) (hJ508.up (by omega))
-- WorkMeter$Meter.meterPower
noncomputable def f49_1 (g0 : Nat) (a1 a2 : Int) (m : zM) : zM :=
  zn (f44_1 g0 m) fun v503 =>
  if v503 = 0 then
  (if (m g0 8 12) = 0 then
  (zn (w64 ((m g0 22 3) * a1)) fun z507 =>
  zn (w64 ((m g0 19 6) * a1)) fun z508 =>
  zn (w64 (((m g0 24 (0 + a2))).tdiv (max 1 (m g0 10 1)))) fun z510 =>
  zn (w64 ((m g0 22 7) * a1)) fun z511 =>
  zs (f50_1 g0 a2 z507 z511 z508 m) fun m512 =>
  zn (w64 (((m512 g0 24 (0 + a2))).tdiv (max 1 (m512 g0 10 1)))) fun z516 =>
  zn (w64 (z516 - z510)) fun z517 =>
  zn (w64 (z517 * (m512 g0 10 (6 + a2)))) fun z519 =>
  zn (w64 ((m512 g0 8 10) - z519)) fun z520 =>
  zs (z_upd m512 g0 8 10 z520) fun m521 =>
  zs (f52_1 g0 z507 z508 m521) fun m523 =>
  m523)
  else
  (m))
  else
  (zn (w32 ((m g0 8 14) + a1)) fun z527 =>
  zs (z_upd m g0 8 14 z527) fun m528 =>
  m528)
-- WorkMeter$Meter.meterPower
theorem c49_1 {s : Nat × (Nat → Int32)} {S : zS} {m0 m : zM} {B : Int} {d : Nat} {Q : Option zV → zM → Prop} (g0 : Nat) (a1 a2 : Int) (hd : 15 ≤ d) (hJ : J S m0 B m) (hB : B + 0 ≤ 1000000000) (ha1 : 1 ≤ a1 ∧ a1 ≤ 3600) (ha2 : 0 ≤ a2 ∧ a2 ≤ 3) (hf7 : ¬ S.1 7) (hf10 : ¬ S.1 10) (hf12 : ¬ S.1 12) (hf13 : ¬ S.1 13) (hgg0 : ¬ S.2.1 g0) (hQ : ∀ m', f49_1 g0 a1 a2 m = m' → J S m0 (B) m' → Q none m') : X (EE s) d 49 0 [(0, zr g0 8), (1, zi a1), (2, zi a2)] [] m Q := by
  refine X.aload_n 1 (zi49 0) rfl rfl rfl ?_
  refine X.callv 4 [] [] [(0, zr g0 8)] (zi49 1) rfl (by decide) rfl rfl (by omega) rfl rfl (by decide) rfl t44 (Nat.le_of_ble_eq_true rfl) (Nat.le_of_ble_eq_true rfl) rfl ?_
  refine c44_1 (B := B) g0  (by omega) (hJ.up (by omega)) (by omega)  (fun v503 hv503 hFv503 => ?_)
  show X (EE s) d 49 4 [(0, zr g0 8), (1, zi a1), (2, zi a2)] [zi v503] m _
  refine X.ifeq 18 7 (zi49 4) rfl rfl rfl (fun h504 => ?_) (fun h504 => ?_)
  · refine X.aload_n 19 (zi49 18) rfl rfl rfl ?_
    refine X.getZ 22 12 (zi49 19) rfl rfl (by decide) rfl rfl rfl (fun h505 => ?_)
    refine X.ifeq 26 25 (zi49 22) rfl rfl rfl (fun h506 => ?_) (fun h506 => ?_)
    · refine X.aload_n 27 (zi49 26) rfl rfl rfl ?_
      refine X.getR 30 (zi49 27) rfl rfl (by decide) rfl rfl ?_
      refine X.callv 33 [] [] [(0, zr g0 19)] (zi49 30) rfl (by decide) rfl rfl (by omega) rfl rfl (by decide) rfl t42 (Nat.le_of_ble_eq_true rfl) (Nat.le_of_ble_eq_true rfl) rfl ?_
      refine X.aload_n 1 (zi42 0) rfl rfl rfl ?_
      refine X.getR 4 (zi42 1) rfl rfl (by decide) rfl rfl ?_
      refine X.iconst 5 (zi42 4) rfl rfl (by decide) ?_
      refine X.lald 6 (zi42 5) rfl rfl (by decide) rfl (by omega) ?_
      refine X.retl (zi42 6) rfl t42 ?_
      show X (EE s) d 49 33 [(0, zr g0 8), (1, zi a1), (2, zi a2)] [zl (m g0 22 3)] m _
      refine X.iload_n 34 (zi49 33) rfl rfl rfl ?_
      refine X.i2l 35 (zi49 34) rfl rfl ?_
      refine X.lmulW 36 (zi49 35) rfl rfl (fun z507 ez507 hz507 => ?_)
      refine X.lstore_n 37 [(0, zr g0 8), (1, zi a1), (2, zi a2), (3, zl z507)] (zi49 36) rfl rfl rfl ?_
      refine X.aload_n 38 (zi49 37) rfl rfl rfl ?_
      refine X.getR 41 (zi49 38) rfl rfl (by decide) rfl rfl ?_
      refine X.getL 44 6 (zi49 41) rfl rfl (by decide) rfl rfl rfl ?_
      refine X.iload_n 45 (zi49 44) rfl rfl rfl ?_
      refine X.i2l 46 (zi49 45) rfl rfl ?_
      refine X.lmulW 47 (zi49 46) rfl rfl (fun z508 ez508 hz508 => ?_)
      refine X.lstore 49 [(0, zr g0 8), (1, zi a1), (2, zi a2), (3, zl z507), (5, zl z508)] (zi49 47) rfl rfl rfl ?_
      refine X.aload_n 50 (zi49 49) rfl rfl rfl ?_
      refine X.getR 53 (zi49 50) rfl rfl (by decide) rfl rfl ?_
      refine X.iload_n 54 (zi49 53) rfl rfl rfl ?_
      refine X.callv 57 [zi a2] [] [(0, zr g0 23), (1, zi a2)] (zi49 54) rfl (by decide) rfl rfl (by omega) rfl rfl (by decide) rfl t47 (Nat.le_of_ble_eq_true rfl) (Nat.le_of_ble_eq_true rfl) rfl ?_
      refine X.aload_n 1 (zi47 0) rfl rfl rfl ?_
      refine X.getR 4 (zi47 1) rfl rfl (by decide) rfl rfl ?_
      refine X.iconst 5 (zi47 4) rfl rfl (by decide) ?_
      refine X.iload_n 6 (zi47 5) rfl rfl rfl ?_
      refine X.iadd 7 (zi47 6) rfl rfl (by omega) ?_
      refine X.lald 8 (zi47 7) rfl rfl (by decide) rfl (by omega) ?_
      refine X.retl (zi47 8) rfl t47 ?_
      show X (EE s) d 49 57 [(0, zr g0 8), (1, zi a1), (2, zi a2), (3, zl z507), (5, zl z508)] [zl (m g0 24 (0 + a2))] m _
      refine X.aload_n 58 (zi49 57) rfl rfl rfl ?_
      refine X.getR 61 (zi49 58) rfl rfl (by decide) rfl rfl ?_
      refine X.callv 64 [] [zl (m g0 24 (0 + a2))] [(0, zr g0 9)] (zi49 61) rfl (by decide) rfl rfl (by omega) rfl rfl (by decide) rfl t48 (Nat.le_of_ble_eq_true rfl) (Nat.le_of_ble_eq_true rfl) rfl ?_
      refine X.iconst 1 (zi48 0) rfl rfl (by decide) ?_
      refine X.aload_n 2 (zi48 1) rfl rfl rfl ?_
      refine X.getR 5 (zi48 2) rfl rfl (by decide) rfl rfl ?_
      refine X.iconst 6 (zi48 5) rfl rfl (by decide) ?_
      refine X.iald 7 (zi48 6) rfl rfl (by decide) rfl (by omega) ?_
      have h509 := r10_0 hJ g0 (i := 1) (by omega)
      refine X.maxI 10 (zi48 7) rfl rfl (by omega) (Nat.le_of_ble_eq_true rfl) ?_
      refine X.reti (zi48 10) rfl t48 ?_
      show X (EE s) d 49 64 [(0, zr g0 8), (1, zi a1), (2, zi a2), (3, zl z507), (5, zl z508)] [zi (max 1 (m g0 10 1)), zl (m g0 24 (0 + a2))] m _
      refine X.i2l 65 (zi49 64) rfl rfl ?_
      refine X.ldivW 66 (zi49 65) rfl rfl (by omega) (fun z510 ez510 hz510 => ?_)
      refine X.lstore 68 [(0, zr g0 8), (1, zi a1), (2, zi a2), (3, zl z507), (5, zl z508), (7, zl z510)] (zi49 66) rfl rfl rfl ?_
      refine X.aload_n 69 (zi49 68) rfl rfl rfl ?_
      refine X.getR 72 (zi49 69) rfl rfl (by decide) rfl rfl ?_
      refine X.iload_n 73 (zi49 72) rfl rfl rfl ?_
      refine X.lload_n 74 (zi49 73) rfl rfl rfl ?_
      refine X.aload_n 75 (zi49 74) rfl rfl rfl ?_
      refine X.getR 78 (zi49 75) rfl rfl (by decide) rfl rfl ?_
      refine X.callv 81 [] [zl z507, zi a2, zr g0 23] [(0, zr g0 19)] (zi49 78) rfl (by decide) rfl rfl (by omega) rfl rfl (by decide) rfl t46 (Nat.le_of_ble_eq_true rfl) (Nat.le_of_ble_eq_true rfl) rfl ?_
      refine X.aload_n 1 (zi46 0) rfl rfl rfl ?_
      refine X.getR 4 (zi46 1) rfl rfl (by decide) rfl rfl ?_
      refine X.bipush 6 (zi46 4) rfl rfl (by decide) ?_
      refine X.lald 7 (zi46 6) rfl rfl (by decide) rfl (by omega) ?_
      refine X.retl (zi46 7) rfl t46 ?_
      show X (EE s) d 49 81 [(0, zr g0 8), (1, zi a1), (2, zi a2), (3, zl z507), (5, zl z508), (7, zl z510)] [zl (m g0 22 7), zl z507, zi a2, zr g0 23] m _
      refine X.iload_n 82 (zi49 81) rfl rfl rfl ?_
      refine X.i2l 83 (zi49 82) rfl rfl ?_
      refine X.lmulW 84 (zi49 83) rfl rfl (fun z511 ez511 hz511 => ?_)
      refine X.lload 86 (zi49 84) rfl rfl rfl ?_
      refine X.callv 89 [zi a2, zl z507, zl z511, zl z508] [] [(0, zr g0 23), (1, zi a2), (2, zl z507), (4, zl z511), (6, zl z508)] (zi49 86) rfl (by decide) rfl rfl (by omega) rfl rfl (by decide) rfl t50 (Nat.le_of_ble_eq_true rfl) (Nat.le_of_ble_eq_true rfl) rfl ?_
      refine c50_1 (B := B) g0 a2 z507 z511 z508 (by omega) (hJ.up (by omega)) (by omega) (by omega) hf10 hgg0 (fun m512 hFv514 hJ513 => ?_)
      show X (EE s) d 49 89 [(0, zr g0 8), (1, zi a1), (2, zi a2), (3, zl z507), (5, zl z508), (7, zl z510)] [] m512 _
      refine X.aload_n 90 (zi49 89) rfl rfl rfl ?_
      refine X.getR 93 (zi49 90) rfl rfl (by decide) rfl rfl ?_
      refine X.iload_n 94 (zi49 93) rfl rfl rfl ?_
      refine X.callv 97 [zi a2] [] [(0, zr g0 23), (1, zi a2)] (zi49 94) rfl (by decide) rfl rfl (by omega) rfl rfl (by decide) rfl t47 (Nat.le_of_ble_eq_true rfl) (Nat.le_of_ble_eq_true rfl) rfl ?_
      refine X.aload_n 1 (zi47 0) rfl rfl rfl ?_
      refine X.getR 4 (zi47 1) rfl rfl (by decide) rfl rfl ?_
      refine X.iconst 5 (zi47 4) rfl rfl (by decide) ?_
      refine X.iload_n 6 (zi47 5) rfl rfl rfl ?_
      refine X.iadd 7 (zi47 6) rfl rfl (by omega) ?_
      refine X.lald 8 (zi47 7) rfl rfl (by decide) rfl (by omega) ?_
      refine X.retl (zi47 8) rfl t47 ?_
      show X (EE s) d 49 97 [(0, zr g0 8), (1, zi a1), (2, zi a2), (3, zl z507), (5, zl z508), (7, zl z510)] [zl (m512 g0 24 (0 + a2))] m512 _
      refine X.aload_n 98 (zi49 97) rfl rfl rfl ?_
      refine X.getR 101 (zi49 98) rfl rfl (by decide) rfl rfl ?_
      refine X.callv 104 [] [zl (m512 g0 24 (0 + a2))] [(0, zr g0 9)] (zi49 101) rfl (by decide) rfl rfl (by omega) rfl rfl (by decide) rfl t48 (Nat.le_of_ble_eq_true rfl) (Nat.le_of_ble_eq_true rfl) rfl ?_
      refine X.iconst 1 (zi48 0) rfl rfl (by decide) ?_
      refine X.aload_n 2 (zi48 1) rfl rfl rfl ?_
      refine X.getR 5 (zi48 2) rfl rfl (by decide) rfl rfl ?_
      refine X.iconst 6 (zi48 5) rfl rfl (by decide) ?_
      refine X.iald 7 (zi48 6) rfl rfl (by decide) rfl (by omega) ?_
      have h515 := r10_0 hJ513 g0 (i := 1) (by omega)
      refine X.maxI 10 (zi48 7) rfl rfl (by omega) (Nat.le_of_ble_eq_true rfl) ?_
      refine X.reti (zi48 10) rfl t48 ?_
      show X (EE s) d 49 104 [(0, zr g0 8), (1, zi a1), (2, zi a2), (3, zl z507), (5, zl z508), (7, zl z510)] [zi (max 1 (m512 g0 10 1)), zl (m512 g0 24 (0 + a2))] m512 _
      refine X.i2l 105 (zi49 104) rfl rfl ?_
      refine X.ldivW 106 (zi49 105) rfl rfl (by omega) (fun z516 ez516 hz516 => ?_)
      refine X.lload 108 (zi49 106) rfl rfl rfl ?_
      refine X.lsubW 109 (zi49 108) rfl rfl (fun z517 ez517 hz517 => ?_)
      refine X.lstore 111 [(0, zr g0 8), (1, zi a1), (2, zi a2), (3, zl z507), (5, zl z508), (7, zl z510), (9, zl z517)] (zi49 109) rfl rfl rfl ?_
      refine X.aload_n 112 (zi49 111) rfl rfl rfl ?_
      refine X.dup 113 (zi49 112) rfl rfl rfl ?_
      refine X.getL 116 10 (zi49 113) rfl rfl (by decide) rfl rfl rfl ?_
      refine X.lload 118 (zi49 116) rfl rfl rfl ?_
      refine X.aload_n 119 (zi49 118) rfl rfl rfl ?_
      refine X.getR 122 (zi49 119) rfl rfl (by decide) rfl rfl ?_
      refine X.iload_n 123 (zi49 122) rfl rfl rfl ?_
      refine X.callv 126 [zi a2] [zl z517, zl (m512 g0 8 10), zr g0 8] [(0, zr g0 9), (1, zi a2)] (zi49 123) rfl (by decide) rfl rfl (by omega) rfl rfl (by decide) rfl t43 (Nat.le_of_ble_eq_true rfl) (Nat.le_of_ble_eq_true rfl) rfl ?_
      refine X.aload_n 1 (zi43 0) rfl rfl rfl ?_
      refine X.getR 4 (zi43 1) rfl rfl (by decide) rfl rfl ?_
      refine X.bipush 6 (zi43 4) rfl rfl (by decide) ?_
      refine X.iload_n 7 (zi43 6) rfl rfl rfl ?_
      refine X.iadd 8 (zi43 7) rfl rfl (by omega) ?_
      refine X.iald 9 (zi43 8) rfl rfl (by decide) rfl (by omega) ?_
      have h518 := r10_6 hJ513 g0 (i := (6 + a2)) (by omega)
      refine X.reti (zi43 9) rfl t43 ?_
      show X (EE s) d 49 126 [(0, zr g0 8), (1, zi a1), (2, zi a2), (3, zl z507), (5, zl z508), (7, zl z510), (9, zl z517)] [zi (m512 g0 10 (6 + a2)), zl z517, zl (m512 g0 8 10), zr g0 8] m512 _
      refine X.i2l 127 (zi49 126) rfl rfl ?_
      refine X.lmulW 128 (zi49 127) rfl rfl (fun z519 ez519 hz519 => ?_)
      refine X.lsubW 129 (zi49 128) rfl rfl (fun z520 ez520 hz520 => ?_)
      refine X.putL' 132 10 (zi49 129) rfl rfl (by decide) rfl rfl rfl (fun hrm521 m521 hm521 => ?_)
      have hJ522 := w8_10 hJ513 hm521 hrm521 hf12 hgg0
      refine X.aload_n 133 (zi49 132) rfl rfl rfl ?_
      refine X.getR 136 (zi49 133) rfl rfl (by decide) rfl rfl ?_
      refine X.lload_n 137 (zi49 136) rfl rfl rfl ?_
      refine X.lload 139 (zi49 137) rfl rfl rfl ?_
      refine X.callv 142 [zl z507, zl z508] [] [(0, zr g0 27), (1, zl z507), (3, zl z508)] (zi49 139) rfl (by decide) rfl rfl (by omega) rfl rfl (by decide) rfl t52 (Nat.le_of_ble_eq_true rfl) (Nat.le_of_ble_eq_true rfl) rfl ?_
      refine c52_1 (B := B) g0 z507 z508 (by omega) (hJ522.up (by omega)) (by omega)  hf7 hgg0 (fun m523 hFv525 hJ524 => ?_)
      show X (EE s) d 49 142 [(0, zr g0 8), (1, zi a1), (2, zi a2), (3, zl z507), (5, zl z508), (7, zl z510), (9, zl z517)] [] m523 _
      refine X.retv (zi49 142) rfl t49 ?_
      exact hQ  m523  (Eq.trans (zn_eq hFv503.symm) (Eq.trans (if_pos h504) (Eq.trans (if_pos h506) (Eq.trans (zn_eq ez507) (Eq.trans (zn_eq ez508) (Eq.trans (zn_eq ez510) (Eq.trans (zn_eq ez511) (Eq.trans (zs_eq hFv514.symm) (Eq.trans (zn_eq ez516) (Eq.trans (zn_eq ez517) (Eq.trans (zn_eq ez519) (Eq.trans (zn_eq ez520) (Eq.trans (zs_eq hm521) (Eq.trans (zs_eq hFv525.symm) rfl)))))))))))))) (hJ524.up (by omega)) 
    · refine X.retv (zi49 25) rfl t49 ?_
      exact hQ  m  (Eq.trans (zn_eq hFv503.symm) (Eq.trans (if_pos h504) (Eq.trans (if_neg h506) rfl))) (hJ.up (by omega)) 
  · refine X.aload_n 8 (zi49 7) rfl rfl rfl ?_
    refine X.dup 9 (zi49 8) rfl rfl rfl ?_
    refine X.getIr 12 14 (zi49 9) rfl rfl (by decide) rfl rfl rfl (fun h526 => ?_)
    refine X.iload_n 13 (zi49 12) rfl rfl rfl ?_
    refine X.iaddW 14 (zi49 13) rfl rfl (fun z527 ez527 hz527 => ?_)
    refine X.putI' 17 14 (zi49 14) rfl rfl (by decide) rfl rfl rfl (fun hrm528 m528 hm528 => ?_)
    have hJ529 := w8_13 hJ hm528 (by omega) hrm528 hf13 hgg0
    refine X.retv (zi49 17) rfl t49 ?_
    exact hQ  m528  (Eq.trans (zn_eq hFv503.symm) (Eq.trans (if_neg h504) (Eq.trans (zn_eq ez527) (Eq.trans (zs_eq hm528) rfl)))) (hJ529.up (by omega)) 
-- WorkMeter$Logbook.add
noncomputable def f55_1 (g0 : Nat) (a1 a2 a3 : Int) (m : zM) : zM :=
  zs (z_upd m g0 38 (((m g0 37 1) % 40) * 3) a1) fun m502 =>
  zs (z_upd m502 g0 38 ((((m g0 37 1) % 40) * 3) + 1) a2) fun m504 =>
  zs (z_upd m504 g0 38 ((((m g0 37 1) % 40) * 3) + 2) a3) fun m506 =>
  zs (z_upd m506 g0 37 1 ((m506 g0 37 1) + 1)) fun m509 =>
  m509
-- WorkMeter$Logbook.add
theorem c55_1 {s : Nat × (Nat → Int32)} {S : zS} {m0 m : zM} {B : Int} {d : Nat} {Q : Option zV → zM → Prop} (g0 : Nat) (a1 a2 a3 : Int) (hd : 13 ≤ d) (hJ : J S m0 B m) (hB : B + 1 ≤ 1000000000) (ha1 : (-2147483648) ≤ a1 ∧ a1 ≤ 2147483647) (ha2 : 0 ≤ a2 ∧ a2 ≤ 40) (ha3 : (-2147483648) ≤ a3 ∧ a3 ≤ 2147483647) (hf6 : ¬ S.1 6) (hgg0 : ¬ S.2.1 g0) (hQ : ∀ m', f55_1 g0 a1 a2 a3 m = m' → J S m0 (B + 1) m' → Q none m') : X (EE s) d 55 0 [(0, zr g0 37), (1, zi a1), (2, zi a2), (3, zi a3)] [] m Q := by
  refine X.aload_n 1 (zi55 0) rfl rfl rfl ?_
  refine X.getI 4 1 (zi55 1) rfl rfl (by decide) rfl rfl rfl ?_
  have h501 := r37_1 hJ g0
  refine X.bipush 6 (zi55 4) rfl rfl (by decide) ?_
  refine X.irem 7 (zi55 6) rfl rfl (by omega) ?_
  refine X.iconst 8 (zi55 7) rfl rfl (by decide) ?_
  refine X.imul 9 (zi55 8) rfl rfl (by omega) ?_
  refine X.istore 11 [(0, zr g0 37), (1, zi a1), (2, zi a2), (3, zi a3), (4, zi (((m g0 37 1) % 40) * 3))] (zi55 9) rfl rfl rfl ?_
  refine X.aload_n 12 (zi55 11) rfl rfl rfl ?_
  refine X.getR 15 (zi55 12) rfl rfl (by decide) rfl rfl ?_
  refine X.iload 17 (zi55 15) rfl rfl rfl ?_
  refine X.iload_n 18 (zi55 17) rfl rfl rfl ?_
  refine X.iast' 19 (zi55 18) rfl rfl (by decide) rfl (by omega) (fun hrm502 m502 hm502 => ?_)
  have hJ503 := w38_0 hJ hm502 (by omega) hrm502 hf6 hgg0
  refine X.aload_n 20 (zi55 19) rfl rfl rfl ?_
  refine X.getR 23 (zi55 20) rfl rfl (by decide) rfl rfl ?_
  refine X.iload 25 (zi55 23) rfl rfl rfl ?_
  refine X.iconst 26 (zi55 25) rfl rfl (by decide) ?_
  refine X.iadd 27 (zi55 26) rfl rfl (by omega) ?_
  refine X.iload_n 28 (zi55 27) rfl rfl rfl ?_
  refine X.iast' 29 (zi55 28) rfl rfl (by decide) rfl (by omega) (fun hrm504 m504 hm504 => ?_)
  have hJ505 := w38_0 hJ503 hm504 (by omega) hrm504 hf6 hgg0
  refine X.aload_n 30 (zi55 29) rfl rfl rfl ?_
  refine X.getR 33 (zi55 30) rfl rfl (by decide) rfl rfl ?_
  refine X.iload 35 (zi55 33) rfl rfl rfl ?_
  refine X.iconst 36 (zi55 35) rfl rfl (by decide) ?_
  refine X.iadd 37 (zi55 36) rfl rfl (by omega) ?_
  refine X.iload_n 38 (zi55 37) rfl rfl rfl ?_
  refine X.iast' 39 (zi55 38) rfl rfl (by decide) rfl (by omega) (fun hrm506 m506 hm506 => ?_)
  have hJ507 := w38_0 hJ505 hm506 (by omega) hrm506 hf6 hgg0
  refine X.aload_n 40 (zi55 39) rfl rfl rfl ?_
  refine X.dup 41 (zi55 40) rfl rfl rfl ?_
  refine X.getI 44 1 (zi55 41) rfl rfl (by decide) rfl rfl rfl ?_
  have h508 := r37_1 hJ507 g0
  refine X.iconst 45 (zi55 44) rfl rfl (by decide) ?_
  refine X.iadd 46 (zi55 45) rfl rfl (by omega) ?_
  refine X.putI' 49 1 (zi55 46) rfl rfl (by decide) rfl rfl rfl (fun hrm509 m509 hm509 => ?_)
  have hJ510 := w37_1 (hJ507.up (B' := B + 1) (by omega)) hm509 (by omega) hf6 hgg0
  refine X.retv (zi55 49) rfl t55 ?_
  exact hQ  m509  (Eq.trans (zs_eq hm502) (Eq.trans (zs_eq hm504) (Eq.trans (zs_eq hm506) (Eq.trans (zs_eq hm509) rfl)))) (hJ510.up (by omega)) 
-- WorkMeter$Meter.note
noncomputable def f54_1 (g0 : Nat) (a1 a2 : Int) (m : zM) : zM :=
  zs (f55_1 g0 (m g0 8 9) a1 a2 m) fun m502 =>
  m502
-- WorkMeter$Meter.note
theorem c54_1 {s : Nat × (Nat → Int32)} {S : zS} {m0 m : zM} {B : Int} {d : Nat} {Q : Option zV → zM → Prop} (g0 : Nat) (a1 a2 : Int) (hd : 14 ≤ d) (hJ : J S m0 B m) (hB : B + 1 ≤ 1000000000) (ha1 : 22 ≤ a1 ∧ a1 ≤ 23) (ha2 : 0 ≤ a2 ∧ a2 ≤ 0) (hf6 : ¬ S.1 6) (hgg0 : ¬ S.2.1 g0) (hQ : ∀ m', f54_1 g0 a1 a2 m = m' → J S m0 (B + 1) m' → Q none m') : X (EE s) d 54 0 [(0, zr g0 8), (1, zi a1), (2, zi a2)] [] m Q := by
  refine X.aload_n 1 (zi54 0) rfl rfl rfl ?_
  refine X.getR 4 (zi54 1) rfl rfl (by decide) rfl rfl ?_
  refine X.aload_n 5 (zi54 4) rfl rfl rfl ?_
  refine X.getI 8 9 (zi54 5) rfl rfl (by decide) rfl rfl rfl ?_
  have h501 := r8_9 hJ g0
  refine X.iload_n 9 (zi54 8) rfl rfl rfl ?_
  refine X.iload_n 10 (zi54 9) rfl rfl rfl ?_
  refine X.callv 13 [zi (m g0 8 9), zi a1, zi a2] [] [(0, zr g0 37), (1, zi (m g0 8 9)), (2, zi a1), (3, zi a2)] (zi54 10) rfl (by decide) rfl rfl (by omega) rfl rfl (by decide) rfl t55 (Nat.le_of_ble_eq_true rfl) (Nat.le_of_ble_eq_true rfl) rfl ?_
  refine c55_1 (B := B) g0 (m g0 8 9) a1 a2 (by omega) (hJ.up (by omega)) (by omega) (by omega) (by omega) (by omega) hf6 hgg0 (fun m502 hFv504 hJ503 => ?_)
  show X (EE s) d 54 13 [(0, zr g0 8), (1, zi a1), (2, zi a2)] [] m502 _
  refine X.retv (zi54 13) rfl t54 ?_
  exact hQ  m502  (Eq.trans (zs_eq hFv504.symm) rfl) (hJ503.up (by omega)) 
-- WorkMeter$Meter.settleSwitch
noncomputable def f53_1 (g0 : Nat) (m : zM) : zM :=
  zn (if (m g0 8 11) = 0 then
  (0)
  else
  (if (m g0 8 10) ≤ 0 then
  (1)
  else
  (0))) fun v505 =>
  zs (if v505 = (m g0 8 12) then
  (m)
  else
  (zs (z_upd m g0 8 12 v505) fun m512 =>
  zn (if (m512 g0 8 12) = 0 then
  (23)
  else
  (22)) fun v516 =>
  zs (f54_1 g0 v516 0 m512) fun m521 =>
  m521)) fun m525 =>
  m525
end
