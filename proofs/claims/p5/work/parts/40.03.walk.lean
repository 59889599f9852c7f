theorem l205_139_1 {s : Nat × (Nat → Int32)} {S : zS} {m0 : zM} {d : Nat} {Q : Option zV → zM → Prop} {R0 : Int × zM} {k173 : zM → Int × zM} (BE : Int) (hE : BE ≤ 1000000000) (hd : 13 ≤ d) (hf22 : ¬ S.1 22) (hg4 : ¬ S.2.1 4)
    (K173 : ∀ (m' : zM) (B' : Int), J S m0 B' m' → B' ≤ BE → R0 = k173 m' → X (EE s) d 205 173 [(0, zr 4 44)] [] m' Q) :
    ∀ (n : Nat) (y4 : Int) (m : zM) (B : Int), J S m0 B m → B + 0 * (n : Int) ≤ BE → (0 ≤ y4 ∧ y4 ≤ 96) → 96 - y4 < (n : Int) → R0 = fl205_139_1 k173 n y4 m → X (EE s) d 205 139 [(0, zr 4 44), (4, zi y4)] [] m Q := by
  intro n
  induction n with
  | zero =>
    intro y4 m B hJ hB hy4 hn hR
    exfalso
    omega
  | succ n ih =>
    intro y4 m B hJ hB hy4 hn hR
    replace hR : R0 = fl205_139_1_b (fl205_139_1 k173 n) k173 y4 m := hR
    refine X.iload 141 i205_139 rfl rfl rfl ?_
    refine X.bipush 143 i205_141 rfl rfl (by decide) ?_
    refine X.icmpge 173 146 i205_143 rfl rfl rfl (fun h505 => ?_) (fun h505 => ?_)
    · refine X.cut [(0, zr 4 44)] i205_173 rfl ?_
      exact K173  m (B) (hJ.up (by omega)) (by omega)  (Eq.trans hR (Eq.trans (if_pos h505) rfl))
    · refine X.aload_n 147 i205_146 rfl rfl rfl ?_
      refine X.getF 150 i205_147 rfl rfl (by decide) rfl rfl ?_
      refine X.bipush 152 i205_150 rfl rfl (by decide) ?_
      refine X.iload 154 i205_152 rfl rfl rfl ?_
      refine X.iadd 155 i205_154 rfl rfl (by omega) ?_
      refine X.aload_n 156 i205_155 rfl rfl rfl ?_
      refine X.getF 159 i205_156 rfl rfl (by decide) rfl rfl ?_
      refine X.sipush 162 i205_159 rfl rfl (by decide) ?_
      refine X.iload 164 i205_162 rfl rfl rfl ?_
      refine X.iadd 165 i205_164 rfl rfl (by omega) ?_
      refine X.lald 166 i205_165 rfl rfl (by decide) rfl (by omega) ?_
      have h506 := r45_95 hJ 4 (i := (191 + y4)) (by omega)
      refine X.last' 167 i205_166 rfl rfl (by decide) rfl (by omega) (fun hrm507 m507 hm507 => ?_)
      have hJ508 := w45_95 hJ hm507 (by omega) (by omega) hf22 hg4
      refine X.iinc 170 [(0, zr 4 44), (4, zi (y4 + 1))] i205_167 rfl rfl rfl (by omega) rfl ?_
      refine X.goto 139 i205_170 rfl rfl ?_
      exact ih (y4 + 1) m507 (B) (hJ508.up (by omega)) (by omega) (by omega) (by omega) (Eq.trans hR (Eq.trans (if_neg h505) (Eq.trans (zs_eq hm507) rfl)))
noncomputable def fl213_5_1_b (self : Int → Int → Int) (k48 : Int → Int) (y1 y2 : Int) (m : zM) (y3 y5 : Int) : Int :=
  if (m 4 45 2) ≤ y5 then
  (k48 y3)
  else
  (zn (((m 4 45 ((y1 + (16 * y2)) + y5)) * (m 4 45 ((y1 + (16 * y2)) + y5)))) fun z509 =>
  self (y3 + z509) (y5 + 1))
noncomputable def fl213_5_1 (k48 : Int → Int) (y1 y2 : Int) (m : zM) : Nat → Int → Int → Int
  | 0 => fun y3 y5 => 0
  | n + 1 => fl213_5_1_b (fl213_5_1 k48 y1 y2 m n) k48 y1 y2 m
theorem l213_5_1 {s : Nat × (Nat → Int32)} {S : zS} {m0 : zM} {m : zM} {B : Int} {d : Nat} {Q : Option zV → zM → Prop} {R0 : Int} {k48 : Int → Int} (y1 y2 : Int) (hd : 13 ≤ d) (hJ : J S m0 B m) (hB9 : B ≤ 1000000000) (hy1 : 95 ≤ y1 ∧ y1 ≤ 143) (hy2 : 0 ≤ y2 ∧ y2 ≤ 2)
    (K48 : ∀ (x3 : Int) , (0 ≤ x3 ∧ x3 ≤ 4000000) → R0 = k48 x3 → X (EE s) d 213 48 [(3, zl x3)] [] m Q) :
    ∀ (n : Nat) (y3 y5 : Int) , (0 ≤ y3 ∧ y3 ≤ 4000000) → (0 ≤ y5 ∧ y5 ≤ 16) → (y3 ≤ 250000 * y5) → 16 - y5 < (n : Int) → R0 = fl213_5_1 k48 y1 y2 m n y3 y5 → X (EE s) d 213 5 [(0, zr 4 44), (1, zi y1), (2, zi y2), (3, zl y3), (5, zi y5)] [] m Q := by
  intro n
  induction n with
  | zero =>
    intro y3 y5 hy3 hy5 hr0 hn hR
    exfalso
    omega
  | succ n ih =>
    intro y3 y5 hy3 hy5 hr0 hn hR
    replace hR : R0 = fl213_5_1_b (fl213_5_1 k48 y1 y2 m n) k48 y1 y2 m y3 y5 := hR
    refine X.iload 7 i213_5 rfl rfl rfl ?_
    refine X.aload_n 8 i213_7 rfl rfl rfl ?_
    refine X.callv 11 [] [zi y5] [(0, zr 4 44)] i213_8 rfl (by decide) rfl rfl (by omega) rfl rfl (by decide) rfl t211 (Nat.le_of_ble_eq_true rfl) (Nat.le_of_ble_eq_true rfl) rfl ?_
    refine X.aload_n 1 i211_0 rfl rfl rfl ?_
    refine X.getF 4 i211_1 rfl rfl (by decide) rfl rfl ?_
    refine X.iconst 5 i211_4 rfl rfl (by decide) ?_
    refine X.lald 6 i211_5 rfl rfl (by decide) rfl (by omega) ?_
    have h506 := r45_2 hJ 4
    refine X.l2i 7 i211_6 rfl rfl (by omega) ?_
    refine X.reti i211_7 rfl t211 ?_
    show X (EE s) d 213 11 [(0, zr 4 44), (1, zi y1), (2, zi y2), (3, zl y3), (5, zi y5)] [zi (m 4 45 2), zi y5] m _
    refine X.icmpge 48 14 i213_11 rfl rfl rfl (fun h507 => ?_) (fun h507 => ?_)
    · refine X.cut [(3, zl y3)] i213_48 rfl ?_
      exact K48 y3 (by first | trivial | omega) (Eq.trans hR (Eq.trans (if_pos h507) rfl))
    · refine X.lload_n 15 i213_14 rfl rfl rfl ?_
      refine X.aload_n 16 i213_15 rfl rfl rfl ?_
      refine X.getF 19 i213_16 rfl rfl (by decide) rfl rfl ?_
      refine X.iload_n 20 i213_19 rfl rfl rfl ?_
      refine X.iload_n 21 i213_20 rfl rfl rfl ?_
      refine X.iload 23 i213_21 rfl rfl rfl ?_
      refine X.calls 26 [zi y1, zi y2, zi y5] [zr 4 45, zl y3] [(0, zi y1), (1, zi y2), (2, zi y5)] i213_23 (by decide) rfl rfl (by omega) rfl rfl t207 (Nat.le_of_ble_eq_true rfl) (Nat.le_of_ble_eq_true rfl) rfl ?_
      refine X.iload_n 1 i207_0 rfl rfl rfl ?_
      refine X.bipush 3 i207_1 rfl rfl (by decide) ?_
      refine X.iload_n 4 i207_3 rfl rfl rfl ?_
      refine X.imul 5 i207_4 rfl rfl (by omega) ?_
      refine X.iadd 6 i207_5 rfl rfl (by omega) ?_
      refine X.iload_n 7 i207_6 rfl rfl rfl ?_
      refine X.iadd 8 i207_7 rfl rfl (by omega) ?_
      refine X.reti i207_8 rfl t207 ?_
      show X (EE s) d 213 26 [(0, zr 4 44), (1, zi y1), (2, zi y2), (3, zl y3), (5, zi y5)] [zi ((y1 + (16 * y2)) + y5), zr 4 45, zl y3] m _
      refine X.lald 27 i213_26 rfl rfl (by decide) rfl (by omega) ?_
      have h508 := r45_95 hJ 4 (i := ((y1 + (16 * y2)) + y5)) (by omega)
      refine X.aload_n 28 i213_27 rfl rfl rfl ?_
      refine X.getF 31 i213_28 rfl rfl (by decide) rfl rfl ?_
      refine X.iload_n 32 i213_31 rfl rfl rfl ?_
      refine X.iload_n 33 i213_32 rfl rfl rfl ?_
      refine X.iload 35 i213_33 rfl rfl rfl ?_
      refine X.calls 38 [zi y1, zi y2, zi y5] [zr 4 45, zl (m 4 45 ((y1 + (16 * y2)) + y5)), zl y3] [(0, zi y1), (1, zi y2), (2, zi y5)] i213_35 (by decide) rfl rfl (by omega) rfl rfl t207 (Nat.le_of_ble_eq_true rfl) (Nat.le_of_ble_eq_true rfl) rfl ?_
      refine X.iload_n 1 i207_0 rfl rfl rfl ?_
      refine X.bipush 3 i207_1 rfl rfl (by decide) ?_
      refine X.iload_n 4 i207_3 rfl rfl rfl ?_
      refine X.imul 5 i207_4 rfl rfl (by omega) ?_
      refine X.iadd 6 i207_5 rfl rfl (by omega) ?_
      refine X.iload_n 7 i207_6 rfl rfl rfl ?_
      refine X.iadd 8 i207_7 rfl rfl (by omega) ?_
      refine X.reti i207_8 rfl t207 ?_
      show X (EE s) d 213 38 [(0, zr 4 44), (1, zi y1), (2, zi y2), (3, zl y3), (5, zi y5)] [zi ((y1 + (16 * y2)) + y5), zr 4 45, zl (m 4 45 ((y1 + (16 * y2)) + y5)), zl y3] m _
      refine X.lald 39 i213_38 rfl rfl (by decide) rfl (by omega) ?_
      have hz509 := z_sqr (e := 500) (x := (m 4 45 ((y1 + (16 * y2)) + y5))) (by omega)
      refine X.lmul 40 i213_39 rfl rfl (z_in3 hz509 (by decide) (by decide)) ?_
      obtain ⟨z509, ez509⟩ : ∃ z, z = ((m 4 45 ((y1 + (16 * y2)) + y5)) * (m 4 45 ((y1 + (16 * y2)) + y5))) := ⟨_, rfl⟩
      rw [← ez509] at hz509 ⊢
      have gz509 : 0 ≤ z509 ∧ z509 ≤ 250000 := z_in3 hz509 (by decide) (by decide)
      clear hz509
      refine X.ladd 41 i213_40 rfl rfl (by omega) ?_
      refine X.lstore_n 42 [(0, zr 4 44), (1, zi y1), (2, zi y2), (3, zl (y3 + z509)), (5, zi y5)] i213_41 rfl rfl rfl ?_
      refine X.iinc 45 [(0, zr 4 44), (1, zi y1), (2, zi y2), (3, zl (y3 + z509)), (5, zi (y5 + 1))] i213_42 rfl rfl rfl (by omega) rfl ?_
      refine X.goto 5 i213_45 rfl rfl ?_
      exact ih (y3 + z509) (y5 + 1) (by omega) (by omega) (by omega) (by omega) (Eq.trans hR (Eq.trans (if_neg h507) (Eq.trans (zn_eq ez509) rfl)))
-- WorkMeterModel.squares
noncomputable def f213_1 (a1 a2 : Int) (m : zM) : Int :=
  fl213_5_1 (fun y501 =>
  y501) a1 a2 m (zfu 17) 0 0
-- WorkMeterModel.squares
theorem c213_1 {s : Nat × (Nat → Int32)} {S : zS} {m0 m : zM} {B : Int} {d : Nat} {Q : Option zV → zM → Prop} (a1 a2 : Int) (hd : 13 ≤ d) (hJ : J S m0 B m) (hB : B + 0 ≤ 1000000000) (ha1 : 95 ≤ a1 ∧ a1 ≤ 143) (ha2 : 0 ≤ a2 ∧ a2 ≤ 2) (hQ : ∀ (v : Int), (0 ≤ v ∧ v ≤ 4000000) → f213_1 a1 a2 m = v → Q (some (zl v)) m) : X (EE s) d 213 0 [(0, zr 4 44), (1, zi a1), (2, zi a2)] [] m Q := by
  refine X.lconst (y := 0) 1 i213_0 rfl rfl rfl ?_
  refine X.lstore_n 2 [(0, zr 4 44), (1, zi a1), (2, zi a2), (3, zl 0)] i213_1 rfl rfl rfl ?_
  refine X.iconst 3 i213_2 rfl rfl (by decide) ?_
  refine X.istore 5 [(0, zr 4 44), (1, zi a1), (2, zi a2), (3, zl 0), (5, zi 0)] i213_3 rfl rfl rfl ?_
  have hz17 := zfu_eq 17
  refine l213_5_1 (s := s) (m := m) (B := B) (d := d) (R0 := (f213_1 a1 a2 m))  a1 a2  (by omega) (hJ.up (by omega)) (by omega) (by omega) (by omega) (fun y501 hby501 hR505 => ?_) (zfu 17) 0 0 (by omega) (by omega) (by omega) (by omega) rfl
  refine X.lload_n 49 i213_48 rfl rfl rfl ?_
  refine X.retl i213_49 rfl t213 ?_
  exact hQ y501 (by first | trivial | omega) (Eq.trans hR505 rfl) 
noncomputable def fl212_5_1_b (self : Int → Int → Int) (k63 : Int → Int) (y1 : Int) (m : zM) (y2 y4 : Int) : Int :=
  if (m 4 45 2) ≤ y4 then
  (k63 y2)
  else
  (zn (((y4 + ((m 4 45 2) / 4)) % (m 4 45 2))) fun z511 =>
  zn (((m 4 45 ((95 + (16 * y1)) + y4)) * (m 4 45 ((143 + (16 * y1)) + z511)))) fun z513 =>
  self (y2 + z513) (y4 + 1))
noncomputable def fl212_5_1 (k63 : Int → Int) (y1 : Int) (m : zM) : Nat → Int → Int → Int
  | 0 => fun y2 y4 => 0
  | n + 1 => fl212_5_1_b (fl212_5_1 k63 y1 m n) k63 y1 m
theorem l212_5_1 {s : Nat × (Nat → Int32)} {S : zS} {m0 : zM} {m : zM} {B : Int} {d : Nat} {Q : Option zV → zM → Prop} {R0 : Int} {k63 : Int → Int} (y1 : Int) (hd : 13 ≤ d) (hJ : J S m0 B m) (hB9 : B ≤ 1000000000) (hy1 : 0 ≤ y1 ∧ y1 ≤ 2)
    (K63 : ∀ (x2 : Int) , ((-4000000) ≤ x2 ∧ x2 ≤ 4000000) → R0 = k63 x2 → X (EE s) d 212 63 [(2, zl x2)] [] m Q) :
    ∀ (n : Nat) (y2 y4 : Int) , ((-4000000) ≤ y2 ∧ y2 ≤ 4000000) → (0 ≤ y4 ∧ y4 ≤ 16) → (-250000 * y4 ≤ y2) → (y2 ≤ 250000 * y4) → 16 - y4 < (n : Int) → R0 = fl212_5_1 k63 y1 m n y2 y4 → X (EE s) d 212 5 [(0, zr 4 44), (1, zi y1), (2, zl y2), (4, zi y4)] [] m Q := by
  intro n
  induction n with
  | zero =>
    intro y2 y4 hy2 hy4 hr0 hr1 hn hR
    exfalso
    omega
  | succ n ih =>
    intro y2 y4 hy2 hy4 hr0 hr1 hn hR
    replace hR : R0 = fl212_5_1_b (fl212_5_1 k63 y1 m n) k63 y1 m y2 y4 := hR
    refine X.iload 7 i212_5 rfl rfl rfl ?_
    refine X.aload_n 8 i212_7 rfl rfl rfl ?_
    refine X.callv 11 [] [zi y4] [(0, zr 4 44)] i212_8 rfl (by decide) rfl rfl (by omega) rfl rfl (by decide) rfl t211 (Nat.le_of_ble_eq_true rfl) (Nat.le_of_ble_eq_true rfl) rfl ?_
    refine X.aload_n 1 i211_0 rfl rfl rfl ?_
    refine X.getF 4 i211_1 rfl rfl (by decide) rfl rfl ?_
    refine X.iconst 5 i211_4 rfl rfl (by decide) ?_
    refine X.lald 6 i211_5 rfl rfl (by decide) rfl (by omega) ?_
    have h508 := r45_2 hJ 4
    refine X.l2i 7 i211_6 rfl rfl (by omega) ?_
    refine X.reti i211_7 rfl t211 ?_
    show X (EE s) d 212 11 [(0, zr 4 44), (1, zi y1), (2, zl y2), (4, zi y4)] [zi (m 4 45 2), zi y4] m _
    refine X.icmpge 63 14 i212_11 rfl rfl rfl (fun h509 => ?_) (fun h509 => ?_)
    · refine X.cut [(2, zl y2)] i212_63 rfl ?_
      exact K63 y2 (by first | trivial | omega) (Eq.trans hR (Eq.trans (if_pos h509) rfl))
    · refine X.lload_n 15 i212_14 rfl rfl rfl ?_
      refine X.aload_n 16 i212_15 rfl rfl rfl ?_
      refine X.getF 19 i212_16 rfl rfl (by decide) rfl rfl ?_
      refine X.bipush 21 i212_19 rfl rfl (by decide) ?_
      refine X.iload_n 22 i212_21 rfl rfl rfl ?_
      refine X.iload 24 i212_22 rfl rfl rfl ?_
      refine X.calls 27 [zi 95, zi y1, zi y4] [zr 4 45, zl y2] [(0, zi 95), (1, zi y1), (2, zi y4)] i212_24 (by decide) rfl rfl (by omega) rfl rfl t207 (Nat.le_of_ble_eq_true rfl) (Nat.le_of_ble_eq_true rfl) rfl ?_
      refine X.iload_n 1 i207_0 rfl rfl rfl ?_
      refine X.bipush 3 i207_1 rfl rfl (by decide) ?_
      refine X.iload_n 4 i207_3 rfl rfl rfl ?_
      refine X.imul 5 i207_4 rfl rfl (by omega) ?_
      refine X.iadd 6 i207_5 rfl rfl (by omega) ?_
      refine X.iload_n 7 i207_6 rfl rfl rfl ?_
      refine X.iadd 8 i207_7 rfl rfl (by omega) ?_
      refine X.reti i207_8 rfl t207 ?_
      show X (EE s) d 212 27 [(0, zr 4 44), (1, zi y1), (2, zl y2), (4, zi y4)] [zi ((95 + (16 * y1)) + y4), zr 4 45, zl y2] m _
      refine X.lald 28 i212_27 rfl rfl (by decide) rfl (by omega) ?_
      have h510 := r45_95 hJ 4 (i := ((95 + (16 * y1)) + y4)) (by omega)
      refine X.aload_n 29 i212_28 rfl rfl rfl ?_
      refine X.getF 32 i212_29 rfl rfl (by decide) rfl rfl ?_
      refine X.sipush 35 i212_32 rfl rfl (by decide) ?_
      refine X.iload_n 36 i212_35 rfl rfl rfl ?_
      refine X.iload 38 i212_36 rfl rfl rfl ?_
      refine X.aload_n 39 i212_38 rfl rfl rfl ?_
      refine X.callv 42 [] [zi y4, zi y1, zi 143, zr 4 45, zl (m 4 45 ((95 + (16 * y1)) + y4)), zl y2] [(0, zr 4 44)] i212_39 rfl (by decide) rfl rfl (by omega) rfl rfl (by decide) rfl t211 (Nat.le_of_ble_eq_true rfl) (Nat.le_of_ble_eq_true rfl) rfl ?_
      refine X.aload_n 1 i211_0 rfl rfl rfl ?_
      refine X.getF 4 i211_1 rfl rfl (by decide) rfl rfl ?_
      refine X.iconst 5 i211_4 rfl rfl (by decide) ?_
      refine X.lald 6 i211_5 rfl rfl (by decide) rfl (by omega) ?_
      refine X.l2i 7 i211_6 rfl rfl (by omega) ?_
      refine X.reti i211_7 rfl t211 ?_
      show X (EE s) d 212 42 [(0, zr 4 44), (1, zi y1), (2, zl y2), (4, zi y4)] [zi (m 4 45 2), zi y4, zi y1, zi 143, zr 4 45, zl (m 4 45 ((95 + (16 * y1)) + y4)), zl y2] m _
      refine X.iconst 43 i212_42 rfl rfl (by decide) ?_
      refine X.idiv 44 i212_43 rfl rfl (by omega) ?_
      refine X.iadd 45 i212_44 rfl rfl (by omega) ?_
      refine X.aload_n 46 i212_45 rfl rfl rfl ?_
      refine X.callv 49 [] [zi (y4 + ((m 4 45 2) / 4)), zi y1, zi 143, zr 4 45, zl (m 4 45 ((95 + (16 * y1)) + y4)), zl y2] [(0, zr 4 44)] i212_46 rfl (by decide) rfl rfl (by omega) rfl rfl (by decide) rfl t211 (Nat.le_of_ble_eq_true rfl) (Nat.le_of_ble_eq_true rfl) rfl ?_
      refine X.aload_n 1 i211_0 rfl rfl rfl ?_
      refine X.getF 4 i211_1 rfl rfl (by decide) rfl rfl ?_
      refine X.iconst 5 i211_4 rfl rfl (by decide) ?_
      refine X.lald 6 i211_5 rfl rfl (by decide) rfl (by omega) ?_
      refine X.l2i 7 i211_6 rfl rfl (by omega) ?_
      refine X.reti i211_7 rfl t211 ?_
      show X (EE s) d 212 49 [(0, zr 4 44), (1, zi y1), (2, zl y2), (4, zi y4)] [zi (m 4 45 2), zi (y4 + ((m 4 45 2) / 4)), zi y1, zi 143, zr 4 45, zl (m 4 45 ((95 + (16 * y1)) + y4)), zl y2] m _
      refine X.irem 50 i212_49 rfl rfl (by omega) ?_
      have hz511 := z_modb (x := (y4 + ((m 4 45 2) / 4))) (y := (m 4 45 2)) (by omega) (by omega)
      obtain ⟨z511, ez511⟩ : ∃ z, z = ((y4 + ((m 4 45 2) / 4)) % (m 4 45 2)) := ⟨_, rfl⟩
      rw [← ez511] at hz511 ⊢
      refine X.calls 53 [zi 143, zi y1, zi z511] [zr 4 45, zl (m 4 45 ((95 + (16 * y1)) + y4)), zl y2] [(0, zi 143), (1, zi y1), (2, zi z511)] i212_50 (by decide) rfl rfl (by omega) rfl rfl t207 (Nat.le_of_ble_eq_true rfl) (Nat.le_of_ble_eq_true rfl) rfl ?_
      refine X.iload_n 1 i207_0 rfl rfl rfl ?_
      refine X.bipush 3 i207_1 rfl rfl (by decide) ?_
      refine X.iload_n 4 i207_3 rfl rfl rfl ?_
      refine X.imul 5 i207_4 rfl rfl (by omega) ?_
      refine X.iadd 6 i207_5 rfl rfl (by omega) ?_
      refine X.iload_n 7 i207_6 rfl rfl rfl ?_
      refine X.iadd 8 i207_7 rfl rfl (by omega) ?_
      refine X.reti i207_8 rfl t207 ?_
      show X (EE s) d 212 53 [(0, zr 4 44), (1, zi y1), (2, zl y2), (4, zi y4)] [zi ((143 + (16 * y1)) + z511), zr 4 45, zl (m 4 45 ((95 + (16 * y1)) + y4)), zl y2] m _
      refine X.lald 54 i212_53 rfl rfl (by decide) rfl (by omega) ?_
      have h512 := r45_95 hJ 4 (i := ((143 + (16 * y1)) + z511)) (by omega)
      have hz513 := z_mulr (a := (-500)) (b := 500) (c := (-500)) (e := 500) (x := (m 4 45 ((95 + (16 * y1)) + y4))) (y := (m 4 45 ((143 + (16 * y1)) + z511))) (by omega) (by omega)
      refine X.lmul 55 i212_54 rfl rfl (z_in3 hz513 (by decide) (by decide)) ?_
      obtain ⟨z513, ez513⟩ : ∃ z, z = ((m 4 45 ((95 + (16 * y1)) + y4)) * (m 4 45 ((143 + (16 * y1)) + z511))) := ⟨_, rfl⟩
      rw [← ez513] at hz513 ⊢
      have gz513 : (-250000) ≤ z513 ∧ z513 ≤ 250000 := z_in3 hz513 (by decide) (by decide)
      clear hz513
      refine X.ladd 56 i212_55 rfl rfl (by omega) ?_
      refine X.lstore_n 57 [(0, zr 4 44), (1, zi y1), (2, zl (y2 + z513)), (4, zi y4)] i212_56 rfl rfl rfl ?_
      refine X.iinc 60 [(0, zr 4 44), (1, zi y1), (2, zl (y2 + z513)), (4, zi (y4 + 1))] i212_57 rfl rfl rfl (by omega) rfl ?_
      refine X.goto 5 i212_60 rfl rfl ?_
      exact ih (y2 + z513) (y4 + 1) (by omega) (by omega) (by omega) (by omega) (by omega) (Eq.trans hR (Eq.trans (if_neg h509) (Eq.trans (zn_eq ez511) (Eq.trans (zn_eq ez513) rfl))))
-- WorkMeterModel.reactive
noncomputable def f212_1 (a1 : Int) (m : zM) : Int :=
  fl212_5_1 (fun y501 =>
  y501) a1 m (zfu 17) 0 0
-- WorkMeterModel.reactive
theorem c212_1 {s : Nat × (Nat → Int32)} {S : zS} {m0 m : zM} {B : Int} {d : Nat} {Q : Option zV → zM → Prop} (a1 : Int) (hd : 13 ≤ d) (hJ : J S m0 B m) (hB : B + 0 ≤ 1000000000) (ha1 : 0 ≤ a1 ∧ a1 ≤ 2) (hQ : ∀ (v : Int), ((-4000000) ≤ v ∧ v ≤ 4000000) → f212_1 a1 m = v → Q (some (zl v)) m) : X (EE s) d 212 0 [(0, zr 4 44), (1, zi a1)] [] m Q := by
  refine X.lconst (y := 0) 1 i212_0 rfl rfl rfl ?_
  refine X.lstore_n 2 [(0, zr 4 44), (1, zi a1), (2, zl 0)] i212_1 rfl rfl rfl ?_
  refine X.iconst 3 i212_2 rfl rfl (by decide) ?_
  refine X.istore 5 [(0, zr 4 44), (1, zi a1), (2, zl 0), (4, zi 0)] i212_3 rfl rfl rfl ?_
  have hz17 := zfu_eq 17
  refine l212_5_1 (s := s) (m := m) (B := B) (d := d) (R0 := (f212_1 a1 m))  a1  (by omega) (hJ.up (by omega)) (by omega) (by omega) (fun y501 hby501 hR505 => ?_) (zfu 17) 0 0 (by omega) (by omega) (by omega) (by omega) (by omega) rfl
  refine X.lload_n 64 i212_63 rfl rfl rfl ?_
  refine X.retl i212_64 rfl t212 ?_
  exact hQ y501 (by first | trivial | omega) (Eq.trans hR505 rfl) 
noncomputable def fl210_5_1_b (self : Int → Int → Int) (k51 : Int → Int) (y1 : Int) (m : zM) (y2 y4 : Int) : Int :=
  if (m 4 45 2) ≤ y4 then
  (k51 y2)
  else
  (zn (((m 4 45 ((95 + (16 * y1)) + y4)) * (m 4 45 ((143 + (16 * y1)) + y4)))) fun z511 =>
  self (y2 + z511) (y4 + 1))
noncomputable def fl210_5_1 (k51 : Int → Int) (y1 : Int) (m : zM) : Nat → Int → Int → Int
  | 0 => fun y2 y4 => 0
  | n + 1 => fl210_5_1_b (fl210_5_1 k51 y1 m n) k51 y1 m
theorem l210_5_1 {s : Nat × (Nat → Int32)} {S : zS} {m0 : zM} {m : zM} {B : Int} {d : Nat} {Q : Option zV → zM → Prop} {R0 : Int} {k51 : Int → Int} (y1 : Int) (hd : 13 ≤ d) (hJ : J S m0 B m) (hB9 : B ≤ 1000000000) (hy1 : 0 ≤ y1 ∧ y1 ≤ 2)
    (K51 : ∀ (x2 : Int) , ((-4000000) ≤ x2 ∧ x2 ≤ 4000000) → R0 = k51 x2 → X (EE s) d 210 51 [(2, zl x2)] [] m Q) :
    ∀ (n : Nat) (y2 y4 : Int) , ((-4000000) ≤ y2 ∧ y2 ≤ 4000000) → (0 ≤ y4 ∧ y4 ≤ 16) → (-250000 * y4 ≤ y2) → (y2 ≤ 250000 * y4) → 16 - y4 < (n : Int) → R0 = fl210_5_1 k51 y1 m n y2 y4 → X (EE s) d 210 5 [(0, zr 4 44), (1, zi y1), (2, zl y2), (4, zi y4)] [] m Q := by
  intro n
  induction n with
  | zero =>
    intro y2 y4 hy2 hy4 hr0 hr1 hn hR
    exfalso
    omega
  | succ n ih =>
    intro y2 y4 hy2 hy4 hr0 hr1 hn hR
    replace hR : R0 = fl210_5_1_b (fl210_5_1 k51 y1 m n) k51 y1 m y2 y4 := hR
    refine X.iload 7 i210_5 rfl rfl rfl ?_
    refine X.aload_n 8 i210_7 rfl rfl rfl ?_
    refine X.callv 11 [] [zi y4] [(0, zr 4 44)] i210_8 rfl (by decide) rfl rfl (by omega) rfl rfl (by decide) rfl t211 (Nat.le_of_ble_eq_true rfl) (Nat.le_of_ble_eq_true rfl) rfl ?_
    refine X.aload_n 1 i211_0 rfl rfl rfl ?_
    refine X.getF 4 i211_1 rfl rfl (by decide) rfl rfl ?_
    refine X.iconst 5 i211_4 rfl rfl (by decide) ?_
    refine X.lald 6 i211_5 rfl rfl (by decide) rfl (by omega) ?_
    have h507 := r45_2 hJ 4
    refine X.l2i 7 i211_6 rfl rfl (by omega) ?_
    refine X.reti i211_7 rfl t211 ?_
    show X (EE s) d 210 11 [(0, zr 4 44), (1, zi y1), (2, zl y2), (4, zi y4)] [zi (m 4 45 2), zi y4] m _
    refine X.icmpge 51 14 i210_11 rfl rfl rfl (fun h508 => ?_) (fun h508 => ?_)
    · refine X.cut [(2, zl y2)] i210_51 rfl ?_
      exact K51 y2 (by first | trivial | omega) (Eq.trans hR (Eq.trans (if_pos h508) rfl))
    · refine X.lload_n 15 i210_14 rfl rfl rfl ?_
      refine X.aload_n 16 i210_15 rfl rfl rfl ?_
      refine X.getF 19 i210_16 rfl rfl (by decide) rfl rfl ?_
      refine X.bipush 21 i210_19 rfl rfl (by decide) ?_
      refine X.iload_n 22 i210_21 rfl rfl rfl ?_
      refine X.iload 24 i210_22 rfl rfl rfl ?_
      refine X.calls 27 [zi 95, zi y1, zi y4] [zr 4 45, zl y2] [(0, zi 95), (1, zi y1), (2, zi y4)] i210_24 (by decide) rfl rfl (by omega) rfl rfl t207 (Nat.le_of_ble_eq_true rfl) (Nat.le_of_ble_eq_true rfl) rfl ?_
      refine X.iload_n 1 i207_0 rfl rfl rfl ?_
      refine X.bipush 3 i207_1 rfl rfl (by decide) ?_
      refine X.iload_n 4 i207_3 rfl rfl rfl ?_
      refine X.imul 5 i207_4 rfl rfl (by omega) ?_
      refine X.iadd 6 i207_5 rfl rfl (by omega) ?_
      refine X.iload_n 7 i207_6 rfl rfl rfl ?_
      refine X.iadd 8 i207_7 rfl rfl (by omega) ?_
      refine X.reti i207_8 rfl t207 ?_
      show X (EE s) d 210 27 [(0, zr 4 44), (1, zi y1), (2, zl y2), (4, zi y4)] [zi ((95 + (16 * y1)) + y4), zr 4 45, zl y2] m _
      refine X.lald 28 i210_27 rfl rfl (by decide) rfl (by omega) ?_
      have h509 := r45_95 hJ 4 (i := ((95 + (16 * y1)) + y4)) (by omega)
      refine X.aload_n 29 i210_28 rfl rfl rfl ?_
      refine X.getF 32 i210_29 rfl rfl (by decide) rfl rfl ?_
      refine X.sipush 35 i210_32 rfl rfl (by decide) ?_
      refine X.iload_n 36 i210_35 rfl rfl rfl ?_
      refine X.iload 38 i210_36 rfl rfl rfl ?_
      refine X.calls 41 [zi 143, zi y1, zi y4] [zr 4 45, zl (m 4 45 ((95 + (16 * y1)) + y4)), zl y2] [(0, zi 143), (1, zi y1), (2, zi y4)] i210_38 (by decide) rfl rfl (by omega) rfl rfl t207 (Nat.le_of_ble_eq_true rfl) (Nat.le_of_ble_eq_true rfl) rfl ?_
      refine X.iload_n 1 i207_0 rfl rfl rfl ?_
      refine X.bipush 3 i207_1 rfl rfl (by decide) ?_
      refine X.iload_n 4 i207_3 rfl rfl rfl ?_
      refine X.imul 5 i207_4 rfl rfl (by omega) ?_
      refine X.iadd 6 i207_5 rfl rfl (by omega) ?_
      refine X.iload_n 7 i207_6 rfl rfl rfl ?_
      refine X.iadd 8 i207_7 rfl rfl (by omega) ?_
      refine X.reti i207_8 rfl t207 ?_
      show X (EE s) d 210 41 [(0, zr 4 44), (1, zi y1), (2, zl y2), (4, zi y4)] [zi ((143 + (16 * y1)) + y4), zr 4 45, zl (m 4 45 ((95 + (16 * y1)) + y4)), zl y2] m _
      refine X.lald 42 i210_41 rfl rfl (by decide) rfl (by omega) ?_
      have h510 := r45_95 hJ 4 (i := ((143 + (16 * y1)) + y4)) (by omega)
      have hz511 := z_mulr (a := (-500)) (b := 500) (c := (-500)) (e := 500) (x := (m 4 45 ((95 + (16 * y1)) + y4))) (y := (m 4 45 ((143 + (16 * y1)) + y4))) (by omega) (by omega)
      refine X.lmul 43 i210_42 rfl rfl (z_in3 hz511 (by decide) (by decide)) ?_
      obtain ⟨z511, ez511⟩ : ∃ z, z = ((m 4 45 ((95 + (16 * y1)) + y4)) * (m 4 45 ((143 + (16 * y1)) + y4))) := ⟨_, rfl⟩
      rw [← ez511] at hz511 ⊢
      have gz511 : (-250000) ≤ z511 ∧ z511 ≤ 250000 := z_in3 hz511 (by decide) (by decide)
      clear hz511
      refine X.ladd 44 i210_43 rfl rfl (by omega) ?_
      refine X.lstore_n 45 [(0, zr 4 44), (1, zi y1), (2, zl (y2 + z511)), (4, zi y4)] i210_44 rfl rfl rfl ?_
      refine X.iinc 48 [(0, zr 4 44), (1, zi y1), (2, zl (y2 + z511)), (4, zi (y4 + 1))] i210_45 rfl rfl rfl (by omega) rfl ?_
      refine X.goto 5 i210_48 rfl rfl ?_
      exact ih (y2 + z511) (y4 + 1) (by omega) (by omega) (by omega) (by omega) (by omega) (Eq.trans hR (Eq.trans (if_neg h508) (Eq.trans (zn_eq ez511) rfl)))
-- WorkMeterModel.active
noncomputable def f210_1 (a1 : Int) (m : zM) : Int :=
  fl210_5_1 (fun y501 =>
  y501) a1 m (zfu 17) 0 0
-- WorkMeterModel.active
theorem c210_1 {s : Nat × (Nat → Int32)} {S : zS} {m0 m : zM} {B : Int} {d : Nat} {Q : Option zV → zM → Prop} (a1 : Int) (hd : 13 ≤ d) (hJ : J S m0 B m) (hB : B + 0 ≤ 1000000000) (ha1 : 0 ≤ a1 ∧ a1 ≤ 2) (hQ : ∀ (v : Int), ((-4000000) ≤ v ∧ v ≤ 4000000) → f210_1 a1 m = v → Q (some (zl v)) m) : X (EE s) d 210 0 [(0, zr 4 44), (1, zi a1)] [] m Q := by
  refine X.lconst (y := 0) 1 i210_0 rfl rfl rfl ?_
  refine X.lstore_n 2 [(0, zr 4 44), (1, zi a1), (2, zl 0)] i210_1 rfl rfl rfl ?_
  refine X.iconst 3 i210_2 rfl rfl (by decide) ?_
  refine X.istore 5 [(0, zr 4 44), (1, zi a1), (2, zl 0), (4, zi 0)] i210_3 rfl rfl rfl ?_
  have hz17 := zfu_eq 17
  refine l210_5_1 (s := s) (m := m) (B := B) (d := d) (R0 := (f210_1 a1 m))  a1  (by omega) (hJ.up (by omega)) (by omega) (by omega) (fun y501 hby501 hR505 => ?_) (zfu 17) 0 0 (by omega) (by omega) (by omega) (by omega) (by omega) rfl
  refine X.lload_n 52 i210_51 rfl rfl rfl ?_
  refine X.retl i210_52 rfl t210 ?_
  exact hQ y501 (by first | trivial | omega) (Eq.trans hR505 rfl) 
noncomputable def fl209_5_1_b (self : Int → Int → Int) (k75 : Int → Int) (y1 : Int) (m : zM) (y2 y4 : Int) : Int :=
  if (m 4 45 1) ≤ y4 then
  (k75 y2)
  else
  (zn (if y1 = 0 then
  (zn (f210_1 y4 m) fun v540 =>
  v540)
  else
  (if y1 = 1 then
  (zn (f212_1 y4 m) fun v537 =>
  v537)
  else
  (if y1 = 2 then
  (zn (f213_1 95 y4 m) fun v534 =>
  v534)
  else
  (zn (f213_1 143 y4 m) fun v531 =>
  v531)))) fun v541 =>
  self (y2 + v541) (y4 + 1))
noncomputable def fl209_5_1 (k75 : Int → Int) (y1 : Int) (m : zM) : Nat → Int → Int → Int
  | 0 => fun y2 y4 => 0
  | n + 1 => fl209_5_1_b (fl209_5_1 k75 y1 m n) k75 y1 m
theorem l209_5_1 {s : Nat × (Nat → Int32)} {S : zS} {m0 : zM} {m : zM} {B : Int} {d : Nat} {Q : Option zV → zM → Prop} {R0 : Int} {k75 : Int → Int} (y1 : Int) (hd : 14 ≤ d) (hJ : J S m0 B m) (hB9 : B ≤ 1000000000) (hy1 : 0 ≤ y1 ∧ y1 ≤ 3)
    (K75 : ∀ (x2 : Int) , ((-12000000) ≤ x2 ∧ x2 ≤ 12000000) → R0 = k75 x2 → X (EE s) d 209 75 [(2, zl x2)] [] m Q) :
    ∀ (n : Nat) (y2 y4 : Int) , ((-12000000) ≤ y2 ∧ y2 ≤ 12000000) → (0 ≤ y4 ∧ y4 ≤ 3) → (-4000000 * y4 ≤ y2) → (y2 ≤ 4000000 * y4) → 3 - y4 < (n : Int) → R0 = fl209_5_1 k75 y1 m n y2 y4 → X (EE s) d 209 5 [(0, zr 4 44), (1, zi y1), (2, zl y2), (4, zi y4)] [] m Q := by
  intro n
  induction n with
  | zero =>
    intro y2 y4 hy2 hy4 hr0 hr1 hn hR
    exfalso
    omega
  | succ n ih =>
    intro y2 y4 hy2 hy4 hr0 hr1 hn hR
    replace hR : R0 = fl209_5_1_b (fl209_5_1 k75 y1 m n) k75 y1 m y2 y4 := hR
    refine X.iload 7 i209_5 rfl rfl rfl ?_
    refine X.aload_n 8 i209_7 rfl rfl rfl ?_
    refine X.callv 11 [] [zi y4] [(0, zr 4 44)] i209_8 rfl (by decide) rfl rfl (by omega) rfl rfl (by decide) rfl t206 (Nat.le_of_ble_eq_true rfl) (Nat.le_of_ble_eq_true rfl) rfl ?_
    refine X.aload_n 1 i206_0 rfl rfl rfl ?_
    refine X.getF 4 i206_1 rfl rfl (by decide) rfl rfl ?_
    refine X.iconst 5 i206_4 rfl rfl (by decide) ?_
    refine X.lald 6 i206_5 rfl rfl (by decide) rfl (by omega) ?_
    have h524 := r45_1 hJ 4
    refine X.l2i 7 i206_6 rfl rfl (by omega) ?_
    refine X.reti i206_7 rfl t206 ?_
    show X (EE s) d 209 11 [(0, zr 4 44), (1, zi y1), (2, zl y2), (4, zi y4)] [zi (m 4 45 1), zi y4] m _
    refine X.icmpge 75 14 i209_11 rfl rfl rfl (fun h525 => ?_) (fun h525 => ?_)
    · refine X.cut [(2, zl y2)] i209_75 rfl ?_
      exact K75 y2 (by first | trivial | omega) (Eq.trans hR (Eq.trans (if_pos h525) rfl))
    · refine X.lload_n 15 i209_14 rfl rfl rfl ?_
      refine X.iload_n 16 i209_15 rfl rfl rfl ?_
      have hK544 : ∀ (v : Int) , ((-4000000) ≤ v ∧ v ≤ 4000000) → (if y1 = 0 then
          (zn (f210_1 y4 m) fun v540 =>
          v540)
          else
          (if y1 = 1 then
          (zn (f212_1 y4 m) fun v537 =>
          v537)
          else
          (if y1 = 2 then
          (zn (f213_1 95 y4 m) fun v534 =>
          v534)
          else
          (zn (f213_1 143 y4 m) fun v531 =>
          v531)))) = v → X (EE s) d 209 67 [(0, zr 4 44), (1, zi y1), (4, zi y4)] [zl v, zl y2] m Q := by
        intro v541 hv541 hT545
        refine X.ladd 68 i209_67 rfl rfl (by omega) ?_
        refine X.lstore_n 69 [(0, zr 4 44), (1, zi y1), (2, zl (y2 + v541)), (4, zi y4)] i209_68 rfl rfl rfl ?_
        refine X.iinc 72 [(0, zr 4 44), (1, zi y1), (2, zl (y2 + v541)), (4, zi (y4 + 1))] i209_69 rfl rfl rfl (by omega) rfl ?_
        refine X.goto 5 i209_72 rfl rfl ?_
        exact ih (y2 + v541) (y4 + 1) (by omega) (by omega) (by omega) (by omega) (by omega) (Eq.trans hR (Eq.trans (if_neg h525) (Eq.trans (zn_eq hT545.symm) rfl)))
      refine X.ifne 28 19 i209_16 rfl rfl rfl (fun h526 => ?_) (fun h526 => ?_)
      · refine X.cut [(0, zr 4 44), (1, zi y1), (4, zi y4)] i209_28 rfl ?_
        refine X.iload_n 29 i209_28 rfl rfl rfl ?_
        refine X.iconst 30 i209_29 rfl rfl (by decide) ?_
        refine X.icmpne 42 33 i209_30 rfl rfl rfl (fun h527 => ?_) (fun h527 => ?_)
        · refine X.iload_n 43 i209_42 rfl rfl rfl ?_
          refine X.iconst 44 i209_43 rfl rfl (by decide) ?_
          refine X.icmpne 58 47 i209_44 rfl rfl rfl (fun h528 => ?_) (fun h528 => ?_)
          · refine X.aload_n 59 i209_58 rfl rfl rfl ?_
            refine X.sipush 62 i209_59 rfl rfl (by decide) ?_
            refine X.iload 64 i209_62 rfl rfl rfl ?_
            refine X.callv 67 [zi 143, zi y4] [zl y2] [(0, zr 4 44), (1, zi 143), (2, zi y4)] i209_64 rfl (by decide) rfl rfl (by omega) rfl rfl (by decide) rfl t213 (Nat.le_of_ble_eq_true rfl) (Nat.le_of_ble_eq_true rfl) rfl ?_
            refine c213_1 (B := B)  143 y4 (by omega) (hJ.up (by omega)) (by omega) (by omega) (by omega) (fun v531 hv531 hFv531 => ?_)
            show X (EE s) d 209 67 [(0, zr 4 44), (1, zi y1), (4, zi y4)] [zl v531, zl y2] m _
            exact hK544 v531 (by first | trivial | omega) (Eq.trans (if_neg h526) (Eq.trans (if_neg h527) (Eq.trans (if_neg h528) (Eq.trans (zn_eq hFv531.symm) rfl))))
          · refine X.aload_n 48 i209_47 rfl rfl rfl ?_
            refine X.bipush 50 i209_48 rfl rfl (by decide) ?_
            refine X.iload 52 i209_50 rfl rfl rfl ?_
            refine X.callv 55 [zi 95, zi y4] [zl y2] [(0, zr 4 44), (1, zi 95), (2, zi y4)] i209_52 rfl (by decide) rfl rfl (by omega) rfl rfl (by decide) rfl t213 (Nat.le_of_ble_eq_true rfl) (Nat.le_of_ble_eq_true rfl) rfl ?_
            refine c213_1 (B := B)  95 y4 (by omega) (hJ.up (by omega)) (by omega) (by omega) (by omega) (fun v534 hv534 hFv534 => ?_)
            show X (EE s) d 209 55 [(0, zr 4 44), (1, zi y1), (4, zi y4)] [zl v534, zl y2] m _
            refine X.goto 67 i209_55 rfl rfl ?_
            exact hK544 v534 (by first | trivial | omega) (Eq.trans (if_neg h526) (Eq.trans (if_neg h527) (Eq.trans (if_pos h528) (Eq.trans (zn_eq hFv534.symm) rfl))))
        · refine X.aload_n 34 i209_33 rfl rfl rfl ?_
          refine X.iload 36 i209_34 rfl rfl rfl ?_
          refine X.callv 39 [zi y4] [zl y2] [(0, zr 4 44), (1, zi y4)] i209_36 rfl (by decide) rfl rfl (by omega) rfl rfl (by decide) rfl t212 (Nat.le_of_ble_eq_true rfl) (Nat.le_of_ble_eq_true rfl) rfl ?_
          refine c212_1 (B := B)  y4 (by omega) (hJ.up (by omega)) (by omega) (by omega) (fun v537 hv537 hFv537 => ?_)
          show X (EE s) d 209 39 [(0, zr 4 44), (1, zi y1), (4, zi y4)] [zl v537, zl y2] m _
          refine X.goto 67 i209_39 rfl rfl ?_
          exact hK544 v537 (by first | trivial | omega) (Eq.trans (if_neg h526) (Eq.trans (if_pos h527) (Eq.trans (zn_eq hFv537.symm) rfl)))
      · refine X.aload_n 20 i209_19 rfl rfl rfl ?_
        refine X.iload 22 i209_20 rfl rfl rfl ?_
        refine X.callv 25 [zi y4] [zl y2] [(0, zr 4 44), (1, zi y4)] i209_22 rfl (by decide) rfl rfl (by omega) rfl rfl (by decide) rfl t210 (Nat.le_of_ble_eq_true rfl) (Nat.le_of_ble_eq_true rfl) rfl ?_
        refine c210_1 (B := B)  y4 (by omega) (hJ.up (by omega)) (by omega) (by omega) (fun v540 hv540 hFv540 => ?_)
        show X (EE s) d 209 25 [(0, zr 4 44), (1, zi y1), (2, zl y2), (4, zi y4)] [zl v540, zl y2] m _
        refine X.goto 67 i209_25 rfl rfl ?_
        refine X.cut [(0, zr 4 44), (1, zi y1), (4, zi y4)] i209_67 rfl ?_
        exact hK544 v540 (by first | trivial | omega) (Eq.trans (if_pos h526) (Eq.trans (zn_eq hFv540.symm) rfl))
-- WorkMeterModel.together
noncomputable def f209_1 (a1 : Int) (m : zM) : Int :=
  fl209_5_1 (fun y501 =>
  y501) a1 m (zfu 4) 0 0
-- WorkMeterModel.together
theorem c209_1 {s : Nat × (Nat → Int32)} {S : zS} {m0 m : zM} {B : Int} {d : Nat} {Q : Option zV → zM → Prop} (a1 : Int) (hd : 14 ≤ d) (hJ : J S m0 B m) (hB : B + 0 ≤ 1000000000) (ha1 : 0 ≤ a1 ∧ a1 ≤ 3) (hQ : ∀ (v : Int), ((-12000000) ≤ v ∧ v ≤ 12000000) → f209_1 a1 m = v → Q (some (zl v)) m) : X (EE s) d 209 0 [(0, zr 4 44), (1, zi a1)] [] m Q := by
  refine X.lconst (y := 0) 1 i209_0 rfl rfl rfl ?_
  refine X.lstore_n 2 [(0, zr 4 44), (1, zi a1), (2, zl 0)] i209_1 rfl rfl rfl ?_
  refine X.iconst 3 i209_2 rfl rfl (by decide) ?_
  refine X.istore 5 [(0, zr 4 44), (1, zi a1), (2, zl 0), (4, zi 0)] i209_3 rfl rfl rfl ?_
  have hz4 := zfu_eq 4
  refine l209_5_1 (s := s) (m := m) (B := B) (d := d) (R0 := (f209_1 a1 m))  a1  (by omega) (hJ.up (by omega)) (by omega) (by omega) (fun y501 hby501 hR505 => ?_) (zfu 4) 0 0 (by omega) (by omega) (by omega) (by omega) (by omega) rfl
  refine X.lload_n 76 i209_75 rfl rfl rfl ?_
  refine X.retl i209_76 rfl t209 ?_
  exact hQ y501 (by first | trivial | omega) (Eq.trans hR505 rfl) 
noncomputable def fl214_7_1_b (self : Int → Int → Int) (k51 : Int → Int) (y0 : Int) (m : zM) (y2 y4 : Int) : Int :=
  if y2 < y4 then
  (zn (((((y2 + y4) + 1) / 2) * (((y2 + y4) + 1) / 2))) fun z508 =>
  if z508 ≤ y0 then
  (self (((y2 + y4) + 1) / 2) y4)
  else
  (self y2 ((((y2 + y4) + 1) / 2) - 1)))
  else
  (k51 y2)
noncomputable def fl214_7_1 (k51 : Int → Int) (y0 : Int) (m : zM) : Nat → Int → Int → Int
  | 0 => fun y2 y4 => 0
  | n + 1 => fl214_7_1_b (fl214_7_1 k51 y0 m n) k51 y0 m
theorem l214_7_1 {s : Nat × (Nat → Int32)} {S : zS} {m0 : zM} {m : zM} {B : Int} {d : Nat} {Q : Option zV → zM → Prop} {R0 : Int} {k51 : Int → Int} (y0 : Int) (hd : 13 ≤ d) (hJ : J S m0 B m) (hB9 : B ≤ 1000000000) (hy0 : 0 ≤ y0 ∧ y0 ≤ 288000000000000)
    (K51 : ∀ (x2 : Int) , (0 ≤ x2 ∧ x2 ≤ 3000000000) → R0 = k51 x2 → X (EE s) d 214 51 [(2, zl x2)] [] m Q) :
    ∀ (n : Nat) (y2 y4 : Int) , (0 ≤ y2 ∧ y2 ≤ 3000000000) → (0 ≤ y4 ∧ y4 ≤ 3000000000) → (y2 ≤ y4) → y4 - y2 < (n : Int) → R0 = fl214_7_1 k51 y0 m n y2 y4 → X (EE s) d 214 7 [(0, zl y0), (2, zl y2), (4, zl y4)] [] m Q := by
  intro n
  induction n with
  | zero =>
    intro y2 y4 hy2 hy4 hr0 hn hR
    exfalso
    omega
  | succ n ih =>
    intro y2 y4 hy2 hy4 hr0 hn hR
    replace hR : R0 = fl214_7_1_b (fl214_7_1 k51 y0 m n) k51 y0 m y2 y4 := hR
    refine X.lload_n 8 i214_7 rfl rfl rfl ?_
    refine X.lload 10 i214_8 rfl rfl rfl ?_
    refine X.lcmp 11 i214_10 rfl rfl (fun z506 hz506 => ?_)
    refine X.ifge 51 14 i214_11 rfl rfl rfl (fun h507 => ?_) (fun h507 => ?_)
    · have h507c : ¬ y2 < y4 := by omega
      clear h507 hz506
      refine X.cut [(2, zl y2)] i214_51 rfl ?_
      exact K51 y2 (by first | trivial | omega) (Eq.trans hR (Eq.trans (if_neg h507c) rfl))
    · have h507c : y2 < y4 := by omega
      clear h507 hz506
      refine X.lload_n 15 i214_14 rfl rfl rfl ?_
      refine X.lload 17 i214_15 rfl rfl rfl ?_
      refine X.ladd 18 i214_17 rfl rfl (by omega) ?_
      refine X.lconst (y := 1) 19 i214_18 rfl rfl rfl ?_
      refine X.ladd 20 i214_19 rfl rfl (by omega) ?_
      refine X.ldc2 23 i214_20 rfl rfl (by decide) ?_
      refine X.ldivp 24 i214_23 rfl rfl (by omega) ?_
      refine X.lstore 26 [(0, zl y0), (2, zl y2), (4, zl y4), (6, zl (((y2 + y4) + 1) / 2))] i214_24 rfl rfl rfl ?_
      refine X.lload 28 i214_26 rfl rfl rfl ?_
      refine X.lload 30 i214_28 rfl rfl rfl ?_
      have hz508 := z_sqr (e := 3000000000) (x := (((y2 + y4) + 1) / 2)) (by omega)
      refine X.lmul 31 i214_30 rfl rfl (z_in3 hz508 (by decide) (by decide)) ?_
      obtain ⟨z508, ez508⟩ : ∃ z, z = ((((y2 + y4) + 1) / 2) * (((y2 + y4) + 1) / 2)) := ⟨_, rfl⟩
      rw [← ez508] at hz508 ⊢
      have gz508 : 0 ≤ z508 ∧ z508 ≤ 9000000000000000000 := z_in3 hz508 (by decide) (by decide)
      clear hz508
      refine X.lload_n 32 i214_31 rfl rfl rfl ?_
      refine X.lcmp 33 i214_32 rfl rfl (fun z509 hz509 => ?_)
      refine X.ifgt 42 36 i214_33 rfl rfl rfl (fun h510 => ?_) (fun h510 => ?_)
      · have h510c : ¬ z508 ≤ y0 := by omega
        clear h510 hz509
        refine X.cut [(0, zl y0), (2, zl y2), (6, zl (((y2 + y4) + 1) / 2))] i214_42 rfl ?_
        refine X.lload 44 i214_42 rfl rfl rfl ?_
        refine X.lconst (y := 1) 45 i214_44 rfl rfl rfl ?_
        refine X.lsub 46 i214_45 rfl rfl (by omega) ?_
        refine X.lstore 48 [(0, zl y0), (2, zl y2), (4, zl ((((y2 + y4) + 1) / 2) - 1)), (6, zl (((y2 + y4) + 1) / 2))] i214_46 rfl rfl rfl ?_
        refine X.cut [(0, zl y0), (2, zl y2), (4, zl ((((y2 + y4) + 1) / 2) - 1))] i214_48 rfl ?_
        refine X.goto 7 i214_48 rfl rfl ?_
        exact ih y2 ((((y2 + y4) + 1) / 2) - 1) (by omega) (by omega) (by omega) (by omega) (Eq.trans hR (Eq.trans (if_pos h507c) (Eq.trans (zn_eq ez508) (Eq.trans (if_neg h510c) rfl))))
      · have h510c : z508 ≤ y0 := by omega
        clear h510 hz509
        refine X.lload 38 i214_36 rfl rfl rfl ?_
        refine X.lstore_n 39 [(0, zl y0), (2, zl (((y2 + y4) + 1) / 2)), (4, zl y4), (6, zl (((y2 + y4) + 1) / 2))] i214_38 rfl rfl rfl ?_
        refine X.goto 48 i214_39 rfl rfl ?_
        refine X.cut [(0, zl y0), (2, zl (((y2 + y4) + 1) / 2)), (4, zl y4)] i214_48 rfl ?_
        refine X.goto 7 i214_48 rfl rfl ?_
        exact ih (((y2 + y4) + 1) / 2) y4 (by omega) (by omega) (by omega) (by omega) (Eq.trans hR (Eq.trans (if_pos h507c) (Eq.trans (zn_eq ez508) (Eq.trans (if_pos h510c) rfl))))
-- WorkMeterModel.root
noncomputable def f214_1 (a0 : Int) (m : zM) : Int :=
  fl214_7_1 (fun y501 =>
  y501) a0 m (zfu 3000000001) 0 3000000000
-- WorkMeterModel.root
theorem c214_1 {s : Nat × (Nat → Int32)} {S : zS} {m0 m : zM} {B : Int} {d : Nat} {Q : Option zV → zM → Prop} (a0 : Int) (hd : 13 ≤ d) (hJ : J S m0 B m) (hB : B + 0 ≤ 1000000000) (ha0 : 0 ≤ a0 ∧ a0 ≤ 288000000000000) (hQ : ∀ (v : Int), (0 ≤ v ∧ v ≤ 3000000000) → f214_1 a0 m = v → Q (some (zl v)) m) : X (EE s) d 214 0 [(0, zl a0)] [] m Q := by
  refine X.lconst (y := 0) 1 i214_0 rfl rfl rfl ?_
  refine X.lstore_n 2 [(0, zl a0), (2, zl 0)] i214_1 rfl rfl rfl ?_
  refine X.ldc2 5 i214_2 rfl rfl (by decide) ?_
  refine X.lstore 7 [(0, zl a0), (2, zl 0), (4, zl 3000000000)] i214_5 rfl rfl rfl ?_
  have hz3000000001 := zfu_eq 3000000001
  refine l214_7_1 (s := s) (m := m) (B := B) (d := d) (R0 := (f214_1 a0 m))  a0  (by omega) (hJ.up (by omega)) (by omega) (by omega) (fun y501 hby501 hR505 => ?_) (zfu 3000000001) 0 3000000000 (by omega) (by omega) (by omega) (by omega) rfl
  refine X.lload_n 52 i214_51 rfl rfl rfl ?_
  refine X.retl i214_52 rfl t214 ?_
  exact hQ y501 (by first | trivial | omega) (Eq.trans hR505 rfl) 
-- WorkMeterModel.size
noncomputable def f215_1 (a0 : Int) (m : zM) : Int :=
  zn (if a0 < 0 then
  ((-a0))
  else
  (a0)) fun v503 =>
  v503
-- WorkMeterModel.size
theorem c215_1 {s : Nat × (Nat → Int32)} {S : zS} {m0 m : zM} {B : Int} {d : Nat} {Q : Option zV → zM → Prop} (a0 : Int) (hd : 13 ≤ d) (hJ : J S m0 B m) (hB : B + 0 ≤ 1000000000) (ha0 : (-12000000) ≤ a0 ∧ a0 ≤ 12000000) (hQ : ∀ (v : Int), (0 ≤ v ∧ v ≤ 12000000) → f215_1 a0 m = v → Q (some (zl v)) m) : X (EE s) d 215 0 [(0, zl a0)] [] m Q := by
  refine X.lload_n 1 i215_0 rfl rfl rfl ?_
  refine X.lconst (y := 0) 2 i215_1 rfl rfl rfl ?_
  refine X.lcmp 3 i215_2 rfl rfl (fun z501 hz501 => ?_)
  have hK506 : ∀ (v : Int) , (0 ≤ v ∧ v ≤ 12000000) → (if a0 < 0 then
      ((-a0))
      else
      (a0)) = v → X (EE s) d 215 12 [] [zl v] m Q := by
    intro v503 hv503 hT507
    refine X.retl i215_12 rfl t215 ?_
    exact hQ v503 (by first | trivial | omega) (Eq.trans (zn_eq hT507.symm) rfl) 
  refine X.ifge 11 6 i215_3 rfl rfl rfl (fun h502 => ?_) (fun h502 => ?_)
  · have h502c : ¬ a0 < 0 := by omega
    clear h502 hz501
    refine X.lload_n 12 i215_11 rfl rfl rfl ?_
    refine X.cut [] i215_12 rfl ?_
    exact hK506 a0 (by first | trivial | omega) (Eq.trans (if_neg h502c) rfl)
  · have h502c : a0 < 0 := by omega
    clear h502 hz501
    refine X.lload_n 7 i215_6 rfl rfl rfl ?_
    refine X.lneg 8 i215_7 rfl rfl (by omega) ?_
    refine X.goto 12 i215_8 rfl rfl ?_
    refine X.cut [] i215_12 rfl ?_
    exact hK506 (-a0) (by first | trivial | omega) (Eq.trans (if_pos h502c) rfl)
noncomputable def fl219_7_1_b (self : Int → Int → Int → Int) (k95 : Int → Int → Int) (y1 : Int) (m : zM) (y2 y3 y4 : Int) : Int :=
  if 4 ≤ y4 then
  (k95 y2 y3)
  else
  (if (m 4 45 (391 + y4)) = (-1) then
  (self y2 y3 (y4 + 1))
  else
  (zn (if (m 4 45 (391 + y4)) ≤ y1 then
  (if y2 = (-1) then
  (y4)
  else
  (if (m 4 45 (391 + y4)) ≤ (m 4 45 (391 + y2)) then
  (y2)
  else
  (y4)))
  else
  (y2)) fun v554 =>
  zn (if (m 4 45 (391 + y4)) ≤ (m 4 45 (391 + y3)) then
  (y3)
  else
  (y4)) fun v562 =>
  self v554 v562 (y4 + 1)))
noncomputable def fl219_7_1 (k95 : Int → Int → Int) (y1 : Int) (m : zM) : Nat → Int → Int → Int → Int
  | 0 => fun y2 y3 y4 => 0
  | n + 1 => fl219_7_1_b (fl219_7_1 k95 y1 m n) k95 y1 m
theorem l219_7_1 {s : Nat × (Nat → Int32)} {S : zS} {m0 : zM} {m : zM} {B : Int} {d : Nat} {Q : Option zV → zM → Prop} {R0 : Int} {k95 : Int → Int → Int} (y1 : Int) (hd : 13 ≤ d) (hJ : J S m0 B m) (hB9 : B ≤ 1000000000) (hy1 : 0 ≤ y1 ∧ y1 ≤ 364)
    (K95 : ∀ (x2 x3 : Int) , ((-1) ≤ x2 ∧ x2 ≤ 3) → (0 ≤ x3 ∧ x3 ≤ 3) → R0 = k95 x2 x3 → X (EE s) d 219 95 [(2, zi x2), (3, zi x3)] [] m Q) :
    ∀ (n : Nat) (y2 y3 y4 : Int) , ((-1) ≤ y2 ∧ y2 ≤ 3) → (0 ≤ y3 ∧ y3 ≤ 3) → (0 ≤ y4 ∧ y4 ≤ 4) → 4 - y4 < (n : Int) → R0 = fl219_7_1 k95 y1 m n y2 y3 y4 → X (EE s) d 219 7 [(0, zr 4 44), (1, zi y1), (2, zi y2), (3, zi y3), (4, zi y4)] [] m Q := by
  intro n
  induction n with
  | zero =>
    intro y2 y3 y4 hy2 hy3 hy4 hn hR
    exfalso
    omega
  | succ n ih =>
    intro y2 y3 y4 hy2 hy3 hy4 hn hR
    replace hR : R0 = fl219_7_1_b (fl219_7_1 k95 y1 m n) k95 y1 m y2 y3 y4 := hR
    refine X.iload 9 i219_7 rfl rfl rfl ?_
    refine X.iconst 10 i219_9 rfl rfl (by decide) ?_
    refine X.icmpge 95 13 i219_10 rfl rfl rfl (fun h544 => ?_) (fun h544 => ?_)
    · refine X.cut [(2, zi y2), (3, zi y3)] i219_95 rfl ?_
      exact K95 y2 y3 (by first | trivial | omega) (by first | trivial | omega) (Eq.trans hR (Eq.trans (if_pos h544) rfl))
    · refine X.aload_n 14 i219_13 rfl rfl rfl ?_
      refine X.getF 17 i219_14 rfl rfl (by decide) rfl rfl ?_
      refine X.sipush 20 i219_17 rfl rfl (by decide) ?_
      refine X.iload 22 i219_20 rfl rfl rfl ?_
      refine X.iadd 23 i219_22 rfl rfl (by omega) ?_
      refine X.lald 24 i219_23 rfl rfl (by decide) rfl (by omega) ?_
      have h545 := r45_391 hJ 4 (i := (391 + y4)) (by omega)
      refine X.lstore 26 [(0, zr 4 44), (1, zi y1), (2, zi y2), (3, zi y3), (4, zi y4), (5, zl (m 4 45 (391 + y4)))] i219_24 rfl rfl rfl ?_
      refine X.lload 28 i219_26 rfl rfl rfl ?_
      refine X.ldc2 31 i219_28 rfl rfl (by decide) ?_
      refine X.lcmp 32 i219_31 rfl rfl (fun z546 hz546 => ?_)
      refine X.ifne 38 35 i219_32 rfl rfl rfl (fun h547 => ?_) (fun h547 => ?_)
      · have h547c : ¬ (m 4 45 (391 + y4)) = (-1) := by omega
        clear h547 hz546
        refine X.lload 40 i219_38 rfl rfl rfl ?_
        refine X.iload_n 41 i219_40 rfl rfl rfl ?_
        refine X.i2l 42 i219_41 rfl rfl ?_
        refine X.lcmp 43 i219_42 rfl rfl (fun z548 hz548 => ?_)
        have hK557 : ∀ (v : Int) , ((-1) ≤ v ∧ v ≤ 3) → (if (m 4 45 (391 + y4)) ≤ y1 then
            (if y2 = (-1) then
            (y4)
            else
            (if (m 4 45 (391 + y4)) ≤ (m 4 45 (391 + y2)) then
            (y2)
            else
            (y4)))
            else
            (y2)) = v → X (EE s) d 219 70 [(0, zr 4 44), (1, zi y1), (2, zi v), (3, zi y3), (4, zi y4), (5, zl (m 4 45 (391 + y4)))] [] m Q := by
          intro v554 hv554 hT558
          refine X.lload 72 i219_70 rfl rfl rfl ?_
          refine X.aload_n 73 i219_72 rfl rfl rfl ?_
          refine X.getF 76 i219_73 rfl rfl (by decide) rfl rfl ?_
          refine X.sipush 79 i219_76 rfl rfl (by decide) ?_
          refine X.iload_n 80 i219_79 rfl rfl rfl ?_
          refine X.iadd 81 i219_80 rfl rfl (by omega) ?_
          refine X.lald 82 i219_81 rfl rfl (by decide) rfl (by omega) ?_
          have h559 := r45_391 hJ 4 (i := (391 + y3)) (by omega)
          refine X.lcmp 83 i219_82 rfl rfl (fun z560 hz560 => ?_)
          have hK565 : ∀ (v : Int) , (0 ≤ v ∧ v ≤ 3) → (if (m 4 45 (391 + y4)) ≤ (m 4 45 (391 + y3)) then
              (y3)
              else
              (y4)) = v → X (EE s) d 219 89 [(0, zr 4 44), (1, zi y1), (2, zi v554), (3, zi v), (4, zi y4)] [] m Q := by
            intro v562 hv562 hT566
            refine X.iinc 92 [(0, zr 4 44), (1, zi y1), (2, zi v554), (3, zi v562), (4, zi (y4 + 1))] i219_89 rfl rfl rfl (by omega) rfl ?_
            refine X.goto 7 i219_92 rfl rfl ?_
            exact ih v554 v562 (y4 + 1) (by omega) (by omega) (by omega) (by omega) (Eq.trans hR (Eq.trans (if_neg h544) (Eq.trans (if_neg h547c) (Eq.trans (zn_eq hT558.symm) (Eq.trans (zn_eq hT566.symm) rfl)))))
          refine X.ifle 89 86 i219_83 rfl rfl rfl (fun h561 => ?_) (fun h561 => ?_)
          · have h561c : (m 4 45 (391 + y4)) ≤ (m 4 45 (391 + y3)) := by omega
            clear h561 hz560
            refine X.cut [(0, zr 4 44), (1, zi y1), (2, zi v554), (3, zi y3), (4, zi y4)] i219_89 rfl ?_
            exact hK565 y3 (by first | trivial | omega) (Eq.trans (if_pos h561c) rfl)
          · have h561c : ¬ (m 4 45 (391 + y4)) ≤ (m 4 45 (391 + y3)) := by omega
            clear h561 hz560
            refine X.iload 88 i219_86 rfl rfl rfl ?_
            refine X.istore_n 89 [(0, zr 4 44), (1, zi y1), (2, zi v554), (3, zi y4), (4, zi y4), (5, zl (m 4 45 (391 + y4)))] i219_88 rfl rfl rfl ?_
            refine X.cut [(0, zr 4 44), (1, zi y1), (2, zi v554), (3, zi y4), (4, zi y4)] i219_89 rfl ?_
            exact hK565 y4 (by first | trivial | omega) (Eq.trans (if_neg h561c) rfl)
        refine X.ifgt 70 46 i219_43 rfl rfl rfl (fun h549 => ?_) (fun h549 => ?_)
        · have h549c : ¬ (m 4 45 (391 + y4)) ≤ y1 := by omega
          clear h549 hz548
          exact hK557 y2 (by first | trivial | omega) (Eq.trans (if_neg h549c) rfl)
        · have h549c : (m 4 45 (391 + y4)) ≤ y1 := by omega
          clear h549 hz548
          refine X.iload_n 47 i219_46 rfl rfl rfl ?_
          refine X.iconst 48 i219_47 rfl rfl (by decide) ?_
          refine X.icmpeq 67 51 i219_48 rfl rfl rfl (fun h550 => ?_) (fun h550 => ?_)
          · refine X.cut [(0, zr 4 44), (1, zi y1), (3, zi y3), (4, zi y4), (5, zl (m 4 45 (391 + y4)))] i219_67 rfl ?_
            refine X.iload 69 i219_67 rfl rfl rfl ?_
            refine X.istore_n 70 [(0, zr 4 44), (1, zi y1), (2, zi y4), (3, zi y3), (4, zi y4), (5, zl (m 4 45 (391 + y4)))] i219_69 rfl rfl rfl ?_
            exact hK557 y4 (by first | trivial | omega) (Eq.trans (if_pos h549c) (Eq.trans (if_pos h550) rfl))
          · refine X.lload 53 i219_51 rfl rfl rfl ?_
            refine X.aload_n 54 i219_53 rfl rfl rfl ?_
            refine X.getF 57 i219_54 rfl rfl (by decide) rfl rfl ?_
            refine X.sipush 60 i219_57 rfl rfl (by decide) ?_
            refine X.iload_n 61 i219_60 rfl rfl rfl ?_
            refine X.iadd 62 i219_61 rfl rfl (by omega) ?_
            refine X.lald 63 i219_62 rfl rfl (by decide) rfl (by omega) ?_
            have h551 := r45_391 hJ 4 (i := (391 + y2)) (by omega)
            refine X.lcmp 64 i219_63 rfl rfl (fun z552 hz552 => ?_)
            refine X.ifle 70 67 i219_64 rfl rfl rfl (fun h553 => ?_) (fun h553 => ?_)
            · have h553c : (m 4 45 (391 + y4)) ≤ (m 4 45 (391 + y2)) := by omega
              clear h553 hz552
              exact hK557 y2 (by first | trivial | omega) (Eq.trans (if_pos h549c) (Eq.trans (if_neg h550) (Eq.trans (if_pos h553c) rfl)))
            · have h553c : ¬ (m 4 45 (391 + y4)) ≤ (m 4 45 (391 + y2)) := by omega
              clear h553 hz552
              refine X.cut [(0, zr 4 44), (1, zi y1), (3, zi y3), (4, zi y4), (5, zl (m 4 45 (391 + y4)))] i219_67 rfl ?_
              refine X.iload 69 i219_67 rfl rfl rfl ?_
              refine X.istore_n 70 [(0, zr 4 44), (1, zi y1), (2, zi y4), (3, zi y3), (4, zi y4), (5, zl (m 4 45 (391 + y4)))] i219_69 rfl rfl rfl ?_
              exact hK557 y4 (by first | trivial | omega) (Eq.trans (if_pos h549c) (Eq.trans (if_neg h550) (Eq.trans (if_neg h553c) rfl)))
      · have h547c : (m 4 45 (391 + y4)) = (-1) := by omega
        clear h547 hz546
        refine X.goto 89 i219_35 rfl rfl ?_
        refine X.cut [(0, zr 4 44), (1, zi y1), (2, zi y2), (3, zi y3), (4, zi y4)] i219_89 rfl ?_
        refine X.iinc 92 [(0, zr 4 44), (1, zi y1), (2, zi y2), (3, zi y3), (4, zi (y4 + 1))] i219_89 rfl rfl rfl (by omega) rfl ?_
        refine X.goto 7 i219_92 rfl rfl ?_
        exact ih y2 y3 (y4 + 1) (by omega) (by omega) (by omega) (by omega) (Eq.trans hR (Eq.trans (if_neg h544) (Eq.trans (if_pos h547c) rfl)))
-- WorkMeterModel.seasonOf
noncomputable def f219_1 (a1 : Int) (m : zM) : Int :=
  fl219_7_1 (fun y501 y502 =>
  zn (if y501 = (-1) then
  (y502)
  else
  (y501)) fun v508 =>
  v508) a1 m (zfu 5) (-1) 0 0
-- WorkMeterModel.seasonOf
theorem c219_1 {s : Nat × (Nat → Int32)} {S : zS} {m0 m : zM} {B : Int} {d : Nat} {Q : Option zV → zM → Prop} (a1 : Int) (hd : 13 ≤ d) (hJ : J S m0 B m) (hB : B + 0 ≤ 1000000000) (ha1 : 0 ≤ a1 ∧ a1 ≤ 364) (hQ : ∀ (v : Int), (0 ≤ v ∧ v ≤ 3) → f219_1 a1 m = v → Q (some (zi v)) m) : X (EE s) d 219 0 [(0, zr 4 44), (1, zi a1)] [] m Q := by
  refine X.iconst 1 i219_0 rfl rfl (by decide) ?_
  refine X.istore_n 2 [(0, zr 4 44), (1, zi a1), (2, zi (-1))] i219_1 rfl rfl rfl ?_
  refine X.iconst 3 i219_2 rfl rfl (by decide) ?_
  refine X.istore_n 4 [(0, zr 4 44), (1, zi a1), (2, zi (-1)), (3, zi 0)] i219_3 rfl rfl rfl ?_
  refine X.iconst 5 i219_4 rfl rfl (by decide) ?_
  refine X.istore 7 [(0, zr 4 44), (1, zi a1), (2, zi (-1)), (3, zi 0), (4, zi 0)] i219_5 rfl rfl rfl ?_
  have hz5 := zfu_eq 5
  refine l219_7_1 (s := s) (m := m) (B := B) (d := d) (R0 := (f219_1 a1 m))  a1  (by omega) (hJ.up (by omega)) (by omega) (by omega) (fun y501 y502 hby501 hby502 hR506 => ?_) (zfu 5) (-1) 0 0 (by omega) (by omega) (by omega) (by omega) rfl
  refine X.iload_n 96 i219_95 rfl rfl rfl ?_
  refine X.iconst 97 i219_96 rfl rfl (by decide) ?_
  have hK511 : ∀ (v : Int) , (0 ≤ v ∧ v ≤ 3) → (if y501 = (-1) then
      (y502)
      else
      (y501)) = v → X (EE s) d 219 105 [] [zi v] m Q := by
    intro v508 hv508 hT512
    refine X.reti i219_105 rfl t219 ?_
    exact hQ v508 (by first | trivial | omega) (Eq.trans hR506 (Eq.trans (zn_eq hT512.symm) rfl)) 
  refine X.icmpne 104 100 i219_97 rfl rfl rfl (fun h507 => ?_) (fun h507 => ?_)
  · refine X.cut [(2, zi y501)] i219_104 rfl ?_
    refine X.iload_n 105 i219_104 rfl rfl rfl ?_
    refine X.cut [] i219_105 rfl ?_
    exact hK511 y501 (by first | trivial | omega) (Eq.trans (if_neg h507) rfl)
  · refine X.iload_n 101 i219_100 rfl rfl rfl ?_
    refine X.goto 105 i219_101 rfl rfl ?_
    refine X.cut [] i219_105 rfl ?_
    exact hK511 y502 (by first | trivial | omega) (Eq.trans (if_pos h507) rfl)
-- WorkMeterModel.tableAt
noncomputable def f218_1 (a1 : Int) (m : zM) : Int :=
  if (m 4 45 (423 + (a1 % 365))) = (-1) then
  (zn (f219_1 (a1 % 365) m) fun v506 =>
  (m 4 45 ((395 + (7 * v506)) + (a1 % 7))))
  else
  ((m 4 45 (423 + (a1 % 365))))
-- WorkMeterModel.tableAt
theorem c218_1 {s : Nat × (Nat → Int32)} {S : zS} {m0 m : zM} {B : Int} {d : Nat} {Q : Option zV → zM → Prop} (a1 : Int) (hd : 14 ≤ d) (hJ : J S m0 B m) (hB : B + 0 ≤ 1000000000) (ha1 : 0 ≤ a1 ∧ a1 ≤ 23150) (hQ : ∀ (v : Int), (0 ≤ v ∧ v ≤ 7) → f218_1 a1 m = v → Q (some (zi v)) m) : X (EE s) d 218 0 [(0, zr 4 44), (1, zi a1)] [] m Q := by
  refine X.iload_n 1 i218_0 rfl rfl rfl ?_
  refine X.sipush 4 i218_1 rfl rfl (by decide) ?_
  refine X.irem 5 i218_4 rfl rfl (by omega) ?_
  refine X.istore_n 6 [(0, zr 4 44), (1, zi a1), (2, zi (a1 % 365))] i218_5 rfl rfl rfl ?_
  refine X.aload_n 7 i218_6 rfl rfl rfl ?_
  refine X.getF 10 i218_7 rfl rfl (by decide) rfl rfl ?_
  refine X.sipush 13 i218_10 rfl rfl (by decide) ?_
  refine X.iload_n 14 i218_13 rfl rfl rfl ?_
  refine X.iadd 15 i218_14 rfl rfl (by omega) ?_
  refine X.lald 16 i218_15 rfl rfl (by decide) rfl (by omega) ?_
  have h501 := r45_423 hJ 4 (i := (423 + (a1 % 365))) (by omega)
  refine X.ldc2 19 i218_16 rfl rfl (by decide) ?_
  refine X.lcmp 20 i218_19 rfl rfl (fun z502 hz502 => ?_)
  refine X.ifeq 35 23 i218_20 rfl rfl rfl (fun h503 => ?_) (fun h503 => ?_)
  · have h503c : (m 4 45 (423 + (a1 % 365))) = (-1) := by omega
    clear h503 hz502
    refine X.aload_n 36 i218_35 rfl rfl rfl ?_
    refine X.getF 39 i218_36 rfl rfl (by decide) rfl rfl ?_
    refine X.sipush 42 i218_39 rfl rfl (by decide) ?_
    refine X.bipush 44 i218_42 rfl rfl (by decide) ?_
    refine X.aload_n 45 i218_44 rfl rfl rfl ?_
    refine X.iload_n 46 i218_45 rfl rfl rfl ?_
    refine X.callv 49 [zi (a1 % 365)] [zi 7, zi 395, zr 4 45] [(0, zr 4 44), (1, zi (a1 % 365))] i218_46 rfl (by decide) rfl rfl (by omega) rfl rfl (by decide) rfl t219 (Nat.le_of_ble_eq_true rfl) (Nat.le_of_ble_eq_true rfl) rfl ?_
    refine c219_1 (B := B)  (a1 % 365) (by omega) (hJ.up (by omega)) (by omega) (by omega) (fun v506 hv506 hFv506 => ?_)
    show X (EE s) d 218 49 [(0, zr 4 44), (1, zi a1), (2, zi (a1 % 365))] [zi v506, zi 7, zi 395, zr 4 45] m _
    refine X.imul 50 i218_49 rfl rfl (by omega) ?_
    refine X.iadd 51 i218_50 rfl rfl (by omega) ?_
    refine X.iload_n 52 i218_51 rfl rfl rfl ?_
    refine X.bipush 54 i218_52 rfl rfl (by decide) ?_
    refine X.irem 55 i218_54 rfl rfl (by omega) ?_
    refine X.iadd 56 i218_55 rfl rfl (by omega) ?_
    refine X.lald 57 i218_56 rfl rfl (by decide) rfl (by omega) ?_
    have h507 := r45_395 hJ 4 (i := ((395 + (7 * v506)) + (a1 % 7))) (by omega)
    refine X.l2i 58 i218_57 rfl rfl (by omega) ?_
    refine X.reti i218_58 rfl t218 ?_
    exact hQ (m 4 45 ((395 + (7 * v506)) + (a1 % 7))) (by first | trivial | omega) (Eq.trans (if_pos h503c) (Eq.trans (zn_eq hFv506.symm) rfl)) 
  · have h503c : ¬ (m 4 45 (423 + (a1 % 365))) = (-1) := by omega
    clear h503 hz502
    refine X.aload_n 24 i218_23 rfl rfl rfl ?_
    refine X.getF 27 i218_24 rfl rfl (by decide) rfl rfl ?_
    refine X.sipush 30 i218_27 rfl rfl (by decide) ?_
    refine X.iload_n 31 i218_30 rfl rfl rfl ?_
    refine X.iadd 32 i218_31 rfl rfl (by omega) ?_
    refine X.lald 33 i218_32 rfl rfl (by decide) rfl (by omega) ?_
    refine X.l2i 34 i218_33 rfl rfl (by omega) ?_
    refine X.reti i218_34 rfl t218 ?_
    exact hQ (m 4 45 (423 + (a1 % 365))) (by first | trivial | omega) (Eq.trans (if_neg h503c) rfl) 
noncomputable def fl217_14_1_b (self : Int → Int → Int) (k80 : Int → Int) (y1 y2 : Int) (m : zM) (y3 y4 : Int) : Int :=
  if y4 < (m 4 45 (287 + y2)) then
  (zn ((y1).tmod 86400) fun z533 =>
  zn (if (m 4 45 ((295 + (6 * y2)) + y4)) ≤ z533 then
  ((m 4 45 ((343 + (6 * y2)) + y4)))
  else
  (y3)) fun v537 =>
  self v537 (y4 + 1))
  else
  (k80 y3)
noncomputable def fl217_14_1 (k80 : Int → Int) (y1 y2 : Int) (m : zM) : Nat → Int → Int → Int
  | 0 => fun y3 y4 => 0
  | n + 1 => fl217_14_1_b (fl217_14_1 k80 y1 y2 m n) k80 y1 y2 m
theorem l217_14_1 {s : Nat × (Nat → Int32)} {S : zS} {m0 : zM} {m : zM} {B : Int} {d : Nat} {Q : Option zV → zM → Prop} {R0 : Int} {k80 : Int → Int} (y1 y2 : Int) (hd : 13 ≤ d) (hJ : J S m0 B m) (hB9 : B ≤ 1000000000) (hy1 : (-1) ≤ y1 ∧ y1 ≤ 2000000000) (hy2 : 0 ≤ y2 ∧ y2 ≤ 7)
    (K80 : ∀ (x3 : Int) , (0 ≤ x3 ∧ x3 ≤ 3) → R0 = k80 x3 → X (EE s) d 217 80 [(3, zi x3)] [] m Q) :
    ∀ (n : Nat) (y3 y4 : Int) , (0 ≤ y3 ∧ y3 ≤ 3) → (0 ≤ y4 ∧ y4 ≤ 6) → 6 - y4 < (n : Int) → R0 = fl217_14_1 k80 y1 y2 m n y3 y4 → X (EE s) d 217 14 [(0, zr 4 44), (1, zi y1), (2, zi y2), (3, zi y3), (4, zi y4)] [] m Q := by
  intro n
  induction n with
  | zero =>
    intro y3 y4 hy3 hy4 hn hR
    exfalso
    omega
  | succ n ih =>
    intro y3 y4 hy3 hy4 hn hR
    replace hR : R0 = fl217_14_1_b (fl217_14_1 k80 y1 y2 m n) k80 y1 y2 m y3 y4 := hR
    refine X.iload 16 i217_14 rfl rfl rfl ?_
    refine X.i2l 17 i217_16 rfl rfl ?_
    refine X.aload_n 18 i217_17 rfl rfl rfl ?_
    refine X.getF 21 i217_18 rfl rfl (by decide) rfl rfl ?_
    refine X.sipush 24 i217_21 rfl rfl (by decide) ?_
    refine X.iload_n 25 i217_24 rfl rfl rfl ?_
    refine X.iadd 26 i217_25 rfl rfl (by omega) ?_
    refine X.lald 27 i217_26 rfl rfl (by decide) rfl (by omega) ?_
    have h529 := r45_287 hJ 4 (i := (287 + y2)) (by omega)
    refine X.lcmp 28 i217_27 rfl rfl (fun z530 hz530 => ?_)
    refine X.ifge 80 31 i217_28 rfl rfl rfl (fun h531 => ?_) (fun h531 => ?_)
    · have h531c : ¬ y4 < (m 4 45 (287 + y2)) := by omega
      clear h531 hz530
      refine X.cut [(3, zi y3)] i217_80 rfl ?_
      exact K80 y3 (by first | trivial | omega) (Eq.trans hR (Eq.trans (if_neg h531c) rfl))
    · have h531c : y4 < (m 4 45 (287 + y2)) := by omega
      clear h531 hz530
      refine X.aload_n 32 i217_31 rfl rfl rfl ?_
      refine X.getF 35 i217_32 rfl rfl (by decide) rfl rfl ?_
      refine X.sipush 38 i217_35 rfl rfl (by decide) ?_
      refine X.bipush 40 i217_38 rfl rfl (by decide) ?_
      refine X.iload_n 41 i217_40 rfl rfl rfl ?_
      refine X.imul 42 i217_41 rfl rfl (by omega) ?_
      refine X.iadd 43 i217_42 rfl rfl (by omega) ?_
      refine X.iload 45 i217_43 rfl rfl rfl ?_
      refine X.iadd 46 i217_45 rfl rfl (by omega) ?_
      refine X.lald 47 i217_46 rfl rfl (by decide) rfl (by omega) ?_
      have h532 := r45_295 hJ 4 (i := ((295 + (6 * y2)) + y4)) (by omega)
      refine X.iload_n 48 i217_47 rfl rfl rfl ?_
      refine X.ldc 50 i217_48 rfl rfl (by decide) ?_
      refine X.iremE 51 i217_50 rfl rfl (by decide) (fun z533 ez533 hz533 => ?_)
      refine X.i2l 52 i217_51 rfl rfl ?_
      refine X.lcmp 53 i217_52 rfl rfl (fun z534 hz534 => ?_)
      have hK540 : ∀ (v : Int) , (0 ≤ v ∧ v ≤ 3) → (if (m 4 45 ((295 + (6 * y2)) + y4)) ≤ z533 then
          ((m 4 45 ((343 + (6 * y2)) + y4)))
          else
          (y3)) = v → X (EE s) d 217 74 [(0, zr 4 44), (1, zi y1), (2, zi y2), (3, zi v), (4, zi y4)] [] m Q := by
        intro v537 hv537 hT541
        refine X.iinc 77 [(0, zr 4 44), (1, zi y1), (2, zi y2), (3, zi v537), (4, zi (y4 + 1))] i217_74 rfl rfl rfl (by omega) rfl ?_
        refine X.goto 14 i217_77 rfl rfl ?_
        exact ih v537 (y4 + 1) (by omega) (by omega) (by omega) (Eq.trans hR (Eq.trans (if_pos h531c) (Eq.trans (zn_eq ez533) (Eq.trans (zn_eq hT541.symm) rfl))))
      refine X.ifgt 74 56 i217_53 rfl rfl rfl (fun h535 => ?_) (fun h535 => ?_)
      · have h535c : ¬ (m 4 45 ((295 + (6 * y2)) + y4)) ≤ z533 := by omega
        clear h535 hz534
        exact hK540 y3 (by first | trivial | omega) (Eq.trans (if_neg h535c) rfl)
      · have h535c : (m 4 45 ((295 + (6 * y2)) + y4)) ≤ z533 := by omega
        clear h535 hz534
        refine X.aload_n 57 i217_56 rfl rfl rfl ?_
        refine X.getF 60 i217_57 rfl rfl (by decide) rfl rfl ?_
        refine X.sipush 63 i217_60 rfl rfl (by decide) ?_
        refine X.bipush 65 i217_63 rfl rfl (by decide) ?_
        refine X.iload_n 66 i217_65 rfl rfl rfl ?_
        refine X.imul 67 i217_66 rfl rfl (by omega) ?_
        refine X.iadd 68 i217_67 rfl rfl (by omega) ?_
        refine X.iload 70 i217_68 rfl rfl rfl ?_
        refine X.iadd 71 i217_70 rfl rfl (by omega) ?_
        refine X.lald 72 i217_71 rfl rfl (by decide) rfl (by omega) ?_
        have h536 := r45_343 hJ 4 (i := ((343 + (6 * y2)) + y4)) (by omega)
        refine X.l2i 73 i217_72 rfl rfl (by omega) ?_
        refine X.istore_n 74 [(0, zr 4 44), (1, zi y1), (2, zi y2), (3, zi (m 4 45 ((343 + (6 * y2)) + y4))), (4, zi y4)] i217_73 rfl rfl rfl ?_
        exact hK540 (m 4 45 ((343 + (6 * y2)) + y4)) (by first | trivial | omega) (Eq.trans (if_pos h535c) rfl)
-- WorkMeterModel.tariff
noncomputable def f217_1 (a1 : Int) (m : zM) : Int :=
  zn ((a1).tdiv 86400) fun z501 =>
  zn (f218_1 z501 m) fun v504 =>
  fl217_14_1 (fun y505 =>
  y505) a1 v504 m (zfu 7) 0 0
-- WorkMeterModel.tariff
theorem c217_1 {s : Nat × (Nat → Int32)} {S : zS} {m0 m : zM} {B : Int} {d : Nat} {Q : Option zV → zM → Prop} (a1 : Int) (hd : 15 ≤ d) (hJ : J S m0 B m) (hB : B + 0 ≤ 1000000000) (ha1 : (-1) ≤ a1 ∧ a1 ≤ 2000000000) (hQ : ∀ (v : Int), (0 ≤ v ∧ v ≤ 3) → f217_1 a1 m = v → Q (some (zi v)) m) : X (EE s) d 217 0 [(0, zr 4 44), (1, zi a1)] [] m Q := by
  refine X.aload_n 1 i217_0 rfl rfl rfl ?_
  refine X.iload_n 2 i217_1 rfl rfl rfl ?_
  refine X.ldc 4 i217_2 rfl rfl (by decide) ?_
  refine X.idivE 5 i217_4 rfl rfl (by decide) (fun z501 ez501 hz501 => ?_)
  refine X.callv 8 [zi z501] [] [(0, zr 4 44), (1, zi z501)] i217_5 rfl (by decide) rfl rfl (by omega) rfl rfl (by decide) rfl t218 (Nat.le_of_ble_eq_true rfl) (Nat.le_of_ble_eq_true rfl) rfl ?_
  refine c218_1 (B := B)  z501 (by omega) (hJ.up (by omega)) (by omega) (by omega) (fun v504 hv504 hFv504 => ?_)
  show X (EE s) d 217 8 [(0, zr 4 44), (1, zi a1)] [zi v504] m _
  refine X.istore_n 9 [(0, zr 4 44), (1, zi a1), (2, zi v504)] i217_8 rfl rfl rfl ?_
  refine X.iconst 10 i217_9 rfl rfl (by decide) ?_
  refine X.istore_n 11 [(0, zr 4 44), (1, zi a1), (2, zi v504), (3, zi 0)] i217_10 rfl rfl rfl ?_
  refine X.iconst 12 i217_11 rfl rfl (by decide) ?_
  refine X.istore 14 [(0, zr 4 44), (1, zi a1), (2, zi v504), (3, zi 0), (4, zi 0)] i217_12 rfl rfl rfl ?_
  have hz7 := zfu_eq 7
  refine l217_14_1 (s := s) (m := m) (B := B) (d := d) (R0 := (f217_1 a1 m))  a1 v504  (by omega) (hJ.up (by omega)) (by omega) (by omega) (by omega) (fun y505 hby505 hR509 => ?_) (zfu 7) 0 0 (by omega) (by omega) (by omega) (Eq.trans (zn_eq ez501) (Eq.trans (zn_eq hFv504.symm) rfl))
  refine X.iload_n 81 i217_80 rfl rfl rfl ?_
  refine X.reti i217_81 rfl t217 ?_
  exact hQ y505 (by first | trivial | omega) (Eq.trans hR509 rfl) 
-- WorkMeterModel.counts
noncomputable def f220_1 (a1 a2 a3 : Int) (m : zM) : zM :=
  zn (w64 ((m 4 45 ((60 + (5 * a1)) + a2)) + a3)) fun z501 =>
  zs (z_upd m 4 45 ((60 + (5 * a1)) + a2) z501) fun m502 =>
  zn (w64 ((m502 4 45 ((60 + (5 * a1)) + 4)) + a3)) fun z504 =>
  zs (z_upd m502 4 45 ((60 + (5 * a1)) + 4) z504) fun m505 =>
  m505
-- WorkMeterModel.counts
theorem c220_1 {s : Nat × (Nat → Int32)} {S : zS} {m0 m : zM} {B : Int} {d : Nat} {Q : Option zV → zM → Prop} (a1 a2 a3 : Int) (hd : 13 ≤ d) (hJ : J S m0 B m) (hB : B + 0 ≤ 1000000000) (ha1 : 0 ≤ a1 ∧ a1 ≤ 0) (ha2 : 0 ≤ a2 ∧ a2 ≤ 3) (ha3 : 1 ≤ a3 ∧ a3 ≤ 12000000) (hf30 : ¬ S.1 30) (hg4 : ¬ S.2.1 4) (hQ : ∀ m', f220_1 a1 a2 a3 m = m' → J S m0 (B) m' → Q none m') : X (EE s) d 220 0 [(0, zr 4 44), (1, zi a1), (2, zi a2), (3, zl a3)] [] m Q := by
  refine X.aload_n 1 i220_0 rfl rfl rfl ?_
  refine X.getF 4 i220_1 rfl rfl (by decide) rfl rfl ?_
  refine X.bipush 6 i220_4 rfl rfl (by decide) ?_
  refine X.iconst 7 i220_6 rfl rfl (by decide) ?_
  refine X.iload_n 8 i220_7 rfl rfl rfl ?_
  refine X.imul 9 i220_8 rfl rfl (by omega) ?_
  refine X.iadd 10 i220_9 rfl rfl (by omega) ?_
  refine X.iload_n 11 i220_10 rfl rfl rfl ?_
  refine X.iadd 12 i220_11 rfl rfl (by omega) ?_
  refine X.dup2 13 i220_12 rfl rfl ?_
  refine X.lald 14 i220_13 rfl rfl (by decide) rfl (by omega) ?_
  refine X.lload_n 15 i220_14 rfl rfl rfl ?_
  refine X.laddW 16 i220_15 rfl rfl (fun z501 ez501 hz501 => ?_)
  refine X.last' 17 i220_16 rfl rfl (by decide) rfl (by omega) (fun hrm502 m502 hm502 => ?_)
  have hJ503 := w45_60 hJ hm502 (by omega) hrm502 hf30 hg4
  refine X.aload_n 18 i220_17 rfl rfl rfl ?_
  refine X.getF 21 i220_18 rfl rfl (by decide) rfl rfl ?_
  refine X.bipush 23 i220_21 rfl rfl (by decide) ?_
  refine X.iconst 24 i220_23 rfl rfl (by decide) ?_
  refine X.iload_n 25 i220_24 rfl rfl rfl ?_
  refine X.imul 26 i220_25 rfl rfl (by omega) ?_
  refine X.iadd 27 i220_26 rfl rfl (by omega) ?_
  refine X.iconst 28 i220_27 rfl rfl (by decide) ?_
  refine X.iadd 29 i220_28 rfl rfl (by omega) ?_
  refine X.dup2 30 i220_29 rfl rfl ?_
  refine X.lald 31 i220_30 rfl rfl (by decide) rfl (by omega) ?_
  refine X.lload_n 32 i220_31 rfl rfl rfl ?_
  refine X.laddW 33 i220_32 rfl rfl (fun z504 ez504 hz504 => ?_)
  refine X.last' 34 i220_33 rfl rfl (by decide) rfl (by omega) (fun hrm505 m505 hm505 => ?_)
  have hJ506 := w45_60 hJ503 hm505 (by omega) hrm505 hf30 hg4
  refine X.retv i220_34 rfl t220 ?_
  exact hQ  m505  (Eq.trans (zn_eq ez501) (Eq.trans (zs_eq hm502) (Eq.trans (zn_eq ez504) (Eq.trans (zs_eq hm505) rfl)))) (hJ506.up (by omega)) 
-- WorkMeterModel.counts
theorem c220_2 {s : Nat × (Nat → Int32)} {S : zS} {m0 m : zM} {B : Int} {d : Nat} {Q : Option zV → zM → Prop} (a1 a2 a3 : Int) (hd : 13 ≤ d) (hJ : J S m0 B m) (hB : B + 0 ≤ 1000000000) (ha1 : 1 ≤ a1 ∧ a1 ≤ 1) (ha2 : 0 ≤ a2 ∧ a2 ≤ 3) (ha3 : 1 ≤ a3 ∧ a3 ≤ 12000000) (hf30 : ¬ S.1 30) (hg4 : ¬ S.2.1 4) (hQ : ∀ m', f220_1 a1 a2 a3 m = m' → J S m0 (B) m' → Q none m') : X (EE s) d 220 0 [(0, zr 4 44), (1, zi a1), (2, zi a2), (3, zl a3)] [] m Q := by
  refine X.aload_n 1 i220_0 rfl rfl rfl ?_
  refine X.getF 4 i220_1 rfl rfl (by decide) rfl rfl ?_
  refine X.bipush 6 i220_4 rfl rfl (by decide) ?_
  refine X.iconst 7 i220_6 rfl rfl (by decide) ?_
  refine X.iload_n 8 i220_7 rfl rfl rfl ?_
  refine X.imul 9 i220_8 rfl rfl (by omega) ?_
  refine X.iadd 10 i220_9 rfl rfl (by omega) ?_
  refine X.iload_n 11 i220_10 rfl rfl rfl ?_
  refine X.iadd 12 i220_11 rfl rfl (by omega) ?_
  refine X.dup2 13 i220_12 rfl rfl ?_
  refine X.lald 14 i220_13 rfl rfl (by decide) rfl (by omega) ?_
  refine X.lload_n 15 i220_14 rfl rfl rfl ?_
  refine X.laddW 16 i220_15 rfl rfl (fun z501 ez501 hz501 => ?_)
  refine X.last' 17 i220_16 rfl rfl (by decide) rfl (by omega) (fun hrm502 m502 hm502 => ?_)
  have hJ503 := w45_60 hJ hm502 (by omega) hrm502 hf30 hg4
  refine X.aload_n 18 i220_17 rfl rfl rfl ?_
  refine X.getF 21 i220_18 rfl rfl (by decide) rfl rfl ?_
  refine X.bipush 23 i220_21 rfl rfl (by decide) ?_
  refine X.iconst 24 i220_23 rfl rfl (by decide) ?_
  refine X.iload_n 25 i220_24 rfl rfl rfl ?_
  refine X.imul 26 i220_25 rfl rfl (by omega) ?_
  refine X.iadd 27 i220_26 rfl rfl (by omega) ?_
  refine X.iconst 28 i220_27 rfl rfl (by decide) ?_
  refine X.iadd 29 i220_28 rfl rfl (by omega) ?_
  refine X.dup2 30 i220_29 rfl rfl ?_
  refine X.lald 31 i220_30 rfl rfl (by decide) rfl (by omega) ?_
  refine X.lload_n 32 i220_31 rfl rfl rfl ?_
  refine X.laddW 33 i220_32 rfl rfl (fun z504 ez504 hz504 => ?_)
  refine X.last' 34 i220_33 rfl rfl (by decide) rfl (by omega) (fun hrm505 m505 hm505 => ?_)
  have hJ506 := w45_60 hJ503 hm505 (by omega) hrm505 hf30 hg4
  refine X.retv i220_34 rfl t220 ?_
  exact hQ  m505  (Eq.trans (zn_eq ez501) (Eq.trans (zs_eq hm502) (Eq.trans (zn_eq ez504) (Eq.trans (zs_eq hm505) rfl)))) (hJ506.up (by omega)) 
-- WorkMeterModel.quadrant
noncomputable def f221_1 (a0 a1 : Int) (m : zM) : Int :=
  zn (if a0 < 0 then
  (if a1 < 0 then
  (3)
  else
  (2))
  else
  (if a1 < 0 then
  (4)
  else
  (1))) fun v507 =>
  v507
-- WorkMeterModel.quadrant
theorem c221_1 {s : Nat × (Nat → Int32)} {S : zS} {m0 m : zM} {B : Int} {d : Nat} {Q : Option zV → zM → Prop} (a0 a1 : Int) (hd : 13 ≤ d) (hJ : J S m0 B m) (hB : B + 0 ≤ 1000000000) (ha0 : (-12000000) ≤ a0 ∧ a0 ≤ 12000000) (ha1 : (-12000000) ≤ a1 ∧ a1 ≤ 12000000) (hQ : ∀ (v : Int), (1 ≤ v ∧ v ≤ 4) → f221_1 a0 a1 m = v → Q (some (zi v)) m) : X (EE s) d 221 0 [(0, zl a0), (2, zl a1)] [] m Q := by
  refine X.lload_n 1 i221_0 rfl rfl rfl ?_
  refine X.lconst (y := 0) 2 i221_1 rfl rfl rfl ?_
  refine X.lcmp 3 i221_2 rfl rfl (fun z501 hz501 => ?_)
  have hK510 : ∀ (v : Int) , (1 ≤ v ∧ v ≤ 4) → (if a0 < 0 then
      (if a1 < 0 then
      (3)
      else
      (2))
      else
      (if a1 < 0 then
      (4)
      else
      (1))) = v → X (EE s) d 221 31 [] [zi v] m Q := by
    intro v507 hv507 hT511
    refine X.reti i221_31 rfl t221 ?_
    exact hQ v507 (by first | trivial | omega) (Eq.trans (zn_eq hT511.symm) rfl) 
  refine X.iflt 20 6 i221_3 rfl rfl rfl (fun h502 => ?_) (fun h502 => ?_)
  · have h502c : a0 < 0 := by omega
    clear h502 hz501
    refine X.cut [(2, zl a1)] i221_20 rfl ?_
    refine X.lload_n 21 i221_20 rfl rfl rfl ?_
    refine X.lconst (y := 0) 22 i221_21 rfl rfl rfl ?_
    refine X.lcmp 23 i221_22 rfl rfl (fun z503 hz503 => ?_)
    refine X.iflt 30 26 i221_23 rfl rfl rfl (fun h504 => ?_) (fun h504 => ?_)
    · have h504c : a1 < 0 := by omega
      clear h504 hz503
      refine X.cut [] i221_30 rfl ?_
      refine X.iconst 31 i221_30 rfl rfl (by decide) ?_
      exact hK510 3 (by first | trivial | omega) (Eq.trans (if_pos h502c) (Eq.trans (if_pos h504c) rfl))
    · have h504c : ¬ a1 < 0 := by omega
      clear h504 hz503
      refine X.iconst 27 i221_26 rfl rfl (by decide) ?_
      refine X.goto 31 i221_27 rfl rfl ?_
      refine X.cut [] i221_31 rfl ?_
      exact hK510 2 (by first | trivial | omega) (Eq.trans (if_pos h502c) (Eq.trans (if_neg h504c) rfl))
  · have h502c : ¬ a0 < 0 := by omega
    clear h502 hz501
    refine X.lload_n 7 i221_6 rfl rfl rfl ?_
    refine X.lconst (y := 0) 8 i221_7 rfl rfl rfl ?_
    refine X.lcmp 9 i221_8 rfl rfl (fun z505 hz505 => ?_)
    refine X.iflt 16 12 i221_9 rfl rfl rfl (fun h506 => ?_) (fun h506 => ?_)
    · have h506c : a1 < 0 := by omega
      clear h506 hz505
      refine X.cut [] i221_16 rfl ?_
      refine X.iconst 17 i221_16 rfl rfl (by decide) ?_
      refine X.goto 31 i221_17 rfl rfl ?_
      exact hK510 4 (by first | trivial | omega) (Eq.trans (if_neg h502c) (Eq.trans (if_pos h506c) rfl))
    · have h506c : ¬ a1 < 0 := by omega
      clear h506 hz505
      refine X.iconst 13 i221_12 rfl rfl (by decide) ?_
      refine X.goto 31 i221_13 rfl rfl ?_
      refine X.cut [] i221_31 rfl ?_
      exact hK510 1 (by first | trivial | omega) (Eq.trans (if_neg h502c) (Eq.trans (if_neg h506c) rfl))
-- WorkMeterModel.counts
theorem c220_3 {s : Nat × (Nat → Int32)} {S : zS} {m0 m : zM} {B : Int} {d : Nat} {Q : Option zV → zM → Prop} (a1 a2 a3 : Int) (hd : 13 ≤ d) (hJ : J S m0 B m) (hB : B + 0 ≤ 1000000000) (ha1 : 2 ≤ a1 ∧ a1 ≤ 5) (ha2 : 0 ≤ a2 ∧ a2 ≤ 3) (ha3 : 0 ≤ a3 ∧ a3 ≤ 12000000) (hf30 : ¬ S.1 30) (hg4 : ¬ S.2.1 4) (hQ : ∀ m', f220_1 a1 a2 a3 m = m' → J S m0 (B) m' → Q none m') : X (EE s) d 220 0 [(0, zr 4 44), (1, zi a1), (2, zi a2), (3, zl a3)] [] m Q := by
  refine X.aload_n 1 i220_0 rfl rfl rfl ?_
  refine X.getF 4 i220_1 rfl rfl (by decide) rfl rfl ?_
  refine X.bipush 6 i220_4 rfl rfl (by decide) ?_
  refine X.iconst 7 i220_6 rfl rfl (by decide) ?_
  refine X.iload_n 8 i220_7 rfl rfl rfl ?_
  refine X.imul 9 i220_8 rfl rfl (by omega) ?_
  refine X.iadd 10 i220_9 rfl rfl (by omega) ?_
  refine X.iload_n 11 i220_10 rfl rfl rfl ?_
  refine X.iadd 12 i220_11 rfl rfl (by omega) ?_
  refine X.dup2 13 i220_12 rfl rfl ?_
  refine X.lald 14 i220_13 rfl rfl (by decide) rfl (by omega) ?_
  refine X.lload_n 15 i220_14 rfl rfl rfl ?_
  refine X.laddW 16 i220_15 rfl rfl (fun z501 ez501 hz501 => ?_)
  refine X.last' 17 i220_16 rfl rfl (by decide) rfl (by omega) (fun hrm502 m502 hm502 => ?_)
  have hJ503 := w45_60 hJ hm502 (by omega) hrm502 hf30 hg4
  refine X.aload_n 18 i220_17 rfl rfl rfl ?_
  refine X.getF 21 i220_18 rfl rfl (by decide) rfl rfl ?_
  refine X.bipush 23 i220_21 rfl rfl (by decide) ?_
  refine X.iconst 24 i220_23 rfl rfl (by decide) ?_
  refine X.iload_n 25 i220_24 rfl rfl rfl ?_
  refine X.imul 26 i220_25 rfl rfl (by omega) ?_
  refine X.iadd 27 i220_26 rfl rfl (by omega) ?_
  refine X.iconst 28 i220_27 rfl rfl (by decide) ?_
  refine X.iadd 29 i220_28 rfl rfl (by omega) ?_
  refine X.dup2 30 i220_29 rfl rfl ?_
  refine X.lald 31 i220_30 rfl rfl (by decide) rfl (by omega) ?_
  refine X.lload_n 32 i220_31 rfl rfl rfl ?_
  refine X.laddW 33 i220_32 rfl rfl (fun z504 ez504 hz504 => ?_)
  refine X.last' 34 i220_33 rfl rfl (by decide) rfl (by omega) (fun hrm505 m505 hm505 => ?_)
  have hJ506 := w45_60 hJ503 hm505 (by omega) hrm505 hf30 hg4
  refine X.retv i220_34 rfl t220 ?_
  exact hQ  m505  (Eq.trans (zn_eq ez501) (Eq.trans (zs_eq hm502) (Eq.trans (zn_eq ez504) (Eq.trans (zs_eq hm505) rfl)))) (hJ506.up (by omega)) 
-- WorkMeterModel.counts
theorem c220_4 {s : Nat × (Nat → Int32)} {S : zS} {m0 m : zM} {B : Int} {d : Nat} {Q : Option zV → zM → Prop} (a1 a2 a3 : Int) (hd : 13 ≤ d) (hJ : J S m0 B m) (hB : B + 0 ≤ 1000000000) (ha1 : 6 ≤ a1 ∧ a1 ≤ 6) (ha2 : 0 ≤ a2 ∧ a2 ≤ 3) (ha3 : 0 ≤ a3 ∧ a3 ≤ 3000000000) (hf30 : ¬ S.1 30) (hg4 : ¬ S.2.1 4) (hQ : ∀ m', f220_1 a1 a2 a3 m = m' → J S m0 (B) m' → Q none m') : X (EE s) d 220 0 [(0, zr 4 44), (1, zi a1), (2, zi a2), (3, zl a3)] [] m Q := by
  refine X.aload_n 1 i220_0 rfl rfl rfl ?_
  refine X.getF 4 i220_1 rfl rfl (by decide) rfl rfl ?_
  refine X.bipush 6 i220_4 rfl rfl (by decide) ?_
  refine X.iconst 7 i220_6 rfl rfl (by decide) ?_
  refine X.iload_n 8 i220_7 rfl rfl rfl ?_
  refine X.imul 9 i220_8 rfl rfl (by omega) ?_
  refine X.iadd 10 i220_9 rfl rfl (by omega) ?_
  refine X.iload_n 11 i220_10 rfl rfl rfl ?_
  refine X.iadd 12 i220_11 rfl rfl (by omega) ?_
  refine X.dup2 13 i220_12 rfl rfl ?_
  refine X.lald 14 i220_13 rfl rfl (by decide) rfl (by omega) ?_
  refine X.lload_n 15 i220_14 rfl rfl rfl ?_
  refine X.laddW 16 i220_15 rfl rfl (fun z501 ez501 hz501 => ?_)
  refine X.last' 17 i220_16 rfl rfl (by decide) rfl (by omega) (fun hrm502 m502 hm502 => ?_)
  have hJ503 := w45_60 hJ hm502 (by omega) hrm502 hf30 hg4
  refine X.aload_n 18 i220_17 rfl rfl rfl ?_
  refine X.getF 21 i220_18 rfl rfl (by decide) rfl rfl ?_
  refine X.bipush 23 i220_21 rfl rfl (by decide) ?_
  refine X.iconst 24 i220_23 rfl rfl (by decide) ?_
  refine X.iload_n 25 i220_24 rfl rfl rfl ?_
  refine X.imul 26 i220_25 rfl rfl (by omega) ?_
  refine X.iadd 27 i220_26 rfl rfl (by omega) ?_
  refine X.iconst 28 i220_27 rfl rfl (by decide) ?_
  refine X.iadd 29 i220_28 rfl rfl (by omega) ?_
  refine X.dup2 30 i220_29 rfl rfl ?_
  refine X.lald 31 i220_30 rfl rfl (by decide) rfl (by omega) ?_
  refine X.lload_n 32 i220_31 rfl rfl rfl ?_
  refine X.laddW 33 i220_32 rfl rfl (fun z504 ez504 hz504 => ?_)
  refine X.last' 34 i220_33 rfl rfl (by decide) rfl (by omega) (fun hrm505 m505 hm505 => ?_)
  have hJ506 := w45_60 hJ503 hm505 (by omega) hrm505 hf30 hg4
  refine X.retv i220_34 rfl t220 ?_
  exact hQ  m505  (Eq.trans (zn_eq ez501) (Eq.trans (zs_eq hm502) (Eq.trans (zn_eq ez504) (Eq.trans (zs_eq hm505) rfl)))) (hJ506.up (by omega)) 
-- WorkMeterModel.registers
noncomputable def f216_1 (a1 a2 a3 : Int) (m : zM) : zM :=
  zn (f217_1 (m 4 45 0) m) fun v504 =>
  zn (w64 (((m 4 45 (60 + v504))).tdiv (m 4 45 5))) fun z506 =>
  zs (if a1 ≤ 0 then
  (m)
  else
  (zs (f220_1 0 v504 a1 m) fun m509 =>
  m509)) fun m513 =>
  zs (if a1 < 0 then
  (zs (f220_1 1 v504 (-a1) m513) fun m519 =>
  m519)
  else
  (m513)) fun m523 =>
  zn (f221_1 a1 a2 m523) fun v529 =>
  zn (f215_1 a2 m523) fun v532 =>
  zs (f220_1 (1 + v529) v504 v532 m523) fun m533 =>
  zs (f220_1 6 v504 a3 m533) fun m536 =>
  zn (w64 (((m536 4 45 (60 + v504))).tdiv (m536 4 45 5))) fun z540 =>
  zn (w64 (z540 - z506)) fun z541 =>
  zn (w64 (z541 * (m536 4 45 (28 + v504)))) fun z543 =>
  zn (w64 ((m536 4 45 10) - z543)) fun z544 =>
  zs (z_upd m536 4 45 10 z544) fun m545 =>
  zn (if a1 ≤ 0 then
  (0)
  else
  (a1)) fun v549 =>
  zn (w64 ((m545 4 45 22) + v549)) fun z554 =>
  zs (z_upd m545 4 45 22 z554) fun m555 =>
  zn (if a1 < 0 then
  ((-a1))
  else
  (0)) fun v559 =>
  zn (w64 ((m555 4 45 23) + v559)) fun z564 =>
  zs (z_upd m555 4 45 23 z564) fun m565 =>
  zn (w64 ((m565 4 45 24) + a3)) fun z567 =>
  zs (z_upd m565 4 45 24 z567) fun m568 =>
  m568
-- WorkMeterModel.registers
theorem c216_1 {s : Nat × (Nat → Int32)} {S : zS} {m0 m : zM} {B : Int} {d : Nat} {Q : Option zV → zM → Prop} (a1 a2 a3 : Int) (hd : 16 ≤ d) (hJ : J S m0 B m) (hB : B + 0 ≤ 1000000000) (ha1 : (-12000000) ≤ a1 ∧ a1 ≤ 12000000) (ha2 : (-12000000) ≤ a2 ∧ a2 ≤ 12000000) (ha3 : 0 ≤ a3 ∧ a3 ≤ 3000000000) (hf27 : ¬ S.1 27) (hf30 : ¬ S.1 30) (hf32 : ¬ S.1 32) (hg4 : ¬ S.2.1 4) (hQ : ∀ m', f216_1 a1 a2 a3 m = m' → J S m0 (B) m' → Q none m') : X (EE s) d 216 0 [(0, zr 4 44), (1, zl a1), (3, zl a2), (5, zl a3)] [] m Q := by
  refine X.aload_n 1 i216_0 rfl rfl rfl ?_
  refine X.aload_n 2 i216_1 rfl rfl rfl ?_
  refine X.getF 5 i216_2 rfl rfl (by decide) rfl rfl ?_
  refine X.iconst 6 i216_5 rfl rfl (by decide) ?_
  refine X.lald 7 i216_6 rfl rfl (by decide) rfl (by omega) ?_
  have h501 := r45_0 hJ 4
  refine X.l2i 8 i216_7 rfl rfl (by omega) ?_
  refine X.callv 11 [zi (m 4 45 0)] [] [(0, zr 4 44), (1, zi (m 4 45 0))] i216_8 rfl (by decide) rfl rfl (by omega) rfl rfl (by decide) rfl t217 (Nat.le_of_ble_eq_true rfl) (Nat.le_of_ble_eq_true rfl) rfl ?_
  refine c217_1 (B := B)  (m 4 45 0) (by omega) (hJ.up (by omega)) (by omega) (by omega) (fun v504 hv504 hFv504 => ?_)
  show X (EE s) d 216 11 [(0, zr 4 44), (1, zl a1), (3, zl a2), (5, zl a3)] [zi v504] m _
  refine X.istore 13 [(0, zr 4 44), (1, zl a1), (3, zl a2), (5, zl a3), (7, zi v504)] i216_11 rfl rfl rfl ?_
  refine X.aload_n 14 i216_13 rfl rfl rfl ?_
  refine X.getF 17 i216_14 rfl rfl (by decide) rfl rfl ?_
  refine X.bipush 19 i216_17 rfl rfl (by decide) ?_
  refine X.iload 21 i216_19 rfl rfl rfl ?_
  refine X.iadd 22 i216_21 rfl rfl (by omega) ?_
  refine X.lald 23 i216_22 rfl rfl (by decide) rfl (by omega) ?_
  refine X.aload_n 24 i216_23 rfl rfl rfl ?_
  refine X.getF 27 i216_24 rfl rfl (by decide) rfl rfl ?_
  refine X.iconst 28 i216_27 rfl rfl (by decide) ?_
  refine X.lald 29 i216_28 rfl rfl (by decide) rfl (by omega) ?_
  have h505 := r45_5 hJ 4
  refine X.ldivW 30 i216_29 rfl rfl (by omega) (fun z506 ez506 hz506 => ?_)
  refine X.lstore 32 [(0, zr 4 44), (1, zl a1), (3, zl a2), (5, zl a3), (7, zi v504), (8, zl z506)] i216_30 rfl rfl rfl ?_
  refine X.lload_n 33 i216_32 rfl rfl rfl ?_
  refine X.lconst (y := 0) 34 i216_33 rfl rfl rfl ?_
  refine X.lcmp 35 i216_34 rfl rfl (fun z507 hz507 => ?_)
  have hK515 : ∀ (m' : zM), (if a1 ≤ 0 then
      (m)
      else
      (zs (f220_1 0 v504 a1 m) fun m509 =>
      m509)) = m' → J S m0 (B) m' → X (EE s) d 216 46 [(0, zr 4 44), (1, zl a1), (3, zl a2), (5, zl a3), (7, zi v504), (8, zl z506)] [] m' Q := by
    intro m513 hT516 hJ514
    refine X.lload_n 47 i216_46 rfl rfl rfl ?_
    refine X.lconst (y := 0) 48 i216_47 rfl rfl rfl ?_
    refine X.lcmp 49 i216_48 rfl rfl (fun z517 hz517 => ?_)
    have hK525 : ∀ (m' : zM), (if a1 < 0 then
        (zs (f220_1 1 v504 (-a1) m513) fun m519 =>
        m519)
        else
        (m513)) = m' → J S m0 (B) m' → X (EE s) d 216 61 [(0, zr 4 44), (1, zl a1), (3, zl a2), (5, zl a3), (7, zi v504), (8, zl z506)] [] m' Q := by
      intro m523 hT526 hJ524
      refine X.aload_n 62 i216_61 rfl rfl rfl ?_
      refine X.iconst 63 i216_62 rfl rfl (by decide) ?_
      refine X.lload_n 64 i216_63 rfl rfl rfl ?_
      refine X.lload_n 65 i216_64 rfl rfl rfl ?_
      refine X.calls 68 [zl a1, zl a2] [zi 1, zr 4 44] [(0, zl a1), (2, zl a2)] i216_65 (by decide) rfl rfl (by omega) rfl rfl t221 (Nat.le_of_ble_eq_true rfl) (Nat.le_of_ble_eq_true rfl) rfl ?_
      refine c221_1 (B := B)  a1 a2 (by omega) (hJ524.up (by omega)) (by omega) (by omega) (by omega) (fun v529 hv529 hFv529 => ?_)
      show X (EE s) d 216 68 [(0, zr 4 44), (1, zl a1), (3, zl a2), (5, zl a3), (7, zi v504), (8, zl z506)] [zi v529, zi 1, zr 4 44] m523 _
      refine X.iadd 69 i216_68 rfl rfl (by omega) ?_
      refine X.iload 71 i216_69 rfl rfl rfl ?_
      refine X.lload_n 72 i216_71 rfl rfl rfl ?_
      refine X.calls 75 [zl a2] [zi v504, zi (1 + v529), zr 4 44] [(0, zl a2)] i216_72 (by decide) rfl rfl (by omega) rfl rfl t215 (Nat.le_of_ble_eq_true rfl) (Nat.le_of_ble_eq_true rfl) rfl ?_
      refine c215_1 (B := B)  a2 (by omega) (hJ524.up (by omega)) (by omega) (by omega) (fun v532 hv532 hFv532 => ?_)
      show X (EE s) d 216 75 [(0, zr 4 44), (1, zl a1), (3, zl a2), (5, zl a3), (7, zi v504), (8, zl z506)] [zl v532, zi v504, zi (1 + v529), zr 4 44] m523 _
      refine X.callv 78 [zi (1 + v529), zi v504, zl v532] [] [(0, zr 4 44), (1, zi (1 + v529)), (2, zi v504), (3, zl v532)] i216_75 rfl (by decide) rfl rfl (by omega) rfl rfl (by decide) rfl t220 (Nat.le_of_ble_eq_true rfl) (Nat.le_of_ble_eq_true rfl) rfl ?_
      refine c220_3 (B := B)  (1 + v529) v504 v532 (by omega) (hJ524.up (by omega)) (by omega) (by omega) (by omega) (by omega) hf30 hg4 (fun m533 hFv535 hJ534 => ?_)
      show X (EE s) d 216 78 [(0, zr 4 44), (1, zl a1), (3, zl a2), (5, zl a3), (7, zi v504), (8, zl z506)] [] m533 _
      refine X.aload_n 79 i216_78 rfl rfl rfl ?_
      refine X.bipush 81 i216_79 rfl rfl (by decide) ?_
      refine X.iload 83 i216_81 rfl rfl rfl ?_
      refine X.lload 85 i216_83 rfl rfl rfl ?_
      refine X.callv 88 [zi 6, zi v504, zl a3] [] [(0, zr 4 44), (1, zi 6), (2, zi v504), (3, zl a3)] i216_85 rfl (by decide) rfl rfl (by omega) rfl rfl (by decide) rfl t220 (Nat.le_of_ble_eq_true rfl) (Nat.le_of_ble_eq_true rfl) rfl ?_
      refine c220_4 (B := B)  6 v504 a3 (by omega) (hJ534.up (by omega)) (by omega) (by omega) (by omega) (by omega) hf30 hg4 (fun m536 hFv538 hJ537 => ?_)
      show X (EE s) d 216 88 [(0, zr 4 44), (1, zl a1), (3, zl a2), (5, zl a3), (7, zi v504), (8, zl z506)] [] m536 _
      refine X.aload_n 89 i216_88 rfl rfl rfl ?_
      refine X.getF 92 i216_89 rfl rfl (by decide) rfl rfl ?_
      refine X.bipush 94 i216_92 rfl rfl (by decide) ?_
      refine X.dup2 95 i216_94 rfl rfl ?_
      refine X.lald 96 i216_95 rfl rfl (by decide) rfl (by omega) ?_
      refine X.aload_n 97 i216_96 rfl rfl rfl ?_
      refine X.getF 100 i216_97 rfl rfl (by decide) rfl rfl ?_
      refine X.bipush 102 i216_100 rfl rfl (by decide) ?_
      refine X.iload 104 i216_102 rfl rfl rfl ?_
      refine X.iadd 105 i216_104 rfl rfl (by omega) ?_
      refine X.lald 106 i216_105 rfl rfl (by decide) rfl (by omega) ?_
      refine X.aload_n 107 i216_106 rfl rfl rfl ?_
      refine X.getF 110 i216_107 rfl rfl (by decide) rfl rfl ?_
      refine X.iconst 111 i216_110 rfl rfl (by decide) ?_
      refine X.lald 112 i216_111 rfl rfl (by decide) rfl (by omega) ?_
      have h539 := r45_5 hJ537 4
      refine X.ldivW 113 i216_112 rfl rfl (by omega) (fun z540 ez540 hz540 => ?_)
      refine X.lload 115 i216_113 rfl rfl rfl ?_
      refine X.lsubW 116 i216_115 rfl rfl (fun z541 ez541 hz541 => ?_)
      refine X.aload_n 117 i216_116 rfl rfl rfl ?_
      refine X.getF 120 i216_117 rfl rfl (by decide) rfl rfl ?_
      refine X.bipush 122 i216_120 rfl rfl (by decide) ?_
      refine X.iload 124 i216_122 rfl rfl rfl ?_
      refine X.iadd 125 i216_124 rfl rfl (by omega) ?_
      refine X.lald 126 i216_125 rfl rfl (by decide) rfl (by omega) ?_
      have h542 := r45_28 hJ537 4 (i := (28 + v504)) (by omega)
      refine X.lmulW 127 i216_126 rfl rfl (fun z543 ez543 hz543 => ?_)
      refine X.lsubW 128 i216_127 rfl rfl (fun z544 ez544 hz544 => ?_)
      refine X.last' 129 i216_128 rfl rfl (by decide) rfl (by omega) (fun hrm545 m545 hm545 => ?_)
      have hJ546 := w45_10 hJ537 hm545 hrm545 hf32 hg4
      refine X.aload_n 130 i216_129 rfl rfl rfl ?_
      refine X.getF 133 i216_130 rfl rfl (by decide) rfl rfl ?_
      refine X.bipush 135 i216_133 rfl rfl (by decide) ?_
      refine X.dup2 136 i216_135 rfl rfl ?_
      refine X.lald 137 i216_136 rfl rfl (by decide) rfl (by omega) ?_
      refine X.lload_n 138 i216_137 rfl rfl rfl ?_
      refine X.lconst (y := 0) 139 i216_138 rfl rfl rfl ?_
      refine X.lcmp 140 i216_139 rfl rfl (fun z547 hz547 => ?_)
      have hK552 : ∀ (v : Int) , (0 ≤ v ∧ v ≤ 12000000) → (if a1 ≤ 0 then
          (0)
          else
          (a1)) = v → X (EE s) d 216 148 [(0, zr 4 44), (1, zl a1), (5, zl a3)] [zl v, zl (m545 4 45 22), zi 22, zr 4 45] m545 Q := by
        intro v549 hv549 hT553
        refine X.laddW 149 i216_148 rfl rfl (fun z554 ez554 hz554 => ?_)
        refine X.last' 150 i216_149 rfl rfl (by decide) rfl (by omega) (fun hrm555 m555 hm555 => ?_)
        have hJ556 := w45_21 hJ546 hm555 (by omega) hrm555 hf27 hg4
        refine X.aload_n 151 i216_150 rfl rfl rfl ?_
        refine X.getF 154 i216_151 rfl rfl (by decide) rfl rfl ?_
        refine X.bipush 156 i216_154 rfl rfl (by decide) ?_
        refine X.dup2 157 i216_156 rfl rfl ?_
        refine X.lald 158 i216_157 rfl rfl (by decide) rfl (by omega) ?_
        refine X.lload_n 159 i216_158 rfl rfl rfl ?_
        refine X.lconst (y := 0) 160 i216_159 rfl rfl rfl ?_
        refine X.lcmp 161 i216_160 rfl rfl (fun z557 hz557 => ?_)
        have hK562 : ∀ (v : Int) , (0 ≤ v ∧ v ≤ 12000000) → (if a1 < 0 then
            ((-a1))
            else
            (0)) = v → X (EE s) d 216 170 [(0, zr 4 44), (5, zl a3)] [zl v, zl (m555 4 45 23), zi 23, zr 4 45] m555 Q := by
          intro v559 hv559 hT563
          refine X.laddW 171 i216_170 rfl rfl (fun z564 ez564 hz564 => ?_)
          refine X.last' 172 i216_171 rfl rfl (by decide) rfl (by omega) (fun hrm565 m565 hm565 => ?_)
          have hJ566 := w45_21 hJ556 hm565 (by omega) hrm565 hf27 hg4
          refine X.aload_n 173 i216_172 rfl rfl rfl ?_
          refine X.getF 176 i216_173 rfl rfl (by decide) rfl rfl ?_
          refine X.bipush 178 i216_176 rfl rfl (by decide) ?_
          refine X.dup2 179 i216_178 rfl rfl ?_
          refine X.lald 180 i216_179 rfl rfl (by decide) rfl (by omega) ?_
          refine X.lload 182 i216_180 rfl rfl rfl ?_
          refine X.laddW 183 i216_182 rfl rfl (fun z567 ez567 hz567 => ?_)
          refine X.last' 184 i216_183 rfl rfl (by decide) rfl (by omega) (fun hrm568 m568 hm568 => ?_)
          have hJ569 := w45_21 hJ566 hm568 (by omega) hrm568 hf27 hg4
          refine X.retv i216_184 rfl t216 ?_
          exact hQ  m568  (Eq.trans (zn_eq hFv504.symm) (Eq.trans (zn_eq ez506) (Eq.trans (zs_eq hT516.symm) (Eq.trans (zs_eq hT526.symm) (Eq.trans (zn_eq hFv529.symm) (Eq.trans (zn_eq hFv532.symm) (Eq.trans (zs_eq hFv535.symm) (Eq.trans (zs_eq hFv538.symm) (Eq.trans (zn_eq ez540) (Eq.trans (zn_eq ez541) (Eq.trans (zn_eq ez543) (Eq.trans (zn_eq ez544) (Eq.trans (zs_eq hm545) (Eq.trans (zn_eq hT553.symm) (Eq.trans (zn_eq ez554) (Eq.trans (zs_eq hm555) (Eq.trans (zn_eq hT563.symm) (Eq.trans (zn_eq ez564) (Eq.trans (zs_eq hm565) (Eq.trans (zn_eq ez567) (Eq.trans (zs_eq hm568) rfl))))))))))))))))))))) (hJ569.up (by omega)) 
        refine X.ifge 169 164 i216_161 rfl rfl rfl (fun h558 => ?_) (fun h558 => ?_)
        · have h558c : ¬ a1 < 0 := by omega
          clear h558 hz557
          refine X.cut [(0, zr 4 44), (5, zl a3)] i216_169 rfl ?_
          refine X.lconst (y := 0) 170 i216_169 rfl rfl rfl ?_
          exact hK562 0 (by first | trivial | omega) (Eq.trans (if_neg h558c) rfl)
        · have h558c : a1 < 0 := by omega
          clear h558 hz557
          refine X.lload_n 165 i216_164 rfl rfl rfl ?_
          refine X.lneg 166 i216_165 rfl rfl (by omega) ?_
          refine X.goto 170 i216_166 rfl rfl ?_
          refine X.cut [(0, zr 4 44), (5, zl a3)] i216_170 rfl ?_
          exact hK562 (-a1) (by first | trivial | omega) (Eq.trans (if_pos h558c) rfl)
      refine X.ifle 147 143 i216_140 rfl rfl rfl (fun h548 => ?_) (fun h548 => ?_)
      · have h548c : a1 ≤ 0 := by omega
        clear h548 hz547
        refine X.cut [(0, zr 4 44), (1, zl a1), (5, zl a3)] i216_147 rfl ?_
        refine X.lconst (y := 0) 148 i216_147 rfl rfl rfl ?_
        exact hK552 0 (by first | trivial | omega) (Eq.trans (if_pos h548c) rfl)
      · have h548c : ¬ a1 ≤ 0 := by omega
        clear h548 hz547
        refine X.lload_n 144 i216_143 rfl rfl rfl ?_
        refine X.goto 148 i216_144 rfl rfl ?_
        refine X.cut [(0, zr 4 44), (1, zl a1), (5, zl a3)] i216_148 rfl ?_
        exact hK552 a1 (by first | trivial | omega) (Eq.trans (if_neg h548c) rfl)
    refine X.ifge 61 52 i216_49 rfl rfl rfl (fun h518 => ?_) (fun h518 => ?_)
    · have h518c : ¬ a1 < 0 := by omega
      clear h518 hz517
      exact hK525 m513 (Eq.trans (if_neg h518c) rfl) (hJ514.up (by omega))
    · have h518c : a1 < 0 := by omega
      clear h518 hz517
      refine X.aload_n 53 i216_52 rfl rfl rfl ?_
      refine X.iconst 54 i216_53 rfl rfl (by decide) ?_
      refine X.iload 56 i216_54 rfl rfl rfl ?_
      refine X.lload_n 57 i216_56 rfl rfl rfl ?_
      refine X.lneg 58 i216_57 rfl rfl (by omega) ?_
      refine X.callv 61 [zi 1, zi v504, zl (-a1)] [] [(0, zr 4 44), (1, zi 1), (2, zi v504), (3, zl (-a1))] i216_58 rfl (by decide) rfl rfl (by omega) rfl rfl (by decide) rfl t220 (Nat.le_of_ble_eq_true rfl) (Nat.le_of_ble_eq_true rfl) rfl ?_
      refine c220_2 (B := B)  1 v504 (-a1) (by omega) (hJ514.up (by omega)) (by omega) (by omega) (by omega) (by omega) hf30 hg4 (fun m519 hFv521 hJ520 => ?_)
      show X (EE s) d 216 61 [(0, zr 4 44), (1, zl a1), (3, zl a2), (5, zl a3), (7, zi v504), (8, zl z506)] [] m519 _
      exact hK525 m519 (Eq.trans (if_pos h518c) (Eq.trans (zs_eq hFv521.symm) rfl)) (hJ520.up (by omega))
  refine X.ifle 46 38 i216_35 rfl rfl rfl (fun h508 => ?_) (fun h508 => ?_)
  · have h508c : a1 ≤ 0 := by omega
    clear h508 hz507
    exact hK515 m (Eq.trans (if_pos h508c) rfl) (hJ.up (by omega))
  · have h508c : ¬ a1 ≤ 0 := by omega
    clear h508 hz507
    refine X.aload_n 39 i216_38 rfl rfl rfl ?_
    refine X.iconst 40 i216_39 rfl rfl (by decide) ?_
    refine X.iload 42 i216_40 rfl rfl rfl ?_
    refine X.lload_n 43 i216_42 rfl rfl rfl ?_
    refine X.callv 46 [zi 0, zi v504, zl a1] [] [(0, zr 4 44), (1, zi 0), (2, zi v504), (3, zl a1)] i216_43 rfl (by decide) rfl rfl (by omega) rfl rfl (by decide) rfl t220 (Nat.le_of_ble_eq_true rfl) (Nat.le_of_ble_eq_true rfl) rfl ?_
    refine c220_1 (B := B)  0 v504 a1 (by omega) (hJ.up (by omega)) (by omega) (by omega) (by omega) (by omega) hf30 hg4 (fun m509 hFv511 hJ510 => ?_)
    show X (EE s) d 216 46 [(0, zr 4 44), (1, zl a1), (3, zl a2), (5, zl a3), (7, zi v504), (8, zl z506)] [] m509 _
    exact hK515 m509 (Eq.trans (if_neg h508c) (Eq.trans (zs_eq hFv511.symm) rfl)) (hJ510.up (by omega))
noncomputable def fl223_17_1_b (self : Int → zM → zM) (k54 : zM → zM) (y1 y2 : Int) (y4 : Int) (m : zM) : zM :=
  if 120 ≤ y4 then
  (k54 m)
  else
  (zs (z_upd m 4 45 ((1487 + y4) - 3) (m 4 45 (1487 + y4))) fun m505 =>
  self (y4 + 1) m505)
noncomputable def fl223_17_1 (k54 : zM → zM) (y1 y2 : Int) : Nat → Int → zM → zM
  | 0 => fun y4 m => m
  | n + 1 => fl223_17_1_b (fl223_17_1 k54 y1 y2 n) k54 y1 y2
theorem l223_17_1 {s : Nat × (Nat → Int32)} {S : zS} {m0 : zM} {d : Nat} {Q : Option zV → zM → Prop} {R0 : zM} {k54 : zM → zM} (y1 y2 : Int) (BE : Int) (hE : BE ≤ 1000000000) (hd : 13 ≤ d) (hy1 : 0 ≤ y1 ∧ y1 ≤ 40) (hf26 : ¬ S.1 26) (hg4 : ¬ S.2.1 4)
    (K54 : ∀ (m' : zM) (B' : Int), J S m0 B' m' → B' ≤ BE → R0 = k54 m' → X (EE s) d 223 54 [(0, zr 4 44), (1, zi y1), (2, zl y2)] [] m' Q) :
    ∀ (n : Nat) (y4 : Int) (m : zM) (B : Int), J S m0 B m → B + 0 * (n : Int) ≤ BE → (3 ≤ y4 ∧ y4 ≤ 120) → 120 - y4 < (n : Int) → R0 = fl223_17_1 k54 y1 y2 n y4 m → X (EE s) d 223 17 [(0, zr 4 44), (1, zi y1), (2, zl y2), (4, zi y4)] [] m Q := by
  intro n
  induction n with
  | zero =>
    intro y4 m B hJ hB hy4 hn hR
    exfalso
    omega
  | succ n ih =>
    intro y4 m B hJ hB hy4 hn hR
    replace hR : R0 = fl223_17_1_b (fl223_17_1 k54 y1 y2 n) k54 y1 y2 y4 m := hR
    refine X.iload 19 i223_17 rfl rfl rfl ?_
    refine X.bipush 21 i223_19 rfl rfl (by decide) ?_
    refine X.icmpge 54 24 i223_21 rfl rfl rfl (fun h504 => ?_) (fun h504 => ?_)
    · refine X.cut [(0, zr 4 44), (1, zi y1), (2, zl y2)] i223_54 rfl ?_
      exact K54  m (B) (hJ.up (by omega)) (by omega)  (Eq.trans hR (Eq.trans (if_pos h504) rfl))
    · refine X.aload_n 25 i223_24 rfl rfl rfl ?_
      refine X.getF 28 i223_25 rfl rfl (by decide) rfl rfl ?_
      refine X.sipush 31 i223_28 rfl rfl (by decide) ?_
      refine X.iload 33 i223_31 rfl rfl rfl ?_
      refine X.iadd 34 i223_33 rfl rfl (by omega) ?_
      refine X.iconst 35 i223_34 rfl rfl (by decide) ?_
      refine X.isub 36 i223_35 rfl rfl (by omega) ?_
      refine X.aload_n 37 i223_36 rfl rfl rfl ?_
      refine X.getF 40 i223_37 rfl rfl (by decide) rfl rfl ?_
      refine X.sipush 43 i223_40 rfl rfl (by decide) ?_
      refine X.iload 45 i223_43 rfl rfl rfl ?_
      refine X.iadd 46 i223_45 rfl rfl (by omega) ?_
      refine X.lald 47 i223_46 rfl rfl (by decide) rfl (by omega) ?_
      refine X.last' 48 i223_47 rfl rfl (by decide) rfl (by omega) (fun hrm505 m505 hm505 => ?_)
      have hJ506 := w45_1487 hJ hm505 (by omega) hrm505 hf26 hg4
      refine X.iinc 51 [(0, zr 4 44), (1, zi y1), (2, zl y2), (4, zi (y4 + 1))] i223_48 rfl rfl rfl (by omega) rfl ?_
      refine X.goto 17 i223_51 rfl rfl ?_
      exact ih (y4 + 1) m505 (B) (hJ506.up (by omega)) (by omega) (by omega) (by omega) (Eq.trans hR (Eq.trans (if_neg h504) (Eq.trans (zs_eq hm505) rfl)))
-- WorkMeterModel.logs
noncomputable def f223_1 (a1 a2 : Int) (m : zM) : zM :=
  if (m 4 45 16) < 40 then
  (zs (z_upd m 4 45 (1487 + (3 * (m 4 45 16))) (m 4 45 0)) fun m507 =>
  zs (z_upd m507 4 45 ((1487 + (3 * (m 4 45 16))) + 1) a1) fun m509 =>
  zs (z_upd m509 4 45 ((1487 + (3 * (m 4 45 16))) + 2) a2) fun m511 =>
  zs (z_upd m511 4 45 16 ((m511 4 45 16) + 1)) fun m514 =>
  m514)
  else
  (fl223_17_1 (fun m516 =>
  zn (if (m516 4 45 16) < 40 then
  ((m516 4 45 16))
  else
  (39)) fun v523 =>
  zs (z_upd m516 4 45 (1487 + (3 * v523)) (m516 4 45 0)) fun m529 =>
  zs (z_upd m529 4 45 ((1487 + (3 * v523)) + 1) a1) fun m531 =>
  zs (z_upd m531 4 45 ((1487 + (3 * v523)) + 2) a2) fun m533 =>
  zs (z_upd m533 4 45 16 ((m533 4 45 16) + 1)) fun m536 =>
  m536) a1 a2 (zfu 118) 3 m)
