section
-- WorkMeterModel.log
theorem c313_1 {s : Nat × (Nat → Int32)} {S : zS} {m0 m : zM} {B : Int} {d : Nat} {Q : Option zV → zM → Prop} (a1 a2 : Int) (hd : 13 ≤ d) (hJ : J S m0 B m) (hB : B + 0 ≤ 1000000000) (ha1 : (-2147483648) ≤ a1 ∧ a1 ≤ 2147483647) (ha2 : (-2147483648) ≤ a2 ∧ a2 ≤ 2147483647) (hQ : ∀ (v : Int), ((-2147483648) ≤ v ∧ v ≤ 2147483647) → f313_1 a1 a2 m = v → Q (some (zi v)) m) : X (EE s) d 313 0 [(0, zr 4 44), (1, zi a1), (2, zi a2)] [] m Q := by
  refine X.aload_n 1 i313_0 rfl rfl rfl ?_
  refine X.getF 4 i313_1 rfl rfl (by decide) rfl rfl ?_
  refine X.bipush 6 i313_4 rfl rfl (by decide) ?_
  refine X.lald 7 i313_6 rfl rfl (by decide) rfl (by omega) ?_
  have h501 := r45_16 hJ 4
  refine X.ldc2 10 i313_7 rfl rfl (by decide) ?_
  refine X.lcmp 11 i313_10 rfl rfl (fun z502 hz502 => ?_)
  have hK507 : ∀ (v : Int) , (0 ≤ v ∧ v ≤ 40) → (if (m 4 45 16) < 40 then
      ((m 4 45 16))
      else
      (40)) = v → X (EE s) d 313 27 [(0, zr 4 44), (1, zi a1), (2, zi a2)] [zl v] m Q := by
    intro v504 hv504 hT508
    refine X.l2i 28 i313_27 rfl rfl (by omega) ?_
    refine X.istore_n 29 [(0, zr 4 44), (1, zi a1), (2, zi a2), (3, zi v504)] i313_28 rfl rfl rfl ?_
    refine X.iload_n 30 i313_29 rfl rfl rfl ?_
    refine X.i2l 31 i313_30 rfl rfl ?_
    refine X.lconst (y := 0) 32 i313_31 rfl rfl rfl ?_
    refine X.iload_n 33 i313_32 rfl rfl rfl ?_
    refine X.iconst 34 i313_33 rfl rfl (by decide) ?_
    refine X.isub 35 i313_34 rfl rfl (by omega) ?_
    refine X.i2l 36 i313_35 rfl rfl ?_
    refine X.calls 39 [zl a1, zl 0, zl (v504 - 1)] [] [(0, zl a1), (2, zl 0), (4, zl (v504 - 1))] i313_36 (by decide) rfl rfl (by omega) rfl rfl t204 (Nat.le_of_ble_eq_true rfl) (Nat.le_of_ble_eq_true rfl) rfl ?_
    refine X.lload_n 1 i204_0 rfl rfl rfl ?_
    refine X.lload_n 2 i204_1 rfl rfl rfl ?_
    refine X.lcmp 3 i204_2 rfl rfl (fun z509 hz509 => ?_)
    refine X.iflt 17 6 i204_3 rfl rfl rfl (fun h510 => ?_) (fun h510 => ?_)
    · have h510c : a1 < 0 := by omega
      clear h510 hz509
      refine X.cut [] i204_17 rfl ?_
      refine X.iconst 18 i204_17 rfl rfl (by decide) ?_
      refine X.retz i204_18 rfl t204 (by omega) ?_
      show X (EE s) d 313 39 [(0, zr 4 44), (1, zi a1), (2, zi a2), (3, zi v504)] [zi 0] m _
      refine X.ifeq 76 42 i313_39 rfl rfl rfl (fun h511 => ?_) (fun h511 => (by exfalso; omega))
      refine X.cut [] i313_76 rfl ?_
      refine X.iconst 77 i313_76 rfl rfl (by decide) ?_
      refine X.reti i313_77 rfl t313 ?_
      exact hQ (-1) (by first | trivial | omega) (Eq.trans (zn_eq hT508.symm) (Eq.trans (if_pos h510c) rfl)) 
    · have h510c : ¬ a1 < 0 := by omega
      clear h510 hz509
      refine X.lload_n 7 i204_6 rfl rfl rfl ?_
      refine X.lload 9 i204_7 rfl rfl rfl ?_
      refine X.lcmp 10 i204_9 rfl rfl (fun z512 hz512 => ?_)
      refine X.ifgt 17 13 i204_10 rfl rfl rfl (fun h513 => ?_) (fun h513 => ?_)
      · have h513c : ¬ a1 ≤ (v504 - 1) := by omega
        clear h513 hz512
        refine X.cut [] i204_17 rfl ?_
        refine X.iconst 18 i204_17 rfl rfl (by decide) ?_
        refine X.retz i204_18 rfl t204 (by omega) ?_
        show X (EE s) d 313 39 [(0, zr 4 44), (1, zi a1), (2, zi a2), (3, zi v504)] [zi 0] m _
        refine X.ifeq 76 42 i313_39 rfl rfl rfl (fun h514 => ?_) (fun h514 => (by exfalso; omega))
        refine X.cut [] i313_76 rfl ?_
        refine X.iconst 77 i313_76 rfl rfl (by decide) ?_
        refine X.reti i313_77 rfl t313 ?_
        exact hQ (-1) (by first | trivial | omega) (Eq.trans (zn_eq hT508.symm) (Eq.trans (if_neg h510c) (Eq.trans (if_neg h513c) rfl))) 
      · have h513c : a1 ≤ (v504 - 1) := by omega
        clear h513 hz512
        refine X.iconst 14 i204_13 rfl rfl (by decide) ?_
        refine X.goto 18 i204_14 rfl rfl ?_
        refine X.cut [] i204_18 rfl ?_
        refine X.retz i204_18 rfl t204 (by omega) ?_
        show X (EE s) d 313 39 [(0, zr 4 44), (1, zi a1), (2, zi a2), (3, zi v504)] [zi 1] m _
        refine X.ifeq 76 42 i313_39 rfl rfl rfl (fun h515 => (by exfalso; omega)) (fun h515 => ?_)
        refine X.iload_n 43 i313_42 rfl rfl rfl ?_
        refine X.i2l 44 i313_43 rfl rfl ?_
        refine X.lconst (y := 0) 45 i313_44 rfl rfl rfl ?_
        refine X.ldc2 48 i313_45 rfl rfl (by decide) ?_
        refine X.calls 51 [zl a2, zl 0, zl 2] [] [(0, zl a2), (2, zl 0), (4, zl 2)] i313_48 (by decide) rfl rfl (by omega) rfl rfl t204 (Nat.le_of_ble_eq_true rfl) (Nat.le_of_ble_eq_true rfl) rfl ?_
        refine X.lload_n 1 i204_0 rfl rfl rfl ?_
        refine X.lload_n 2 i204_1 rfl rfl rfl ?_
        refine X.lcmp 3 i204_2 rfl rfl (fun z516 hz516 => ?_)
        refine X.iflt 17 6 i204_3 rfl rfl rfl (fun h517 => ?_) (fun h517 => ?_)
        · have h517c : a2 < 0 := by omega
          clear h517 hz516
          refine X.cut [] i204_17 rfl ?_
          refine X.iconst 18 i204_17 rfl rfl (by decide) ?_
          refine X.retz i204_18 rfl t204 (by omega) ?_
          show X (EE s) d 313 51 [(0, zr 4 44), (1, zi a1), (2, zi a2), (3, zi v504)] [zi 0] m _
          refine X.ifeq 76 54 i313_51 rfl rfl rfl (fun h518 => ?_) (fun h518 => (by exfalso; omega))
          refine X.cut [] i313_76 rfl ?_
          refine X.iconst 77 i313_76 rfl rfl (by decide) ?_
          refine X.reti i313_77 rfl t313 ?_
          exact hQ (-1) (by first | trivial | omega) (Eq.trans (zn_eq hT508.symm) (Eq.trans (if_neg h510c) (Eq.trans (if_pos h513c) (Eq.trans (if_pos h517c) rfl)))) 
        · have h517c : ¬ a2 < 0 := by omega
          clear h517 hz516
          refine X.lload_n 7 i204_6 rfl rfl rfl ?_
          refine X.lload 9 i204_7 rfl rfl rfl ?_
          refine X.lcmp 10 i204_9 rfl rfl (fun z519 hz519 => ?_)
          refine X.ifgt 17 13 i204_10 rfl rfl rfl (fun h520 => ?_) (fun h520 => ?_)
          · have h520c : ¬ a2 ≤ 2 := by omega
            clear h520 hz519
            refine X.cut [] i204_17 rfl ?_
            refine X.iconst 18 i204_17 rfl rfl (by decide) ?_
            refine X.retz i204_18 rfl t204 (by omega) ?_
            show X (EE s) d 313 51 [(0, zr 4 44), (1, zi a1), (2, zi a2), (3, zi v504)] [zi 0] m _
            refine X.ifeq 76 54 i313_51 rfl rfl rfl (fun h521 => ?_) (fun h521 => (by exfalso; omega))
            refine X.cut [] i313_76 rfl ?_
            refine X.iconst 77 i313_76 rfl rfl (by decide) ?_
            refine X.reti i313_77 rfl t313 ?_
            exact hQ (-1) (by first | trivial | omega) (Eq.trans (zn_eq hT508.symm) (Eq.trans (if_neg h510c) (Eq.trans (if_pos h513c) (Eq.trans (if_neg h517c) (Eq.trans (if_neg h520c) rfl))))) 
          · have h520c : a2 ≤ 2 := by omega
            clear h520 hz519
            refine X.iconst 14 i204_13 rfl rfl (by decide) ?_
            refine X.goto 18 i204_14 rfl rfl ?_
            refine X.cut [] i204_18 rfl ?_
            refine X.retz i204_18 rfl t204 (by omega) ?_
            show X (EE s) d 313 51 [(0, zr 4 44), (1, zi a1), (2, zi a2), (3, zi v504)] [zi 1] m _
            refine X.ifeq 76 54 i313_51 rfl rfl rfl (fun h522 => (by exfalso; omega)) (fun h522 => ?_)
            refine X.aload_n 55 i313_54 rfl rfl rfl ?_
            refine X.getF 58 i313_55 rfl rfl (by decide) rfl rfl ?_
            refine X.sipush 61 i313_58 rfl rfl (by decide) ?_
            refine X.iconst 62 i313_61 rfl rfl (by decide) ?_
            refine X.iload_n 63 i313_62 rfl rfl rfl ?_
            refine X.iconst 64 i313_63 rfl rfl (by decide) ?_
            refine X.isub 65 i313_64 rfl rfl (by omega) ?_
            refine X.iload_n 66 i313_65 rfl rfl rfl ?_
            refine X.isub 67 i313_66 rfl rfl (by omega) ?_
            refine X.imul 68 i313_67 rfl rfl (by omega) ?_
            refine X.iadd 69 i313_68 rfl rfl (by omega) ?_
            refine X.iload_n 70 i313_69 rfl rfl rfl ?_
            refine X.iadd 71 i313_70 rfl rfl (by omega) ?_
            refine X.lald 72 i313_71 rfl rfl (by decide) rfl (by omega) ?_
            refine X.l2iW 73 i313_72 rfl rfl (fun z523 ez523 hz523 => ?_)
            refine X.goto 77 i313_73 rfl rfl ?_
            refine X.cut [] i313_77 rfl ?_
            refine X.reti i313_77 rfl t313 ?_
            exact hQ z523 (by first | trivial | omega) (Eq.trans (zn_eq hT508.symm) (Eq.trans (if_neg h510c) (Eq.trans (if_pos h513c) (Eq.trans (if_neg h517c) (Eq.trans (if_pos h520c) (Eq.trans (zn_eq ez523) rfl)))))) 
  refine X.ifge 24 14 i313_11 rfl rfl rfl (fun h503 => ?_) (fun h503 => ?_)
  · have h503c : ¬ (m 4 45 16) < 40 := by omega
    clear h503 hz502
    refine X.ldc2 27 i313_24 rfl rfl (by decide) ?_
    exact hK507 40 (by first | trivial | omega) (Eq.trans (if_neg h503c) rfl)
  · have h503c : (m 4 45 16) < 40 := by omega
    clear h503 hz502
    refine X.aload_n 15 i313_14 rfl rfl rfl ?_
    refine X.getF 18 i313_15 rfl rfl (by decide) rfl rfl ?_
    refine X.bipush 20 i313_18 rfl rfl (by decide) ?_
    refine X.lald 21 i313_20 rfl rfl (by decide) rfl (by omega) ?_
    refine X.goto 27 i313_21 rfl rfl ?_
    exact hK507 (m 4 45 16) (by first | trivial | omega) (Eq.trans (if_pos h503c) rfl)
noncomputable def fl194_17_1_b (self : Int → Int → Int → Int → Int) (k75 : Int → Int → Int → Int) (g0 : Nat) (y1 y2 y3 : Int) (m : zM) (y4 y5 y6 y7 : Int) : Int :=
  if (y3 + (m g0 12 y1)) ≤ y7 then
  (k75 y4 y5 y6)
  else
  (zn (if y6 = y2 then
  (zn (w32 (y4 + ((m g0 13 y7) - y5))) fun z562 =>
  z562)
  else
  (y4)) fun v563 =>
  self v563 (m g0 13 y7) (m g0 14 y7) (y7 + 1))
noncomputable def fl194_17_1 (k75 : Int → Int → Int → Int) (g0 : Nat) (y1 y2 y3 : Int) (m : zM) : Nat → Int → Int → Int → Int → Int
  | 0 => fun y4 y5 y6 y7 => 0
  | n + 1 => fl194_17_1_b (fl194_17_1 k75 g0 y1 y2 y3 m n) k75 g0 y1 y2 y3 m
theorem l194_17_1 {s : Nat × (Nat → Int32)} {S : zS} {m0 : zM} {m : zM} {B : Int} {d : Nat} {Q : Option zV → zM → Prop} {R0 : Int} {k75 : Int → Int → Int → Int} (g0 : Nat) (y1 y2 y3 : Int) (hd : 13 ≤ d) (hJ : J S m0 B m) (hB9 : B ≤ 1000000000) (hy1 : 0 ≤ y1 ∧ y1 ≤ 7) (hy2 : 0 ≤ y2 ∧ y2 ≤ 3) (hy3 : 0 ≤ y3 ∧ y3 ≤ 42)
    (K75 : ∀ (x4 x5 x6 : Int) , ((-2147483648) ≤ x4 ∧ x4 ≤ 2147483647) → (0 ≤ x5 ∧ x5 ≤ 86399) → (0 ≤ x6 ∧ x6 ≤ 3) → R0 = k75 x4 x5 x6 → X (EE s) d 194 75 [(2, zi y2), (4, zi x4), (5, zi x5), (6, zi x6)] [] m Q) :
    ∀ (n : Nat) (y4 y5 y6 y7 : Int) , ((-2147483648) ≤ y4 ∧ y4 ≤ 2147483647) → (0 ≤ y5 ∧ y5 ≤ 86399) → (0 ≤ y6 ∧ y6 ≤ 3) → (0 ≤ y7 ∧ y7 ≤ 48) → 48 - y7 < (n : Int) → R0 = fl194_17_1 k75 g0 y1 y2 y3 m n y4 y5 y6 y7 → X (EE s) d 194 17 [(0, zr g0 11), (1, zi y1), (2, zi y2), (3, zi y3), (4, zi y4), (5, zi y5), (6, zi y6), (7, zi y7)] [] m Q := by
  intro n
  induction n with
  | zero =>
    intro y4 y5 y6 y7 hy4 hy5 hy6 hy7 hn hR
    exfalso
    omega
  | succ n ih =>
    intro y4 y5 y6 y7 hy4 hy5 hy6 hy7 hn hR
    replace hR : R0 = fl194_17_1_b (fl194_17_1 k75 g0 y1 y2 y3 m n) k75 g0 y1 y2 y3 m y4 y5 y6 y7 := hR
    refine X.iload 19 i194_17 rfl rfl rfl ?_
    refine X.iload_n 20 i194_19 rfl rfl rfl ?_
    refine X.aload_n 21 i194_20 rfl rfl rfl ?_
    refine X.getR 24 i194_21 rfl rfl (by decide) rfl rfl ?_
    refine X.iload_n 25 i194_24 rfl rfl rfl ?_
    refine X.iald 26 i194_25 rfl rfl (by decide) rfl (by omega) ?_
    have h558 := r12_0 hJ g0 (i := y1) (by omega)
    refine X.iadd 27 i194_26 rfl rfl (by omega) ?_
    refine X.icmpge 75 30 i194_27 rfl rfl rfl (fun h559 => ?_) (fun h559 => ?_)
    · refine X.cut [(2, zi y2), (4, zi y4), (5, zi y5), (6, zi y6)] i194_75 rfl ?_
      exact K75 y4 y5 y6 (by first | trivial | omega) (by first | trivial | omega) (by first | trivial | omega) (Eq.trans hR (Eq.trans (if_pos h559) rfl))
    · refine X.iload 32 i194_30 rfl rfl rfl ?_
      refine X.iload_n 33 i194_32 rfl rfl rfl ?_
      have hK566 : ∀ (v : Int) , ((-2147483648) ≤ v ∧ v ≤ 2147483647) → (if y6 = y2 then
          (zn (w32 (y4 + ((m g0 13 y7) - y5))) fun z562 =>
          z562)
          else
          (y4)) = v → X (EE s) d 194 51 [(0, zr g0 11), (1, zi y1), (2, zi y2), (3, zi y3), (4, zi v), (7, zi y7)] [] m Q := by
        intro v563 hv563 hT567
        refine X.aload_n 52 i194_51 rfl rfl rfl ?_
        refine X.getR 55 i194_52 rfl rfl (by decide) rfl rfl ?_
        refine X.iload 57 i194_55 rfl rfl rfl ?_
        refine X.iald 58 i194_57 rfl rfl (by decide) rfl (by omega) ?_
        have h568 := r13_0 hJ g0 (i := y7) (by omega)
        refine X.istore 60 [(0, zr g0 11), (1, zi y1), (2, zi y2), (3, zi y3), (4, zi v563), (5, zi (m g0 13 y7)), (7, zi y7)] i194_58 rfl rfl rfl ?_
        refine X.aload_n 61 i194_60 rfl rfl rfl ?_
        refine X.getR 64 i194_61 rfl rfl (by decide) rfl rfl ?_
        refine X.iload 66 i194_64 rfl rfl rfl ?_
        refine X.iald 67 i194_66 rfl rfl (by decide) rfl (by omega) ?_
        have h569 := r14_0 hJ g0 (i := y7) (by omega)
        refine X.istore 69 [(0, zr g0 11), (1, zi y1), (2, zi y2), (3, zi y3), (4, zi v563), (5, zi (m g0 13 y7)), (6, zi (m g0 14 y7)), (7, zi y7)] i194_67 rfl rfl rfl ?_
        refine X.iinc 72 [(0, zr g0 11), (1, zi y1), (2, zi y2), (3, zi y3), (4, zi v563), (5, zi (m g0 13 y7)), (6, zi (m g0 14 y7)), (7, zi (y7 + 1))] i194_69 rfl rfl rfl (by omega) rfl ?_
        refine X.goto 17 i194_72 rfl rfl ?_
        exact ih v563 (m g0 13 y7) (m g0 14 y7) (y7 + 1) (by omega) (by omega) (by omega) (by omega) (by omega) (Eq.trans hR (Eq.trans (if_neg h559) (Eq.trans (zn_eq hT567.symm) rfl)))
      refine X.icmpne 51 36 i194_33 rfl rfl rfl (fun h560 => ?_) (fun h560 => ?_)
      · refine X.cut [(0, zr g0 11), (1, zi y1), (2, zi y2), (3, zi y3), (4, zi y4), (7, zi y7)] i194_51 rfl ?_
        exact hK566 y4 (by first | trivial | omega) (Eq.trans (if_neg h560) rfl)
      · refine X.iload 38 i194_36 rfl rfl rfl ?_
        refine X.aload_n 39 i194_38 rfl rfl rfl ?_
        refine X.getR 42 i194_39 rfl rfl (by decide) rfl rfl ?_
        refine X.iload 44 i194_42 rfl rfl rfl ?_
        refine X.iald 45 i194_44 rfl rfl (by decide) rfl (by omega) ?_
        have h561 := r13_0 hJ g0 (i := y7) (by omega)
        refine X.iload 47 i194_45 rfl rfl rfl ?_
        refine X.isub 48 i194_47 rfl rfl (by omega) ?_
        refine X.iaddW 49 i194_48 rfl rfl (fun z562 ez562 hz562 => ?_)
        refine X.istore 51 [(0, zr g0 11), (1, zi y1), (2, zi y2), (3, zi y3), (4, zi z562), (5, zi y5), (6, zi y6), (7, zi y7)] i194_49 rfl rfl rfl ?_
        refine X.cut [(0, zr g0 11), (1, zi y1), (2, zi y2), (3, zi y3), (4, zi z562), (7, zi y7)] i194_51 rfl ?_
        exact hK566 z562 (by first | trivial | omega) (Eq.trans (if_pos h560) (Eq.trans (zn_eq ez562) rfl))
-- WorkMeter$Calendar.secondsHeld
noncomputable def f194_1 (g0 : Nat) (a1 a2 : Int) (m : zM) : Int :=
  fl194_17_1 (fun y501 y502 y503 =>
  zn (if y503 = a2 then
  (zn (w32 (y501 + 86400)) fun z509 =>
  zn (w32 (z509 - y502)) fun z510 =>
  z510)
  else
  (y501)) fun v511 =>
  v511) g0 a1 a2 (a1 * 6) m (zfu 49) 0 0 0 (a1 * 6)
-- WorkMeter$Calendar.secondsHeld
theorem c194_1 {s : Nat × (Nat → Int32)} {S : zS} {m0 m : zM} {B : Int} {d : Nat} {Q : Option zV → zM → Prop} (g0 : Nat) (a1 a2 : Int) (hd : 13 ≤ d) (hJ : J S m0 B m) (hB : B + 0 ≤ 1000000000) (ha1 : 0 ≤ a1 ∧ a1 ≤ 7) (ha2 : 0 ≤ a2 ∧ a2 ≤ 3) (hQ : ∀ (v : Int), ((-2147483648) ≤ v ∧ v ≤ 2147483647) → f194_1 g0 a1 a2 m = v → Q (some (zi v)) m) : X (EE s) d 194 0 [(0, zr g0 11), (1, zi a1), (2, zi a2)] [] m Q := by
  refine X.iload_n 1 i194_0 rfl rfl rfl ?_
  refine X.bipush 3 i194_1 rfl rfl (by decide) ?_
  refine X.imul 4 i194_3 rfl rfl (by omega) ?_
  refine X.istore_n 5 [(0, zr g0 11), (1, zi a1), (2, zi a2), (3, zi (a1 * 6))] i194_4 rfl rfl rfl ?_
  refine X.iconst 6 i194_5 rfl rfl (by decide) ?_
  refine X.istore 8 [(0, zr g0 11), (1, zi a1), (2, zi a2), (3, zi (a1 * 6)), (4, zi 0)] i194_6 rfl rfl rfl ?_
  refine X.iconst 9 i194_8 rfl rfl (by decide) ?_
  refine X.istore 11 [(0, zr g0 11), (1, zi a1), (2, zi a2), (3, zi (a1 * 6)), (4, zi 0), (5, zi 0)] i194_9 rfl rfl rfl ?_
  refine X.iconst 12 i194_11 rfl rfl (by decide) ?_
  refine X.istore 14 [(0, zr g0 11), (1, zi a1), (2, zi a2), (3, zi (a1 * 6)), (4, zi 0), (5, zi 0), (6, zi 0)] i194_12 rfl rfl rfl ?_
  refine X.iload_n 15 i194_14 rfl rfl rfl ?_
  refine X.istore 17 [(0, zr g0 11), (1, zi a1), (2, zi a2), (3, zi (a1 * 6)), (4, zi 0), (5, zi 0), (6, zi 0), (7, zi (a1 * 6))] i194_15 rfl rfl rfl ?_
  have hz49 := zfu_eq 49
  refine l194_17_1 (s := s) (m := m) (B := B) (d := d) (R0 := (f194_1 g0 a1 a2 m)) g0 a1 a2 (a1 * 6)  (by omega) (hJ.up (by omega)) (by omega) (by omega) (by omega) (by omega) (fun y501 y502 y503 hby501 hby502 hby503 hR507 => ?_) (zfu 49) 0 0 0 (a1 * 6) (by omega) (by omega) (by omega) (by omega) (by omega) rfl
  refine X.iload 77 i194_75 rfl rfl rfl ?_
  refine X.iload_n 78 i194_77 rfl rfl rfl ?_
  have hK514 : ∀ (v : Int) , ((-2147483648) ≤ v ∧ v ≤ 2147483647) → (if y503 = a2 then
      (zn (w32 (y501 + 86400)) fun z509 =>
      zn (w32 (z509 - y502)) fun z510 =>
      z510)
      else
      (y501)) = v → X (EE s) d 194 94 [] [zi v] m Q := by
    intro v511 hv511 hT515
    refine X.reti i194_94 rfl t194 ?_
    exact hQ v511 (by first | trivial | omega) (Eq.trans hR507 (Eq.trans (zn_eq hT515.symm) rfl)) 
  refine X.icmpne 92 81 i194_78 rfl rfl rfl (fun h508 => ?_) (fun h508 => ?_)
  · refine X.cut [(4, zi y501)] i194_92 rfl ?_
    refine X.iload 94 i194_92 rfl rfl rfl ?_
    refine X.cut [] i194_94 rfl ?_
    exact hK514 y501 (by first | trivial | omega) (Eq.trans (if_neg h508) rfl)
  · refine X.iload 83 i194_81 rfl rfl rfl ?_
    refine X.ldc 85 i194_83 rfl rfl (by decide) ?_
    refine X.iaddW 86 i194_85 rfl rfl (fun z509 ez509 hz509 => ?_)
    refine X.iload 88 i194_86 rfl rfl rfl ?_
    refine X.isubW 89 i194_88 rfl rfl (fun z510 ez510 hz510 => ?_)
    refine X.goto 94 i194_89 rfl rfl ?_
    refine X.cut [] i194_94 rfl ?_
    exact hK514 z510 (by first | trivial | omega) (Eq.trans (if_pos h508) (Eq.trans (zn_eq ez509) (Eq.trans (zn_eq ez510) rfl)))
-- WorkMeter.holds
noncomputable def f193_1 (a1 a2 : Int) (m : zM) : Int :=
  if a1 < 0 then
  ((-1))
  else
  (if 23148 < a1 then
  ((-1))
  else
  (if a2 < 0 then
  ((-1))
  else
  (if 4 ≤ a2 then
  ((-1))
  else
  (zn (f28_1 0 a1 m) fun v513 =>
  zn (f194_1 0 v513 a2 m) fun v516 =>
  v516))))
-- WorkMeter.holds
theorem c193_1 {s : Nat × (Nat → Int32)} {S : zS} {m0 m : zM} {B : Int} {d : Nat} {Q : Option zV → zM → Prop} (a1 a2 : Int) (hd : 15 ≤ d) (hJ : J S m0 B m) (hB : B + 0 ≤ 1000000000) (ha1 : (-2147483648) ≤ a1 ∧ a1 ≤ 2147483647) (ha2 : (-2147483648) ≤ a2 ∧ a2 ≤ 2147483647) (hQ : ∀ (v : Int), ((-2147483648) ≤ v ∧ v ≤ 2147483647) → f193_1 a1 a2 m = v → Q (some (zi v)) m) : X (EE s) d 193 0 [(0, zr 4 40), (1, zi a1), (2, zi a2)] [] m Q := by
  refine X.iload_n 1 i193_0 rfl rfl rfl ?_
  refine X.calls 4 [zi a1] [] [(0, zi a1)] i193_1 (by decide) rfl rfl (by omega) rfl rfl t150 (Nat.le_of_ble_eq_true rfl) (Nat.le_of_ble_eq_true rfl) rfl ?_
  refine X.iload_n 1 i150_0 rfl rfl rfl ?_
  refine X.iflt 15 4 i150_1 rfl rfl rfl (fun h501 => ?_) (fun h501 => ?_)
  · refine X.cut [] i150_15 rfl ?_
    refine X.iconst 16 i150_15 rfl rfl (by decide) ?_
    refine X.retz i150_16 rfl t150 (by omega) ?_
    show X (EE s) d 193 4 [(0, zr 4 40), (1, zi a1), (2, zi a2)] [zi 0] m _
    refine X.ifeq 14 7 i193_4 rfl rfl rfl (fun h502 => ?_) (fun h502 => (by exfalso; omega))
    refine X.cut [] i193_14 rfl ?_
    refine X.iconst 15 i193_14 rfl rfl (by decide) ?_
    refine X.reti i193_15 rfl t193 ?_
    exact hQ (-1) (by first | trivial | omega) (Eq.trans (if_pos h501) rfl) 
  · refine X.iload_n 5 i150_4 rfl rfl rfl ?_
    refine X.sipush 8 i150_5 rfl rfl (by decide) ?_
    refine X.icmpgt 15 11 i150_8 rfl rfl rfl (fun h503 => ?_) (fun h503 => ?_)
    · refine X.cut [] i150_15 rfl ?_
      refine X.iconst 16 i150_15 rfl rfl (by decide) ?_
      refine X.retz i150_16 rfl t150 (by omega) ?_
      show X (EE s) d 193 4 [(0, zr 4 40), (1, zi a1), (2, zi a2)] [zi 0] m _
      refine X.ifeq 14 7 i193_4 rfl rfl rfl (fun h504 => ?_) (fun h504 => (by exfalso; omega))
      refine X.cut [] i193_14 rfl ?_
      refine X.iconst 15 i193_14 rfl rfl (by decide) ?_
      refine X.reti i193_15 rfl t193 ?_
      exact hQ (-1) (by first | trivial | omega) (Eq.trans (if_neg h501) (Eq.trans (if_pos h503) rfl)) 
    · refine X.iconst 12 i150_11 rfl rfl (by decide) ?_
      refine X.goto 16 i150_12 rfl rfl ?_
      refine X.cut [] i150_16 rfl ?_
      refine X.retz i150_16 rfl t150 (by omega) ?_
      show X (EE s) d 193 4 [(0, zr 4 40), (1, zi a1), (2, zi a2)] [zi 1] m _
      refine X.ifeq 14 7 i193_4 rfl rfl rfl (fun h505 => (by exfalso; omega)) (fun h505 => ?_)
      refine X.iload_n 8 i193_7 rfl rfl rfl ?_
      refine X.calls 11 [zi a2] [] [(0, zi a2)] i193_8 (by decide) rfl rfl (by omega) rfl rfl t80 (Nat.le_of_ble_eq_true rfl) (Nat.le_of_ble_eq_true rfl) rfl ?_
      refine X.iload_n 1 i80_0 rfl rfl rfl ?_
      refine X.iflt 13 4 i80_1 rfl rfl rfl (fun h506 => ?_) (fun h506 => ?_)
      · refine X.cut [] i80_13 rfl ?_
        refine X.iconst 14 i80_13 rfl rfl (by decide) ?_
        refine X.retz i80_14 rfl t80 (by omega) ?_
        show X (EE s) d 193 11 [(0, zr 4 40), (1, zi a1), (2, zi a2)] [zi 0] m _
        refine X.ifne 16 14 i193_11 rfl rfl rfl (fun h507 => (by exfalso; omega)) (fun h507 => ?_)
        refine X.cut [] i193_14 rfl ?_
        refine X.iconst 15 i193_14 rfl rfl (by decide) ?_
        refine X.reti i193_15 rfl t193 ?_
        exact hQ (-1) (by first | trivial | omega) (Eq.trans (if_neg h501) (Eq.trans (if_neg h503) (Eq.trans (if_pos h506) rfl))) 
      · refine X.iload_n 5 i80_4 rfl rfl rfl ?_
        refine X.iconst 6 i80_5 rfl rfl (by decide) ?_
        refine X.icmpge 13 9 i80_6 rfl rfl rfl (fun h508 => ?_) (fun h508 => ?_)
        · refine X.cut [] i80_13 rfl ?_
          refine X.iconst 14 i80_13 rfl rfl (by decide) ?_
          refine X.retz i80_14 rfl t80 (by omega) ?_
          show X (EE s) d 193 11 [(0, zr 4 40), (1, zi a1), (2, zi a2)] [zi 0] m _
          refine X.ifne 16 14 i193_11 rfl rfl rfl (fun h509 => (by exfalso; omega)) (fun h509 => ?_)
          refine X.cut [] i193_14 rfl ?_
          refine X.iconst 15 i193_14 rfl rfl (by decide) ?_
          refine X.reti i193_15 rfl t193 ?_
          exact hQ (-1) (by first | trivial | omega) (Eq.trans (if_neg h501) (Eq.trans (if_neg h503) (Eq.trans (if_neg h506) (Eq.trans (if_pos h508) rfl)))) 
        · refine X.iconst 10 i80_9 rfl rfl (by decide) ?_
          refine X.goto 14 i80_10 rfl rfl ?_
          refine X.cut [] i80_14 rfl ?_
          refine X.retz i80_14 rfl t80 (by omega) ?_
          show X (EE s) d 193 11 [(0, zr 4 40), (1, zi a1), (2, zi a2)] [zi 1] m _
          refine X.ifne 16 14 i193_11 rfl rfl rfl (fun h510 => ?_) (fun h510 => (by exfalso; omega))
          refine X.aload_n 17 i193_16 rfl rfl rfl ?_
          refine X.getF 20 i193_17 rfl rfl (by decide) rfl rfl ?_
          refine X.getR 23 i193_20 rfl rfl (by decide) rfl rfl ?_
          refine X.aload_n 24 i193_23 rfl rfl rfl ?_
          refine X.getF 27 i193_24 rfl rfl (by decide) rfl rfl ?_
          refine X.getR 30 i193_27 rfl rfl (by decide) rfl rfl ?_
          refine X.iload_n 31 i193_30 rfl rfl rfl ?_
          refine X.callv 34 [zi a1] [zr 0 11] [(0, zr 0 11), (1, zi a1)] i193_31 rfl (by decide) rfl rfl (by omega) rfl rfl (by decide) rfl t28 (Nat.le_of_ble_eq_true rfl) (Nat.le_of_ble_eq_true rfl) rfl ?_
          refine c28_1 (B := B) 0 a1 (by omega) (hJ.up (by omega)) (by omega) (by omega) (fun v513 hv513 hFv513 => ?_)
          show X (EE s) d 193 34 [(0, zr 4 40), (1, zi a1), (2, zi a2)] [zi v513, zr 0 11] m _
          refine X.iload_n 35 i193_34 rfl rfl rfl ?_
          refine X.callv 38 [zi v513, zi a2] [] [(0, zr 0 11), (1, zi v513), (2, zi a2)] i193_35 rfl (by decide) rfl rfl (by omega) rfl rfl (by decide) rfl t194 (Nat.le_of_ble_eq_true rfl) (Nat.le_of_ble_eq_true rfl) rfl ?_
          refine c194_1 (B := B) 0 v513 a2 (by omega) (hJ.up (by omega)) (by omega) (by omega) (by omega) (fun v516 hv516 hFv516 => ?_)
          show X (EE s) d 193 38 [(0, zr 4 40), (1, zi a1), (2, zi a2)] [zi v516] m _
          refine X.reti i193_38 rfl t193 ?_
          exact hQ v516 (by first | trivial | omega) (Eq.trans (if_neg h501) (Eq.trans (if_neg h503) (Eq.trans (if_neg h506) (Eq.trans (if_neg h508) (Eq.trans (zn_eq hFv513.symm) (Eq.trans (zn_eq hFv516.symm) rfl)))))) 
noncomputable def fl253_52_1_b (self : Int → Int → Int → Int → Int) (k146 : Int → Int) (y2 y3 y4 : Int) (m : zM) (y5 y6 y7 y8 : Int) : Int :=
  if y4 < y8 then
  (k146 y5)
  else
  (zn (if y4 ≤ y8 then
  (86400)
  else
  ((m 4 45 ((295 + (6 * y3)) + y8)))) fun v610 =>
  zn (if y6 = y2 then
  ((v610 - y7))
  else
  (0)) fun v616 =>
  zn (w32 (y5 + v616)) fun z621 =>
  zn (if y4 ≤ y8 then
  (y6)
  else
  ((m 4 45 ((343 + (6 * y3)) + y8)))) fun v624 =>
  self z621 v624 v610 (y8 + 1))
noncomputable def fl253_52_1 (k146 : Int → Int) (y2 y3 y4 : Int) (m : zM) : Nat → Int → Int → Int → Int → Int
  | 0 => fun y5 y6 y7 y8 => 0
  | n + 1 => fl253_52_1_b (fl253_52_1 k146 y2 y3 y4 m n) k146 y2 y3 y4 m
theorem l253_52_1 {s : Nat × (Nat → Int32)} {S : zS} {m0 : zM} {m : zM} {B : Int} {d : Nat} {Q : Option zV → zM → Prop} {R0 : Int} {k146 : Int → Int} (y2 y3 y4 : Int) (hd : 13 ≤ d) (hJ : J S m0 B m) (hB9 : B ≤ 1000000000) (hy2 : 0 ≤ y2 ∧ y2 ≤ 3) (hy3 : 0 ≤ y3 ∧ y3 ≤ 7) (hy4 : 0 ≤ y4 ∧ y4 ≤ 6)
    (K146 : ∀ (x5 : Int) , ((-2147483648) ≤ x5 ∧ x5 ≤ 2147483647) → R0 = k146 x5 → X (EE s) d 253 146 [(5, zi x5)] [] m Q) :
    ∀ (n : Nat) (y5 y6 y7 y8 : Int) , ((-2147483648) ≤ y5 ∧ y5 ≤ 2147483647) → (0 ≤ y6 ∧ y6 ≤ 3) → (0 ≤ y7 ∧ y7 ≤ 86400) → (0 ≤ y8 ∧ y8 ≤ 7) → 7 - y8 < (n : Int) → R0 = fl253_52_1 k146 y2 y3 y4 m n y5 y6 y7 y8 → X (EE s) d 253 52 [(0, zr 4 44), (2, zi y2), (3, zi y3), (4, zi y4), (5, zi y5), (6, zi y6), (7, zi y7), (8, zi y8)] [] m Q := by
  intro n
  induction n with
  | zero =>
    intro y5 y6 y7 y8 hy5 hy6 hy7 hy8 hn hR
    exfalso
    omega
  | succ n ih =>
    intro y5 y6 y7 y8 hy5 hy6 hy7 hy8 hn hR
    replace hR : R0 = fl253_52_1_b (fl253_52_1 k146 y2 y3 y4 m n) k146 y2 y3 y4 m y5 y6 y7 y8 := hR
    refine X.iload 54 i253_52 rfl rfl rfl ?_
    refine X.iload 56 i253_54 rfl rfl rfl ?_
    refine X.icmpgt 146 59 i253_56 rfl rfl rfl (fun h607 => ?_) (fun h607 => ?_)
    · refine X.cut [(5, zi y5)] i253_146 rfl ?_
      exact K146 y5 (by first | trivial | omega) (Eq.trans hR (Eq.trans (if_pos h607) rfl))
    · refine X.iload 61 i253_59 rfl rfl rfl ?_
      refine X.iload 63 i253_61 rfl rfl rfl ?_
      have hK613 : ∀ (v : Int) , (0 ≤ v ∧ v ≤ 86400) → (if y4 ≤ y8 then
          (86400)
          else
          ((m 4 45 ((295 + (6 * y3)) + y8)))) = v → X (EE s) d 253 88 [(0, zr 4 44), (2, zi y2), (3, zi y3), (4, zi y4), (5, zi y5), (6, zi y6), (7, zi y7), (8, zi y8)] [zi v] m Q := by
        intro v610 hv610 hT614
        refine X.istore 90 [(0, zr 4 44), (2, zi y2), (3, zi y3), (4, zi y4), (5, zi y5), (6, zi y6), (7, zi y7), (8, zi y8), (9, zi v610)] i253_88 rfl rfl rfl ?_
        refine X.iload 92 i253_90 rfl rfl rfl ?_
        refine X.iload 94 i253_92 rfl rfl rfl ?_
        refine X.iload_n 95 i253_94 rfl rfl rfl ?_
        have hK619 : ∀ (v : Int) , ((-86400) ≤ v ∧ v ≤ 86400) → (if y6 = y2 then
            ((v610 - y7))
            else
            (0)) = v → X (EE s) d 253 107 [(0, zr 4 44), (2, zi y2), (3, zi y3), (4, zi y4), (6, zi y6), (8, zi y8), (9, zi v610)] [zi v, zi y5] m Q := by
          intro v616 hv616 hT620
          refine X.iaddW 108 i253_107 rfl rfl (fun z621 ez621 hz621 => ?_)
          refine X.istore 110 [(0, zr 4 44), (2, zi y2), (3, zi y3), (4, zi y4), (5, zi z621), (6, zi y6), (8, zi y8), (9, zi v610)] i253_108 rfl rfl rfl ?_
          refine X.iload 112 i253_110 rfl rfl rfl ?_
          refine X.istore 114 [(0, zr 4 44), (2, zi y2), (3, zi y3), (4, zi y4), (5, zi z621), (6, zi y6), (7, zi v610), (8, zi y8), (9, zi v610)] i253_112 rfl rfl rfl ?_
          refine X.iload 116 i253_114 rfl rfl rfl ?_
          refine X.iload 118 i253_116 rfl rfl rfl ?_
          have hK627 : ∀ (v : Int) , (0 ≤ v ∧ v ≤ 3) → (if y4 ≤ y8 then
              (y6)
              else
              ((m 4 45 ((343 + (6 * y3)) + y8)))) = v → X (EE s) d 253 140 [(0, zr 4 44), (2, zi y2), (3, zi y3), (4, zi y4), (5, zi z621), (6, zi v), (7, zi v610), (8, zi y8)] [] m Q := by
            intro v624 hv624 hT628
            refine X.iinc 143 [(0, zr 4 44), (2, zi y2), (3, zi y3), (4, zi y4), (5, zi z621), (6, zi v624), (7, zi v610), (8, zi (y8 + 1))] i253_140 rfl rfl rfl (by omega) rfl ?_
            refine X.goto 52 i253_143 rfl rfl ?_
            exact ih z621 v624 v610 (y8 + 1) (by omega) (by omega) (by omega) (by omega) (by omega) (Eq.trans hR (Eq.trans (if_neg h607) (Eq.trans (zn_eq hT614.symm) (Eq.trans (zn_eq hT620.symm) (Eq.trans (zn_eq ez621) (Eq.trans (zn_eq hT628.symm) rfl))))))
          refine X.icmpge 140 121 i253_118 rfl rfl rfl (fun h622 => ?_) (fun h622 => ?_)
          · refine X.cut [(0, zr 4 44), (2, zi y2), (3, zi y3), (4, zi y4), (5, zi z621), (6, zi y6), (7, zi v610), (8, zi y8)] i253_140 rfl ?_
            exact hK627 y6 (by first | trivial | omega) (Eq.trans (if_pos h622) rfl)
          · refine X.aload_n 122 i253_121 rfl rfl rfl ?_
            refine X.getF 125 i253_122 rfl rfl (by decide) rfl rfl ?_
            refine X.sipush 128 i253_125 rfl rfl (by decide) ?_
            refine X.bipush 130 i253_128 rfl rfl (by decide) ?_
            refine X.iload_n 131 i253_130 rfl rfl rfl ?_
            refine X.imul 132 i253_131 rfl rfl (by omega) ?_
            refine X.iadd 133 i253_132 rfl rfl (by omega) ?_
            refine X.iload 135 i253_133 rfl rfl rfl ?_
            refine X.iadd 136 i253_135 rfl rfl (by omega) ?_
            refine X.lald 137 i253_136 rfl rfl (by decide) rfl (by omega) ?_
            have h623 := r45_343 hJ 4 (i := ((343 + (6 * y3)) + y8)) (by omega)
            refine X.l2i 138 i253_137 rfl rfl (by omega) ?_
            refine X.istore 140 [(0, zr 4 44), (2, zi y2), (3, zi y3), (4, zi y4), (5, zi z621), (6, zi (m 4 45 ((343 + (6 * y3)) + y8))), (7, zi v610), (8, zi y8), (9, zi v610)] i253_138 rfl rfl rfl ?_
            refine X.cut [(0, zr 4 44), (2, zi y2), (3, zi y3), (4, zi y4), (5, zi z621), (6, zi (m 4 45 ((343 + (6 * y3)) + y8))), (7, zi v610), (8, zi y8)] i253_140 rfl ?_
            exact hK627 (m 4 45 ((343 + (6 * y3)) + y8)) (by first | trivial | omega) (Eq.trans (if_neg h622) rfl)
        refine X.icmpne 106 98 i253_95 rfl rfl rfl (fun h615 => ?_) (fun h615 => ?_)
        · refine X.cut [(0, zr 4 44), (2, zi y2), (3, zi y3), (4, zi y4), (6, zi y6), (8, zi y8), (9, zi v610)] i253_106 rfl ?_
          refine X.iconst 107 i253_106 rfl rfl (by decide) ?_
          exact hK619 0 (by first | trivial | omega) (Eq.trans (if_neg h615) rfl)
        · refine X.iload 100 i253_98 rfl rfl rfl ?_
          refine X.iload 102 i253_100 rfl rfl rfl ?_
          refine X.isub 103 i253_102 rfl rfl (by omega) ?_
          refine X.goto 107 i253_103 rfl rfl ?_
          refine X.cut [(0, zr 4 44), (2, zi y2), (3, zi y3), (4, zi y4), (6, zi y6), (8, zi y8), (9, zi v610)] i253_107 rfl ?_
          exact hK619 (v610 - y7) (by first | trivial | omega) (Eq.trans (if_pos h615) rfl)
      refine X.icmpge 86 66 i253_63 rfl rfl rfl (fun h608 => ?_) (fun h608 => ?_)
      · refine X.ldc 88 i253_86 rfl rfl (by decide) ?_
        exact hK613 86400 (by first | trivial | omega) (Eq.trans (if_pos h608) rfl)
      · refine X.aload_n 67 i253_66 rfl rfl rfl ?_
        refine X.getF 70 i253_67 rfl rfl (by decide) rfl rfl ?_
        refine X.sipush 73 i253_70 rfl rfl (by decide) ?_
        refine X.bipush 75 i253_73 rfl rfl (by decide) ?_
        refine X.iload_n 76 i253_75 rfl rfl rfl ?_
        refine X.imul 77 i253_76 rfl rfl (by omega) ?_
        refine X.iadd 78 i253_77 rfl rfl (by omega) ?_
        refine X.iload 80 i253_78 rfl rfl rfl ?_
        refine X.iadd 81 i253_80 rfl rfl (by omega) ?_
        refine X.lald 82 i253_81 rfl rfl (by decide) rfl (by omega) ?_
        have h609 := r45_295 hJ 4 (i := ((295 + (6 * y3)) + y8)) (by omega)
        refine X.l2i 83 i253_82 rfl rfl (by omega) ?_
        refine X.goto 88 i253_83 rfl rfl ?_
        exact hK613 (m 4 45 ((295 + (6 * y3)) + y8)) (by first | trivial | omega) (Eq.trans (if_neg h608) rfl)
-- WorkMeterModel.holds
noncomputable def f253_1 (a1 a2 : Int) (m : zM) : Int :=
  if a1 < 0 then
  ((-1))
  else
  (if a1 ≤ 23148 then
  (if a2 < 0 then
  ((-1))
  else
  (if a2 ≤ 3 then
  (zn (f218_1 a1 m) fun v517 =>
  fl253_52_1 (fun y519 =>
  y519) a2 v517 (m 4 45 (287 + v517)) m (zfu 8) 0 0 0 0)
  else
  ((-1))))
  else
  ((-1)))
-- WorkMeterModel.holds
theorem c253_1 {s : Nat × (Nat → Int32)} {S : zS} {m0 m : zM} {B : Int} {d : Nat} {Q : Option zV → zM → Prop} (a1 a2 : Int) (hd : 15 ≤ d) (hJ : J S m0 B m) (hB : B + 0 ≤ 1000000000) (ha1 : (-2147483648) ≤ a1 ∧ a1 ≤ 2147483647) (ha2 : (-2147483648) ≤ a2 ∧ a2 ≤ 2147483647) (hQ : ∀ (v : Int), ((-2147483648) ≤ v ∧ v ≤ 2147483647) → f253_1 a1 a2 m = v → Q (some (zi v)) m) : X (EE s) d 253 0 [(0, zr 4 44), (1, zi a1), (2, zi a2)] [] m Q := by
  refine X.iload_n 1 i253_0 rfl rfl rfl ?_
  refine X.i2l 2 i253_1 rfl rfl ?_
  refine X.lconst (y := 0) 3 i253_2 rfl rfl rfl ?_
  refine X.ldc2 6 i253_3 rfl rfl (by decide) ?_
  refine X.calls 9 [zl a1, zl 0, zl 23148] [] [(0, zl a1), (2, zl 0), (4, zl 23148)] i253_6 (by decide) rfl rfl (by omega) rfl rfl t204 (Nat.le_of_ble_eq_true rfl) (Nat.le_of_ble_eq_true rfl) rfl ?_
  refine X.lload_n 1 i204_0 rfl rfl rfl ?_
  refine X.lload_n 2 i204_1 rfl rfl rfl ?_
  refine X.lcmp 3 i204_2 rfl rfl (fun z501 hz501 => ?_)
  refine X.iflt 17 6 i204_3 rfl rfl rfl (fun h502 => ?_) (fun h502 => ?_)
  · have h502c : a1 < 0 := by omega
    clear h502 hz501
    refine X.cut [] i204_17 rfl ?_
    refine X.iconst 18 i204_17 rfl rfl (by decide) ?_
    refine X.retz i204_18 rfl t204 (by omega) ?_
    show X (EE s) d 253 9 [(0, zr 4 44), (1, zi a1), (2, zi a2)] [zi 0] m _
    refine X.ifeq 19 12 i253_9 rfl rfl rfl (fun h503 => ?_) (fun h503 => (by exfalso; omega))
    refine X.cut [] i253_19 rfl ?_
    refine X.iconst 20 i253_19 rfl rfl (by decide) ?_
    refine X.reti i253_20 rfl t253 ?_
    exact hQ (-1) (by first | trivial | omega) (Eq.trans (if_pos h502c) rfl) 
  · have h502c : ¬ a1 < 0 := by omega
    clear h502 hz501
    refine X.lload_n 7 i204_6 rfl rfl rfl ?_
    refine X.lload 9 i204_7 rfl rfl rfl ?_
    refine X.lcmp 10 i204_9 rfl rfl (fun z504 hz504 => ?_)
    refine X.ifgt 17 13 i204_10 rfl rfl rfl (fun h505 => ?_) (fun h505 => ?_)
    · have h505c : ¬ a1 ≤ 23148 := by omega
      clear h505 hz504
      refine X.cut [] i204_17 rfl ?_
      refine X.iconst 18 i204_17 rfl rfl (by decide) ?_
      refine X.retz i204_18 rfl t204 (by omega) ?_
      show X (EE s) d 253 9 [(0, zr 4 44), (1, zi a1), (2, zi a2)] [zi 0] m _
      refine X.ifeq 19 12 i253_9 rfl rfl rfl (fun h506 => ?_) (fun h506 => (by exfalso; omega))
      refine X.cut [] i253_19 rfl ?_
      refine X.iconst 20 i253_19 rfl rfl (by decide) ?_
      refine X.reti i253_20 rfl t253 ?_
      exact hQ (-1) (by first | trivial | omega) (Eq.trans (if_neg h502c) (Eq.trans (if_neg h505c) rfl)) 
    · have h505c : a1 ≤ 23148 := by omega
      clear h505 hz504
      refine X.iconst 14 i204_13 rfl rfl (by decide) ?_
      refine X.goto 18 i204_14 rfl rfl ?_
      refine X.cut [] i204_18 rfl ?_
      refine X.retz i204_18 rfl t204 (by omega) ?_
      show X (EE s) d 253 9 [(0, zr 4 44), (1, zi a1), (2, zi a2)] [zi 1] m _
      refine X.ifeq 19 12 i253_9 rfl rfl rfl (fun h507 => (by exfalso; omega)) (fun h507 => ?_)
      refine X.iload_n 13 i253_12 rfl rfl rfl ?_
      refine X.calls 16 [zi a2] [] [(0, zi a2)] i253_13 (by decide) rfl rfl (by omega) rfl rfl t242 (Nat.le_of_ble_eq_true rfl) (Nat.le_of_ble_eq_true rfl) rfl ?_
      refine X.iload_n 1 i242_0 rfl rfl rfl ?_
      refine X.i2l 2 i242_1 rfl rfl ?_
      refine X.lconst (y := 0) 3 i242_2 rfl rfl rfl ?_
      refine X.ldc2 6 i242_3 rfl rfl (by decide) ?_
      refine X.calls 9 [zl a2, zl 0, zl 3] [] [(0, zl a2), (2, zl 0), (4, zl 3)] i242_6 (by decide) rfl rfl (by omega) rfl rfl t204 (Nat.le_of_ble_eq_true rfl) (Nat.le_of_ble_eq_true rfl) rfl ?_
      refine X.lload_n 1 i204_0 rfl rfl rfl ?_
      refine X.lload_n 2 i204_1 rfl rfl rfl ?_
      refine X.lcmp 3 i204_2 rfl rfl (fun z508 hz508 => ?_)
      refine X.iflt 17 6 i204_3 rfl rfl rfl (fun h509 => ?_) (fun h509 => ?_)
      · have h509c : a2 < 0 := by omega
        clear h509 hz508
        refine X.cut [] i204_17 rfl ?_
        refine X.iconst 18 i204_17 rfl rfl (by decide) ?_
        refine X.retz i204_18 rfl t204 (by omega) ?_
        show X (EE s) (d - 1) 242 9 [(0, zi a2)] [zi 0] m _
        refine X.retz i242_9 rfl t242 (by omega) ?_
        show X (EE s) d 253 16 [(0, zr 4 44), (1, zi a1), (2, zi a2)] [zi 0] m _
        refine X.ifne 21 19 i253_16 rfl rfl rfl (fun h510 => (by exfalso; omega)) (fun h510 => ?_)
        refine X.cut [] i253_19 rfl ?_
        refine X.iconst 20 i253_19 rfl rfl (by decide) ?_
        refine X.reti i253_20 rfl t253 ?_
        exact hQ (-1) (by first | trivial | omega) (Eq.trans (if_neg h502c) (Eq.trans (if_pos h505c) (Eq.trans (if_pos h509c) rfl))) 
      · have h509c : ¬ a2 < 0 := by omega
        clear h509 hz508
        refine X.lload_n 7 i204_6 rfl rfl rfl ?_
        refine X.lload 9 i204_7 rfl rfl rfl ?_
        refine X.lcmp 10 i204_9 rfl rfl (fun z511 hz511 => ?_)
        refine X.ifgt 17 13 i204_10 rfl rfl rfl (fun h512 => ?_) (fun h512 => ?_)
        · have h512c : ¬ a2 ≤ 3 := by omega
          clear h512 hz511
          refine X.cut [] i204_17 rfl ?_
          refine X.iconst 18 i204_17 rfl rfl (by decide) ?_
          refine X.retz i204_18 rfl t204 (by omega) ?_
          show X (EE s) (d - 1) 242 9 [(0, zi a2)] [zi 0] m _
          refine X.retz i242_9 rfl t242 (by omega) ?_
          show X (EE s) d 253 16 [(0, zr 4 44), (1, zi a1), (2, zi a2)] [zi 0] m _
          refine X.ifne 21 19 i253_16 rfl rfl rfl (fun h513 => (by exfalso; omega)) (fun h513 => ?_)
          refine X.cut [] i253_19 rfl ?_
          refine X.iconst 20 i253_19 rfl rfl (by decide) ?_
          refine X.reti i253_20 rfl t253 ?_
          exact hQ (-1) (by first | trivial | omega) (Eq.trans (if_neg h502c) (Eq.trans (if_pos h505c) (Eq.trans (if_neg h509c) (Eq.trans (if_neg h512c) rfl)))) 
        · have h512c : a2 ≤ 3 := by omega
          clear h512 hz511
          refine X.iconst 14 i204_13 rfl rfl (by decide) ?_
          refine X.goto 18 i204_14 rfl rfl ?_
          refine X.cut [] i204_18 rfl ?_
          refine X.retz i204_18 rfl t204 (by omega) ?_
          show X (EE s) (d - 1) 242 9 [(0, zi a2)] [zi 1] m _
          refine X.retz i242_9 rfl t242 (by omega) ?_
          show X (EE s) d 253 16 [(0, zr 4 44), (1, zi a1), (2, zi a2)] [zi 1] m _
          refine X.ifne 21 19 i253_16 rfl rfl rfl (fun h514 => ?_) (fun h514 => (by exfalso; omega))
          refine X.aload_n 22 i253_21 rfl rfl rfl ?_
          refine X.iload_n 23 i253_22 rfl rfl rfl ?_
          refine X.callv 26 [zi a1] [] [(0, zr 4 44), (1, zi a1)] i253_23 rfl (by decide) rfl rfl (by omega) rfl rfl (by decide) rfl t218 (Nat.le_of_ble_eq_true rfl) (Nat.le_of_ble_eq_true rfl) rfl ?_
          refine c218_1 (B := B)  a1 (by omega) (hJ.up (by omega)) (by omega) (by omega) (fun v517 hv517 hFv517 => ?_)
          show X (EE s) d 253 26 [(0, zr 4 44), (1, zi a1), (2, zi a2)] [zi v517] m _
          refine X.istore_n 27 [(0, zr 4 44), (1, zi a1), (2, zi a2), (3, zi v517)] i253_26 rfl rfl rfl ?_
          refine X.aload_n 28 i253_27 rfl rfl rfl ?_
          refine X.getF 31 i253_28 rfl rfl (by decide) rfl rfl ?_
          refine X.sipush 34 i253_31 rfl rfl (by decide) ?_
          refine X.iload_n 35 i253_34 rfl rfl rfl ?_
          refine X.iadd 36 i253_35 rfl rfl (by omega) ?_
          refine X.lald 37 i253_36 rfl rfl (by decide) rfl (by omega) ?_
          have h518 := r45_287 hJ 4 (i := (287 + v517)) (by omega)
          refine X.l2i 38 i253_37 rfl rfl (by omega) ?_
          refine X.istore 40 [(0, zr 4 44), (1, zi a1), (2, zi a2), (3, zi v517), (4, zi (m 4 45 (287 + v517)))] i253_38 rfl rfl rfl ?_
          refine X.iconst 41 i253_40 rfl rfl (by decide) ?_
          refine X.istore 43 [(0, zr 4 44), (1, zi a1), (2, zi a2), (3, zi v517), (4, zi (m 4 45 (287 + v517))), (5, zi 0)] i253_41 rfl rfl rfl ?_
          refine X.iconst 44 i253_43 rfl rfl (by decide) ?_
          refine X.istore 46 [(0, zr 4 44), (1, zi a1), (2, zi a2), (3, zi v517), (4, zi (m 4 45 (287 + v517))), (5, zi 0), (6, zi 0)] i253_44 rfl rfl rfl ?_
          refine X.iconst 47 i253_46 rfl rfl (by decide) ?_
          refine X.istore 49 [(0, zr 4 44), (1, zi a1), (2, zi a2), (3, zi v517), (4, zi (m 4 45 (287 + v517))), (5, zi 0), (6, zi 0), (7, zi 0)] i253_47 rfl rfl rfl ?_
          refine X.iconst 50 i253_49 rfl rfl (by decide) ?_
          refine X.istore 52 [(0, zr 4 44), (1, zi a1), (2, zi a2), (3, zi v517), (4, zi (m 4 45 (287 + v517))), (5, zi 0), (6, zi 0), (7, zi 0), (8, zi 0)] i253_50 rfl rfl rfl ?_
          refine X.cut [(0, zr 4 44), (2, zi a2), (3, zi v517), (4, zi (m 4 45 (287 + v517))), (5, zi 0), (6, zi 0), (7, zi 0), (8, zi 0)] i253_52 rfl ?_
          have hz8 := zfu_eq 8
          refine l253_52_1 (s := s) (m := m) (B := B) (d := d) (R0 := (f253_1 a1 a2 m))  a2 v517 (m 4 45 (287 + v517))  (by omega) (hJ.up (by omega)) (by omega) (by omega) (by omega) (by omega) (fun y519 hby519 hR523 => ?_) (zfu 8) 0 0 0 0 (by omega) (by omega) (by omega) (by omega) (by omega) (Eq.trans (if_neg h502c) (Eq.trans (if_pos h505c) (Eq.trans (if_neg h509c) (Eq.trans (if_pos h512c) (Eq.trans (zn_eq hFv517.symm) rfl)))))
          refine X.iload 148 i253_146 rfl rfl rfl ?_
          refine X.reti i253_148 rfl t253 ?_
          exact hQ y519 (by first | trivial | omega) (Eq.trans hR523 rfl) 
-- WorkMeter.image
noncomputable def f195_1 (a1 : Int) (m : zM) : Int × zM :=
  zs (if a1 = 0 then
  (if (m 4 40 4) = 0 then
  (m)
  else
  (zs (f171_1 0 1 m) fun m504 =>
  m504))
  else
  (zs (f171_1 1 0 m) fun m507 =>
  zs (z_upd m507 4 40 4 1) fun m510 =>
  m510)) fun m513 =>
  ((m513 4 40 4), m513)
-- WorkMeter.image
theorem c195_1 {s : Nat × (Nat → Int32)} {S : zS} {m0 m : zM} {B : Int} {d : Nat} {Q : Option zV → zM → Prop} (a1 : Int) (hd : 15 ≤ d) (hJ : J S m0 B m) (hB : B + 4 ≤ 1000000000) (ha1 : 0 ≤ a1 ∧ a1 ≤ 1) (hf1 : ¬ S.1 1) (hf2 : ¬ S.1 2) (hf3 : ¬ S.1 3) (hf4 : ¬ S.1 4) (hf5 : ¬ S.1 5) (hf6 : ¬ S.1 6) (hf7 : ¬ S.1 7) (hf8 : ¬ S.1 8) (hf9 : ¬ S.1 9) (hf10 : ¬ S.1 10) (hf11 : ¬ S.1 11) (hf12 : ¬ S.1 12) (hf13 : ¬ S.1 13) (hf14 : ¬ S.1 14) (hg0 : ¬ S.2.1 0) (hg1 : ¬ S.2.1 1) (hg4 : ¬ S.2.1 4) (hQ : ∀ (v : Int) m', (0 ≤ v ∧ v ≤ 1) → f195_1 a1 m = (v, m') → J S m0 (B + 4) m' → Q (some (zi v)) m') : X (EE s) d 195 0 [(0, zr 4 40), (1, zi a1)] [] m Q := by
  refine X.iload_n 1 i195_0 rfl rfl rfl ?_
  have hK515 : ∀ (m' : zM), (if a1 = 0 then
      (if (m 4 40 4) = 0 then
      (m)
      else
      (zs (f171_1 0 1 m) fun m504 =>
      m504))
      else
      (zs (f171_1 1 0 m) fun m507 =>
      zs (z_upd m507 4 40 4 1) fun m510 =>
      m510)) = m' → J S m0 (B + 4) m' → X (EE s) d 195 41 [(0, zr 4 40)] [] m' Q := by
    intro m513 hT516 hJ514
    refine X.aload_n 42 i195_41 rfl rfl rfl ?_
    refine X.getZ 45 4 i195_42 rfl rfl (by decide) rfl rfl rfl (fun h517 => ?_)
    refine X.retz i195_45 rfl t195 (by omega) ?_
    exact hQ (m513 4 40 4) m513 (by first | trivial | omega) (Eq.trans (zs_eq hT516.symm) rfl) (hJ514.up (by omega)) 
  refine X.ifeq 23 4 i195_1 rfl rfl rfl (fun h501 => ?_) (fun h501 => ?_)
  · refine X.cut [(0, zr 4 40)] i195_23 rfl ?_
    refine X.aload_n 24 i195_23 rfl rfl rfl ?_
    refine X.getZ 27 4 i195_24 rfl rfl (by decide) rfl rfl rfl (fun h502 => ?_)
    refine X.ifeq 41 30 i195_27 rfl rfl rfl (fun h503 => ?_) (fun h503 => ?_)
    · exact hK515 m (Eq.trans (if_pos h501) (Eq.trans (if_pos h503) rfl)) (hJ.up (by omega))
    · refine X.aload_n 31 i195_30 rfl rfl rfl ?_
      refine X.getF 34 i195_31 rfl rfl (by decide) rfl rfl ?_
      refine X.aload_n 35 i195_34 rfl rfl rfl ?_
      refine X.getF 38 i195_35 rfl rfl (by decide) rfl rfl ?_
      refine X.callv 41 [zr 1 8] [] [(0, zr 0 8), (1, zr 1 8)] i195_38 rfl (by decide) rfl rfl (by omega) rfl rfl (by decide) rfl t171 (Nat.le_of_ble_eq_true rfl) (Nat.le_of_ble_eq_true rfl) rfl ?_
      refine c171_1 (B := B) 0 1  (by omega) (hJ.up (by omega)) (by omega)  hf1 hf2 hf3 hf4 hf5 hf6 hf7 hf8 hf9 hf10 hf11 hf12 hf13 hg0 (fun m504 hFv506 hJ505 => ?_)
      show X (EE s) d 195 41 [(0, zr 4 40)] [] m504 _
      exact hK515 m504 (Eq.trans (if_pos h501) (Eq.trans (if_neg h503) (Eq.trans (zs_eq hFv506.symm) rfl))) (hJ505.up (by omega))
  · refine X.aload_n 5 i195_4 rfl rfl rfl ?_
    refine X.getF 8 i195_5 rfl rfl (by decide) rfl rfl ?_
    refine X.aload_n 9 i195_8 rfl rfl rfl ?_
    refine X.getF 12 i195_9 rfl rfl (by decide) rfl rfl ?_
    refine X.callv 15 [zr 0 8] [] [(0, zr 1 8), (1, zr 0 8)] i195_12 rfl (by decide) rfl rfl (by omega) rfl rfl (by decide) rfl t171 (Nat.le_of_ble_eq_true rfl) (Nat.le_of_ble_eq_true rfl) rfl ?_
    refine c171_1 (B := B) 1 0  (by omega) (hJ.up (by omega)) (by omega)  hf1 hf2 hf3 hf4 hf5 hf6 hf7 hf8 hf9 hf10 hf11 hf12 hf13 hg1 (fun m507 hFv509 hJ508 => ?_)
    show X (EE s) d 195 15 [(0, zr 4 40), (1, zi a1)] [] m507 _
    refine X.aload_n 16 i195_15 rfl rfl rfl ?_
    refine X.iconst 17 i195_16 rfl rfl (by decide) ?_
    refine X.putZ' 20 4 i195_17 rfl rfl (by decide) rfl rfl rfl (by omega) (fun hrm510 m510 hm510 => ?_)
    have hJ511 := w40_4 hJ508 hm510 (by omega) hf14 hg4
    refine X.goto 41 i195_20 rfl rfl ?_
    refine X.cut [(0, zr 4 40)] i195_41 rfl ?_
    exact hK515 m510 (Eq.trans (if_neg h501) (Eq.trans (zs_eq hFv509.symm) (Eq.trans (zs_eq hm510) rfl))) (hJ511.up (by omega))
-- WorkMeterModel.image
noncomputable def f314_1 (a1 : Int) (m : zM) : Int × zM :=
  if a1 = 0 then
  (if (m 4 44 3) = 0 then
  ((0, m))
  else
  (zs (z_cpy m 4 45 4 47 0 0 1619) fun m511 =>
  zs (z_upd m511 4 44 3 1) fun m514 =>
  (1, m514)))
  else
  (zs (z_cpy m 4 47 4 45 0 0 1619) fun m503 =>
  zs (z_upd m503 4 44 3 1) fun m506 =>
  (1, m506))
-- WorkMeterModel.image
theorem c314_1 {s : Nat × (Nat → Int32)} {S : zS} {m0 m : zM} {B : Int} {d : Nat} {Q : Option zV → zM → Prop} (a1 : Int) (hd : 14 ≤ d) (hJ : J S m0 B m) (hB : B + 0 ≤ 1000000000) (ha1 : 0 ≤ a1 ∧ a1 ≤ 1) (hf21 : ¬ S.1 21) (hf22 : ¬ S.1 22) (hf23 : ¬ S.1 23) (hf24 : ¬ S.1 24) (hf25 : ¬ S.1 25) (hf26 : ¬ S.1 26) (hf27 : ¬ S.1 27) (hf28 : ¬ S.1 28) (hf29 : ¬ S.1 29) (hf30 : ¬ S.1 30) (hf31 : ¬ S.1 31) (hf32 : ¬ S.1 32) (hf33 : ¬ S.1 33) (hf34 : ¬ S.1 34) (hf37 : ¬ S.1 37) (hg4 : ¬ S.2.1 4) (hQ : ∀ (v : Int) m', (0 ≤ v ∧ v ≤ 1) → f314_1 a1 m = (v, m') → J S m0 (B) m' → Q (some (zi v)) m') : X (EE s) d 314 0 [(0, zr 4 44), (1, zi a1)] [] m Q := by
  refine X.iload_n 1 i314_0 rfl rfl rfl ?_
  refine X.ifne 13 4 i314_1 rfl rfl rfl (fun h501 => ?_) (fun h501 => ?_)
  · refine X.iload_n 14 i314_13 rfl rfl rfl ?_
    refine X.ifeq 31 17 i314_14 rfl rfl rfl (fun h502 => (by exfalso; omega)) (fun h502 => ?_)
    refine X.aload_n 18 i314_17 rfl rfl rfl ?_
    refine X.getF 21 i314_18 rfl rfl (by decide) rfl rfl ?_
    refine X.aload_n 22 i314_21 rfl rfl rfl ?_
    refine X.getF 25 i314_22 rfl rfl (by decide) rfl rfl ?_
    refine X.calls 28 [zr 4 45, zr 4 47] [] [(0, zr 4 45), (1, zr 4 47)] i314_25 (by decide) rfl rfl (by omega) rfl rfl t261 (Nat.le_of_ble_eq_true rfl) (Nat.le_of_ble_eq_true rfl) rfl ?_
    refine c_cq_45_47 (S := S) (B := B) (by omega) (hJ)  hf37 hg4 (fun m503 hFv505 hJ504 => ?_)
    have wcm503 : m503 4 44 3 = m 4 44 3 := by rw [hFv505]; exact z_cpy_o rfl
    show X (EE s) d 314 28 [(0, zr 4 44), (1, zi a1)] [] m503 _
    refine X.goto 42 i314_28 rfl rfl ?_
    refine X.cut [(0, zr 4 44)] i314_42 rfl ?_
    refine X.aload_n 43 i314_42 rfl rfl rfl ?_
    refine X.iconst 44 i314_43 rfl rfl (by decide) ?_
    refine X.putZ' 47 3 i314_44 rfl rfl (by decide) rfl rfl rfl (by omega) (fun hrm506 m506 hm506 => ?_)
    have hJ507 := J.img hJ504 hm506 (by omega) (by first | exact .inl trivial | exact .inr (by omega)) hf34 hg4
    refine X.iconst 48 i314_47 rfl rfl (by decide) ?_
    refine X.retz i314_48 rfl t314 (by omega) ?_
    exact hQ 1 m506 (by first | trivial | omega) (Eq.trans (if_neg h501) (Eq.trans (zs_eq hFv505) (Eq.trans (zs_eq hm506) rfl))) ((J.wk (p' := S.2.2.1) (q' := S.2.2.2) hJ507 (fun h => by first | trivial | exact h) (fun h => by first | trivial | exact h)).up (by omega)) 
  · refine X.aload_n 5 i314_4 rfl rfl rfl ?_
    refine X.getZ 8 3 i314_5 rfl rfl (by decide) rfl rfl rfl (fun h508 => ?_)
    refine X.ifne 13 11 i314_8 rfl rfl rfl (fun h509 => ?_) (fun h509 => ?_)
    · refine X.iload_n 14 i314_13 rfl rfl rfl ?_
      refine X.ifeq 31 17 i314_14 rfl rfl rfl (fun h510 => ?_) (fun h510 => (by exfalso; omega))
      refine X.cut [(0, zr 4 44)] i314_31 rfl ?_
      refine X.aload_n 32 i314_31 rfl rfl rfl ?_
      refine X.getF 35 i314_32 rfl rfl (by decide) rfl rfl ?_
      refine X.aload_n 36 i314_35 rfl rfl rfl ?_
      refine X.getF 39 i314_36 rfl rfl (by decide) rfl rfl ?_
      refine X.calls 42 [zr 4 47, zr 4 45] [] [(0, zr 4 47), (1, zr 4 45)] i314_39 (by decide) rfl rfl (by omega) rfl rfl t261 (Nat.le_of_ble_eq_true rfl) (Nat.le_of_ble_eq_true rfl) rfl ?_
      refine c_cq_47_45 (S := S) (B := B) (by omega) (hJ) (.inr (by omega)) hf21 hf22 hf23 hf24 hf25 hf26 hf27 hf28 hf29 hf30 hf31 hf32 hf33 hg4 (fun m511 hFv513 hJ512 => ?_)
      have wcm511 : m511 4 44 3 = m 4 44 3 := by rw [hFv513]; exact z_cpy_o rfl
      show X (EE s) d 314 42 [(0, zr 4 44)] [] m511 _
      refine X.aload_n 43 i314_42 rfl rfl rfl ?_
      refine X.iconst 44 i314_43 rfl rfl (by decide) ?_
      refine X.putZ' 47 3 i314_44 rfl rfl (by decide) rfl rfl rfl (by omega) (fun hrm514 m514 hm514 => ?_)
      have hJ515 := J.img hJ512 hm514 (by omega) (by first | exact .inl trivial | exact .inr (by omega)) hf34 hg4
      refine X.iconst 48 i314_47 rfl rfl (by decide) ?_
      refine X.retz i314_48 rfl t314 (by omega) ?_
      exact hQ 1 m514 (by first | trivial | omega) (Eq.trans (if_pos h501) (Eq.trans (if_neg h509) (Eq.trans (zs_eq hFv513) (Eq.trans (zs_eq hm514) rfl)))) (hJ515.up (by omega)) 
    · refine X.iconst 12 i314_11 rfl rfl (by decide) ?_
      refine X.retz i314_12 rfl t314 (by omega) ?_
      exact hQ 0 m (by first | trivial | omega) (Eq.trans (if_pos h501) (Eq.trans (if_pos h509) rfl)) (hJ.up (by omega)) 
-- WorkMeter.settingLookedAt
noncomputable def f200_1 (a0 : Int) (m : zM) : Int :=
  if a0 < 20 then
  ((-1))
  else
  (if 25 < a0 then
  (if a0 < 30 then
  ((-1))
  else
  (if 33 < a0 then
  (if a0 < 50 then
  ((-1))
  else
  (if 52 < a0 then
  ((-1))
  else
  (((a0 - 50) + 20))))
  else
  (((a0 - 30) + 10))))
  else
  (((a0 - 20) + 0)))
-- WorkMeter.settingLookedAt
theorem c200_1 {s : Nat × (Nat → Int32)} {S : zS} {m0 m : zM} {B : Int} {d : Nat} {Q : Option zV → zM → Prop} (a0 : Int) (hd : 13 ≤ d) (hJ : J S m0 B m) (hB : B + 0 ≤ 1000000000) (ha0 : (-2147483648) ≤ a0 ∧ a0 ≤ 2147483647) (hQ : ∀ (v : Int), ((-1) ≤ v ∧ v ≤ 22) → f200_1 a0 m = v → Q (some (zi v)) m) : X (EE s) d 200 0 [(0, zi a0)] [] m Q := by
  refine X.iload_n 1 i200_0 rfl rfl rfl ?_
  refine X.bipush 3 i200_1 rfl rfl (by decide) ?_
  refine X.icmplt 19 6 i200_3 rfl rfl rfl (fun h501 => ?_) (fun h501 => ?_)
  · refine X.iload_n 20 i200_19 rfl rfl rfl ?_
    refine X.bipush 22 i200_20 rfl rfl (by decide) ?_
    refine X.icmplt 39 25 i200_22 rfl rfl rfl (fun h502 => ?_) (fun h502 => (by exfalso; omega))
    refine X.iload_n 40 i200_39 rfl rfl rfl ?_
    refine X.bipush 42 i200_40 rfl rfl (by decide) ?_
    refine X.icmplt 59 45 i200_42 rfl rfl rfl (fun h503 => ?_) (fun h503 => (by exfalso; omega))
    refine X.cut [] i200_59 rfl ?_
    refine X.iconst 60 i200_59 rfl rfl (by decide) ?_
    refine X.reti i200_60 rfl t200 ?_
    exact hQ (-1) (by first | trivial | omega) (Eq.trans (if_pos h501) rfl) 
  · refine X.iload_n 7 i200_6 rfl rfl rfl ?_
    refine X.bipush 9 i200_7 rfl rfl (by decide) ?_
    refine X.icmpgt 19 12 i200_9 rfl rfl rfl (fun h504 => ?_) (fun h504 => ?_)
    · refine X.iload_n 20 i200_19 rfl rfl rfl ?_
      refine X.bipush 22 i200_20 rfl rfl (by decide) ?_
      refine X.icmplt 39 25 i200_22 rfl rfl rfl (fun h505 => ?_) (fun h505 => ?_)
      · refine X.iload_n 40 i200_39 rfl rfl rfl ?_
        refine X.bipush 42 i200_40 rfl rfl (by decide) ?_
        refine X.icmplt 59 45 i200_42 rfl rfl rfl (fun h506 => ?_) (fun h506 => (by exfalso; omega))
        refine X.cut [] i200_59 rfl ?_
        refine X.iconst 60 i200_59 rfl rfl (by decide) ?_
        refine X.reti i200_60 rfl t200 ?_
        exact hQ (-1) (by first | trivial | omega) (Eq.trans (if_neg h501) (Eq.trans (if_pos h504) (Eq.trans (if_pos h505) rfl))) 
      · refine X.iload_n 26 i200_25 rfl rfl rfl ?_
        refine X.bipush 28 i200_26 rfl rfl (by decide) ?_
        refine X.icmpgt 39 31 i200_28 rfl rfl rfl (fun h507 => ?_) (fun h507 => ?_)
        · refine X.iload_n 40 i200_39 rfl rfl rfl ?_
          refine X.bipush 42 i200_40 rfl rfl (by decide) ?_
          refine X.icmplt 59 45 i200_42 rfl rfl rfl (fun h508 => ?_) (fun h508 => ?_)
          · refine X.cut [] i200_59 rfl ?_
            refine X.iconst 60 i200_59 rfl rfl (by decide) ?_
            refine X.reti i200_60 rfl t200 ?_
            exact hQ (-1) (by first | trivial | omega) (Eq.trans (if_neg h501) (Eq.trans (if_pos h504) (Eq.trans (if_neg h505) (Eq.trans (if_pos h507) (Eq.trans (if_pos h508) rfl))))) 
          · refine X.iload_n 46 i200_45 rfl rfl rfl ?_
            refine X.bipush 48 i200_46 rfl rfl (by decide) ?_
            refine X.icmpgt 59 51 i200_48 rfl rfl rfl (fun h509 => ?_) (fun h509 => ?_)
            · refine X.cut [] i200_59 rfl ?_
              refine X.iconst 60 i200_59 rfl rfl (by decide) ?_
              refine X.reti i200_60 rfl t200 ?_
              exact hQ (-1) (by first | trivial | omega) (Eq.trans (if_neg h501) (Eq.trans (if_pos h504) (Eq.trans (if_neg h505) (Eq.trans (if_pos h507) (Eq.trans (if_neg h508) (Eq.trans (if_pos h509) rfl)))))) 
            · refine X.iload_n 52 i200_51 rfl rfl rfl ?_
              refine X.bipush 54 i200_52 rfl rfl (by decide) ?_
              refine X.isub 55 i200_54 rfl rfl (by omega) ?_
              refine X.bipush 57 i200_55 rfl rfl (by decide) ?_
              refine X.iadd 58 i200_57 rfl rfl (by omega) ?_
              refine X.reti i200_58 rfl t200 ?_
              exact hQ ((a0 - 50) + 20) (by first | trivial | omega) (Eq.trans (if_neg h501) (Eq.trans (if_pos h504) (Eq.trans (if_neg h505) (Eq.trans (if_pos h507) (Eq.trans (if_neg h508) (Eq.trans (if_neg h509) rfl)))))) 
        · refine X.iload_n 32 i200_31 rfl rfl rfl ?_
          refine X.bipush 34 i200_32 rfl rfl (by decide) ?_
          refine X.isub 35 i200_34 rfl rfl (by omega) ?_
          refine X.bipush 37 i200_35 rfl rfl (by decide) ?_
          refine X.iadd 38 i200_37 rfl rfl (by omega) ?_
          refine X.reti i200_38 rfl t200 ?_
          exact hQ ((a0 - 30) + 10) (by first | trivial | omega) (Eq.trans (if_neg h501) (Eq.trans (if_pos h504) (Eq.trans (if_neg h505) (Eq.trans (if_neg h507) rfl)))) 
    · refine X.iload_n 13 i200_12 rfl rfl rfl ?_
      refine X.bipush 15 i200_13 rfl rfl (by decide) ?_
      refine X.isub 16 i200_15 rfl rfl (by omega) ?_
      refine X.iconst 17 i200_16 rfl rfl (by decide) ?_
      refine X.iadd 18 i200_17 rfl rfl (by omega) ?_
      refine X.reti i200_18 rfl t200 ?_
      exact hQ ((a0 - 20) + 0) (by first | trivial | omega) (Eq.trans (if_neg h501) (Eq.trans (if_neg h504) rfl)) 
-- WorkMeter$Settings.value
theorem c168_4 {s : Nat × (Nat → Int32)} {S : zS} {m0 m : zM} {B : Int} {d : Nat} {Q : Option zV → zM → Prop} (g0 : Nat) (a1 : Int) (hd : 14 ≤ d) (hJ : J S m0 B m) (hB : B + 0 ≤ 1000000000) (ha1 : 0 ≤ a1 ∧ a1 ≤ 22) (hQ : ∀ (v : Int), ((-1) ≤ v ∧ v ≤ 1000000) → f168_1 g0 a1 m = v → Q (some (zi v)) m) : X (EE s) d 168 0 [(0, zr g0 9), (1, zi a1)] [] m Q := by
  refine X.iload_n 1 i168_0 rfl rfl rfl ?_
  refine X.calls 4 [zi a1] [] [(0, zi a1)] i168_1 (by decide) rfl rfl (by omega) rfl rfl t76 (Nat.le_of_ble_eq_true rfl) (Nat.le_of_ble_eq_true rfl) rfl ?_
  refine c76_1 (B := B)  a1 (by omega) (hJ.up (by omega)) (by omega) (by omega) (fun v503 hv503 hFv503 hqv503_0 hqv503_1 => ?_)
  show X (EE s) d 168 4 [(0, zr g0 9), (1, zi a1)] [zi v503] m _
  refine X.istore_n 5 [(0, zr g0 9), (1, zi a1), (2, zi v503)] i168_4 rfl rfl rfl ?_
  refine X.iload_n 6 i168_5 rfl rfl rfl ?_
  refine X.iconst 7 i168_6 rfl rfl (by decide) ?_
  have hK509 : ∀ (v : Int) , ((-1) ≤ v ∧ v ≤ 1000000) → (if v503 = (-1) then
      ((-1))
      else
      ((m g0 10 v503))) = v → X (EE s) d 168 20 [] [zi v] m Q := by
    intro v506 hv506 hT510
    refine X.reti i168_20 rfl t168 ?_
    exact hQ v506 (by first | trivial | omega) (Eq.trans (zn_eq hFv503.symm) (Eq.trans (zn_eq hT510.symm) rfl)) 
  refine X.icmpne 14 10 i168_7 rfl rfl rfl (fun h504 => ?_) (fun h504 => ?_)
  · refine X.cut [(0, zr g0 9), (2, zi v503)] i168_14 rfl ?_
    refine X.aload_n 15 i168_14 rfl rfl rfl ?_
    refine X.getR 18 i168_15 rfl rfl (by decide) rfl rfl ?_
    refine X.iload_n 19 i168_18 rfl rfl rfl ?_
    refine X.iald 20 i168_19 rfl rfl (by decide) rfl (by omega) ?_
    have h505 := r10_all hJ g0 (i := v503) (by omega)
    refine X.cut [] i168_20 rfl ?_
    exact hK509 (m g0 10 v503) (by first | trivial | omega) (Eq.trans (if_neg h504) rfl)
  · refine X.iconst 11 i168_10 rfl rfl (by decide) ?_
    refine X.goto 20 i168_11 rfl rfl ?_
    refine X.cut [] i168_20 rfl ?_
    exact hK509 (-1) (by first | trivial | omega) (Eq.trans (if_pos h504) rfl)
-- WorkMeter.lookAtSeal
noncomputable def f199_1 (a1 : Int) (m : zM) : Int :=
  if a1 = 53 then
  (zn (if (m 0 39 0) = 0 then
  (0)
  else
  (1)) fun v504 =>
  v504)
  else
  (if a1 = 54 then
  ((m 0 39 2))
  else
  (if a1 = 55 then
  (zn (f118_1 0 (m 0 8 9) m) fun v515 =>
  v515)
  else
  (if a1 = 56 then
  ((m 0 39 3))
  else
  (if a1 = 57 then
  ((m 4 41 3))
  else
  ((-10000000000))))))
-- WorkMeter.lookAtSeal
theorem c199_1 {s : Nat × (Nat → Int32)} {S : zS} {m0 m : zM} {B : Int} {d : Nat} {Q : Option zV → zM → Prop} (a1 : Int) (hd : 14 ≤ d) (hJ : J S m0 B m) (hB : B + 0 ≤ 1000000000) (ha1 : 53 ≤ a1 ∧ a1 ≤ 2147483647) (hQ : ∀ (v : Int), ((-10000000000) ≤ v ∧ v ≤ 2147483647) → f199_1 a1 m = v → Q (some (zl v)) m) : X (EE s) d 199 0 [(0, zr 4 40), (1, zi a1)] [] m Q := by
  refine X.iload_n 1 i199_0 rfl rfl rfl ?_
  by_cases h501 : a1 = 53
  · refine X.tsIn 36 0 i199_1 rfl (by omega) rfl rfl ?_
    refine X.cut [(0, zr 4 40)] i199_36 rfl ?_
    refine X.aload_n 37 i199_36 rfl rfl rfl ?_
    refine X.getF 40 i199_37 rfl rfl (by decide) rfl rfl ?_
    refine X.getR 43 i199_40 rfl rfl (by decide) rfl rfl ?_
    refine X.getZ 46 0 i199_43 rfl rfl (by decide) rfl rfl rfl (fun h502 => ?_)
    have hK507 : ∀ (v : Int) , (0 ≤ v ∧ v ≤ 1) → (if (m 0 39 0) = 0 then
        (0)
        else
        (1)) = v → X (EE s) d 199 54 [] [zl v] m Q := by
      intro v504 hv504 hT508
      refine X.retl i199_54 rfl t199 ?_
      exact hQ v504 (by first | trivial | omega) (Eq.trans (if_pos h501) (Eq.trans (zn_eq hT508.symm) rfl)) 
    refine X.ifeq 53 49 i199_46 rfl rfl rfl (fun h503 => ?_) (fun h503 => ?_)
    · refine X.cut [] i199_53 rfl ?_
      refine X.lconst (y := 0) 54 i199_53 rfl rfl rfl ?_
      exact hK507 0 (by first | trivial | omega) (Eq.trans (if_pos h503) rfl)
    · refine X.lconst (y := 1) 50 i199_49 rfl rfl rfl ?_
      refine X.goto 54 i199_50 rfl rfl ?_
      refine X.cut [] i199_54 rfl ?_
      exact hK507 1 (by first | trivial | omega) (Eq.trans (if_neg h503) rfl)
  by_cases h509 : a1 = 54
  · refine X.tsIn 55 1 i199_1 rfl (by omega) rfl rfl ?_
    refine X.cut [(0, zr 4 40)] i199_55 rfl ?_
    refine X.aload_n 56 i199_55 rfl rfl rfl ?_
    refine X.getF 59 i199_56 rfl rfl (by decide) rfl rfl ?_
    refine X.getR 62 i199_59 rfl rfl (by decide) rfl rfl ?_
    refine X.getI 65 2 i199_62 rfl rfl (by decide) rfl rfl rfl ?_
    have h510 := r39_2 hJ 0
    refine X.i2l 66 i199_65 rfl rfl ?_
    refine X.retl i199_66 rfl t199 ?_
    exact hQ (m 0 39 2) (by first | trivial | omega) (Eq.trans (if_neg h501) (Eq.trans (if_pos h509) rfl)) 
  by_cases h511 : a1 = 55
  · refine X.tsIn 67 2 i199_1 rfl (by omega) rfl rfl ?_
    refine X.cut [(0, zr 4 40)] i199_67 rfl ?_
    refine X.aload_n 68 i199_67 rfl rfl rfl ?_
    refine X.getF 71 i199_68 rfl rfl (by decide) rfl rfl ?_
    refine X.getR 74 i199_71 rfl rfl (by decide) rfl rfl ?_
    refine X.aload_n 75 i199_74 rfl rfl rfl ?_
    refine X.getF 78 i199_75 rfl rfl (by decide) rfl rfl ?_
    refine X.getI 81 9 i199_78 rfl rfl (by decide) rfl rfl rfl ?_
    have h512 := r8_9 hJ 0
    refine X.callv 84 [zi (m 0 8 9)] [] [(0, zr 0 39), (1, zi (m 0 8 9))] i199_81 rfl (by decide) rfl rfl (by omega) rfl rfl (by decide) rfl t118 (Nat.le_of_ble_eq_true rfl) (Nat.le_of_ble_eq_true rfl) rfl ?_
    refine c118_1 (B := B) 0 (m 0 8 9) (by omega) (hJ.up (by omega)) (by omega) (by omega) (fun v515 hv515 hFv515 => ?_)
    show X (EE s) d 199 84 [(0, zr 4 40)] [zi v515] m _
    refine X.i2l 85 i199_84 rfl rfl ?_
    refine X.retl i199_85 rfl t199 ?_
    exact hQ v515 (by first | trivial | omega) (Eq.trans (if_neg h501) (Eq.trans (if_neg h509) (Eq.trans (if_pos h511) (Eq.trans (zn_eq hFv515.symm) rfl)))) 
  by_cases h516 : a1 = 56
  · refine X.tsIn 86 3 i199_1 rfl (by omega) rfl rfl ?_
    refine X.cut [(0, zr 4 40)] i199_86 rfl ?_
    refine X.aload_n 87 i199_86 rfl rfl rfl ?_
    refine X.getF 90 i199_87 rfl rfl (by decide) rfl rfl ?_
    refine X.getR 93 i199_90 rfl rfl (by decide) rfl rfl ?_
    refine X.getIr 96 3 i199_93 rfl rfl (by decide) rfl rfl rfl (fun h517 => ?_)
    refine X.i2l 97 i199_96 rfl rfl ?_
    refine X.retl i199_97 rfl t199 ?_
    exact hQ (m 0 39 3) (by first | trivial | omega) (Eq.trans (if_neg h501) (Eq.trans (if_neg h509) (Eq.trans (if_neg h511) (Eq.trans (if_pos h516) rfl)))) 
  by_cases h518 : a1 = 57
  · refine X.tsIn 98 4 i199_1 rfl (by omega) rfl rfl ?_
    refine X.cut [(0, zr 4 40)] i199_98 rfl ?_
    refine X.aload_n 99 i199_98 rfl rfl rfl ?_
    refine X.getF 102 i199_99 rfl rfl (by decide) rfl rfl ?_
    refine X.getI 105 3 i199_102 rfl rfl (by decide) rfl rfl rfl ?_
    have h519 := r41_3 hJ 4
    refine X.i2l 106 i199_105 rfl rfl ?_
    refine X.retl i199_106 rfl t199 ?_
    exact hQ (m 4 41 3) (by first | trivial | omega) (Eq.trans (if_neg h501) (Eq.trans (if_neg h509) (Eq.trans (if_neg h511) (Eq.trans (if_neg h516) (Eq.trans (if_pos h518) rfl))))) 
  refine X.tsOut 107 i199_1 rfl (by omega) rfl ?_
  refine X.cut [] i199_107 rfl ?_
  refine X.ldc2 110 i199_107 rfl rfl (by decide) ?_
  refine X.retl i199_110 rfl t199 ?_
  exact hQ (-10000000000) (by first | trivial | omega) (Eq.trans (if_neg h501) (Eq.trans (if_neg h509) (Eq.trans (if_neg h511) (Eq.trans (if_neg h516) (Eq.trans (if_neg h518) rfl))))) 
-- WorkMeter.lookAtCounts
noncomputable def f198_1 (a1 : Int) (m : zM) : Int :=
  if a1 = 8 then
  ((m 0 33 3))
  else
  (if a1 = 9 then
  ((m 0 37 1))
  else
  (if a1 = 10 then
  ((m 0 27 2))
  else
  (if a1 = 11 then
  ((m 0 23 3))
  else
  (if a1 = 12 then
  ((m 0 19 3))
  else
  (if a1 = 13 then
  ((m 0 19 4))
  else
  (if a1 = 14 then
  ((m 0 19 5))
  else
  ((m 0 11 7))))))))
-- WorkMeter.lookAtCounts
theorem c198_1 {s : Nat × (Nat → Int32)} {S : zS} {m0 m : zM} {B : Int} {d : Nat} {Q : Option zV → zM → Prop} (a1 : Int) (hd : 13 ≤ d) (hJ : J S m0 B m) (hB : B + 0 ≤ 1000000000) (ha1 : 8 ≤ a1 ∧ a1 ≤ 15) (hQ : ∀ (v : Int), ((-2147483648) ≤ v ∧ v ≤ 2147483647) → f198_1 a1 m = v → Q (some (zl v)) m) : X (EE s) d 198 0 [(0, zr 4 40), (1, zi a1)] [] m Q := by
  refine X.iload_n 1 i198_0 rfl rfl rfl ?_
  by_cases h501 : a1 = 8
  · refine X.tsIn 48 0 i198_1 rfl (by omega) rfl rfl ?_
    refine X.cut [(0, zr 4 40)] i198_48 rfl ?_
    refine X.aload_n 49 i198_48 rfl rfl rfl ?_
    refine X.getF 52 i198_49 rfl rfl (by decide) rfl rfl ?_
    refine X.getR 55 i198_52 rfl rfl (by decide) rfl rfl ?_
    refine X.getIr 58 3 i198_55 rfl rfl (by decide) rfl rfl rfl (fun h502 => ?_)
    refine X.i2l 59 i198_58 rfl rfl ?_
    refine X.retl i198_59 rfl t198 ?_
    exact hQ (m 0 33 3) (by first | trivial | omega) (Eq.trans (if_pos h501) rfl) 
  by_cases h503 : a1 = 9
  · refine X.tsIn 60 1 i198_1 rfl (by omega) rfl rfl ?_
    refine X.cut [(0, zr 4 40)] i198_60 rfl ?_
    refine X.aload_n 61 i198_60 rfl rfl rfl ?_
    refine X.getF 64 i198_61 rfl rfl (by decide) rfl rfl ?_
    refine X.getR 67 i198_64 rfl rfl (by decide) rfl rfl ?_
    refine X.getI 70 1 i198_67 rfl rfl (by decide) rfl rfl rfl ?_
    have h504 := r37_1 hJ 0
    refine X.i2l 71 i198_70 rfl rfl ?_
    refine X.retl i198_71 rfl t198 ?_
    exact hQ (m 0 37 1) (by first | trivial | omega) (Eq.trans (if_neg h501) (Eq.trans (if_pos h503) rfl)) 
  by_cases h505 : a1 = 10
  · refine X.tsIn 72 2 i198_1 rfl (by omega) rfl rfl ?_
    refine X.cut [(0, zr 4 40)] i198_72 rfl ?_
    refine X.aload_n 73 i198_72 rfl rfl rfl ?_
    refine X.getF 76 i198_73 rfl rfl (by decide) rfl rfl ?_
    refine X.getR 79 i198_76 rfl rfl (by decide) rfl rfl ?_
    refine X.getI 82 2 i198_79 rfl rfl (by decide) rfl rfl rfl ?_
    have h506 := r27_2 hJ 0
    refine X.i2l 83 i198_82 rfl rfl ?_
    refine X.retl i198_83 rfl t198 ?_
    exact hQ (m 0 27 2) (by first | trivial | omega) (Eq.trans (if_neg h501) (Eq.trans (if_neg h503) (Eq.trans (if_pos h505) rfl))) 
  by_cases h507 : a1 = 11
  · refine X.tsIn 84 3 i198_1 rfl (by omega) rfl rfl ?_
    refine X.cut [(0, zr 4 40)] i198_84 rfl ?_
    refine X.aload_n 85 i198_84 rfl rfl rfl ?_
    refine X.getF 88 i198_85 rfl rfl (by decide) rfl rfl ?_
    refine X.getR 91 i198_88 rfl rfl (by decide) rfl rfl ?_
    refine X.getI 94 3 i198_91 rfl rfl (by decide) rfl rfl rfl ?_
    have h508 := r23_3 hJ 0
    refine X.i2l 95 i198_94 rfl rfl ?_
    refine X.retl i198_95 rfl t198 ?_
    exact hQ (m 0 23 3) (by first | trivial | omega) (Eq.trans (if_neg h501) (Eq.trans (if_neg h503) (Eq.trans (if_neg h505) (Eq.trans (if_pos h507) rfl)))) 
  by_cases h509 : a1 = 12
  · refine X.tsIn 96 4 i198_1 rfl (by omega) rfl rfl ?_
    refine X.cut [(0, zr 4 40)] i198_96 rfl ?_
    refine X.aload_n 97 i198_96 rfl rfl rfl ?_
    refine X.getF 100 i198_97 rfl rfl (by decide) rfl rfl ?_
    refine X.getR 103 i198_100 rfl rfl (by decide) rfl rfl ?_
    refine X.getI 106 3 i198_103 rfl rfl (by decide) rfl rfl rfl ?_
    have h510 := r19_3 hJ 0
    refine X.i2l 107 i198_106 rfl rfl ?_
    refine X.retl i198_107 rfl t198 ?_
    exact hQ (m 0 19 3) (by first | trivial | omega) (Eq.trans (if_neg h501) (Eq.trans (if_neg h503) (Eq.trans (if_neg h505) (Eq.trans (if_neg h507) (Eq.trans (if_pos h509) rfl))))) 
  by_cases h511 : a1 = 13
  · refine X.tsIn 108 5 i198_1 rfl (by omega) rfl rfl ?_
    refine X.cut [(0, zr 4 40)] i198_108 rfl ?_
    refine X.aload_n 109 i198_108 rfl rfl rfl ?_
    refine X.getF 112 i198_109 rfl rfl (by decide) rfl rfl ?_
    refine X.getR 115 i198_112 rfl rfl (by decide) rfl rfl ?_
    refine X.getI 118 4 i198_115 rfl rfl (by decide) rfl rfl rfl ?_
    have h512 := r19_4 hJ 0
    refine X.i2l 119 i198_118 rfl rfl ?_
    refine X.retl i198_119 rfl t198 ?_
    exact hQ (m 0 19 4) (by first | trivial | omega) (Eq.trans (if_neg h501) (Eq.trans (if_neg h503) (Eq.trans (if_neg h505) (Eq.trans (if_neg h507) (Eq.trans (if_neg h509) (Eq.trans (if_pos h511) rfl)))))) 
  by_cases h513 : a1 = 14
  · refine X.tsIn 120 6 i198_1 rfl (by omega) rfl rfl ?_
    refine X.cut [(0, zr 4 40)] i198_120 rfl ?_
    refine X.aload_n 121 i198_120 rfl rfl rfl ?_
    refine X.getF 124 i198_121 rfl rfl (by decide) rfl rfl ?_
    refine X.getR 127 i198_124 rfl rfl (by decide) rfl rfl ?_
    refine X.getI 130 5 i198_127 rfl rfl (by decide) rfl rfl rfl ?_
    have h514 := r19_5 hJ 0
    refine X.i2l 131 i198_130 rfl rfl ?_
    refine X.retl i198_131 rfl t198 ?_
    exact hQ (m 0 19 5) (by first | trivial | omega) (Eq.trans (if_neg h501) (Eq.trans (if_neg h503) (Eq.trans (if_neg h505) (Eq.trans (if_neg h507) (Eq.trans (if_neg h509) (Eq.trans (if_neg h511) (Eq.trans (if_pos h513) rfl))))))) 
  by_cases h515 : a1 = 15
  · refine X.tsIn 132 7 i198_1 rfl (by omega) rfl rfl ?_
    refine X.cut [(0, zr 4 40)] i198_132 rfl ?_
    refine X.aload_n 133 i198_132 rfl rfl rfl ?_
    refine X.getF 136 i198_133 rfl rfl (by decide) rfl rfl ?_
    refine X.getR 139 i198_136 rfl rfl (by decide) rfl rfl ?_
    refine X.getI 142 7 i198_139 rfl rfl (by decide) rfl rfl rfl ?_
    have h516 := r11_7 hJ 0
    refine X.i2l 143 i198_142 rfl rfl ?_
    refine X.retl i198_143 rfl t198 ?_
    exact hQ (m 0 11 7) (by first | trivial | omega) (Eq.trans (if_neg h501) (Eq.trans (if_neg h503) (Eq.trans (if_neg h505) (Eq.trans (if_neg h507) (Eq.trans (if_neg h509) (Eq.trans (if_neg h511) (Eq.trans (if_neg h513) rfl))))))) 
  exfalso
  omega
-- WorkMeter.lookAtMeter
noncomputable def f197_1 (a1 : Int) (m : zM) : Int :=
  if a1 = 0 then
  ((m 0 8 9))
  else
  (if a1 = 1 then
  (zn (f27_1 0 (m 0 8 9) m) fun v507 =>
  v507)
  else
  (if a1 = 2 then
  ((m 0 8 10))
  else
  (if a1 = 3 then
  (zn (if (m 0 8 11) = 0 then
  (0)
  else
  (1)) fun v512 =>
  v512)
  else
  (if a1 = 4 then
  (zn (if (m 0 8 12) = 0 then
  (0)
  else
  (1)) fun v520 =>
  v520)
  else
  (if a1 = 5 then
  ((m 0 8 13))
  else
  (if a1 = 6 then
  ((m 0 8 14))
  else
  ((m 0 8 15))))))))
-- WorkMeter.lookAtMeter
theorem c197_1 {s : Nat × (Nat → Int32)} {S : zS} {m0 m : zM} {B : Int} {d : Nat} {Q : Option zV → zM → Prop} (a1 : Int) (hd : 16 ≤ d) (hJ : J S m0 B m) (hB : B + 0 ≤ 1000000000) (ha1 : 0 ≤ a1 ∧ a1 ≤ 7) (hQ : ∀ (v : Int), (True) → f197_1 a1 m = v → Q (some (zl v)) m) : X (EE s) d 197 0 [(0, zr 4 40), (1, zi a1)] [] m Q := by
  refine X.iload_n 1 i197_0 rfl rfl rfl ?_
  by_cases h501 : a1 = 0
  · refine X.tsIn 48 0 i197_1 rfl (by omega) rfl rfl ?_
    refine X.cut [(0, zr 4 40)] i197_48 rfl ?_
    refine X.aload_n 49 i197_48 rfl rfl rfl ?_
    refine X.getF 52 i197_49 rfl rfl (by decide) rfl rfl ?_
    refine X.getI 55 9 i197_52 rfl rfl (by decide) rfl rfl rfl ?_
    have h502 := r8_9 hJ 0
    refine X.i2l 56 i197_55 rfl rfl ?_
    refine X.retl i197_56 rfl t197 ?_
    exact hQ (m 0 8 9) (by first | trivial | omega) (Eq.trans (if_pos h501) rfl) 
  by_cases h503 : a1 = 1
  · refine X.tsIn 57 1 i197_1 rfl (by omega) rfl rfl ?_
    refine X.cut [(0, zr 4 40)] i197_57 rfl ?_
    refine X.aload_n 58 i197_57 rfl rfl rfl ?_
    refine X.getF 61 i197_58 rfl rfl (by decide) rfl rfl ?_
    refine X.getR 64 i197_61 rfl rfl (by decide) rfl rfl ?_
    refine X.aload_n 65 i197_64 rfl rfl rfl ?_
    refine X.getF 68 i197_65 rfl rfl (by decide) rfl rfl ?_
    refine X.getI 71 9 i197_68 rfl rfl (by decide) rfl rfl rfl ?_
    have h504 := r8_9 hJ 0
    refine X.callv 74 [zi (m 0 8 9)] [] [(0, zr 0 11), (1, zi (m 0 8 9))] i197_71 rfl (by decide) rfl rfl (by omega) rfl rfl (by decide) rfl t27 (Nat.le_of_ble_eq_true rfl) (Nat.le_of_ble_eq_true rfl) rfl ?_
    refine c27_1 (B := B) 0 (m 0 8 9) (by omega) (hJ.up (by omega)) (by omega) (by omega) (fun v507 hv507 hFv507 => ?_)
    show X (EE s) d 197 74 [(0, zr 4 40)] [zi v507] m _
    refine X.i2l 75 i197_74 rfl rfl ?_
    refine X.retl i197_75 rfl t197 ?_
    exact hQ v507 (by first | trivial | omega) (Eq.trans (if_neg h501) (Eq.trans (if_pos h503) (Eq.trans (zn_eq hFv507.symm) rfl))) 
  by_cases h508 : a1 = 2
  · refine X.tsIn 76 2 i197_1 rfl (by omega) rfl rfl ?_
    refine X.cut [(0, zr 4 40)] i197_76 rfl ?_
    refine X.aload_n 77 i197_76 rfl rfl rfl ?_
    refine X.getF 80 i197_77 rfl rfl (by decide) rfl rfl ?_
    refine X.getL 83 10 i197_80 rfl rfl (by decide) rfl rfl rfl ?_
    refine X.retl i197_83 rfl t197 ?_
    exact hQ (m 0 8 10) (by first | trivial | omega) (Eq.trans (if_neg h501) (Eq.trans (if_neg h503) (Eq.trans (if_pos h508) rfl))) 
  by_cases h509 : a1 = 3
  · refine X.tsIn 84 3 i197_1 rfl (by omega) rfl rfl ?_
    refine X.cut [(0, zr 4 40)] i197_84 rfl ?_
    refine X.aload_n 85 i197_84 rfl rfl rfl ?_
    refine X.getF 88 i197_85 rfl rfl (by decide) rfl rfl ?_
    refine X.getZ 91 11 i197_88 rfl rfl (by decide) rfl rfl rfl (fun h510 => ?_)
    have hK515 : ∀ (v : Int) , (0 ≤ v ∧ v ≤ 1) → (if (m 0 8 11) = 0 then
        (0)
        else
        (1)) = v → X (EE s) d 197 99 [] [zl v] m Q := by
      intro v512 hv512 hT516
      refine X.retl i197_99 rfl t197 ?_
      exact hQ v512 (by first | trivial | omega) (Eq.trans (if_neg h501) (Eq.trans (if_neg h503) (Eq.trans (if_neg h508) (Eq.trans (if_pos h509) (Eq.trans (zn_eq hT516.symm) rfl))))) 
    refine X.ifeq 98 94 i197_91 rfl rfl rfl (fun h511 => ?_) (fun h511 => ?_)
    · refine X.cut [] i197_98 rfl ?_
      refine X.lconst (y := 0) 99 i197_98 rfl rfl rfl ?_
      exact hK515 0 (by first | trivial | omega) (Eq.trans (if_pos h511) rfl)
    · refine X.lconst (y := 1) 95 i197_94 rfl rfl rfl ?_
      refine X.goto 99 i197_95 rfl rfl ?_
      refine X.cut [] i197_99 rfl ?_
      exact hK515 1 (by first | trivial | omega) (Eq.trans (if_neg h511) rfl)
  by_cases h517 : a1 = 4
  · refine X.tsIn 100 4 i197_1 rfl (by omega) rfl rfl ?_
    refine X.cut [(0, zr 4 40)] i197_100 rfl ?_
    refine X.aload_n 101 i197_100 rfl rfl rfl ?_
    refine X.getF 104 i197_101 rfl rfl (by decide) rfl rfl ?_
    refine X.getZ 107 12 i197_104 rfl rfl (by decide) rfl rfl rfl (fun h518 => ?_)
    have hK523 : ∀ (v : Int) , (0 ≤ v ∧ v ≤ 1) → (if (m 0 8 12) = 0 then
        (0)
        else
        (1)) = v → X (EE s) d 197 115 [] [zl v] m Q := by
      intro v520 hv520 hT524
      refine X.retl i197_115 rfl t197 ?_
      exact hQ v520 (by first | trivial | omega) (Eq.trans (if_neg h501) (Eq.trans (if_neg h503) (Eq.trans (if_neg h508) (Eq.trans (if_neg h509) (Eq.trans (if_pos h517) (Eq.trans (zn_eq hT524.symm) rfl)))))) 
    refine X.ifeq 114 110 i197_107 rfl rfl rfl (fun h519 => ?_) (fun h519 => ?_)
    · refine X.cut [] i197_114 rfl ?_
      refine X.lconst (y := 0) 115 i197_114 rfl rfl rfl ?_
      exact hK523 0 (by first | trivial | omega) (Eq.trans (if_pos h519) rfl)
    · refine X.lconst (y := 1) 111 i197_110 rfl rfl rfl ?_
      refine X.goto 115 i197_111 rfl rfl ?_
      refine X.cut [] i197_115 rfl ?_
      exact hK523 1 (by first | trivial | omega) (Eq.trans (if_neg h519) rfl)
  by_cases h525 : a1 = 5
  · refine X.tsIn 116 5 i197_1 rfl (by omega) rfl rfl ?_
    refine X.cut [(0, zr 4 40)] i197_116 rfl ?_
    refine X.aload_n 117 i197_116 rfl rfl rfl ?_
    refine X.getF 120 i197_117 rfl rfl (by decide) rfl rfl ?_
    refine X.getIr 123 13 i197_120 rfl rfl (by decide) rfl rfl rfl (fun h526 => ?_)
    refine X.i2l 124 i197_123 rfl rfl ?_
    refine X.retl i197_124 rfl t197 ?_
    exact hQ (m 0 8 13) (by first | trivial | omega) (Eq.trans (if_neg h501) (Eq.trans (if_neg h503) (Eq.trans (if_neg h508) (Eq.trans (if_neg h509) (Eq.trans (if_neg h517) (Eq.trans (if_pos h525) rfl)))))) 
  by_cases h527 : a1 = 6
  · refine X.tsIn 125 6 i197_1 rfl (by omega) rfl rfl ?_
    refine X.cut [(0, zr 4 40)] i197_125 rfl ?_
    refine X.aload_n 126 i197_125 rfl rfl rfl ?_
    refine X.getF 129 i197_126 rfl rfl (by decide) rfl rfl ?_
    refine X.getIr 132 14 i197_129 rfl rfl (by decide) rfl rfl rfl (fun h528 => ?_)
    refine X.i2l 133 i197_132 rfl rfl ?_
    refine X.retl i197_133 rfl t197 ?_
    exact hQ (m 0 8 14) (by first | trivial | omega) (Eq.trans (if_neg h501) (Eq.trans (if_neg h503) (Eq.trans (if_neg h508) (Eq.trans (if_neg h509) (Eq.trans (if_neg h517) (Eq.trans (if_neg h525) (Eq.trans (if_pos h527) rfl))))))) 
  by_cases h529 : a1 = 7
  · refine X.tsIn 134 7 i197_1 rfl (by omega) rfl rfl ?_
    refine X.cut [(0, zr 4 40)] i197_134 rfl ?_
    refine X.aload_n 135 i197_134 rfl rfl rfl ?_
    refine X.getF 138 i197_135 rfl rfl (by decide) rfl rfl ?_
    refine X.getIr 141 15 i197_138 rfl rfl (by decide) rfl rfl rfl (fun h530 => ?_)
    refine X.i2l 142 i197_141 rfl rfl ?_
    refine X.retl i197_142 rfl t197 ?_
    exact hQ (m 0 8 15) (by first | trivial | omega) (Eq.trans (if_neg h501) (Eq.trans (if_neg h503) (Eq.trans (if_neg h508) (Eq.trans (if_neg h509) (Eq.trans (if_neg h517) (Eq.trans (if_neg h525) (Eq.trans (if_neg h527) rfl))))))) 
  exfalso
  omega
-- WorkMeter.look
noncomputable def f196_1 (a1 : Int) (m : zM) : Int :=
  if 0 ≤ a1 then
  (if 7 < a1 then
  (if 15 < a1 then
  (if a1 < 40 then
  (zn (f200_1 a1 m) fun v508 =>
  zn (if v508 = (-1) then
  ((-10000000000))
  else
  (zn (f168_1 0 v508 m) fun v512 =>
  v512)) fun v513 =>
  v513)
  else
  (if 43 < a1 then
  (if a1 < 53 then
  (zn (f200_1 a1 m) fun v522 =>
  zn (if v522 = (-1) then
  ((-10000000000))
  else
  (zn (f168_1 0 v522 m) fun v526 =>
  v526)) fun v527 =>
  v527)
  else
  (zn (f199_1 a1 m) fun v534 =>
  v534))
  else
  ((m 0 15 (a1 - 40)))))
  else
  (zn (f198_1 a1 m) fun v538 =>
  v538))
  else
  (zn (f197_1 a1 m) fun v541 =>
  v541))
  else
  ((-10000000000))
-- WorkMeter.look
theorem c196_1 {s : Nat × (Nat → Int32)} {S : zS} {m0 m : zM} {B : Int} {d : Nat} {Q : Option zV → zM → Prop} (a1 : Int) (hd : 17 ≤ d) (hJ : J S m0 B m) (hB : B + 0 ≤ 1000000000) (ha1 : (-2147483648) ≤ a1 ∧ a1 ≤ 2147483647) (hQ : ∀ (v : Int), (True) → f196_1 a1 m = v → Q (some (zl v)) m) : X (EE s) d 196 0 [(0, zr 4 40), (1, zi a1)] [] m Q := by
  refine X.iload_n 1 i196_0 rfl rfl rfl ?_
  refine X.ifge 8 4 i196_1 rfl rfl rfl (fun h501 => ?_) (fun h501 => ?_)
  · refine X.iload_n 9 i196_8 rfl rfl rfl ?_
    refine X.bipush 11 i196_9 rfl rfl (by decide) ?_
    refine X.icmpgt 20 14 i196_11 rfl rfl rfl (fun h502 => ?_) (fun h502 => ?_)
    · refine X.iload_n 21 i196_20 rfl rfl rfl ?_
      refine X.bipush 23 i196_21 rfl rfl (by decide) ?_
      refine X.icmpgt 32 26 i196_23 rfl rfl rfl (fun h503 => ?_) (fun h503 => ?_)
      · refine X.iload_n 33 i196_32 rfl rfl rfl ?_
        refine X.bipush 35 i196_33 rfl rfl (by decide) ?_
        refine X.icmplt 61 38 i196_35 rfl rfl rfl (fun h504 => ?_) (fun h504 => ?_)
        · refine X.iload_n 62 i196_61 rfl rfl rfl ?_
          refine X.bipush 64 i196_62 rfl rfl (by decide) ?_
          refine X.icmplt 73 67 i196_64 rfl rfl rfl (fun h505 => ?_) (fun h505 => (by exfalso; omega))
          refine X.iload_n 74 i196_73 rfl rfl rfl ?_
          refine X.calls 77 [zi a1] [] [(0, zi a1)] i196_74 (by decide) rfl rfl (by omega) rfl rfl t200 (Nat.le_of_ble_eq_true rfl) (Nat.le_of_ble_eq_true rfl) rfl ?_
          refine c200_1 (B := B)  a1 (by omega) (hJ.up (by omega)) (by omega) (by omega) (fun v508 hv508 hFv508 => ?_)
          show X (EE s) d 196 77 [(0, zr 4 40), (1, zi a1)] [zi v508] m _
          refine X.istore_n 78 [(0, zr 4 40), (1, zi a1), (2, zi v508)] i196_77 rfl rfl rfl ?_
          refine X.iload_n 79 i196_78 rfl rfl rfl ?_
          refine X.iconst 80 i196_79 rfl rfl (by decide) ?_
          have hK516 : ∀ (v : Int) , ((-10000000000) ≤ v ∧ v ≤ 1000000) → (if v508 = (-1) then
              ((-10000000000))
              else
              (zn (f168_1 0 v508 m) fun v512 =>
              v512)) = v → X (EE s) d 196 101 [] [zl v] m Q := by
            intro v513 hv513 hT517
            refine X.retl i196_101 rfl t196 ?_
            exact hQ v513 (by first | trivial | omega) (Eq.trans (if_pos h501) (Eq.trans (if_pos h502) (Eq.trans (if_pos h503) (Eq.trans (if_pos h504) (Eq.trans (zn_eq hFv508.symm) (Eq.trans (zn_eq hT517.symm) rfl)))))) 
          refine X.icmpne 89 83 i196_80 rfl rfl rfl (fun h509 => ?_) (fun h509 => ?_)
          · refine X.cut [(0, zr 4 40), (2, zi v508)] i196_89 rfl ?_
            refine X.aload_n 90 i196_89 rfl rfl rfl ?_
            refine X.getF 93 i196_90 rfl rfl (by decide) rfl rfl ?_
            refine X.getR 96 i196_93 rfl rfl (by decide) rfl rfl ?_
            refine X.iload_n 97 i196_96 rfl rfl rfl ?_
            refine X.callv 100 [zi v508] [] [(0, zr 0 9), (1, zi v508)] i196_97 rfl (by decide) rfl rfl (by omega) rfl rfl (by decide) rfl t168 (Nat.le_of_ble_eq_true rfl) (Nat.le_of_ble_eq_true rfl) rfl ?_
            refine c168_4 (B := B) 0 v508 (by omega) (hJ.up (by omega)) (by omega) (by omega) (fun v512 hv512 hFv512 => ?_)
            show X (EE s) d 196 100 [(0, zr 4 40), (2, zi v508)] [zi v512] m _
            refine X.i2l 101 i196_100 rfl rfl ?_
            refine X.cut [] i196_101 rfl ?_
            exact hK516 v512 (by first | trivial | omega) (Eq.trans (if_neg h509) (Eq.trans (zn_eq hFv512.symm) rfl))
          · refine X.ldc2 86 i196_83 rfl rfl (by decide) ?_
            refine X.goto 101 i196_86 rfl rfl ?_
            refine X.cut [] i196_101 rfl ?_
            exact hK516 (-10000000000) (by first | trivial | omega) (Eq.trans (if_pos h509) rfl)
        · refine X.iload_n 39 i196_38 rfl rfl rfl ?_
          refine X.bipush 41 i196_39 rfl rfl (by decide) ?_
          refine X.icmpgt 61 44 i196_41 rfl rfl rfl (fun h518 => ?_) (fun h518 => ?_)
          · refine X.iload_n 62 i196_61 rfl rfl rfl ?_
            refine X.bipush 64 i196_62 rfl rfl (by decide) ?_
            refine X.icmplt 73 67 i196_64 rfl rfl rfl (fun h519 => ?_) (fun h519 => ?_)
            · refine X.iload_n 74 i196_73 rfl rfl rfl ?_
              refine X.calls 77 [zi a1] [] [(0, zi a1)] i196_74 (by decide) rfl rfl (by omega) rfl rfl t200 (Nat.le_of_ble_eq_true rfl) (Nat.le_of_ble_eq_true rfl) rfl ?_
              refine c200_1 (B := B)  a1 (by omega) (hJ.up (by omega)) (by omega) (by omega) (fun v522 hv522 hFv522 => ?_)
              show X (EE s) d 196 77 [(0, zr 4 40), (1, zi a1)] [zi v522] m _
              refine X.istore_n 78 [(0, zr 4 40), (1, zi a1), (2, zi v522)] i196_77 rfl rfl rfl ?_
              refine X.iload_n 79 i196_78 rfl rfl rfl ?_
              refine X.iconst 80 i196_79 rfl rfl (by decide) ?_
              have hK530 : ∀ (v : Int) , ((-10000000000) ≤ v ∧ v ≤ 1000000) → (if v522 = (-1) then
                  ((-10000000000))
                  else
                  (zn (f168_1 0 v522 m) fun v526 =>
                  v526)) = v → X (EE s) d 196 101 [] [zl v] m Q := by
                intro v527 hv527 hT531
                refine X.retl i196_101 rfl t196 ?_
                exact hQ v527 (by first | trivial | omega) (Eq.trans (if_pos h501) (Eq.trans (if_pos h502) (Eq.trans (if_pos h503) (Eq.trans (if_neg h504) (Eq.trans (if_pos h518) (Eq.trans (if_pos h519) (Eq.trans (zn_eq hFv522.symm) (Eq.trans (zn_eq hT531.symm) rfl)))))))) 
              refine X.icmpne 89 83 i196_80 rfl rfl rfl (fun h523 => ?_) (fun h523 => ?_)
              · refine X.cut [(0, zr 4 40), (2, zi v522)] i196_89 rfl ?_
                refine X.aload_n 90 i196_89 rfl rfl rfl ?_
                refine X.getF 93 i196_90 rfl rfl (by decide) rfl rfl ?_
                refine X.getR 96 i196_93 rfl rfl (by decide) rfl rfl ?_
                refine X.iload_n 97 i196_96 rfl rfl rfl ?_
                refine X.callv 100 [zi v522] [] [(0, zr 0 9), (1, zi v522)] i196_97 rfl (by decide) rfl rfl (by omega) rfl rfl (by decide) rfl t168 (Nat.le_of_ble_eq_true rfl) (Nat.le_of_ble_eq_true rfl) rfl ?_
                refine c168_4 (B := B) 0 v522 (by omega) (hJ.up (by omega)) (by omega) (by omega) (fun v526 hv526 hFv526 => ?_)
                show X (EE s) d 196 100 [(0, zr 4 40), (2, zi v522)] [zi v526] m _
                refine X.i2l 101 i196_100 rfl rfl ?_
                refine X.cut [] i196_101 rfl ?_
                exact hK530 v526 (by first | trivial | omega) (Eq.trans (if_neg h523) (Eq.trans (zn_eq hFv526.symm) rfl))
              · refine X.ldc2 86 i196_83 rfl rfl (by decide) ?_
                refine X.goto 101 i196_86 rfl rfl ?_
                refine X.cut [] i196_101 rfl ?_
                exact hK530 (-10000000000) (by first | trivial | omega) (Eq.trans (if_pos h523) rfl)
            · refine X.aload_n 68 i196_67 rfl rfl rfl ?_
              refine X.iload_n 69 i196_68 rfl rfl rfl ?_
              refine X.callv 72 [zi a1] [] [(0, zr 4 40), (1, zi a1)] i196_69 rfl (by decide) rfl rfl (by omega) rfl rfl (by decide) rfl t199 (Nat.le_of_ble_eq_true rfl) (Nat.le_of_ble_eq_true rfl) rfl ?_
              refine c199_1 (B := B)  a1 (by omega) (hJ.up (by omega)) (by omega) (by omega) (fun v534 hv534 hFv534 => ?_)
              show X (EE s) d 196 72 [(0, zr 4 40), (1, zi a1)] [zl v534] m _
              refine X.retl i196_72 rfl t196 ?_
              exact hQ v534 (by first | trivial | omega) (Eq.trans (if_pos h501) (Eq.trans (if_pos h502) (Eq.trans (if_pos h503) (Eq.trans (if_neg h504) (Eq.trans (if_pos h518) (Eq.trans (if_neg h519) (Eq.trans (zn_eq hFv534.symm) rfl))))))) 
          · refine X.aload_n 45 i196_44 rfl rfl rfl ?_
            refine X.getF 48 i196_45 rfl rfl (by decide) rfl rfl ?_
            refine X.getR 51 i196_48 rfl rfl (by decide) rfl rfl ?_
            refine X.getR 54 i196_51 rfl rfl (by decide) rfl rfl ?_
            refine X.iload_n 55 i196_54 rfl rfl rfl ?_
            refine X.bipush 57 i196_55 rfl rfl (by decide) ?_
            refine X.isub 58 i196_57 rfl rfl (by omega) ?_
            refine X.iald 59 i196_58 rfl rfl (by decide) rfl (by omega) ?_
            have h535 := r15_0 hJ 0 (i := (a1 - 40)) (by omega)
            refine X.i2l 60 i196_59 rfl rfl ?_
            refine X.retl i196_60 rfl t196 ?_
            exact hQ (m 0 15 (a1 - 40)) (by first | trivial | omega) (Eq.trans (if_pos h501) (Eq.trans (if_pos h502) (Eq.trans (if_pos h503) (Eq.trans (if_neg h504) (Eq.trans (if_neg h518) rfl))))) 
      · refine X.aload_n 27 i196_26 rfl rfl rfl ?_
        refine X.iload_n 28 i196_27 rfl rfl rfl ?_
        refine X.callv 31 [zi a1] [] [(0, zr 4 40), (1, zi a1)] i196_28 rfl (by decide) rfl rfl (by omega) rfl rfl (by decide) rfl t198 (Nat.le_of_ble_eq_true rfl) (Nat.le_of_ble_eq_true rfl) rfl ?_
        refine c198_1 (B := B)  a1 (by omega) (hJ.up (by omega)) (by omega) (by omega) (fun v538 hv538 hFv538 => ?_)
        show X (EE s) d 196 31 [(0, zr 4 40), (1, zi a1)] [zl v538] m _
        refine X.retl i196_31 rfl t196 ?_
        exact hQ v538 (by first | trivial | omega) (Eq.trans (if_pos h501) (Eq.trans (if_pos h502) (Eq.trans (if_neg h503) (Eq.trans (zn_eq hFv538.symm) rfl)))) 
    · refine X.aload_n 15 i196_14 rfl rfl rfl ?_
      refine X.iload_n 16 i196_15 rfl rfl rfl ?_
      refine X.callv 19 [zi a1] [] [(0, zr 4 40), (1, zi a1)] i196_16 rfl (by decide) rfl rfl (by omega) rfl rfl (by decide) rfl t197 (Nat.le_of_ble_eq_true rfl) (Nat.le_of_ble_eq_true rfl) rfl ?_
      refine c197_1 (B := B)  a1 (by omega) (hJ.up (by omega)) (by omega) (by omega) (fun v541 hv541 hFv541 => ?_)
      show X (EE s) d 196 19 [(0, zr 4 40), (1, zi a1)] [zl v541] m _
      refine X.retl i196_19 rfl t196 ?_
      exact hQ v541 (by first | trivial | omega) (Eq.trans (if_pos h501) (Eq.trans (if_neg h502) (Eq.trans (zn_eq hFv541.symm) rfl))) 
  · refine X.ldc2 7 i196_4 rfl rfl (by decide) ?_
    refine X.retl i196_7 rfl t196 ?_
    exact hQ (-10000000000) (by first | trivial | omega) (Eq.trans (if_neg h501) rfl) 
end
section
-- WorkMeterModel.look
noncomputable def f315_1 (a1 : Int) (m : zM) : Int :=
  if a1 < 30 then
  (if a1 < 20 then
  (if a1 = 0 then
  ((m 4 45 0))
  else
  (if a1 = 1 then
  (zn (f217_1 (m 4 45 0) m) fun v519 =>
  v519)
  else
  (if a1 = 2 then
  ((m 4 45 10))
  else
  (if a1 = 3 then
  ((m 4 45 11))
  else
  (if a1 = 4 then
  ((m 4 45 12))
  else
  (if a1 = 5 then
  ((m 4 45 13))
  else
  (if a1 = 6 then
  ((m 4 45 14))
  else
  (if a1 = 7 then
  ((m 4 45 15))
  else
  (if a1 = 8 then
  (zn (f231_1 m) fun v532 =>
  v532)
  else
  (if a1 = 9 then
  ((m 4 45 16))
  else
  (if a1 = 10 then
  ((m 4 45 17))
  else
  (if a1 = 11 then
  ((m 4 45 18))
  else
  (if a1 = 12 then
  ((m 4 45 1))
  else
  (if a1 = 13 then
  ((m 4 45 2))
  else
  (if a1 = 14 then
  ((m 4 45 3))
  else
  (if a1 = 15 then
  (zn (f249_1 m) fun v548 =>
  v548)
  else
  (if a1 = 16 then
  ((-10000000000))
  else
  (if a1 = 17 then
  ((-10000000000))
  else
  (if a1 = 18 then
  ((-10000000000))
  else
  (if a1 = 19 then
  ((-10000000000))
  else
  ((-10000000000))))))))))))))))))))))
  else
  (if a1 ≤ 25 then
  ((m 4 45 ((4 + a1) - 20)))
  else
  (if a1 = 26 then
  ((-10000000000))
  else
  (if a1 = 27 then
  ((-10000000000))
  else
  (if a1 = 28 then
  ((-10000000000))
  else
  ((-10000000000)))))))
  else
  (if a1 ≤ 33 then
  ((m 4 45 ((28 + a1) - 30)))
  else
  (if a1 < 40 then
  (if a1 = 34 then
  ((-10000000000))
  else
  (if a1 = 35 then
  ((-10000000000))
  else
  (if a1 = 36 then
  ((-10000000000))
  else
  (if a1 = 37 then
  ((-10000000000))
  else
  (if a1 = 38 then
  ((-10000000000))
  else
  ((-10000000000)))))))
  else
  (if a1 ≤ 43 then
  ((m 4 45 ((391 + a1) - 40)))
  else
  (if a1 < 50 then
  (if a1 = 44 then
  ((-10000000000))
  else
  (if a1 = 45 then
  ((-10000000000))
  else
  (if a1 = 46 then
  ((-10000000000))
  else
  (if a1 = 47 then
  ((-10000000000))
  else
  (if a1 = 48 then
  ((-10000000000))
  else
  ((-10000000000)))))))
  else
  (if a1 ≤ 52 then
  ((m 4 45 ((1611 + a1) - 50)))
  else
  (if a1 = 53 then
  ((m 4 45 1614))
  else
  (if a1 = 54 then
  ((m 4 45 1616))
  else
  (if a1 = 55 then
  (zn (f278_1 m) fun v612 =>
  v612)
  else
  (if a1 = 56 then
  ((m 4 45 1618))
  else
  (if a1 = 57 then
  ((m 4 44 5))
  else
  ((-10000000000))))))))))))
-- WorkMeterModel.look
theorem c315_1 {s : Nat × (Nat → Int32)} {S : zS} {m0 m : zM} {B : Int} {d : Nat} {Q : Option zV → zM → Prop} (a1 : Int) (hd : 16 ≤ d) (hJ : J S m0 B m) (hB : B + 0 ≤ 1000000000) (ha1 : (-2147483648) ≤ a1 ∧ a1 ≤ 2147483647) (hQ : ∀ (v : Int), (True) → f315_1 a1 m = v → Q (some (zl v)) m) : X (EE s) d 315 0 [(0, zr 4 44), (1, zi a1)] [] m Q := by
  refine X.iload_n 1 i315_0 rfl rfl rfl ?_
  refine X.i2l 2 i315_1 rfl rfl ?_
  refine X.ldc2 5 i315_2 rfl rfl (by decide) ?_
  refine X.ldc2 8 i315_5 rfl rfl (by decide) ?_
  refine X.calls 11 [zl a1, zl 30, zl 33] [] [(0, zl a1), (2, zl 30), (4, zl 33)] i315_8 (by decide) rfl rfl (by omega) rfl rfl t204 (Nat.le_of_ble_eq_true rfl) (Nat.le_of_ble_eq_true rfl) rfl ?_
  refine X.lload_n 1 i204_0 rfl rfl rfl ?_
  refine X.lload_n 2 i204_1 rfl rfl rfl ?_
  refine X.lcmp 3 i204_2 rfl rfl (fun z501 hz501 => ?_)
  refine X.iflt 17 6 i204_3 rfl rfl rfl (fun h502 => ?_) (fun h502 => ?_)
  · have h502c : a1 < 30 := by omega
    clear h502 hz501
    refine X.cut [] i204_17 rfl ?_
    refine X.iconst 18 i204_17 rfl rfl (by decide) ?_
    refine X.retz i204_18 rfl t204 (by omega) ?_
    show X (EE s) d 315 11 [(0, zr 4 44), (1, zi a1)] [zi 0] m _
    refine X.ifeq 27 14 i315_11 rfl rfl rfl (fun h503 => ?_) (fun h503 => (by exfalso; omega))
    refine X.iload_n 28 i315_27 rfl rfl rfl ?_
    refine X.i2l 29 i315_28 rfl rfl ?_
    refine X.ldc2 32 i315_29 rfl rfl (by decide) ?_
    refine X.ldc2 35 i315_32 rfl rfl (by decide) ?_
    refine X.calls 38 [zl a1, zl 40, zl 43] [] [(0, zl a1), (2, zl 40), (4, zl 43)] i315_35 (by decide) rfl rfl (by omega) rfl rfl t204 (Nat.le_of_ble_eq_true rfl) (Nat.le_of_ble_eq_true rfl) rfl ?_
    refine X.lload_n 1 i204_0 rfl rfl rfl ?_
    refine X.lload_n 2 i204_1 rfl rfl rfl ?_
    refine X.lcmp 3 i204_2 rfl rfl (fun z504 hz504 => ?_)
    refine X.iflt 17 6 i204_3 rfl rfl rfl (fun h505 => ?_) (fun h505 => (by exfalso; omega))
    have h505c : a1 < 40 := by omega
    clear h505 hz504
    refine X.cut [] i204_17 rfl ?_
    refine X.iconst 18 i204_17 rfl rfl (by decide) ?_
    refine X.retz i204_18 rfl t204 (by omega) ?_
    show X (EE s) d 315 38 [(0, zr 4 44), (1, zi a1)] [zi 0] m _
    refine X.ifeq 55 41 i315_38 rfl rfl rfl (fun h506 => ?_) (fun h506 => (by exfalso; omega))
    refine X.iload_n 56 i315_55 rfl rfl rfl ?_
    refine X.i2l 57 i315_56 rfl rfl ?_
    refine X.ldc2 60 i315_57 rfl rfl (by decide) ?_
    refine X.ldc2 63 i315_60 rfl rfl (by decide) ?_
    refine X.calls 66 [zl a1, zl 20, zl 25] [] [(0, zl a1), (2, zl 20), (4, zl 25)] i315_63 (by decide) rfl rfl (by omega) rfl rfl t204 (Nat.le_of_ble_eq_true rfl) (Nat.le_of_ble_eq_true rfl) rfl ?_
    refine X.lload_n 1 i204_0 rfl rfl rfl ?_
    refine X.lload_n 2 i204_1 rfl rfl rfl ?_
    refine X.lcmp 3 i204_2 rfl rfl (fun z507 hz507 => ?_)
    refine X.iflt 17 6 i204_3 rfl rfl rfl (fun h508 => ?_) (fun h508 => ?_)
    · have h508c : a1 < 20 := by omega
      clear h508 hz507
      refine X.cut [] i204_17 rfl ?_
      refine X.iconst 18 i204_17 rfl rfl (by decide) ?_
      refine X.retz i204_18 rfl t204 (by omega) ?_
      show X (EE s) d 315 66 [(0, zr 4 44), (1, zi a1)] [zi 0] m _
      refine X.ifeq 81 69 i315_66 rfl rfl rfl (fun h509 => ?_) (fun h509 => (by exfalso; omega))
      refine X.iload_n 82 i315_81 rfl rfl rfl ?_
      refine X.i2l 83 i315_82 rfl rfl ?_
      refine X.ldc2 86 i315_83 rfl rfl (by decide) ?_
      refine X.ldc2 89 i315_86 rfl rfl (by decide) ?_
      refine X.calls 92 [zl a1, zl 50, zl 52] [] [(0, zl a1), (2, zl 50), (4, zl 52)] i315_89 (by decide) rfl rfl (by omega) rfl rfl t204 (Nat.le_of_ble_eq_true rfl) (Nat.le_of_ble_eq_true rfl) rfl ?_
      refine X.lload_n 1 i204_0 rfl rfl rfl ?_
      refine X.lload_n 2 i204_1 rfl rfl rfl ?_
      refine X.lcmp 3 i204_2 rfl rfl (fun z510 hz510 => ?_)
      refine X.iflt 17 6 i204_3 rfl rfl rfl (fun h511 => ?_) (fun h511 => (by exfalso; omega))
      have h511c : a1 < 50 := by omega
      clear h511 hz510
      refine X.cut [] i204_17 rfl ?_
      refine X.iconst 18 i204_17 rfl rfl (by decide) ?_
      refine X.retz i204_18 rfl t204 (by omega) ?_
      show X (EE s) d 315 92 [(0, zr 4 44), (1, zi a1)] [zi 0] m _
      refine X.ifeq 109 95 i315_92 rfl rfl rfl (fun h512 => ?_) (fun h512 => (by exfalso; omega))
      refine X.iload_n 110 i315_109 rfl rfl rfl ?_
      by_cases h513 : a1 = 0
      · refine X.tsIn 356 0 i315_110 rfl (by omega) rfl rfl ?_
        refine X.cut [(0, zr 4 44)] i315_356 rfl ?_
        refine X.aload_n 357 i315_356 rfl rfl rfl ?_
        refine X.getF 360 i315_357 rfl rfl (by decide) rfl rfl ?_
        refine X.iconst 361 i315_360 rfl rfl (by decide) ?_
        refine X.lald 362 i315_361 rfl rfl (by decide) rfl (by omega) ?_
        have h514 := r45_0 hJ 4
        refine X.retl i315_362 rfl t315 ?_
        exact hQ (m 4 45 0) (by first | trivial | omega) (Eq.trans (if_pos h502c) (Eq.trans (if_pos h508c) (Eq.trans (if_pos h513) rfl))) 
      by_cases h515 : a1 = 1
      · refine X.tsIn 363 1 i315_110 rfl (by omega) rfl rfl ?_
        refine X.cut [(0, zr 4 44)] i315_363 rfl ?_
        refine X.aload_n 364 i315_363 rfl rfl rfl ?_
        refine X.aload_n 365 i315_364 rfl rfl rfl ?_
        refine X.getF 368 i315_365 rfl rfl (by decide) rfl rfl ?_
        refine X.iconst 369 i315_368 rfl rfl (by decide) ?_
        refine X.lald 370 i315_369 rfl rfl (by decide) rfl (by omega) ?_
        have h516 := r45_0 hJ 4
        refine X.l2i 371 i315_370 rfl rfl (by omega) ?_
        refine X.callv 374 [zi (m 4 45 0)] [] [(0, zr 4 44), (1, zi (m 4 45 0))] i315_371 rfl (by decide) rfl rfl (by omega) rfl rfl (by decide) rfl t217 (Nat.le_of_ble_eq_true rfl) (Nat.le_of_ble_eq_true rfl) rfl ?_
        refine c217_1 (B := B)  (m 4 45 0) (by omega) (hJ.up (by omega)) (by omega) (by omega) (fun v519 hv519 hFv519 => ?_)
        show X (EE s) d 315 374 [(0, zr 4 44)] [zi v519] m _
        refine X.i2l 375 i315_374 rfl rfl ?_
        refine X.retl i315_375 rfl t315 ?_
        exact hQ v519 (by first | trivial | omega) (Eq.trans (if_pos h502c) (Eq.trans (if_pos h508c) (Eq.trans (if_neg h513) (Eq.trans (if_pos h515) (Eq.trans (zn_eq hFv519.symm) rfl))))) 
      by_cases h520 : a1 = 2
      · refine X.tsIn 376 2 i315_110 rfl (by omega) rfl rfl ?_
        refine X.cut [(0, zr 4 44)] i315_376 rfl ?_
        refine X.aload_n 377 i315_376 rfl rfl rfl ?_
        refine X.getF 380 i315_377 rfl rfl (by decide) rfl rfl ?_
        refine X.bipush 382 i315_380 rfl rfl (by decide) ?_
        refine X.lald 383 i315_382 rfl rfl (by decide) rfl (by omega) ?_
        refine X.retl i315_383 rfl t315 ?_
        exact hQ (m 4 45 10) (by first | trivial | omega) (Eq.trans (if_pos h502c) (Eq.trans (if_pos h508c) (Eq.trans (if_neg h513) (Eq.trans (if_neg h515) (Eq.trans (if_pos h520) rfl))))) 
      by_cases h521 : a1 = 3
      · refine X.tsIn 384 3 i315_110 rfl (by omega) rfl rfl ?_
        refine X.cut [(0, zr 4 44)] i315_384 rfl ?_
        refine X.aload_n 385 i315_384 rfl rfl rfl ?_
        refine X.getF 388 i315_385 rfl rfl (by decide) rfl rfl ?_
        refine X.bipush 390 i315_388 rfl rfl (by decide) ?_
        refine X.lald 391 i315_390 rfl rfl (by decide) rfl (by omega) ?_
        have h522 := r45_11 hJ 4
        refine X.retl i315_391 rfl t315 ?_
        exact hQ (m 4 45 11) (by first | trivial | omega) (Eq.trans (if_pos h502c) (Eq.trans (if_pos h508c) (Eq.trans (if_neg h513) (Eq.trans (if_neg h515) (Eq.trans (if_neg h520) (Eq.trans (if_pos h521) rfl)))))) 
      by_cases h523 : a1 = 4
      · refine X.tsIn 392 4 i315_110 rfl (by omega) rfl rfl ?_
        refine X.cut [(0, zr 4 44)] i315_392 rfl ?_
        refine X.aload_n 393 i315_392 rfl rfl rfl ?_
        refine X.getF 396 i315_393 rfl rfl (by decide) rfl rfl ?_
        refine X.bipush 398 i315_396 rfl rfl (by decide) ?_
        refine X.lald 399 i315_398 rfl rfl (by decide) rfl (by omega) ?_
        have h524 := r45_12 hJ 4
        refine X.retl i315_399 rfl t315 ?_
        exact hQ (m 4 45 12) (by first | trivial | omega) (Eq.trans (if_pos h502c) (Eq.trans (if_pos h508c) (Eq.trans (if_neg h513) (Eq.trans (if_neg h515) (Eq.trans (if_neg h520) (Eq.trans (if_neg h521) (Eq.trans (if_pos h523) rfl))))))) 
      by_cases h525 : a1 = 5
      · refine X.tsIn 400 5 i315_110 rfl (by omega) rfl rfl ?_
        refine X.cut [(0, zr 4 44)] i315_400 rfl ?_
        refine X.aload_n 401 i315_400 rfl rfl rfl ?_
        refine X.getF 404 i315_401 rfl rfl (by decide) rfl rfl ?_
        refine X.bipush 406 i315_404 rfl rfl (by decide) ?_
        refine X.lald 407 i315_406 rfl rfl (by decide) rfl (by omega) ?_
        have h526 := r45_13 hJ 4
        refine X.retl i315_407 rfl t315 ?_
        exact hQ (m 4 45 13) (by first | trivial | omega) (Eq.trans (if_pos h502c) (Eq.trans (if_pos h508c) (Eq.trans (if_neg h513) (Eq.trans (if_neg h515) (Eq.trans (if_neg h520) (Eq.trans (if_neg h521) (Eq.trans (if_neg h523) (Eq.trans (if_pos h525) rfl)))))))) 
      by_cases h527 : a1 = 6
      · refine X.tsIn 408 6 i315_110 rfl (by omega) rfl rfl ?_
        refine X.cut [(0, zr 4 44)] i315_408 rfl ?_
        refine X.aload_n 409 i315_408 rfl rfl rfl ?_
        refine X.getF 412 i315_409 rfl rfl (by decide) rfl rfl ?_
        refine X.bipush 414 i315_412 rfl rfl (by decide) ?_
        refine X.lald 415 i315_414 rfl rfl (by decide) rfl (by omega) ?_
        refine X.retl i315_415 rfl t315 ?_
        exact hQ (m 4 45 14) (by first | trivial | omega) (Eq.trans (if_pos h502c) (Eq.trans (if_pos h508c) (Eq.trans (if_neg h513) (Eq.trans (if_neg h515) (Eq.trans (if_neg h520) (Eq.trans (if_neg h521) (Eq.trans (if_neg h523) (Eq.trans (if_neg h525) (Eq.trans (if_pos h527) rfl))))))))) 
      by_cases h528 : a1 = 7
      · refine X.tsIn 416 7 i315_110 rfl (by omega) rfl rfl ?_
        refine X.cut [(0, zr 4 44)] i315_416 rfl ?_
        refine X.aload_n 417 i315_416 rfl rfl rfl ?_
        refine X.getF 420 i315_417 rfl rfl (by decide) rfl rfl ?_
        refine X.bipush 422 i315_420 rfl rfl (by decide) ?_
        refine X.lald 423 i315_422 rfl rfl (by decide) rfl (by omega) ?_
        refine X.retl i315_423 rfl t315 ?_
        exact hQ (m 4 45 15) (by first | trivial | omega) (Eq.trans (if_pos h502c) (Eq.trans (if_pos h508c) (Eq.trans (if_neg h513) (Eq.trans (if_neg h515) (Eq.trans (if_neg h520) (Eq.trans (if_neg h521) (Eq.trans (if_neg h523) (Eq.trans (if_neg h525) (Eq.trans (if_neg h527) (Eq.trans (if_pos h528) rfl)))))))))) 
      by_cases h529 : a1 = 8
      · refine X.tsIn 424 8 i315_110 rfl (by omega) rfl rfl ?_
        refine X.cut [(0, zr 4 44)] i315_424 rfl ?_
        refine X.aload_n 425 i315_424 rfl rfl rfl ?_
        refine X.callv 428 [] [] [(0, zr 4 44)] i315_425 rfl (by decide) rfl rfl (by omega) rfl rfl (by decide) rfl t231 (Nat.le_of_ble_eq_true rfl) (Nat.le_of_ble_eq_true rfl) rfl ?_
        refine c231_1 (B := B)   (by omega) (hJ.up (by omega)) (by omega)  (fun v532 hv532 hFv532 => ?_)
        show X (EE s) d 315 428 [(0, zr 4 44)] [zl v532] m _
        refine X.retl i315_428 rfl t315 ?_
        exact hQ v532 (by first | trivial | omega) (Eq.trans (if_pos h502c) (Eq.trans (if_pos h508c) (Eq.trans (if_neg h513) (Eq.trans (if_neg h515) (Eq.trans (if_neg h520) (Eq.trans (if_neg h521) (Eq.trans (if_neg h523) (Eq.trans (if_neg h525) (Eq.trans (if_neg h527) (Eq.trans (if_neg h528) (Eq.trans (if_pos h529) (Eq.trans (zn_eq hFv532.symm) rfl)))))))))))) 
      by_cases h533 : a1 = 9
      · refine X.tsIn 429 9 i315_110 rfl (by omega) rfl rfl ?_
        refine X.cut [(0, zr 4 44)] i315_429 rfl ?_
        refine X.aload_n 430 i315_429 rfl rfl rfl ?_
        refine X.getF 433 i315_430 rfl rfl (by decide) rfl rfl ?_
        refine X.bipush 435 i315_433 rfl rfl (by decide) ?_
        refine X.lald 436 i315_435 rfl rfl (by decide) rfl (by omega) ?_
        have h534 := r45_16 hJ 4
        refine X.retl i315_436 rfl t315 ?_
        exact hQ (m 4 45 16) (by first | trivial | omega) (Eq.trans (if_pos h502c) (Eq.trans (if_pos h508c) (Eq.trans (if_neg h513) (Eq.trans (if_neg h515) (Eq.trans (if_neg h520) (Eq.trans (if_neg h521) (Eq.trans (if_neg h523) (Eq.trans (if_neg h525) (Eq.trans (if_neg h527) (Eq.trans (if_neg h528) (Eq.trans (if_neg h529) (Eq.trans (if_pos h533) rfl)))))))))))) 
      by_cases h535 : a1 = 10
      · refine X.tsIn 437 10 i315_110 rfl (by omega) rfl rfl ?_
        refine X.cut [(0, zr 4 44)] i315_437 rfl ?_
        refine X.aload_n 438 i315_437 rfl rfl rfl ?_
        refine X.getF 441 i315_438 rfl rfl (by decide) rfl rfl ?_
        refine X.bipush 443 i315_441 rfl rfl (by decide) ?_
        refine X.lald 444 i315_443 rfl rfl (by decide) rfl (by omega) ?_
        have h536 := r45_17 hJ 4
        refine X.retl i315_444 rfl t315 ?_
        exact hQ (m 4 45 17) (by first | trivial | omega) (Eq.trans (if_pos h502c) (Eq.trans (if_pos h508c) (Eq.trans (if_neg h513) (Eq.trans (if_neg h515) (Eq.trans (if_neg h520) (Eq.trans (if_neg h521) (Eq.trans (if_neg h523) (Eq.trans (if_neg h525) (Eq.trans (if_neg h527) (Eq.trans (if_neg h528) (Eq.trans (if_neg h529) (Eq.trans (if_neg h533) (Eq.trans (if_pos h535) rfl))))))))))))) 
      by_cases h537 : a1 = 11
      · refine X.tsIn 445 11 i315_110 rfl (by omega) rfl rfl ?_
        refine X.cut [(0, zr 4 44)] i315_445 rfl ?_
        refine X.aload_n 446 i315_445 rfl rfl rfl ?_
        refine X.getF 449 i315_446 rfl rfl (by decide) rfl rfl ?_
        refine X.bipush 451 i315_449 rfl rfl (by decide) ?_
        refine X.lald 452 i315_451 rfl rfl (by decide) rfl (by omega) ?_
        have h538 := r45_18 hJ 4
        refine X.retl i315_452 rfl t315 ?_
        exact hQ (m 4 45 18) (by first | trivial | omega) (Eq.trans (if_pos h502c) (Eq.trans (if_pos h508c) (Eq.trans (if_neg h513) (Eq.trans (if_neg h515) (Eq.trans (if_neg h520) (Eq.trans (if_neg h521) (Eq.trans (if_neg h523) (Eq.trans (if_neg h525) (Eq.trans (if_neg h527) (Eq.trans (if_neg h528) (Eq.trans (if_neg h529) (Eq.trans (if_neg h533) (Eq.trans (if_neg h535) (Eq.trans (if_pos h537) rfl)))))))))))))) 
      by_cases h539 : a1 = 12
      · refine X.tsIn 453 12 i315_110 rfl (by omega) rfl rfl ?_
        refine X.cut [(0, zr 4 44)] i315_453 rfl ?_
        refine X.aload_n 454 i315_453 rfl rfl rfl ?_
        refine X.getF 457 i315_454 rfl rfl (by decide) rfl rfl ?_
        refine X.iconst 458 i315_457 rfl rfl (by decide) ?_
        refine X.lald 459 i315_458 rfl rfl (by decide) rfl (by omega) ?_
        have h540 := r45_1 hJ 4
        refine X.retl i315_459 rfl t315 ?_
        exact hQ (m 4 45 1) (by first | trivial | omega) (Eq.trans (if_pos h502c) (Eq.trans (if_pos h508c) (Eq.trans (if_neg h513) (Eq.trans (if_neg h515) (Eq.trans (if_neg h520) (Eq.trans (if_neg h521) (Eq.trans (if_neg h523) (Eq.trans (if_neg h525) (Eq.trans (if_neg h527) (Eq.trans (if_neg h528) (Eq.trans (if_neg h529) (Eq.trans (if_neg h533) (Eq.trans (if_neg h535) (Eq.trans (if_neg h537) (Eq.trans (if_pos h539) rfl))))))))))))))) 
      by_cases h541 : a1 = 13
      · refine X.tsIn 460 13 i315_110 rfl (by omega) rfl rfl ?_
        refine X.cut [(0, zr 4 44)] i315_460 rfl ?_
        refine X.aload_n 461 i315_460 rfl rfl rfl ?_
        refine X.getF 464 i315_461 rfl rfl (by decide) rfl rfl ?_
        refine X.iconst 465 i315_464 rfl rfl (by decide) ?_
        refine X.lald 466 i315_465 rfl rfl (by decide) rfl (by omega) ?_
        have h542 := r45_2 hJ 4
        refine X.retl i315_466 rfl t315 ?_
        exact hQ (m 4 45 2) (by first | trivial | omega) (Eq.trans (if_pos h502c) (Eq.trans (if_pos h508c) (Eq.trans (if_neg h513) (Eq.trans (if_neg h515) (Eq.trans (if_neg h520) (Eq.trans (if_neg h521) (Eq.trans (if_neg h523) (Eq.trans (if_neg h525) (Eq.trans (if_neg h527) (Eq.trans (if_neg h528) (Eq.trans (if_neg h529) (Eq.trans (if_neg h533) (Eq.trans (if_neg h535) (Eq.trans (if_neg h537) (Eq.trans (if_neg h539) (Eq.trans (if_pos h541) rfl)))))))))))))))) 
      by_cases h543 : a1 = 14
      · refine X.tsIn 467 14 i315_110 rfl (by omega) rfl rfl ?_
        refine X.cut [(0, zr 4 44)] i315_467 rfl ?_
        refine X.aload_n 468 i315_467 rfl rfl rfl ?_
        refine X.getF 471 i315_468 rfl rfl (by decide) rfl rfl ?_
        refine X.iconst 472 i315_471 rfl rfl (by decide) ?_
        refine X.lald 473 i315_472 rfl rfl (by decide) rfl (by omega) ?_
        have h544 := r45_3 hJ 4
        refine X.retl i315_473 rfl t315 ?_
        exact hQ (m 4 45 3) (by first | trivial | omega) (Eq.trans (if_pos h502c) (Eq.trans (if_pos h508c) (Eq.trans (if_neg h513) (Eq.trans (if_neg h515) (Eq.trans (if_neg h520) (Eq.trans (if_neg h521) (Eq.trans (if_neg h523) (Eq.trans (if_neg h525) (Eq.trans (if_neg h527) (Eq.trans (if_neg h528) (Eq.trans (if_neg h529) (Eq.trans (if_neg h533) (Eq.trans (if_neg h535) (Eq.trans (if_neg h537) (Eq.trans (if_neg h539) (Eq.trans (if_neg h541) (Eq.trans (if_pos h543) rfl))))))))))))))))) 
      by_cases h545 : a1 = 15
      · refine X.tsIn 474 15 i315_110 rfl (by omega) rfl rfl ?_
        refine X.cut [(0, zr 4 44)] i315_474 rfl ?_
        refine X.aload_n 475 i315_474 rfl rfl rfl ?_
        refine X.callv 478 [] [] [(0, zr 4 44)] i315_475 rfl (by decide) rfl rfl (by omega) rfl rfl (by decide) rfl t249 (Nat.le_of_ble_eq_true rfl) (Nat.le_of_ble_eq_true rfl) rfl ?_
        refine c249_1 (B := B)   (by omega) (hJ.up (by omega)) (by omega)  (fun v548 hv548 hFv548 => ?_)
        show X (EE s) d 315 478 [(0, zr 4 44)] [zi v548] m _
        refine X.i2l 479 i315_478 rfl rfl ?_
        refine X.retl i315_479 rfl t315 ?_
        exact hQ v548 (by first | trivial | omega) (Eq.trans (if_pos h502c) (Eq.trans (if_pos h508c) (Eq.trans (if_neg h513) (Eq.trans (if_neg h515) (Eq.trans (if_neg h520) (Eq.trans (if_neg h521) (Eq.trans (if_neg h523) (Eq.trans (if_neg h525) (Eq.trans (if_neg h527) (Eq.trans (if_neg h528) (Eq.trans (if_neg h529) (Eq.trans (if_neg h533) (Eq.trans (if_neg h535) (Eq.trans (if_neg h537) (Eq.trans (if_neg h539) (Eq.trans (if_neg h541) (Eq.trans (if_neg h543) (Eq.trans (if_pos h545) (Eq.trans (zn_eq hFv548.symm) rfl))))))))))))))))))) 
      by_cases h549 : a1 = 16
      · refine X.tsIn 518 16 i315_110 rfl (by omega) rfl rfl ?_
        refine X.cut [] i315_518 rfl ?_
        refine X.ldc2 521 i315_518 rfl rfl (by decide) ?_
        refine X.retl i315_521 rfl t315 ?_
        exact hQ (-10000000000) (by first | trivial | omega) (Eq.trans (if_pos h502c) (Eq.trans (if_pos h508c) (Eq.trans (if_neg h513) (Eq.trans (if_neg h515) (Eq.trans (if_neg h520) (Eq.trans (if_neg h521) (Eq.trans (if_neg h523) (Eq.trans (if_neg h525) (Eq.trans (if_neg h527) (Eq.trans (if_neg h528) (Eq.trans (if_neg h529) (Eq.trans (if_neg h533) (Eq.trans (if_neg h535) (Eq.trans (if_neg h537) (Eq.trans (if_neg h539) (Eq.trans (if_neg h541) (Eq.trans (if_neg h543) (Eq.trans (if_neg h545) (Eq.trans (if_pos h549) rfl))))))))))))))))))) 
      by_cases h550 : a1 = 17
      · refine X.tsIn 518 17 i315_110 rfl (by omega) rfl rfl ?_
        refine X.cut [] i315_518 rfl ?_
        refine X.ldc2 521 i315_518 rfl rfl (by decide) ?_
        refine X.retl i315_521 rfl t315 ?_
        exact hQ (-10000000000) (by first | trivial | omega) (Eq.trans (if_pos h502c) (Eq.trans (if_pos h508c) (Eq.trans (if_neg h513) (Eq.trans (if_neg h515) (Eq.trans (if_neg h520) (Eq.trans (if_neg h521) (Eq.trans (if_neg h523) (Eq.trans (if_neg h525) (Eq.trans (if_neg h527) (Eq.trans (if_neg h528) (Eq.trans (if_neg h529) (Eq.trans (if_neg h533) (Eq.trans (if_neg h535) (Eq.trans (if_neg h537) (Eq.trans (if_neg h539) (Eq.trans (if_neg h541) (Eq.trans (if_neg h543) (Eq.trans (if_neg h545) (Eq.trans (if_neg h549) (Eq.trans (if_pos h550) rfl)))))))))))))))))))) 
      by_cases h551 : a1 = 18
      · refine X.tsIn 518 18 i315_110 rfl (by omega) rfl rfl ?_
        refine X.cut [] i315_518 rfl ?_
        refine X.ldc2 521 i315_518 rfl rfl (by decide) ?_
        refine X.retl i315_521 rfl t315 ?_
        exact hQ (-10000000000) (by first | trivial | omega) (Eq.trans (if_pos h502c) (Eq.trans (if_pos h508c) (Eq.trans (if_neg h513) (Eq.trans (if_neg h515) (Eq.trans (if_neg h520) (Eq.trans (if_neg h521) (Eq.trans (if_neg h523) (Eq.trans (if_neg h525) (Eq.trans (if_neg h527) (Eq.trans (if_neg h528) (Eq.trans (if_neg h529) (Eq.trans (if_neg h533) (Eq.trans (if_neg h535) (Eq.trans (if_neg h537) (Eq.trans (if_neg h539) (Eq.trans (if_neg h541) (Eq.trans (if_neg h543) (Eq.trans (if_neg h545) (Eq.trans (if_neg h549) (Eq.trans (if_neg h550) (Eq.trans (if_pos h551) rfl))))))))))))))))))))) 
      by_cases h552 : a1 = 19
      · refine X.tsIn 518 19 i315_110 rfl (by omega) rfl rfl ?_
        refine X.cut [] i315_518 rfl ?_
        refine X.ldc2 521 i315_518 rfl rfl (by decide) ?_
        refine X.retl i315_521 rfl t315 ?_
        exact hQ (-10000000000) (by first | trivial | omega) (Eq.trans (if_pos h502c) (Eq.trans (if_pos h508c) (Eq.trans (if_neg h513) (Eq.trans (if_neg h515) (Eq.trans (if_neg h520) (Eq.trans (if_neg h521) (Eq.trans (if_neg h523) (Eq.trans (if_neg h525) (Eq.trans (if_neg h527) (Eq.trans (if_neg h528) (Eq.trans (if_neg h529) (Eq.trans (if_neg h533) (Eq.trans (if_neg h535) (Eq.trans (if_neg h537) (Eq.trans (if_neg h539) (Eq.trans (if_neg h541) (Eq.trans (if_neg h543) (Eq.trans (if_neg h545) (Eq.trans (if_neg h549) (Eq.trans (if_neg h550) (Eq.trans (if_neg h551) (Eq.trans (if_pos h552) rfl)))))))))))))))))))))) 
      refine X.tsOut 518 i315_110 rfl (by omega) rfl ?_
      refine X.cut [] i315_518 rfl ?_
      refine X.ldc2 521 i315_518 rfl rfl (by decide) ?_
      refine X.retl i315_521 rfl t315 ?_
      exact hQ (-10000000000) (by first | trivial | omega) (Eq.trans (if_pos h502c) (Eq.trans (if_pos h508c) (Eq.trans (if_neg h513) (Eq.trans (if_neg h515) (Eq.trans (if_neg h520) (Eq.trans (if_neg h521) (Eq.trans (if_neg h523) (Eq.trans (if_neg h525) (Eq.trans (if_neg h527) (Eq.trans (if_neg h528) (Eq.trans (if_neg h529) (Eq.trans (if_neg h533) (Eq.trans (if_neg h535) (Eq.trans (if_neg h537) (Eq.trans (if_neg h539) (Eq.trans (if_neg h541) (Eq.trans (if_neg h543) (Eq.trans (if_neg h545) (Eq.trans (if_neg h549) (Eq.trans (if_neg h550) (Eq.trans (if_neg h551) (Eq.trans (if_neg h552) rfl)))))))))))))))))))))) 
    · have h508c : ¬ a1 < 20 := by omega
      clear h508 hz507
      refine X.lload_n 7 i204_6 rfl rfl rfl ?_
      refine X.lload 9 i204_7 rfl rfl rfl ?_
      refine X.lcmp 10 i204_9 rfl rfl (fun z553 hz553 => ?_)
      refine X.ifgt 17 13 i204_10 rfl rfl rfl (fun h554 => ?_) (fun h554 => ?_)
      · have h554c : ¬ a1 ≤ 25 := by omega
        clear h554 hz553
        refine X.cut [] i204_17 rfl ?_
        refine X.iconst 18 i204_17 rfl rfl (by decide) ?_
        refine X.retz i204_18 rfl t204 (by omega) ?_
        show X (EE s) d 315 66 [(0, zr 4 44), (1, zi a1)] [zi 0] m _
        refine X.ifeq 81 69 i315_66 rfl rfl rfl (fun h555 => ?_) (fun h555 => (by exfalso; omega))
        refine X.iload_n 82 i315_81 rfl rfl rfl ?_
        refine X.i2l 83 i315_82 rfl rfl ?_
        refine X.ldc2 86 i315_83 rfl rfl (by decide) ?_
        refine X.ldc2 89 i315_86 rfl rfl (by decide) ?_
        refine X.calls 92 [zl a1, zl 50, zl 52] [] [(0, zl a1), (2, zl 50), (4, zl 52)] i315_89 (by decide) rfl rfl (by omega) rfl rfl t204 (Nat.le_of_ble_eq_true rfl) (Nat.le_of_ble_eq_true rfl) rfl ?_
        refine X.lload_n 1 i204_0 rfl rfl rfl ?_
        refine X.lload_n 2 i204_1 rfl rfl rfl ?_
        refine X.lcmp 3 i204_2 rfl rfl (fun z556 hz556 => ?_)
        refine X.iflt 17 6 i204_3 rfl rfl rfl (fun h557 => ?_) (fun h557 => (by exfalso; omega))
        have h557c : a1 < 50 := by omega
        clear h557 hz556
        refine X.cut [] i204_17 rfl ?_
        refine X.iconst 18 i204_17 rfl rfl (by decide) ?_
        refine X.retz i204_18 rfl t204 (by omega) ?_
        show X (EE s) d 315 92 [(0, zr 4 44), (1, zi a1)] [zi 0] m _
        refine X.ifeq 109 95 i315_92 rfl rfl rfl (fun h558 => ?_) (fun h558 => (by exfalso; omega))
        refine X.iload_n 110 i315_109 rfl rfl rfl ?_
        by_cases h559 : a1 = 26
        · refine X.tsIn 518 26 i315_110 rfl (by omega) rfl rfl ?_
          refine X.cut [] i315_518 rfl ?_
          refine X.ldc2 521 i315_518 rfl rfl (by decide) ?_
          refine X.retl i315_521 rfl t315 ?_
          exact hQ (-10000000000) (by first | trivial | omega) (Eq.trans (if_pos h502c) (Eq.trans (if_neg h508c) (Eq.trans (if_neg h554c) (Eq.trans (if_pos h559) rfl)))) 
        by_cases h560 : a1 = 27
        · refine X.tsIn 518 27 i315_110 rfl (by omega) rfl rfl ?_
          refine X.cut [] i315_518 rfl ?_
          refine X.ldc2 521 i315_518 rfl rfl (by decide) ?_
          refine X.retl i315_521 rfl t315 ?_
          exact hQ (-10000000000) (by first | trivial | omega) (Eq.trans (if_pos h502c) (Eq.trans (if_neg h508c) (Eq.trans (if_neg h554c) (Eq.trans (if_neg h559) (Eq.trans (if_pos h560) rfl))))) 
        by_cases h561 : a1 = 28
        · refine X.tsIn 518 28 i315_110 rfl (by omega) rfl rfl ?_
          refine X.cut [] i315_518 rfl ?_
          refine X.ldc2 521 i315_518 rfl rfl (by decide) ?_
          refine X.retl i315_521 rfl t315 ?_
          exact hQ (-10000000000) (by first | trivial | omega) (Eq.trans (if_pos h502c) (Eq.trans (if_neg h508c) (Eq.trans (if_neg h554c) (Eq.trans (if_neg h559) (Eq.trans (if_neg h560) (Eq.trans (if_pos h561) rfl)))))) 
        by_cases h562 : a1 = 29
        · refine X.tsIn 518 29 i315_110 rfl (by omega) rfl rfl ?_
          refine X.cut [] i315_518 rfl ?_
          refine X.ldc2 521 i315_518 rfl rfl (by decide) ?_
          refine X.retl i315_521 rfl t315 ?_
          exact hQ (-10000000000) (by first | trivial | omega) (Eq.trans (if_pos h502c) (Eq.trans (if_neg h508c) (Eq.trans (if_neg h554c) (Eq.trans (if_neg h559) (Eq.trans (if_neg h560) (Eq.trans (if_neg h561) rfl)))))) 
        exfalso
        omega
      · have h554c : a1 ≤ 25 := by omega
        clear h554 hz553
        refine X.iconst 14 i204_13 rfl rfl (by decide) ?_
        refine X.goto 18 i204_14 rfl rfl ?_
        refine X.cut [] i204_18 rfl ?_
        refine X.retz i204_18 rfl t204 (by omega) ?_
        show X (EE s) d 315 66 [(0, zr 4 44), (1, zi a1)] [zi 1] m _
        refine X.ifeq 81 69 i315_66 rfl rfl rfl (fun h563 => (by exfalso; omega)) (fun h563 => ?_)
        refine X.aload_n 70 i315_69 rfl rfl rfl ?_
        refine X.getF 73 i315_70 rfl rfl (by decide) rfl rfl ?_
        refine X.iconst 74 i315_73 rfl rfl (by decide) ?_
        refine X.iload_n 75 i315_74 rfl rfl rfl ?_
        refine X.iadd 76 i315_75 rfl rfl (by omega) ?_
        refine X.bipush 78 i315_76 rfl rfl (by decide) ?_
        refine X.isub 79 i315_78 rfl rfl (by omega) ?_
        refine X.lald 80 i315_79 rfl rfl (by decide) rfl (by omega) ?_
        have h564 := r45_4 hJ 4
        refine X.retl i315_80 rfl t315 ?_
        exact hQ (m 4 45 ((4 + a1) - 20)) (by first | trivial | omega) (Eq.trans (if_pos h502c) (Eq.trans (if_neg h508c) (Eq.trans (if_pos h554c) rfl))) 
  · have h502c : ¬ a1 < 30 := by omega
    clear h502 hz501
    refine X.lload_n 7 i204_6 rfl rfl rfl ?_
    refine X.lload 9 i204_7 rfl rfl rfl ?_
    refine X.lcmp 10 i204_9 rfl rfl (fun z565 hz565 => ?_)
    refine X.ifgt 17 13 i204_10 rfl rfl rfl (fun h566 => ?_) (fun h566 => ?_)
    · have h566c : ¬ a1 ≤ 33 := by omega
      clear h566 hz565
      refine X.cut [] i204_17 rfl ?_
      refine X.iconst 18 i204_17 rfl rfl (by decide) ?_
      refine X.retz i204_18 rfl t204 (by omega) ?_
      show X (EE s) d 315 11 [(0, zr 4 44), (1, zi a1)] [zi 0] m _
      refine X.ifeq 27 14 i315_11 rfl rfl rfl (fun h567 => ?_) (fun h567 => (by exfalso; omega))
      refine X.iload_n 28 i315_27 rfl rfl rfl ?_
      refine X.i2l 29 i315_28 rfl rfl ?_
      refine X.ldc2 32 i315_29 rfl rfl (by decide) ?_
      refine X.ldc2 35 i315_32 rfl rfl (by decide) ?_
      refine X.calls 38 [zl a1, zl 40, zl 43] [] [(0, zl a1), (2, zl 40), (4, zl 43)] i315_35 (by decide) rfl rfl (by omega) rfl rfl t204 (Nat.le_of_ble_eq_true rfl) (Nat.le_of_ble_eq_true rfl) rfl ?_
      refine X.lload_n 1 i204_0 rfl rfl rfl ?_
      refine X.lload_n 2 i204_1 rfl rfl rfl ?_
      refine X.lcmp 3 i204_2 rfl rfl (fun z568 hz568 => ?_)
      refine X.iflt 17 6 i204_3 rfl rfl rfl (fun h569 => ?_) (fun h569 => ?_)
      · have h569c : a1 < 40 := by omega
        clear h569 hz568
        refine X.cut [] i204_17 rfl ?_
        refine X.iconst 18 i204_17 rfl rfl (by decide) ?_
        refine X.retz i204_18 rfl t204 (by omega) ?_
        show X (EE s) d 315 38 [(0, zr 4 44), (1, zi a1)] [zi 0] m _
        refine X.ifeq 55 41 i315_38 rfl rfl rfl (fun h570 => ?_) (fun h570 => (by exfalso; omega))
        refine X.iload_n 56 i315_55 rfl rfl rfl ?_
        refine X.i2l 57 i315_56 rfl rfl ?_
        refine X.ldc2 60 i315_57 rfl rfl (by decide) ?_
        refine X.ldc2 63 i315_60 rfl rfl (by decide) ?_
        refine X.calls 66 [zl a1, zl 20, zl 25] [] [(0, zl a1), (2, zl 20), (4, zl 25)] i315_63 (by decide) rfl rfl (by omega) rfl rfl t204 (Nat.le_of_ble_eq_true rfl) (Nat.le_of_ble_eq_true rfl) rfl ?_
        refine X.lload_n 1 i204_0 rfl rfl rfl ?_
        refine X.lload_n 2 i204_1 rfl rfl rfl ?_
        refine X.lcmp 3 i204_2 rfl rfl (fun z571 hz571 => ?_)
        refine X.iflt 17 6 i204_3 rfl rfl rfl (fun h572 => (by exfalso; omega)) (fun h572 => ?_)
        have h572c : ¬ a1 < 20 := by omega
        clear h572 hz571
        refine X.lload_n 7 i204_6 rfl rfl rfl ?_
        refine X.lload 9 i204_7 rfl rfl rfl ?_
        refine X.lcmp 10 i204_9 rfl rfl (fun z573 hz573 => ?_)
        refine X.ifgt 17 13 i204_10 rfl rfl rfl (fun h574 => ?_) (fun h574 => (by exfalso; omega))
        have h574c : ¬ a1 ≤ 25 := by omega
        clear h574 hz573
        refine X.cut [] i204_17 rfl ?_
        refine X.iconst 18 i204_17 rfl rfl (by decide) ?_
        refine X.retz i204_18 rfl t204 (by omega) ?_
        show X (EE s) d 315 66 [(0, zr 4 44), (1, zi a1)] [zi 0] m _
        refine X.ifeq 81 69 i315_66 rfl rfl rfl (fun h575 => ?_) (fun h575 => (by exfalso; omega))
        refine X.iload_n 82 i315_81 rfl rfl rfl ?_
        refine X.i2l 83 i315_82 rfl rfl ?_
        refine X.ldc2 86 i315_83 rfl rfl (by decide) ?_
        refine X.ldc2 89 i315_86 rfl rfl (by decide) ?_
        refine X.calls 92 [zl a1, zl 50, zl 52] [] [(0, zl a1), (2, zl 50), (4, zl 52)] i315_89 (by decide) rfl rfl (by omega) rfl rfl t204 (Nat.le_of_ble_eq_true rfl) (Nat.le_of_ble_eq_true rfl) rfl ?_
        refine X.lload_n 1 i204_0 rfl rfl rfl ?_
        refine X.lload_n 2 i204_1 rfl rfl rfl ?_
        refine X.lcmp 3 i204_2 rfl rfl (fun z576 hz576 => ?_)
        refine X.iflt 17 6 i204_3 rfl rfl rfl (fun h577 => ?_) (fun h577 => (by exfalso; omega))
        have h577c : a1 < 50 := by omega
        clear h577 hz576
        refine X.cut [] i204_17 rfl ?_
        refine X.iconst 18 i204_17 rfl rfl (by decide) ?_
        refine X.retz i204_18 rfl t204 (by omega) ?_
        show X (EE s) d 315 92 [(0, zr 4 44), (1, zi a1)] [zi 0] m _
        refine X.ifeq 109 95 i315_92 rfl rfl rfl (fun h578 => ?_) (fun h578 => (by exfalso; omega))
        refine X.iload_n 110 i315_109 rfl rfl rfl ?_
        by_cases h579 : a1 = 34
        · refine X.tsIn 518 34 i315_110 rfl (by omega) rfl rfl ?_
          refine X.cut [] i315_518 rfl ?_
          refine X.ldc2 521 i315_518 rfl rfl (by decide) ?_
          refine X.retl i315_521 rfl t315 ?_
          exact hQ (-10000000000) (by first | trivial | omega) (Eq.trans (if_neg h502c) (Eq.trans (if_neg h566c) (Eq.trans (if_pos h569c) (Eq.trans (if_pos h579) rfl)))) 
        by_cases h580 : a1 = 35
        · refine X.tsIn 518 35 i315_110 rfl (by omega) rfl rfl ?_
          refine X.cut [] i315_518 rfl ?_
          refine X.ldc2 521 i315_518 rfl rfl (by decide) ?_
          refine X.retl i315_521 rfl t315 ?_
          exact hQ (-10000000000) (by first | trivial | omega) (Eq.trans (if_neg h502c) (Eq.trans (if_neg h566c) (Eq.trans (if_pos h569c) (Eq.trans (if_neg h579) (Eq.trans (if_pos h580) rfl))))) 
        by_cases h581 : a1 = 36
        · refine X.tsIn 518 36 i315_110 rfl (by omega) rfl rfl ?_
          refine X.cut [] i315_518 rfl ?_
          refine X.ldc2 521 i315_518 rfl rfl (by decide) ?_
          refine X.retl i315_521 rfl t315 ?_
          exact hQ (-10000000000) (by first | trivial | omega) (Eq.trans (if_neg h502c) (Eq.trans (if_neg h566c) (Eq.trans (if_pos h569c) (Eq.trans (if_neg h579) (Eq.trans (if_neg h580) (Eq.trans (if_pos h581) rfl)))))) 
        by_cases h582 : a1 = 37
        · refine X.tsIn 518 37 i315_110 rfl (by omega) rfl rfl ?_
          refine X.cut [] i315_518 rfl ?_
          refine X.ldc2 521 i315_518 rfl rfl (by decide) ?_
          refine X.retl i315_521 rfl t315 ?_
          exact hQ (-10000000000) (by first | trivial | omega) (Eq.trans (if_neg h502c) (Eq.trans (if_neg h566c) (Eq.trans (if_pos h569c) (Eq.trans (if_neg h579) (Eq.trans (if_neg h580) (Eq.trans (if_neg h581) (Eq.trans (if_pos h582) rfl))))))) 
        by_cases h583 : a1 = 38
        · refine X.tsIn 518 38 i315_110 rfl (by omega) rfl rfl ?_
          refine X.cut [] i315_518 rfl ?_
          refine X.ldc2 521 i315_518 rfl rfl (by decide) ?_
          refine X.retl i315_521 rfl t315 ?_
          exact hQ (-10000000000) (by first | trivial | omega) (Eq.trans (if_neg h502c) (Eq.trans (if_neg h566c) (Eq.trans (if_pos h569c) (Eq.trans (if_neg h579) (Eq.trans (if_neg h580) (Eq.trans (if_neg h581) (Eq.trans (if_neg h582) (Eq.trans (if_pos h583) rfl)))))))) 
        by_cases h584 : a1 = 39
        · refine X.tsIn 518 39 i315_110 rfl (by omega) rfl rfl ?_
          refine X.cut [] i315_518 rfl ?_
          refine X.ldc2 521 i315_518 rfl rfl (by decide) ?_
          refine X.retl i315_521 rfl t315 ?_
          exact hQ (-10000000000) (by first | trivial | omega) (Eq.trans (if_neg h502c) (Eq.trans (if_neg h566c) (Eq.trans (if_pos h569c) (Eq.trans (if_neg h579) (Eq.trans (if_neg h580) (Eq.trans (if_neg h581) (Eq.trans (if_neg h582) (Eq.trans (if_neg h583) rfl)))))))) 
        exfalso
        omega
      · have h569c : ¬ a1 < 40 := by omega
        clear h569 hz568
        refine X.lload_n 7 i204_6 rfl rfl rfl ?_
        refine X.lload 9 i204_7 rfl rfl rfl ?_
        refine X.lcmp 10 i204_9 rfl rfl (fun z585 hz585 => ?_)
        refine X.ifgt 17 13 i204_10 rfl rfl rfl (fun h586 => ?_) (fun h586 => ?_)
        · have h586c : ¬ a1 ≤ 43 := by omega
          clear h586 hz585
          refine X.cut [] i204_17 rfl ?_
          refine X.iconst 18 i204_17 rfl rfl (by decide) ?_
          refine X.retz i204_18 rfl t204 (by omega) ?_
          show X (EE s) d 315 38 [(0, zr 4 44), (1, zi a1)] [zi 0] m _
          refine X.ifeq 55 41 i315_38 rfl rfl rfl (fun h587 => ?_) (fun h587 => (by exfalso; omega))
          refine X.iload_n 56 i315_55 rfl rfl rfl ?_
          refine X.i2l 57 i315_56 rfl rfl ?_
          refine X.ldc2 60 i315_57 rfl rfl (by decide) ?_
          refine X.ldc2 63 i315_60 rfl rfl (by decide) ?_
          refine X.calls 66 [zl a1, zl 20, zl 25] [] [(0, zl a1), (2, zl 20), (4, zl 25)] i315_63 (by decide) rfl rfl (by omega) rfl rfl t204 (Nat.le_of_ble_eq_true rfl) (Nat.le_of_ble_eq_true rfl) rfl ?_
          refine X.lload_n 1 i204_0 rfl rfl rfl ?_
          refine X.lload_n 2 i204_1 rfl rfl rfl ?_
          refine X.lcmp 3 i204_2 rfl rfl (fun z588 hz588 => ?_)
          refine X.iflt 17 6 i204_3 rfl rfl rfl (fun h589 => (by exfalso; omega)) (fun h589 => ?_)
          have h589c : ¬ a1 < 20 := by omega
          clear h589 hz588
          refine X.lload_n 7 i204_6 rfl rfl rfl ?_
          refine X.lload 9 i204_7 rfl rfl rfl ?_
          refine X.lcmp 10 i204_9 rfl rfl (fun z590 hz590 => ?_)
          refine X.ifgt 17 13 i204_10 rfl rfl rfl (fun h591 => ?_) (fun h591 => (by exfalso; omega))
          have h591c : ¬ a1 ≤ 25 := by omega
          clear h591 hz590
          refine X.cut [] i204_17 rfl ?_
          refine X.iconst 18 i204_17 rfl rfl (by decide) ?_
          refine X.retz i204_18 rfl t204 (by omega) ?_
          show X (EE s) d 315 66 [(0, zr 4 44), (1, zi a1)] [zi 0] m _
          refine X.ifeq 81 69 i315_66 rfl rfl rfl (fun h592 => ?_) (fun h592 => (by exfalso; omega))
          refine X.iload_n 82 i315_81 rfl rfl rfl ?_
          refine X.i2l 83 i315_82 rfl rfl ?_
          refine X.ldc2 86 i315_83 rfl rfl (by decide) ?_
          refine X.ldc2 89 i315_86 rfl rfl (by decide) ?_
          refine X.calls 92 [zl a1, zl 50, zl 52] [] [(0, zl a1), (2, zl 50), (4, zl 52)] i315_89 (by decide) rfl rfl (by omega) rfl rfl t204 (Nat.le_of_ble_eq_true rfl) (Nat.le_of_ble_eq_true rfl) rfl ?_
          refine X.lload_n 1 i204_0 rfl rfl rfl ?_
          refine X.lload_n 2 i204_1 rfl rfl rfl ?_
          refine X.lcmp 3 i204_2 rfl rfl (fun z593 hz593 => ?_)
          refine X.iflt 17 6 i204_3 rfl rfl rfl (fun h594 => ?_) (fun h594 => ?_)
          · have h594c : a1 < 50 := by omega
            clear h594 hz593
            refine X.cut [] i204_17 rfl ?_
            refine X.iconst 18 i204_17 rfl rfl (by decide) ?_
            refine X.retz i204_18 rfl t204 (by omega) ?_
            show X (EE s) d 315 92 [(0, zr 4 44), (1, zi a1)] [zi 0] m _
            refine X.ifeq 109 95 i315_92 rfl rfl rfl (fun h595 => ?_) (fun h595 => (by exfalso; omega))
            refine X.iload_n 110 i315_109 rfl rfl rfl ?_
            by_cases h596 : a1 = 44
            · refine X.tsIn 518 44 i315_110 rfl (by omega) rfl rfl ?_
              refine X.cut [] i315_518 rfl ?_
              refine X.ldc2 521 i315_518 rfl rfl (by decide) ?_
              refine X.retl i315_521 rfl t315 ?_
              exact hQ (-10000000000) (by first | trivial | omega) (Eq.trans (if_neg h502c) (Eq.trans (if_neg h566c) (Eq.trans (if_neg h569c) (Eq.trans (if_neg h586c) (Eq.trans (if_pos h594c) (Eq.trans (if_pos h596) rfl)))))) 
            by_cases h597 : a1 = 45
            · refine X.tsIn 518 45 i315_110 rfl (by omega) rfl rfl ?_
              refine X.cut [] i315_518 rfl ?_
              refine X.ldc2 521 i315_518 rfl rfl (by decide) ?_
              refine X.retl i315_521 rfl t315 ?_
              exact hQ (-10000000000) (by first | trivial | omega) (Eq.trans (if_neg h502c) (Eq.trans (if_neg h566c) (Eq.trans (if_neg h569c) (Eq.trans (if_neg h586c) (Eq.trans (if_pos h594c) (Eq.trans (if_neg h596) (Eq.trans (if_pos h597) rfl))))))) 
            by_cases h598 : a1 = 46
            · refine X.tsIn 518 46 i315_110 rfl (by omega) rfl rfl ?_
              refine X.cut [] i315_518 rfl ?_
              refine X.ldc2 521 i315_518 rfl rfl (by decide) ?_
              refine X.retl i315_521 rfl t315 ?_
              exact hQ (-10000000000) (by first | trivial | omega) (Eq.trans (if_neg h502c) (Eq.trans (if_neg h566c) (Eq.trans (if_neg h569c) (Eq.trans (if_neg h586c) (Eq.trans (if_pos h594c) (Eq.trans (if_neg h596) (Eq.trans (if_neg h597) (Eq.trans (if_pos h598) rfl)))))))) 
            by_cases h599 : a1 = 47
            · refine X.tsIn 518 47 i315_110 rfl (by omega) rfl rfl ?_
              refine X.cut [] i315_518 rfl ?_
              refine X.ldc2 521 i315_518 rfl rfl (by decide) ?_
              refine X.retl i315_521 rfl t315 ?_
              exact hQ (-10000000000) (by first | trivial | omega) (Eq.trans (if_neg h502c) (Eq.trans (if_neg h566c) (Eq.trans (if_neg h569c) (Eq.trans (if_neg h586c) (Eq.trans (if_pos h594c) (Eq.trans (if_neg h596) (Eq.trans (if_neg h597) (Eq.trans (if_neg h598) (Eq.trans (if_pos h599) rfl))))))))) 
            by_cases h600 : a1 = 48
            · refine X.tsIn 518 48 i315_110 rfl (by omega) rfl rfl ?_
              refine X.cut [] i315_518 rfl ?_
              refine X.ldc2 521 i315_518 rfl rfl (by decide) ?_
              refine X.retl i315_521 rfl t315 ?_
              exact hQ (-10000000000) (by first | trivial | omega) (Eq.trans (if_neg h502c) (Eq.trans (if_neg h566c) (Eq.trans (if_neg h569c) (Eq.trans (if_neg h586c) (Eq.trans (if_pos h594c) (Eq.trans (if_neg h596) (Eq.trans (if_neg h597) (Eq.trans (if_neg h598) (Eq.trans (if_neg h599) (Eq.trans (if_pos h600) rfl)))))))))) 
            by_cases h601 : a1 = 49
            · refine X.tsIn 518 49 i315_110 rfl (by omega) rfl rfl ?_
              refine X.cut [] i315_518 rfl ?_
              refine X.ldc2 521 i315_518 rfl rfl (by decide) ?_
              refine X.retl i315_521 rfl t315 ?_
              exact hQ (-10000000000) (by first | trivial | omega) (Eq.trans (if_neg h502c) (Eq.trans (if_neg h566c) (Eq.trans (if_neg h569c) (Eq.trans (if_neg h586c) (Eq.trans (if_pos h594c) (Eq.trans (if_neg h596) (Eq.trans (if_neg h597) (Eq.trans (if_neg h598) (Eq.trans (if_neg h599) (Eq.trans (if_neg h600) rfl)))))))))) 
            exfalso
            omega
          · have h594c : ¬ a1 < 50 := by omega
            clear h594 hz593
            refine X.lload_n 7 i204_6 rfl rfl rfl ?_
            refine X.lload 9 i204_7 rfl rfl rfl ?_
            refine X.lcmp 10 i204_9 rfl rfl (fun z602 hz602 => ?_)
            refine X.ifgt 17 13 i204_10 rfl rfl rfl (fun h603 => ?_) (fun h603 => ?_)
            · have h603c : ¬ a1 ≤ 52 := by omega
              clear h603 hz602
              refine X.cut [] i204_17 rfl ?_
              refine X.iconst 18 i204_17 rfl rfl (by decide) ?_
              refine X.retz i204_18 rfl t204 (by omega) ?_
              show X (EE s) d 315 92 [(0, zr 4 44), (1, zi a1)] [zi 0] m _
              refine X.ifeq 109 95 i315_92 rfl rfl rfl (fun h604 => ?_) (fun h604 => (by exfalso; omega))
              refine X.iload_n 110 i315_109 rfl rfl rfl ?_
              by_cases h605 : a1 = 53
              · refine X.tsIn 480 53 i315_110 rfl (by omega) rfl rfl ?_
                refine X.cut [(0, zr 4 44)] i315_480 rfl ?_
                refine X.aload_n 481 i315_480 rfl rfl rfl ?_
                refine X.getF 484 i315_481 rfl rfl (by decide) rfl rfl ?_
                refine X.sipush 487 i315_484 rfl rfl (by decide) ?_
                refine X.lald 488 i315_487 rfl rfl (by decide) rfl (by omega) ?_
                have h606 := r45_1614 hJ 4
                refine X.retl i315_488 rfl t315 ?_
                exact hQ (m 4 45 1614) (by first | trivial | omega) (Eq.trans (if_neg h502c) (Eq.trans (if_neg h566c) (Eq.trans (if_neg h569c) (Eq.trans (if_neg h586c) (Eq.trans (if_neg h594c) (Eq.trans (if_neg h603c) (Eq.trans (if_pos h605) rfl))))))) 
              by_cases h607 : a1 = 54
              · refine X.tsIn 489 54 i315_110 rfl (by omega) rfl rfl ?_
                refine X.cut [(0, zr 4 44)] i315_489 rfl ?_
                refine X.aload_n 490 i315_489 rfl rfl rfl ?_
                refine X.getF 493 i315_490 rfl rfl (by decide) rfl rfl ?_
                refine X.sipush 496 i315_493 rfl rfl (by decide) ?_
                refine X.lald 497 i315_496 rfl rfl (by decide) rfl (by omega) ?_
                have h608 := r45_1616 hJ 4
                refine X.retl i315_497 rfl t315 ?_
                exact hQ (m 4 45 1616) (by first | trivial | omega) (Eq.trans (if_neg h502c) (Eq.trans (if_neg h566c) (Eq.trans (if_neg h569c) (Eq.trans (if_neg h586c) (Eq.trans (if_neg h594c) (Eq.trans (if_neg h603c) (Eq.trans (if_neg h605) (Eq.trans (if_pos h607) rfl)))))))) 
              by_cases h609 : a1 = 55
              · refine X.tsIn 498 55 i315_110 rfl (by omega) rfl rfl ?_
                refine X.cut [(0, zr 4 44)] i315_498 rfl ?_
                refine X.aload_n 499 i315_498 rfl rfl rfl ?_
                refine X.callv 502 [] [] [(0, zr 4 44)] i315_499 rfl (by decide) rfl rfl (by omega) rfl rfl (by decide) rfl t278 (Nat.le_of_ble_eq_true rfl) (Nat.le_of_ble_eq_true rfl) rfl ?_
                refine c278_1 (B := B)   (by omega) (hJ.up (by omega)) (by omega)  (fun v612 hv612 hFv612 => ?_)
                show X (EE s) d 315 502 [(0, zr 4 44)] [zl v612] m _
                refine X.retl i315_502 rfl t315 ?_
                exact hQ v612 (by first | trivial | omega) (Eq.trans (if_neg h502c) (Eq.trans (if_neg h566c) (Eq.trans (if_neg h569c) (Eq.trans (if_neg h586c) (Eq.trans (if_neg h594c) (Eq.trans (if_neg h603c) (Eq.trans (if_neg h605) (Eq.trans (if_neg h607) (Eq.trans (if_pos h609) (Eq.trans (zn_eq hFv612.symm) rfl)))))))))) 
              by_cases h613 : a1 = 56
              · refine X.tsIn 503 56 i315_110 rfl (by omega) rfl rfl ?_
                refine X.cut [(0, zr 4 44)] i315_503 rfl ?_
                refine X.aload_n 504 i315_503 rfl rfl rfl ?_
                refine X.getF 507 i315_504 rfl rfl (by decide) rfl rfl ?_
                refine X.sipush 510 i315_507 rfl rfl (by decide) ?_
                refine X.lald 511 i315_510 rfl rfl (by decide) rfl (by omega) ?_
                refine X.retl i315_511 rfl t315 ?_
                exact hQ (m 4 45 1618) (by first | trivial | omega) (Eq.trans (if_neg h502c) (Eq.trans (if_neg h566c) (Eq.trans (if_neg h569c) (Eq.trans (if_neg h586c) (Eq.trans (if_neg h594c) (Eq.trans (if_neg h603c) (Eq.trans (if_neg h605) (Eq.trans (if_neg h607) (Eq.trans (if_neg h609) (Eq.trans (if_pos h613) rfl)))))))))) 
              by_cases h614 : a1 = 57
              · refine X.tsIn 512 57 i315_110 rfl (by omega) rfl rfl ?_
                refine X.cut [(0, zr 4 44)] i315_512 rfl ?_
                refine X.aload_n 513 i315_512 rfl rfl rfl ?_
                refine X.getI 516 5 i315_513 rfl rfl (by decide) rfl rfl rfl ?_
                have h615 := r44_5 hJ 4
                refine X.i2l 517 i315_516 rfl rfl ?_
                refine X.retl i315_517 rfl t315 ?_
                exact hQ (m 4 44 5) (by first | trivial | omega) (Eq.trans (if_neg h502c) (Eq.trans (if_neg h566c) (Eq.trans (if_neg h569c) (Eq.trans (if_neg h586c) (Eq.trans (if_neg h594c) (Eq.trans (if_neg h603c) (Eq.trans (if_neg h605) (Eq.trans (if_neg h607) (Eq.trans (if_neg h609) (Eq.trans (if_neg h613) (Eq.trans (if_pos h614) rfl))))))))))) 
              refine X.tsOut 518 i315_110 rfl (by omega) rfl ?_
              refine X.cut [] i315_518 rfl ?_
              refine X.ldc2 521 i315_518 rfl rfl (by decide) ?_
              refine X.retl i315_521 rfl t315 ?_
              exact hQ (-10000000000) (by first | trivial | omega) (Eq.trans (if_neg h502c) (Eq.trans (if_neg h566c) (Eq.trans (if_neg h569c) (Eq.trans (if_neg h586c) (Eq.trans (if_neg h594c) (Eq.trans (if_neg h603c) (Eq.trans (if_neg h605) (Eq.trans (if_neg h607) (Eq.trans (if_neg h609) (Eq.trans (if_neg h613) (Eq.trans (if_neg h614) rfl))))))))))) 
            · have h603c : a1 ≤ 52 := by omega
              clear h603 hz602
              refine X.iconst 14 i204_13 rfl rfl (by decide) ?_
              refine X.goto 18 i204_14 rfl rfl ?_
              refine X.cut [] i204_18 rfl ?_
              refine X.retz i204_18 rfl t204 (by omega) ?_
              show X (EE s) d 315 92 [(0, zr 4 44), (1, zi a1)] [zi 1] m _
              refine X.ifeq 109 95 i315_92 rfl rfl rfl (fun h616 => (by exfalso; omega)) (fun h616 => ?_)
              refine X.aload_n 96 i315_95 rfl rfl rfl ?_
              refine X.getF 99 i315_96 rfl rfl (by decide) rfl rfl ?_
              refine X.sipush 102 i315_99 rfl rfl (by decide) ?_
              refine X.iload_n 103 i315_102 rfl rfl rfl ?_
              refine X.iadd 104 i315_103 rfl rfl (by omega) ?_
              refine X.bipush 106 i315_104 rfl rfl (by decide) ?_
              refine X.isub 107 i315_106 rfl rfl (by omega) ?_
              refine X.lald 108 i315_107 rfl rfl (by decide) rfl (by omega) ?_
              have h617 := r45_1611 hJ 4
              refine X.retl i315_108 rfl t315 ?_
              exact hQ (m 4 45 ((1611 + a1) - 50)) (by first | trivial | omega) (Eq.trans (if_neg h502c) (Eq.trans (if_neg h566c) (Eq.trans (if_neg h569c) (Eq.trans (if_neg h586c) (Eq.trans (if_neg h594c) (Eq.trans (if_pos h603c) rfl)))))) 
        · have h586c : a1 ≤ 43 := by omega
          clear h586 hz585
          refine X.iconst 14 i204_13 rfl rfl (by decide) ?_
          refine X.goto 18 i204_14 rfl rfl ?_
          refine X.cut [] i204_18 rfl ?_
          refine X.retz i204_18 rfl t204 (by omega) ?_
          show X (EE s) d 315 38 [(0, zr 4 44), (1, zi a1)] [zi 1] m _
          refine X.ifeq 55 41 i315_38 rfl rfl rfl (fun h618 => (by exfalso; omega)) (fun h618 => ?_)
          refine X.aload_n 42 i315_41 rfl rfl rfl ?_
          refine X.getF 45 i315_42 rfl rfl (by decide) rfl rfl ?_
          refine X.sipush 48 i315_45 rfl rfl (by decide) ?_
          refine X.iload_n 49 i315_48 rfl rfl rfl ?_
          refine X.iadd 50 i315_49 rfl rfl (by omega) ?_
          refine X.bipush 52 i315_50 rfl rfl (by decide) ?_
          refine X.isub 53 i315_52 rfl rfl (by omega) ?_
          refine X.lald 54 i315_53 rfl rfl (by decide) rfl (by omega) ?_
          have h619 := r45_391 hJ 4 (i := ((391 + a1) - 40)) (by omega)
          refine X.retl i315_54 rfl t315 ?_
          exact hQ (m 4 45 ((391 + a1) - 40)) (by first | trivial | omega) (Eq.trans (if_neg h502c) (Eq.trans (if_neg h566c) (Eq.trans (if_neg h569c) (Eq.trans (if_pos h586c) rfl)))) 
    · have h566c : a1 ≤ 33 := by omega
      clear h566 hz565
      refine X.iconst 14 i204_13 rfl rfl (by decide) ?_
      refine X.goto 18 i204_14 rfl rfl ?_
      refine X.cut [] i204_18 rfl ?_
      refine X.retz i204_18 rfl t204 (by omega) ?_
      show X (EE s) d 315 11 [(0, zr 4 44), (1, zi a1)] [zi 1] m _
      refine X.ifeq 27 14 i315_11 rfl rfl rfl (fun h620 => (by exfalso; omega)) (fun h620 => ?_)
      refine X.aload_n 15 i315_14 rfl rfl rfl ?_
      refine X.getF 18 i315_15 rfl rfl (by decide) rfl rfl ?_
      refine X.bipush 20 i315_18 rfl rfl (by decide) ?_
      refine X.iload_n 21 i315_20 rfl rfl rfl ?_
      refine X.iadd 22 i315_21 rfl rfl (by omega) ?_
      refine X.bipush 24 i315_22 rfl rfl (by decide) ?_
      refine X.isub 25 i315_24 rfl rfl (by omega) ?_
      refine X.lald 26 i315_25 rfl rfl (by decide) rfl (by omega) ?_
      have h621 := r45_28 hJ 4 (i := ((28 + a1) - 30)) (by omega)
      refine X.retl i315_26 rfl t315 ?_
      exact hQ (m 4 45 ((28 + a1) - 30)) (by first | trivial | omega) (Eq.trans (if_neg h502c) (Eq.trans (if_pos h566c) rfl)) 
end
