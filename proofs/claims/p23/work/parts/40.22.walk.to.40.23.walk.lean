section
-- WorkMeterModel.log
theorem c313_1 {s : Nat × (Nat → Int32)} {S : zS} {m0 m : zM} {B : Int} {d : Nat} {Q : Option zV → zM → Prop} (a1 a2 : Int) (hd : 13 ≤ d) (hJ : J S m0 B m) (hB : B + 0 ≤ 1000000000) (ha1 : (-2147483648) ≤ a1 ∧ a1 ≤ 2147483647) (ha2 : (-2147483648) ≤ a2 ∧ a2 ≤ 2147483647) (hQ : ∀ (v : Int), ((-2147483648) ≤ v ∧ v ≤ 2147483647) → f313_1 a1 a2 m = v → Q (some (zi v)) m) : X (EE s) d 313 0 [(0, zr 4 44), (1, zi a1), (2, zi a2)] [] m Q := by
  refine X.aload_n 1 (zi313 0) rfl rfl rfl ?_
  refine X.getF 4 (zi313 1) rfl rfl (by decide) rfl rfl ?_
  refine X.bipush 6 (zi313 4) rfl rfl (by decide) ?_
  refine X.lald 7 (zi313 6) rfl rfl (by decide) rfl (by omega) ?_
  have h501 := r45_16 hJ 4
  refine X.ldc2 10 (zi313 7) rfl rfl (by decide) ?_
  refine X.lcmp 11 (zi313 10) rfl rfl (fun z502 hz502 => ?_)
  have hK507 : ∀ (v : Int) , (0 ≤ v ∧ v ≤ 40) → (if (m 4 45 16) < 40 then
      ((m 4 45 16))
      else
      (40)) = v → X (EE s) d 313 27 [(0, zr 4 44), (1, zi a1), (2, zi a2)] [zl v] m Q := by
    intro v504 hv504 hT508
    refine X.l2i 28 (zi313 27) rfl rfl (by omega) ?_
    refine X.istore_n 29 [(0, zr 4 44), (1, zi a1), (2, zi a2), (3, zi v504)] (zi313 28) rfl rfl rfl ?_
    refine X.iload_n 30 (zi313 29) rfl rfl rfl ?_
    refine X.i2l 31 (zi313 30) rfl rfl ?_
    refine X.lconst (y := 0) 32 (zi313 31) rfl rfl rfl ?_
    refine X.iload_n 33 (zi313 32) rfl rfl rfl ?_
    refine X.iconst 34 (zi313 33) rfl rfl (by decide) ?_
    refine X.isub 35 (zi313 34) rfl rfl (by omega) ?_
    refine X.i2l 36 (zi313 35) rfl rfl ?_
    refine X.calls 39 [zl a1, zl 0, zl (v504 - 1)] [] [(0, zl a1), (2, zl 0), (4, zl (v504 - 1))] (zi313 36) (by decide) rfl rfl (by omega) rfl rfl t204 (Nat.le_of_ble_eq_true rfl) (Nat.le_of_ble_eq_true rfl) rfl ?_
    refine X.lload_n 1 (zi204 0) rfl rfl rfl ?_
    refine X.lload_n 2 (zi204 1) rfl rfl rfl ?_
    refine X.lcmp 3 (zi204 2) rfl rfl (fun z509 hz509 => ?_)
    refine X.iflt 17 6 (zi204 3) rfl rfl rfl (fun h510 => ?_) (fun h510 => ?_)
    · have h510c : a1 < 0 := by omega
      clear h510 hz509
      refine X.cut [] (zi204 17) rfl ?_
      refine X.iconst 18 (zi204 17) rfl rfl (by decide) ?_
      refine X.retz (zi204 18) rfl t204 (by omega) ?_
      show X (EE s) d 313 39 [(0, zr 4 44), (1, zi a1), (2, zi a2), (3, zi v504)] [zi 0] m _
      refine X.ifeq 76 42 (zi313 39) rfl rfl rfl (fun h511 => ?_) (fun h511 => (by exfalso; omega))
      refine X.cut [] (zi313 76) rfl ?_
      refine X.iconst 77 (zi313 76) rfl rfl (by decide) ?_
      refine X.reti (zi313 77) rfl t313 ?_
      exact hQ (-1) (by first | trivial | omega) (Eq.trans (zn_eq hT508.symm) (Eq.trans (if_pos h510c) rfl)) 
    · have h510c : ¬ a1 < 0 := by omega
      clear h510 hz509
      refine X.lload_n 7 (zi204 6) rfl rfl rfl ?_
      refine X.lload 9 (zi204 7) rfl rfl rfl ?_
      refine X.lcmp 10 (zi204 9) rfl rfl (fun z512 hz512 => ?_)
      refine X.ifgt 17 13 (zi204 10) rfl rfl rfl (fun h513 => ?_) (fun h513 => ?_)
      · have h513c : ¬ a1 ≤ (v504 - 1) := by omega
        clear h513 hz512
        refine X.cut [] (zi204 17) rfl ?_
        refine X.iconst 18 (zi204 17) rfl rfl (by decide) ?_
        refine X.retz (zi204 18) rfl t204 (by omega) ?_
        show X (EE s) d 313 39 [(0, zr 4 44), (1, zi a1), (2, zi a2), (3, zi v504)] [zi 0] m _
        refine X.ifeq 76 42 (zi313 39) rfl rfl rfl (fun h514 => ?_) (fun h514 => (by exfalso; omega))
        refine X.cut [] (zi313 76) rfl ?_
        refine X.iconst 77 (zi313 76) rfl rfl (by decide) ?_
        refine X.reti (zi313 77) rfl t313 ?_
        exact hQ (-1) (by first | trivial | omega) (Eq.trans (zn_eq hT508.symm) (Eq.trans (if_neg h510c) (Eq.trans (if_neg h513c) rfl))) 
      · have h513c : a1 ≤ (v504 - 1) := by omega
        clear h513 hz512
        refine X.iconst 14 (zi204 13) rfl rfl (by decide) ?_
        refine X.goto 18 (zi204 14) rfl rfl ?_
        refine X.cut [] (zi204 18) rfl ?_
        refine X.retz (zi204 18) rfl t204 (by omega) ?_
        show X (EE s) d 313 39 [(0, zr 4 44), (1, zi a1), (2, zi a2), (3, zi v504)] [zi 1] m _
        refine X.ifeq 76 42 (zi313 39) rfl rfl rfl (fun h515 => (by exfalso; omega)) (fun h515 => ?_)
        refine X.iload_n 43 (zi313 42) rfl rfl rfl ?_
        refine X.i2l 44 (zi313 43) rfl rfl ?_
        refine X.lconst (y := 0) 45 (zi313 44) rfl rfl rfl ?_
        refine X.ldc2 48 (zi313 45) rfl rfl (by decide) ?_
        refine X.calls 51 [zl a2, zl 0, zl 2] [] [(0, zl a2), (2, zl 0), (4, zl 2)] (zi313 48) (by decide) rfl rfl (by omega) rfl rfl t204 (Nat.le_of_ble_eq_true rfl) (Nat.le_of_ble_eq_true rfl) rfl ?_
        refine X.lload_n 1 (zi204 0) rfl rfl rfl ?_
        refine X.lload_n 2 (zi204 1) rfl rfl rfl ?_
        refine X.lcmp 3 (zi204 2) rfl rfl (fun z516 hz516 => ?_)
        refine X.iflt 17 6 (zi204 3) rfl rfl rfl (fun h517 => ?_) (fun h517 => ?_)
        · have h517c : a2 < 0 := by omega
          clear h517 hz516
          refine X.cut [] (zi204 17) rfl ?_
          refine X.iconst 18 (zi204 17) rfl rfl (by decide) ?_
          refine X.retz (zi204 18) rfl t204 (by omega) ?_
          show X (EE s) d 313 51 [(0, zr 4 44), (1, zi a1), (2, zi a2), (3, zi v504)] [zi 0] m _
          refine X.ifeq 76 54 (zi313 51) rfl rfl rfl (fun h518 => ?_) (fun h518 => (by exfalso; omega))
          refine X.cut [] (zi313 76) rfl ?_
          refine X.iconst 77 (zi313 76) rfl rfl (by decide) ?_
          refine X.reti (zi313 77) rfl t313 ?_
          exact hQ (-1) (by first | trivial | omega) (Eq.trans (zn_eq hT508.symm) (Eq.trans (if_neg h510c) (Eq.trans (if_pos h513c) (Eq.trans (if_pos h517c) rfl)))) 
        · have h517c : ¬ a2 < 0 := by omega
          clear h517 hz516
          refine X.lload_n 7 (zi204 6) rfl rfl rfl ?_
          refine X.lload 9 (zi204 7) rfl rfl rfl ?_
          refine X.lcmp 10 (zi204 9) rfl rfl (fun z519 hz519 => ?_)
          refine X.ifgt 17 13 (zi204 10) rfl rfl rfl (fun h520 => ?_) (fun h520 => ?_)
          · have h520c : ¬ a2 ≤ 2 := by omega
            clear h520 hz519
            refine X.cut [] (zi204 17) rfl ?_
            refine X.iconst 18 (zi204 17) rfl rfl (by decide) ?_
            refine X.retz (zi204 18) rfl t204 (by omega) ?_
            show X (EE s) d 313 51 [(0, zr 4 44), (1, zi a1), (2, zi a2), (3, zi v504)] [zi 0] m _
            refine X.ifeq 76 54 (zi313 51) rfl rfl rfl (fun h521 => ?_) (fun h521 => (by exfalso; omega))
            refine X.cut [] (zi313 76) rfl ?_
            refine X.iconst 77 (zi313 76) rfl rfl (by decide) ?_
            refine X.reti (zi313 77) rfl t313 ?_
            exact hQ (-1) (by first | trivial | omega) (Eq.trans (zn_eq hT508.symm) (Eq.trans (if_neg h510c) (Eq.trans (if_pos h513c) (Eq.trans (if_neg h517c) (Eq.trans (if_neg h520c) rfl))))) 
          · have h520c : a2 ≤ 2 := by omega
            clear h520 hz519
            refine X.iconst 14 (zi204 13) rfl rfl (by decide) ?_
            refine X.goto 18 (zi204 14) rfl rfl ?_
            refine X.cut [] (zi204 18) rfl ?_
            refine X.retz (zi204 18) rfl t204 (by omega) ?_
            show X (EE s) d 313 51 [(0, zr 4 44), (1, zi a1), (2, zi a2), (3, zi v504)] [zi 1] m _
            refine X.ifeq 76 54 (zi313 51) rfl rfl rfl (fun h522 => (by exfalso; omega)) (fun h522 => ?_)
            refine X.aload_n 55 (zi313 54) rfl rfl rfl ?_
            refine X.getF 58 (zi313 55) rfl rfl (by decide) rfl rfl ?_
            refine X.sipush 61 (zi313 58) rfl rfl (by decide) ?_
            refine X.iconst 62 (zi313 61) rfl rfl (by decide) ?_
            refine X.iload_n 63 (zi313 62) rfl rfl rfl ?_
            refine X.iconst 64 (zi313 63) rfl rfl (by decide) ?_
            refine X.isub 65 (zi313 64) rfl rfl (by omega) ?_
            refine X.iload_n 66 (zi313 65) rfl rfl rfl ?_
            refine X.isub 67 (zi313 66) rfl rfl (by omega) ?_
            refine X.imul 68 (zi313 67) rfl rfl (by omega) ?_
            refine X.iadd 69 (zi313 68) rfl rfl (by omega) ?_
            refine X.iload_n 70 (zi313 69) rfl rfl rfl ?_
            refine X.iadd 71 (zi313 70) rfl rfl (by omega) ?_
            refine X.lald 72 (zi313 71) rfl rfl (by decide) rfl (by omega) ?_
            refine X.l2iW 73 (zi313 72) rfl rfl (fun z523 ez523 hz523 => ?_)
            refine X.goto 77 (zi313 73) rfl rfl ?_
            refine X.cut [] (zi313 77) rfl ?_
            refine X.reti (zi313 77) rfl t313 ?_
            exact hQ z523 (by first | trivial | omega) (Eq.trans (zn_eq hT508.symm) (Eq.trans (if_neg h510c) (Eq.trans (if_pos h513c) (Eq.trans (if_neg h517c) (Eq.trans (if_pos h520c) (Eq.trans (zn_eq ez523) rfl)))))) 
  refine X.ifge 24 14 (zi313 11) rfl rfl rfl (fun h503 => ?_) (fun h503 => ?_)
  · have h503c : ¬ (m 4 45 16) < 40 := by omega
    clear h503 hz502
    refine X.ldc2 27 (zi313 24) rfl rfl (by decide) ?_
    exact hK507 40 (by first | trivial | omega) (Eq.trans (if_neg h503c) rfl)
  · have h503c : (m 4 45 16) < 40 := by omega
    clear h503 hz502
    refine X.aload_n 15 (zi313 14) rfl rfl rfl ?_
    refine X.getF 18 (zi313 15) rfl rfl (by decide) rfl rfl ?_
    refine X.bipush 20 (zi313 18) rfl rfl (by decide) ?_
    refine X.lald 21 (zi313 20) rfl rfl (by decide) rfl (by omega) ?_
    refine X.goto 27 (zi313 21) rfl rfl ?_
    exact hK507 (m 4 45 16) (by first | trivial | omega) (Eq.trans (if_pos h503c) rfl)
noncomputable def fl194_17_1_b (self : Int → Int → Int → Int → Int) (k75 : Int → Int → Int → Int) (g0 : Nat) (y1 y2 y3 : Int) (m : zM) (y4 y5 y6 y7 : Int) : Int :=
  if (y3 + (m g0 12 y1)) ≤ y7 then
  (k75 y4 y5 y6)
  else
  (zn (if y6 = y2 then
  (zn (w32 (y4 + ((m g0 13 y7) - y5))) fun z562 =>
  z562)
  else
  (y4)) fun v563 =>
  self v563 (m g0 13 y7) (m g0 14 y7) (y7 + 1))
noncomputable def fl194_17_1 (k75 : Int → Int → Int → Int) (g0 : Nat) (y1 y2 y3 : Int) (m : zM) : Nat → Int → Int → Int → Int → Int
  | 0 => fun y4 y5 y6 y7 => 0
  | n + 1 => fl194_17_1_b (fl194_17_1 k75 g0 y1 y2 y3 m n) k75 g0 y1 y2 y3 m
theorem l194_17_1 {s : Nat × (Nat → Int32)} {S : zS} {m0 : zM} {m : zM} {B : Int} {d : Nat} {Q : Option zV → zM → Prop} {R0 : Int} {k75 : Int → Int → Int → Int} (g0 : Nat) (y1 y2 y3 : Int) (hd : 13 ≤ d) (hJ : J S m0 B m) (hB9 : B ≤ 1000000000) (hy1 : 0 ≤ y1 ∧ y1 ≤ 7) (hy2 : 0 ≤ y2 ∧ y2 ≤ 3) (hy3 : 0 ≤ y3 ∧ y3 ≤ 42)
    (K75 : ∀ (x4 x5 x6 : Int) , ((-2147483648) ≤ x4 ∧ x4 ≤ 2147483647) → (0 ≤ x5 ∧ x5 ≤ 86399) → (0 ≤ x6 ∧ x6 ≤ 3) → R0 = k75 x4 x5 x6 → X (EE s) d 194 75 [(2, zi y2), (4, zi x4), (5, zi x5), (6, zi x6)] [] m Q) :
    ∀ (n : Nat) (y4 y5 y6 y7 : Int) , ((-2147483648) ≤ y4 ∧ y4 ≤ 2147483647) → (0 ≤ y5 ∧ y5 ≤ 86399) → (0 ≤ y6 ∧ y6 ≤ 3) → (0 ≤ y7 ∧ y7 ≤ 48) → 48 - y7 < (n : Int) → R0 = fl194_17_1 k75 g0 y1 y2 y3 m n y4 y5 y6 y7 → X (EE s) d 194 17 [(0, zr g0 11), (1, zi y1), (2, zi y2), (3, zi y3), (4, zi y4), (5, zi y5), (6, zi y6), (7, zi y7)] [] m Q := by
  intro n
  induction n with
  | zero =>
    intro y4 y5 y6 y7 hy4 hy5 hy6 hy7 hn hR
    exfalso
    omega
  | succ n ih =>
    intro y4 y5 y6 y7 hy4 hy5 hy6 hy7 hn hR
    replace hR : R0 = fl194_17_1_b (fl194_17_1 k75 g0 y1 y2 y3 m n) k75 g0 y1 y2 y3 m y4 y5 y6 y7 := hR
    refine X.iload 19 (zi194 17) rfl rfl rfl ?_
    refine X.iload_n 20 (zi194 19) rfl rfl rfl ?_
    refine X.aload_n 21 (zi194 20) rfl rfl rfl ?_
    refine X.getR 24 (zi194 21) rfl rfl (by decide) rfl rfl ?_
    refine X.iload_n 25 (zi194 24) rfl rfl rfl ?_
    refine X.iald 26 (zi194 25) rfl rfl (by decide) rfl (by omega) ?_
    have h558 := r12_0 hJ g0 (i := y1) (by omega)
    refine X.iadd 27 (zi194 26) rfl rfl (by omega) ?_
    refine X.icmpge 75 30 (zi194 27) rfl rfl rfl (fun h559 => ?_) (fun h559 => ?_)
    · refine X.cut [(2, zi y2), (4, zi y4), (5, zi y5), (6, zi y6)] (zi194 75) rfl ?_
      exact K75 y4 y5 y6 (by first | trivial | omega) (by first | trivial | omega) (by first | trivial | omega) (Eq.trans hR (Eq.trans (if_pos h559) rfl))
    · refine X.iload 32 (zi194 30) rfl rfl rfl ?_
      refine X.iload_n 33 (zi194 32) rfl rfl rfl ?_
      have hK566 : ∀ (v : Int) , ((-2147483648) ≤ v ∧ v ≤ 2147483647) → (if y6 = y2 then
          (zn (w32 (y4 + ((m g0 13 y7) - y5))) fun z562 =>
          z562)
          else
          (y4)) = v → X (EE s) d 194 51 [(0, zr g0 11), (1, zi y1), (2, zi y2), (3, zi y3), (4, zi v), (7, zi y7)] [] m Q := by
        intro v563 hv563 hT567
        refine X.aload_n 52 (zi194 51) rfl rfl rfl ?_
        refine X.getR 55 (zi194 52) rfl rfl (by decide) rfl rfl ?_
        refine X.iload 57 (zi194 55) rfl rfl rfl ?_
        refine X.iald 58 (zi194 57) rfl rfl (by decide) rfl (by omega) ?_
        have h568 := r13_0 hJ g0 (i := y7) (by omega)
        refine X.istore 60 [(0, zr g0 11), (1, zi y1), (2, zi y2), (3, zi y3), (4, zi v563), (5, zi (m g0 13 y7)), (7, zi y7)] (zi194 58) rfl rfl rfl ?_
        refine X.aload_n 61 (zi194 60) rfl rfl rfl ?_
        refine X.getR 64 (zi194 61) rfl rfl (by decide) rfl rfl ?_
        refine X.iload 66 (zi194 64) rfl rfl rfl ?_
        refine X.iald 67 (zi194 66) rfl rfl (by decide) rfl (by omega) ?_
        have h569 := r14_0 hJ g0 (i := y7) (by omega)
        refine X.istore 69 [(0, zr g0 11), (1, zi y1), (2, zi y2), (3, zi y3), (4, zi v563), (5, zi (m g0 13 y7)), (6, zi (m g0 14 y7)), (7, zi y7)] (zi194 67) rfl rfl rfl ?_
        refine X.iinc 72 [(0, zr g0 11), (1, zi y1), (2, zi y2), (3, zi y3), (4, zi v563), (5, zi (m g0 13 y7)), (6, zi (m g0 14 y7)), (7, zi (y7 + 1))] (zi194 69) rfl rfl rfl (by omega) rfl ?_
        refine X.goto 17 (zi194 72) rfl rfl ?_
        exact ih v563 (m g0 13 y7) (m g0 14 y7) (y7 + 1) (by omega) (by omega) (by omega) (by omega) (by omega) (Eq.trans hR (Eq.trans (if_neg h559) (Eq.trans (zn_eq hT567.symm) rfl)))
      refine X.icmpne 51 36 (zi194 33) rfl rfl rfl (fun h560 => ?_) (fun h560 => ?_)
      · refine X.cut [(0, zr g0 11), (1, zi y1), (2, zi y2), (3, zi y3), (4, zi y4), (7, zi y7)] (zi194 51) rfl ?_
        exact hK566 y4 (by first | trivial | omega) (Eq.trans (if_neg h560) rfl)
      · refine X.iload 38 (zi194 36) rfl rfl rfl ?_
        refine X.aload_n 39 (zi194 38) rfl rfl rfl ?_
        refine X.getR 42 (zi194 39) rfl rfl (by decide) rfl rfl ?_
        refine X.iload 44 (zi194 42) rfl rfl rfl ?_
        refine X.iald 45 (zi194 44) rfl rfl (by decide) rfl (by omega) ?_
        have h561 := r13_0 hJ g0 (i := y7) (by omega)
        refine X.iload 47 (zi194 45) rfl rfl rfl ?_
        refine X.isub 48 (zi194 47) rfl rfl (by omega) ?_
        refine X.iaddW 49 (zi194 48) rfl rfl (fun z562 ez562 hz562 => ?_)
        refine X.istore 51 [(0, zr g0 11), (1, zi y1), (2, zi y2), (3, zi y3), (4, zi z562), (5, zi y5), (6, zi y6), (7, zi y7)] (zi194 49) rfl rfl rfl ?_
        refine X.cut [(0, zr g0 11), (1, zi y1), (2, zi y2), (3, zi y3), (4, zi z562), (7, zi y7)] (zi194 51) rfl ?_
        exact hK566 z562 (by first | trivial | omega) (Eq.trans (if_pos h560) (Eq.trans (zn_eq ez562) rfl))
-- WorkMeter$Calendar.secondsHeld
noncomputable def f194_1 (g0 : Nat) (a1 a2 : Int) (m : zM) : Int :=
  fl194_17_1 (fun y501 y502 y503 =>
  zn (if y503 = a2 then
  (zn (w32 (y501 + 86400)) fun z509 =>
  zn (w32 (z509 - y502)) fun z510 =>
  z510)
  else
  (y501)) fun v511 =>
  v511) g0 a1 a2 (a1 * 6) m (zfu 49) 0 0 0 (a1 * 6)
-- WorkMeter$Calendar.secondsHeld
theorem c194_1 {s : Nat × (Nat → Int32)} {S : zS} {m0 m : zM} {B : Int} {d : Nat} {Q : Option zV → zM → Prop} (g0 : Nat) (a1 a2 : Int) (hd : 13 ≤ d) (hJ : J S m0 B m) (hB : B + 0 ≤ 1000000000) (ha1 : 0 ≤ a1 ∧ a1 ≤ 7) (ha2 : 0 ≤ a2 ∧ a2 ≤ 3) (hQ : ∀ (v : Int), ((-2147483648) ≤ v ∧ v ≤ 2147483647) → f194_1 g0 a1 a2 m = v → Q (some (zi v)) m) : X (EE s) d 194 0 [(0, zr g0 11), (1, zi a1), (2, zi a2)] [] m Q := by
  refine X.iload_n 1 (zi194 0) rfl rfl rfl ?_
  refine X.bipush 3 (zi194 1) rfl rfl (by decide) ?_
  refine X.imul 4 (zi194 3) rfl rfl (by omega) ?_
  refine X.istore_n 5 [(0, zr g0 11), (1, zi a1), (2, zi a2), (3, zi (a1 * 6))] (zi194 4) rfl rfl rfl ?_
  refine X.iconst 6 (zi194 5) rfl rfl (by decide) ?_
  refine X.istore 8 [(0, zr g0 11), (1, zi a1), (2, zi a2), (3, zi (a1 * 6)), (4, zi 0)] (zi194 6) rfl rfl rfl ?_
  refine X.iconst 9 (zi194 8) rfl rfl (by decide) ?_
  refine X.istore 11 [(0, zr g0 11), (1, zi a1), (2, zi a2), (3, zi (a1 * 6)), (4, zi 0), (5, zi 0)] (zi194 9) rfl rfl rfl ?_
  refine X.iconst 12 (zi194 11) rfl rfl (by decide) ?_
  refine X.istore 14 [(0, zr g0 11), (1, zi a1), (2, zi a2), (3, zi (a1 * 6)), (4, zi 0), (5, zi 0), (6, zi 0)] (zi194 12) rfl rfl rfl ?_
  refine X.iload_n 15 (zi194 14) rfl rfl rfl ?_
  refine X.istore 17 [(0, zr g0 11), (1, zi a1), (2, zi a2), (3, zi (a1 * 6)), (4, zi 0), (5, zi 0), (6, zi 0), (7, zi (a1 * 6))] (zi194 15) rfl rfl rfl ?_
  have hz49 := zfu_eq 49
  refine l194_17_1 (s := s) (m := m) (B := B) (d := d) (R0 := (f194_1 g0 a1 a2 m)) g0 a1 a2 (a1 * 6)  (by omega) (hJ.up (by omega)) (by omega) (by omega) (by omega) (by omega) (fun y501 y502 y503 hby501 hby502 hby503 hR507 => ?_) (zfu 49) 0 0 0 (a1 * 6) (by omega) (by omega) (by omega) (by omega) (by omega) rfl
  refine X.iload 77 (zi194 75) rfl rfl rfl ?_
  refine X.iload_n 78 (zi194 77) rfl rfl rfl ?_
  have hK514 : ∀ (v : Int) , ((-2147483648) ≤ v ∧ v ≤ 2147483647) → (if y503 = a2 then
      (zn (w32 (y501 + 86400)) fun z509 =>
      zn (w32 (z509 - y502)) fun z510 =>
      z510)
      else
      (y501)) = v → X (EE s) d 194 94 [] [zi v] m Q := by
    intro v511 hv511 hT515
    refine X.reti (zi194 94) rfl t194 ?_
    exact hQ v511 (by first | trivial | omega) (Eq.trans hR507 (Eq.trans (zn_eq hT515.symm) rfl)) 
  refine X.icmpne 92 81 (zi194 78) rfl rfl rfl (fun h508 => ?_) (fun h508 => ?_)
  · refine X.cut [(4, zi y501)] (zi194 92) rfl ?_
    refine X.iload 94 (zi194 92) rfl rfl rfl ?_
    refine X.cut [] (zi194 94) rfl ?_
    exact hK514 y501 (by first | trivial | omega) (Eq.trans (if_neg h508) rfl)
  · refine X.iload 83 (zi194 81) rfl rfl rfl ?_
    refine X.ldc 85 (zi194 83) rfl rfl (by decide) ?_
    refine X.iaddW 86 (zi194 85) rfl rfl (fun z509 ez509 hz509 => ?_)
    refine X.iload 88 (zi194 86) rfl rfl rfl ?_
    refine X.isubW 89 (zi194 88) rfl rfl (fun z510 ez510 hz510 => ?_)
    refine X.goto 94 (zi194 89) rfl rfl ?_
    refine X.cut [] (zi194 94) rfl ?_
    exact hK514 z510 (by first | trivial | omega) (Eq.trans (if_pos h508) (Eq.trans (zn_eq ez509) (Eq.trans (zn_eq ez510) rfl)))
-- WorkMeter.holds
noncomputable def f193_1 (a1 a2 : Int) (m : zM) : Int :=
  if a1 < 0 then
  ((-1))
  else
  (if 23148 < a1 then
  ((-1))
  else
  (if a2 < 0 then
  ((-1))
  else
  (if 4 ≤ a2 then
  ((-1))
  else
  (zn (f28_1 0 a1 m) fun v513 =>
  zn (f194_1 0 v513 a2 m) fun v516 =>
  v516))))
-- WorkMeter.holds
theorem c193_1 {s : Nat × (Nat → Int32)} {S : zS} {m0 m : zM} {B : Int} {d : Nat} {Q : Option zV → zM → Prop} (a1 a2 : Int) (hd : 15 ≤ d) (hJ : J S m0 B m) (hB : B + 0 ≤ 1000000000) (ha1 : (-2147483648) ≤ a1 ∧ a1 ≤ 2147483647) (ha2 : (-2147483648) ≤ a2 ∧ a2 ≤ 2147483647) (hQ : ∀ (v : Int), ((-2147483648) ≤ v ∧ v ≤ 2147483647) → f193_1 a1 a2 m = v → Q (some (zi v)) m) : X (EE s) d 193 0 [(0, zr 4 40), (1, zi a1), (2, zi a2)] [] m Q := by
  refine X.iload_n 1 (zi193 0) rfl rfl rfl ?_
  refine X.calls 4 [zi a1] [] [(0, zi a1)] (zi193 1) (by decide) rfl rfl (by omega) rfl rfl t150 (Nat.le_of_ble_eq_true rfl) (Nat.le_of_ble_eq_true rfl) rfl ?_
  refine X.iload_n 1 (zi150 0) rfl rfl rfl ?_
  refine X.iflt 15 4 (zi150 1) rfl rfl rfl (fun h501 => ?_) (fun h501 => ?_)
  · refine X.cut [] (zi150 15) rfl ?_
    refine X.iconst 16 (zi150 15) rfl rfl (by decide) ?_
    refine X.retz (zi150 16) rfl t150 (by omega) ?_
    show X (EE s) d 193 4 [(0, zr 4 40), (1, zi a1), (2, zi a2)] [zi 0] m _
    refine X.ifeq 14 7 (zi193 4) rfl rfl rfl (fun h502 => ?_) (fun h502 => (by exfalso; omega))
    refine X.cut [] (zi193 14) rfl ?_
    refine X.iconst 15 (zi193 14) rfl rfl (by decide) ?_
    refine X.reti (zi193 15) rfl t193 ?_
    exact hQ (-1) (by first | trivial | omega) (Eq.trans (if_pos h501) rfl) 
  · refine X.iload_n 5 (zi150 4) rfl rfl rfl ?_
    refine X.sipush 8 (zi150 5) rfl rfl (by decide) ?_
    refine X.icmpgt 15 11 (zi150 8) rfl rfl rfl (fun h503 => ?_) (fun h503 => ?_)
    · refine X.cut [] (zi150 15) rfl ?_
      refine X.iconst 16 (zi150 15) rfl rfl (by decide) ?_
      refine X.retz (zi150 16) rfl t150 (by omega) ?_
      show X (EE s) d 193 4 [(0, zr 4 40), (1, zi a1), (2, zi a2)] [zi 0] m _
      refine X.ifeq 14 7 (zi193 4) rfl rfl rfl (fun h504 => ?_) (fun h504 => (by exfalso; omega))
      refine X.cut [] (zi193 14) rfl ?_
      refine X.iconst 15 (zi193 14) rfl rfl (by decide) ?_
      refine X.reti (zi193 15) rfl t193 ?_
      exact hQ (-1) (by first | trivial | omega) (Eq.trans (if_neg h501) (Eq.trans (if_pos h503) rfl)) 
    · refine X.iconst 12 (zi150 11) rfl rfl (by decide) ?_
      refine X.goto 16 (zi150 12) rfl rfl ?_
      refine X.cut [] (zi150 16) rfl ?_
      refine X.retz (zi150 16) rfl t150 (by omega) ?_
      show X (EE s) d 193 4 [(0, zr 4 40), (1, zi a1), (2, zi a2)] [zi 1] m _
      refine X.ifeq 14 7 (zi193 4) rfl rfl rfl (fun h505 => (by exfalso; omega)) (fun h505 => ?_)
      refine X.iload_n 8 (zi193 7) rfl rfl rfl ?_
      refine X.calls 11 [zi a2] [] [(0, zi a2)] (zi193 8) (by decide) rfl rfl (by omega) rfl rfl t80 (Nat.le_of_ble_eq_true rfl) (Nat.le_of_ble_eq_true rfl) rfl ?_
      refine X.iload_n 1 (zi80 0) rfl rfl rfl ?_
      refine X.iflt 13 4 (zi80 1) rfl rfl rfl (fun h506 => ?_) (fun h506 => ?_)
      · refine X.cut [] (zi80 13) rfl ?_
        refine X.iconst 14 (zi80 13) rfl rfl (by decide) ?_
        refine X.retz (zi80 14) rfl t80 (by omega) ?_
        show X (EE s) d 193 11 [(0, zr 4 40), (1, zi a1), (2, zi a2)] [zi 0] m _
        refine X.ifne 16 14 (zi193 11) rfl rfl rfl (fun h507 => (by exfalso; omega)) (fun h507 => ?_)
        refine X.cut [] (zi193 14) rfl ?_
        refine X.iconst 15 (zi193 14) rfl rfl (by decide) ?_
        refine X.reti (zi193 15) rfl t193 ?_
        exact hQ (-1) (by first | trivial | omega) (Eq.trans (if_neg h501) (Eq.trans (if_neg h503) (Eq.trans (if_pos h506) rfl))) 
      · refine X.iload_n 5 (zi80 4) rfl rfl rfl ?_
        refine X.iconst 6 (zi80 5) rfl rfl (by decide) ?_
        refine X.icmpge 13 9 (zi80 6) rfl rfl rfl (fun h508 => ?_) (fun h508 => ?_)
        · refine X.cut [] (zi80 13) rfl ?_
          refine X.iconst 14 (zi80 13) rfl rfl (by decide) ?_
          refine X.retz (zi80 14) rfl t80 (by omega) ?_
          show X (EE s) d 193 11 [(0, zr 4 40), (1, zi a1), (2, zi a2)] [zi 0] m _
          refine X.ifne 16 14 (zi193 11) rfl rfl rfl (fun h509 => (by exfalso; omega)) (fun h509 => ?_)
          refine X.cut [] (zi193 14) rfl ?_
          refine X.iconst 15 (zi193 14) rfl rfl (by decide) ?_
          refine X.reti (zi193 15) rfl t193 ?_
          exact hQ (-1) (by first | trivial | omega) (Eq.trans (if_neg h501) (Eq.trans (if_neg h503) (Eq.trans (if_neg h506) (Eq.trans (if_pos h508) rfl)))) 
        · refine X.iconst 10 (zi80 9) rfl rfl (by decide) ?_
          refine X.goto 14 (zi80 10) rfl rfl ?_
          refine X.cut [] (zi80 14) rfl ?_
          refine X.retz (zi80 14) rfl t80 (by omega) ?_
          show X (EE s) d 193 11 [(0, zr 4 40), (1, zi a1), (2, zi a2)] [zi 1] m _
          refine X.ifne 16 14 (zi193 11) rfl rfl rfl (fun h510 => ?_) (fun h510 => (by exfalso; omega))
          refine X.aload_n 17 (zi193 16) rfl rfl rfl ?_
          refine X.getF 20 (zi193 17) rfl rfl (by decide) rfl rfl ?_
          refine X.getR 23 (zi193 20) rfl rfl (by decide) rfl rfl ?_
          refine X.aload_n 24 (zi193 23) rfl rfl rfl ?_
          refine X.getF 27 (zi193 24) rfl rfl (by decide) rfl rfl ?_
          refine X.getR 30 (zi193 27) rfl rfl (by decide) rfl rfl ?_
          refine X.iload_n 31 (zi193 30) rfl rfl rfl ?_
          refine X.callv 34 [zi a1] [zr 0 11] [(0, zr 0 11), (1, zi a1)] (zi193 31) rfl (by decide) rfl rfl (by omega) rfl rfl (by decide) rfl t28 (Nat.le_of_ble_eq_true rfl) (Nat.le_of_ble_eq_true rfl) rfl ?_
          refine c28_1 (B := B) 0 a1 (by omega) (hJ.up (by omega)) (by omega) (by omega) (fun v513 hv513 hFv513 => ?_)
          show X (EE s) d 193 34 [(0, zr 4 40), (1, zi a1), (2, zi a2)] [zi v513, zr 0 11] m _
          refine X.iload_n 35 (zi193 34) rfl rfl rfl ?_
          refine X.callv 38 [zi v513, zi a2] [] [(0, zr 0 11), (1, zi v513), (2, zi a2)] (zi193 35) rfl (by decide) rfl rfl (by omega) rfl rfl (by decide) rfl t194 (Nat.le_of_ble_eq_true rfl) (Nat.le_of_ble_eq_true rfl) rfl ?_
          refine c194_1 (B := B) 0 v513 a2 (by omega) (hJ.up (by omega)) (by omega) (by omega) (by omega) (fun v516 hv516 hFv516 => ?_)
          show X (EE s) d 193 38 [(0, zr 4 40), (1, zi a1), (2, zi a2)] [zi v516] m _
          refine X.reti (zi193 38) rfl t193 ?_
          exact hQ v516 (by first | trivial | omega) (Eq.trans (if_neg h501) (Eq.trans (if_neg h503) (Eq.trans (if_neg h506) (Eq.trans (if_neg h508) (Eq.trans (zn_eq hFv513.symm) (Eq.trans (zn_eq hFv516.symm) rfl)))))) 
noncomputable def fl253_52_1_b (self : Int → Int → Int → Int → Int) (k146 : Int → Int) (y2 y3 y4 : Int) (m : zM) (y5 y6 y7 y8 : Int) : Int :=
  if y4 < y8 then
  (k146 y5)
  else
  (zn (if y4 ≤ y8 then
  (86400)
  else
  ((m 4 45 ((295 + (6 * y3)) + y8)))) fun v610 =>
  zn (if y6 = y2 then
  ((v610 - y7))
  else
  (0)) fun v616 =>
  zn (w32 (y5 + v616)) fun z621 =>
  zn (if y4 ≤ y8 then
  (y6)
  else
  ((m 4 45 ((343 + (6 * y3)) + y8)))) fun v624 =>
  self z621 v624 v610 (y8 + 1))
noncomputable def fl253_52_1 (k146 : Int → Int) (y2 y3 y4 : Int) (m : zM) : Nat → Int → Int → Int → Int → Int
  | 0 => fun y5 y6 y7 y8 => 0
  | n + 1 => fl253_52_1_b (fl253_52_1 k146 y2 y3 y4 m n) k146 y2 y3 y4 m
theorem l253_52_1 {s : Nat × (Nat → Int32)} {S : zS} {m0 : zM} {m : zM} {B : Int} {d : Nat} {Q : Option zV → zM → Prop} {R0 : Int} {k146 : Int → Int} (y2 y3 y4 : Int) (hd : 13 ≤ d) (hJ : J S m0 B m) (hB9 : B ≤ 1000000000) (hy2 : 0 ≤ y2 ∧ y2 ≤ 3) (hy3 : 0 ≤ y3 ∧ y3 ≤ 7) (hy4 : 0 ≤ y4 ∧ y4 ≤ 6)
    (K146 : ∀ (x5 : Int) , ((-2147483648) ≤ x5 ∧ x5 ≤ 2147483647) → R0 = k146 x5 → X (EE s) d 253 146 [(5, zi x5)] [] m Q) :
    ∀ (n : Nat) (y5 y6 y7 y8 : Int) , ((-2147483648) ≤ y5 ∧ y5 ≤ 2147483647) → (0 ≤ y6 ∧ y6 ≤ 3) → (0 ≤ y7 ∧ y7 ≤ 86400) → (0 ≤ y8 ∧ y8 ≤ 7) → 7 - y8 < (n : Int) → R0 = fl253_52_1 k146 y2 y3 y4 m n y5 y6 y7 y8 → X (EE s) d 253 52 [(0, zr 4 44), (2, zi y2), (3, zi y3), (4, zi y4), (5, zi y5), (6, zi y6), (7, zi y7), (8, zi y8)] [] m Q := by
  intro n
  induction n with
  | zero =>
    intro y5 y6 y7 y8 hy5 hy6 hy7 hy8 hn hR
    exfalso
    omega
  | succ n ih =>
    intro y5 y6 y7 y8 hy5 hy6 hy7 hy8 hn hR
    replace hR : R0 = fl253_52_1_b (fl253_52_1 k146 y2 y3 y4 m n) k146 y2 y3 y4 m y5 y6 y7 y8 := hR
    refine X.iload 54 (zi253 52) rfl rfl rfl ?_
    refine X.iload 56 (zi253 54) rfl rfl rfl ?_
    refine X.icmpgt 146 59 (zi253 56) rfl rfl rfl (fun h607 => ?_) (fun h607 => ?_)
    · refine X.cut [(5, zi y5)] (zi253 146) rfl ?_
      exact K146 y5 (by first | trivial | omega) (Eq.trans hR (Eq.trans (if_pos h607) rfl))
    · refine X.iload 61 (zi253 59) rfl rfl rfl ?_
      refine X.iload 63 (zi253 61) rfl rfl rfl ?_
      have hK613 : ∀ (v : Int) , (0 ≤ v ∧ v ≤ 86400) → (if y4 ≤ y8 then
          (86400)
          else
          ((m 4 45 ((295 + (6 * y3)) + y8)))) = v → X (EE s) d 253 88 [(0, zr 4 44), (2, zi y2), (3, zi y3), (4, zi y4), (5, zi y5), (6, zi y6), (7, zi y7), (8, zi y8)] [zi v] m Q := by
        intro v610 hv610 hT614
        refine X.istore 90 [(0, zr 4 44), (2, zi y2), (3, zi y3), (4, zi y4), (5, zi y5), (6, zi y6), (7, zi y7), (8, zi y8), (9, zi v610)] (zi253 88) rfl rfl rfl ?_
        refine X.iload 92 (zi253 90) rfl rfl rfl ?_
        refine X.iload 94 (zi253 92) rfl rfl rfl ?_
        refine X.iload_n 95 (zi253 94) rfl rfl rfl ?_
        have hK619 : ∀ (v : Int) , ((-86400) ≤ v ∧ v ≤ 86400) → (if y6 = y2 then
            ((v610 - y7))
            else
            (0)) = v → X (EE s) d 253 107 [(0, zr 4 44), (2, zi y2), (3, zi y3), (4, zi y4), (6, zi y6), (8, zi y8), (9, zi v610)] [zi v, zi y5] m Q := by
          intro v616 hv616 hT620
          refine X.iaddW 108 (zi253 107) rfl rfl (fun z621 ez621 hz621 => ?_)
          refine X.istore 110 [(0, zr 4 44), (2, zi y2), (3, zi y3), (4, zi y4), (5, zi z621), (6, zi y6), (8, zi y8), (9, zi v610)] (zi253 108) rfl rfl rfl ?_
          refine X.iload 112 (zi253 110) rfl rfl rfl ?_
          refine X.istore 114 [(0, zr 4 44), (2, zi y2), (3, zi y3), (4, zi y4), (5, zi z621), (6, zi y6), (7, zi v610), (8, zi y8), (9, zi v610)] (zi253 112) rfl rfl rfl ?_
          refine X.iload 116 (zi253 114) rfl rfl rfl ?_
          refine X.iload 118 (zi253 116) rfl rfl rfl ?_
          have hK627 : ∀ (v : Int) , (0 ≤ v ∧ v ≤ 3) → (if y4 ≤ y8 then
              (y6)
              else
              ((m 4 45 ((343 + (6 * y3)) + y8)))) = v → X (EE s) d 253 140 [(0, zr 4 44), (2, zi y2), (3, zi y3), (4, zi y4), (5, zi z621), (6, zi v), (7, zi v610), (8, zi y8)] [] m Q := by
            intro v624 hv624 hT628
            refine X.iinc 143 [(0, zr 4 44), (2, zi y2), (3, zi y3), (4, zi y4), (5, zi z621), (6, zi v624), (7, zi v610), (8, zi (y8 + 1))] (zi253 140) rfl rfl rfl (by omega) rfl ?_
            refine X.goto 52 (zi253 143) rfl rfl ?_
            exact ih z621 v624 v610 (y8 + 1) (by omega) (by omega) (by omega) (by omega) (by omega) (Eq.trans hR (Eq.trans (if_neg h607) (Eq.trans (zn_eq hT614.symm) (Eq.trans (zn_eq hT620.symm) (Eq.trans (zn_eq ez621) (Eq.trans (zn_eq hT628.symm) rfl))))))
          refine X.icmpge 140 121 (zi253 118) rfl rfl rfl (fun h622 => ?_) (fun h622 => ?_)
          · refine X.cut [(0, zr 4 44), (2, zi y2), (3, zi y3), (4, zi y4), (5, zi z621), (6, zi y6), (7, zi v610), (8, zi y8)] (zi253 140) rfl ?_
            exact hK627 y6 (by first | trivial | omega) (Eq.trans (if_pos h622) rfl)
          · refine X.aload_n 122 (zi253 121) rfl rfl rfl ?_
            refine X.getF 125 (zi253 122) rfl rfl (by decide) rfl rfl ?_
            refine X.sipush 128 (zi253 125) rfl rfl (by decide) ?_
            refine X.bipush 130 (zi253 128) rfl rfl (by decide) ?_
            refine X.iload_n 131 (zi253 130) rfl rfl rfl ?_
            refine X.imul 132 (zi253 131) rfl rfl (by omega) ?_
            refine X.iadd 133 (zi253 132) rfl rfl (by omega) ?_
            refine X.iload 135 (zi253 133) rfl rfl rfl ?_
            refine X.iadd 136 (zi253 135) rfl rfl (by omega) ?_
            refine X.lald 137 (zi253 136) rfl rfl (by decide) rfl (by omega) ?_
            have h623 := r45_343 hJ 4 (i := ((343 + (6 * y3)) + y8)) (by omega)
            refine X.l2i 138 (zi253 137) rfl rfl (by omega) ?_
            refine X.istore 140 [(0, zr 4 44), (2, zi y2), (3, zi y3), (4, zi y4), (5, zi z621), (6, zi (m 4 45 ((343 + (6 * y3)) + y8))), (7, zi v610), (8, zi y8), (9, zi v610)] (zi253 138) rfl rfl rfl ?_
            refine X.cut [(0, zr 4 44), (2, zi y2), (3, zi y3), (4, zi y4), (5, zi z621), (6, zi (m 4 45 ((343 + (6 * y3)) + y8))), (7, zi v610), (8, zi y8)] (zi253 140) rfl ?_
            exact hK627 (m 4 45 ((343 + (6 * y3)) + y8)) (by first | trivial | omega) (Eq.trans (if_neg h622) rfl)
        refine X.icmpne 106 98 (zi253 95) rfl rfl rfl (fun h615 => ?_) (fun h615 => ?_)
        · refine X.cut [(0, zr 4 44), (2, zi y2), (3, zi y3), (4, zi y4), (6, zi y6), (8, zi y8), (9, zi v610)] (zi253 106) rfl ?_
          refine X.iconst 107 (zi253 106) rfl rfl (by decide) ?_
          exact hK619 0 (by first | trivial | omega) (Eq.trans (if_neg h615) rfl)
        · refine X.iload 100 (zi253 98) rfl rfl rfl ?_
          refine X.iload 102 (zi253 100) rfl rfl rfl ?_
          refine X.isub 103 (zi253 102) rfl rfl (by omega) ?_
          refine X.goto 107 (zi253 103) rfl rfl ?_
          refine X.cut [(0, zr 4 44), (2, zi y2), (3, zi y3), (4, zi y4), (6, zi y6), (8, zi y8), (9, zi v610)] (zi253 107) rfl ?_
          exact hK619 (v610 - y7) (by first | trivial | omega) (Eq.trans (if_pos h615) rfl)
      refine X.icmpge 86 66 (zi253 63) rfl rfl rfl (fun h608 => ?_) (fun h608 => ?_)
      · refine X.ldc 88 (zi253 86) rfl rfl (by decide) ?_
        exact hK613 86400 (by first | trivial | omega) (Eq.trans (if_pos h608) rfl)
      · refine X.aload_n 67 (zi253 66) rfl rfl rfl ?_
        refine X.getF 70 (zi253 67) rfl rfl (by decide) rfl rfl ?_
        refine X.sipush 73 (zi253 70) rfl rfl (by decide) ?_
        refine X.bipush 75 (zi253 73) rfl rfl (by decide) ?_
        refine X.iload_n 76 (zi253 75) rfl rfl rfl ?_
        refine X.imul 77 (zi253 76) rfl rfl (by omega) ?_
        refine X.iadd 78 (zi253 77) rfl rfl (by omega) ?_
        refine X.iload 80 (zi253 78) rfl rfl rfl ?_
        refine X.iadd 81 (zi253 80) rfl rfl (by omega) ?_
        refine X.lald 82 (zi253 81) rfl rfl (by decide) rfl (by omega) ?_
        have h609 := r45_295 hJ 4 (i := ((295 + (6 * y3)) + y8)) (by omega)
        refine X.l2i 83 (zi253 82) rfl rfl (by omega) ?_
        refine X.goto 88 (zi253 83) rfl rfl ?_
        exact hK613 (m 4 45 ((295 + (6 * y3)) + y8)) (by first | trivial | omega) (Eq.trans (if_neg h608) rfl)
-- WorkMeterModel.holds
noncomputable def f253_1 (a1 a2 : Int) (m : zM) : Int :=
  if a1 < 0 then
  ((-1))
  else
  (if a1 ≤ 23148 then
  (if a2 < 0 then
  ((-1))
  else
  (if a2 ≤ 3 then
  (zn (f218_1 a1 m) fun v517 =>
  fl253_52_1 (fun y519 =>
  y519) a2 v517 (m 4 45 (287 + v517)) m (zfu 8) 0 0 0 0)
  else
  ((-1))))
  else
  ((-1)))
-- WorkMeterModel.holds
theorem c253_1 {s : Nat × (Nat → Int32)} {S : zS} {m0 m : zM} {B : Int} {d : Nat} {Q : Option zV → zM → Prop} (a1 a2 : Int) (hd : 15 ≤ d) (hJ : J S m0 B m) (hB : B + 0 ≤ 1000000000) (ha1 : (-2147483648) ≤ a1 ∧ a1 ≤ 2147483647) (ha2 : (-2147483648) ≤ a2 ∧ a2 ≤ 2147483647) (hQ : ∀ (v : Int), ((-2147483648) ≤ v ∧ v ≤ 2147483647) → f253_1 a1 a2 m = v → Q (some (zi v)) m) : X (EE s) d 253 0 [(0, zr 4 44), (1, zi a1), (2, zi a2)] [] m Q := by
  refine X.iload_n 1 (zi253 0) rfl rfl rfl ?_
  refine X.i2l 2 (zi253 1) rfl rfl ?_
  refine X.lconst (y := 0) 3 (zi253 2) rfl rfl rfl ?_
  refine X.ldc2 6 (zi253 3) rfl rfl (by decide) ?_
  refine X.calls 9 [zl a1, zl 0, zl 23148] [] [(0, zl a1), (2, zl 0), (4, zl 23148)] (zi253 6) (by decide) rfl rfl (by omega) rfl rfl t204 (Nat.le_of_ble_eq_true rfl) (Nat.le_of_ble_eq_true rfl) rfl ?_
  refine X.lload_n 1 (zi204 0) rfl rfl rfl ?_
  refine X.lload_n 2 (zi204 1) rfl rfl rfl ?_
  refine X.lcmp 3 (zi204 2) rfl rfl (fun z501 hz501 => ?_)
  refine X.iflt 17 6 (zi204 3) rfl rfl rfl (fun h502 => ?_) (fun h502 => ?_)
  · have h502c : a1 < 0 := by omega
    clear h502 hz501
    refine X.cut [] (zi204 17) rfl ?_
    refine X.iconst 18 (zi204 17) rfl rfl (by decide) ?_
    refine X.retz (zi204 18) rfl t204 (by omega) ?_
    show X (EE s) d 253 9 [(0, zr 4 44), (1, zi a1), (2, zi a2)] [zi 0] m _
    refine X.ifeq 19 12 (zi253 9) rfl rfl rfl (fun h503 => ?_) (fun h503 => (by exfalso; omega))
    refine X.cut [] (zi253 19) rfl ?_
    refine X.iconst 20 (zi253 19) rfl rfl (by decide) ?_
    refine X.reti (zi253 20) rfl t253 ?_
    exact hQ (-1) (by first | trivial | omega) (Eq.trans (if_pos h502c) rfl) 
  · have h502c : ¬ a1 < 0 := by omega
    clear h502 hz501
    refine X.lload_n 7 (zi204 6) rfl rfl rfl ?_
    refine X.lload 9 (zi204 7) rfl rfl rfl ?_
    refine X.lcmp 10 (zi204 9) rfl rfl (fun z504 hz504 => ?_)
    refine X.ifgt 17 13 (zi204 10) rfl rfl rfl (fun h505 => ?_) (fun h505 => ?_)
    · have h505c : ¬ a1 ≤ 23148 := by omega
      clear h505 hz504
      refine X.cut [] (zi204 17) rfl ?_
      refine X.iconst 18 (zi204 17) rfl rfl (by decide) ?_
      refine X.retz (zi204 18) rfl t204 (by omega) ?_
      show X (EE s) d 253 9 [(0, zr 4 44), (1, zi a1), (2, zi a2)] [zi 0] m _
      refine X.ifeq 19 12 (zi253 9) rfl rfl rfl (fun h506 => ?_) (fun h506 => (by exfalso; omega))
      refine X.cut [] (zi253 19) rfl ?_
      refine X.iconst 20 (zi253 19) rfl rfl (by decide) ?_
      refine X.reti (zi253 20) rfl t253 ?_
      exact hQ (-1) (by first | trivial | omega) (Eq.trans (if_neg h502c) (Eq.trans (if_neg h505c) rfl)) 
    · have h505c : a1 ≤ 23148 := by omega
      clear h505 hz504
      refine X.iconst 14 (zi204 13) rfl rfl (by decide) ?_
      refine X.goto 18 (zi204 14) rfl rfl ?_
      refine X.cut [] (zi204 18) rfl ?_
      refine X.retz (zi204 18) rfl t204 (by omega) ?_
      show X (EE s) d 253 9 [(0, zr 4 44), (1, zi a1), (2, zi a2)] [zi 1] m _
      refine X.ifeq 19 12 (zi253 9) rfl rfl rfl (fun h507 => (by exfalso; omega)) (fun h507 => ?_)
      refine X.iload_n 13 (zi253 12) rfl rfl rfl ?_
      refine X.calls 16 [zi a2] [] [(0, zi a2)] (zi253 13) (by decide) rfl rfl (by omega) rfl rfl t242 (Nat.le_of_ble_eq_true rfl) (Nat.le_of_ble_eq_true rfl) rfl ?_
      refine X.iload_n 1 (zi242 0) rfl rfl rfl ?_
      refine X.i2l 2 (zi242 1) rfl rfl ?_
      refine X.lconst (y := 0) 3 (zi242 2) rfl rfl rfl ?_
      refine X.ldc2 6 (zi242 3) rfl rfl (by decide) ?_
      refine X.calls 9 [zl a2, zl 0, zl 3] [] [(0, zl a2), (2, zl 0), (4, zl 3)] (zi242 6) (by decide) rfl rfl (by omega) rfl rfl t204 (Nat.le_of_ble_eq_true rfl) (Nat.le_of_ble_eq_true rfl) rfl ?_
      refine X.lload_n 1 (zi204 0) rfl rfl rfl ?_
      refine X.lload_n 2 (zi204 1) rfl rfl rfl ?_
      refine X.lcmp 3 (zi204 2) rfl rfl (fun z508 hz508 => ?_)
      refine X.iflt 17 6 (zi204 3) rfl rfl rfl (fun h509 => ?_) (fun h509 => ?_)
      · have h509c : a2 < 0 := by omega
        clear h509 hz508
        refine X.cut [] (zi204 17) rfl ?_
        refine X.iconst 18 (zi204 17) rfl rfl (by decide) ?_
        refine X.retz (zi204 18) rfl t204 (by omega) ?_
        show X (EE s) (d - 1) 242 9 [(0, zi a2)] [zi 0] m _
        refine X.retz (zi242 9) rfl t242 (by omega) ?_
        show X (EE s) d 253 16 [(0, zr 4 44), (1, zi a1), (2, zi a2)] [zi 0] m _
        refine X.ifne 21 19 (zi253 16) rfl rfl rfl (fun h510 => (by exfalso; omega)) (fun h510 => ?_)
        refine X.cut [] (zi253 19) rfl ?_
        refine X.iconst 20 (zi253 19) rfl rfl (by decide) ?_
        refine X.reti (zi253 20) rfl t253 ?_
        exact hQ (-1) (by first | trivial | omega) (Eq.trans (if_neg h502c) (Eq.trans (if_pos h505c) (Eq.trans (if_pos h509c) rfl))) 
      · have h509c : ¬ a2 < 0 := by omega
        clear h509 hz508
        refine X.lload_n 7 (zi204 6) rfl rfl rfl ?_
        refine X.lload 9 (zi204 7) rfl rfl rfl ?_
        refine X.lcmp 10 (zi204 9) rfl rfl (fun z511 hz511 => ?_)
        refine X.ifgt 17 13 (zi204 10) rfl rfl rfl (fun h512 => ?_) (fun h512 => ?_)
        · have h512c : ¬ a2 ≤ 3 := by omega
          clear h512 hz511
          refine X.cut [] (zi204 17) rfl ?_
          refine X.iconst 18 (zi204 17) rfl rfl (by decide) ?_
          refine X.retz (zi204 18) rfl t204 (by omega) ?_
          show X (EE s) (d - 1) 242 9 [(0, zi a2)] [zi 0] m _
          refine X.retz (zi242 9) rfl t242 (by omega) ?_
          show X (EE s) d 253 16 [(0, zr 4 44), (1, zi a1), (2, zi a2)] [zi 0] m _
          refine X.ifne 21 19 (zi253 16) rfl rfl rfl (fun h513 => (by exfalso; omega)) (fun h513 => ?_)
          refine X.cut [] (zi253 19) rfl ?_
          refine X.iconst 20 (zi253 19) rfl rfl (by decide) ?_
          refine X.reti (zi253 20) rfl t253 ?_
          exact hQ (-1) (by first | trivial | omega) (Eq.trans (if_neg h502c) (Eq.trans (if_pos h505c) (Eq.trans (if_neg h509c) (Eq.trans (if_neg h512c) rfl)))) 
        · have h512c : a2 ≤ 3 := by omega
          clear h512 hz511
          refine X.iconst 14 (zi204 13) rfl rfl (by decide) ?_
          refine X.goto 18 (zi204 14) rfl rfl ?_
          refine X.cut [] (zi204 18) rfl ?_
          refine X.retz (zi204 18) rfl t204 (by omega) ?_
          show X (EE s) (d - 1) 242 9 [(0, zi a2)] [zi 1] m _
          refine X.retz (zi242 9) rfl t242 (by omega) ?_
          show X (EE s) d 253 16 [(0, zr 4 44), (1, zi a1), (2, zi a2)] [zi 1] m _
          refine X.ifne 21 19 (zi253 16) rfl rfl rfl (fun h514 => ?_) (fun h514 => (by exfalso; omega))
          refine X.aload_n 22 (zi253 21) rfl rfl rfl ?_
          refine X.iload_n 23 (zi253 22) rfl rfl rfl ?_
          refine X.callv 26 [zi a1] [] [(0, zr 4 44), (1, zi a1)] (zi253 23) rfl (by decide) rfl rfl (by omega) rfl rfl (by decide) rfl t218 (Nat.le_of_ble_eq_true rfl) (Nat.le_of_ble_eq_true rfl) rfl ?_
          refine c218_1 (B := B)  a1 (by omega) (hJ.up (by omega)) (by omega) (by omega) (fun v517 hv517 hFv517 => ?_)
          show X (EE s) d 253 26 [(0, zr 4 44), (1, zi a1), (2, zi a2)] [zi v517] m _
          refine X.istore_n 27 [(0, zr 4 44), (1, zi a1), (2, zi a2), (3, zi v517)] (zi253 26) rfl rfl rfl ?_
          refine X.aload_n 28 (zi253 27) rfl rfl rfl ?_
          refine X.getF 31 (zi253 28) rfl rfl (by decide) rfl rfl ?_
          refine X.sipush 34 (zi253 31) rfl rfl (by decide) ?_
          refine X.iload_n 35 (zi253 34) rfl rfl rfl ?_
          refine X.iadd 36 (zi253 35) rfl rfl (by omega) ?_
          refine X.lald 37 (zi253 36) rfl rfl (by decide) rfl (by omega) ?_
          have h518 := r45_287 hJ 4 (i := (287 + v517)) (by omega)
          refine X.l2i 38 (zi253 37) rfl rfl (by omega) ?_
          refine X.istore 40 [(0, zr 4 44), (1, zi a1), (2, zi a2), (3, zi v517), (4, zi (m 4 45 (287 + v517)))] (zi253 38) rfl rfl rfl ?_
          refine X.iconst 41 (zi253 40) rfl rfl (by decide) ?_
          refine X.istore 43 [(0, zr 4 44), (1, zi a1), (2, zi a2), (3, zi v517), (4, zi (m 4 45 (287 + v517))), (5, zi 0)] (zi253 41) rfl rfl rfl ?_
          refine X.iconst 44 (zi253 43) rfl rfl (by decide) ?_
          refine X.istore 46 [(0, zr 4 44), (1, zi a1), (2, zi a2), (3, zi v517), (4, zi (m 4 45 (287 + v517))), (5, zi 0), (6, zi 0)] (zi253 44) rfl rfl rfl ?_
          refine X.iconst 47 (zi253 46) rfl rfl (by decide) ?_
          refine X.istore 49 [(0, zr 4 44), (1, zi a1), (2, zi a2), (3, zi v517), (4, zi (m 4 45 (287 + v517))), (5, zi 0), (6, zi 0), (7, zi 0)] (zi253 47) rfl rfl rfl ?_
          refine X.iconst 50 (zi253 49) rfl rfl (by decide) ?_
          refine X.istore 52 [(0, zr 4 44), (1, zi a1), (2, zi a2), (3, zi v517), (4, zi (m 4 45 (287 + v517))), (5, zi 0), (6, zi 0), (7, zi 0), (8, zi 0)] (zi253 50) rfl rfl rfl ?_
          refine X.cut [(0, zr 4 44), (2, zi a2), (3, zi v517), (4, zi (m 4 45 (287 + v517))), (5, zi 0), (6, zi 0), (7, zi 0), (8, zi 0)] (zi253 52) rfl ?_
          have hz8 := zfu_eq 8
          refine l253_52_1 (s := s) (m := m) (B := B) (d := d) (R0 := (f253_1 a1 a2 m))  a2 v517 (m 4 45 (287 + v517))  (by omega) (hJ.up (by omega)) (by omega) (by omega) (by omega) (by omega) (fun y519 hby519 hR523 => ?_) (zfu 8) 0 0 0 0 (by omega) (by omega) (by omega) (by omega) (by omega) (Eq.trans (if_neg h502c) (Eq.trans (if_pos h505c) (Eq.trans (if_neg h509c) (Eq.trans (if_pos h512c) (Eq.trans (zn_eq hFv517.symm) rfl)))))
          refine X.iload 148 (zi253 146) rfl rfl rfl ?_
          refine X.reti (zi253 148) rfl t253 ?_
          exact hQ y519 (by first | trivial | omega) (Eq.trans hR523 rfl) 
-- WorkMeter.image
noncomputable def f195_1 (a1 : Int) (m : zM) : Int × zM :=
  zs (if a1 = 0 then
  (if (m 4 40 4) = 0 then
  (m)
  else
  (zs (f171_1 0 1 m) fun m504 =>
  m504))
  else
  (zs (f171_1 1 0 m) fun m507 =>
  zs (z_upd m507 4 40 4 1) fun m510 =>
  m510)) fun m513 =>
  ((m513 4 40 4), m513)
-- WorkMeter.image
theorem c195_1 {s : Nat × (Nat → Int32)} {S : zS} {m0 m : zM} {B : Int} {d : Nat} {Q : Option zV → zM → Prop} (a1 : Int) (hd : 15 ≤ d) (hJ : J S m0 B m) (hB : B + 4 ≤ 1000000000) (ha1 : 0 ≤ a1 ∧ a1 ≤ 1) (hf1 : ¬ S.1 1) (hf2 : ¬ S.1 2) (hf3 : ¬ S.1 3) (hf4 : ¬ S.1 4) (hf5 : ¬ S.1 5) (hf6 : ¬ S.1 6) (hf7 : ¬ S.1 7) (hf8 : ¬ S.1 8) (hf9 : ¬ S.1 9) (hf10 : ¬ S.1 10) (hf11 : ¬ S.1 11) (hf12 : ¬ S.1 12) (hf13 : ¬ S.1 13) (hf14 : ¬ S.1 14) (hg0 : ¬ S.2.1 0) (hg1 : ¬ S.2.1 1) (hg4 : ¬ S.2.1 4) (hQ : ∀ (v : Int) m', (0 ≤ v ∧ v ≤ 1) → f195_1 a1 m = (v, m') → J S m0 (B + 4) m' → Q (some (zi v)) m') : X (EE s) d 195 0 [(0, zr 4 40), (1, zi a1)] [] m Q := by
  refine X.iload_n 1 (zi195 0) rfl rfl rfl ?_
  have hK515 : ∀ (m' : zM), (if a1 = 0 then
      (if (m 4 40 4) = 0 then
      (m)
      else
      (zs (f171_1 0 1 m) fun m504 =>
      m504))
      else
      (zs (f171_1 1 0 m) fun m507 =>
      zs (z_upd m507 4 40 4 1) fun m510 =>
      m510)) = m' → J S m0 (B + 4) m' → X (EE s) d 195 41 [(0, zr 4 40)] [] m' Q := by
    intro m513 hT516 hJ514
    refine X.aload_n 42 (zi195 41) rfl rfl rfl ?_
    refine X.getZ 45 4 (zi195 42) rfl rfl (by decide) rfl rfl rfl (fun h517 => ?_)
    refine X.retz (zi195 45) rfl t195 (by omega) ?_
    exact hQ (m513 4 40 4) m513 (by first | trivial | omega) (Eq.trans (zs_eq hT516.symm) rfl) (hJ514.up (by omega)) 
  refine X.ifeq 23 4 (zi195 1) rfl rfl rfl (fun h501 => ?_) (fun h501 => ?_)
  · refine X.cut [(0, zr 4 40)] (zi195 23) rfl ?_
    refine X.aload_n 24 (zi195 23) rfl rfl rfl ?_
    refine X.getZ 27 4 (zi195 24) rfl rfl (by decide) rfl rfl rfl (fun h502 => ?_)
    refine X.ifeq 41 30 (zi195 27) rfl rfl rfl (fun h503 => ?_) (fun h503 => ?_)
    · exact hK515 m (Eq.trans (if_pos h501) (Eq.trans (if_pos h503) rfl)) (hJ.up (by omega))
    · refine X.aload_n 31 (zi195 30) rfl rfl rfl ?_
      refine X.getF 34 (zi195 31) rfl rfl (by decide) rfl rfl ?_
      refine X.aload_n 35 (zi195 34) rfl rfl rfl ?_
      refine X.getF 38 (zi195 35) rfl rfl (by decide) rfl rfl ?_
      refine X.callv 41 [zr 1 8] [] [(0, zr 0 8), (1, zr 1 8)] (zi195 38) rfl (by decide) rfl rfl (by omega) rfl rfl (by decide) rfl t171 (Nat.le_of_ble_eq_true rfl) (Nat.le_of_ble_eq_true rfl) rfl ?_
      refine c171_1 (B := B) 0 1  (by omega) (hJ.up (by omega)) (by omega)  hf1 hf2 hf3 hf4 hf5 hf6 hf7 hf8 hf9 hf10 hf11 hf12 hf13 hg0 (fun m504 hFv506 hJ505 => ?_)
      show X (EE s) d 195 41 [(0, zr 4 40)] [] m504 _
      exact hK515 m504 (Eq.trans (if_pos h501) (Eq.trans (if_neg h503) (Eq.trans (zs_eq hFv506.symm) rfl))) (hJ505.up (by omega))
  · refine X.aload_n 5 (zi195 4) rfl rfl rfl ?_
    refine X.getF 8 (zi195 5) rfl rfl (by decide) rfl rfl ?_
    refine X.aload_n 9 (zi195 8) rfl rfl rfl ?_
    refine X.getF 12 (zi195 9) rfl rfl (by decide) rfl rfl ?_
    refine X.callv 15 [zr 0 8] [] [(0, zr 1 8), (1, zr 0 8)] (zi195 12) rfl (by decide) rfl rfl (by omega) rfl rfl (by decide) rfl t171 (Nat.le_of_ble_eq_true rfl) (Nat.le_of_ble_eq_true rfl) rfl ?_
    refine c171_1 (B := B) 1 0  (by omega) (hJ.up (by omega)) (by omega)  hf1 hf2 hf3 hf4 hf5 hf6 hf7 hf8 hf9 hf10 hf11 hf12 hf13 hg1 (fun m507 hFv509 hJ508 => ?_)
    show X (EE s) d 195 15 [(0, zr 4 40), (1, zi a1)] [] m507 _
    refine X.aload_n 16 (zi195 15) rfl rfl rfl ?_
    refine X.iconst 17 (zi195 16) rfl rfl (by decide) ?_
    refine X.putZ' 20 4 (zi195 17) rfl rfl (by decide) rfl rfl rfl (by omega) (fun hrm510 m510 hm510 => ?_)
    have hJ511 := w40_4 hJ508 hm510 (by omega) hf14 hg4
    refine X.goto 41 (zi195 20) rfl rfl ?_
    refine X.cut [(0, zr 4 40)] (zi195 41) rfl ?_
    exact hK515 m510 (Eq.trans (if_neg h501) (Eq.trans (zs_eq hFv509.symm) (Eq.trans (zs_eq hm510) rfl))) (hJ511.up (by omega))
-- WorkMeterModel.image
noncomputable def f314_1 (a1 : Int) (m : zM) : Int × zM :=
  if a1 = 0 then
  (if (m 4 44 3) = 0 then
  ((0, m))
  else
  (zs (z_cpy m 4 45 4 47 0 0 1619) fun m511 =>
  zs (z_upd m511 4 44 3 1) fun m514 =>
  (1, m514)))
  else
  (zs (z_cpy m 4 47 4 45 0 0 1619) fun m503 =>
  zs (z_upd m503 4 44 3 1) fun m506 =>
  (1, m506))
-- WorkMeterModel.image
theorem c314_1 {s : Nat × (Nat → Int32)} {S : zS} {m0 m : zM} {B : Int} {d : Nat} {Q : Option zV → zM → Prop} (a1 : Int) (hd : 14 ≤ d) (hJ : J S m0 B m) (hB : B + 0 ≤ 1000000000) (ha1 : 0 ≤ a1 ∧ a1 ≤ 1) (hf21 : ¬ S.1 21) (hf22 : ¬ S.1 22) (hf23 : ¬ S.1 23) (hf24 : ¬ S.1 24) (hf25 : ¬ S.1 25) (hf26 : ¬ S.1 26) (hf27 : ¬ S.1 27) (hf28 : ¬ S.1 28) (hf29 : ¬ S.1 29) (hf30 : ¬ S.1 30) (hf31 : ¬ S.1 31) (hf32 : ¬ S.1 32) (hf33 : ¬ S.1 33) (hf34 : ¬ S.1 34) (hf37 : ¬ S.1 37) (hg4 : ¬ S.2.1 4) (hQ : ∀ (v : Int) m', (0 ≤ v ∧ v ≤ 1) → f314_1 a1 m = (v, m') → J S m0 (B) m' → Q (some (zi v)) m') : X (EE s) d 314 0 [(0, zr 4 44), (1, zi a1)] [] m Q := by
  refine X.iload_n 1 (zi314 0) rfl rfl rfl ?_
  refine X.ifne 13 4 (zi314 1) rfl rfl rfl (fun h501 => ?_) (fun h501 => ?_)
  · refine X.iload_n 14 (zi314 13) rfl rfl rfl ?_
    refine X.ifeq 31 17 (zi314 14) rfl rfl rfl (fun h502 => (by exfalso; omega)) (fun h502 => ?_)
    refine X.aload_n 18 (zi314 17) rfl rfl rfl ?_
    refine X.getF 21 (zi314 18) rfl rfl (by decide) rfl rfl ?_
    refine X.aload_n 22 (zi314 21) rfl rfl rfl ?_
    refine X.getF 25 (zi314 22) rfl rfl (by decide) rfl rfl ?_
    refine X.calls 28 [zr 4 45, zr 4 47] [] [(0, zr 4 45), (1, zr 4 47)] (zi314 25) (by decide) rfl rfl (by omega) rfl rfl t261 (Nat.le_of_ble_eq_true rfl) (Nat.le_of_ble_eq_true rfl) rfl ?_
    refine c_cq_45_47 (S := S) (B := B) (by omega) (hJ)  hf37 hg4 (fun m503 hFv505 hJ504 => ?_)
    have wcm503 : m503 4 44 3 = m 4 44 3 := by rw [hFv505]; exact z_cpy_o rfl
    show X (EE s) d 314 28 [(0, zr 4 44), (1, zi a1)] [] m503 _
    refine X.goto 42 (zi314 28) rfl rfl ?_
    refine X.cut [(0, zr 4 44)] (zi314 42) rfl ?_
    refine X.aload_n 43 (zi314 42) rfl rfl rfl ?_
    refine X.iconst 44 (zi314 43) rfl rfl (by decide) ?_
    refine X.putZ' 47 3 (zi314 44) rfl rfl (by decide) rfl rfl rfl (by omega) (fun hrm506 m506 hm506 => ?_)
    have hJ507 := J.img hJ504 hm506 (by omega) (by first | exact .inl trivial | exact .inr (by omega)) hf34 hg4
    refine X.iconst 48 (zi314 47) rfl rfl (by decide) ?_
    refine X.retz (zi314 48) rfl t314 (by omega) ?_
    exact hQ 1 m506 (by first | trivial | omega) (Eq.trans (if_neg h501) (Eq.trans (zs_eq hFv505) (Eq.trans (zs_eq hm506) rfl))) ((J.wk (p' := S.2.2.1) (q' := S.2.2.2) hJ507 (fun h => by first | trivial | exact h) (fun h => by first | trivial | exact h)).up (by omega)) 
  · refine X.aload_n 5 (zi314 4) rfl rfl rfl ?_
    refine X.getZ 8 3 (zi314 5) rfl rfl (by decide) rfl rfl rfl (fun h508 => ?_)
    refine X.ifne 13 11 (zi314 8) rfl rfl rfl (fun h509 => ?_) (fun h509 => ?_)
    · refine X.iload_n 14 (zi314 13) rfl rfl rfl ?_
      refine X.ifeq 31 17 (zi314 14) rfl rfl rfl (fun h510 => ?_) (fun h510 => (by exfalso; omega))
      refine X.cut [(0, zr 4 44)] (zi314 31) rfl ?_
      refine X.aload_n 32 (zi314 31) rfl rfl rfl ?_
      refine X.getF 35 (zi314 32) rfl rfl (by decide) rfl rfl ?_
      refine X.aload_n 36 (zi314 35) rfl rfl rfl ?_
      refine X.getF 39 (zi314 36) rfl rfl (by decide) rfl rfl ?_
      refine X.calls 42 [zr 4 47, zr 4 45] [] [(0, zr 4 47), (1, zr 4 45)] (zi314 39) (by decide) rfl rfl (by omega) rfl rfl t261 (Nat.le_of_ble_eq_true rfl) (Nat.le_of_ble_eq_true rfl) rfl ?_
      refine c_cq_47_45 (S := S) (B := B) (by omega) (hJ) (.inr (by omega)) hf21 hf22 hf23 hf24 hf25 hf26 hf27 hf28 hf29 hf30 hf31 hf32 hf33 hg4 (fun m511 hFv513 hJ512 => ?_)
      have wcm511 : m511 4 44 3 = m 4 44 3 := by rw [hFv513]; exact z_cpy_o rfl
      show X (EE s) d 314 42 [(0, zr 4 44)] [] m511 _
      refine X.aload_n 43 (zi314 42) rfl rfl rfl ?_
      refine X.iconst 44 (zi314 43) rfl rfl (by decide) ?_
      refine X.putZ' 47 3 (zi314 44) rfl rfl (by decide) rfl rfl rfl (by omega) (fun hrm514 m514 hm514 => ?_)
      have hJ515 := J.img hJ512 hm514 (by omega) (by first | exact .inl trivial | exact .inr (by omega)) hf34 hg4
      refine X.iconst 48 (zi314 47) rfl rfl (by decide) ?_
      refine X.retz (zi314 48) rfl t314 (by omega) ?_
      exact hQ 1 m514 (by first | trivial | omega) (Eq.trans (if_pos h501) (Eq.trans (if_neg h509) (Eq.trans (zs_eq hFv513) (Eq.trans (zs_eq hm514) rfl)))) (hJ515.up (by omega)) 
    · refine X.iconst 12 (zi314 11) rfl rfl (by decide) ?_
      refine X.retz (zi314 12) rfl t314 (by omega) ?_
      exact hQ 0 m (by first | trivial | omega) (Eq.trans (if_pos h501) (Eq.trans (if_pos h509) rfl)) (hJ.up (by omega)) 
-- WorkMeter.settingLookedAt
noncomputable def f200_1 (a0 : Int) (m : zM) : Int :=
  if a0 < 20 then
  ((-1))
  else
  (if 25 < a0 then
  (if a0 < 30 then
  ((-1))
  else
  (if 33 < a0 then
  (if a0 < 50 then
  ((-1))
  else
  (if 52 < a0 then
  ((-1))
  else
  (((a0 - 50) + 20))))
  else
  (((a0 - 30) + 10))))
  else
  (((a0 - 20) + 0)))
-- WorkMeter.settingLookedAt
theorem c200_1 {s : Nat × (Nat → Int32)} {S : zS} {m0 m : zM} {B : Int} {d : Nat} {Q : Option zV → zM → Prop} (a0 : Int) (hd : 13 ≤ d) (hJ : J S m0 B m) (hB : B + 0 ≤ 1000000000) (ha0 : (-2147483648) ≤ a0 ∧ a0 ≤ 2147483647) (hQ : ∀ (v : Int), ((-1) ≤ v ∧ v ≤ 22) → f200_1 a0 m = v → Q (some (zi v)) m) : X (EE s) d 200 0 [(0, zi a0)] [] m Q := by
  refine X.iload_n 1 (zi200 0) rfl rfl rfl ?_
  refine X.bipush 3 (zi200 1) rfl rfl (by decide) ?_
  refine X.icmplt 19 6 (zi200 3) rfl rfl rfl (fun h501 => ?_) (fun h501 => ?_)
  · refine X.iload_n 20 (zi200 19) rfl rfl rfl ?_
    refine X.bipush 22 (zi200 20) rfl rfl (by decide) ?_
    refine X.icmplt 39 25 (zi200 22) rfl rfl rfl (fun h502 => ?_) (fun h502 => (by exfalso; omega))
    refine X.iload_n 40 (zi200 39) rfl rfl rfl ?_
    refine X.bipush 42 (zi200 40) rfl rfl (by decide) ?_
    refine X.icmplt 59 45 (zi200 42) rfl rfl rfl (fun h503 => ?_) (fun h503 => (by exfalso; omega))
    refine X.cut [] (zi200 59) rfl ?_
    refine X.iconst 60 (zi200 59) rfl rfl (by decide) ?_
    refine X.reti (zi200 60) rfl t200 ?_
    exact hQ (-1) (by first | trivial | omega) (Eq.trans (if_pos h501) rfl) 
  · refine X.iload_n 7 (zi200 6) rfl rfl rfl ?_
    refine X.bipush 9 (zi200 7) rfl rfl (by decide) ?_
    refine X.icmpgt 19 12 (zi200 9) rfl rfl rfl (fun h504 => ?_) (fun h504 => ?_)
    · refine X.iload_n 20 (zi200 19) rfl rfl rfl ?_
      refine X.bipush 22 (zi200 20) rfl rfl (by decide) ?_
      refine X.icmplt 39 25 (zi200 22) rfl rfl rfl (fun h505 => ?_) (fun h505 => ?_)
      · refine X.iload_n 40 (zi200 39) rfl rfl rfl ?_
        refine X.bipush 42 (zi200 40) rfl rfl (by decide) ?_
        refine X.icmplt 59 45 (zi200 42) rfl rfl rfl (fun h506 => ?_) (fun h506 => (by exfalso; omega))
        refine X.cut [] (zi200 59) rfl ?_
        refine X.iconst 60 (zi200 59) rfl rfl (by decide) ?_
        refine X.reti (zi200 60) rfl t200 ?_
        exact hQ (-1) (by first | trivial | omega) (Eq.trans (if_neg h501) (Eq.trans (if_pos h504) (Eq.trans (if_pos h505) rfl))) 
      · refine X.iload_n 26 (zi200 25) rfl rfl rfl ?_
        refine X.bipush 28 (zi200 26) rfl rfl (by decide) ?_
        refine X.icmpgt 39 31 (zi200 28) rfl rfl rfl (fun h507 => ?_) (fun h507 => ?_)
        · refine X.iload_n 40 (zi200 39) rfl rfl rfl ?_
          refine X.bipush 42 (zi200 40) rfl rfl (by decide) ?_
          refine X.icmplt 59 45 (zi200 42) rfl rfl rfl (fun h508 => ?_) (fun h508 => ?_)
          · refine X.cut [] (zi200 59) rfl ?_
            refine X.iconst 60 (zi200 59) rfl rfl (by decide) ?_
            refine X.reti (zi200 60) rfl t200 ?_
            exact hQ (-1) (by first | trivial | omega) (Eq.trans (if_neg h501) (Eq.trans (if_pos h504) (Eq.trans (if_neg h505) (Eq.trans (if_pos h507) (Eq.trans (if_pos h508) rfl))))) 
          · refine X.iload_n 46 (zi200 45) rfl rfl rfl ?_
            refine X.bipush 48 (zi200 46) rfl rfl (by decide) ?_
            refine X.icmpgt 59 51 (zi200 48) rfl rfl rfl (fun h509 => ?_) (fun h509 => ?_)
            · refine X.cut [] (zi200 59) rfl ?_
              refine X.iconst 60 (zi200 59) rfl rfl (by decide) ?_
              refine X.reti (zi200 60) rfl t200 ?_
              exact hQ (-1) (by first | trivial | omega) (Eq.trans (if_neg h501) (Eq.trans (if_pos h504) (Eq.trans (if_neg h505) (Eq.trans (if_pos h507) (Eq.trans (if_neg h508) (Eq.trans (if_pos h509) rfl)))))) 
            · refine X.iload_n 52 (zi200 51) rfl rfl rfl ?_
              refine X.bipush 54 (zi200 52) rfl rfl (by decide) ?_
              refine X.isub 55 (zi200 54) rfl rfl (by omega) ?_
              refine X.bipush 57 (zi200 55) rfl rfl (by decide) ?_
              refine X.iadd 58 (zi200 57) rfl rfl (by omega) ?_
              refine X.reti (zi200 58) rfl t200 ?_
              exact hQ ((a0 - 50) + 20) (by first | trivial | omega) (Eq.trans (if_neg h501) (Eq.trans (if_pos h504) (Eq.trans (if_neg h505) (Eq.trans (if_pos h507) (Eq.trans (if_neg h508) (Eq.trans (if_neg h509) rfl)))))) 
        · refine X.iload_n 32 (zi200 31) rfl rfl rfl ?_
          refine X.bipush 34 (zi200 32) rfl rfl (by decide) ?_
          refine X.isub 35 (zi200 34) rfl rfl (by omega) ?_
          refine X.bipush 37 (zi200 35) rfl rfl (by decide) ?_
          refine X.iadd 38 (zi200 37) rfl rfl (by omega) ?_
          refine X.reti (zi200 38) rfl t200 ?_
          exact hQ ((a0 - 30) + 10) (by first | trivial | omega) (Eq.trans (if_neg h501) (Eq.trans (if_pos h504) (Eq.trans (if_neg h505) (Eq.trans (if_neg h507) rfl)))) 
    · refine X.iload_n 13 (zi200 12) rfl rfl rfl ?_
      refine X.bipush 15 (zi200 13) rfl rfl (by decide) ?_
      refine X.isub 16 (zi200 15) rfl rfl (by omega) ?_
      refine X.iconst 17 (zi200 16) rfl rfl (by decide) ?_
      refine X.iadd 18 (zi200 17) rfl rfl (by omega) ?_
      refine X.reti (zi200 18) rfl t200 ?_
      exact hQ ((a0 - 20) + 0) (by first | trivial | omega) (Eq.trans (if_neg h501) (Eq.trans (if_neg h504) rfl)) 
-- WorkMeter$Settings.value
theorem c168_4 {s : Nat × (Nat → Int32)} {S : zS} {m0 m : zM} {B : Int} {d : Nat} {Q : Option zV → zM → Prop} (g0 : Nat) (a1 : Int) (hd : 14 ≤ d) (hJ : J S m0 B m) (hB : B + 0 ≤ 1000000000) (ha1 : 0 ≤ a1 ∧ a1 ≤ 22) (hQ : ∀ (v : Int), ((-1) ≤ v ∧ v ≤ 1000000) → f168_1 g0 a1 m = v → Q (some (zi v)) m) : X (EE s) d 168 0 [(0, zr g0 9), (1, zi a1)] [] m Q := by
  refine X.iload_n 1 (zi168 0) rfl rfl rfl ?_
  refine X.calls 4 [zi a1] [] [(0, zi a1)] (zi168 1) (by decide) rfl rfl (by omega) rfl rfl t76 (Nat.le_of_ble_eq_true rfl) (Nat.le_of_ble_eq_true rfl) rfl ?_
  refine c76_1 (B := B)  a1 (by omega) (hJ.up (by omega)) (by omega) (by omega) (fun v503 hv503 hFv503 hqv503_0 hqv503_1 => ?_)
  show X (EE s) d 168 4 [(0, zr g0 9), (1, zi a1)] [zi v503] m _
  refine X.istore_n 5 [(0, zr g0 9), (1, zi a1), (2, zi v503)] (zi168 4) rfl rfl rfl ?_
  refine X.iload_n 6 (zi168 5) rfl rfl rfl ?_
  refine X.iconst 7 (zi168 6) rfl rfl (by decide) ?_
  have hK509 : ∀ (v : Int) , ((-1) ≤ v ∧ v ≤ 1000000) → (if v503 = (-1) then
      ((-1))
      else
      ((m g0 10 v503))) = v → X (EE s) d 168 20 [] [zi v] m Q := by
    intro v506 hv506 hT510
    refine X.reti (zi168 20) rfl t168 ?_
    exact hQ v506 (by first | trivial | omega) (Eq.trans (zn_eq hFv503.symm) (Eq.trans (zn_eq hT510.symm) rfl)) 
  refine X.icmpne 14 10 (zi168 7) rfl rfl rfl (fun h504 => ?_) (fun h504 => ?_)
  · refine X.cut [(0, zr g0 9), (2, zi v503)] (zi168 14) rfl ?_
    refine X.aload_n 15 (zi168 14) rfl rfl rfl ?_
    refine X.getR 18 (zi168 15) rfl rfl (by decide) rfl rfl ?_
    refine X.iload_n 19 (zi168 18) rfl rfl rfl ?_
    refine X.iald 20 (zi168 19) rfl rfl (by decide) rfl (by omega) ?_
    have h505 := r10_all hJ g0 (i := v503) (by omega)
    refine X.cut [] (zi168 20) rfl ?_
    exact hK509 (m g0 10 v503) (by first | trivial | omega) (Eq.trans (if_neg h504) rfl)
  · refine X.iconst 11 (zi168 10) rfl rfl (by decide) ?_
    refine X.goto 20 (zi168 11) rfl rfl ?_
    refine X.cut [] (zi168 20) rfl ?_
    exact hK509 (-1) (by first | trivial | omega) (Eq.trans (if_pos h504) rfl)
-- WorkMeter.lookAtSeal
noncomputable def f199_1 (a1 : Int) (m : zM) : Int :=
  if a1 = 53 then
  (zn (if (m 0 39 0) = 0 then
  (0)
  else
  (1)) fun v504 =>
  v504)
  else
  (if a1 = 54 then
  ((m 0 39 2))
  else
  (if a1 = 55 then
  (zn (f118_1 0 (m 0 8 9) m) fun v515 =>
  v515)
  else
  (if a1 = 56 then
  ((m 0 39 3))
  else
  (if a1 = 57 then
  ((m 4 41 3))
  else
  ((-10000000000))))))
-- WorkMeter.lookAtSeal
theorem c199_1 {s : Nat × (Nat → Int32)} {S : zS} {m0 m : zM} {B : Int} {d : Nat} {Q : Option zV → zM → Prop} (a1 : Int) (hd : 14 ≤ d) (hJ : J S m0 B m) (hB : B + 0 ≤ 1000000000) (ha1 : 53 ≤ a1 ∧ a1 ≤ 2147483647) (hQ : ∀ (v : Int), ((-10000000000) ≤ v ∧ v ≤ 2147483647) → f199_1 a1 m = v → Q (some (zl v)) m) : X (EE s) d 199 0 [(0, zr 4 40), (1, zi a1)] [] m Q := by
  refine X.iload_n 1 (zi199 0) rfl rfl rfl ?_
  by_cases h501 : a1 = 53
  · refine X.tsIn 36 0 (zi199 1) rfl (by omega) rfl rfl ?_
    refine X.cut [(0, zr 4 40)] (zi199 36) rfl ?_
    refine X.aload_n 37 (zi199 36) rfl rfl rfl ?_
    refine X.getF 40 (zi199 37) rfl rfl (by decide) rfl rfl ?_
    refine X.getR 43 (zi199 40) rfl rfl (by decide) rfl rfl ?_
    refine X.getZ 46 0 (zi199 43) rfl rfl (by decide) rfl rfl rfl (fun h502 => ?_)
    have hK507 : ∀ (v : Int) , (0 ≤ v ∧ v ≤ 1) → (if (m 0 39 0) = 0 then
        (0)
        else
        (1)) = v → X (EE s) d 199 54 [] [zl v] m Q := by
      intro v504 hv504 hT508
      refine X.retl (zi199 54) rfl t199 ?_
      exact hQ v504 (by first | trivial | omega) (Eq.trans (if_pos h501) (Eq.trans (zn_eq hT508.symm) rfl)) 
    refine X.ifeq 53 49 (zi199 46) rfl rfl rfl (fun h503 => ?_) (fun h503 => ?_)
    · refine X.cut [] (zi199 53) rfl ?_
      refine X.lconst (y := 0) 54 (zi199 53) rfl rfl rfl ?_
      exact hK507 0 (by first | trivial | omega) (Eq.trans (if_pos h503) rfl)
    · refine X.lconst (y := 1) 50 (zi199 49) rfl rfl rfl ?_
      refine X.goto 54 (zi199 50) rfl rfl ?_
      refine X.cut [] (zi199 54) rfl ?_
      exact hK507 1 (by first | trivial | omega) (Eq.trans (if_neg h503) rfl)
  by_cases h509 : a1 = 54
  · refine X.tsIn 55 1 (zi199 1) rfl (by omega) rfl rfl ?_
    refine X.cut [(0, zr 4 40)] (zi199 55) rfl ?_
    refine X.aload_n 56 (zi199 55) rfl rfl rfl ?_
    refine X.getF 59 (zi199 56) rfl rfl (by decide) rfl rfl ?_
    refine X.getR 62 (zi199 59) rfl rfl (by decide) rfl rfl ?_
    refine X.getI 65 2 (zi199 62) rfl rfl (by decide) rfl rfl rfl ?_
    have h510 := r39_2 hJ 0
    refine X.i2l 66 (zi199 65) rfl rfl ?_
    refine X.retl (zi199 66) rfl t199 ?_
    exact hQ (m 0 39 2) (by first | trivial | omega) (Eq.trans (if_neg h501) (Eq.trans (if_pos h509) rfl)) 
  by_cases h511 : a1 = 55
  · refine X.tsIn 67 2 (zi199 1) rfl (by omega) rfl rfl ?_
    refine X.cut [(0, zr 4 40)] (zi199 67) rfl ?_
    refine X.aload_n 68 (zi199 67) rfl rfl rfl ?_
    refine X.getF 71 (zi199 68) rfl rfl (by decide) rfl rfl ?_
    refine X.getR 74 (zi199 71) rfl rfl (by decide) rfl rfl ?_
    refine X.aload_n 75 (zi199 74) rfl rfl rfl ?_
    refine X.getF 78 (zi199 75) rfl rfl (by decide) rfl rfl ?_
    refine X.getI 81 9 (zi199 78) rfl rfl (by decide) rfl rfl rfl ?_
    have h512 := r8_9 hJ 0
    refine X.callv 84 [zi (m 0 8 9)] [] [(0, zr 0 39), (1, zi (m 0 8 9))] (zi199 81) rfl (by decide) rfl rfl (by omega) rfl rfl (by decide) rfl t118 (Nat.le_of_ble_eq_true rfl) (Nat.le_of_ble_eq_true rfl) rfl ?_
    refine c118_1 (B := B) 0 (m 0 8 9) (by omega) (hJ.up (by omega)) (by omega) (by omega) (fun v515 hv515 hFv515 => ?_)
    show X (EE s) d 199 84 [(0, zr 4 40)] [zi v515] m _
    refine X.i2l 85 (zi199 84) rfl rfl ?_
    refine X.retl (zi199 85) rfl t199 ?_
    exact hQ v515 (by first | trivial | omega) (Eq.trans (if_neg h501) (Eq.trans (if_neg h509) (Eq.trans (if_pos h511) (Eq.trans (zn_eq hFv515.symm) rfl)))) 
  by_cases h516 : a1 = 56
  · refine X.tsIn 86 3 (zi199 1) rfl (by omega) rfl rfl ?_
    refine X.cut [(0, zr 4 40)] (zi199 86) rfl ?_
    refine X.aload_n 87 (zi199 86) rfl rfl rfl ?_
    refine X.getF 90 (zi199 87) rfl rfl (by decide) rfl rfl ?_
    refine X.getR 93 (zi199 90) rfl rfl (by decide) rfl rfl ?_
    refine X.getIr 96 3 (zi199 93) rfl rfl (by decide) rfl rfl rfl (fun h517 => ?_)
    refine X.i2l 97 (zi199 96) rfl rfl ?_
    refine X.retl (zi199 97) rfl t199 ?_
    exact hQ (m 0 39 3) (by first | trivial | omega) (Eq.trans (if_neg h501) (Eq.trans (if_neg h509) (Eq.trans (if_neg h511) (Eq.trans (if_pos h516) rfl)))) 
  by_cases h518 : a1 = 57
  · refine X.tsIn 98 4 (zi199 1) rfl (by omega) rfl rfl ?_
    refine X.cut [(0, zr 4 40)] (zi199 98) rfl ?_
    refine X.aload_n 99 (zi199 98) rfl rfl rfl ?_
    refine X.getF 102 (zi199 99) rfl rfl (by decide) rfl rfl ?_
    refine X.getI 105 3 (zi199 102) rfl rfl (by decide) rfl rfl rfl ?_
    have h519 := r41_3 hJ 4
    refine X.i2l 106 (zi199 105) rfl rfl ?_
    refine X.retl (zi199 106) rfl t199 ?_
    exact hQ (m 4 41 3) (by first | trivial | omega) (Eq.trans (if_neg h501) (Eq.trans (if_neg h509) (Eq.trans (if_neg h511) (Eq.trans (if_neg h516) (Eq.trans (if_pos h518) rfl))))) 
  refine X.tsOut 107 (zi199 1) rfl (by omega) rfl ?_
  refine X.cut [] (zi199 107) rfl ?_
  refine X.ldc2 110 (zi199 107) rfl rfl (by decide) ?_
  refine X.retl (zi199 110) rfl t199 ?_
  exact hQ (-10000000000) (by first | trivial | omega) (Eq.trans (if_neg h501) (Eq.trans (if_neg h509) (Eq.trans (if_neg h511) (Eq.trans (if_neg h516) (Eq.trans (if_neg h518) rfl))))) 
-- WorkMeter.lookAtCounts
noncomputable def f198_1 (a1 : Int) (m : zM) : Int :=
  if a1 = 8 then
  ((m 0 33 3))
  else
  (if a1 = 9 then
  ((m 0 37 1))
  else
  (if a1 = 10 then
  ((m 0 27 2))
  else
  (if a1 = 11 then
  ((m 0 23 3))
  else
  (if a1 = 12 then
  ((m 0 19 3))
  else
  (if a1 = 13 then
  ((m 0 19 4))
  else
  (if a1 = 14 then
  ((m 0 19 5))
  else
  ((m 0 11 7))))))))
-- WorkMeter.lookAtCounts
theorem c198_1 {s : Nat × (Nat → Int32)} {S : zS} {m0 m : zM} {B : Int} {d : Nat} {Q : Option zV → zM → Prop} (a1 : Int) (hd : 13 ≤ d) (hJ : J S m0 B m) (hB : B + 0 ≤ 1000000000) (ha1 : 8 ≤ a1 ∧ a1 ≤ 15) (hQ : ∀ (v : Int), ((-2147483648) ≤ v ∧ v ≤ 2147483647) → f198_1 a1 m = v → Q (some (zl v)) m) : X (EE s) d 198 0 [(0, zr 4 40), (1, zi a1)] [] m Q := by
  refine X.iload_n 1 (zi198 0) rfl rfl rfl ?_
  by_cases h501 : a1 = 8
  · refine X.tsIn 48 0 (zi198 1) rfl (by omega) rfl rfl ?_
    refine X.cut [(0, zr 4 40)] (zi198 48) rfl ?_
    refine X.aload_n 49 (zi198 48) rfl rfl rfl ?_
    refine X.getF 52 (zi198 49) rfl rfl (by decide) rfl rfl ?_
    refine X.getR 55 (zi198 52) rfl rfl (by decide) rfl rfl ?_
    refine X.getIr 58 3 (zi198 55) rfl rfl (by decide) rfl rfl rfl (fun h502 => ?_)
    refine X.i2l 59 (zi198 58) rfl rfl ?_
    refine X.retl (zi198 59) rfl t198 ?_
    exact hQ (m 0 33 3) (by first | trivial | omega) (Eq.trans (if_pos h501) rfl) 
  by_cases h503 : a1 = 9
  · refine X.tsIn 60 1 (zi198 1) rfl (by omega) rfl rfl ?_
    refine X.cut [(0, zr 4 40)] (zi198 60) rfl ?_
    refine X.aload_n 61 (zi198 60) rfl rfl rfl ?_
    refine X.getF 64 (zi198 61) rfl rfl (by decide) rfl rfl ?_
    refine X.getR 67 (zi198 64) rfl rfl (by decide) rfl rfl ?_
    refine X.getI 70 1 (zi198 67) rfl rfl (by decide) rfl rfl rfl ?_
    have h504 := r37_1 hJ 0
    refine X.i2l 71 (zi198 70) rfl rfl ?_
    refine X.retl (zi198 71) rfl t198 ?_
    exact hQ (m 0 37 1) (by first | trivial | omega) (Eq.trans (if_neg h501) (Eq.trans (if_pos h503) rfl)) 
  by_cases h505 : a1 = 10
  · refine X.tsIn 72 2 (zi198 1) rfl (by omega) rfl rfl ?_
    refine X.cut [(0, zr 4 40)] (zi198 72) rfl ?_
    refine X.aload_n 73 (zi198 72) rfl rfl rfl ?_
    refine X.getF 76 (zi198 73) rfl rfl (by decide) rfl rfl ?_
    refine X.getR 79 (zi198 76) rfl rfl (by decide) rfl rfl ?_
    refine X.getI 82 2 (zi198 79) rfl rfl (by decide) rfl rfl rfl ?_
    have h506 := r27_2 hJ 0
    refine X.i2l 83 (zi198 82) rfl rfl ?_
    refine X.retl (zi198 83) rfl t198 ?_
    exact hQ (m 0 27 2) (by first | trivial | omega) (Eq.trans (if_neg h501) (Eq.trans (if_neg h503) (Eq.trans (if_pos h505) rfl))) 
  by_cases h507 : a1 = 11
  · refine X.tsIn 84 3 (zi198 1) rfl (by omega) rfl rfl ?_
    refine X.cut [(0, zr 4 40)] (zi198 84) rfl ?_
    refine X.aload_n 85 (zi198 84) rfl rfl rfl ?_
    refine X.getF 88 (zi198 85) rfl rfl (by decide) rfl rfl ?_
    refine X.getR 91 (zi198 88) rfl rfl (by decide) rfl rfl ?_
    refine X.getI 94 3 (zi198 91) rfl rfl (by decide) rfl rfl rfl ?_
    have h508 := r23_3 hJ 0
    refine X.i2l 95 (zi198 94) rfl rfl ?_
    refine X.retl (zi198 95) rfl t198 ?_
    exact hQ (m 0 23 3) (by first | trivial | omega) (Eq.trans (if_neg h501) (Eq.trans (if_neg h503) (Eq.trans (if_neg h505) (Eq.trans (if_pos h507) rfl)))) 
  by_cases h509 : a1 = 12
  · refine X.tsIn 96 4 (zi198 1) rfl (by omega) rfl rfl ?_
    refine X.cut [(0, zr 4 40)] (zi198 96) rfl ?_
    refine X.aload_n 97 (zi198 96) rfl rfl rfl ?_
    refine X.getF 100 (zi198 97) rfl rfl (by decide) rfl rfl ?_
    refine X.getR 103 (zi198 100) rfl rfl (by decide) rfl rfl ?_
    refine X.getI 106 3 (zi198 103) rfl rfl (by decide) rfl rfl rfl ?_
    have h510 := r19_3 hJ 0
    refine X.i2l 107 (zi198 106) rfl rfl ?_
    refine X.retl (zi198 107) rfl t198 ?_
    exact hQ (m 0 19 3) (by first | trivial | omega) (Eq.trans (if_neg h501) (Eq.trans (if_neg h503) (Eq.trans (if_neg h505) (Eq.trans (if_neg h507) (Eq.trans (if_pos h509) rfl))))) 
  by_cases h511 : a1 = 13
  · refine X.tsIn 108 5 (zi198 1) rfl (by omega) rfl rfl ?_
    refine X.cut [(0, zr 4 40)] (zi198 108) rfl ?_
    refine X.aload_n 109 (zi198 108) rfl rfl rfl ?_
    refine X.getF 112 (zi198 109) rfl rfl (by decide) rfl rfl ?_
    refine X.getR 115 (zi198 112) rfl rfl (by decide) rfl rfl ?_
    refine X.getI 118 4 (zi198 115) rfl rfl (by decide) rfl rfl rfl ?_
    have h512 := r19_4 hJ 0
    refine X.i2l 119 (zi198 118) rfl rfl ?_
    refine X.retl (zi198 119) rfl t198 ?_
    exact hQ (m 0 19 4) (by first | trivial | omega) (Eq.trans (if_neg h501) (Eq.trans (if_neg h503) (Eq.trans (if_neg h505) (Eq.trans (if_neg h507) (Eq.trans (if_neg h509) (Eq.trans (if_pos h511) rfl)))))) 
  by_cases h513 : a1 = 14
  · refine X.tsIn 120 6 (zi198 1) rfl (by omega) rfl rfl ?_
    refine X.cut [(0, zr 4 40)] (zi198 120) rfl ?_
    refine X.aload_n 121 (zi198 120) rfl rfl rfl ?_
    refine X.getF 124 (zi198 121) rfl rfl (by decide) rfl rfl ?_
    refine X.getR 127 (zi198 124) rfl rfl (by decide) rfl rfl ?_
    refine X.getI 130 5 (zi198 127) rfl rfl (by decide) rfl rfl rfl ?_
    have h514 := r19_5 hJ 0
    refine X.i2l 131 (zi198 130) rfl rfl ?_
    refine X.retl (zi198 131) rfl t198 ?_
    exact hQ (m 0 19 5) (by first | trivial | omega) (Eq.trans (if_neg h501) (Eq.trans (if_neg h503) (Eq.trans (if_neg h505) (Eq.trans (if_neg h507) (Eq.trans (if_neg h509) (Eq.trans (if_neg h511) (Eq.trans (if_pos h513) rfl))))))) 
  by_cases h515 : a1 = 15
  · refine X.tsIn 132 7 (zi198 1) rfl (by omega) rfl rfl ?_
    refine X.cut [(0, zr 4 40)] (zi198 132) rfl ?_
    refine X.aload_n 133 (zi198 132) rfl rfl rfl ?_
    refine X.getF 136 (zi198 133) rfl rfl (by decide) rfl rfl ?_
    refine X.getR 139 (zi198 136) rfl rfl (by decide) rfl rfl ?_
    refine X.getI 142 7 (zi198 139) rfl rfl (by decide) rfl rfl rfl ?_
    have h516 := r11_7 hJ 0
    refine X.i2l 143 (zi198 142) rfl rfl ?_
    refine X.retl (zi198 143) rfl t198 ?_
    exact hQ (m 0 11 7) (by first | trivial | omega) (Eq.trans (if_neg h501) (Eq.trans (if_neg h503) (Eq.trans (if_neg h505) (Eq.trans (if_neg h507) (Eq.trans (if_neg h509) (Eq.trans (if_neg h511) (Eq.trans (if_neg h513) rfl))))))) 
  exfalso
  omega
-- WorkMeter.lookAtMeter
noncomputable def f197_1 (a1 : Int) (m : zM) : Int :=
  if a1 = 0 then
  ((m 0 8 9))
  else
  (if a1 = 1 then
  (zn (f27_1 0 (m 0 8 9) m) fun v507 =>
  v507)
  else
  (if a1 = 2 then
  ((m 0 8 10))
  else
  (if a1 = 3 then
  (zn (if (m 0 8 11) = 0 then
  (0)
  else
  (1)) fun v512 =>
  v512)
  else
  (if a1 = 4 then
  (zn (if (m 0 8 12) = 0 then
  (0)
  else
  (1)) fun v520 =>
  v520)
  else
  (if a1 = 5 then
  ((m 0 8 13))
  else
  (if a1 = 6 then
  ((m 0 8 14))
  else
  ((m 0 8 15))))))))
-- WorkMeter.lookAtMeter
theorem c197_1 {s : Nat × (Nat → Int32)} {S : zS} {m0 m : zM} {B : Int} {d : Nat} {Q : Option zV → zM → Prop} (a1 : Int) (hd : 16 ≤ d) (hJ : J S m0 B m) (hB : B + 0 ≤ 1000000000) (ha1 : 0 ≤ a1 ∧ a1 ≤ 7) (hQ : ∀ (v : Int), (True) → f197_1 a1 m = v → Q (some (zl v)) m) : X (EE s) d 197 0 [(0, zr 4 40), (1, zi a1)] [] m Q := by
  refine X.iload_n 1 (zi197 0) rfl rfl rfl ?_
  by_cases h501 : a1 = 0
  · refine X.tsIn 48 0 (zi197 1) rfl (by omega) rfl rfl ?_
    refine X.cut [(0, zr 4 40)] (zi197 48) rfl ?_
    refine X.aload_n 49 (zi197 48) rfl rfl rfl ?_
    refine X.getF 52 (zi197 49) rfl rfl (by decide) rfl rfl ?_
    refine X.getI 55 9 (zi197 52) rfl rfl (by decide) rfl rfl rfl ?_
    have h502 := r8_9 hJ 0
    refine X.i2l 56 (zi197 55) rfl rfl ?_
    refine X.retl (zi197 56) rfl t197 ?_
    exact hQ (m 0 8 9) (by first | trivial | omega) (Eq.trans (if_pos h501) rfl) 
  by_cases h503 : a1 = 1
  · refine X.tsIn 57 1 (zi197 1) rfl (by omega) rfl rfl ?_
    refine X.cut [(0, zr 4 40)] (zi197 57) rfl ?_
    refine X.aload_n 58 (zi197 57) rfl rfl rfl ?_
    refine X.getF 61 (zi197 58) rfl rfl (by decide) rfl rfl ?_
    refine X.getR 64 (zi197 61) rfl rfl (by decide) rfl rfl ?_
    refine X.aload_n 65 (zi197 64) rfl rfl rfl ?_
    refine X.getF 68 (zi197 65) rfl rfl (by decide) rfl rfl ?_
    refine X.getI 71 9 (zi197 68) rfl rfl (by decide) rfl rfl rfl ?_
    have h504 := r8_9 hJ 0
    refine X.callv 74 [zi (m 0 8 9)] [] [(0, zr 0 11), (1, zi (m 0 8 9))] (zi197 71) rfl (by decide) rfl rfl (by omega) rfl rfl (by decide) rfl t27 (Nat.le_of_ble_eq_true rfl) (Nat.le_of_ble_eq_true rfl) rfl ?_
    refine c27_1 (B := B) 0 (m 0 8 9) (by omega) (hJ.up (by omega)) (by omega) (by omega) (fun v507 hv507 hFv507 => ?_)
    show X (EE s) d 197 74 [(0, zr 4 40)] [zi v507] m _
    refine X.i2l 75 (zi197 74) rfl rfl ?_
    refine X.retl (zi197 75) rfl t197 ?_
    exact hQ v507 (by first | trivial | omega) (Eq.trans (if_neg h501) (Eq.trans (if_pos h503) (Eq.trans (zn_eq hFv507.symm) rfl))) 
  by_cases h508 : a1 = 2
  · refine X.tsIn 76 2 (zi197 1) rfl (by omega) rfl rfl ?_
    refine X.cut [(0, zr 4 40)] (zi197 76) rfl ?_
    refine X.aload_n 77 (zi197 76) rfl rfl rfl ?_
    refine X.getF 80 (zi197 77) rfl rfl (by decide) rfl rfl ?_
    refine X.getL 83 10 (zi197 80) rfl rfl (by decide) rfl rfl rfl ?_
    refine X.retl (zi197 83) rfl t197 ?_
    exact hQ (m 0 8 10) (by first | trivial | omega) (Eq.trans (if_neg h501) (Eq.trans (if_neg h503) (Eq.trans (if_pos h508) rfl))) 
  by_cases h509 : a1 = 3
  · refine X.tsIn 84 3 (zi197 1) rfl (by omega) rfl rfl ?_
    refine X.cut [(0, zr 4 40)] (zi197 84) rfl ?_
    refine X.aload_n 85 (zi197 84) rfl rfl rfl ?_
    refine X.getF 88 (zi197 85) rfl rfl (by decide) rfl rfl ?_
    refine X.getZ 91 11 (zi197 88) rfl rfl (by decide) rfl rfl rfl (fun h510 => ?_)
    have hK515 : ∀ (v : Int) , (0 ≤ v ∧ v ≤ 1) → (if (m 0 8 11) = 0 then
        (0)
        else
        (1)) = v → X (EE s) d 197 99 [] [zl v] m Q := by
      intro v512 hv512 hT516
      refine X.retl (zi197 99) rfl t197 ?_
      exact hQ v512 (by first | trivial | omega) (Eq.trans (if_neg h501) (Eq.trans (if_neg h503) (Eq.trans (if_neg h508) (Eq.trans (if_pos h509) (Eq.trans (zn_eq hT516.symm) rfl))))) 
    refine X.ifeq 98 94 (zi197 91) rfl rfl rfl (fun h511 => ?_) (fun h511 => ?_)
    · refine X.cut [] (zi197 98) rfl ?_
      refine X.lconst (y := 0) 99 (zi197 98) rfl rfl rfl ?_
      exact hK515 0 (by first | trivial | omega) (Eq.trans (if_pos h511) rfl)
    · refine X.lconst (y := 1) 95 (zi197 94) rfl rfl rfl ?_
      refine X.goto 99 (zi197 95) rfl rfl ?_
      refine X.cut [] (zi197 99) rfl ?_
      exact hK515 1 (by first | trivial | omega) (Eq.trans (if_neg h511) rfl)
  by_cases h517 : a1 = 4
  · refine X.tsIn 100 4 (zi197 1) rfl (by omega) rfl rfl ?_
    refine X.cut [(0, zr 4 40)] (zi197 100) rfl ?_
    refine X.aload_n 101 (zi197 100) rfl rfl rfl ?_
    refine X.getF 104 (zi197 101) rfl rfl (by decide) rfl rfl ?_
    refine X.getZ 107 12 (zi197 104) rfl rfl (by decide) rfl rfl rfl (fun h518 => ?_)
    have hK523 : ∀ (v : Int) , (0 ≤ v ∧ v ≤ 1) → (if (m 0 8 12) = 0 then
        (0)
        else
        (1)) = v → X (EE s) d 197 115 [] [zl v] m Q := by
      intro v520 hv520 hT524
      refine X.retl (zi197 115) rfl t197 ?_
      exact hQ v520 (by first | trivial | omega) (Eq.trans (if_neg h501) (Eq.trans (if_neg h503) (Eq.trans (if_neg h508) (Eq.trans (if_neg h509) (Eq.trans (if_pos h517) (Eq.trans (zn_eq hT524.symm) rfl)))))) 
    refine X.ifeq 114 110 (zi197 107) rfl rfl rfl (fun h519 => ?_) (fun h519 => ?_)
    · refine X.cut [] (zi197 114) rfl ?_
      refine X.lconst (y := 0) 115 (zi197 114) rfl rfl rfl ?_
      exact hK523 0 (by first | trivial | omega) (Eq.trans (if_pos h519) rfl)
    · refine X.lconst (y := 1) 111 (zi197 110) rfl rfl rfl ?_
      refine X.goto 115 (zi197 111) rfl rfl ?_
      refine X.cut [] (zi197 115) rfl ?_
      exact hK523 1 (by first | trivial | omega) (Eq.trans (if_neg h519) rfl)
  by_cases h525 : a1 = 5
  · refine X.tsIn 116 5 (zi197 1) rfl (by omega) rfl rfl ?_
    refine X.cut [(0, zr 4 40)] (zi197 116) rfl ?_
    refine X.aload_n 117 (zi197 116) rfl rfl rfl ?_
    refine X.getF 120 (zi197 117) rfl rfl (by decide) rfl rfl ?_
    refine X.getIr 123 13 (zi197 120) rfl rfl (by decide) rfl rfl rfl (fun h526 => ?_)
    refine X.i2l 124 (zi197 123) rfl rfl ?_
    refine X.retl (zi197 124) rfl t197 ?_
    exact hQ (m 0 8 13) (by first | trivial | omega) (Eq.trans (if_neg h501) (Eq.trans (if_neg h503) (Eq.trans (if_neg h508) (Eq.trans (if_neg h509) (Eq.trans (if_neg h517) (Eq.trans (if_pos h525) rfl)))))) 
  by_cases h527 : a1 = 6
  · refine X.tsIn 125 6 (zi197 1) rfl (by omega) rfl rfl ?_
    refine X.cut [(0, zr 4 40)] (zi197 125) rfl ?_
    refine X.aload_n 126 (zi197 125) rfl rfl rfl ?_
    refine X.getF 129 (zi197 126) rfl rfl (by decide) rfl rfl ?_
    refine X.getIr 132 14 (zi197 129) rfl rfl (by decide) rfl rfl rfl (fun h528 => ?_)
    refine X.i2l 133 (zi197 132) rfl rfl ?_
    refine X.retl (zi197 133) rfl t197 ?_
    exact hQ (m 0 8 14) (by first | trivial | omega) (Eq.trans (if_neg h501) (Eq.trans (if_neg h503) (Eq.trans (if_neg h508) (Eq.trans (if_neg h509) (Eq.trans (if_neg h517) (Eq.trans (if_neg h525) (Eq.trans (if_pos h527) rfl))))))) 
  by_cases h529 : a1 = 7
  · refine X.tsIn 134 7 (zi197 1) rfl (by omega) rfl rfl ?_
    refine X.cut [(0, zr 4 40)] (zi197 134) rfl ?_
    refine X.aload_n 135 (zi197 134) rfl rfl rfl ?_
    refine X.getF 138 (zi197 135) rfl rfl (by decide) rfl rfl ?_
    refine X.getIr 141 15 (zi197 138) rfl rfl (by decide) rfl rfl rfl (fun h530 => ?_)
    refine X.i2l 142 (zi197 141) rfl rfl ?_
    refine X.retl (zi197 142) rfl t197 ?_
    exact hQ (m 0 8 15) (by first | trivial | omega) (Eq.trans (if_neg h501) (Eq.trans (if_neg h503) (Eq.trans (if_neg h508) (Eq.trans (if_neg h509) (Eq.trans (if_neg h517) (Eq.trans (if_neg h525) (Eq.trans (if_neg h527) rfl))))))) 
  exfalso
  omega
-- WorkMeter.look
noncomputable def f196_1 (a1 : Int) (m : zM) : Int :=
  if 0 ≤ a1 then
  (if 7 < a1 then
  (if 15 < a1 then
  (if a1 < 40 then
  (zn (f200_1 a1 m) fun v508 =>
  zn (if v508 = (-1) then
  ((-10000000000))
  else
  (zn (f168_1 0 v508 m) fun v512 =>
  v512)) fun v513 =>
  v513)
  else
  (if 43 < a1 then
  (if a1 < 53 then
  (zn (f200_1 a1 m) fun v522 =>
  zn (if v522 = (-1) then
  ((-10000000000))
  else
  (zn (f168_1 0 v522 m) fun v526 =>
  v526)) fun v527 =>
  v527)
  else
  (zn (f199_1 a1 m) fun v534 =>
  v534))
  else
  ((m 0 15 (a1 - 40)))))
  else
  (zn (f198_1 a1 m) fun v538 =>
  v538))
  else
  (zn (f197_1 a1 m) fun v541 =>
  v541))
  else
  ((-10000000000))
-- WorkMeter.look
theorem c196_1 {s : Nat × (Nat → Int32)} {S : zS} {m0 m : zM} {B : Int} {d : Nat} {Q : Option zV → zM → Prop} (a1 : Int) (hd : 17 ≤ d) (hJ : J S m0 B m) (hB : B + 0 ≤ 1000000000) (ha1 : (-2147483648) ≤ a1 ∧ a1 ≤ 2147483647) (hQ : ∀ (v : Int), (True) → f196_1 a1 m = v → Q (some (zl v)) m) : X (EE s) d 196 0 [(0, zr 4 40), (1, zi a1)] [] m Q := by
  refine X.iload_n 1 (zi196 0) rfl rfl rfl ?_
  refine X.ifge 8 4 (zi196 1) rfl rfl rfl (fun h501 => ?_) (fun h501 => ?_)
  · refine X.iload_n 9 (zi196 8) rfl rfl rfl ?_
    refine X.bipush 11 (zi196 9) rfl rfl (by decide) ?_
    refine X.icmpgt 20 14 (zi196 11) rfl rfl rfl (fun h502 => ?_) (fun h502 => ?_)
    · refine X.iload_n 21 (zi196 20) rfl rfl rfl ?_
      refine X.bipush 23 (zi196 21) rfl rfl (by decide) ?_
      refine X.icmpgt 32 26 (zi196 23) rfl rfl rfl (fun h503 => ?_) (fun h503 => ?_)
      · refine X.iload_n 33 (zi196 32) rfl rfl rfl ?_
        refine X.bipush 35 (zi196 33) rfl rfl (by decide) ?_
        refine X.icmplt 61 38 (zi196 35) rfl rfl rfl (fun h504 => ?_) (fun h504 => ?_)
        · refine X.iload_n 62 (zi196 61) rfl rfl rfl ?_
          refine X.bipush 64 (zi196 62) rfl rfl (by decide) ?_
          refine X.icmplt 73 67 (zi196 64) rfl rfl rfl (fun h505 => ?_) (fun h505 => (by exfalso; omega))
          refine X.iload_n 74 (zi196 73) rfl rfl rfl ?_
          refine X.calls 77 [zi a1] [] [(0, zi a1)] (zi196 74) (by decide) rfl rfl (by omega) rfl rfl t200 (Nat.le_of_ble_eq_true rfl) (Nat.le_of_ble_eq_true rfl) rfl ?_
          refine c200_1 (B := B)  a1 (by omega) (hJ.up (by omega)) (by omega) (by omega) (fun v508 hv508 hFv508 => ?_)
          show X (EE s) d 196 77 [(0, zr 4 40), (1, zi a1)] [zi v508] m _
          refine X.istore_n 78 [(0, zr 4 40), (1, zi a1), (2, zi v508)] (zi196 77) rfl rfl rfl ?_
          refine X.iload_n 79 (zi196 78) rfl rfl rfl ?_
          refine X.iconst 80 (zi196 79) rfl rfl (by decide) ?_
          have hK516 : ∀ (v : Int) , ((-10000000000) ≤ v ∧ v ≤ 1000000) → (if v508 = (-1) then
              ((-10000000000))
              else
              (zn (f168_1 0 v508 m) fun v512 =>
              v512)) = v → X (EE s) d 196 101 [] [zl v] m Q := by
            intro v513 hv513 hT517
            refine X.retl (zi196 101) rfl t196 ?_
            exact hQ v513 (by first | trivial | omega) (Eq.trans (if_pos h501) (Eq.trans (if_pos h502) (Eq.trans (if_pos h503) (Eq.trans (if_pos h504) (Eq.trans (zn_eq hFv508.symm) (Eq.trans (zn_eq hT517.symm) rfl)))))) 
          refine X.icmpne 89 83 (zi196 80) rfl rfl rfl (fun h509 => ?_) (fun h509 => ?_)
          · refine X.cut [(0, zr 4 40), (2, zi v508)] (zi196 89) rfl ?_
            refine X.aload_n 90 (zi196 89) rfl rfl rfl ?_
            refine X.getF 93 (zi196 90) rfl rfl (by decide) rfl rfl ?_
            refine X.getR 96 (zi196 93) rfl rfl (by decide) rfl rfl ?_
            refine X.iload_n 97 (zi196 96) rfl rfl rfl ?_
            refine X.callv 100 [zi v508] [] [(0, zr 0 9), (1, zi v508)] (zi196 97) rfl (by decide) rfl rfl (by omega) rfl rfl (by decide) rfl t168 (Nat.le_of_ble_eq_true rfl) (Nat.le_of_ble_eq_true rfl) rfl ?_
            refine c168_4 (B := B) 0 v508 (by omega) (hJ.up (by omega)) (by omega) (by omega) (fun v512 hv512 hFv512 => ?_)
            show X (EE s) d 196 100 [(0, zr 4 40), (2, zi v508)] [zi v512] m _
            refine X.i2l 101 (zi196 100) rfl rfl ?_
            refine X.cut [] (zi196 101) rfl ?_
            exact hK516 v512 (by first | trivial | omega) (Eq.trans (if_neg h509) (Eq.trans (zn_eq hFv512.symm) rfl))
          · refine X.ldc2 86 (zi196 83) rfl rfl (by decide) ?_
            refine X.goto 101 (zi196 86) rfl rfl ?_
            refine X.cut [] (zi196 101) rfl ?_
            exact hK516 (-10000000000) (by first | trivial | omega) (Eq.trans (if_pos h509) rfl)
        · refine X.iload_n 39 (zi196 38) rfl rfl rfl ?_
          refine X.bipush 41 (zi196 39) rfl rfl (by decide) ?_
          refine X.icmpgt 61 44 (zi196 41) rfl rfl rfl (fun h518 => ?_) (fun h518 => ?_)
          · refine X.iload_n 62 (zi196 61) rfl rfl rfl ?_
            refine X.bipush 64 (zi196 62) rfl rfl (by decide) ?_
            refine X.icmplt 73 67 (zi196 64) rfl rfl rfl (fun h519 => ?_) (fun h519 => ?_)
            · refine X.iload_n 74 (zi196 73) rfl rfl rfl ?_
              refine X.calls 77 [zi a1] [] [(0, zi a1)] (zi196 74) (by decide) rfl rfl (by omega) rfl rfl t200 (Nat.le_of_ble_eq_true rfl) (Nat.le_of_ble_eq_true rfl) rfl ?_
              refine c200_1 (B := B)  a1 (by omega) (hJ.up (by omega)) (by omega) (by omega) (fun v522 hv522 hFv522 => ?_)
              show X (EE s) d 196 77 [(0, zr 4 40), (1, zi a1)] [zi v522] m _
              refine X.istore_n 78 [(0, zr 4 40), (1, zi a1), (2, zi v522)] (zi196 77) rfl rfl rfl ?_
              refine X.iload_n 79 (zi196 78) rfl rfl rfl ?_
              refine X.iconst 80 (zi196 79) rfl rfl (by decide) ?_
              have hK530 : ∀ (v : Int) , ((-10000000000) ≤ v ∧ v ≤ 1000000) → (if v522 = (-1) then
                  ((-10000000000))
                  else
                  (zn (f168_1 0 v522 m) fun v526 =>
                  v526)) = v → X (EE s) d 196 101 [] [zl v] m Q := by
                intro v527 hv527 hT531
                refine X.retl (zi196 101) rfl t196 ?_
                exact hQ v527 (by first | trivial | omega) (Eq.trans (if_pos h501) (Eq.trans (if_pos h502) (Eq.trans (if_pos h503) (Eq.trans (if_neg h504) (Eq.trans (if_pos h518) (Eq.trans (if_pos h519) (Eq.trans (zn_eq hFv522.symm) (Eq.trans (zn_eq hT531.symm) rfl)))))))) 
              refine X.icmpne 89 83 (zi196 80) rfl rfl rfl (fun h523 => ?_) (fun h523 => ?_)
              · refine X.cut [(0, zr 4 40), (2, zi v522)] (zi196 89) rfl ?_
                refine X.aload_n 90 (zi196 89) rfl rfl rfl ?_
                refine X.getF 93 (zi196 90) rfl rfl (by decide) rfl rfl ?_
                refine X.getR 96 (zi196 93) rfl rfl (by decide) rfl rfl ?_
                refine X.iload_n 97 (zi196 96) rfl rfl rfl ?_
                refine X.callv 100 [zi v522] [] [(0, zr 0 9), (1, zi v522)] (zi196 97) rfl (by decide) rfl rfl (by omega) rfl rfl (by decide) rfl t168 (Nat.le_of_ble_eq_true rfl) (Nat.le_of_ble_eq_true rfl) rfl ?_
                refine c168_4 (B := B) 0 v522 (by omega) (hJ.up (by omega)) (by omega) (by omega) (fun v526 hv526 hFv526 => ?_)
                show X (EE s) d 196 100 [(0, zr 4 40), (2, zi v522)] [zi v526] m _
                refine X.i2l 101 (zi196 100) rfl rfl ?_
                refine X.cut [] (zi196 101) rfl ?_
                exact hK530 v526 (by first | trivial | omega) (Eq.trans (if_neg h523) (Eq.trans (zn_eq hFv526.symm) rfl))
              · refine X.ldc2 86 (zi196 83) rfl rfl (by decide) ?_
                refine X.goto 101 (zi196 86) rfl rfl ?_
                refine X.cut [] (zi196 101) rfl ?_
                exact hK530 (-10000000000) (by first | trivial | omega) (Eq.trans (if_pos h523) rfl)
            · refine X.aload_n 68 (zi196 67) rfl rfl rfl ?_
              refine X.iload_n 69 (zi196 68) rfl rfl rfl ?_
              refine X.callv 72 [zi a1] [] [(0, zr 4 40), (1, zi a1)] (zi196 69) rfl (by decide) rfl rfl (by omega) rfl rfl (by decide) rfl t199 (Nat.le_of_ble_eq_true rfl) (Nat.le_of_ble_eq_true rfl) rfl ?_
              refine c199_1 (B := B)  a1 (by omega) (hJ.up (by omega)) (by omega) (by omega) (fun v534 hv534 hFv534 => ?_)
              show X (EE s) d 196 72 [(0, zr 4 40), (1, zi a1)] [zl v534] m _
              refine X.retl (zi196 72) rfl t196 ?_
              exact hQ v534 (by first | trivial | omega) (Eq.trans (if_pos h501) (Eq.trans (if_pos h502) (Eq.trans (if_pos h503) (Eq.trans (if_neg h504) (Eq.trans (if_pos h518) (Eq.trans (if_neg h519) (Eq.trans (zn_eq hFv534.symm) rfl))))))) 
          · refine X.aload_n 45 (zi196 44) rfl rfl rfl ?_
            refine X.getF 48 (zi196 45) rfl rfl (by decide) rfl rfl ?_
            refine X.getR 51 (zi196 48) rfl rfl (by decide) rfl rfl ?_
            refine X.getR 54 (zi196 51) rfl rfl (by decide) rfl rfl ?_
            refine X.iload_n 55 (zi196 54) rfl rfl rfl ?_
            refine X.bipush 57 (zi196 55) rfl rfl (by decide) ?_
            refine X.isub 58 (zi196 57) rfl rfl (by omega) ?_
            refine X.iald 59 (zi196 58) rfl rfl (by decide) rfl (by omega) ?_
            have h535 := r15_0 hJ 0 (i := (a1 - 40)) (by omega)
            refine X.i2l 60 (zi196 59) rfl rfl ?_
            refine X.retl (zi196 60) rfl t196 ?_
            exact hQ (m 0 15 (a1 - 40)) (by first | trivial | omega) (Eq.trans (if_pos h501) (Eq.trans (if_pos h502) (Eq.trans (if_pos h503) (Eq.trans (if_neg h504) (Eq.trans (if_neg h518) rfl))))) 
      · refine X.aload_n 27 (zi196 26) rfl rfl rfl ?_
        refine X.iload_n 28 (zi196 27) rfl rfl rfl ?_
        refine X.callv 31 [zi a1] [] [(0, zr 4 40), (1, zi a1)] (zi196 28) rfl (by decide) rfl rfl (by omega) rfl rfl (by decide) rfl t198 (Nat.le_of_ble_eq_true rfl) (Nat.le_of_ble_eq_true rfl) rfl ?_
        refine c198_1 (B := B)  a1 (by omega) (hJ.up (by omega)) (by omega) (by omega) (fun v538 hv538 hFv538 => ?_)
        show X (EE s) d 196 31 [(0, zr 4 40), (1, zi a1)] [zl v538] m _
        refine X.retl (zi196 31) rfl t196 ?_
        exact hQ v538 (by first | trivial | omega) (Eq.trans (if_pos h501) (Eq.trans (if_pos h502) (Eq.trans (if_neg h503) (Eq.trans (zn_eq hFv538.symm) rfl)))) 
    · refine X.aload_n 15 (zi196 14) rfl rfl rfl ?_
      refine X.iload_n 16 (zi196 15) rfl rfl rfl ?_
      refine X.callv 19 [zi a1] [] [(0, zr 4 40), (1, zi a1)] (zi196 16) rfl (by decide) rfl rfl (by omega) rfl rfl (by decide) rfl t197 (Nat.le_of_ble_eq_true rfl) (Nat.le_of_ble_eq_true rfl) rfl ?_
      refine c197_1 (B := B)  a1 (by omega) (hJ.up (by omega)) (by omega) (by omega) (fun v541 hv541 hFv541 => ?_)
      show X (EE s) d 196 19 [(0, zr 4 40), (1, zi a1)] [zl v541] m _
      refine X.retl (zi196 19) rfl t196 ?_
      exact hQ v541 (by first | trivial | omega) (Eq.trans (if_pos h501) (Eq.trans (if_neg h502) (Eq.trans (zn_eq hFv541.symm) rfl))) 
  · refine X.ldc2 7 (zi196 4) rfl rfl (by decide) ?_
    refine X.retl (zi196 7) rfl t196 ?_
    exact hQ (-10000000000) (by first | trivial | omega) (Eq.trans (if_neg h501) rfl) 
end
section
-- WorkMeterModel.look
noncomputable def f315_1 (a1 : Int) (m : zM) : Int :=
  if a1 < 30 then
  (if a1 < 20 then
  (if a1 = 0 then
  ((m 4 45 0))
  else
  (if a1 = 1 then
  (zn (f217_1 (m 4 45 0) m) fun v519 =>
  v519)
  else
  (if a1 = 2 then
  ((m 4 45 10))
  else
  (if a1 = 3 then
  ((m 4 45 11))
  else
  (if a1 = 4 then
  ((m 4 45 12))
  else
  (if a1 = 5 then
  ((m 4 45 13))
  else
  (if a1 = 6 then
  ((m 4 45 14))
  else
  (if a1 = 7 then
  ((m 4 45 15))
  else
  (if a1 = 8 then
  (zn (f231_1 m) fun v532 =>
  v532)
  else
  (if a1 = 9 then
  ((m 4 45 16))
  else
  (if a1 = 10 then
  ((m 4 45 17))
  else
  (if a1 = 11 then
  ((m 4 45 18))
  else
  (if a1 = 12 then
  ((m 4 45 1))
  else
  (if a1 = 13 then
  ((m 4 45 2))
  else
  (if a1 = 14 then
  ((m 4 45 3))
  else
  (if a1 = 15 then
  (zn (f249_1 m) fun v548 =>
  v548)
  else
  (if a1 = 16 then
  ((-10000000000))
  else
  (if a1 = 17 then
  ((-10000000000))
  else
  (if a1 = 18 then
  ((-10000000000))
  else
  (if a1 = 19 then
  ((-10000000000))
  else
  ((-10000000000))))))))))))))))))))))
  else
  (if a1 ≤ 25 then
  ((m 4 45 ((4 + a1) - 20)))
  else
  (if a1 = 26 then
  ((-10000000000))
  else
  (if a1 = 27 then
  ((-10000000000))
  else
  (if a1 = 28 then
  ((-10000000000))
  else
  ((-10000000000)))))))
  else
  (if a1 ≤ 33 then
  ((m 4 45 ((28 + a1) - 30)))
  else
  (if a1 < 40 then
  (if a1 = 34 then
  ((-10000000000))
  else
  (if a1 = 35 then
  ((-10000000000))
  else
  (if a1 = 36 then
  ((-10000000000))
  else
  (if a1 = 37 then
  ((-10000000000))
  else
  (if a1 = 38 then
  ((-10000000000))
  else
  ((-10000000000)))))))
  else
  (if a1 ≤ 43 then
  ((m 4 45 ((391 + a1) - 40)))
  else
  (if a1 < 50 then
  (if a1 = 44 then
  ((-10000000000))
  else
  (if a1 = 45 then
  ((-10000000000))
  else
  (if a1 = 46 then
  ((-10000000000))
  else
  (if a1 = 47 then
  ((-10000000000))
  else
  (if a1 = 48 then
  ((-10000000000))
  else
  ((-10000000000)))))))
  else
  (if a1 ≤ 52 then
  ((m 4 45 ((1611 + a1) - 50)))
  else
  (if a1 = 53 then
  ((m 4 45 1614))
  else
  (if a1 = 54 then
  ((m 4 45 1616))
  else
  (if a1 = 55 then
  (zn (f278_1 m) fun v612 =>
  v612)
  else
  (if a1 = 56 then
  ((m 4 45 1618))
  else
  (if a1 = 57 then
  ((m 4 44 5))
  else
  ((-10000000000))))))))))))
-- WorkMeterModel.look
theorem c315_1 {s : Nat × (Nat → Int32)} {S : zS} {m0 m : zM} {B : Int} {d : Nat} {Q : Option zV → zM → Prop} (a1 : Int) (hd : 16 ≤ d) (hJ : J S m0 B m) (hB : B + 0 ≤ 1000000000) (ha1 : (-2147483648) ≤ a1 ∧ a1 ≤ 2147483647) (hQ : ∀ (v : Int), (True) → f315_1 a1 m = v → Q (some (zl v)) m) : X (EE s) d 315 0 [(0, zr 4 44), (1, zi a1)] [] m Q := by
  refine X.iload_n 1 (zi315 0) rfl rfl rfl ?_
  refine X.i2l 2 (zi315 1) rfl rfl ?_
  refine X.ldc2 5 (zi315 2) rfl rfl (by decide) ?_
  refine X.ldc2 8 (zi315 5) rfl rfl (by decide) ?_
  refine X.calls 11 [zl a1, zl 30, zl 33] [] [(0, zl a1), (2, zl 30), (4, zl 33)] (zi315 8) (by decide) rfl rfl (by omega) rfl rfl t204 (Nat.le_of_ble_eq_true rfl) (Nat.le_of_ble_eq_true rfl) rfl ?_
  refine X.lload_n 1 (zi204 0) rfl rfl rfl ?_
  refine X.lload_n 2 (zi204 1) rfl rfl rfl ?_
  refine X.lcmp 3 (zi204 2) rfl rfl (fun z501 hz501 => ?_)
  refine X.iflt 17 6 (zi204 3) rfl rfl rfl (fun h502 => ?_) (fun h502 => ?_)
  · have h502c : a1 < 30 := by omega
    clear h502 hz501
    refine X.cut [] (zi204 17) rfl ?_
    refine X.iconst 18 (zi204 17) rfl rfl (by decide) ?_
    refine X.retz (zi204 18) rfl t204 (by omega) ?_
    show X (EE s) d 315 11 [(0, zr 4 44), (1, zi a1)] [zi 0] m _
    refine X.ifeq 27 14 (zi315 11) rfl rfl rfl (fun h503 => ?_) (fun h503 => (by exfalso; omega))
    refine X.iload_n 28 (zi315 27) rfl rfl rfl ?_
    refine X.i2l 29 (zi315 28) rfl rfl ?_
    refine X.ldc2 32 (zi315 29) rfl rfl (by decide) ?_
    refine X.ldc2 35 (zi315 32) rfl rfl (by decide) ?_
    refine X.calls 38 [zl a1, zl 40, zl 43] [] [(0, zl a1), (2, zl 40), (4, zl 43)] (zi315 35) (by decide) rfl rfl (by omega) rfl rfl t204 (Nat.le_of_ble_eq_true rfl) (Nat.le_of_ble_eq_true rfl) rfl ?_
    refine X.lload_n 1 (zi204 0) rfl rfl rfl ?_
    refine X.lload_n 2 (zi204 1) rfl rfl rfl ?_
    refine X.lcmp 3 (zi204 2) rfl rfl (fun z504 hz504 => ?_)
    refine X.iflt 17 6 (zi204 3) rfl rfl rfl (fun h505 => ?_) (fun h505 => (by exfalso; omega))
    have h505c : a1 < 40 := by omega
    clear h505 hz504
    refine X.cut [] (zi204 17) rfl ?_
    refine X.iconst 18 (zi204 17) rfl rfl (by decide) ?_
    refine X.retz (zi204 18) rfl t204 (by omega) ?_
    show X (EE s) d 315 38 [(0, zr 4 44), (1, zi a1)] [zi 0] m _
    refine X.ifeq 55 41 (zi315 38) rfl rfl rfl (fun h506 => ?_) (fun h506 => (by exfalso; omega))
    refine X.iload_n 56 (zi315 55) rfl rfl rfl ?_
    refine X.i2l 57 (zi315 56) rfl rfl ?_
    refine X.ldc2 60 (zi315 57) rfl rfl (by decide) ?_
    refine X.ldc2 63 (zi315 60) rfl rfl (by decide) ?_
    refine X.calls 66 [zl a1, zl 20, zl 25] [] [(0, zl a1), (2, zl 20), (4, zl 25)] (zi315 63) (by decide) rfl rfl (by omega) rfl rfl t204 (Nat.le_of_ble_eq_true rfl) (Nat.le_of_ble_eq_true rfl) rfl ?_
    refine X.lload_n 1 (zi204 0) rfl rfl rfl ?_
    refine X.lload_n 2 (zi204 1) rfl rfl rfl ?_
    refine X.lcmp 3 (zi204 2) rfl rfl (fun z507 hz507 => ?_)
    refine X.iflt 17 6 (zi204 3) rfl rfl rfl (fun h508 => ?_) (fun h508 => ?_)
    · have h508c : a1 < 20 := by omega
      clear h508 hz507
      refine X.cut [] (zi204 17) rfl ?_
      refine X.iconst 18 (zi204 17) rfl rfl (by decide) ?_
      refine X.retz (zi204 18) rfl t204 (by omega) ?_
      show X (EE s) d 315 66 [(0, zr 4 44), (1, zi a1)] [zi 0] m _
      refine X.ifeq 81 69 (zi315 66) rfl rfl rfl (fun h509 => ?_) (fun h509 => (by exfalso; omega))
      refine X.iload_n 82 (zi315 81) rfl rfl rfl ?_
      refine X.i2l 83 (zi315 82) rfl rfl ?_
      refine X.ldc2 86 (zi315 83) rfl rfl (by decide) ?_
      refine X.ldc2 89 (zi315 86) rfl rfl (by decide) ?_
      refine X.calls 92 [zl a1, zl 50, zl 52] [] [(0, zl a1), (2, zl 50), (4, zl 52)] (zi315 89) (by decide) rfl rfl (by omega) rfl rfl t204 (Nat.le_of_ble_eq_true rfl) (Nat.le_of_ble_eq_true rfl) rfl ?_
      refine X.lload_n 1 (zi204 0) rfl rfl rfl ?_
      refine X.lload_n 2 (zi204 1) rfl rfl rfl ?_
      refine X.lcmp 3 (zi204 2) rfl rfl (fun z510 hz510 => ?_)
      refine X.iflt 17 6 (zi204 3) rfl rfl rfl (fun h511 => ?_) (fun h511 => (by exfalso; omega))
      have h511c : a1 < 50 := by omega
      clear h511 hz510
      refine X.cut [] (zi204 17) rfl ?_
      refine X.iconst 18 (zi204 17) rfl rfl (by decide) ?_
      refine X.retz (zi204 18) rfl t204 (by omega) ?_
      show X (EE s) d 315 92 [(0, zr 4 44), (1, zi a1)] [zi 0] m _
      refine X.ifeq 109 95 (zi315 92) rfl rfl rfl (fun h512 => ?_) (fun h512 => (by exfalso; omega))
      refine X.iload_n 110 (zi315 109) rfl rfl rfl ?_
      by_cases h513 : a1 = 0
      · refine X.tsIn 356 0 (zi315 110) rfl (by omega) rfl rfl ?_
        refine X.cut [(0, zr 4 44)] (zi315 356) rfl ?_
        refine X.aload_n 357 (zi315 356) rfl rfl rfl ?_
        refine X.getF 360 (zi315 357) rfl rfl (by decide) rfl rfl ?_
        refine X.iconst 361 (zi315 360) rfl rfl (by decide) ?_
        refine X.lald 362 (zi315 361) rfl rfl (by decide) rfl (by omega) ?_
        have h514 := r45_0 hJ 4
        refine X.retl (zi315 362) rfl t315 ?_
        exact hQ (m 4 45 0) (by first | trivial | omega) (Eq.trans (if_pos h502c) (Eq.trans (if_pos h508c) (Eq.trans (if_pos h513) rfl))) 
      by_cases h515 : a1 = 1
      · refine X.tsIn 363 1 (zi315 110) rfl (by omega) rfl rfl ?_
        refine X.cut [(0, zr 4 44)] (zi315 363) rfl ?_
        refine X.aload_n 364 (zi315 363) rfl rfl rfl ?_
        refine X.aload_n 365 (zi315 364) rfl rfl rfl ?_
        refine X.getF 368 (zi315 365) rfl rfl (by decide) rfl rfl ?_
        refine X.iconst 369 (zi315 368) rfl rfl (by decide) ?_
        refine X.lald 370 (zi315 369) rfl rfl (by decide) rfl (by omega) ?_
        have h516 := r45_0 hJ 4
        refine X.l2i 371 (zi315 370) rfl rfl (by omega) ?_
        refine X.callv 374 [zi (m 4 45 0)] [] [(0, zr 4 44), (1, zi (m 4 45 0))] (zi315 371) rfl (by decide) rfl rfl (by omega) rfl rfl (by decide) rfl t217 (Nat.le_of_ble_eq_true rfl) (Nat.le_of_ble_eq_true rfl) rfl ?_
        refine c217_1 (B := B)  (m 4 45 0) (by omega) (hJ.up (by omega)) (by omega) (by omega) (fun v519 hv519 hFv519 => ?_)
        show X (EE s) d 315 374 [(0, zr 4 44)] [zi v519] m _
        refine X.i2l 375 (zi315 374) rfl rfl ?_
        refine X.retl (zi315 375) rfl t315 ?_
        exact hQ v519 (by first | trivial | omega) (Eq.trans (if_pos h502c) (Eq.trans (if_pos h508c) (Eq.trans (if_neg h513) (Eq.trans (if_pos h515) (Eq.trans (zn_eq hFv519.symm) rfl))))) 
      by_cases h520 : a1 = 2
      · refine X.tsIn 376 2 (zi315 110) rfl (by omega) rfl rfl ?_
        refine X.cut [(0, zr 4 44)] (zi315 376) rfl ?_
        refine X.aload_n 377 (zi315 376) rfl rfl rfl ?_
        refine X.getF 380 (zi315 377) rfl rfl (by decide) rfl rfl ?_
        refine X.bipush 382 (zi315 380) rfl rfl (by decide) ?_
        refine X.lald 383 (zi315 382) rfl rfl (by decide) rfl (by omega) ?_
        refine X.retl (zi315 383) rfl t315 ?_
        exact hQ (m 4 45 10) (by first | trivial | omega) (Eq.trans (if_pos h502c) (Eq.trans (if_pos h508c) (Eq.trans (if_neg h513) (Eq.trans (if_neg h515) (Eq.trans (if_pos h520) rfl))))) 
      by_cases h521 : a1 = 3
      · refine X.tsIn 384 3 (zi315 110) rfl (by omega) rfl rfl ?_
        refine X.cut [(0, zr 4 44)] (zi315 384) rfl ?_
        refine X.aload_n 385 (zi315 384) rfl rfl rfl ?_
        refine X.getF 388 (zi315 385) rfl rfl (by decide) rfl rfl ?_
        refine X.bipush 390 (zi315 388) rfl rfl (by decide) ?_
        refine X.lald 391 (zi315 390) rfl rfl (by decide) rfl (by omega) ?_
        have h522 := r45_11 hJ 4
        refine X.retl (zi315 391) rfl t315 ?_
        exact hQ (m 4 45 11) (by first | trivial | omega) (Eq.trans (if_pos h502c) (Eq.trans (if_pos h508c) (Eq.trans (if_neg h513) (Eq.trans (if_neg h515) (Eq.trans (if_neg h520) (Eq.trans (if_pos h521) rfl)))))) 
      by_cases h523 : a1 = 4
      · refine X.tsIn 392 4 (zi315 110) rfl (by omega) rfl rfl ?_
        refine X.cut [(0, zr 4 44)] (zi315 392) rfl ?_
        refine X.aload_n 393 (zi315 392) rfl rfl rfl ?_
        refine X.getF 396 (zi315 393) rfl rfl (by decide) rfl rfl ?_
        refine X.bipush 398 (zi315 396) rfl rfl (by decide) ?_
        refine X.lald 399 (zi315 398) rfl rfl (by decide) rfl (by omega) ?_
        have h524 := r45_12 hJ 4
        refine X.retl (zi315 399) rfl t315 ?_
        exact hQ (m 4 45 12) (by first | trivial | omega) (Eq.trans (if_pos h502c) (Eq.trans (if_pos h508c) (Eq.trans (if_neg h513) (Eq.trans (if_neg h515) (Eq.trans (if_neg h520) (Eq.trans (if_neg h521) (Eq.trans (if_pos h523) rfl))))))) 
      by_cases h525 : a1 = 5
      · refine X.tsIn 400 5 (zi315 110) rfl (by omega) rfl rfl ?_
        refine X.cut [(0, zr 4 44)] (zi315 400) rfl ?_
        refine X.aload_n 401 (zi315 400) rfl rfl rfl ?_
        refine X.getF 404 (zi315 401) rfl rfl (by decide) rfl rfl ?_
        refine X.bipush 406 (zi315 404) rfl rfl (by decide) ?_
        refine X.lald 407 (zi315 406) rfl rfl (by decide) rfl (by omega) ?_
        have h526 := r45_13 hJ 4
        refine X.retl (zi315 407) rfl t315 ?_
        exact hQ (m 4 45 13) (by first | trivial | omega) (Eq.trans (if_pos h502c) (Eq.trans (if_pos h508c) (Eq.trans (if_neg h513) (Eq.trans (if_neg h515) (Eq.trans (if_neg h520) (Eq.trans (if_neg h521) (Eq.trans (if_neg h523) (Eq.trans (if_pos h525) rfl)))))))) 
      by_cases h527 : a1 = 6
      · refine X.tsIn 408 6 (zi315 110) rfl (by omega) rfl rfl ?_
        refine X.cut [(0, zr 4 44)] (zi315 408) rfl ?_
        refine X.aload_n 409 (zi315 408) rfl rfl rfl ?_
        refine X.getF 412 (zi315 409) rfl rfl (by decide) rfl rfl ?_
        refine X.bipush 414 (zi315 412) rfl rfl (by decide) ?_
        refine X.lald 415 (zi315 414) rfl rfl (by decide) rfl (by omega) ?_
        refine X.retl (zi315 415) rfl t315 ?_
        exact hQ (m 4 45 14) (by first | trivial | omega) (Eq.trans (if_pos h502c) (Eq.trans (if_pos h508c) (Eq.trans (if_neg h513) (Eq.trans (if_neg h515) (Eq.trans (if_neg h520) (Eq.trans (if_neg h521) (Eq.trans (if_neg h523) (Eq.trans (if_neg h525) (Eq.trans (if_pos h527) rfl))))))))) 
      by_cases h528 : a1 = 7
      · refine X.tsIn 416 7 (zi315 110) rfl (by omega) rfl rfl ?_
        refine X.cut [(0, zr 4 44)] (zi315 416) rfl ?_
        refine X.aload_n 417 (zi315 416) rfl rfl rfl ?_
        refine X.getF 420 (zi315 417) rfl rfl (by decide) rfl rfl ?_
        refine X.bipush 422 (zi315 420) rfl rfl (by decide) ?_
        refine X.lald 423 (zi315 422) rfl rfl (by decide) rfl (by omega) ?_
        refine X.retl (zi315 423) rfl t315 ?_
        exact hQ (m 4 45 15) (by first | trivial | omega) (Eq.trans (if_pos h502c) (Eq.trans (if_pos h508c) (Eq.trans (if_neg h513) (Eq.trans (if_neg h515) (Eq.trans (if_neg h520) (Eq.trans (if_neg h521) (Eq.trans (if_neg h523) (Eq.trans (if_neg h525) (Eq.trans (if_neg h527) (Eq.trans (if_pos h528) rfl)))))))))) 
      by_cases h529 : a1 = 8
      · refine X.tsIn 424 8 (zi315 110) rfl (by omega) rfl rfl ?_
        refine X.cut [(0, zr 4 44)] (zi315 424) rfl ?_
        refine X.aload_n 425 (zi315 424) rfl rfl rfl ?_
        refine X.callv 428 [] [] [(0, zr 4 44)] (zi315 425) rfl (by decide) rfl rfl (by omega) rfl rfl (by decide) rfl t231 (Nat.le_of_ble_eq_true rfl) (Nat.le_of_ble_eq_true rfl) rfl ?_
        refine c231_1 (B := B)   (by omega) (hJ.up (by omega)) (by omega)  (fun v532 hv532 hFv532 => ?_)
        show X (EE s) d 315 428 [(0, zr 4 44)] [zl v532] m _
        refine X.retl (zi315 428) rfl t315 ?_
        exact hQ v532 (by first | trivial | omega) (Eq.trans (if_pos h502c) (Eq.trans (if_pos h508c) (Eq.trans (if_neg h513) (Eq.trans (if_neg h515) (Eq.trans (if_neg h520) (Eq.trans (if_neg h521) (Eq.trans (if_neg h523) (Eq.trans (if_neg h525) (Eq.trans (if_neg h527) (Eq.trans (if_neg h528) (Eq.trans (if_pos h529) (Eq.trans (zn_eq hFv532.symm) rfl)))))))))))) 
      by_cases h533 : a1 = 9
      · refine X.tsIn 429 9 (zi315 110) rfl (by omega) rfl rfl ?_
        refine X.cut [(0, zr 4 44)] (zi315 429) rfl ?_
        refine X.aload_n 430 (zi315 429) rfl rfl rfl ?_
        refine X.getF 433 (zi315 430) rfl rfl (by decide) rfl rfl ?_
        refine X.bipush 435 (zi315 433) rfl rfl (by decide) ?_
        refine X.lald 436 (zi315 435) rfl rfl (by decide) rfl (by omega) ?_
        have h534 := r45_16 hJ 4
        refine X.retl (zi315 436) rfl t315 ?_
        exact hQ (m 4 45 16) (by first | trivial | omega) (Eq.trans (if_pos h502c) (Eq.trans (if_pos h508c) (Eq.trans (if_neg h513) (Eq.trans (if_neg h515) (Eq.trans (if_neg h520) (Eq.trans (if_neg h521) (Eq.trans (if_neg h523) (Eq.trans (if_neg h525) (Eq.trans (if_neg h527) (Eq.trans (if_neg h528) (Eq.trans (if_neg h529) (Eq.trans (if_pos h533) rfl)))))))))))) 
      by_cases h535 : a1 = 10
      · refine X.tsIn 437 10 (zi315 110) rfl (by omega) rfl rfl ?_
        refine X.cut [(0, zr 4 44)] (zi315 437) rfl ?_
        refine X.aload_n 438 (zi315 437) rfl rfl rfl ?_
        refine X.getF 441 (zi315 438) rfl rfl (by decide) rfl rfl ?_
        refine X.bipush 443 (zi315 441) rfl rfl (by decide) ?_
        refine X.lald 444 (zi315 443) rfl rfl (by decide) rfl (by omega) ?_
        have h536 := r45_17 hJ 4
        refine X.retl (zi315 444) rfl t315 ?_
        exact hQ (m 4 45 17) (by first | trivial | omega) (Eq.trans (if_pos h502c) (Eq.trans (if_pos h508c) (Eq.trans (if_neg h513) (Eq.trans (if_neg h515) (Eq.trans (if_neg h520) (Eq.trans (if_neg h521) (Eq.trans (if_neg h523) (Eq.trans (if_neg h525) (Eq.trans (if_neg h527) (Eq.trans (if_neg h528) (Eq.trans (if_neg h529) (Eq.trans (if_neg h533) (Eq.trans (if_pos h535) rfl))))))))))))) 
      by_cases h537 : a1 = 11
      · refine X.tsIn 445 11 (zi315 110) rfl (by omega) rfl rfl ?_
        refine X.cut [(0, zr 4 44)] (zi315 445) rfl ?_
        refine X.aload_n 446 (zi315 445) rfl rfl rfl ?_
        refine X.getF 449 (zi315 446) rfl rfl (by decide) rfl rfl ?_
        refine X.bipush 451 (zi315 449) rfl rfl (by decide) ?_
        refine X.lald 452 (zi315 451) rfl rfl (by decide) rfl (by omega) ?_
        have h538 := r45_18 hJ 4
        refine X.retl (zi315 452) rfl t315 ?_
        exact hQ (m 4 45 18) (by first | trivial | omega) (Eq.trans (if_pos h502c) (Eq.trans (if_pos h508c) (Eq.trans (if_neg h513) (Eq.trans (if_neg h515) (Eq.trans (if_neg h520) (Eq.trans (if_neg h521) (Eq.trans (if_neg h523) (Eq.trans (if_neg h525) (Eq.trans (if_neg h527) (Eq.trans (if_neg h528) (Eq.trans (if_neg h529) (Eq.trans (if_neg h533) (Eq.trans (if_neg h535) (Eq.trans (if_pos h537) rfl)))))))))))))) 
      by_cases h539 : a1 = 12
      · refine X.tsIn 453 12 (zi315 110) rfl (by omega) rfl rfl ?_
        refine X.cut [(0, zr 4 44)] (zi315 453) rfl ?_
        refine X.aload_n 454 (zi315 453) rfl rfl rfl ?_
        refine X.getF 457 (zi315 454) rfl rfl (by decide) rfl rfl ?_
        refine X.iconst 458 (zi315 457) rfl rfl (by decide) ?_
        refine X.lald 459 (zi315 458) rfl rfl (by decide) rfl (by omega) ?_
        have h540 := r45_1 hJ 4
        refine X.retl (zi315 459) rfl t315 ?_
        exact hQ (m 4 45 1) (by first | trivial | omega) (Eq.trans (if_pos h502c) (Eq.trans (if_pos h508c) (Eq.trans (if_neg h513) (Eq.trans (if_neg h515) (Eq.trans (if_neg h520) (Eq.trans (if_neg h521) (Eq.trans (if_neg h523) (Eq.trans (if_neg h525) (Eq.trans (if_neg h527) (Eq.trans (if_neg h528) (Eq.trans (if_neg h529) (Eq.trans (if_neg h533) (Eq.trans (if_neg h535) (Eq.trans (if_neg h537) (Eq.trans (if_pos h539) rfl))))))))))))))) 
      by_cases h541 : a1 = 13
      · refine X.tsIn 460 13 (zi315 110) rfl (by omega) rfl rfl ?_
        refine X.cut [(0, zr 4 44)] (zi315 460) rfl ?_
        refine X.aload_n 461 (zi315 460) rfl rfl rfl ?_
        refine X.getF 464 (zi315 461) rfl rfl (by decide) rfl rfl ?_
        refine X.iconst 465 (zi315 464) rfl rfl (by decide) ?_
        refine X.lald 466 (zi315 465) rfl rfl (by decide) rfl (by omega) ?_
        have h542 := r45_2 hJ 4
        refine X.retl (zi315 466) rfl t315 ?_
        exact hQ (m 4 45 2) (by first | trivial | omega) (Eq.trans (if_pos h502c) (Eq.trans (if_pos h508c) (Eq.trans (if_neg h513) (Eq.trans (if_neg h515) (Eq.trans (if_neg h520) (Eq.trans (if_neg h521) (Eq.trans (if_neg h523) (Eq.trans (if_neg h525) (Eq.trans (if_neg h527) (Eq.trans (if_neg h528) (Eq.trans (if_neg h529) (Eq.trans (if_neg h533) (Eq.trans (if_neg h535) (Eq.trans (if_neg h537) (Eq.trans (if_neg h539) (Eq.trans (if_pos h541) rfl)))))))))))))))) 
      by_cases h543 : a1 = 14
      · refine X.tsIn 467 14 (zi315 110) rfl (by omega) rfl rfl ?_
        refine X.cut [(0, zr 4 44)] (zi315 467) rfl ?_
        refine X.aload_n 468 (zi315 467) rfl rfl rfl ?_
        refine X.getF 471 (zi315 468) rfl rfl (by decide) rfl rfl ?_
        refine X.iconst 472 (zi315 471) rfl rfl (by decide) ?_
        refine X.lald 473 (zi315 472) rfl rfl (by decide) rfl (by omega) ?_
        have h544 := r45_3 hJ 4
        refine X.retl (zi315 473) rfl t315 ?_
        exact hQ (m 4 45 3) (by first | trivial | omega) (Eq.trans (if_pos h502c) (Eq.trans (if_pos h508c) (Eq.trans (if_neg h513) (Eq.trans (if_neg h515) (Eq.trans (if_neg h520) (Eq.trans (if_neg h521) (Eq.trans (if_neg h523) (Eq.trans (if_neg h525) (Eq.trans (if_neg h527) (Eq.trans (if_neg h528) (Eq.trans (if_neg h529) (Eq.trans (if_neg h533) (Eq.trans (if_neg h535) (Eq.trans (if_neg h537) (Eq.trans (if_neg h539) (Eq.trans (if_neg h541) (Eq.trans (if_pos h543) rfl))))))))))))))))) 
      by_cases h545 : a1 = 15
      · refine X.tsIn 474 15 (zi315 110) rfl (by omega) rfl rfl ?_
        refine X.cut [(0, zr 4 44)] (zi315 474) rfl ?_
        refine X.aload_n 475 (zi315 474) rfl rfl rfl ?_
        refine X.callv 478 [] [] [(0, zr 4 44)] (zi315 475) rfl (by decide) rfl rfl (by omega) rfl rfl (by decide) rfl t249 (Nat.le_of_ble_eq_true rfl) (Nat.le_of_ble_eq_true rfl) rfl ?_
        refine c249_1 (B := B)   (by omega) (hJ.up (by omega)) (by omega)  (fun v548 hv548 hFv548 => ?_)
        show X (EE s) d 315 478 [(0, zr 4 44)] [zi v548] m _
        refine X.i2l 479 (zi315 478) rfl rfl ?_
        refine X.retl (zi315 479) rfl t315 ?_
        exact hQ v548 (by first | trivial | omega) (Eq.trans (if_pos h502c) (Eq.trans (if_pos h508c) (Eq.trans (if_neg h513) (Eq.trans (if_neg h515) (Eq.trans (if_neg h520) (Eq.trans (if_neg h521) (Eq.trans (if_neg h523) (Eq.trans (if_neg h525) (Eq.trans (if_neg h527) (Eq.trans (if_neg h528) (Eq.trans (if_neg h529) (Eq.trans (if_neg h533) (Eq.trans (if_neg h535) (Eq.trans (if_neg h537) (Eq.trans (if_neg h539) (Eq.trans (if_neg h541) (Eq.trans (if_neg h543) (Eq.trans (if_pos h545) (Eq.trans (zn_eq hFv548.symm) rfl))))))))))))))))))) 
      by_cases h549 : a1 = 16
      · refine X.tsIn 518 16 (zi315 110) rfl (by omega) rfl rfl ?_
        refine X.cut [] (zi315 518) rfl ?_
        refine X.ldc2 521 (zi315 518) rfl rfl (by decide) ?_
        refine X.retl (zi315 521) rfl t315 ?_
        exact hQ (-10000000000) (by first | trivial | omega) (Eq.trans (if_pos h502c) (Eq.trans (if_pos h508c) (Eq.trans (if_neg h513) (Eq.trans (if_neg h515) (Eq.trans (if_neg h520) (Eq.trans (if_neg h521) (Eq.trans (if_neg h523) (Eq.trans (if_neg h525) (Eq.trans (if_neg h527) (Eq.trans (if_neg h528) (Eq.trans (if_neg h529) (Eq.trans (if_neg h533) (Eq.trans (if_neg h535) (Eq.trans (if_neg h537) (Eq.trans (if_neg h539) (Eq.trans (if_neg h541) (Eq.trans (if_neg h543) (Eq.trans (if_neg h545) (Eq.trans (if_pos h549) rfl))))))))))))))))))) 
      by_cases h550 : a1 = 17
      · refine X.tsIn 518 17 (zi315 110) rfl (by omega) rfl rfl ?_
        refine X.cut [] (zi315 518) rfl ?_
        refine X.ldc2 521 (zi315 518) rfl rfl (by decide) ?_
        refine X.retl (zi315 521) rfl t315 ?_
        exact hQ (-10000000000) (by first | trivial | omega) (Eq.trans (if_pos h502c) (Eq.trans (if_pos h508c) (Eq.trans (if_neg h513) (Eq.trans (if_neg h515) (Eq.trans (if_neg h520) (Eq.trans (if_neg h521) (Eq.trans (if_neg h523) (Eq.trans (if_neg h525) (Eq.trans (if_neg h527) (Eq.trans (if_neg h528) (Eq.trans (if_neg h529) (Eq.trans (if_neg h533) (Eq.trans (if_neg h535) (Eq.trans (if_neg h537) (Eq.trans (if_neg h539) (Eq.trans (if_neg h541) (Eq.trans (if_neg h543) (Eq.trans (if_neg h545) (Eq.trans (if_neg h549) (Eq.trans (if_pos h550) rfl)))))))))))))))))))) 
      by_cases h551 : a1 = 18
      · refine X.tsIn 518 18 (zi315 110) rfl (by omega) rfl rfl ?_
        refine X.cut [] (zi315 518) rfl ?_
        refine X.ldc2 521 (zi315 518) rfl rfl (by decide) ?_
        refine X.retl (zi315 521) rfl t315 ?_
        exact hQ (-10000000000) (by first | trivial | omega) (Eq.trans (if_pos h502c) (Eq.trans (if_pos h508c) (Eq.trans (if_neg h513) (Eq.trans (if_neg h515) (Eq.trans (if_neg h520) (Eq.trans (if_neg h521) (Eq.trans (if_neg h523) (Eq.trans (if_neg h525) (Eq.trans (if_neg h527) (Eq.trans (if_neg h528) (Eq.trans (if_neg h529) (Eq.trans (if_neg h533) (Eq.trans (if_neg h535) (Eq.trans (if_neg h537) (Eq.trans (if_neg h539) (Eq.trans (if_neg h541) (Eq.trans (if_neg h543) (Eq.trans (if_neg h545) (Eq.trans (if_neg h549) (Eq.trans (if_neg h550) (Eq.trans (if_pos h551) rfl))))))))))))))))))))) 
      by_cases h552 : a1 = 19
      · refine X.tsIn 518 19 (zi315 110) rfl (by omega) rfl rfl ?_
        refine X.cut [] (zi315 518) rfl ?_
        refine X.ldc2 521 (zi315 518) rfl rfl (by decide) ?_
        refine X.retl (zi315 521) rfl t315 ?_
        exact hQ (-10000000000) (by first | trivial | omega) (Eq.trans (if_pos h502c) (Eq.trans (if_pos h508c) (Eq.trans (if_neg h513) (Eq.trans (if_neg h515) (Eq.trans (if_neg h520) (Eq.trans (if_neg h521) (Eq.trans (if_neg h523) (Eq.trans (if_neg h525) (Eq.trans (if_neg h527) (Eq.trans (if_neg h528) (Eq.trans (if_neg h529) (Eq.trans (if_neg h533) (Eq.trans (if_neg h535) (Eq.trans (if_neg h537) (Eq.trans (if_neg h539) (Eq.trans (if_neg h541) (Eq.trans (if_neg h543) (Eq.trans (if_neg h545) (Eq.trans (if_neg h549) (Eq.trans (if_neg h550) (Eq.trans (if_neg h551) (Eq.trans (if_pos h552) rfl)))))))))))))))))))))) 
      refine X.tsOut 518 (zi315 110) rfl (by omega) rfl ?_
      refine X.cut [] (zi315 518) rfl ?_
      refine X.ldc2 521 (zi315 518) rfl rfl (by decide) ?_
      refine X.retl (zi315 521) rfl t315 ?_
      exact hQ (-10000000000) (by first | trivial | omega) (Eq.trans (if_pos h502c) (Eq.trans (if_pos h508c) (Eq.trans (if_neg h513) (Eq.trans (if_neg h515) (Eq.trans (if_neg h520) (Eq.trans (if_neg h521) (Eq.trans (if_neg h523) (Eq.trans (if_neg h525) (Eq.trans (if_neg h527) (Eq.trans (if_neg h528) (Eq.trans (if_neg h529) (Eq.trans (if_neg h533) (Eq.trans (if_neg h535) (Eq.trans (if_neg h537) (Eq.trans (if_neg h539) (Eq.trans (if_neg h541) (Eq.trans (if_neg h543) (Eq.trans (if_neg h545) (Eq.trans (if_neg h549) (Eq.trans (if_neg h550) (Eq.trans (if_neg h551) (Eq.trans (if_neg h552) rfl)))))))))))))))))))))) 
    · have h508c : ¬ a1 < 20 := by omega
      clear h508 hz507
      refine X.lload_n 7 (zi204 6) rfl rfl rfl ?_
      refine X.lload 9 (zi204 7) rfl rfl rfl ?_
      refine X.lcmp 10 (zi204 9) rfl rfl (fun z553 hz553 => ?_)
      refine X.ifgt 17 13 (zi204 10) rfl rfl rfl (fun h554 => ?_) (fun h554 => ?_)
      · have h554c : ¬ a1 ≤ 25 := by omega
        clear h554 hz553
        refine X.cut [] (zi204 17) rfl ?_
        refine X.iconst 18 (zi204 17) rfl rfl (by decide) ?_
        refine X.retz (zi204 18) rfl t204 (by omega) ?_
        show X (EE s) d 315 66 [(0, zr 4 44), (1, zi a1)] [zi 0] m _
        refine X.ifeq 81 69 (zi315 66) rfl rfl rfl (fun h555 => ?_) (fun h555 => (by exfalso; omega))
        refine X.iload_n 82 (zi315 81) rfl rfl rfl ?_
        refine X.i2l 83 (zi315 82) rfl rfl ?_
        refine X.ldc2 86 (zi315 83) rfl rfl (by decide) ?_
        refine X.ldc2 89 (zi315 86) rfl rfl (by decide) ?_
        refine X.calls 92 [zl a1, zl 50, zl 52] [] [(0, zl a1), (2, zl 50), (4, zl 52)] (zi315 89) (by decide) rfl rfl (by omega) rfl rfl t204 (Nat.le_of_ble_eq_true rfl) (Nat.le_of_ble_eq_true rfl) rfl ?_
        refine X.lload_n 1 (zi204 0) rfl rfl rfl ?_
        refine X.lload_n 2 (zi204 1) rfl rfl rfl ?_
        refine X.lcmp 3 (zi204 2) rfl rfl (fun z556 hz556 => ?_)
        refine X.iflt 17 6 (zi204 3) rfl rfl rfl (fun h557 => ?_) (fun h557 => (by exfalso; omega))
        have h557c : a1 < 50 := by omega
        clear h557 hz556
        refine X.cut [] (zi204 17) rfl ?_
        refine X.iconst 18 (zi204 17) rfl rfl (by decide) ?_
        refine X.retz (zi204 18) rfl t204 (by omega) ?_
        show X (EE s) d 315 92 [(0, zr 4 44), (1, zi a1)] [zi 0] m _
        refine X.ifeq 109 95 (zi315 92) rfl rfl rfl (fun h558 => ?_) (fun h558 => (by exfalso; omega))
        refine X.iload_n 110 (zi315 109) rfl rfl rfl ?_
        by_cases h559 : a1 = 26
        · refine X.tsIn 518 26 (zi315 110) rfl (by omega) rfl rfl ?_
          refine X.cut [] (zi315 518) rfl ?_
          refine X.ldc2 521 (zi315 518) rfl rfl (by decide) ?_
          refine X.retl (zi315 521) rfl t315 ?_
          exact hQ (-10000000000) (by first | trivial | omega) (Eq.trans (if_pos h502c) (Eq.trans (if_neg h508c) (Eq.trans (if_neg h554c) (Eq.trans (if_pos h559) rfl)))) 
        by_cases h560 : a1 = 27
        · refine X.tsIn 518 27 (zi315 110) rfl (by omega) rfl rfl ?_
          refine X.cut [] (zi315 518) rfl ?_
          refine X.ldc2 521 (zi315 518) rfl rfl (by decide) ?_
          refine X.retl (zi315 521) rfl t315 ?_
          exact hQ (-10000000000) (by first | trivial | omega) (Eq.trans (if_pos h502c) (Eq.trans (if_neg h508c) (Eq.trans (if_neg h554c) (Eq.trans (if_neg h559) (Eq.trans (if_pos h560) rfl))))) 
        by_cases h561 : a1 = 28
        · refine X.tsIn 518 28 (zi315 110) rfl (by omega) rfl rfl ?_
          refine X.cut [] (zi315 518) rfl ?_
          refine X.ldc2 521 (zi315 518) rfl rfl (by decide) ?_
          refine X.retl (zi315 521) rfl t315 ?_
          exact hQ (-10000000000) (by first | trivial | omega) (Eq.trans (if_pos h502c) (Eq.trans (if_neg h508c) (Eq.trans (if_neg h554c) (Eq.trans (if_neg h559) (Eq.trans (if_neg h560) (Eq.trans (if_pos h561) rfl)))))) 
        by_cases h562 : a1 = 29
        · refine X.tsIn 518 29 (zi315 110) rfl (by omega) rfl rfl ?_
          refine X.cut [] (zi315 518) rfl ?_
          refine X.ldc2 521 (zi315 518) rfl rfl (by decide) ?_
          refine X.retl (zi315 521) rfl t315 ?_
          exact hQ (-10000000000) (by first | trivial | omega) (Eq.trans (if_pos h502c) (Eq.trans (if_neg h508c) (Eq.trans (if_neg h554c) (Eq.trans (if_neg h559) (Eq.trans (if_neg h560) (Eq.trans (if_neg h561) rfl)))))) 
        exfalso
        omega
      · have h554c : a1 ≤ 25 := by omega
        clear h554 hz553
        refine X.iconst 14 (zi204 13) rfl rfl (by decide) ?_
        refine X.goto 18 (zi204 14) rfl rfl ?_
        refine X.cut [] (zi204 18) rfl ?_
        refine X.retz (zi204 18) rfl t204 (by omega) ?_
        show X (EE s) d 315 66 [(0, zr 4 44), (1, zi a1)] [zi 1] m _
        refine X.ifeq 81 69 (zi315 66) rfl rfl rfl (fun h563 => (by exfalso; omega)) (fun h563 => ?_)
        refine X.aload_n 70 (zi315 69) rfl rfl rfl ?_
        refine X.getF 73 (zi315 70) rfl rfl (by decide) rfl rfl ?_
        refine X.iconst 74 (zi315 73) rfl rfl (by decide) ?_
        refine X.iload_n 75 (zi315 74) rfl rfl rfl ?_
        refine X.iadd 76 (zi315 75) rfl rfl (by omega) ?_
        refine X.bipush 78 (zi315 76) rfl rfl (by decide) ?_
        refine X.isub 79 (zi315 78) rfl rfl (by omega) ?_
        refine X.lald 80 (zi315 79) rfl rfl (by decide) rfl (by omega) ?_
        have h564 := r45_4 hJ 4
        refine X.retl (zi315 80) rfl t315 ?_
        exact hQ (m 4 45 ((4 + a1) - 20)) (by first | trivial | omega) (Eq.trans (if_pos h502c) (Eq.trans (if_neg h508c) (Eq.trans (if_pos h554c) rfl))) 
  · have h502c : ¬ a1 < 30 := by omega
    clear h502 hz501
    refine X.lload_n 7 (zi204 6) rfl rfl rfl ?_
    refine X.lload 9 (zi204 7) rfl rfl rfl ?_
    refine X.lcmp 10 (zi204 9) rfl rfl (fun z565 hz565 => ?_)
    refine X.ifgt 17 13 (zi204 10) rfl rfl rfl (fun h566 => ?_) (fun h566 => ?_)
    · have h566c : ¬ a1 ≤ 33 := by omega
      clear h566 hz565
      refine X.cut [] (zi204 17) rfl ?_
      refine X.iconst 18 (zi204 17) rfl rfl (by decide) ?_
      refine X.retz (zi204 18) rfl t204 (by omega) ?_
      show X (EE s) d 315 11 [(0, zr 4 44), (1, zi a1)] [zi 0] m _
      refine X.ifeq 27 14 (zi315 11) rfl rfl rfl (fun h567 => ?_) (fun h567 => (by exfalso; omega))
      refine X.iload_n 28 (zi315 27) rfl rfl rfl ?_
      refine X.i2l 29 (zi315 28) rfl rfl ?_
      refine X.ldc2 32 (zi315 29) rfl rfl (by decide) ?_
      refine X.ldc2 35 (zi315 32) rfl rfl (by decide) ?_
      refine X.calls 38 [zl a1, zl 40, zl 43] [] [(0, zl a1), (2, zl 40), (4, zl 43)] (zi315 35) (by decide) rfl rfl (by omega) rfl rfl t204 (Nat.le_of_ble_eq_true rfl) (Nat.le_of_ble_eq_true rfl) rfl ?_
      refine X.lload_n 1 (zi204 0) rfl rfl rfl ?_
      refine X.lload_n 2 (zi204 1) rfl rfl rfl ?_
      refine X.lcmp 3 (zi204 2) rfl rfl (fun z568 hz568 => ?_)
      refine X.iflt 17 6 (zi204 3) rfl rfl rfl (fun h569 => ?_) (fun h569 => ?_)
      · have h569c : a1 < 40 := by omega
        clear h569 hz568
        refine X.cut [] (zi204 17) rfl ?_
        refine X.iconst 18 (zi204 17) rfl rfl (by decide) ?_
        refine X.retz (zi204 18) rfl t204 (by omega) ?_
        show X (EE s) d 315 38 [(0, zr 4 44), (1, zi a1)] [zi 0] m _
        refine X.ifeq 55 41 (zi315 38) rfl rfl rfl (fun h570 => ?_) (fun h570 => (by exfalso; omega))
        refine X.iload_n 56 (zi315 55) rfl rfl rfl ?_
        refine X.i2l 57 (zi315 56) rfl rfl ?_
        refine X.ldc2 60 (zi315 57) rfl rfl (by decide) ?_
        refine X.ldc2 63 (zi315 60) rfl rfl (by decide) ?_
        refine X.calls 66 [zl a1, zl 20, zl 25] [] [(0, zl a1), (2, zl 20), (4, zl 25)] (zi315 63) (by decide) rfl rfl (by omega) rfl rfl t204 (Nat.le_of_ble_eq_true rfl) (Nat.le_of_ble_eq_true rfl) rfl ?_
        refine X.lload_n 1 (zi204 0) rfl rfl rfl ?_
        refine X.lload_n 2 (zi204 1) rfl rfl rfl ?_
        refine X.lcmp 3 (zi204 2) rfl rfl (fun z571 hz571 => ?_)
        refine X.iflt 17 6 (zi204 3) rfl rfl rfl (fun h572 => (by exfalso; omega)) (fun h572 => ?_)
        have h572c : ¬ a1 < 20 := by omega
        clear h572 hz571
        refine X.lload_n 7 (zi204 6) rfl rfl rfl ?_
        refine X.lload 9 (zi204 7) rfl rfl rfl ?_
        refine X.lcmp 10 (zi204 9) rfl rfl (fun z573 hz573 => ?_)
        refine X.ifgt 17 13 (zi204 10) rfl rfl rfl (fun h574 => ?_) (fun h574 => (by exfalso; omega))
        have h574c : ¬ a1 ≤ 25 := by omega
        clear h574 hz573
        refine X.cut [] (zi204 17) rfl ?_
        refine X.iconst 18 (zi204 17) rfl rfl (by decide) ?_
        refine X.retz (zi204 18) rfl t204 (by omega) ?_
        show X (EE s) d 315 66 [(0, zr 4 44), (1, zi a1)] [zi 0] m _
        refine X.ifeq 81 69 (zi315 66) rfl rfl rfl (fun h575 => ?_) (fun h575 => (by exfalso; omega))
        refine X.iload_n 82 (zi315 81) rfl rfl rfl ?_
        refine X.i2l 83 (zi315 82) rfl rfl ?_
        refine X.ldc2 86 (zi315 83) rfl rfl (by decide) ?_
        refine X.ldc2 89 (zi315 86) rfl rfl (by decide) ?_
        refine X.calls 92 [zl a1, zl 50, zl 52] [] [(0, zl a1), (2, zl 50), (4, zl 52)] (zi315 89) (by decide) rfl rfl (by omega) rfl rfl t204 (Nat.le_of_ble_eq_true rfl) (Nat.le_of_ble_eq_true rfl) rfl ?_
        refine X.lload_n 1 (zi204 0) rfl rfl rfl ?_
        refine X.lload_n 2 (zi204 1) rfl rfl rfl ?_
        refine X.lcmp 3 (zi204 2) rfl rfl (fun z576 hz576 => ?_)
        refine X.iflt 17 6 (zi204 3) rfl rfl rfl (fun h577 => ?_) (fun h577 => (by exfalso; omega))
        have h577c : a1 < 50 := by omega
        clear h577 hz576
        refine X.cut [] (zi204 17) rfl ?_
        refine X.iconst 18 (zi204 17) rfl rfl (by decide) ?_
        refine X.retz (zi204 18) rfl t204 (by omega) ?_
        show X (EE s) d 315 92 [(0, zr 4 44), (1, zi a1)] [zi 0] m _
        refine X.ifeq 109 95 (zi315 92) rfl rfl rfl (fun h578 => ?_) (fun h578 => (by exfalso; omega))
        refine X.iload_n 110 (zi315 109) rfl rfl rfl ?_
        by_cases h579 : a1 = 34
        · refine X.tsIn 518 34 (zi315 110) rfl (by omega) rfl rfl ?_
          refine X.cut [] (zi315 518) rfl ?_
          refine X.ldc2 521 (zi315 518) rfl rfl (by decide) ?_
          refine X.retl (zi315 521) rfl t315 ?_
          exact hQ (-10000000000) (by first | trivial | omega) (Eq.trans (if_neg h502c) (Eq.trans (if_neg h566c) (Eq.trans (if_pos h569c) (Eq.trans (if_pos h579) rfl)))) 
        by_cases h580 : a1 = 35
        · refine X.tsIn 518 35 (zi315 110) rfl (by omega) rfl rfl ?_
          refine X.cut [] (zi315 518) rfl ?_
          refine X.ldc2 521 (zi315 518) rfl rfl (by decide) ?_
          refine X.retl (zi315 521) rfl t315 ?_
          exact hQ (-10000000000) (by first | trivial | omega) (Eq.trans (if_neg h502c) (Eq.trans (if_neg h566c) (Eq.trans (if_pos h569c) (Eq.trans (if_neg h579) (Eq.trans (if_pos h580) rfl))))) 
        by_cases h581 : a1 = 36
        · refine X.tsIn 518 36 (zi315 110) rfl (by omega) rfl rfl ?_
          refine X.cut [] (zi315 518) rfl ?_
          refine X.ldc2 521 (zi315 518) rfl rfl (by decide) ?_
          refine X.retl (zi315 521) rfl t315 ?_
          exact hQ (-10000000000) (by first | trivial | omega) (Eq.trans (if_neg h502c) (Eq.trans (if_neg h566c) (Eq.trans (if_pos h569c) (Eq.trans (if_neg h579) (Eq.trans (if_neg h580) (Eq.trans (if_pos h581) rfl)))))) 
        by_cases h582 : a1 = 37
        · refine X.tsIn 518 37 (zi315 110) rfl (by omega) rfl rfl ?_
          refine X.cut [] (zi315 518) rfl ?_
          refine X.ldc2 521 (zi315 518) rfl rfl (by decide) ?_
          refine X.retl (zi315 521) rfl t315 ?_
          exact hQ (-10000000000) (by first | trivial | omega) (Eq.trans (if_neg h502c) (Eq.trans (if_neg h566c) (Eq.trans (if_pos h569c) (Eq.trans (if_neg h579) (Eq.trans (if_neg h580) (Eq.trans (if_neg h581) (Eq.trans (if_pos h582) rfl))))))) 
        by_cases h583 : a1 = 38
        · refine X.tsIn 518 38 (zi315 110) rfl (by omega) rfl rfl ?_
          refine X.cut [] (zi315 518) rfl ?_
          refine X.ldc2 521 (zi315 518) rfl rfl (by decide) ?_
          refine X.retl (zi315 521) rfl t315 ?_
          exact hQ (-10000000000) (by first | trivial | omega) (Eq.trans (if_neg h502c) (Eq.trans (if_neg h566c) (Eq.trans (if_pos h569c) (Eq.trans (if_neg h579) (Eq.trans (if_neg h580) (Eq.trans (if_neg h581) (Eq.trans (if_neg h582) (Eq.trans (if_pos h583) rfl)))))))) 
        by_cases h584 : a1 = 39
        · refine X.tsIn 518 39 (zi315 110) rfl (by omega) rfl rfl ?_
          refine X.cut [] (zi315 518) rfl ?_
          refine X.ldc2 521 (zi315 518) rfl rfl (by decide) ?_
          refine X.retl (zi315 521) rfl t315 ?_
          exact hQ (-10000000000) (by first | trivial | omega) (Eq.trans (if_neg h502c) (Eq.trans (if_neg h566c) (Eq.trans (if_pos h569c) (Eq.trans (if_neg h579) (Eq.trans (if_neg h580) (Eq.trans (if_neg h581) (Eq.trans (if_neg h582) (Eq.trans (if_neg h583) rfl)))))))) 
        exfalso
        omega
      · have h569c : ¬ a1 < 40 := by omega
        clear h569 hz568
        refine X.lload_n 7 (zi204 6) rfl rfl rfl ?_
        refine X.lload 9 (zi204 7) rfl rfl rfl ?_
        refine X.lcmp 10 (zi204 9) rfl rfl (fun z585 hz585 => ?_)
        refine X.ifgt 17 13 (zi204 10) rfl rfl rfl (fun h586 => ?_) (fun h586 => ?_)
        · have h586c : ¬ a1 ≤ 43 := by omega
          clear h586 hz585
          refine X.cut [] (zi204 17) rfl ?_
          refine X.iconst 18 (zi204 17) rfl rfl (by decide) ?_
          refine X.retz (zi204 18) rfl t204 (by omega) ?_
          show X (EE s) d 315 38 [(0, zr 4 44), (1, zi a1)] [zi 0] m _
          refine X.ifeq 55 41 (zi315 38) rfl rfl rfl (fun h587 => ?_) (fun h587 => (by exfalso; omega))
          refine X.iload_n 56 (zi315 55) rfl rfl rfl ?_
          refine X.i2l 57 (zi315 56) rfl rfl ?_
          refine X.ldc2 60 (zi315 57) rfl rfl (by decide) ?_
          refine X.ldc2 63 (zi315 60) rfl rfl (by decide) ?_
          refine X.calls 66 [zl a1, zl 20, zl 25] [] [(0, zl a1), (2, zl 20), (4, zl 25)] (zi315 63) (by decide) rfl rfl (by omega) rfl rfl t204 (Nat.le_of_ble_eq_true rfl) (Nat.le_of_ble_eq_true rfl) rfl ?_
          refine X.lload_n 1 (zi204 0) rfl rfl rfl ?_
          refine X.lload_n 2 (zi204 1) rfl rfl rfl ?_
          refine X.lcmp 3 (zi204 2) rfl rfl (fun z588 hz588 => ?_)
          refine X.iflt 17 6 (zi204 3) rfl rfl rfl (fun h589 => (by exfalso; omega)) (fun h589 => ?_)
          have h589c : ¬ a1 < 20 := by omega
          clear h589 hz588
          refine X.lload_n 7 (zi204 6) rfl rfl rfl ?_
          refine X.lload 9 (zi204 7) rfl rfl rfl ?_
          refine X.lcmp 10 (zi204 9) rfl rfl (fun z590 hz590 => ?_)
          refine X.ifgt 17 13 (zi204 10) rfl rfl rfl (fun h591 => ?_) (fun h591 => (by exfalso; omega))
          have h591c : ¬ a1 ≤ 25 := by omega
          clear h591 hz590
          refine X.cut [] (zi204 17) rfl ?_
          refine X.iconst 18 (zi204 17) rfl rfl (by decide) ?_
          refine X.retz (zi204 18) rfl t204 (by omega) ?_
          show X (EE s) d 315 66 [(0, zr 4 44), (1, zi a1)] [zi 0] m _
          refine X.ifeq 81 69 (zi315 66) rfl rfl rfl (fun h592 => ?_) (fun h592 => (by exfalso; omega))
          refine X.iload_n 82 (zi315 81) rfl rfl rfl ?_
          refine X.i2l 83 (zi315 82) rfl rfl ?_
          refine X.ldc2 86 (zi315 83) rfl rfl (by decide) ?_
          refine X.ldc2 89 (zi315 86) rfl rfl (by decide) ?_
          refine X.calls 92 [zl a1, zl 50, zl 52] [] [(0, zl a1), (2, zl 50), (4, zl 52)] (zi315 89) (by decide) rfl rfl (by omega) rfl rfl t204 (Nat.le_of_ble_eq_true rfl) (Nat.le_of_ble_eq_true rfl) rfl ?_
          refine X.lload_n 1 (zi204 0) rfl rfl rfl ?_
          refine X.lload_n 2 (zi204 1) rfl rfl rfl ?_
          refine X.lcmp 3 (zi204 2) rfl rfl (fun z593 hz593 => ?_)
          refine X.iflt 17 6 (zi204 3) rfl rfl rfl (fun h594 => ?_) (fun h594 => ?_)
          · have h594c : a1 < 50 := by omega
            clear h594 hz593
            refine X.cut [] (zi204 17) rfl ?_
            refine X.iconst 18 (zi204 17) rfl rfl (by decide) ?_
            refine X.retz (zi204 18) rfl t204 (by omega) ?_
            show X (EE s) d 315 92 [(0, zr 4 44), (1, zi a1)] [zi 0] m _
            refine X.ifeq 109 95 (zi315 92) rfl rfl rfl (fun h595 => ?_) (fun h595 => (by exfalso; omega))
            refine X.iload_n 110 (zi315 109) rfl rfl rfl ?_
            by_cases h596 : a1 = 44
            · refine X.tsIn 518 44 (zi315 110) rfl (by omega) rfl rfl ?_
              refine X.cut [] (zi315 518) rfl ?_
              refine X.ldc2 521 (zi315 518) rfl rfl (by decide) ?_
              refine X.retl (zi315 521) rfl t315 ?_
              exact hQ (-10000000000) (by first | trivial | omega) (Eq.trans (if_neg h502c) (Eq.trans (if_neg h566c) (Eq.trans (if_neg h569c) (Eq.trans (if_neg h586c) (Eq.trans (if_pos h594c) (Eq.trans (if_pos h596) rfl)))))) 
            by_cases h597 : a1 = 45
            · refine X.tsIn 518 45 (zi315 110) rfl (by omega) rfl rfl ?_
              refine X.cut [] (zi315 518) rfl ?_
              refine X.ldc2 521 (zi315 518) rfl rfl (by decide) ?_
              refine X.retl (zi315 521) rfl t315 ?_
              exact hQ (-10000000000) (by first | trivial | omega) (Eq.trans (if_neg h502c) (Eq.trans (if_neg h566c) (Eq.trans (if_neg h569c) (Eq.trans (if_neg h586c) (Eq.trans (if_pos h594c) (Eq.trans (if_neg h596) (Eq.trans (if_pos h597) rfl))))))) 
            by_cases h598 : a1 = 46
            · refine X.tsIn 518 46 (zi315 110) rfl (by omega) rfl rfl ?_
              refine X.cut [] (zi315 518) rfl ?_
              refine X.ldc2 521 (zi315 518) rfl rfl (by decide) ?_
              refine X.retl (zi315 521) rfl t315 ?_
              exact hQ (-10000000000) (by first | trivial | omega) (Eq.trans (if_neg h502c) (Eq.trans (if_neg h566c) (Eq.trans (if_neg h569c) (Eq.trans (if_neg h586c) (Eq.trans (if_pos h594c) (Eq.trans (if_neg h596) (Eq.trans (if_neg h597) (Eq.trans (if_pos h598) rfl)))))))) 
            by_cases h599 : a1 = 47
            · refine X.tsIn 518 47 (zi315 110) rfl (by omega) rfl rfl ?_
              refine X.cut [] (zi315 518) rfl ?_
              refine X.ldc2 521 (zi315 518) rfl rfl (by decide) ?_
              refine X.retl (zi315 521) rfl t315 ?_
              exact hQ (-10000000000) (by first | trivial | omega) (Eq.trans (if_neg h502c) (Eq.trans (if_neg h566c) (Eq.trans (if_neg h569c) (Eq.trans (if_neg h586c) (Eq.trans (if_pos h594c) (Eq.trans (if_neg h596) (Eq.trans (if_neg h597) (Eq.trans (if_neg h598) (Eq.trans (if_pos h599) rfl))))))))) 
            by_cases h600 : a1 = 48
            · refine X.tsIn 518 48 (zi315 110) rfl (by omega) rfl rfl ?_
              refine X.cut [] (zi315 518) rfl ?_
              refine X.ldc2 521 (zi315 518) rfl rfl (by decide) ?_
              refine X.retl (zi315 521) rfl t315 ?_
              exact hQ (-10000000000) (by first | trivial | omega) (Eq.trans (if_neg h502c) (Eq.trans (if_neg h566c) (Eq.trans (if_neg h569c) (Eq.trans (if_neg h586c) (Eq.trans (if_pos h594c) (Eq.trans (if_neg h596) (Eq.trans (if_neg h597) (Eq.trans (if_neg h598) (Eq.trans (if_neg h599) (Eq.trans (if_pos h600) rfl)))))))))) 
            by_cases h601 : a1 = 49
            · refine X.tsIn 518 49 (zi315 110) rfl (by omega) rfl rfl ?_
              refine X.cut [] (zi315 518) rfl ?_
              refine X.ldc2 521 (zi315 518) rfl rfl (by decide) ?_
              refine X.retl (zi315 521) rfl t315 ?_
              exact hQ (-10000000000) (by first | trivial | omega) (Eq.trans (if_neg h502c) (Eq.trans (if_neg h566c) (Eq.trans (if_neg h569c) (Eq.trans (if_neg h586c) (Eq.trans (if_pos h594c) (Eq.trans (if_neg h596) (Eq.trans (if_neg h597) (Eq.trans (if_neg h598) (Eq.trans (if_neg h599) (Eq.trans (if_neg h600) rfl)))))))))) 
            exfalso
            omega
          · have h594c : ¬ a1 < 50 := by omega
            clear h594 hz593
            refine X.lload_n 7 (zi204 6) rfl rfl rfl ?_
            refine X.lload 9 (zi204 7) rfl rfl rfl ?_
            refine X.lcmp 10 (zi204 9) rfl rfl (fun z602 hz602 => ?_)
            refine X.ifgt 17 13 (zi204 10) rfl rfl rfl (fun h603 => ?_) (fun h603 => ?_)
            · have h603c : ¬ a1 ≤ 52 := by omega
              clear h603 hz602
              refine X.cut [] (zi204 17) rfl ?_
              refine X.iconst 18 (zi204 17) rfl rfl (by decide) ?_
              refine X.retz (zi204 18) rfl t204 (by omega) ?_
              show X (EE s) d 315 92 [(0, zr 4 44), (1, zi a1)] [zi 0] m _
              refine X.ifeq 109 95 (zi315 92) rfl rfl rfl (fun h604 => ?_) (fun h604 => (by exfalso; omega))
              refine X.iload_n 110 (zi315 109) rfl rfl rfl ?_
              by_cases h605 : a1 = 53
              · refine X.tsIn 480 53 (zi315 110) rfl (by omega) rfl rfl ?_
                refine X.cut [(0, zr 4 44)] (zi315 480) rfl ?_
                refine X.aload_n 481 (zi315 480) rfl rfl rfl ?_
                refine X.getF 484 (zi315 481) rfl rfl (by decide) rfl rfl ?_
                refine X.sipush 487 (zi315 484) rfl rfl (by decide) ?_
                refine X.lald 488 (zi315 487) rfl rfl (by decide) rfl (by omega) ?_
                have h606 := r45_1614 hJ 4
                refine X.retl (zi315 488) rfl t315 ?_
                exact hQ (m 4 45 1614) (by first | trivial | omega) (Eq.trans (if_neg h502c) (Eq.trans (if_neg h566c) (Eq.trans (if_neg h569c) (Eq.trans (if_neg h586c) (Eq.trans (if_neg h594c) (Eq.trans (if_neg h603c) (Eq.trans (if_pos h605) rfl))))))) 
              by_cases h607 : a1 = 54
              · refine X.tsIn 489 54 (zi315 110) rfl (by omega) rfl rfl ?_
                refine X.cut [(0, zr 4 44)] (zi315 489) rfl ?_
                refine X.aload_n 490 (zi315 489) rfl rfl rfl ?_
                refine X.getF 493 (zi315 490) rfl rfl (by decide) rfl rfl ?_
                refine X.sipush 496 (zi315 493) rfl rfl (by decide) ?_
                refine X.lald 497 (zi315 496) rfl rfl (by decide) rfl (by omega) ?_
                have h608 := r45_1616 hJ 4
                refine X.retl (zi315 497) rfl t315 ?_
                exact hQ (m 4 45 1616) (by first | trivial | omega) (Eq.trans (if_neg h502c) (Eq.trans (if_neg h566c) (Eq.trans (if_neg h569c) (Eq.trans (if_neg h586c) (Eq.trans (if_neg h594c) (Eq.trans (if_neg h603c) (Eq.trans (if_neg h605) (Eq.trans (if_pos h607) rfl)))))))) 
              by_cases h609 : a1 = 55
              · refine X.tsIn 498 55 (zi315 110) rfl (by omega) rfl rfl ?_
                refine X.cut [(0, zr 4 44)] (zi315 498) rfl ?_
                refine X.aload_n 499 (zi315 498) rfl rfl rfl ?_
                refine X.callv 502 [] [] [(0, zr 4 44)] (zi315 499) rfl (by decide) rfl rfl (by omega) rfl rfl (by decide) rfl t278 (Nat.le_of_ble_eq_true rfl) (Nat.le_of_ble_eq_true rfl) rfl ?_
                refine c278_1 (B := B)   (by omega) (hJ.up (by omega)) (by omega)  (fun v612 hv612 hFv612 => ?_)
                show X (EE s) d 315 502 [(0, zr 4 44)] [zl v612] m _
                refine X.retl (zi315 502) rfl t315 ?_
                exact hQ v612 (by first | trivial | omega) (Eq.trans (if_neg h502c) (Eq.trans (if_neg h566c) (Eq.trans (if_neg h569c) (Eq.trans (if_neg h586c) (Eq.trans (if_neg h594c) (Eq.trans (if_neg h603c) (Eq.trans (if_neg h605) (Eq.trans (if_neg h607) (Eq.trans (if_pos h609) (Eq.trans (zn_eq hFv612.symm) rfl)))))))))) 
              by_cases h613 : a1 = 56
              · refine X.tsIn 503 56 (zi315 110) rfl (by omega) rfl rfl ?_
                refine X.cut [(0, zr 4 44)] (zi315 503) rfl ?_
                refine X.aload_n 504 (zi315 503) rfl rfl rfl ?_
                refine X.getF 507 (zi315 504) rfl rfl (by decide) rfl rfl ?_
                refine X.sipush 510 (zi315 507) rfl rfl (by decide) ?_
                refine X.lald 511 (zi315 510) rfl rfl (by decide) rfl (by omega) ?_
                refine X.retl (zi315 511) rfl t315 ?_
                exact hQ (m 4 45 1618) (by first | trivial | omega) (Eq.trans (if_neg h502c) (Eq.trans (if_neg h566c) (Eq.trans (if_neg h569c) (Eq.trans (if_neg h586c) (Eq.trans (if_neg h594c) (Eq.trans (if_neg h603c) (Eq.trans (if_neg h605) (Eq.trans (if_neg h607) (Eq.trans (if_neg h609) (Eq.trans (if_pos h613) rfl)))))))))) 
              by_cases h614 : a1 = 57
              · refine X.tsIn 512 57 (zi315 110) rfl (by omega) rfl rfl ?_
                refine X.cut [(0, zr 4 44)] (zi315 512) rfl ?_
                refine X.aload_n 513 (zi315 512) rfl rfl rfl ?_
                refine X.getI 516 5 (zi315 513) rfl rfl (by decide) rfl rfl rfl ?_
                have h615 := r44_5 hJ 4
                refine X.i2l 517 (zi315 516) rfl rfl ?_
                refine X.retl (zi315 517) rfl t315 ?_
                exact hQ (m 4 44 5) (by first | trivial | omega) (Eq.trans (if_neg h502c) (Eq.trans (if_neg h566c) (Eq.trans (if_neg h569c) (Eq.trans (if_neg h586c) (Eq.trans (if_neg h594c) (Eq.trans (if_neg h603c) (Eq.trans (if_neg h605) (Eq.trans (if_neg h607) (Eq.trans (if_neg h609) (Eq.trans (if_neg h613) (Eq.trans (if_pos h614) rfl))))))))))) 
              refine X.tsOut 518 (zi315 110) rfl (by omega) rfl ?_
              refine X.cut [] (zi315 518) rfl ?_
              refine X.ldc2 521 (zi315 518) rfl rfl (by decide) ?_
              refine X.retl (zi315 521) rfl t315 ?_
              exact hQ (-10000000000) (by first | trivial | omega) (Eq.trans (if_neg h502c) (Eq.trans (if_neg h566c) (Eq.trans (if_neg h569c) (Eq.trans (if_neg h586c) (Eq.trans (if_neg h594c) (Eq.trans (if_neg h603c) (Eq.trans (if_neg h605) (Eq.trans (if_neg h607) (Eq.trans (if_neg h609) (Eq.trans (if_neg h613) (Eq.trans (if_neg h614) rfl))))))))))) 
            · have h603c : a1 ≤ 52 := by omega
              clear h603 hz602
              refine X.iconst 14 (zi204 13) rfl rfl (by decide) ?_
              refine X.goto 18 (zi204 14) rfl rfl ?_
              refine X.cut [] (zi204 18) rfl ?_
              refine X.retz (zi204 18) rfl t204 (by omega) ?_
              show X (EE s) d 315 92 [(0, zr 4 44), (1, zi a1)] [zi 1] m _
              refine X.ifeq 109 95 (zi315 92) rfl rfl rfl (fun h616 => (by exfalso; omega)) (fun h616 => ?_)
              refine X.aload_n 96 (zi315 95) rfl rfl rfl ?_
              refine X.getF 99 (zi315 96) rfl rfl (by decide) rfl rfl ?_
              refine X.sipush 102 (zi315 99) rfl rfl (by decide) ?_
              refine X.iload_n 103 (zi315 102) rfl rfl rfl ?_
              refine X.iadd 104 (zi315 103) rfl rfl (by omega) ?_
              refine X.bipush 106 (zi315 104) rfl rfl (by decide) ?_
              refine X.isub 107 (zi315 106) rfl rfl (by omega) ?_
              refine X.lald 108 (zi315 107) rfl rfl (by decide) rfl (by omega) ?_
              have h617 := r45_1611 hJ 4
              refine X.retl (zi315 108) rfl t315 ?_
              exact hQ (m 4 45 ((1611 + a1) - 50)) (by first | trivial | omega) (Eq.trans (if_neg h502c) (Eq.trans (if_neg h566c) (Eq.trans (if_neg h569c) (Eq.trans (if_neg h586c) (Eq.trans (if_neg h594c) (Eq.trans (if_pos h603c) rfl)))))) 
        · have h586c : a1 ≤ 43 := by omega
          clear h586 hz585
          refine X.iconst 14 (zi204 13) rfl rfl (by decide) ?_
          refine X.goto 18 (zi204 14) rfl rfl ?_
          refine X.cut [] (zi204 18) rfl ?_
          refine X.retz (zi204 18) rfl t204 (by omega) ?_
          show X (EE s) d 315 38 [(0, zr 4 44), (1, zi a1)] [zi 1] m _
          refine X.ifeq 55 41 (zi315 38) rfl rfl rfl (fun h618 => (by exfalso; omega)) (fun h618 => ?_)
          refine X.aload_n 42 (zi315 41) rfl rfl rfl ?_
          refine X.getF 45 (zi315 42) rfl rfl (by decide) rfl rfl ?_
          refine X.sipush 48 (zi315 45) rfl rfl (by decide) ?_
          refine X.iload_n 49 (zi315 48) rfl rfl rfl ?_
          refine X.iadd 50 (zi315 49) rfl rfl (by omega) ?_
          refine X.bipush 52 (zi315 50) rfl rfl (by decide) ?_
          refine X.isub 53 (zi315 52) rfl rfl (by omega) ?_
          refine X.lald 54 (zi315 53) rfl rfl (by decide) rfl (by omega) ?_
          have h619 := r45_391 hJ 4 (i := ((391 + a1) - 40)) (by omega)
          refine X.retl (zi315 54) rfl t315 ?_
          exact hQ (m 4 45 ((391 + a1) - 40)) (by first | trivial | omega) (Eq.trans (if_neg h502c) (Eq.trans (if_neg h566c) (Eq.trans (if_neg h569c) (Eq.trans (if_pos h586c) rfl)))) 
    · have h566c : a1 ≤ 33 := by omega
      clear h566 hz565
      refine X.iconst 14 (zi204 13) rfl rfl (by decide) ?_
      refine X.goto 18 (zi204 14) rfl rfl ?_
      refine X.cut [] (zi204 18) rfl ?_
      refine X.retz (zi204 18) rfl t204 (by omega) ?_
      show X (EE s) d 315 11 [(0, zr 4 44), (1, zi a1)] [zi 1] m _
      refine X.ifeq 27 14 (zi315 11) rfl rfl rfl (fun h620 => (by exfalso; omega)) (fun h620 => ?_)
      refine X.aload_n 15 (zi315 14) rfl rfl rfl ?_
      refine X.getF 18 (zi315 15) rfl rfl (by decide) rfl rfl ?_
      refine X.bipush 20 (zi315 18) rfl rfl (by decide) ?_
      refine X.iload_n 21 (zi315 20) rfl rfl rfl ?_
      refine X.iadd 22 (zi315 21) rfl rfl (by omega) ?_
      refine X.bipush 24 (zi315 22) rfl rfl (by decide) ?_
      refine X.isub 25 (zi315 24) rfl rfl (by omega) ?_
      refine X.lald 26 (zi315 25) rfl rfl (by decide) rfl (by omega) ?_
      have h621 := r45_28 hJ 4 (i := ((28 + a1) - 30)) (by omega)
      refine X.retl (zi315 26) rfl t315 ?_
      exact hQ (m 4 45 ((28 + a1) - 30)) (by first | trivial | omega) (Eq.trans (if_neg h502c) (Eq.trans (if_pos h566c) rfl)) 
end
