-- WorkMeter.lost
theorem c186_1 {s : Nat × (Nat → Int32)} {S : zS} {m0 m : zM} {B : Int} {d : Nat} {Q : Option zV → zM → Prop} (a1 : Int) (hd : 13 ≤ d) (hJ : J S m0 B m) (hB : B + 0 ≤ 1000000000) (ha1 : (-2147483648) ≤ a1 ∧ a1 ≤ 2147483647) (hQ : ∀ (v : Int), (True) → f186_1 a1 m = v → Q (some (zl v)) m) : X (EE s) d 186 0 [(0, zr 4 40), (1, zi a1)] [] m Q := by
  refine X.iload_n 1 i186_0 rfl rfl rfl ?_
  have hK506 : ∀ (v : Int) , (True) → (if a1 < 0 then
      ((-1))
      else
      (if 4 ≤ a1 then
      ((-1))
      else
      ((m 0 29 a1)))) = v → X (EE s) d 186 27 [] [zl v] m Q := by
    intro v503 hv503 hT507
    refine X.retl i186_27 rfl t186 ?_
    exact hQ v503 (by first | trivial | omega) (Eq.trans (zn_eq hT507.symm) rfl) 
  refine X.iflt 24 4 i186_1 rfl rfl rfl (fun h501 => ?_) (fun h501 => ?_)
  · refine X.cut [] i186_24 rfl ?_
    refine X.ldc2 27 i186_24 rfl rfl (by decide) ?_
    exact hK506 (-1) (by first | trivial | omega) (Eq.trans (if_pos h501) rfl)
  · refine X.iload_n 5 i186_4 rfl rfl rfl ?_
    refine X.iconst 6 i186_5 rfl rfl (by decide) ?_
    refine X.icmpge 24 9 i186_6 rfl rfl rfl (fun h502 => ?_) (fun h502 => ?_)
    · refine X.cut [] i186_24 rfl ?_
      refine X.ldc2 27 i186_24 rfl rfl (by decide) ?_
      exact hK506 (-1) (by first | trivial | omega) (Eq.trans (if_neg h501) (Eq.trans (if_pos h502) rfl))
    · refine X.aload_n 10 i186_9 rfl rfl rfl ?_
      refine X.getF 13 i186_10 rfl rfl (by decide) rfl rfl ?_
      refine X.getR 16 i186_13 rfl rfl (by decide) rfl rfl ?_
      refine X.getR 19 i186_16 rfl rfl (by decide) rfl rfl ?_
      refine X.iload_n 20 i186_19 rfl rfl rfl ?_
      refine X.lald 21 i186_20 rfl rfl (by decide) rfl (by omega) ?_
      refine X.goto 27 i186_21 rfl rfl ?_
      refine X.cut [] i186_27 rfl ?_
      exact hK506 (m 0 29 a1) (by first | trivial | omega) (Eq.trans (if_neg h501) (Eq.trans (if_neg h502) rfl))
-- WorkMeterModel.lost
noncomputable def f310_1 (a1 : Int) (m : zM) : Int :=
  if a1 < 0 then
  ((-1))
  else
  (if a1 ≤ 3 then
  ((m 4 45 (1607 + a1)))
  else
  ((-1)))
-- WorkMeterModel.lost
theorem c310_1 {s : Nat × (Nat → Int32)} {S : zS} {m0 m : zM} {B : Int} {d : Nat} {Q : Option zV → zM → Prop} (a1 : Int) (hd : 13 ≤ d) (hJ : J S m0 B m) (hB : B + 0 ≤ 1000000000) (ha1 : (-2147483648) ≤ a1 ∧ a1 ≤ 2147483647) (hQ : ∀ (v : Int), (True) → f310_1 a1 m = v → Q (some (zl v)) m) : X (EE s) d 310 0 [(0, zr 4 44), (1, zi a1)] [] m Q := by
  refine X.iload_n 1 i310_0 rfl rfl rfl ?_
  refine X.i2l 2 i310_1 rfl rfl ?_
  refine X.lconst (y := 0) 3 i310_2 rfl rfl rfl ?_
  refine X.ldc2 6 i310_3 rfl rfl (by decide) ?_
  refine X.calls 9 [zl a1, zl 0, zl 3] [] [(0, zl a1), (2, zl 0), (4, zl 3)] i310_6 (by decide) rfl rfl (by omega) rfl rfl t204 (Nat.le_of_ble_eq_true rfl) (Nat.le_of_ble_eq_true rfl) rfl ?_
  refine X.lload_n 1 i204_0 rfl rfl rfl ?_
  refine X.lload_n 2 i204_1 rfl rfl rfl ?_
  refine X.lcmp 3 i204_2 rfl rfl (fun z501 hz501 => ?_)
  refine X.iflt 17 6 i204_3 rfl rfl rfl (fun h502 => ?_) (fun h502 => ?_)
  · have h502c : a1 < 0 := by omega
    clear h502 hz501
    refine X.cut [] i204_17 rfl ?_
    refine X.iconst 18 i204_17 rfl rfl (by decide) ?_
    refine X.retz i204_18 rfl t204 (by omega) ?_
    show X (EE s) d 310 9 [(0, zr 4 44), (1, zi a1)] [zi 0] m _
    refine X.ifeq 25 12 i310_9 rfl rfl rfl (fun h503 => ?_) (fun h503 => (by exfalso; omega))
    refine X.cut [] i310_25 rfl ?_
    refine X.ldc2 28 i310_25 rfl rfl (by decide) ?_
    refine X.retl i310_28 rfl t310 ?_
    exact hQ (-1) (by first | trivial | omega) (Eq.trans (if_pos h502c) rfl) 
  · have h502c : ¬ a1 < 0 := by omega
    clear h502 hz501
    refine X.lload_n 7 i204_6 rfl rfl rfl ?_
    refine X.lload 9 i204_7 rfl rfl rfl ?_
    refine X.lcmp 10 i204_9 rfl rfl (fun z504 hz504 => ?_)
    refine X.ifgt 17 13 i204_10 rfl rfl rfl (fun h505 => ?_) (fun h505 => ?_)
    · have h505c : ¬ a1 ≤ 3 := by omega
      clear h505 hz504
      refine X.cut [] i204_17 rfl ?_
      refine X.iconst 18 i204_17 rfl rfl (by decide) ?_
      refine X.retz i204_18 rfl t204 (by omega) ?_
      show X (EE s) d 310 9 [(0, zr 4 44), (1, zi a1)] [zi 0] m _
      refine X.ifeq 25 12 i310_9 rfl rfl rfl (fun h506 => ?_) (fun h506 => (by exfalso; omega))
      refine X.cut [] i310_25 rfl ?_
      refine X.ldc2 28 i310_25 rfl rfl (by decide) ?_
      refine X.retl i310_28 rfl t310 ?_
      exact hQ (-1) (by first | trivial | omega) (Eq.trans (if_neg h502c) (Eq.trans (if_neg h505c) rfl)) 
    · have h505c : a1 ≤ 3 := by omega
      clear h505 hz504
      refine X.iconst 14 i204_13 rfl rfl (by decide) ?_
      refine X.goto 18 i204_14 rfl rfl ?_
      refine X.cut [] i204_18 rfl ?_
      refine X.retz i204_18 rfl t204 (by omega) ?_
      show X (EE s) d 310 9 [(0, zr 4 44), (1, zi a1)] [zi 1] m _
      refine X.ifeq 25 12 i310_9 rfl rfl rfl (fun h507 => (by exfalso; omega)) (fun h507 => ?_)
      refine X.aload_n 13 i310_12 rfl rfl rfl ?_
      refine X.getF 16 i310_13 rfl rfl (by decide) rfl rfl ?_
      refine X.sipush 19 i310_16 rfl rfl (by decide) ?_
      refine X.iload_n 20 i310_19 rfl rfl rfl ?_
      refine X.iadd 21 i310_20 rfl rfl (by omega) ?_
      refine X.lald 22 i310_21 rfl rfl (by decide) rfl (by omega) ?_
      refine X.goto 28 i310_22 rfl rfl ?_
      refine X.cut [] i310_28 rfl ?_
      refine X.retl i310_28 rfl t310 ?_
      exact hQ (m 4 45 (1607 + a1)) (by first | trivial | omega) (Eq.trans (if_neg h502c) (Eq.trans (if_pos h505c) rfl)) 
noncomputable def fl188_16_1_b (self : Int → Int → Int → Int → Int) (k71 : Int → Int) (g0 : Nat) (y1 : Int) (m : zM) (y2 y4 y6 y7 : Int) : Int :=
  if (min (m g0 27 2) 64) < (y7 + y1) then
  (k71 y6)
  else
  (zn (w64 ((m g0 28 ((((((m g0 27 2) - 1) - ((y7 + y1) - 1)) % 64) * 6) + 1)) - (m g0 28 ((((((m g0 27 2) - 1) - (y7 - 1)) % 64) * 6) + 1)))) fun z516 =>
  zn (w64 (y2 + z516)) fun z517 =>
  if z517 ≤ y4 then
  (self z517 y4 y6 (y7 + 1))
  else
  (self z517 z517 y7 (y7 + 1)))
noncomputable def fl188_16_1 (k71 : Int → Int) (g0 : Nat) (y1 : Int) (m : zM) : Nat → Int → Int → Int → Int → Int
  | 0 => fun y2 y4 y6 y7 => 0
  | n + 1 => fl188_16_1_b (fl188_16_1 k71 g0 y1 m n) k71 g0 y1 m
theorem l188_16_1 {s : Nat × (Nat → Int32)} {S : zS} {m0 : zM} {m : zM} {B : Int} {d : Nat} {Q : Option zV → zM → Prop} {R0 : Int} {k71 : Int → Int} (g0 : Nat) (y1 : Int) (hd : 14 ≤ d) (hJ : J S m0 B m) (hB9 : B ≤ 1000000000) (hy1 : 1 ≤ y1 ∧ y1 ≤ 64)
    (K71 : ∀ (x6 : Int) , (0 ≤ x6 ∧ x6 ≤ 64) → (1 ≤ y1) → (x6 + y1 ≤ m g0 27 2) → (0 ≤ x6) → R0 = k71 x6 → X (EE s) d 188 71 [(6, zi x6)] [] m Q) :
    ∀ (n : Nat) (y2 y4 y6 y7 : Int) , (0 ≤ y6 ∧ y6 ≤ 64) → (1 ≤ y7 ∧ y7 ≤ 64) → (1 ≤ y1) → (y6 + y1 ≤ m g0 27 2) → (0 ≤ y6) → 64 - y7 < (n : Int) → R0 = fl188_16_1 k71 g0 y1 m n y2 y4 y6 y7 → X (EE s) d 188 16 [(0, zr g0 27), (1, zi y1), (2, zl y2), (4, zl y4), (6, zi y6), (7, zi y7)] [] m Q := by
  intro n
  induction n with
  | zero =>
    intro y2 y4 y6 y7 hy6 hy7 hr0 hr1 hr2 hn hR
    exfalso
    omega
  | succ n ih =>
    intro y2 y4 y6 y7 hy6 hy7 hr0 hr1 hr2 hn hR
    replace hR : R0 = fl188_16_1_b (fl188_16_1 k71 g0 y1 m n) k71 g0 y1 m y2 y4 y6 y7 := hR
    refine X.iload 18 i188_16 rfl rfl rfl ?_
    refine X.iload_n 19 i188_18 rfl rfl rfl ?_
    refine X.iadd 20 i188_19 rfl rfl (by omega) ?_
    refine X.aload_n 21 i188_20 rfl rfl rfl ?_
    refine X.callv 24 [] [zi (y7 + y1)] [(0, zr g0 27)] i188_21 rfl (by decide) rfl rfl (by omega) rfl rfl (by decide) rfl t66 (Nat.le_of_ble_eq_true rfl) (Nat.le_of_ble_eq_true rfl) rfl ?_
    refine X.aload_n 1 i66_0 rfl rfl rfl ?_
    refine X.getI 4 2 i66_1 rfl rfl (by decide) rfl rfl rfl ?_
    have h514 := r27_2 hJ g0
    refine X.bipush 6 i66_4 rfl rfl (by decide) ?_
    refine X.minI 9 i66_6 rfl rfl (by omega) (Nat.le_of_ble_eq_true rfl) ?_
    refine X.reti i66_9 rfl t66 ?_
    show X (EE s) d 188 24 [(0, zr g0 27), (1, zi y1), (2, zl y2), (4, zl y4), (6, zi y6), (7, zi y7)] [zi (min (m g0 27 2) 64), zi (y7 + y1)] m _
    refine X.icmpgt 71 27 i188_24 rfl rfl rfl (fun h515 => ?_) (fun h515 => ?_)
    · refine X.cut [(6, zi y6)] i188_71 rfl ?_
      exact K71 y6 (by first | trivial | omega) (by omega) (by omega) (by omega) (Eq.trans hR (Eq.trans (if_pos h515) rfl))
    · refine X.lload_n 28 i188_27 rfl rfl rfl ?_
      refine X.aload_n 29 i188_28 rfl rfl rfl ?_
      refine X.iload 31 i188_29 rfl rfl rfl ?_
      refine X.iload_n 32 i188_31 rfl rfl rfl ?_
      refine X.iadd 33 i188_32 rfl rfl (by omega) ?_
      refine X.iconst 34 i188_33 rfl rfl (by decide) ?_
      refine X.isub 35 i188_34 rfl rfl (by omega) ?_
      refine X.iconst 36 i188_35 rfl rfl (by decide) ?_
      refine X.callv 39 [zi ((y7 + y1) - 1), zi 1] [zl y2] [(0, zr g0 27), (1, zi ((y7 + y1) - 1)), (2, zi 1)] i188_36 rfl (by decide) rfl rfl (by omega) rfl rfl (by decide) rfl t67 (Nat.le_of_ble_eq_true rfl) (Nat.le_of_ble_eq_true rfl) rfl ?_
      refine X.aload_n 1 i67_0 rfl rfl rfl ?_
      refine X.getR 4 i67_1 rfl rfl (by decide) rfl rfl ?_
      refine X.aload_n 5 i67_4 rfl rfl rfl ?_
      refine X.getI 8 2 i67_5 rfl rfl (by decide) rfl rfl rfl ?_
      refine X.iconst 9 i67_8 rfl rfl (by decide) ?_
      refine X.isub 10 i67_9 rfl rfl (by omega) ?_
      refine X.iload_n 11 i67_10 rfl rfl rfl ?_
      refine X.isub 12 i67_11 rfl rfl (by omega) ?_
      refine X.bipush 14 i67_12 rfl rfl (by decide) ?_
      refine X.irem 15 i67_14 rfl rfl (by omega) ?_
      refine X.bipush 17 i67_15 rfl rfl (by decide) ?_
      refine X.imul 18 i67_17 rfl rfl (by omega) ?_
      refine X.iload_n 19 i67_18 rfl rfl rfl ?_
      refine X.iadd 20 i67_19 rfl rfl (by omega) ?_
      refine X.lald 21 i67_20 rfl rfl (by decide) rfl (by omega) ?_
      refine X.retl i67_21 rfl t67 ?_
      show X (EE s) d 188 39 [(0, zr g0 27), (1, zi y1), (2, zl y2), (4, zl y4), (6, zi y6), (7, zi y7)] [zl (m g0 28 ((((((m g0 27 2) - 1) - ((y7 + y1) - 1)) % 64) * 6) + 1)), zl y2] m _
      refine X.aload_n 40 i188_39 rfl rfl rfl ?_
      refine X.iload 42 i188_40 rfl rfl rfl ?_
      refine X.iconst 43 i188_42 rfl rfl (by decide) ?_
      refine X.isub 44 i188_43 rfl rfl (by omega) ?_
      refine X.iconst 45 i188_44 rfl rfl (by decide) ?_
      refine X.callv 48 [zi (y7 - 1), zi 1] [zl (m g0 28 ((((((m g0 27 2) - 1) - ((y7 + y1) - 1)) % 64) * 6) + 1)), zl y2] [(0, zr g0 27), (1, zi (y7 - 1)), (2, zi 1)] i188_45 rfl (by decide) rfl rfl (by omega) rfl rfl (by decide) rfl t67 (Nat.le_of_ble_eq_true rfl) (Nat.le_of_ble_eq_true rfl) rfl ?_
      refine X.aload_n 1 i67_0 rfl rfl rfl ?_
      refine X.getR 4 i67_1 rfl rfl (by decide) rfl rfl ?_
      refine X.aload_n 5 i67_4 rfl rfl rfl ?_
      refine X.getI 8 2 i67_5 rfl rfl (by decide) rfl rfl rfl ?_
      refine X.iconst 9 i67_8 rfl rfl (by decide) ?_
      refine X.isub 10 i67_9 rfl rfl (by omega) ?_
      refine X.iload_n 11 i67_10 rfl rfl rfl ?_
      refine X.isub 12 i67_11 rfl rfl (by omega) ?_
      refine X.bipush 14 i67_12 rfl rfl (by decide) ?_
      refine X.irem 15 i67_14 rfl rfl (by omega) ?_
      refine X.bipush 17 i67_15 rfl rfl (by decide) ?_
      refine X.imul 18 i67_17 rfl rfl (by omega) ?_
      refine X.iload_n 19 i67_18 rfl rfl rfl ?_
      refine X.iadd 20 i67_19 rfl rfl (by omega) ?_
      refine X.lald 21 i67_20 rfl rfl (by decide) rfl (by omega) ?_
      refine X.retl i67_21 rfl t67 ?_
      show X (EE s) d 188 48 [(0, zr g0 27), (1, zi y1), (2, zl y2), (4, zl y4), (6, zi y6), (7, zi y7)] [zl (m g0 28 ((((((m g0 27 2) - 1) - (y7 - 1)) % 64) * 6) + 1)), zl (m g0 28 ((((((m g0 27 2) - 1) - ((y7 + y1) - 1)) % 64) * 6) + 1)), zl y2] m _
      refine X.lsubW 49 i188_48 rfl rfl (fun z516 ez516 hz516 => ?_)
      refine X.laddW 50 i188_49 rfl rfl (fun z517 ez517 hz517 => ?_)
      refine X.lstore_n 51 [(0, zr g0 27), (1, zi y1), (2, zl z517), (4, zl y4), (6, zi y6), (7, zi y7)] i188_50 rfl rfl rfl ?_
      refine X.lload_n 52 i188_51 rfl rfl rfl ?_
      refine X.lload 54 i188_52 rfl rfl rfl ?_
      refine X.lcmp 55 i188_54 rfl rfl (fun z518 hz518 => ?_)
      refine X.ifle 65 58 i188_55 rfl rfl rfl (fun h519 => ?_) (fun h519 => ?_)
      · have h519c : z517 ≤ y4 := by omega
        clear h519 hz518
        refine X.iinc 68 [(0, zr g0 27), (1, zi y1), (2, zl z517), (4, zl y4), (6, zi y6), (7, zi (y7 + 1))] i188_65 rfl rfl rfl (by omega) rfl ?_
        refine X.goto 16 i188_68 rfl rfl ?_
        exact ih z517 y4 y6 (y7 + 1) (by omega) (by omega) (by omega) (by omega) (by omega) (by omega) (Eq.trans hR (Eq.trans (if_neg h515) (Eq.trans (zn_eq ez516) (Eq.trans (zn_eq ez517) (Eq.trans (if_pos h519c) rfl)))))
      · have h519c : ¬ z517 ≤ y4 := by omega
        clear h519 hz518
        refine X.lload_n 59 i188_58 rfl rfl rfl ?_
        refine X.lstore 61 [(0, zr g0 27), (1, zi y1), (2, zl z517), (4, zl z517), (6, zi y6), (7, zi y7)] i188_59 rfl rfl rfl ?_
        refine X.iload 63 i188_61 rfl rfl rfl ?_
        refine X.istore 65 [(0, zr g0 27), (1, zi y1), (2, zl z517), (4, zl z517), (6, zi y7), (7, zi y7)] i188_63 rfl rfl rfl ?_
        refine X.iinc 68 [(0, zr g0 27), (1, zi y1), (2, zl z517), (4, zl z517), (6, zi y7), (7, zi (y7 + 1))] i188_65 rfl rfl rfl (by omega) rfl ?_
        refine X.goto 16 i188_68 rfl rfl ?_
        exact ih z517 z517 y7 (y7 + 1) (by omega) (by omega) (by omega) (by omega) (by omega) (by omega) (Eq.trans hR (Eq.trans (if_neg h515) (Eq.trans (zn_eq ez516) (Eq.trans (zn_eq ez517) (Eq.trans (if_neg h519c) rfl)))))
-- WorkMeter$Load.bestRun
noncomputable def f188_1 (g0 : Nat) (a1 : Int) (m : zM) : Int :=
  zn (f68_1 g0 0 a1 m) fun v503 =>
  fl188_16_1 (fun y504 =>
  y504) g0 a1 m (zfu 64) v503 v503 0 1
-- WorkMeter$Load.bestRun
theorem c188_1 {s : Nat × (Nat → Int32)} {S : zS} {m0 m : zM} {B : Int} {d : Nat} {Q : Option zV → zM → Prop} (g0 : Nat) (a1 : Int) (hd : 14 ≤ d) (hJ : J S m0 B m) (hB : B + 0 ≤ 1000000000) (ha1 : 1 ≤ a1 ∧ a1 ≤ 64) (hp0 : 1 ≤ a1) (hp1 : a1 ≤ m g0 27 2) (hQ : ∀ (v : Int), (0 ≤ v ∧ v ≤ 64) → f188_1 g0 a1 m = v → (v + a1 ≤ m g0 27 2) → (0 ≤ v) → Q (some (zi v)) m) : X (EE s) d 188 0 [(0, zr g0 27), (1, zi a1)] [] m Q := by
  refine X.aload_n 1 i188_0 rfl rfl rfl ?_
  refine X.iconst 2 i188_1 rfl rfl (by decide) ?_
  refine X.iload_n 3 i188_2 rfl rfl rfl ?_
  refine X.callv 6 [zi 0, zi a1] [] [(0, zr g0 27), (1, zi 0), (2, zi a1)] i188_3 rfl (by decide) rfl rfl (by omega) rfl rfl (by decide) rfl t68 (Nat.le_of_ble_eq_true rfl) (Nat.le_of_ble_eq_true rfl) rfl ?_
  refine c68_1 (B := B) g0 0 a1 (by omega) (hJ.up (by omega)) (by omega) (by omega) (by omega) (by omega) (by omega) (fun v503 hv503 hFv503 => ?_)
  show X (EE s) d 188 6 [(0, zr g0 27), (1, zi a1)] [zl v503] m _
  refine X.lstore_n 7 [(0, zr g0 27), (1, zi a1), (2, zl v503)] i188_6 rfl rfl rfl ?_
  refine X.lload_n 8 i188_7 rfl rfl rfl ?_
  refine X.lstore 10 [(0, zr g0 27), (1, zi a1), (2, zl v503), (4, zl v503)] i188_8 rfl rfl rfl ?_
  refine X.iconst 11 i188_10 rfl rfl (by decide) ?_
  refine X.istore 13 [(0, zr g0 27), (1, zi a1), (2, zl v503), (4, zl v503), (6, zi 0)] i188_11 rfl rfl rfl ?_
  refine X.iconst 14 i188_13 rfl rfl (by decide) ?_
  refine X.istore 16 [(0, zr g0 27), (1, zi a1), (2, zl v503), (4, zl v503), (6, zi 0), (7, zi 1)] i188_14 rfl rfl rfl ?_
  have hz64 := zfu_eq 64
  refine l188_16_1 (s := s) (m := m) (B := B) (d := d) (R0 := (f188_1 g0 a1 m)) g0 a1  (by omega) (hJ.up (by omega)) (by omega) (by omega) (fun y504 hby504 hrlm505_0 hrlm505_1 hrlm505_2 hR508 => ?_) (zfu 64) v503 v503 0 1 (by omega) (by omega) (by omega) (by omega) (by omega) (by omega) (Eq.trans (zn_eq hFv503.symm) rfl)
  refine X.iload 73 i188_71 rfl rfl rfl ?_
  refine X.reti i188_73 rfl t188 ?_
  exact hQ y504 (by first | trivial | omega) (Eq.trans hR508 rfl) (by omega) (by omega)
-- WorkMeter$Load.importOf
theorem c68_2 {s : Nat × (Nat → Int32)} {S : zS} {m0 m : zM} {B : Int} {d : Nat} {Q : Option zV → zM → Prop} (g0 : Nat) (a1 a2 : Int) (hd : 13 ≤ d) (hJ : J S m0 B m) (hB : B + 0 ≤ 1000000000) (ha1 : 0 ≤ a1 ∧ a1 ≤ 63) (ha2 : 1 ≤ a2 ∧ a2 ≤ 64) (hp0 : 0 ≤ a1) (hp1 : a1 + a2 ≤ m g0 27 2) (hQ : ∀ (v : Int), (True) → f68_1 g0 a1 a2 m = v → Q (some (zl v)) m) : X (EE s) d 68 0 [(0, zr g0 27), (1, zi a1), (2, zi a2)] [] m Q := by
  refine X.lconst (y := 0) 1 i68_0 rfl rfl rfl ?_
  refine X.lstore_n 2 [(0, zr g0 27), (1, zi a1), (2, zi a2), (3, zl 0)] i68_1 rfl rfl rfl ?_
  refine X.iload_n 3 i68_2 rfl rfl rfl ?_
  refine X.istore 5 [(0, zr g0 27), (1, zi a1), (2, zi a2), (3, zl 0), (5, zi a1)] i68_3 rfl rfl rfl ?_
  have hz128 := zfu_eq 128
  refine l68_5_1 (s := s) (m := m) (B := B) (d := d) (R0 := (f68_1 g0 a1 a2 m)) g0 a1 a2  (by omega) (hJ.up (by omega)) (by omega) (by omega) (by omega) (fun y501 hby501 hrlm502_0 hR505 => ?_) (zfu 128) 0 a1 (by omega) (by omega) (by omega) (by omega) rfl
  refine X.lload_n 30 i68_29 rfl rfl rfl ?_
  refine X.retl i68_30 rfl t68 ?_
  exact hQ y501 (by first | trivial | omega) (Eq.trans hR505 rfl) 
-- WorkMeter.best
noncomputable def f187_1 (a1 a2 : Int) (m : zM) : Int :=
  if a1 < 1 then
  ((-1))
  else
  (if (min (m 0 27 2) 64) < a1 then
  ((-1))
  else
  (if a2 < 0 then
  ((-1))
  else
  (if a2 ≤ 1 then
  (zn (f188_1 0 a1 m) fun v508 =>
  zn (if a2 = 0 then
  (zn (f68_1 0 v508 a1 m) fun v512 =>
  v512)
  else
  ((m 0 28 ((((((m 0 27 2) - 1) - v508) % 64) * 6) + 0)))) fun v513 =>
  v513)
  else
  ((-1)))))
-- WorkMeter.best
theorem c187_1 {s : Nat × (Nat → Int32)} {S : zS} {m0 m : zM} {B : Int} {d : Nat} {Q : Option zV → zM → Prop} (a1 a2 : Int) (hd : 15 ≤ d) (hJ : J S m0 B m) (hB : B + 0 ≤ 1000000000) (ha1 : (-2147483648) ≤ a1 ∧ a1 ≤ 2147483647) (ha2 : (-2147483648) ≤ a2 ∧ a2 ≤ 2147483647) (hQ : ∀ (v : Int), (True) → f187_1 a1 a2 m = v → Q (some (zl v)) m) : X (EE s) d 187 0 [(0, zr 4 40), (1, zi a1), (2, zi a2)] [] m Q := by
  refine X.iload_n 1 i187_0 rfl rfl rfl ?_
  refine X.iconst 2 i187_1 rfl rfl (by decide) ?_
  refine X.icmplt 28 5 i187_2 rfl rfl rfl (fun h501 => ?_) (fun h501 => ?_)
  · refine X.cut [] i187_28 rfl ?_
    refine X.ldc2 31 i187_28 rfl rfl (by decide) ?_
    refine X.retl i187_31 rfl t187 ?_
    exact hQ (-1) (by first | trivial | omega) (Eq.trans (if_pos h501) rfl) 
  · refine X.iload_n 6 i187_5 rfl rfl rfl ?_
    refine X.aload_n 7 i187_6 rfl rfl rfl ?_
    refine X.getF 10 i187_7 rfl rfl (by decide) rfl rfl ?_
    refine X.getR 13 i187_10 rfl rfl (by decide) rfl rfl ?_
    refine X.callv 16 [] [zi a1] [(0, zr 0 27)] i187_13 rfl (by decide) rfl rfl (by omega) rfl rfl (by decide) rfl t66 (Nat.le_of_ble_eq_true rfl) (Nat.le_of_ble_eq_true rfl) rfl ?_
    refine X.aload_n 1 i66_0 rfl rfl rfl ?_
    refine X.getI 4 2 i66_1 rfl rfl (by decide) rfl rfl rfl ?_
    have h502 := r27_2 hJ 0
    refine X.bipush 6 i66_4 rfl rfl (by decide) ?_
    refine X.minI 9 i66_6 rfl rfl (by omega) (Nat.le_of_ble_eq_true rfl) ?_
    refine X.reti i66_9 rfl t66 ?_
    show X (EE s) d 187 16 [(0, zr 4 40), (1, zi a1), (2, zi a2)] [zi (min (m 0 27 2) 64), zi a1] m _
    refine X.icmpgt 28 19 i187_16 rfl rfl rfl (fun h503 => ?_) (fun h503 => ?_)
    · refine X.cut [] i187_28 rfl ?_
      refine X.ldc2 31 i187_28 rfl rfl (by decide) ?_
      refine X.retl i187_31 rfl t187 ?_
      exact hQ (-1) (by first | trivial | omega) (Eq.trans (if_neg h501) (Eq.trans (if_pos h503) rfl)) 
    · refine X.iload_n 20 i187_19 rfl rfl rfl ?_
      refine X.iflt 28 23 i187_20 rfl rfl rfl (fun h504 => ?_) (fun h504 => ?_)
      · refine X.cut [] i187_28 rfl ?_
        refine X.ldc2 31 i187_28 rfl rfl (by decide) ?_
        refine X.retl i187_31 rfl t187 ?_
        exact hQ (-1) (by first | trivial | omega) (Eq.trans (if_neg h501) (Eq.trans (if_neg h503) (Eq.trans (if_pos h504) rfl))) 
      · refine X.iload_n 24 i187_23 rfl rfl rfl ?_
        refine X.iconst 25 i187_24 rfl rfl (by decide) ?_
        refine X.icmple 32 28 i187_25 rfl rfl rfl (fun h505 => ?_) (fun h505 => ?_)
        · refine X.aload_n 33 i187_32 rfl rfl rfl ?_
          refine X.getF 36 i187_33 rfl rfl (by decide) rfl rfl ?_
          refine X.getR 39 i187_36 rfl rfl (by decide) rfl rfl ?_
          refine X.iload_n 40 i187_39 rfl rfl rfl ?_
          refine X.callv 43 [zi a1] [] [(0, zr 0 27), (1, zi a1)] i187_40 rfl (by decide) rfl rfl (by omega) rfl rfl (by decide) rfl t188 (Nat.le_of_ble_eq_true rfl) (Nat.le_of_ble_eq_true rfl) rfl ?_
          refine c188_1 (B := B) 0 a1 (by omega) (hJ.up (by omega)) (by omega) (by omega) (by omega) (by omega) (fun v508 hv508 hFv508 hqv508_0 hqv508_1 => ?_)
          show X (EE s) d 187 43 [(0, zr 4 40), (1, zi a1), (2, zi a2)] [zi v508] m _
          refine X.istore_n 44 [(0, zr 4 40), (1, zi a1), (2, zi a2), (3, zi v508)] i187_43 rfl rfl rfl ?_
          refine X.iload_n 45 i187_44 rfl rfl rfl ?_
          have hK516 : ∀ (v : Int) , (True) → (if a2 = 0 then
              (zn (f68_1 0 v508 a1 m) fun v512 =>
              v512)
              else
              ((m 0 28 ((((((m 0 27 2) - 1) - v508) % 64) * 6) + 0)))) = v → X (EE s) d 187 75 [] [zl v] m Q := by
            intro v513 hv513 hT517
            refine X.retl i187_75 rfl t187 ?_
            exact hQ v513 (by first | trivial | omega) (Eq.trans (if_neg h501) (Eq.trans (if_neg h503) (Eq.trans (if_neg h504) (Eq.trans (if_pos h505) (Eq.trans (zn_eq hFv508.symm) (Eq.trans (zn_eq hT517.symm) rfl)))))) 
          refine X.ifne 63 48 i187_45 rfl rfl rfl (fun h509 => ?_) (fun h509 => ?_)
          · refine X.cut [(0, zr 4 40), (3, zi v508)] i187_63 rfl ?_
            refine X.aload_n 64 i187_63 rfl rfl rfl ?_
            refine X.getF 67 i187_64 rfl rfl (by decide) rfl rfl ?_
            refine X.getR 70 i187_67 rfl rfl (by decide) rfl rfl ?_
            refine X.iload_n 71 i187_70 rfl rfl rfl ?_
            refine X.iconst 72 i187_71 rfl rfl (by decide) ?_
            refine X.callv 75 [zi v508, zi 0] [] [(0, zr 0 27), (1, zi v508), (2, zi 0)] i187_72 rfl (by decide) rfl rfl (by omega) rfl rfl (by decide) rfl t67 (Nat.le_of_ble_eq_true rfl) (Nat.le_of_ble_eq_true rfl) rfl ?_
            refine X.aload_n 1 i67_0 rfl rfl rfl ?_
            refine X.getR 4 i67_1 rfl rfl (by decide) rfl rfl ?_
            refine X.aload_n 5 i67_4 rfl rfl rfl ?_
            refine X.getI 8 2 i67_5 rfl rfl (by decide) rfl rfl rfl ?_
            refine X.iconst 9 i67_8 rfl rfl (by decide) ?_
            refine X.isub 10 i67_9 rfl rfl (by omega) ?_
            refine X.iload_n 11 i67_10 rfl rfl rfl ?_
            refine X.isub 12 i67_11 rfl rfl (by omega) ?_
            refine X.bipush 14 i67_12 rfl rfl (by decide) ?_
            refine X.irem 15 i67_14 rfl rfl (by omega) ?_
            refine X.bipush 17 i67_15 rfl rfl (by decide) ?_
            refine X.imul 18 i67_17 rfl rfl (by omega) ?_
            refine X.iload_n 19 i67_18 rfl rfl rfl ?_
            refine X.iadd 20 i67_19 rfl rfl (by omega) ?_
            refine X.lald 21 i67_20 rfl rfl (by decide) rfl (by omega) ?_
            refine X.retl i67_21 rfl t67 ?_
            show X (EE s) d 187 75 [(0, zr 4 40), (3, zi v508)] [zl (m 0 28 ((((((m 0 27 2) - 1) - v508) % 64) * 6) + 0))] m _
            refine X.cut [] i187_75 rfl ?_
            exact hK516 (m 0 28 ((((((m 0 27 2) - 1) - v508) % 64) * 6) + 0)) (by first | trivial | omega) (Eq.trans (if_neg h509) rfl)
          · refine X.aload_n 49 i187_48 rfl rfl rfl ?_
            refine X.getF 52 i187_49 rfl rfl (by decide) rfl rfl ?_
            refine X.getR 55 i187_52 rfl rfl (by decide) rfl rfl ?_
            refine X.iload_n 56 i187_55 rfl rfl rfl ?_
            refine X.iload_n 57 i187_56 rfl rfl rfl ?_
            refine X.callv 60 [zi v508, zi a1] [] [(0, zr 0 27), (1, zi v508), (2, zi a1)] i187_57 rfl (by decide) rfl rfl (by omega) rfl rfl (by decide) rfl t68 (Nat.le_of_ble_eq_true rfl) (Nat.le_of_ble_eq_true rfl) rfl ?_
            refine c68_2 (B := B) 0 v508 a1 (by omega) (hJ.up (by omega)) (by omega) (by omega) (by omega) (by omega) (by omega) (fun v512 hv512 hFv512 => ?_)
            show X (EE s) d 187 60 [(0, zr 4 40), (1, zi a1), (2, zi a2), (3, zi v508)] [zl v512] m _
            refine X.goto 75 i187_60 rfl rfl ?_
            refine X.cut [] i187_75 rfl ?_
            exact hK516 v512 (by first | trivial | omega) (Eq.trans (if_pos h509) (Eq.trans (zn_eq hFv512.symm) rfl))
        · refine X.cut [] i187_28 rfl ?_
          refine X.ldc2 31 i187_28 rfl rfl (by decide) ?_
          refine X.retl i187_31 rfl t187 ?_
          exact hQ (-1) (by first | trivial | omega) (Eq.trans (if_neg h501) (Eq.trans (if_neg h503) (Eq.trans (if_neg h504) (Eq.trans (if_neg h505) rfl)))) 
-- WorkMeterModel.line
theorem c234_8 {s : Nat × (Nat → Int32)} {S : zS} {m0 m : zM} {B : Int} {d : Nat} {Q : Option zV → zM → Prop} (a1 a2 : Int) (hd : 13 ≤ d) (hJ : J S m0 B m) (hB : B + 0 ≤ 1000000000) (ha1 : 0 ≤ a1 ∧ a1 ≤ 127) (ha2 : 1 ≤ a2 ∧ a2 ≤ 1) (hQ : ∀ (v : Int), (True) → f234_1 a1 a2 m = v → Q (some (zl v)) m) : X (EE s) d 234 0 [(0, zr 4 44), (1, zi a1), (2, zi a2)] [] m Q := by
  refine X.aload_n 1 i234_0 rfl rfl rfl ?_
  refine X.getF 4 i234_1 rfl rfl (by decide) rfl rfl ?_
  refine X.sipush 7 i234_4 rfl rfl (by decide) ?_
  refine X.bipush 9 i234_7 rfl rfl (by decide) ?_
  refine X.iload_n 10 i234_9 rfl rfl rfl ?_
  refine X.imul 11 i234_10 rfl rfl (by omega) ?_
  refine X.iadd 12 i234_11 rfl rfl (by omega) ?_
  refine X.iload_n 13 i234_12 rfl rfl rfl ?_
  refine X.iadd 14 i234_13 rfl rfl (by omega) ?_
  refine X.lald 15 i234_14 rfl rfl (by decide) rfl (by omega) ?_
  refine X.retl i234_15 rfl t234 ?_
  exact hQ (m 4 45 ((788 + (6 * a1)) + a2)) (by first | trivial | omega) rfl 
noncomputable def fl311_55_1_b (self : Int → Int → Int) (k82 : Int → Int) (y1 y2 y3 y5 y6 : Int) (m : zM) (y7 y9 : Int) : Int :=
  if y1 ≤ y9 then
  (k82 y7)
  else
  (zn (f234_1 (y6 + y9) 1 m) fun v514 =>
  zn (w64 (y7 + v514)) fun z515 =>
  self z515 (y9 + 1))
noncomputable def fl311_55_1 (k82 : Int → Int) (y1 y2 y3 y5 y6 : Int) (m : zM) : Nat → Int → Int → Int
  | 0 => fun y7 y9 => 0
  | n + 1 => fl311_55_1_b (fl311_55_1 k82 y1 y2 y3 y5 y6 m n) k82 y1 y2 y3 y5 y6 m
theorem l311_55_1 {s : Nat × (Nat → Int32)} {S : zS} {m0 : zM} {m : zM} {B : Int} {d : Nat} {Q : Option zV → zM → Prop} {R0 : Int} {k82 : Int → Int} (y1 y2 y3 y5 y6 : Int) (hd : 14 ≤ d) (hJ : J S m0 B m) (hB9 : B ≤ 1000000000) (hy1 : 1 ≤ y1 ∧ y1 ≤ 64) (hy2 : 0 ≤ y2 ∧ y2 ≤ 1) (hy3 : (-1) ≤ y3 ∧ y3 ≤ (-1)) (hy5 : 0 ≤ y5 ∧ y5 ≤ 0) (hy6 : 0 ≤ y6 ∧ y6 ≤ 64)
    (K82 : ∀ (x7 : Int) , (True) → (y6 + y1 ≤ 64) → R0 = k82 x7 → X (EE s) d 311 82 [(0, zr 4 44), (1, zi y1), (2, zi y2), (3, zl y3), (5, zi y5), (6, zi y6), (7, zl x7)] [] m Q) :
    ∀ (n : Nat) (y7 y9 : Int) , (0 ≤ y9 ∧ y9 ≤ 64) → (y6 + y1 ≤ 64) → 64 - y9 < (n : Int) → R0 = fl311_55_1 k82 y1 y2 y3 y5 y6 m n y7 y9 → X (EE s) d 311 55 [(0, zr 4 44), (1, zi y1), (2, zi y2), (3, zl y3), (5, zi y5), (6, zi y6), (7, zl y7), (9, zi y9)] [] m Q := by
  intro n
  induction n with
  | zero =>
    intro y7 y9 hy9 hr0 hn hR
    exfalso
    omega
  | succ n ih =>
    intro y7 y9 hy9 hr0 hn hR
    replace hR : R0 = fl311_55_1_b (fl311_55_1 k82 y1 y2 y3 y5 y6 m n) k82 y1 y2 y3 y5 y6 m y7 y9 := hR
    refine X.iload 57 i311_55 rfl rfl rfl ?_
    refine X.iload_n 58 i311_57 rfl rfl rfl ?_
    refine X.icmpge 82 61 i311_58 rfl rfl rfl (fun h511 => ?_) (fun h511 => ?_)
    · refine X.cut [(0, zr 4 44), (1, zi y1), (2, zi y2), (3, zl y3), (5, zi y5), (6, zi y6), (7, zl y7)] i311_82 rfl ?_
      exact K82 y7 (by first | trivial | omega) (by omega) (Eq.trans hR (Eq.trans (if_pos h511) rfl))
    · refine X.lload 63 i311_61 rfl rfl rfl ?_
      refine X.aload_n 64 i311_63 rfl rfl rfl ?_
      refine X.iload 66 i311_64 rfl rfl rfl ?_
      refine X.iload 68 i311_66 rfl rfl rfl ?_
      refine X.iadd 69 i311_68 rfl rfl (by omega) ?_
      refine X.iconst 70 i311_69 rfl rfl (by decide) ?_
      refine X.callv 73 [zi (y6 + y9), zi 1] [zl y7] [(0, zr 4 44), (1, zi (y6 + y9)), (2, zi 1)] i311_70 rfl (by decide) rfl rfl (by omega) rfl rfl (by decide) rfl t234 (Nat.le_of_ble_eq_true rfl) (Nat.le_of_ble_eq_true rfl) rfl ?_
      refine c234_8 (B := B)  (y6 + y9) 1 (by omega) (hJ.up (by omega)) (by omega) (by omega) (by omega) (fun v514 hv514 hFv514 => ?_)
      show X (EE s) d 311 73 [(0, zr 4 44), (1, zi y1), (2, zi y2), (3, zl y3), (5, zi y5), (6, zi y6), (7, zl y7), (9, zi y9)] [zl v514, zl y7] m _
      refine X.laddW 74 i311_73 rfl rfl (fun z515 ez515 hz515 => ?_)
      refine X.lstore 76 [(0, zr 4 44), (1, zi y1), (2, zi y2), (3, zl y3), (5, zi y5), (6, zi y6), (7, zl z515), (9, zi y9)] i311_74 rfl rfl rfl ?_
      refine X.iinc 79 [(0, zr 4 44), (1, zi y1), (2, zi y2), (3, zl y3), (5, zi y5), (6, zi y6), (7, zl z515), (9, zi (y9 + 1))] i311_76 rfl rfl rfl (by omega) rfl ?_
      refine X.goto 55 i311_79 rfl rfl ?_
      exact ih z515 (y9 + 1) (by omega) (by omega) (by omega) (Eq.trans hR (Eq.trans (if_neg h511) (Eq.trans (zn_eq hFv514.symm) (Eq.trans (zn_eq ez515) rfl))))
theorem l311_55_2 {s : Nat × (Nat → Int32)} {S : zS} {m0 : zM} {m : zM} {B : Int} {d : Nat} {Q : Option zV → zM → Prop} {R0 : Int} {k82 : Int → Int} (y1 y2 y3 y5 y6 : Int) (hd : 14 ≤ d) (hJ : J S m0 B m) (hB9 : B ≤ 1000000000) (hy1 : 1 ≤ y1 ∧ y1 ≤ 64) (hy2 : 0 ≤ y2 ∧ y2 ≤ 1) (hy3 : (-1) ≤ y3) (hy5 : 0 ≤ y5 ∧ y5 ≤ 63) (hy6 : 0 ≤ y6 ∧ y6 ≤ 64)
    (K82 : ∀ (x7 : Int) , (True) → (y6 + y1 ≤ 64) → R0 = k82 x7 → X (EE s) d 311 82 [(0, zr 4 44), (1, zi y1), (2, zi y2), (3, zl y3), (5, zi y5), (6, zi y6), (7, zl x7)] [] m Q) :
    ∀ (n : Nat) (y7 y9 : Int) , (0 ≤ y9 ∧ y9 ≤ 64) → (y6 + y1 ≤ 64) → 64 - y9 < (n : Int) → R0 = fl311_55_1 k82 y1 y2 y3 y5 y6 m n y7 y9 → X (EE s) d 311 55 [(0, zr 4 44), (1, zi y1), (2, zi y2), (3, zl y3), (5, zi y5), (6, zi y6), (7, zl y7), (9, zi y9)] [] m Q := by
  intro n
  induction n with
  | zero =>
    intro y7 y9 hy9 hr0 hn hR
    exfalso
    omega
  | succ n ih =>
    intro y7 y9 hy9 hr0 hn hR
    replace hR : R0 = fl311_55_1_b (fl311_55_1 k82 y1 y2 y3 y5 y6 m n) k82 y1 y2 y3 y5 y6 m y7 y9 := hR
    refine X.iload 57 i311_55 rfl rfl rfl ?_
    refine X.iload_n 58 i311_57 rfl rfl rfl ?_
    refine X.icmpge 82 61 i311_58 rfl rfl rfl (fun h511 => ?_) (fun h511 => ?_)
    · refine X.cut [(0, zr 4 44), (1, zi y1), (2, zi y2), (3, zl y3), (5, zi y5), (6, zi y6), (7, zl y7)] i311_82 rfl ?_
      exact K82 y7 (by first | trivial | omega) (by omega) (Eq.trans hR (Eq.trans (if_pos h511) rfl))
    · refine X.lload 63 i311_61 rfl rfl rfl ?_
      refine X.aload_n 64 i311_63 rfl rfl rfl ?_
      refine X.iload 66 i311_64 rfl rfl rfl ?_
      refine X.iload 68 i311_66 rfl rfl rfl ?_
      refine X.iadd 69 i311_68 rfl rfl (by omega) ?_
      refine X.iconst 70 i311_69 rfl rfl (by decide) ?_
      refine X.callv 73 [zi (y6 + y9), zi 1] [zl y7] [(0, zr 4 44), (1, zi (y6 + y9)), (2, zi 1)] i311_70 rfl (by decide) rfl rfl (by omega) rfl rfl (by decide) rfl t234 (Nat.le_of_ble_eq_true rfl) (Nat.le_of_ble_eq_true rfl) rfl ?_
      refine c234_8 (B := B)  (y6 + y9) 1 (by omega) (hJ.up (by omega)) (by omega) (by omega) (by omega) (fun v514 hv514 hFv514 => ?_)
      show X (EE s) d 311 73 [(0, zr 4 44), (1, zi y1), (2, zi y2), (3, zl y3), (5, zi y5), (6, zi y6), (7, zl y7), (9, zi y9)] [zl v514, zl y7] m _
      refine X.laddW 74 i311_73 rfl rfl (fun z515 ez515 hz515 => ?_)
      refine X.lstore 76 [(0, zr 4 44), (1, zi y1), (2, zi y2), (3, zl y3), (5, zi y5), (6, zi y6), (7, zl z515), (9, zi y9)] i311_74 rfl rfl rfl ?_
      refine X.iinc 79 [(0, zr 4 44), (1, zi y1), (2, zi y2), (3, zl y3), (5, zi y5), (6, zi y6), (7, zl z515), (9, zi (y9 + 1))] i311_76 rfl rfl rfl (by omega) rfl ?_
      refine X.goto 55 i311_79 rfl rfl ?_
      exact ih z515 (y9 + 1) (by omega) (by omega) (by omega) (Eq.trans hR (Eq.trans (if_neg h511) (Eq.trans (zn_eq hFv514.symm) (Eq.trans (zn_eq ez515) rfl))))
theorem l311_55_3 {s : Nat × (Nat → Int32)} {S : zS} {m0 : zM} {m : zM} {B : Int} {d : Nat} {Q : Option zV → zM → Prop} {R0 : Int} {k82 : Int → Int} (y1 y2 y3 y5 y6 : Int) (hd : 14 ≤ d) (hJ : J S m0 B m) (hB9 : B ≤ 1000000000) (hy1 : 1 ≤ y1 ∧ y1 ≤ 64) (hy2 : 0 ≤ y2 ∧ y2 ≤ 1) (hy3 : (-1) ≤ y3) (hy5 : 0 ≤ y5 ∧ y5 ≤ 63) (hy6 : 0 ≤ y6 ∧ y6 ≤ 64)
    (K82 : ∀ (x7 : Int) , (True) → (y6 + y1 ≤ 64) → R0 = k82 x7 → X (EE s) d 311 82 [(0, zr 4 44), (1, zi y1), (2, zi y2), (3, zl y3), (5, zi y5), (6, zi y6), (7, zl x7)] [] m Q) :
    ∀ (n : Nat) (y7 y9 : Int) , (0 ≤ y9 ∧ y9 ≤ 64) → (y6 + y1 ≤ 64) → 64 - y9 < (n : Int) → R0 = fl311_55_1 k82 y1 y2 y3 y5 y6 m n y7 y9 → X (EE s) d 311 55 [(0, zr 4 44), (1, zi y1), (2, zi y2), (3, zl y3), (5, zi y5), (6, zi y6), (7, zl y7), (9, zi y9)] [] m Q := by
  intro n
  induction n with
  | zero =>
    intro y7 y9 hy9 hr0 hn hR
    exfalso
    omega
  | succ n ih =>
    intro y7 y9 hy9 hr0 hn hR
    replace hR : R0 = fl311_55_1_b (fl311_55_1 k82 y1 y2 y3 y5 y6 m n) k82 y1 y2 y3 y5 y6 m y7 y9 := hR
    refine X.iload 57 i311_55 rfl rfl rfl ?_
    refine X.iload_n 58 i311_57 rfl rfl rfl ?_
    refine X.icmpge 82 61 i311_58 rfl rfl rfl (fun h511 => ?_) (fun h511 => ?_)
    · refine X.cut [(0, zr 4 44), (1, zi y1), (2, zi y2), (3, zl y3), (5, zi y5), (6, zi y6), (7, zl y7)] i311_82 rfl ?_
      exact K82 y7 (by first | trivial | omega) (by omega) (Eq.trans hR (Eq.trans (if_pos h511) rfl))
    · refine X.lload 63 i311_61 rfl rfl rfl ?_
      refine X.aload_n 64 i311_63 rfl rfl rfl ?_
      refine X.iload 66 i311_64 rfl rfl rfl ?_
      refine X.iload 68 i311_66 rfl rfl rfl ?_
      refine X.iadd 69 i311_68 rfl rfl (by omega) ?_
      refine X.iconst 70 i311_69 rfl rfl (by decide) ?_
      refine X.callv 73 [zi (y6 + y9), zi 1] [zl y7] [(0, zr 4 44), (1, zi (y6 + y9)), (2, zi 1)] i311_70 rfl (by decide) rfl rfl (by omega) rfl rfl (by decide) rfl t234 (Nat.le_of_ble_eq_true rfl) (Nat.le_of_ble_eq_true rfl) rfl ?_
      refine c234_8 (B := B)  (y6 + y9) 1 (by omega) (hJ.up (by omega)) (by omega) (by omega) (by omega) (fun v514 hv514 hFv514 => ?_)
      show X (EE s) d 311 73 [(0, zr 4 44), (1, zi y1), (2, zi y2), (3, zl y3), (5, zi y5), (6, zi y6), (7, zl y7), (9, zi y9)] [zl v514, zl y7] m _
      refine X.laddW 74 i311_73 rfl rfl (fun z515 ez515 hz515 => ?_)
      refine X.lstore 76 [(0, zr 4 44), (1, zi y1), (2, zi y2), (3, zl y3), (5, zi y5), (6, zi y6), (7, zl z515), (9, zi y9)] i311_74 rfl rfl rfl ?_
      refine X.iinc 79 [(0, zr 4 44), (1, zi y1), (2, zi y2), (3, zl y3), (5, zi y5), (6, zi y6), (7, zl z515), (9, zi (y9 + 1))] i311_76 rfl rfl rfl (by omega) rfl ?_
      refine X.goto 55 i311_79 rfl rfl ?_
      exact ih z515 (y9 + 1) (by omega) (by omega) (by omega) (Eq.trans hR (Eq.trans (if_neg h511) (Eq.trans (zn_eq hFv514.symm) (Eq.trans (zn_eq ez515) rfl))))
noncomputable def fl311_38_1_b (self : Int → Int → Int → Int) (k109 : Int → Int → Int) (y1 y2 : Int) (m : zM) (y3 y5 y6 : Int) : Int :=
  zn (f235_1 m) fun v528 =>
  if v528 < (y6 + y1) then
  (k109 y3 y5)
  else
  (fl311_55_1 (fun y530 =>
  if y530 < y3 then
  (self y3 y5 (y6 + 1))
  else
  (self y530 ((y6 + y1) - 1) (y6 + 1))) y1 y2 y3 y5 y6 m (zfu 65) 0 0)
noncomputable def fl311_38_1 (k109 : Int → Int → Int) (y1 y2 : Int) (m : zM) : Nat → Int → Int → Int → Int
  | 0 => fun y3 y5 y6 => 0
  | n + 1 => fl311_38_1_b (fl311_38_1 k109 y1 y2 m n) k109 y1 y2 m
theorem l311_38_1 {s : Nat × (Nat → Int32)} {S : zS} {m0 : zM} {m : zM} {B : Int} {d : Nat} {Q : Option zV → zM → Prop} {R0 : Int} {k109 : Int → Int → Int} (y1 y2 : Int) (hd : 14 ≤ d) (hJ : J S m0 B m) (hB9 : B ≤ 1000000000) (hy1 : 1 ≤ y1 ∧ y1 ≤ 64) (hy2 : 0 ≤ y2 ∧ y2 ≤ 1)
    (K109 : ∀ (x3 x5 : Int) , ((-1) ≤ x3) → (0 ≤ x5 ∧ x5 ≤ 63) → R0 = k109 x3 x5 → X (EE s) d 311 109 [(0, zr 4 44), (2, zi y2), (3, zl x3), (5, zi x5)] [] m Q) :
    ∀ (n : Nat) (y3 y5 y6 : Int) , ((-1) ≤ y3) → (0 ≤ y5 ∧ y5 ≤ 63) → (0 ≤ y6 ∧ y6 ≤ 64) → 64 - y6 < (n : Int) → R0 = fl311_38_1 k109 y1 y2 m n y3 y5 y6 → X (EE s) d 311 38 [(0, zr 4 44), (1, zi y1), (2, zi y2), (3, zl y3), (5, zi y5), (6, zi y6)] [] m Q := by
  intro n
  induction n with
  | zero =>
    intro y3 y5 y6 hy3 hy5 hy6 hn hR
    exfalso
    omega
  | succ n ih =>
    intro y3 y5 y6 hy3 hy5 hy6 hn hR
    replace hR : R0 = fl311_38_1_b (fl311_38_1 k109 y1 y2 m n) k109 y1 y2 m y3 y5 y6 := hR
    refine X.iload 40 i311_38 rfl rfl rfl ?_
    refine X.iload_n 41 i311_40 rfl rfl rfl ?_
    refine X.iadd 42 i311_41 rfl rfl (by omega) ?_
    refine X.aload_n 43 i311_42 rfl rfl rfl ?_
    refine X.callv 46 [] [zi (y6 + y1)] [(0, zr 4 44)] i311_43 rfl (by decide) rfl rfl (by omega) rfl rfl (by decide) rfl t235 (Nat.le_of_ble_eq_true rfl) (Nat.le_of_ble_eq_true rfl) rfl ?_
    refine c235_1 (B := B)   (by omega) (hJ.up (by omega)) (by omega)  (fun v528 hv528 hFv528 => ?_)
    show X (EE s) d 311 46 [(0, zr 4 44), (1, zi y1), (2, zi y2), (3, zl y3), (5, zi y5), (6, zi y6)] [zi v528, zi (y6 + y1)] m _
    refine X.icmpgt 109 49 i311_46 rfl rfl rfl (fun h529 => ?_) (fun h529 => ?_)
    · refine X.cut [(0, zr 4 44), (2, zi y2), (3, zl y3), (5, zi y5)] i311_109 rfl ?_
      exact K109 y3 y5 (by first | trivial | omega) (by first | trivial | omega) (Eq.trans hR (Eq.trans (zn_eq hFv528.symm) (Eq.trans (if_pos h529) rfl)))
    · refine X.lconst (y := 0) 50 i311_49 rfl rfl rfl ?_
      refine X.lstore 52 [(0, zr 4 44), (1, zi y1), (2, zi y2), (3, zl y3), (5, zi y5), (6, zi y6), (7, zl 0)] i311_50 rfl rfl rfl ?_
      refine X.iconst 53 i311_52 rfl rfl (by decide) ?_
      refine X.istore 55 [(0, zr 4 44), (1, zi y1), (2, zi y2), (3, zl y3), (5, zi y5), (6, zi y6), (7, zl 0), (9, zi 0)] i311_53 rfl rfl rfl ?_
      have hz65 := zfu_eq 65
      refine l311_55_3 (s := s) (m := m) (B := B) (d := d)  y1 y2 y3 y5 y6  (by omega) (hJ.up (by omega)) (by omega) (by omega) (by omega) (by omega) (by omega) (by omega) (fun y530 hby530 hrlm531_0 hR534 => ?_) (zfu 65) 0 0 (by omega) (by omega) (by omega) (Eq.trans hR (Eq.trans (zn_eq hFv528.symm) (Eq.trans (if_neg h529) rfl)))
      refine X.lload 84 i311_82 rfl rfl rfl ?_
      refine X.lload_n 85 i311_84 rfl rfl rfl ?_
      refine X.lcmp 86 i311_85 rfl rfl (fun z535 hz535 => ?_)
      refine X.ifge 92 89 i311_86 rfl rfl rfl (fun h536 => ?_) (fun h536 => ?_)
      · have h536c : ¬ y530 < y3 := by omega
        clear h536 hz535
        refine X.cut [(0, zr 4 44), (1, zi y1), (2, zi y2), (6, zi y6), (7, zl y530)] i311_92 rfl ?_
        refine X.lload 94 i311_92 rfl rfl rfl ?_
        refine X.lstore_n 95 [(0, zr 4 44), (1, zi y1), (2, zi y2), (3, zl y530), (6, zi y6), (7, zl y530)] i311_94 rfl rfl rfl ?_
        refine X.iload 97 i311_95 rfl rfl rfl ?_
        refine X.iload_n 98 i311_97 rfl rfl rfl ?_
        refine X.iadd 99 i311_98 rfl rfl (by omega) ?_
        refine X.iconst 100 i311_99 rfl rfl (by decide) ?_
        refine X.isub 101 i311_100 rfl rfl (by omega) ?_
        refine X.istore 103 [(0, zr 4 44), (1, zi y1), (2, zi y2), (3, zl y530), (5, zi ((y6 + y1) - 1)), (6, zi y6), (7, zl y530)] i311_101 rfl rfl rfl ?_
        refine X.cut [(0, zr 4 44), (1, zi y1), (2, zi y2), (3, zl y530), (5, zi ((y6 + y1) - 1)), (6, zi y6)] i311_103 rfl ?_
        refine X.iinc 106 [(0, zr 4 44), (1, zi y1), (2, zi y2), (3, zl y530), (5, zi ((y6 + y1) - 1)), (6, zi (y6 + 1))] i311_103 rfl rfl rfl (by omega) rfl ?_
        refine X.goto 38 i311_106 rfl rfl ?_
        exact ih y530 ((y6 + y1) - 1) (y6 + 1) (by omega) (by omega) (by omega) (by omega) (Eq.trans hR534 (Eq.trans (if_neg h536c) rfl))
      · have h536c : y530 < y3 := by omega
        clear h536 hz535
        refine X.goto 103 i311_89 rfl rfl ?_
        refine X.cut [(0, zr 4 44), (1, zi y1), (2, zi y2), (3, zl y3), (5, zi y5), (6, zi y6)] i311_103 rfl ?_
        refine X.iinc 106 [(0, zr 4 44), (1, zi y1), (2, zi y2), (3, zl y3), (5, zi y5), (6, zi (y6 + 1))] i311_103 rfl rfl rfl (by omega) rfl ?_
        refine X.goto 38 i311_106 rfl rfl ?_
        exact ih y3 y5 (y6 + 1) (by omega) (by omega) (by omega) (by omega) (Eq.trans hR534 (Eq.trans (if_pos h536c) rfl))
-- WorkMeterModel.best
noncomputable def f311_1 (a1 a2 : Int) (m : zM) : Int :=
  zn (f235_1 m) fun v503 =>
  if a1 < 1 then
  ((-1))
  else
  (if a1 ≤ v503 then
  (if a2 < 0 then
  ((-1))
  else
  (if a2 ≤ 1 then
  (fl311_38_1 (fun y518 y519 =>
  zn (if a2 = 0 then
  (y518)
  else
  (zn (f234_1 y519 0 m) fun v527 =>
  v527)) fun v528 =>
  v528) a1 a2 m (zfu 65) (-1) 0 0)
  else
  ((-1))))
  else
  ((-1)))
-- WorkMeterModel.best
theorem c311_1 {s : Nat × (Nat → Int32)} {S : zS} {m0 m : zM} {B : Int} {d : Nat} {Q : Option zV → zM → Prop} (a1 a2 : Int) (hd : 14 ≤ d) (hJ : J S m0 B m) (hB : B + 0 ≤ 1000000000) (ha1 : (-2147483648) ≤ a1 ∧ a1 ≤ 2147483647) (ha2 : (-2147483648) ≤ a2 ∧ a2 ≤ 2147483647) (hQ : ∀ (v : Int), (True) → f311_1 a1 a2 m = v → Q (some (zl v)) m) : X (EE s) d 311 0 [(0, zr 4 44), (1, zi a1), (2, zi a2)] [] m Q := by
  refine X.iload_n 1 i311_0 rfl rfl rfl ?_
  refine X.i2l 2 i311_1 rfl rfl ?_
  refine X.lconst (y := 1) 3 i311_2 rfl rfl rfl ?_
  refine X.aload_n 4 i311_3 rfl rfl rfl ?_
  refine X.callv 7 [] [zl 1, zl a1] [(0, zr 4 44)] i311_4 rfl (by decide) rfl rfl (by omega) rfl rfl (by decide) rfl t235 (Nat.le_of_ble_eq_true rfl) (Nat.le_of_ble_eq_true rfl) rfl ?_
  refine c235_1 (B := B)   (by omega) (hJ.up (by omega)) (by omega)  (fun v503 hv503 hFv503 => ?_)
  show X (EE s) d 311 7 [(0, zr 4 44), (1, zi a1), (2, zi a2)] [zi v503, zl 1, zl a1] m _
  refine X.i2l 8 i311_7 rfl rfl ?_
  refine X.calls 11 [zl a1, zl 1, zl v503] [] [(0, zl a1), (2, zl 1), (4, zl v503)] i311_8 (by decide) rfl rfl (by omega) rfl rfl t204 (Nat.le_of_ble_eq_true rfl) (Nat.le_of_ble_eq_true rfl) rfl ?_
  refine X.lload_n 1 i204_0 rfl rfl rfl ?_
  refine X.lload_n 2 i204_1 rfl rfl rfl ?_
  refine X.lcmp 3 i204_2 rfl rfl (fun z504 hz504 => ?_)
  refine X.iflt 17 6 i204_3 rfl rfl rfl (fun h505 => ?_) (fun h505 => ?_)
  · have h505c : a1 < 1 := by omega
    clear h505 hz504
    refine X.cut [] i204_17 rfl ?_
    refine X.iconst 18 i204_17 rfl rfl (by decide) ?_
    refine X.retz i204_18 rfl t204 (by omega) ?_
    show X (EE s) d 311 11 [(0, zr 4 44), (1, zi a1), (2, zi a2)] [zi 0] m _
    refine X.ifeq 24 14 i311_11 rfl rfl rfl (fun h506 => ?_) (fun h506 => (by exfalso; omega))
    refine X.cut [] i311_24 rfl ?_
    refine X.ldc2 27 i311_24 rfl rfl (by decide) ?_
    refine X.retl i311_27 rfl t311 ?_
    exact hQ (-1) (by first | trivial | omega) (Eq.trans (zn_eq hFv503.symm) (Eq.trans (if_pos h505c) rfl)) 
  · have h505c : ¬ a1 < 1 := by omega
    clear h505 hz504
    refine X.lload_n 7 i204_6 rfl rfl rfl ?_
    refine X.lload 9 i204_7 rfl rfl rfl ?_
    refine X.lcmp 10 i204_9 rfl rfl (fun z507 hz507 => ?_)
    refine X.ifgt 17 13 i204_10 rfl rfl rfl (fun h508 => ?_) (fun h508 => ?_)
    · have h508c : ¬ a1 ≤ v503 := by omega
      clear h508 hz507
      refine X.cut [] i204_17 rfl ?_
      refine X.iconst 18 i204_17 rfl rfl (by decide) ?_
      refine X.retz i204_18 rfl t204 (by omega) ?_
      show X (EE s) d 311 11 [(0, zr 4 44), (1, zi a1), (2, zi a2)] [zi 0] m _
      refine X.ifeq 24 14 i311_11 rfl rfl rfl (fun h509 => ?_) (fun h509 => (by exfalso; omega))
      refine X.cut [] i311_24 rfl ?_
      refine X.ldc2 27 i311_24 rfl rfl (by decide) ?_
      refine X.retl i311_27 rfl t311 ?_
      exact hQ (-1) (by first | trivial | omega) (Eq.trans (zn_eq hFv503.symm) (Eq.trans (if_neg h505c) (Eq.trans (if_neg h508c) rfl))) 
    · have h508c : a1 ≤ v503 := by omega
      clear h508 hz507
      refine X.iconst 14 i204_13 rfl rfl (by decide) ?_
      refine X.goto 18 i204_14 rfl rfl ?_
      refine X.cut [] i204_18 rfl ?_
      refine X.retz i204_18 rfl t204 (by omega) ?_
      show X (EE s) d 311 11 [(0, zr 4 44), (1, zi a1), (2, zi a2)] [zi 1] m _
      refine X.ifeq 24 14 i311_11 rfl rfl rfl (fun h510 => (by exfalso; omega)) (fun h510 => ?_)
      refine X.iload_n 15 i311_14 rfl rfl rfl ?_
      refine X.i2l 16 i311_15 rfl rfl ?_
      refine X.lconst (y := 0) 17 i311_16 rfl rfl rfl ?_
      refine X.lconst (y := 1) 18 i311_17 rfl rfl rfl ?_
      refine X.calls 21 [zl a2, zl 0, zl 1] [] [(0, zl a2), (2, zl 0), (4, zl 1)] i311_18 (by decide) rfl rfl (by omega) rfl rfl t204 (Nat.le_of_ble_eq_true rfl) (Nat.le_of_ble_eq_true rfl) rfl ?_
      refine X.lload_n 1 i204_0 rfl rfl rfl ?_
      refine X.lload_n 2 i204_1 rfl rfl rfl ?_
      refine X.lcmp 3 i204_2 rfl rfl (fun z511 hz511 => ?_)
      refine X.iflt 17 6 i204_3 rfl rfl rfl (fun h512 => ?_) (fun h512 => ?_)
      · have h512c : a2 < 0 := by omega
        clear h512 hz511
        refine X.cut [] i204_17 rfl ?_
        refine X.iconst 18 i204_17 rfl rfl (by decide) ?_
        refine X.retz i204_18 rfl t204 (by omega) ?_
        show X (EE s) d 311 21 [(0, zr 4 44), (1, zi a1), (2, zi a2)] [zi 0] m _
        refine X.ifne 28 24 i311_21 rfl rfl rfl (fun h513 => (by exfalso; omega)) (fun h513 => ?_)
        refine X.cut [] i311_24 rfl ?_
        refine X.ldc2 27 i311_24 rfl rfl (by decide) ?_
        refine X.retl i311_27 rfl t311 ?_
        exact hQ (-1) (by first | trivial | omega) (Eq.trans (zn_eq hFv503.symm) (Eq.trans (if_neg h505c) (Eq.trans (if_pos h508c) (Eq.trans (if_pos h512c) rfl)))) 
      · have h512c : ¬ a2 < 0 := by omega
        clear h512 hz511
        refine X.lload_n 7 i204_6 rfl rfl rfl ?_
        refine X.lload 9 i204_7 rfl rfl rfl ?_
        refine X.lcmp 10 i204_9 rfl rfl (fun z514 hz514 => ?_)
        refine X.ifgt 17 13 i204_10 rfl rfl rfl (fun h515 => ?_) (fun h515 => ?_)
        · have h515c : ¬ a2 ≤ 1 := by omega
          clear h515 hz514
          refine X.cut [] i204_17 rfl ?_
          refine X.iconst 18 i204_17 rfl rfl (by decide) ?_
          refine X.retz i204_18 rfl t204 (by omega) ?_
          show X (EE s) d 311 21 [(0, zr 4 44), (1, zi a1), (2, zi a2)] [zi 0] m _
          refine X.ifne 28 24 i311_21 rfl rfl rfl (fun h516 => (by exfalso; omega)) (fun h516 => ?_)
          refine X.cut [] i311_24 rfl ?_
          refine X.ldc2 27 i311_24 rfl rfl (by decide) ?_
          refine X.retl i311_27 rfl t311 ?_
          exact hQ (-1) (by first | trivial | omega) (Eq.trans (zn_eq hFv503.symm) (Eq.trans (if_neg h505c) (Eq.trans (if_pos h508c) (Eq.trans (if_neg h512c) (Eq.trans (if_neg h515c) rfl))))) 
        · have h515c : a2 ≤ 1 := by omega
          clear h515 hz514
          refine X.iconst 14 i204_13 rfl rfl (by decide) ?_
          refine X.goto 18 i204_14 rfl rfl ?_
          refine X.cut [] i204_18 rfl ?_
          refine X.retz i204_18 rfl t204 (by omega) ?_
          show X (EE s) d 311 21 [(0, zr 4 44), (1, zi a1), (2, zi a2)] [zi 1] m _
          refine X.ifne 28 24 i311_21 rfl rfl rfl (fun h517 => ?_) (fun h517 => (by exfalso; omega))
          refine X.ldc2 31 i311_28 rfl rfl (by decide) ?_
          refine X.lstore_n 32 [(0, zr 4 44), (1, zi a1), (2, zi a2), (3, zl (-1))] i311_31 rfl rfl rfl ?_
          refine X.iconst 33 i311_32 rfl rfl (by decide) ?_
          refine X.istore 35 [(0, zr 4 44), (1, zi a1), (2, zi a2), (3, zl (-1)), (5, zi 0)] i311_33 rfl rfl rfl ?_
          refine X.iconst 36 i311_35 rfl rfl (by decide) ?_
          refine X.istore 38 [(0, zr 4 44), (1, zi a1), (2, zi a2), (3, zl (-1)), (5, zi 0), (6, zi 0)] i311_36 rfl rfl rfl ?_
          have hz65 := zfu_eq 65
          refine l311_38_1 (s := s) (m := m) (B := B) (d := d) (R0 := (f311_1 a1 a2 m))  a1 a2  (by omega) (hJ.up (by omega)) (by omega) (by omega) (by omega) (fun y518 y519 hby518 hby519 hR523 => ?_) (zfu 65) (-1) 0 0 (by omega) (by omega) (by omega) (by omega) (Eq.trans (zn_eq hFv503.symm) (Eq.trans (if_neg h505c) (Eq.trans (if_pos h508c) (Eq.trans (if_neg h512c) (Eq.trans (if_pos h515c) rfl)))))
          refine X.iload_n 110 i311_109 rfl rfl rfl ?_
          have hK531 : ∀ (v : Int) , (True) → (if a2 = 0 then
              (y518)
              else
              (zn (f234_1 y519 0 m) fun v527 =>
              v527)) = v → X (EE s) d 311 124 [] [zl v] m Q := by
            intro v528 hv528 hT532
            refine X.retl i311_124 rfl t311 ?_
            exact hQ v528 (by first | trivial | omega) (Eq.trans hR523 (Eq.trans (zn_eq hT532.symm) rfl)) 
          refine X.ifne 117 113 i311_110 rfl rfl rfl (fun h524 => ?_) (fun h524 => ?_)
          · refine X.cut [(0, zr 4 44), (5, zi y519)] i311_117 rfl ?_
            refine X.aload_n 118 i311_117 rfl rfl rfl ?_
            refine X.iload 120 i311_118 rfl rfl rfl ?_
            refine X.iconst 121 i311_120 rfl rfl (by decide) ?_
            refine X.callv 124 [zi y519, zi 0] [] [(0, zr 4 44), (1, zi y519), (2, zi 0)] i311_121 rfl (by decide) rfl rfl (by omega) rfl rfl (by decide) rfl t234 (Nat.le_of_ble_eq_true rfl) (Nat.le_of_ble_eq_true rfl) rfl ?_
            refine c234_3 (B := B)  y519 0 (by omega) (hJ.up (by omega)) (by omega) (by omega) (by omega) (fun v527 hv527 hFv527 => ?_)
            show X (EE s) d 311 124 [(0, zr 4 44), (5, zi y519)] [zl v527] m _
            refine X.cut [] i311_124 rfl ?_
            exact hK531 v527 (by first | trivial | omega) (Eq.trans (if_neg h524) (Eq.trans (zn_eq hFv527.symm) rfl))
          · refine X.lload_n 114 i311_113 rfl rfl rfl ?_
            refine X.goto 124 i311_114 rfl rfl ?_
            refine X.cut [] i311_124 rfl ?_
            exact hK531 y518 (by first | trivial | omega) (Eq.trans (if_pos h524) rfl)
noncomputable def fl189_17_1_b (self : Int → Int → Int) (k77 : Int → Int) (y1 y2 y5 : Int) (m : zM) (y3 y6 : Int) : Int :=
  if y5 ≤ y6 then
  (k77 y3)
  else
  (zn (if (m 0 28 ((((((m 0 27 2) - 1) - y6) % 64) * 6) + 0)) ≤ y1 then
  (y3)
  else
  (if (m 0 28 ((((((m 0 27 2) - 1) - y6) % 64) * 6) + 0)) ≤ y2 then
  (zn (w64 (y3 + (m 0 28 ((((((m 0 27 2) - 1) - y6) % 64) * 6) + 1)))) fun z531 =>
  z531)
  else
  (y3))) fun v532 =>
  self v532 (y6 + 1))
noncomputable def fl189_17_1 (k77 : Int → Int) (y1 y2 y5 : Int) (m : zM) : Nat → Int → Int → Int
  | 0 => fun y3 y6 => 0
  | n + 1 => fl189_17_1_b (fl189_17_1 k77 y1 y2 y5 m n) k77 y1 y2 y5 m
theorem l189_17_1 {s : Nat × (Nat → Int32)} {S : zS} {m0 : zM} {m : zM} {B : Int} {d : Nat} {Q : Option zV → zM → Prop} {R0 : Int} {k77 : Int → Int} (y1 y2 y5 : Int) (hd : 13 ≤ d) (hJ : J S m0 B m) (hB9 : B ≤ 1000000000) (hy1 : (-2147483648) ≤ y1 ∧ y1 ≤ 2147483647) (hy2 : (-2147483648) ≤ y2 ∧ y2 ≤ 2147483647) (hy5 : 0 ≤ y5 ∧ y5 ≤ 64)
    (K77 : ∀ (x3 : Int) , (True) → (y5 ≤ m 0 27 2) → R0 = k77 x3 → X (EE s) d 189 77 [(3, zl x3)] [] m Q) :
    ∀ (n : Nat) (y3 y6 : Int) , (0 ≤ y6 ∧ y6 ≤ 64) → (y5 ≤ m 0 27 2) → 64 - y6 < (n : Int) → R0 = fl189_17_1 k77 y1 y2 y5 m n y3 y6 → X (EE s) d 189 17 [(0, zr 4 40), (1, zi y1), (2, zi y2), (3, zl y3), (5, zi y5), (6, zi y6)] [] m Q := by
  intro n
  induction n with
  | zero =>
    intro y3 y6 hy6 hr0 hn hR
    exfalso
    omega
  | succ n ih =>
    intro y3 y6 hy6 hr0 hn hR
    replace hR : R0 = fl189_17_1_b (fl189_17_1 k77 y1 y2 y5 m n) k77 y1 y2 y5 m y3 y6 := hR
    refine X.iload 19 i189_17 rfl rfl rfl ?_
    refine X.iload 21 i189_19 rfl rfl rfl ?_
    refine X.icmpge 77 24 i189_21 rfl rfl rfl (fun h525 => ?_) (fun h525 => ?_)
    · refine X.cut [(3, zl y3)] i189_77 rfl ?_
      exact K77 y3 (by first | trivial | omega) (by omega) (Eq.trans hR (Eq.trans (if_pos h525) rfl))
    · refine X.aload_n 25 i189_24 rfl rfl rfl ?_
      refine X.getF 28 i189_25 rfl rfl (by decide) rfl rfl ?_
      refine X.getR 31 i189_28 rfl rfl (by decide) rfl rfl ?_
      refine X.iload 33 i189_31 rfl rfl rfl ?_
      refine X.iconst 34 i189_33 rfl rfl (by decide) ?_
      refine X.callv 37 [zi y6, zi 0] [] [(0, zr 0 27), (1, zi y6), (2, zi 0)] i189_34 rfl (by decide) rfl rfl (by omega) rfl rfl (by decide) rfl t67 (Nat.le_of_ble_eq_true rfl) (Nat.le_of_ble_eq_true rfl) rfl ?_
      refine X.aload_n 1 i67_0 rfl rfl rfl ?_
      refine X.getR 4 i67_1 rfl rfl (by decide) rfl rfl ?_
      refine X.aload_n 5 i67_4 rfl rfl rfl ?_
      refine X.getI 8 2 i67_5 rfl rfl (by decide) rfl rfl rfl ?_
      have h526 := r27_2 hJ 0
      refine X.iconst 9 i67_8 rfl rfl (by decide) ?_
      refine X.isub 10 i67_9 rfl rfl (by omega) ?_
      refine X.iload_n 11 i67_10 rfl rfl rfl ?_
      refine X.isub 12 i67_11 rfl rfl (by omega) ?_
      refine X.bipush 14 i67_12 rfl rfl (by decide) ?_
      refine X.irem 15 i67_14 rfl rfl (by omega) ?_
      refine X.bipush 17 i67_15 rfl rfl (by decide) ?_
      refine X.imul 18 i67_17 rfl rfl (by omega) ?_
      refine X.iload_n 19 i67_18 rfl rfl rfl ?_
      refine X.iadd 20 i67_19 rfl rfl (by omega) ?_
      refine X.lald 21 i67_20 rfl rfl (by decide) rfl (by omega) ?_
      refine X.retl i67_21 rfl t67 ?_
      show X (EE s) d 189 37 [(0, zr 4 40), (1, zi y1), (2, zi y2), (3, zl y3), (5, zi y5), (6, zi y6)] [zl (m 0 28 ((((((m 0 27 2) - 1) - y6) % 64) * 6) + 0))] m _
      refine X.lstore 39 [(0, zr 4 40), (1, zi y1), (2, zi y2), (3, zl y3), (5, zi y5), (6, zi y6), (7, zl (m 0 28 ((((((m 0 27 2) - 1) - y6) % 64) * 6) + 0)))] i189_37 rfl rfl rfl ?_
      refine X.lload 41 i189_39 rfl rfl rfl ?_
      refine X.iload_n 42 i189_41 rfl rfl rfl ?_
      refine X.i2l 43 i189_42 rfl rfl ?_
      refine X.lcmp 44 i189_43 rfl rfl (fun z527 hz527 => ?_)
      have hK535 : ∀ (v : Int) , (True) → (if (m 0 28 ((((((m 0 27 2) - 1) - y6) % 64) * 6) + 0)) ≤ y1 then
          (y3)
          else
          (if (m 0 28 ((((((m 0 27 2) - 1) - y6) % 64) * 6) + 0)) ≤ y2 then
          (zn (w64 (y3 + (m 0 28 ((((((m 0 27 2) - 1) - y6) % 64) * 6) + 1)))) fun z531 =>
          z531)
          else
          (y3))) = v → X (EE s) d 189 71 [(0, zr 4 40), (1, zi y1), (2, zi y2), (3, zl v), (5, zi y5), (6, zi y6)] [] m Q := by
        intro v532 hv532 hT536
        refine X.iinc 74 [(0, zr 4 40), (1, zi y1), (2, zi y2), (3, zl v532), (5, zi y5), (6, zi (y6 + 1))] i189_71 rfl rfl rfl (by omega) rfl ?_
        refine X.goto 17 i189_74 rfl rfl ?_
        exact ih v532 (y6 + 1) (by omega) (by omega) (by omega) (Eq.trans hR (Eq.trans (if_neg h525) (Eq.trans (zn_eq hT536.symm) rfl)))
      refine X.ifle 71 47 i189_44 rfl rfl rfl (fun h528 => ?_) (fun h528 => ?_)
      · have h528c : (m 0 28 ((((((m 0 27 2) - 1) - y6) % 64) * 6) + 0)) ≤ y1 := by omega
        clear h528 hz527
        refine X.cut [(0, zr 4 40), (1, zi y1), (2, zi y2), (3, zl y3), (5, zi y5), (6, zi y6)] i189_71 rfl ?_
        exact hK535 y3 (by first | trivial | omega) (Eq.trans (if_pos h528c) rfl)
      · have h528c : ¬ (m 0 28 ((((((m 0 27 2) - 1) - y6) % 64) * 6) + 0)) ≤ y1 := by omega
        clear h528 hz527
        refine X.lload 49 i189_47 rfl rfl rfl ?_
        refine X.iload_n 50 i189_49 rfl rfl rfl ?_
        refine X.i2l 51 i189_50 rfl rfl ?_
        refine X.lcmp 52 i189_51 rfl rfl (fun z529 hz529 => ?_)
        refine X.ifgt 71 55 i189_52 rfl rfl rfl (fun h530 => ?_) (fun h530 => ?_)
        · have h530c : ¬ (m 0 28 ((((((m 0 27 2) - 1) - y6) % 64) * 6) + 0)) ≤ y2 := by omega
          clear h530 hz529
          refine X.cut [(0, zr 4 40), (1, zi y1), (2, zi y2), (3, zl y3), (5, zi y5), (6, zi y6)] i189_71 rfl ?_
          exact hK535 y3 (by first | trivial | omega) (Eq.trans (if_neg h528c) (Eq.trans (if_neg h530c) rfl))
        · have h530c : (m 0 28 ((((((m 0 27 2) - 1) - y6) % 64) * 6) + 0)) ≤ y2 := by omega
          clear h530 hz529
          refine X.lload_n 56 i189_55 rfl rfl rfl ?_
          refine X.aload_n 57 i189_56 rfl rfl rfl ?_
          refine X.getF 60 i189_57 rfl rfl (by decide) rfl rfl ?_
          refine X.getR 63 i189_60 rfl rfl (by decide) rfl rfl ?_
          refine X.iload 65 i189_63 rfl rfl rfl ?_
          refine X.iconst 66 i189_65 rfl rfl (by decide) ?_
          refine X.callv 69 [zi y6, zi 1] [zl y3] [(0, zr 0 27), (1, zi y6), (2, zi 1)] i189_66 rfl (by decide) rfl rfl (by omega) rfl rfl (by decide) rfl t67 (Nat.le_of_ble_eq_true rfl) (Nat.le_of_ble_eq_true rfl) rfl ?_
          refine X.aload_n 1 i67_0 rfl rfl rfl ?_
          refine X.getR 4 i67_1 rfl rfl (by decide) rfl rfl ?_
          refine X.aload_n 5 i67_4 rfl rfl rfl ?_
          refine X.getI 8 2 i67_5 rfl rfl (by decide) rfl rfl rfl ?_
          refine X.iconst 9 i67_8 rfl rfl (by decide) ?_
          refine X.isub 10 i67_9 rfl rfl (by omega) ?_
          refine X.iload_n 11 i67_10 rfl rfl rfl ?_
          refine X.isub 12 i67_11 rfl rfl (by omega) ?_
          refine X.bipush 14 i67_12 rfl rfl (by decide) ?_
          refine X.irem 15 i67_14 rfl rfl (by omega) ?_
          refine X.bipush 17 i67_15 rfl rfl (by decide) ?_
          refine X.imul 18 i67_17 rfl rfl (by omega) ?_
          refine X.iload_n 19 i67_18 rfl rfl rfl ?_
          refine X.iadd 20 i67_19 rfl rfl (by omega) ?_
          refine X.lald 21 i67_20 rfl rfl (by decide) rfl (by omega) ?_
          refine X.retl i67_21 rfl t67 ?_
          show X (EE s) d 189 69 [(0, zr 4 40), (1, zi y1), (2, zi y2), (3, zl y3), (5, zi y5), (6, zi y6), (7, zl (m 0 28 ((((((m 0 27 2) - 1) - y6) % 64) * 6) + 0)))] [zl (m 0 28 ((((((m 0 27 2) - 1) - y6) % 64) * 6) + 1)), zl y3] m _
          refine X.laddW 70 i189_69 rfl rfl (fun z531 ez531 hz531 => ?_)
          refine X.lstore_n 71 [(0, zr 4 40), (1, zi y1), (2, zi y2), (3, zl z531), (5, zi y5), (6, zi y6), (7, zl (m 0 28 ((((((m 0 27 2) - 1) - y6) % 64) * 6) + 0)))] i189_70 rfl rfl rfl ?_
          refine X.cut [(0, zr 4 40), (1, zi y1), (2, zi y2), (3, zl z531), (5, zi y5), (6, zi y6)] i189_71 rfl ?_
          exact hK535 z531 (by first | trivial | omega) (Eq.trans (if_neg h528c) (Eq.trans (if_pos h530c) (Eq.trans (zn_eq ez531) rfl)))
-- WorkMeter.between
noncomputable def f189_1 (a1 a2 : Int) (m : zM) : Int :=
  fl189_17_1 (fun y502 =>
  y502) a1 a2 (min (m 0 27 2) 64) m (zfu 65) 0 0
-- WorkMeter.between
theorem c189_1 {s : Nat × (Nat → Int32)} {S : zS} {m0 m : zM} {B : Int} {d : Nat} {Q : Option zV → zM → Prop} (a1 a2 : Int) (hd : 14 ≤ d) (hJ : J S m0 B m) (hB : B + 0 ≤ 1000000000) (ha1 : (-2147483648) ≤ a1 ∧ a1 ≤ 2147483647) (ha2 : (-2147483648) ≤ a2 ∧ a2 ≤ 2147483647) (hQ : ∀ (v : Int), (True) → f189_1 a1 a2 m = v → Q (some (zl v)) m) : X (EE s) d 189 0 [(0, zr 4 40), (1, zi a1), (2, zi a2)] [] m Q := by
  refine X.lconst (y := 0) 1 i189_0 rfl rfl rfl ?_
  refine X.lstore_n 2 [(0, zr 4 40), (1, zi a1), (2, zi a2), (3, zl 0)] i189_1 rfl rfl rfl ?_
  refine X.aload_n 3 i189_2 rfl rfl rfl ?_
  refine X.getF 6 i189_3 rfl rfl (by decide) rfl rfl ?_
  refine X.getR 9 i189_6 rfl rfl (by decide) rfl rfl ?_
  refine X.callv 12 [] [] [(0, zr 0 27)] i189_9 rfl (by decide) rfl rfl (by omega) rfl rfl (by decide) rfl t66 (Nat.le_of_ble_eq_true rfl) (Nat.le_of_ble_eq_true rfl) rfl ?_
  refine X.aload_n 1 i66_0 rfl rfl rfl ?_
  refine X.getI 4 2 i66_1 rfl rfl (by decide) rfl rfl rfl ?_
  have h501 := r27_2 hJ 0
  refine X.bipush 6 i66_4 rfl rfl (by decide) ?_
  refine X.minI 9 i66_6 rfl rfl (by omega) (Nat.le_of_ble_eq_true rfl) ?_
  refine X.reti i66_9 rfl t66 ?_
  show X (EE s) d 189 12 [(0, zr 4 40), (1, zi a1), (2, zi a2), (3, zl 0)] [zi (min (m 0 27 2) 64)] m _
  refine X.istore 14 [(0, zr 4 40), (1, zi a1), (2, zi a2), (3, zl 0), (5, zi (min (m 0 27 2) 64))] i189_12 rfl rfl rfl ?_
  refine X.iconst 15 i189_14 rfl rfl (by decide) ?_
  refine X.istore 17 [(0, zr 4 40), (1, zi a1), (2, zi a2), (3, zl 0), (5, zi (min (m 0 27 2) 64)), (6, zi 0)] i189_15 rfl rfl rfl ?_
  have hz65 := zfu_eq 65
  refine l189_17_1 (s := s) (m := m) (B := B) (d := d) (R0 := (f189_1 a1 a2 m))  a1 a2 (min (m 0 27 2) 64)  (by omega) (hJ.up (by omega)) (by omega) (by omega) (by omega) (by omega) (fun y502 hby502 hrlm503_0 hR506 => ?_) (zfu 65) 0 0 (by omega) (by omega) (by omega) rfl
  refine X.lload_n 78 i189_77 rfl rfl rfl ?_
  refine X.retl i189_78 rfl t189 ?_
  exact hQ y502 (by first | trivial | omega) (Eq.trans hR506 rfl) 
noncomputable def fl312_5_1_b (self : Int → Int → Int) (k60 : Int → Int) (y1 y2 : Int) (m : zM) (y3 y5 : Int) : Int :=
  zn (f235_1 m) fun v552 =>
  if v552 ≤ y5 then
  (k60 y3)
  else
  (zn (f234_1 y5 0 m) fun v556 =>
  zn (if v556 ≤ y1 then
  (0)
  else
  (zn (f234_1 y5 0 m) fun v561 =>
  if v561 ≤ y2 then
  (zn (f234_1 y5 1 m) fun v566 =>
  v566)
  else
  (0))) fun v567 =>
  zn (w64 (y3 + v567)) fun z572 =>
  self z572 (y5 + 1))
noncomputable def fl312_5_1 (k60 : Int → Int) (y1 y2 : Int) (m : zM) : Nat → Int → Int → Int
  | 0 => fun y3 y5 => 0
  | n + 1 => fl312_5_1_b (fl312_5_1 k60 y1 y2 m n) k60 y1 y2 m
theorem l312_5_1 {s : Nat × (Nat → Int32)} {S : zS} {m0 : zM} {m : zM} {B : Int} {d : Nat} {Q : Option zV → zM → Prop} {R0 : Int} {k60 : Int → Int} (y1 y2 : Int) (hd : 14 ≤ d) (hJ : J S m0 B m) (hB9 : B ≤ 1000000000) (hy1 : (-2147483648) ≤ y1 ∧ y1 ≤ 2147483647) (hy2 : (-2147483648) ≤ y2 ∧ y2 ≤ 2147483647)
    (K60 : ∀ (x3 : Int) , (True) → R0 = k60 x3 → X (EE s) d 312 60 [(3, zl x3)] [] m Q) :
    ∀ (n : Nat) (y3 y5 : Int) , (0 ≤ y5 ∧ y5 ≤ 64) → 64 - y5 < (n : Int) → R0 = fl312_5_1 k60 y1 y2 m n y3 y5 → X (EE s) d 312 5 [(0, zr 4 44), (1, zi y1), (2, zi y2), (3, zl y3), (5, zi y5)] [] m Q := by
  intro n
  induction n with
  | zero =>
    intro y3 y5 hy5 hn hR
    exfalso
    omega
  | succ n ih =>
    intro y3 y5 hy5 hn hR
    replace hR : R0 = fl312_5_1_b (fl312_5_1 k60 y1 y2 m n) k60 y1 y2 m y3 y5 := hR
    refine X.iload 7 i312_5 rfl rfl rfl ?_
    refine X.aload_n 8 i312_7 rfl rfl rfl ?_
    refine X.callv 11 [] [zi y5] [(0, zr 4 44)] i312_8 rfl (by decide) rfl rfl (by omega) rfl rfl (by decide) rfl t235 (Nat.le_of_ble_eq_true rfl) (Nat.le_of_ble_eq_true rfl) rfl ?_
    refine c235_1 (B := B)   (by omega) (hJ.up (by omega)) (by omega)  (fun v552 hv552 hFv552 => ?_)
    show X (EE s) d 312 11 [(0, zr 4 44), (1, zi y1), (2, zi y2), (3, zl y3), (5, zi y5)] [zi v552, zi y5] m _
    refine X.icmpge 60 14 i312_11 rfl rfl rfl (fun h553 => ?_) (fun h553 => ?_)
    · refine X.cut [(3, zl y3)] i312_60 rfl ?_
      exact K60 y3 (by first | trivial | omega) (Eq.trans hR (Eq.trans (zn_eq hFv552.symm) (Eq.trans (if_pos h553) rfl)))
    · refine X.lload_n 15 i312_14 rfl rfl rfl ?_
      refine X.aload_n 16 i312_15 rfl rfl rfl ?_
      refine X.iload 18 i312_16 rfl rfl rfl ?_
      refine X.iconst 19 i312_18 rfl rfl (by decide) ?_
      refine X.callv 22 [zi y5, zi 0] [zl y3] [(0, zr 4 44), (1, zi y5), (2, zi 0)] i312_19 rfl (by decide) rfl rfl (by omega) rfl rfl (by decide) rfl t234 (Nat.le_of_ble_eq_true rfl) (Nat.le_of_ble_eq_true rfl) rfl ?_
      refine c234_3 (B := B)  y5 0 (by omega) (hJ.up (by omega)) (by omega) (by omega) (by omega) (fun v556 hv556 hFv556 => ?_)
      show X (EE s) d 312 22 [(0, zr 4 44), (1, zi y1), (2, zi y2), (3, zl y3), (5, zi y5)] [zl v556, zl y3] m _
      refine X.iload_n 23 i312_22 rfl rfl rfl ?_
      refine X.i2l 24 i312_23 rfl rfl ?_
      refine X.lcmp 25 i312_24 rfl rfl (fun z557 hz557 => ?_)
      have hK570 : ∀ (v : Int) , (True) → (if v556 ≤ y1 then
          (0)
          else
          (zn (f234_1 y5 0 m) fun v561 =>
          if v561 ≤ y2 then
          (zn (f234_1 y5 1 m) fun v566 =>
          v566)
          else
          (0))) = v → X (EE s) d 312 52 [(0, zr 4 44), (1, zi y1), (2, zi y2), (5, zi y5)] [zl v, zl y3] m Q := by
        intro v567 hv567 hT571
        refine X.laddW 53 i312_52 rfl rfl (fun z572 ez572 hz572 => ?_)
        refine X.lstore_n 54 [(0, zr 4 44), (1, zi y1), (2, zi y2), (3, zl z572), (5, zi y5)] i312_53 rfl rfl rfl ?_
        refine X.iinc 57 [(0, zr 4 44), (1, zi y1), (2, zi y2), (3, zl z572), (5, zi (y5 + 1))] i312_54 rfl rfl rfl (by omega) rfl ?_
        refine X.goto 5 i312_57 rfl rfl ?_
        exact ih z572 (y5 + 1) (by omega) (by omega) (Eq.trans hR (Eq.trans (zn_eq hFv552.symm) (Eq.trans (if_neg h553) (Eq.trans (zn_eq hFv556.symm) (Eq.trans (zn_eq hT571.symm) (Eq.trans (zn_eq ez572) rfl))))))
      refine X.ifle 51 28 i312_25 rfl rfl rfl (fun h558 => ?_) (fun h558 => ?_)
      · have h558c : v556 ≤ y1 := by omega
        clear h558 hz557
        refine X.cut [(0, zr 4 44), (1, zi y1), (2, zi y2), (5, zi y5)] i312_51 rfl ?_
        refine X.lconst (y := 0) 52 i312_51 rfl rfl rfl ?_
        exact hK570 0 (by first | trivial | omega) (Eq.trans (if_pos h558c) rfl)
      · have h558c : ¬ v556 ≤ y1 := by omega
        clear h558 hz557
        refine X.aload_n 29 i312_28 rfl rfl rfl ?_
        refine X.iload 31 i312_29 rfl rfl rfl ?_
        refine X.iconst 32 i312_31 rfl rfl (by decide) ?_
        refine X.callv 35 [zi y5, zi 0] [zl y3] [(0, zr 4 44), (1, zi y5), (2, zi 0)] i312_32 rfl (by decide) rfl rfl (by omega) rfl rfl (by decide) rfl t234 (Nat.le_of_ble_eq_true rfl) (Nat.le_of_ble_eq_true rfl) rfl ?_
        refine c234_3 (B := B)  y5 0 (by omega) (hJ.up (by omega)) (by omega) (by omega) (by omega) (fun v561 hv561 hFv561 => ?_)
        show X (EE s) d 312 35 [(0, zr 4 44), (1, zi y1), (2, zi y2), (3, zl y3), (5, zi y5)] [zl v561, zl y3] m _
        refine X.iload_n 36 i312_35 rfl rfl rfl ?_
        refine X.i2l 37 i312_36 rfl rfl ?_
        refine X.lcmp 38 i312_37 rfl rfl (fun z562 hz562 => ?_)
        refine X.ifgt 51 41 i312_38 rfl rfl rfl (fun h563 => ?_) (fun h563 => ?_)
        · have h563c : ¬ v561 ≤ y2 := by omega
          clear h563 hz562
          refine X.cut [(0, zr 4 44), (1, zi y1), (2, zi y2), (5, zi y5)] i312_51 rfl ?_
          refine X.lconst (y := 0) 52 i312_51 rfl rfl rfl ?_
          exact hK570 0 (by first | trivial | omega) (Eq.trans (if_neg h558c) (Eq.trans (zn_eq hFv561.symm) (Eq.trans (if_neg h563c) rfl)))
        · have h563c : v561 ≤ y2 := by omega
          clear h563 hz562
          refine X.aload_n 42 i312_41 rfl rfl rfl ?_
          refine X.iload 44 i312_42 rfl rfl rfl ?_
          refine X.iconst 45 i312_44 rfl rfl (by decide) ?_
          refine X.callv 48 [zi y5, zi 1] [zl y3] [(0, zr 4 44), (1, zi y5), (2, zi 1)] i312_45 rfl (by decide) rfl rfl (by omega) rfl rfl (by decide) rfl t234 (Nat.le_of_ble_eq_true rfl) (Nat.le_of_ble_eq_true rfl) rfl ?_
          refine c234_2 (B := B)  y5 1 (by omega) (hJ.up (by omega)) (by omega) (by omega) (by omega) (fun v566 hv566 hFv566 => ?_)
          show X (EE s) d 312 48 [(0, zr 4 44), (1, zi y1), (2, zi y2), (3, zl y3), (5, zi y5)] [zl v566, zl y3] m _
          refine X.goto 52 i312_48 rfl rfl ?_
          refine X.cut [(0, zr 4 44), (1, zi y1), (2, zi y2), (5, zi y5)] i312_52 rfl ?_
          exact hK570 v566 (by first | trivial | omega) (Eq.trans (if_neg h558c) (Eq.trans (zn_eq hFv561.symm) (Eq.trans (if_pos h563c) (Eq.trans (zn_eq hFv566.symm) rfl))))
-- WorkMeterModel.between
noncomputable def f312_1 (a1 a2 : Int) (m : zM) : Int :=
  fl312_5_1 (fun y501 =>
  y501) a1 a2 m (zfu 65) 0 0
-- WorkMeterModel.between
theorem c312_1 {s : Nat × (Nat → Int32)} {S : zS} {m0 m : zM} {B : Int} {d : Nat} {Q : Option zV → zM → Prop} (a1 a2 : Int) (hd : 14 ≤ d) (hJ : J S m0 B m) (hB : B + 0 ≤ 1000000000) (ha1 : (-2147483648) ≤ a1 ∧ a1 ≤ 2147483647) (ha2 : (-2147483648) ≤ a2 ∧ a2 ≤ 2147483647) (hQ : ∀ (v : Int), (True) → f312_1 a1 a2 m = v → Q (some (zl v)) m) : X (EE s) d 312 0 [(0, zr 4 44), (1, zi a1), (2, zi a2)] [] m Q := by
  refine X.lconst (y := 0) 1 i312_0 rfl rfl rfl ?_
  refine X.lstore_n 2 [(0, zr 4 44), (1, zi a1), (2, zi a2), (3, zl 0)] i312_1 rfl rfl rfl ?_
  refine X.iconst 3 i312_2 rfl rfl (by decide) ?_
  refine X.istore 5 [(0, zr 4 44), (1, zi a1), (2, zi a2), (3, zl 0), (5, zi 0)] i312_3 rfl rfl rfl ?_
  have hz65 := zfu_eq 65
  refine l312_5_1 (s := s) (m := m) (B := B) (d := d) (R0 := (f312_1 a1 a2 m))  a1 a2  (by omega) (hJ.up (by omega)) (by omega) (by omega) (by omega) (fun y501 hby501 hR505 => ?_) (zfu 65) 0 0 (by omega) (by omega) rfl
  refine X.lload_n 61 i312_60 rfl rfl rfl ?_
  refine X.retl i312_61 rfl t312 ?_
  exact hQ y501 (by first | trivial | omega) (Eq.trans hR505 rfl) 
-- WorkMeter.log
noncomputable def f190_1 (a1 a2 : Int) (m : zM) : Int :=
  if a1 < 0 then
  ((-1))
  else
  (if (min (m 0 37 1) 40) ≤ a1 then
  ((-1))
  else
  (if a2 < 0 then
  ((-1))
  else
  (if a2 < 3 then
  ((m 0 38 ((((((m 0 37 1) - 1) - a1) % 40) * 3) + a2)))
  else
  ((-1)))))
-- WorkMeter.log
theorem c190_1 {s : Nat × (Nat → Int32)} {S : zS} {m0 m : zM} {B : Int} {d : Nat} {Q : Option zV → zM → Prop} (a1 a2 : Int) (hd : 14 ≤ d) (hJ : J S m0 B m) (hB : B + 0 ≤ 1000000000) (ha1 : (-2147483648) ≤ a1 ∧ a1 ≤ 2147483647) (ha2 : (-2147483648) ≤ a2 ∧ a2 ≤ 2147483647) (hQ : ∀ (v : Int), ((-2147483648) ≤ v ∧ v ≤ 2147483647) → f190_1 a1 a2 m = v → Q (some (zi v)) m) : X (EE s) d 190 0 [(0, zr 4 40), (1, zi a1), (2, zi a2)] [] m Q := by
  refine X.iload_n 1 i190_0 rfl rfl rfl ?_
  refine X.iflt 27 4 i190_1 rfl rfl rfl (fun h501 => ?_) (fun h501 => ?_)
  · refine X.cut [] i190_27 rfl ?_
    refine X.iconst 28 i190_27 rfl rfl (by decide) ?_
    refine X.reti i190_28 rfl t190 ?_
    exact hQ (-1) (by first | trivial | omega) (Eq.trans (if_pos h501) rfl) 
  · refine X.iload_n 5 i190_4 rfl rfl rfl ?_
    refine X.aload_n 6 i190_5 rfl rfl rfl ?_
    refine X.getF 9 i190_6 rfl rfl (by decide) rfl rfl ?_
    refine X.getR 12 i190_9 rfl rfl (by decide) rfl rfl ?_
    refine X.callv 15 [] [zi a1] [(0, zr 0 37)] i190_12 rfl (by decide) rfl rfl (by omega) rfl rfl (by decide) rfl t191 (Nat.le_of_ble_eq_true rfl) (Nat.le_of_ble_eq_true rfl) rfl ?_
    refine X.aload_n 1 i191_0 rfl rfl rfl ?_
    refine X.getI 4 1 i191_1 rfl rfl (by decide) rfl rfl rfl ?_
    have h502 := r37_1 hJ 0
    refine X.bipush 6 i191_4 rfl rfl (by decide) ?_
    refine X.minI 9 i191_6 rfl rfl (by omega) (Nat.le_of_ble_eq_true rfl) ?_
    refine X.reti i191_9 rfl t191 ?_
    show X (EE s) d 190 15 [(0, zr 4 40), (1, zi a1), (2, zi a2)] [zi (min (m 0 37 1) 40), zi a1] m _
    refine X.icmpge 27 18 i190_15 rfl rfl rfl (fun h503 => ?_) (fun h503 => ?_)
    · refine X.cut [] i190_27 rfl ?_
      refine X.iconst 28 i190_27 rfl rfl (by decide) ?_
      refine X.reti i190_28 rfl t190 ?_
      exact hQ (-1) (by first | trivial | omega) (Eq.trans (if_neg h501) (Eq.trans (if_pos h503) rfl)) 
    · refine X.iload_n 19 i190_18 rfl rfl rfl ?_
      refine X.iflt 27 22 i190_19 rfl rfl rfl (fun h504 => ?_) (fun h504 => ?_)
      · refine X.cut [] i190_27 rfl ?_
        refine X.iconst 28 i190_27 rfl rfl (by decide) ?_
        refine X.reti i190_28 rfl t190 ?_
        exact hQ (-1) (by first | trivial | omega) (Eq.trans (if_neg h501) (Eq.trans (if_neg h503) (Eq.trans (if_pos h504) rfl))) 
      · refine X.iload_n 23 i190_22 rfl rfl rfl ?_
        refine X.iconst 24 i190_23 rfl rfl (by decide) ?_
        refine X.icmplt 29 27 i190_24 rfl rfl rfl (fun h505 => ?_) (fun h505 => ?_)
        · refine X.aload_n 30 i190_29 rfl rfl rfl ?_
          refine X.getF 33 i190_30 rfl rfl (by decide) rfl rfl ?_
          refine X.getR 36 i190_33 rfl rfl (by decide) rfl rfl ?_
          refine X.iload_n 37 i190_36 rfl rfl rfl ?_
          refine X.iload_n 38 i190_37 rfl rfl rfl ?_
          refine X.callv 41 [zi a1, zi a2] [] [(0, zr 0 37), (1, zi a1), (2, zi a2)] i190_38 rfl (by decide) rfl rfl (by omega) rfl rfl (by decide) rfl t192 (Nat.le_of_ble_eq_true rfl) (Nat.le_of_ble_eq_true rfl) rfl ?_
          refine X.aload_n 1 i192_0 rfl rfl rfl ?_
          refine X.getR 4 i192_1 rfl rfl (by decide) rfl rfl ?_
          refine X.aload_n 5 i192_4 rfl rfl rfl ?_
          refine X.getI 8 1 i192_5 rfl rfl (by decide) rfl rfl rfl ?_
          refine X.iconst 9 i192_8 rfl rfl (by decide) ?_
          refine X.isub 10 i192_9 rfl rfl (by omega) ?_
          refine X.iload_n 11 i192_10 rfl rfl rfl ?_
          refine X.isub 12 i192_11 rfl rfl (by omega) ?_
          refine X.bipush 14 i192_12 rfl rfl (by decide) ?_
          refine X.irem 15 i192_14 rfl rfl (by omega) ?_
          refine X.iconst 16 i192_15 rfl rfl (by decide) ?_
          refine X.imul 17 i192_16 rfl rfl (by omega) ?_
          refine X.iload_n 18 i192_17 rfl rfl rfl ?_
          refine X.iadd 19 i192_18 rfl rfl (by omega) ?_
          refine X.ialdr 20 i192_19 rfl rfl (by decide) rfl (by omega) (fun h506 => ?_)
          refine X.reti i192_20 rfl t192 ?_
          show X (EE s) d 190 41 [(0, zr 4 40), (1, zi a1), (2, zi a2)] [zi (m 0 38 ((((((m 0 37 1) - 1) - a1) % 40) * 3) + a2))] m _
          refine X.reti i190_41 rfl t190 ?_
          exact hQ (m 0 38 ((((((m 0 37 1) - 1) - a1) % 40) * 3) + a2)) (by first | trivial | omega) (Eq.trans (if_neg h501) (Eq.trans (if_neg h503) (Eq.trans (if_neg h504) (Eq.trans (if_pos h505) rfl)))) 
        · refine X.cut [] i190_27 rfl ?_
          refine X.iconst 28 i190_27 rfl rfl (by decide) ?_
          refine X.reti i190_28 rfl t190 ?_
          exact hQ (-1) (by first | trivial | omega) (Eq.trans (if_neg h501) (Eq.trans (if_neg h503) (Eq.trans (if_neg h504) (Eq.trans (if_neg h505) rfl)))) 
-- WorkMeterModel.log
noncomputable def f313_1 (a1 a2 : Int) (m : zM) : Int :=
  zn (if (m 4 45 16) < 40 then
  ((m 4 45 16))
  else
  (40)) fun v504 =>
  if a1 < 0 then
  ((-1))
  else
  (if a1 ≤ (v504 - 1) then
  (if a2 < 0 then
  ((-1))
  else
  (if a2 ≤ 2 then
  (zn (w32 (m 4 45 ((1487 + (3 * ((v504 - 1) - a1))) + a2))) fun z523 =>
  z523)
  else
  ((-1))))
  else
  ((-1)))
-- WorkMeterModel.log
theorem c313_1 {s : Nat × (Nat → Int32)} {S : zS} {m0 m : zM} {B : Int} {d : Nat} {Q : Option zV → zM → Prop} (a1 a2 : Int) (hd : 13 ≤ d) (hJ : J S m0 B m) (hB : B + 0 ≤ 1000000000) (ha1 : (-2147483648) ≤ a1 ∧ a1 ≤ 2147483647) (ha2 : (-2147483648) ≤ a2 ∧ a2 ≤ 2147483647) (hQ : ∀ (v : Int), ((-2147483648) ≤ v ∧ v ≤ 2147483647) → f313_1 a1 a2 m = v → Q (some (zi v)) m) : X (EE s) d 313 0 [(0, zr 4 44), (1, zi a1), (2, zi a2)] [] m Q := by
  refine X.aload_n 1 i313_0 rfl rfl rfl ?_
  refine X.getF 4 i313_1 rfl rfl (by decide) rfl rfl ?_
  refine X.bipush 6 i313_4 rfl rfl (by decide) ?_
  refine X.lald 7 i313_6 rfl rfl (by decide) rfl (by omega) ?_
  have h501 := r45_16 hJ 4
  refine X.ldc2 10 i313_7 rfl rfl (by decide) ?_
  refine X.lcmp 11 i313_10 rfl rfl (fun z502 hz502 => ?_)
  have hK507 : ∀ (v : Int) , (0 ≤ v ∧ v ≤ 40) → (if (m 4 45 16) < 40 then
      ((m 4 45 16))
      else
      (40)) = v → X (EE s) d 313 27 [(0, zr 4 44), (1, zi a1), (2, zi a2)] [zl v] m Q := by
    intro v504 hv504 hT508
    refine X.l2i 28 i313_27 rfl rfl (by omega) ?_
    refine X.istore_n 29 [(0, zr 4 44), (1, zi a1), (2, zi a2), (3, zi v504)] i313_28 rfl rfl rfl ?_
    refine X.iload_n 30 i313_29 rfl rfl rfl ?_
    refine X.i2l 31 i313_30 rfl rfl ?_
    refine X.lconst (y := 0) 32 i313_31 rfl rfl rfl ?_
    refine X.iload_n 33 i313_32 rfl rfl rfl ?_
    refine X.iconst 34 i313_33 rfl rfl (by decide) ?_
    refine X.isub 35 i313_34 rfl rfl (by omega) ?_
    refine X.i2l 36 i313_35 rfl rfl ?_
    refine X.calls 39 [zl a1, zl 0, zl (v504 - 1)] [] [(0, zl a1), (2, zl 0), (4, zl (v504 - 1))] i313_36 (by decide) rfl rfl (by omega) rfl rfl t204 (Nat.le_of_ble_eq_true rfl) (Nat.le_of_ble_eq_true rfl) rfl ?_
    refine X.lload_n 1 i204_0 rfl rfl rfl ?_
    refine X.lload_n 2 i204_1 rfl rfl rfl ?_
    refine X.lcmp 3 i204_2 rfl rfl (fun z509 hz509 => ?_)
    refine X.iflt 17 6 i204_3 rfl rfl rfl (fun h510 => ?_) (fun h510 => ?_)
    · have h510c : a1 < 0 := by omega
      clear h510 hz509
      refine X.cut [] i204_17 rfl ?_
      refine X.iconst 18 i204_17 rfl rfl (by decide) ?_
      refine X.retz i204_18 rfl t204 (by omega) ?_
      show X (EE s) d 313 39 [(0, zr 4 44), (1, zi a1), (2, zi a2), (3, zi v504)] [zi 0] m _
      refine X.ifeq 76 42 i313_39 rfl rfl rfl (fun h511 => ?_) (fun h511 => (by exfalso; omega))
      refine X.cut [] i313_76 rfl ?_
      refine X.iconst 77 i313_76 rfl rfl (by decide) ?_
      refine X.reti i313_77 rfl t313 ?_
      exact hQ (-1) (by first | trivial | omega) (Eq.trans (zn_eq hT508.symm) (Eq.trans (if_pos h510c) rfl)) 
    · have h510c : ¬ a1 < 0 := by omega
      clear h510 hz509
      refine X.lload_n 7 i204_6 rfl rfl rfl ?_
      refine X.lload 9 i204_7 rfl rfl rfl ?_
      refine X.lcmp 10 i204_9 rfl rfl (fun z512 hz512 => ?_)
      refine X.ifgt 17 13 i204_10 rfl rfl rfl (fun h513 => ?_) (fun h513 => ?_)
      · have h513c : ¬ a1 ≤ (v504 - 1) := by omega
        clear h513 hz512
        refine X.cut [] i204_17 rfl ?_
        refine X.iconst 18 i204_17 rfl rfl (by decide) ?_
        refine X.retz i204_18 rfl t204 (by omega) ?_
        show X (EE s) d 313 39 [(0, zr 4 44), (1, zi a1), (2, zi a2), (3, zi v504)] [zi 0] m _
        refine X.ifeq 76 42 i313_39 rfl rfl rfl (fun h514 => ?_) (fun h514 => (by exfalso; omega))
        refine X.cut [] i313_76 rfl ?_
        refine X.iconst 77 i313_76 rfl rfl (by decide) ?_
        refine X.reti i313_77 rfl t313 ?_
        exact hQ (-1) (by first | trivial | omega) (Eq.trans (zn_eq hT508.symm) (Eq.trans (if_neg h510c) (Eq.trans (if_neg h513c) rfl))) 
      · have h513c : a1 ≤ (v504 - 1) := by omega
        clear h513 hz512
        refine X.iconst 14 i204_13 rfl rfl (by decide) ?_
        refine X.goto 18 i204_14 rfl rfl ?_
        refine X.cut [] i204_18 rfl ?_
        refine X.retz i204_18 rfl t204 (by omega) ?_
        show X (EE s) d 313 39 [(0, zr 4 44), (1, zi a1), (2, zi a2), (3, zi v504)] [zi 1] m _
        refine X.ifeq 76 42 i313_39 rfl rfl rfl (fun h515 => (by exfalso; omega)) (fun h515 => ?_)
        refine X.iload_n 43 i313_42 rfl rfl rfl ?_
        refine X.i2l 44 i313_43 rfl rfl ?_
        refine X.lconst (y := 0) 45 i313_44 rfl rfl rfl ?_
        refine X.ldc2 48 i313_45 rfl rfl (by decide) ?_
        refine X.calls 51 [zl a2, zl 0, zl 2] [] [(0, zl a2), (2, zl 0), (4, zl 2)] i313_48 (by decide) rfl rfl (by omega) rfl rfl t204 (Nat.le_of_ble_eq_true rfl) (Nat.le_of_ble_eq_true rfl) rfl ?_
        refine X.lload_n 1 i204_0 rfl rfl rfl ?_
        refine X.lload_n 2 i204_1 rfl rfl rfl ?_
        refine X.lcmp 3 i204_2 rfl rfl (fun z516 hz516 => ?_)
        refine X.iflt 17 6 i204_3 rfl rfl rfl (fun h517 => ?_) (fun h517 => ?_)
        · have h517c : a2 < 0 := by omega
          clear h517 hz516
          refine X.cut [] i204_17 rfl ?_
          refine X.iconst 18 i204_17 rfl rfl (by decide) ?_
          refine X.retz i204_18 rfl t204 (by omega) ?_
          show X (EE s) d 313 51 [(0, zr 4 44), (1, zi a1), (2, zi a2), (3, zi v504)] [zi 0] m _
          refine X.ifeq 76 54 i313_51 rfl rfl rfl (fun h518 => ?_) (fun h518 => (by exfalso; omega))
          refine X.cut [] i313_76 rfl ?_
          refine X.iconst 77 i313_76 rfl rfl (by decide) ?_
          refine X.reti i313_77 rfl t313 ?_
          exact hQ (-1) (by first | trivial | omega) (Eq.trans (zn_eq hT508.symm) (Eq.trans (if_neg h510c) (Eq.trans (if_pos h513c) (Eq.trans (if_pos h517c) rfl)))) 
        · have h517c : ¬ a2 < 0 := by omega
          clear h517 hz516
          refine X.lload_n 7 i204_6 rfl rfl rfl ?_
          refine X.lload 9 i204_7 rfl rfl rfl ?_
          refine X.lcmp 10 i204_9 rfl rfl (fun z519 hz519 => ?_)
          refine X.ifgt 17 13 i204_10 rfl rfl rfl (fun h520 => ?_) (fun h520 => ?_)
          · have h520c : ¬ a2 ≤ 2 := by omega
            clear h520 hz519
            refine X.cut [] i204_17 rfl ?_
            refine X.iconst 18 i204_17 rfl rfl (by decide) ?_
            refine X.retz i204_18 rfl t204 (by omega) ?_
            show X (EE s) d 313 51 [(0, zr 4 44), (1, zi a1), (2, zi a2), (3, zi v504)] [zi 0] m _
            refine X.ifeq 76 54 i313_51 rfl rfl rfl (fun h521 => ?_) (fun h521 => (by exfalso; omega))
            refine X.cut [] i313_76 rfl ?_
            refine X.iconst 77 i313_76 rfl rfl (by decide) ?_
            refine X.reti i313_77 rfl t313 ?_
            exact hQ (-1) (by first | trivial | omega) (Eq.trans (zn_eq hT508.symm) (Eq.trans (if_neg h510c) (Eq.trans (if_pos h513c) (Eq.trans (if_neg h517c) (Eq.trans (if_neg h520c) rfl))))) 
          · have h520c : a2 ≤ 2 := by omega
            clear h520 hz519
            refine X.iconst 14 i204_13 rfl rfl (by decide) ?_
            refine X.goto 18 i204_14 rfl rfl ?_
            refine X.cut [] i204_18 rfl ?_
            refine X.retz i204_18 rfl t204 (by omega) ?_
            show X (EE s) d 313 51 [(0, zr 4 44), (1, zi a1), (2, zi a2), (3, zi v504)] [zi 1] m _
            refine X.ifeq 76 54 i313_51 rfl rfl rfl (fun h522 => (by exfalso; omega)) (fun h522 => ?_)
            refine X.aload_n 55 i313_54 rfl rfl rfl ?_
            refine X.getF 58 i313_55 rfl rfl (by decide) rfl rfl ?_
            refine X.sipush 61 i313_58 rfl rfl (by decide) ?_
            refine X.iconst 62 i313_61 rfl rfl (by decide) ?_
            refine X.iload_n 63 i313_62 rfl rfl rfl ?_
            refine X.iconst 64 i313_63 rfl rfl (by decide) ?_
            refine X.isub 65 i313_64 rfl rfl (by omega) ?_
            refine X.iload_n 66 i313_65 rfl rfl rfl ?_
            refine X.isub 67 i313_66 rfl rfl (by omega) ?_
            refine X.imul 68 i313_67 rfl rfl (by omega) ?_
            refine X.iadd 69 i313_68 rfl rfl (by omega) ?_
            refine X.iload_n 70 i313_69 rfl rfl rfl ?_
            refine X.iadd 71 i313_70 rfl rfl (by omega) ?_
            refine X.lald 72 i313_71 rfl rfl (by decide) rfl (by omega) ?_
            refine X.l2iW 73 i313_72 rfl rfl (fun z523 ez523 hz523 => ?_)
            refine X.goto 77 i313_73 rfl rfl ?_
            refine X.cut [] i313_77 rfl ?_
            refine X.reti i313_77 rfl t313 ?_
            exact hQ z523 (by first | trivial | omega) (Eq.trans (zn_eq hT508.symm) (Eq.trans (if_neg h510c) (Eq.trans (if_pos h513c) (Eq.trans (if_neg h517c) (Eq.trans (if_pos h520c) (Eq.trans (zn_eq ez523) rfl)))))) 
  refine X.ifge 24 14 i313_11 rfl rfl rfl (fun h503 => ?_) (fun h503 => ?_)
  · have h503c : ¬ (m 4 45 16) < 40 := by omega
    clear h503 hz502
    refine X.ldc2 27 i313_24 rfl rfl (by decide) ?_
    exact hK507 40 (by first | trivial | omega) (Eq.trans (if_neg h503c) rfl)
  · have h503c : (m 4 45 16) < 40 := by omega
    clear h503 hz502
    refine X.aload_n 15 i313_14 rfl rfl rfl ?_
    refine X.getF 18 i313_15 rfl rfl (by decide) rfl rfl ?_
    refine X.bipush 20 i313_18 rfl rfl (by decide) ?_
    refine X.lald 21 i313_20 rfl rfl (by decide) rfl (by omega) ?_
    refine X.goto 27 i313_21 rfl rfl ?_
    exact hK507 (m 4 45 16) (by first | trivial | omega) (Eq.trans (if_pos h503c) rfl)
noncomputable def fl194_17_1_b (self : Int → Int → Int → Int → Int) (k75 : Int → Int → Int → Int) (g0 : Nat) (y1 y2 y3 : Int) (m : zM) (y4 y5 y6 y7 : Int) : Int :=
  if (y3 + (m g0 12 y1)) ≤ y7 then
  (k75 y4 y5 y6)
  else
  (zn (if y6 = y2 then
  (zn (w32 (y4 + ((m g0 13 y7) - y5))) fun z562 =>
  z562)
  else
  (y4)) fun v563 =>
  self v563 (m g0 13 y7) (m g0 14 y7) (y7 + 1))
noncomputable def fl194_17_1 (k75 : Int → Int → Int → Int) (g0 : Nat) (y1 y2 y3 : Int) (m : zM) : Nat → Int → Int → Int → Int → Int
  | 0 => fun y4 y5 y6 y7 => 0
  | n + 1 => fl194_17_1_b (fl194_17_1 k75 g0 y1 y2 y3 m n) k75 g0 y1 y2 y3 m
theorem l194_17_1 {s : Nat × (Nat → Int32)} {S : zS} {m0 : zM} {m : zM} {B : Int} {d : Nat} {Q : Option zV → zM → Prop} {R0 : Int} {k75 : Int → Int → Int → Int} (g0 : Nat) (y1 y2 y3 : Int) (hd : 13 ≤ d) (hJ : J S m0 B m) (hB9 : B ≤ 1000000000) (hy1 : 0 ≤ y1 ∧ y1 ≤ 7) (hy2 : 0 ≤ y2 ∧ y2 ≤ 3) (hy3 : 0 ≤ y3 ∧ y3 ≤ 42)
    (K75 : ∀ (x4 x5 x6 : Int) , ((-2147483648) ≤ x4 ∧ x4 ≤ 2147483647) → (0 ≤ x5 ∧ x5 ≤ 86399) → (0 ≤ x6 ∧ x6 ≤ 3) → R0 = k75 x4 x5 x6 → X (EE s) d 194 75 [(2, zi y2), (4, zi x4), (5, zi x5), (6, zi x6)] [] m Q) :
    ∀ (n : Nat) (y4 y5 y6 y7 : Int) , ((-2147483648) ≤ y4 ∧ y4 ≤ 2147483647) → (0 ≤ y5 ∧ y5 ≤ 86399) → (0 ≤ y6 ∧ y6 ≤ 3) → (0 ≤ y7 ∧ y7 ≤ 48) → 48 - y7 < (n : Int) → R0 = fl194_17_1 k75 g0 y1 y2 y3 m n y4 y5 y6 y7 → X (EE s) d 194 17 [(0, zr g0 11), (1, zi y1), (2, zi y2), (3, zi y3), (4, zi y4), (5, zi y5), (6, zi y6), (7, zi y7)] [] m Q := by
  intro n
  induction n with
  | zero =>
    intro y4 y5 y6 y7 hy4 hy5 hy6 hy7 hn hR
    exfalso
    omega
  | succ n ih =>
    intro y4 y5 y6 y7 hy4 hy5 hy6 hy7 hn hR
    replace hR : R0 = fl194_17_1_b (fl194_17_1 k75 g0 y1 y2 y3 m n) k75 g0 y1 y2 y3 m y4 y5 y6 y7 := hR
    refine X.iload 19 i194_17 rfl rfl rfl ?_
    refine X.iload_n 20 i194_19 rfl rfl rfl ?_
    refine X.aload_n 21 i194_20 rfl rfl rfl ?_
    refine X.getR 24 i194_21 rfl rfl (by decide) rfl rfl ?_
    refine X.iload_n 25 i194_24 rfl rfl rfl ?_
    refine X.iald 26 i194_25 rfl rfl (by decide) rfl (by omega) ?_
    have h558 := r12_0 hJ g0 (i := y1) (by omega)
    refine X.iadd 27 i194_26 rfl rfl (by omega) ?_
    refine X.icmpge 75 30 i194_27 rfl rfl rfl (fun h559 => ?_) (fun h559 => ?_)
    · refine X.cut [(2, zi y2), (4, zi y4), (5, zi y5), (6, zi y6)] i194_75 rfl ?_
      exact K75 y4 y5 y6 (by first | trivial | omega) (by first | trivial | omega) (by first | trivial | omega) (Eq.trans hR (Eq.trans (if_pos h559) rfl))
    · refine X.iload 32 i194_30 rfl rfl rfl ?_
      refine X.iload_n 33 i194_32 rfl rfl rfl ?_
      have hK566 : ∀ (v : Int) , ((-2147483648) ≤ v ∧ v ≤ 2147483647) → (if y6 = y2 then
          (zn (w32 (y4 + ((m g0 13 y7) - y5))) fun z562 =>
          z562)
          else
          (y4)) = v → X (EE s) d 194 51 [(0, zr g0 11), (1, zi y1), (2, zi y2), (3, zi y3), (4, zi v), (7, zi y7)] [] m Q := by
        intro v563 hv563 hT567
        refine X.aload_n 52 i194_51 rfl rfl rfl ?_
        refine X.getR 55 i194_52 rfl rfl (by decide) rfl rfl ?_
        refine X.iload 57 i194_55 rfl rfl rfl ?_
        refine X.iald 58 i194_57 rfl rfl (by decide) rfl (by omega) ?_
        have h568 := r13_0 hJ g0 (i := y7) (by omega)
        refine X.istore 60 [(0, zr g0 11), (1, zi y1), (2, zi y2), (3, zi y3), (4, zi v563), (5, zi (m g0 13 y7)), (7, zi y7)] i194_58 rfl rfl rfl ?_
        refine X.aload_n 61 i194_60 rfl rfl rfl ?_
        refine X.getR 64 i194_61 rfl rfl (by decide) rfl rfl ?_
        refine X.iload 66 i194_64 rfl rfl rfl ?_
        refine X.iald 67 i194_66 rfl rfl (by decide) rfl (by omega) ?_
        have h569 := r14_0 hJ g0 (i := y7) (by omega)
        refine X.istore 69 [(0, zr g0 11), (1, zi y1), (2, zi y2), (3, zi y3), (4, zi v563), (5, zi (m g0 13 y7)), (6, zi (m g0 14 y7)), (7, zi y7)] i194_67 rfl rfl rfl ?_
        refine X.iinc 72 [(0, zr g0 11), (1, zi y1), (2, zi y2), (3, zi y3), (4, zi v563), (5, zi (m g0 13 y7)), (6, zi (m g0 14 y7)), (7, zi (y7 + 1))] i194_69 rfl rfl rfl (by omega) rfl ?_
        refine X.goto 17 i194_72 rfl rfl ?_
        exact ih v563 (m g0 13 y7) (m g0 14 y7) (y7 + 1) (by omega) (by omega) (by omega) (by omega) (by omega) (Eq.trans hR (Eq.trans (if_neg h559) (Eq.trans (zn_eq hT567.symm) rfl)))
      refine X.icmpne 51 36 i194_33 rfl rfl rfl (fun h560 => ?_) (fun h560 => ?_)
      · refine X.cut [(0, zr g0 11), (1, zi y1), (2, zi y2), (3, zi y3), (4, zi y4), (7, zi y7)] i194_51 rfl ?_
        exact hK566 y4 (by first | trivial | omega) (Eq.trans (if_neg h560) rfl)
      · refine X.iload 38 i194_36 rfl rfl rfl ?_
        refine X.aload_n 39 i194_38 rfl rfl rfl ?_
        refine X.getR 42 i194_39 rfl rfl (by decide) rfl rfl ?_
        refine X.iload 44 i194_42 rfl rfl rfl ?_
        refine X.iald 45 i194_44 rfl rfl (by decide) rfl (by omega) ?_
        have h561 := r13_0 hJ g0 (i := y7) (by omega)
        refine X.iload 47 i194_45 rfl rfl rfl ?_
        refine X.isub 48 i194_47 rfl rfl (by omega) ?_
        refine X.iaddW 49 i194_48 rfl rfl (fun z562 ez562 hz562 => ?_)
        refine X.istore 51 [(0, zr g0 11), (1, zi y1), (2, zi y2), (3, zi y3), (4, zi z562), (5, zi y5), (6, zi y6), (7, zi y7)] i194_49 rfl rfl rfl ?_
        refine X.cut [(0, zr g0 11), (1, zi y1), (2, zi y2), (3, zi y3), (4, zi z562), (7, zi y7)] i194_51 rfl ?_
        exact hK566 z562 (by first | trivial | omega) (Eq.trans (if_pos h560) (Eq.trans (zn_eq ez562) rfl))
-- WorkMeter$Calendar.secondsHeld
noncomputable def f194_1 (g0 : Nat) (a1 a2 : Int) (m : zM) : Int :=
  fl194_17_1 (fun y501 y502 y503 =>
  zn (if y503 = a2 then
  (zn (w32 (y501 + 86400)) fun z509 =>
  zn (w32 (z509 - y502)) fun z510 =>
  z510)
  else
  (y501)) fun v511 =>
  v511) g0 a1 a2 (a1 * 6) m (zfu 49) 0 0 0 (a1 * 6)
-- WorkMeter$Calendar.secondsHeld
theorem c194_1 {s : Nat × (Nat → Int32)} {S : zS} {m0 m : zM} {B : Int} {d : Nat} {Q : Option zV → zM → Prop} (g0 : Nat) (a1 a2 : Int) (hd : 13 ≤ d) (hJ : J S m0 B m) (hB : B + 0 ≤ 1000000000) (ha1 : 0 ≤ a1 ∧ a1 ≤ 7) (ha2 : 0 ≤ a2 ∧ a2 ≤ 3) (hQ : ∀ (v : Int), ((-2147483648) ≤ v ∧ v ≤ 2147483647) → f194_1 g0 a1 a2 m = v → Q (some (zi v)) m) : X (EE s) d 194 0 [(0, zr g0 11), (1, zi a1), (2, zi a2)] [] m Q := by
  refine X.iload_n 1 i194_0 rfl rfl rfl ?_
  refine X.bipush 3 i194_1 rfl rfl (by decide) ?_
  refine X.imul 4 i194_3 rfl rfl (by omega) ?_
  refine X.istore_n 5 [(0, zr g0 11), (1, zi a1), (2, zi a2), (3, zi (a1 * 6))] i194_4 rfl rfl rfl ?_
  refine X.iconst 6 i194_5 rfl rfl (by decide) ?_
  refine X.istore 8 [(0, zr g0 11), (1, zi a1), (2, zi a2), (3, zi (a1 * 6)), (4, zi 0)] i194_6 rfl rfl rfl ?_
  refine X.iconst 9 i194_8 rfl rfl (by decide) ?_
  refine X.istore 11 [(0, zr g0 11), (1, zi a1), (2, zi a2), (3, zi (a1 * 6)), (4, zi 0), (5, zi 0)] i194_9 rfl rfl rfl ?_
  refine X.iconst 12 i194_11 rfl rfl (by decide) ?_
  refine X.istore 14 [(0, zr g0 11), (1, zi a1), (2, zi a2), (3, zi (a1 * 6)), (4, zi 0), (5, zi 0), (6, zi 0)] i194_12 rfl rfl rfl ?_
  refine X.iload_n 15 i194_14 rfl rfl rfl ?_
  refine X.istore 17 [(0, zr g0 11), (1, zi a1), (2, zi a2), (3, zi (a1 * 6)), (4, zi 0), (5, zi 0), (6, zi 0), (7, zi (a1 * 6))] i194_15 rfl rfl rfl ?_
  have hz49 := zfu_eq 49
  refine l194_17_1 (s := s) (m := m) (B := B) (d := d) (R0 := (f194_1 g0 a1 a2 m)) g0 a1 a2 (a1 * 6)  (by omega) (hJ.up (by omega)) (by omega) (by omega) (by omega) (by omega) (fun y501 y502 y503 hby501 hby502 hby503 hR507 => ?_) (zfu 49) 0 0 0 (a1 * 6) (by omega) (by omega) (by omega) (by omega) (by omega) rfl
  refine X.iload 77 i194_75 rfl rfl rfl ?_
  refine X.iload_n 78 i194_77 rfl rfl rfl ?_
  have hK514 : ∀ (v : Int) , ((-2147483648) ≤ v ∧ v ≤ 2147483647) → (if y503 = a2 then
      (zn (w32 (y501 + 86400)) fun z509 =>
      zn (w32 (z509 - y502)) fun z510 =>
      z510)
      else
      (y501)) = v → X (EE s) d 194 94 [] [zi v] m Q := by
    intro v511 hv511 hT515
    refine X.reti i194_94 rfl t194 ?_
    exact hQ v511 (by first | trivial | omega) (Eq.trans hR507 (Eq.trans (zn_eq hT515.symm) rfl)) 
  refine X.icmpne 92 81 i194_78 rfl rfl rfl (fun h508 => ?_) (fun h508 => ?_)
  · refine X.cut [(4, zi y501)] i194_92 rfl ?_
    refine X.iload 94 i194_92 rfl rfl rfl ?_
    refine X.cut [] i194_94 rfl ?_
    exact hK514 y501 (by first | trivial | omega) (Eq.trans (if_neg h508) rfl)
  · refine X.iload 83 i194_81 rfl rfl rfl ?_
    refine X.ldc 85 i194_83 rfl rfl (by decide) ?_
    refine X.iaddW 86 i194_85 rfl rfl (fun z509 ez509 hz509 => ?_)
    refine X.iload 88 i194_86 rfl rfl rfl ?_
    refine X.isubW 89 i194_88 rfl rfl (fun z510 ez510 hz510 => ?_)
    refine X.goto 94 i194_89 rfl rfl ?_
    refine X.cut [] i194_94 rfl ?_
    exact hK514 z510 (by first | trivial | omega) (Eq.trans (if_pos h508) (Eq.trans (zn_eq ez509) (Eq.trans (zn_eq ez510) rfl)))
-- WorkMeter.holds
noncomputable def f193_1 (a1 a2 : Int) (m : zM) : Int :=
  if a1 < 0 then
  ((-1))
  else
  (if 23148 < a1 then
  ((-1))
  else
  (if a2 < 0 then
  ((-1))
  else
  (if 4 ≤ a2 then
  ((-1))
  else
  (zn (f28_1 0 a1 m) fun v513 =>
  zn (f194_1 0 v513 a2 m) fun v516 =>
  v516))))
-- WorkMeter.holds
theorem c193_1 {s : Nat × (Nat → Int32)} {S : zS} {m0 m : zM} {B : Int} {d : Nat} {Q : Option zV → zM → Prop} (a1 a2 : Int) (hd : 15 ≤ d) (hJ : J S m0 B m) (hB : B + 0 ≤ 1000000000) (ha1 : (-2147483648) ≤ a1 ∧ a1 ≤ 2147483647) (ha2 : (-2147483648) ≤ a2 ∧ a2 ≤ 2147483647) (hQ : ∀ (v : Int), ((-2147483648) ≤ v ∧ v ≤ 2147483647) → f193_1 a1 a2 m = v → Q (some (zi v)) m) : X (EE s) d 193 0 [(0, zr 4 40), (1, zi a1), (2, zi a2)] [] m Q := by
  refine X.iload_n 1 i193_0 rfl rfl rfl ?_
  refine X.calls 4 [zi a1] [] [(0, zi a1)] i193_1 (by decide) rfl rfl (by omega) rfl rfl t150 (Nat.le_of_ble_eq_true rfl) (Nat.le_of_ble_eq_true rfl) rfl ?_
  refine X.iload_n 1 i150_0 rfl rfl rfl ?_
  refine X.iflt 15 4 i150_1 rfl rfl rfl (fun h501 => ?_) (fun h501 => ?_)
  · refine X.cut [] i150_15 rfl ?_
    refine X.iconst 16 i150_15 rfl rfl (by decide) ?_
    refine X.retz i150_16 rfl t150 (by omega) ?_
    show X (EE s) d 193 4 [(0, zr 4 40), (1, zi a1), (2, zi a2)] [zi 0] m _
    refine X.ifeq 14 7 i193_4 rfl rfl rfl (fun h502 => ?_) (fun h502 => (by exfalso; omega))
    refine X.cut [] i193_14 rfl ?_
    refine X.iconst 15 i193_14 rfl rfl (by decide) ?_
    refine X.reti i193_15 rfl t193 ?_
    exact hQ (-1) (by first | trivial | omega) (Eq.trans (if_pos h501) rfl) 
  · refine X.iload_n 5 i150_4 rfl rfl rfl ?_
    refine X.sipush 8 i150_5 rfl rfl (by decide) ?_
    refine X.icmpgt 15 11 i150_8 rfl rfl rfl (fun h503 => ?_) (fun h503 => ?_)
    · refine X.cut [] i150_15 rfl ?_
      refine X.iconst 16 i150_15 rfl rfl (by decide) ?_
      refine X.retz i150_16 rfl t150 (by omega) ?_
      show X (EE s) d 193 4 [(0, zr 4 40), (1, zi a1), (2, zi a2)] [zi 0] m _
      refine X.ifeq 14 7 i193_4 rfl rfl rfl (fun h504 => ?_) (fun h504 => (by exfalso; omega))
      refine X.cut [] i193_14 rfl ?_
      refine X.iconst 15 i193_14 rfl rfl (by decide) ?_
      refine X.reti i193_15 rfl t193 ?_
      exact hQ (-1) (by first | trivial | omega) (Eq.trans (if_neg h501) (Eq.trans (if_pos h503) rfl)) 
    · refine X.iconst 12 i150_11 rfl rfl (by decide) ?_
      refine X.goto 16 i150_12 rfl rfl ?_
      refine X.cut [] i150_16 rfl ?_
      refine X.retz i150_16 rfl t150 (by omega) ?_
      show X (EE s) d 193 4 [(0, zr 4 40), (1, zi a1), (2, zi a2)] [zi 1] m _
      refine X.ifeq 14 7 i193_4 rfl rfl rfl (fun h505 => (by exfalso; omega)) (fun h505 => ?_)
      refine X.iload_n 8 i193_7 rfl rfl rfl ?_
      refine X.calls 11 [zi a2] [] [(0, zi a2)] i193_8 (by decide) rfl rfl (by omega) rfl rfl t80 (Nat.le_of_ble_eq_true rfl) (Nat.le_of_ble_eq_true rfl) rfl ?_
      refine X.iload_n 1 i80_0 rfl rfl rfl ?_
      refine X.iflt 13 4 i80_1 rfl rfl rfl (fun h506 => ?_) (fun h506 => ?_)
      · refine X.cut [] i80_13 rfl ?_
        refine X.iconst 14 i80_13 rfl rfl (by decide) ?_
        refine X.retz i80_14 rfl t80 (by omega) ?_
        show X (EE s) d 193 11 [(0, zr 4 40), (1, zi a1), (2, zi a2)] [zi 0] m _
        refine X.ifne 16 14 i193_11 rfl rfl rfl (fun h507 => (by exfalso; omega)) (fun h507 => ?_)
        refine X.cut [] i193_14 rfl ?_
        refine X.iconst 15 i193_14 rfl rfl (by decide) ?_
        refine X.reti i193_15 rfl t193 ?_
        exact hQ (-1) (by first | trivial | omega) (Eq.trans (if_neg h501) (Eq.trans (if_neg h503) (Eq.trans (if_pos h506) rfl))) 
      · refine X.iload_n 5 i80_4 rfl rfl rfl ?_
        refine X.iconst 6 i80_5 rfl rfl (by decide) ?_
        refine X.icmpge 13 9 i80_6 rfl rfl rfl (fun h508 => ?_) (fun h508 => ?_)
        · refine X.cut [] i80_13 rfl ?_
          refine X.iconst 14 i80_13 rfl rfl (by decide) ?_
          refine X.retz i80_14 rfl t80 (by omega) ?_
          show X (EE s) d 193 11 [(0, zr 4 40), (1, zi a1), (2, zi a2)] [zi 0] m _
          refine X.ifne 16 14 i193_11 rfl rfl rfl (fun h509 => (by exfalso; omega)) (fun h509 => ?_)
          refine X.cut [] i193_14 rfl ?_
          refine X.iconst 15 i193_14 rfl rfl (by decide) ?_
          refine X.reti i193_15 rfl t193 ?_
          exact hQ (-1) (by first | trivial | omega) (Eq.trans (if_neg h501) (Eq.trans (if_neg h503) (Eq.trans (if_neg h506) (Eq.trans (if_pos h508) rfl)))) 
        · refine X.iconst 10 i80_9 rfl rfl (by decide) ?_
          refine X.goto 14 i80_10 rfl rfl ?_
          refine X.cut [] i80_14 rfl ?_
          refine X.retz i80_14 rfl t80 (by omega) ?_
          show X (EE s) d 193 11 [(0, zr 4 40), (1, zi a1), (2, zi a2)] [zi 1] m _
          refine X.ifne 16 14 i193_11 rfl rfl rfl (fun h510 => ?_) (fun h510 => (by exfalso; omega))
          refine X.aload_n 17 i193_16 rfl rfl rfl ?_
          refine X.getF 20 i193_17 rfl rfl (by decide) rfl rfl ?_
          refine X.getR 23 i193_20 rfl rfl (by decide) rfl rfl ?_
          refine X.aload_n 24 i193_23 rfl rfl rfl ?_
          refine X.getF 27 i193_24 rfl rfl (by decide) rfl rfl ?_
          refine X.getR 30 i193_27 rfl rfl (by decide) rfl rfl ?_
          refine X.iload_n 31 i193_30 rfl rfl rfl ?_
          refine X.callv 34 [zi a1] [zr 0 11] [(0, zr 0 11), (1, zi a1)] i193_31 rfl (by decide) rfl rfl (by omega) rfl rfl (by decide) rfl t28 (Nat.le_of_ble_eq_true rfl) (Nat.le_of_ble_eq_true rfl) rfl ?_
          refine c28_1 (B := B) 0 a1 (by omega) (hJ.up (by omega)) (by omega) (by omega) (fun v513 hv513 hFv513 => ?_)
          show X (EE s) d 193 34 [(0, zr 4 40), (1, zi a1), (2, zi a2)] [zi v513, zr 0 11] m _
          refine X.iload_n 35 i193_34 rfl rfl rfl ?_
          refine X.callv 38 [zi v513, zi a2] [] [(0, zr 0 11), (1, zi v513), (2, zi a2)] i193_35 rfl (by decide) rfl rfl (by omega) rfl rfl (by decide) rfl t194 (Nat.le_of_ble_eq_true rfl) (Nat.le_of_ble_eq_true rfl) rfl ?_
          refine c194_1 (B := B) 0 v513 a2 (by omega) (hJ.up (by omega)) (by omega) (by omega) (by omega) (fun v516 hv516 hFv516 => ?_)
          show X (EE s) d 193 38 [(0, zr 4 40), (1, zi a1), (2, zi a2)] [zi v516] m _
          refine X.reti i193_38 rfl t193 ?_
          exact hQ v516 (by first | trivial | omega) (Eq.trans (if_neg h501) (Eq.trans (if_neg h503) (Eq.trans (if_neg h506) (Eq.trans (if_neg h508) (Eq.trans (zn_eq hFv513.symm) (Eq.trans (zn_eq hFv516.symm) rfl)))))) 
noncomputable def fl253_52_1_b (self : Int → Int → Int → Int → Int) (k146 : Int → Int) (y2 y3 y4 : Int) (m : zM) (y5 y6 y7 y8 : Int) : Int :=
  if y4 < y8 then
  (k146 y5)
  else
  (zn (if y4 ≤ y8 then
  (86400)
  else
  ((m 4 45 ((295 + (6 * y3)) + y8)))) fun v610 =>
  zn (if y6 = y2 then
  ((v610 - y7))
  else
  (0)) fun v616 =>
  zn (w32 (y5 + v616)) fun z621 =>
  zn (if y4 ≤ y8 then
  (y6)
  else
  ((m 4 45 ((343 + (6 * y3)) + y8)))) fun v624 =>
  self z621 v624 v610 (y8 + 1))
noncomputable def fl253_52_1 (k146 : Int → Int) (y2 y3 y4 : Int) (m : zM) : Nat → Int → Int → Int → Int → Int
  | 0 => fun y5 y6 y7 y8 => 0
  | n + 1 => fl253_52_1_b (fl253_52_1 k146 y2 y3 y4 m n) k146 y2 y3 y4 m
