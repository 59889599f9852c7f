section
-- WorkMeter$Meter.settleSwitch
theorem c53_1 {s : Nat × (Nat → Int32)} {S : zS} {m0 m : zM} {B : Int} {d : Nat} {Q : Option zV → zM → Prop} (g0 : Nat) (hd : 15 ≤ d) (hJ : J S m0 B m) (hB : B + 1 ≤ 1000000000) (hf6 : ¬ S.1 6) (hf12 : ¬ S.1 12) (hgg0 : ¬ S.2.1 g0) (hQ : ∀ m', f53_1 g0 m = m' → J S m0 (B + 1) m' → Q none m') : X (EE s) d 53 0 [(0, zr g0 8)] [] m Q := by
  refine X.aload_n 1 (zi53 0) rfl rfl rfl ?_
  refine X.getZ 4 11 (zi53 1) rfl rfl (by decide) rfl rfl rfl (fun h501 => ?_)
  have hK508 : ∀ (v : Int) , (0 ≤ v ∧ v ≤ 1) → (if (m g0 8 11) = 0 then
      (0)
      else
      (if (m g0 8 10) ≤ 0 then
      (1)
      else
      (0))) = v → X (EE s) d 53 21 [(0, zr g0 8)] [zi v] m Q := by
    intro v505 hv505 hT509
    refine X.istore_n 22 [(0, zr g0 8), (1, zi v505)] (zi53 21) rfl rfl rfl ?_
    refine X.iload_n 23 (zi53 22) rfl rfl rfl ?_
    refine X.aload_n 24 (zi53 23) rfl rfl rfl ?_
    refine X.getZ 27 12 (zi53 24) rfl rfl (by decide) rfl rfl rfl (fun h510 => ?_)
    have hK527 : ∀ (m' : zM), (if v505 = (m g0 8 12) then
        (m)
        else
        (zs (z_upd m g0 8 12 v505) fun m512 =>
        zn (if (m512 g0 8 12) = 0 then
        (23)
        else
        (22)) fun v516 =>
        zs (f54_1 g0 v516 0 m512) fun m521 =>
        m521)) = m' → J S m0 (B + 1) m' → X (EE s) d 53 54 [] [] m' Q := by
      intro m525 hT528 hJ526
      refine X.retv (zi53 54) rfl t53 ?_
      exact hQ  m525  (Eq.trans (zn_eq hT509.symm) (Eq.trans (zs_eq hT528.symm) rfl)) (hJ526.up (by omega)) 
    refine X.icmpeq 54 30 (zi53 27) rfl rfl rfl (fun h511 => ?_) (fun h511 => ?_)
    · refine X.cut [] (zi53 54) rfl ?_
      exact hK527 m (Eq.trans (if_pos h511) rfl) (hJ.up (by omega))
    · refine X.aload_n 31 (zi53 30) rfl rfl rfl ?_
      refine X.iload_n 32 (zi53 31) rfl rfl rfl ?_
      refine X.putZ' 35 12 (zi53 32) rfl rfl (by decide) rfl rfl rfl (by omega) (fun hrm512 m512 hm512 => ?_)
      have hJ513 := w8_12 hJ hm512 (by omega) hf12 hgg0
      refine X.aload_n 36 (zi53 35) rfl rfl rfl ?_
      refine X.aload_n 37 (zi53 36) rfl rfl rfl ?_
      refine X.getZ 40 12 (zi53 37) rfl rfl (by decide) rfl rfl rfl (fun h514 => ?_)
      have hK519 : ∀ (v : Int) , (22 ≤ v ∧ v ≤ 23) → (if (m512 g0 8 12) = 0 then
          (23)
          else
          (22)) = v → X (EE s) d 53 50 [] [zi v, zr g0 8] m512 Q := by
        intro v516 hv516 hT520
        refine X.iconst 51 (zi53 50) rfl rfl (by decide) ?_
        refine X.callv 54 [zi v516, zi 0] [] [(0, zr g0 8), (1, zi v516), (2, zi 0)] (zi53 51) rfl (by decide) rfl rfl (by omega) rfl rfl (by decide) rfl t54 (Nat.le_of_ble_eq_true rfl) (Nat.le_of_ble_eq_true rfl) rfl ?_
        refine c54_1 (B := B) g0 v516 0 (by omega) (hJ513.up (by omega)) (by omega) (by omega) (by omega) hf6 hgg0 (fun m521 hFv523 hJ522 => ?_)
        show X (EE s) d 53 54 [] [] m521 _
        exact hK527 m521 (Eq.trans (if_neg h511) (Eq.trans (zs_eq hm512) (Eq.trans (zn_eq hT520.symm) (Eq.trans (zs_eq hFv523.symm) rfl)))) (hJ522.up (by omega))
      refine X.ifeq 48 43 (zi53 40) rfl rfl rfl (fun h515 => ?_) (fun h515 => ?_)
      · refine X.cut [] (zi53 48) rfl ?_
        refine X.bipush 50 (zi53 48) rfl rfl (by decide) ?_
        exact hK519 23 (by first | trivial | omega) (Eq.trans (if_pos h515) rfl)
      · refine X.bipush 45 (zi53 43) rfl rfl (by decide) ?_
        refine X.goto 50 (zi53 45) rfl rfl ?_
        refine X.cut [] (zi53 50) rfl ?_
        exact hK519 22 (by first | trivial | omega) (Eq.trans (if_neg h515) rfl)
  refine X.ifeq 20 7 (zi53 4) rfl rfl rfl (fun h502 => ?_) (fun h502 => ?_)
  · refine X.iconst 21 (zi53 20) rfl rfl (by decide) ?_
    exact hK508 0 (by first | trivial | omega) (Eq.trans (if_pos h502) rfl)
  · refine X.aload_n 8 (zi53 7) rfl rfl rfl ?_
    refine X.getL 11 10 (zi53 8) rfl rfl (by decide) rfl rfl rfl ?_
    refine X.lconst (y := 0) 12 (zi53 11) rfl rfl rfl ?_
    refine X.lcmp 13 (zi53 12) rfl rfl (fun z503 hz503 => ?_)
    refine X.ifgt 20 16 (zi53 13) rfl rfl rfl (fun h504 => ?_) (fun h504 => ?_)
    · have h504c : ¬ (m g0 8 10) ≤ 0 := by omega
      clear h504 hz503
      refine X.iconst 21 (zi53 20) rfl rfl (by decide) ?_
      exact hK508 0 (by first | trivial | omega) (Eq.trans (if_neg h502) (Eq.trans (if_neg h504c) rfl))
    · have h504c : (m g0 8 10) ≤ 0 := by omega
      clear h504 hz503
      refine X.iconst 17 (zi53 16) rfl rfl (by decide) ?_
      refine X.goto 21 (zi53 17) rfl rfl ?_
      exact hK508 1 (by first | trivial | omega) (Eq.trans (if_neg h502) (Eq.trans (if_pos h504c) rfl))
-- WorkMeter$Marks.isOn
theorem c40_2 {s : Nat × (Nat → Int32)} {S : zS} {m0 m : zM} {B : Int} {d : Nat} {Q : Option zV → zM → Prop} (g0 : Nat) (a1 : Int) (hd : 13 ≤ d) (hJ : J S m0 B m) (hB : B + 0 ≤ 1000000000) (ha1 : 0 ≤ a1 ∧ a1 ≤ 4) (hQ : ∀ (v : Int), (0 ≤ v ∧ v ≤ 1) → f40_1 g0 a1 m = v → Q (some (zi v)) m) : X (EE s) d 40 0 [(0, zr g0 33), (1, zi a1)] [] m Q := by
  refine X.aload_n 1 (zi40 0) rfl rfl rfl ?_
  refine X.getIr 4 3 (zi40 1) rfl rfl (by decide) rfl rfl rfl (fun h501 => ?_)
  refine X.iload_n 5 (zi40 4) rfl rfl rfl ?_
  refine X.iiE 6 .ishr (fun x y => x >>> (y &&& 31)) (zi40 5) rfl rfl rfl (fun _ _ => rfl) (fun z502 ez502 hz502 => ?_)
  refine X.iconst 7 (zi40 6) rfl rfl (by decide) ?_
  refine X.andE 8 1 (zi40 7) rfl rfl (by decide) (.inl rfl) (fun z503 ez503 hz503 => ?_)
  refine X.iconst 9 (zi40 8) rfl rfl (by decide) ?_
  have hK508 : ∀ (v : Int) , (0 ≤ v ∧ v ≤ 1) → (if z503 = 1 then
      (1)
      else
      (0)) = v → X (EE s) d 40 17 [] [zi v] m Q := by
    intro v505 hv505 hT509
    refine X.retz (zi40 17) rfl t40 (by omega) ?_
    exact hQ v505 (by first | trivial | omega) (Eq.trans (zn_eq ez502) (Eq.trans (zn_eq ez503) (Eq.trans (zn_eq hT509.symm) rfl))) 
  refine X.icmpne 16 12 (zi40 9) rfl rfl rfl (fun h504 => ?_) (fun h504 => ?_)
  · refine X.cut [] (zi40 16) rfl ?_
    refine X.iconst 17 (zi40 16) rfl rfl (by decide) ?_
    exact hK508 0 (by first | trivial | omega) (Eq.trans (if_neg h504) rfl)
  · refine X.iconst 13 (zi40 12) rfl rfl (by decide) ?_
    refine X.goto 17 (zi40 13) rfl rfl ?_
    refine X.cut [] (zi40 17) rfl ?_
    exact hK508 1 (by first | trivial | omega) (Eq.trans (if_pos h504) rfl)
-- WorkMeter$Marks.turn
noncomputable def f57_1 (g0 g3 : Nat) (a1 a2 a4 : Int) (m : zM) : zM :=
  zs (if a2 = 0 then
  (zn (zshl 1 a1) fun z503 =>
  zn (zxor z503 (-1)) fun z504 =>
  zn (zand (m g0 33 3) z504) fun z505 =>
  zs (z_upd m g0 33 3 z505) fun m506 =>
  zs (f55_1 g3 a4 (a1 + 10) 0 m506) fun m508 =>
  m508)
  else
  (zn (zshl 1 a1) fun z512 =>
  zn (zor (m g0 33 3) z512) fun z513 =>
  zs (z_upd m g0 33 3 z513) fun m514 =>
  zn (w32 ((m514 g0 34 a1) + 1)) fun z517 =>
  zs (z_upd m514 g0 34 a1 z517) fun m518 =>
  zs (f55_1 g3 a4 a1 0 m518) fun m520 =>
  m520)) fun m524 =>
  m524
-- WorkMeter$Marks.turn
theorem c57_1 {s : Nat × (Nat → Int32)} {S : zS} {m0 m : zM} {B : Int} {d : Nat} {Q : Option zV → zM → Prop} (g0 g3 : Nat) (a1 a2 a4 : Int) (hd : 14 ≤ d) (hJ : J S m0 B m) (hB : B + 1 ≤ 1000000000) (ha1 : 0 ≤ a1 ∧ a1 ≤ 4) (ha2 : 0 ≤ a2 ∧ a2 ≤ 1) (ha4 : (-2147483648) ≤ a4 ∧ a4 ≤ 2147483647) (hf6 : ¬ S.1 6) (hf9 : ¬ S.1 9) (hgg0 : ¬ S.2.1 g0) (hgg3 : ¬ S.2.1 g3) (hQ : ∀ m', f57_1 g0 g3 a1 a2 a4 m = m' → J S m0 (B + 1) m' → Q none m') : X (EE s) d 57 0 [(0, zr g0 33), (1, zi a1), (2, zi a2), (3, zr g3 37), (4, zi a4)] [] m Q := by
  refine X.iload_n 1 (zi57 0) rfl rfl rfl ?_
  have hK526 : ∀ (m' : zM), (if a2 = 0 then
      (zn (zshl 1 a1) fun z503 =>
      zn (zxor z503 (-1)) fun z504 =>
      zn (zand (m g0 33 3) z504) fun z505 =>
      zs (z_upd m g0 33 3 z505) fun m506 =>
      zs (f55_1 g3 a4 (a1 + 10) 0 m506) fun m508 =>
      m508)
      else
      (zn (zshl 1 a1) fun z512 =>
      zn (zor (m g0 33 3) z512) fun z513 =>
      zs (z_upd m g0 33 3 z513) fun m514 =>
      zn (w32 ((m514 g0 34 a1) + 1)) fun z517 =>
      zs (z_upd m514 g0 34 a1 z517) fun m518 =>
      zs (f55_1 g3 a4 a1 0 m518) fun m520 =>
      m520)) = m' → J S m0 (B + 1) m' → X (EE s) d 57 62 [] [] m' Q := by
    intro m524 hT527 hJ525
    refine X.retv (zi57 62) rfl t57 ?_
    exact hQ  m524  (Eq.trans (zs_eq hT527.symm) rfl) (hJ525.up (by omega)) 
  refine X.ifeq 37 4 (zi57 1) rfl rfl rfl (fun h501 => ?_) (fun h501 => ?_)
  · refine X.cut [(0, zr g0 33), (1, zi a1), (3, zr g3 37), (4, zi a4)] (zi57 37) rfl ?_
    refine X.aload_n 38 (zi57 37) rfl rfl rfl ?_
    refine X.dup 39 (zi57 38) rfl rfl rfl ?_
    refine X.getIr 42 3 (zi57 39) rfl rfl (by decide) rfl rfl rfl (fun h502 => ?_)
    refine X.iconst 43 (zi57 42) rfl rfl (by decide) ?_
    refine X.iload_n 44 (zi57 43) rfl rfl rfl ?_
    refine X.iiE 45 .ishl (fun x y => x <<< (y &&& 31)) (zi57 44) rfl rfl rfl (fun _ _ => rfl) (fun z503 ez503 hz503 => ?_)
    refine X.iconst 46 (zi57 45) rfl rfl (by decide) ?_
    refine X.iiE 47 .ixor (fun x y => x ^^^ y) (zi57 46) rfl rfl rfl (fun _ _ => rfl) (fun z504 ez504 hz504 => ?_)
    refine X.iiE 48 .iand (fun x y => x &&& y) (zi57 47) rfl rfl rfl (fun _ _ => rfl) (fun z505 ez505 hz505 => ?_)
    refine X.putI' 51 3 (zi57 48) rfl rfl (by decide) rfl rfl rfl (fun hrm506 m506 hm506 => ?_)
    have hJ507 := w33_0 hJ hm506 (by omega) hrm506 hf9 hgg0
    refine X.aload_n 52 (zi57 51) rfl rfl rfl ?_
    refine X.iload 54 (zi57 52) rfl rfl rfl ?_
    refine X.iload_n 55 (zi57 54) rfl rfl rfl ?_
    refine X.bipush 57 (zi57 55) rfl rfl (by decide) ?_
    refine X.iadd 58 (zi57 57) rfl rfl (by omega) ?_
    refine X.iconst 59 (zi57 58) rfl rfl (by decide) ?_
    refine X.callv 62 [zi a4, zi (a1 + 10), zi 0] [] [(0, zr g3 37), (1, zi a4), (2, zi (a1 + 10)), (3, zi 0)] (zi57 59) rfl (by decide) rfl rfl (by omega) rfl rfl (by decide) rfl t55 (Nat.le_of_ble_eq_true rfl) (Nat.le_of_ble_eq_true rfl) rfl ?_
    refine c55_1 (B := B) g3 a4 (a1 + 10) 0 (by omega) (hJ507.up (by omega)) (by omega) (by omega) (by omega) (by omega) hf6 hgg3 (fun m508 hFv510 hJ509 => ?_)
    show X (EE s) d 57 62 [(0, zr g0 33), (1, zi a1), (3, zr g3 37), (4, zi a4)] [] m508 _
    refine X.cut [] (zi57 62) rfl ?_
    exact hK526 m508 (Eq.trans (if_pos h501) (Eq.trans (zn_eq ez503) (Eq.trans (zn_eq ez504) (Eq.trans (zn_eq ez505) (Eq.trans (zs_eq hm506) (Eq.trans (zs_eq hFv510.symm) rfl)))))) (hJ509.up (by omega))
  · refine X.aload_n 5 (zi57 4) rfl rfl rfl ?_
    refine X.dup 6 (zi57 5) rfl rfl rfl ?_
    refine X.getIr 9 3 (zi57 6) rfl rfl (by decide) rfl rfl rfl (fun h511 => ?_)
    refine X.iconst 10 (zi57 9) rfl rfl (by decide) ?_
    refine X.iload_n 11 (zi57 10) rfl rfl rfl ?_
    refine X.iiE 12 .ishl (fun x y => x <<< (y &&& 31)) (zi57 11) rfl rfl rfl (fun _ _ => rfl) (fun z512 ez512 hz512 => ?_)
    refine X.iiE 13 .ior (fun x y => x ||| y) (zi57 12) rfl rfl rfl (fun _ _ => rfl) (fun z513 ez513 hz513 => ?_)
    refine X.putI' 16 3 (zi57 13) rfl rfl (by decide) rfl rfl rfl (fun hrm514 m514 hm514 => ?_)
    have hJ515 := w33_0 hJ hm514 (by omega) hrm514 hf9 hgg0
    refine X.aload_n 17 (zi57 16) rfl rfl rfl ?_
    refine X.getR 20 (zi57 17) rfl rfl (by decide) rfl rfl ?_
    refine X.iload_n 21 (zi57 20) rfl rfl rfl ?_
    refine X.dup2 22 (zi57 21) rfl rfl ?_
    refine X.ialdr 23 (zi57 22) rfl rfl (by decide) rfl (by omega) (fun h516 => ?_)
    refine X.iconst 24 (zi57 23) rfl rfl (by decide) ?_
    refine X.iaddW 25 (zi57 24) rfl rfl (fun z517 ez517 hz517 => ?_)
    refine X.iast' 26 (zi57 25) rfl rfl (by decide) rfl (by omega) (fun hrm518 m518 hm518 => ?_)
    have hJ519 := w34_0 hJ515 hm518 (by omega) hrm518 hf9 hgg0
    refine X.aload_n 27 (zi57 26) rfl rfl rfl ?_
    refine X.iload 29 (zi57 27) rfl rfl rfl ?_
    refine X.iload_n 30 (zi57 29) rfl rfl rfl ?_
    refine X.iconst 31 (zi57 30) rfl rfl (by decide) ?_
    refine X.callv 34 [zi a4, zi a1, zi 0] [] [(0, zr g3 37), (1, zi a4), (2, zi a1), (3, zi 0)] (zi57 31) rfl (by decide) rfl rfl (by omega) rfl rfl (by decide) rfl t55 (Nat.le_of_ble_eq_true rfl) (Nat.le_of_ble_eq_true rfl) rfl ?_
    refine c55_1 (B := B) g3 a4 a1 0 (by omega) (hJ519.up (by omega)) (by omega) (by omega) (by omega) (by omega) hf6 hgg3 (fun m520 hFv522 hJ521 => ?_)
    show X (EE s) d 57 34 [(0, zr g0 33), (1, zi a1), (2, zi a2), (3, zr g3 37), (4, zi a4)] [] m520 _
    refine X.goto 62 (zi57 34) rfl rfl ?_
    refine X.cut [] (zi57 62) rfl ?_
    exact hK526 m520 (Eq.trans (if_neg h501) (Eq.trans (zn_eq ez512) (Eq.trans (zn_eq ez513) (Eq.trans (zs_eq hm514) (Eq.trans (zn_eq ez517) (Eq.trans (zs_eq hm518) (Eq.trans (zs_eq hFv522.symm) rfl))))))) (hJ521.up (by omega))
noncomputable def fl56_3_1_b (self : Int → zM → zM) (k149 : zM → zM) (g0 g4 : Nat) (y1 y2 y3 y5 : Int) (y6 : Int) (m : zM) : zM :=
  if 5 ≤ y6 then
  (k149 m)
  else
  (zn (f40_1 g0 y6 m) fun v564 =>
  zs (if y6 < 2 then
  (m)
  else
  (zn (zshr y2 y6) fun z566 =>
  zn (zand z566 1) fun z567 =>
  zn (if z567 = 1 then
  (1)
  else
  (0)) fun v569 =>
  zn (if v569 = 0 then
  (0)
  else
  (zn (w32 ((m g0 36 y6) + y1)) fun z576 =>
  z576)) fun v577 =>
  zs (z_upd m g0 36 y6 v577) fun m582 =>
  if v564 = 0 then
  (if v569 = 0 then
  (m582)
  else
  (if (m582 g0 36 y6) ≤ y3 then
  (m582)
  else
  (zs (f57_1 g0 g4 y6 1 y5 m582) fun m589 =>
  m589)))
  else
  (if v569 = 0 then
  (zs (f57_1 g0 g4 y6 0 y5 m582) fun m594 =>
  m594)
  else
  (m582)))) fun m598 =>
  zn (f40_1 g0 y6 m598) fun v604 =>
  zs (if v604 = 0 then
  (m598)
  else
  (zn (if v564 = 0 then
  (1)
  else
  (y1)) fun v608 =>
  zn (w32 ((m598 g0 35 y6) + v608)) fun z613 =>
  zs (z_upd m598 g0 35 y6 z613) fun m614 =>
  m614)) fun m617 =>
  self (y6 + 1) m617)
noncomputable def fl56_3_1 (k149 : zM → zM) (g0 g4 : Nat) (y1 y2 y3 y5 : Int) : Nat → Int → zM → zM
  | 0 => fun y6 m => m
  | n + 1 => fl56_3_1_b (fl56_3_1 k149 g0 g4 y1 y2 y3 y5 n) k149 g0 g4 y1 y2 y3 y5
theorem l56_3_1 {s : Nat × (Nat → Int32)} {S : zS} {m0 : zM} {d : Nat} {Q : Option zV → zM → Prop} {R0 : zM} {k149 : zM → zM} (g0 g4 : Nat) (y1 y2 y3 y5 : Int) (BE : Int) (hE : BE ≤ 1000000000) (hd : 15 ≤ d) (hy1 : 1 ≤ y1 ∧ y1 ≤ 3600) (hy2 : (-2147483648) ≤ y2 ∧ y2 ≤ 2147483647) (hy3 : 0 ≤ y3 ∧ y3 ≤ 1000000) (hy5 : 0 ≤ y5 ∧ y5 ≤ 2000000000) (hf6 : ¬ S.1 6) (hf9 : ¬ S.1 9) (hgg0 : ¬ S.2.1 g0) (hgg4 : ¬ S.2.1 g4)
    (K149 : ∀ (m' : zM) (B' : Int), J S m0 B' m' → B' ≤ BE → R0 = k149 m' → X (EE s) d 56 149 [] [] m' Q) :
    ∀ (n : Nat) (y6 : Int) (m : zM) (B : Int), J S m0 B m → B + 1 * (n : Int) ≤ BE → (0 ≤ y6 ∧ y6 ≤ 5) → 5 - y6 < (n : Int) → R0 = fl56_3_1 k149 g0 g4 y1 y2 y3 y5 n y6 m → X (EE s) d 56 3 [(0, zr g0 33), (1, zi y1), (2, zi y2), (3, zi y3), (4, zr g4 37), (5, zi y5), (6, zi y6)] [] m Q := by
  intro n
  induction n with
  | zero =>
    intro y6 m B hJ hB hy6 hn hR
    exfalso
    omega
  | succ n ih =>
    intro y6 m B hJ hB hy6 hn hR
    replace hR : R0 = fl56_3_1_b (fl56_3_1 k149 g0 g4 y1 y2 y3 y5 n) k149 g0 g4 y1 y2 y3 y5 y6 m := hR
    refine X.iload 5 (zi56 3) rfl rfl rfl ?_
    refine X.iconst 6 (zi56 5) rfl rfl (by decide) ?_
    refine X.icmpge 149 9 (zi56 6) rfl rfl rfl (fun h561 => ?_) (fun h561 => ?_)
    · refine X.cut [] (zi56 149) rfl ?_
      exact K149  m (B) (hJ.up (by omega)) (by omega)  (Eq.trans hR (Eq.trans (if_pos h561) rfl))
    · refine X.aload_n 10 (zi56 9) rfl rfl rfl ?_
      refine X.iload 12 (zi56 10) rfl rfl rfl ?_
      refine X.callv 15 [zi y6] [] [(0, zr g0 33), (1, zi y6)] (zi56 12) rfl (by decide) rfl rfl (by omega) rfl rfl (by decide) rfl t40 (Nat.le_of_ble_eq_true rfl) (Nat.le_of_ble_eq_true rfl) rfl ?_
      refine c40_2 (B := B) g0 y6 (by omega) (hJ.up (by omega)) (by omega) (by omega) (fun v564 hv564 hFv564 => ?_)
      show X (EE s) d 56 15 [(0, zr g0 33), (1, zi y1), (2, zi y2), (3, zi y3), (4, zr g4 37), (5, zi y5), (6, zi y6)] [zi v564] m _
      refine X.istore 17 [(0, zr g0 33), (1, zi y1), (2, zi y2), (3, zi y3), (4, zr g4 37), (5, zi y5), (6, zi y6), (7, zi v564)] (zi56 15) rfl rfl rfl ?_
      refine X.iload 19 (zi56 17) rfl rfl rfl ?_
      refine X.iconst 20 (zi56 19) rfl rfl (by decide) ?_
      have hK600 : ∀ (m' : zM), (if y6 < 2 then
          (m)
          else
          (zn (zshr y2 y6) fun z566 =>
          zn (zand z566 1) fun z567 =>
          zn (if z567 = 1 then
          (1)
          else
          (0)) fun v569 =>
          zn (if v569 = 0 then
          (0)
          else
          (zn (w32 ((m g0 36 y6) + y1)) fun z576 =>
          z576)) fun v577 =>
          zs (z_upd m g0 36 y6 v577) fun m582 =>
          if v564 = 0 then
          (if v569 = 0 then
          (m582)
          else
          (if (m582 g0 36 y6) ≤ y3 then
          (m582)
          else
          (zs (f57_1 g0 g4 y6 1 y5 m582) fun m589 =>
          m589)))
          else
          (if v569 = 0 then
          (zs (f57_1 g0 g4 y6 0 y5 m582) fun m594 =>
          m594)
          else
          (m582)))) = m' → J S m0 (B + 1) m' → X (EE s) d 56 114 [(0, zr g0 33), (1, zi y1), (2, zi y2), (3, zi y3), (4, zr g4 37), (5, zi y5), (6, zi y6), (7, zi v564)] [] m' Q := by
        intro m598 hT601 hJ599
        refine X.aload_n 115 (zi56 114) rfl rfl rfl ?_
        refine X.iload 117 (zi56 115) rfl rfl rfl ?_
        refine X.callv 120 [zi y6] [] [(0, zr g0 33), (1, zi y6)] (zi56 117) rfl (by decide) rfl rfl (by omega) rfl rfl (by decide) rfl t40 (Nat.le_of_ble_eq_true rfl) (Nat.le_of_ble_eq_true rfl) rfl ?_
        refine c40_2 (B := B + 1) g0 y6 (by omega) (hJ599.up (by omega)) (by omega) (by omega) (fun v604 hv604 hFv604 => ?_)
        show X (EE s) d 56 120 [(0, zr g0 33), (1, zi y1), (2, zi y2), (3, zi y3), (4, zr g4 37), (5, zi y5), (6, zi y6), (7, zi v564)] [zi v604] m598 _
        have hK619 : ∀ (m' : zM), (if v604 = 0 then
            (m598)
            else
            (zn (if v564 = 0 then
            (1)
            else
            (y1)) fun v608 =>
            zn (w32 ((m598 g0 35 y6) + v608)) fun z613 =>
            zs (z_upd m598 g0 35 y6 z613) fun m614 =>
            m614)) = m' → J S m0 (B + 1) m' → X (EE s) d 56 143 [(0, zr g0 33), (1, zi y1), (2, zi y2), (3, zi y3), (4, zr g4 37), (5, zi y5), (6, zi y6)] [] m' Q := by
          intro m617 hT620 hJ618
          refine X.iinc 146 [(0, zr g0 33), (1, zi y1), (2, zi y2), (3, zi y3), (4, zr g4 37), (5, zi y5), (6, zi (y6 + 1))] (zi56 143) rfl rfl rfl (by omega) rfl ?_
          refine X.goto 3 (zi56 146) rfl rfl ?_
          exact ih (y6 + 1) m617 (B + 1) (hJ618.up (by omega)) (by omega) (by omega) (by omega) (Eq.trans hR (Eq.trans (if_neg h561) (Eq.trans (zn_eq hFv564.symm) (Eq.trans (zs_eq hT601.symm) (Eq.trans (zn_eq hFv604.symm) (Eq.trans (zs_eq hT620.symm) rfl))))))
        refine X.ifeq 143 123 (zi56 120) rfl rfl rfl (fun h605 => ?_) (fun h605 => ?_)
        · refine X.cut [(0, zr g0 33), (1, zi y1), (2, zi y2), (3, zi y3), (4, zr g4 37), (5, zi y5), (6, zi y6)] (zi56 143) rfl ?_
          exact hK619 m598 (Eq.trans (if_pos h605) rfl) (hJ599.up (by omega))
        · refine X.aload_n 124 (zi56 123) rfl rfl rfl ?_
          refine X.getR 127 (zi56 124) rfl rfl (by decide) rfl rfl ?_
          refine X.iload 129 (zi56 127) rfl rfl rfl ?_
          refine X.dup2 130 (zi56 129) rfl rfl ?_
          refine X.ialdr 131 (zi56 130) rfl rfl (by decide) rfl (by omega) (fun h606 => ?_)
          refine X.iload 133 (zi56 131) rfl rfl rfl ?_
          have hK611 : ∀ (v : Int) , (1 ≤ v ∧ v ≤ 3600) → (if v564 = 0 then
              (1)
              else
              (y1)) = v → X (EE s) d 56 141 [(0, zr g0 33), (1, zi y1), (2, zi y2), (3, zi y3), (4, zr g4 37), (5, zi y5), (6, zi y6)] [zi v, zi (m598 g0 35 y6), zi y6, zr g0 35] m598 Q := by
            intro v608 hv608 hT612
            refine X.iaddW 142 (zi56 141) rfl rfl (fun z613 ez613 hz613 => ?_)
            refine X.iast' 143 (zi56 142) rfl rfl (by decide) rfl (by omega) (fun hrm614 m614 hm614 => ?_)
            have hJ615 := w35_0 hJ599 hm614 (by omega) hrm614 hf9 hgg0
            exact hK619 m614 (Eq.trans (if_neg h605) (Eq.trans (zn_eq hT612.symm) (Eq.trans (zn_eq ez613) (Eq.trans (zs_eq hm614) rfl)))) (hJ615.up (by omega))
          refine X.ifeq 140 136 (zi56 133) rfl rfl rfl (fun h607 => ?_) (fun h607 => ?_)
          · refine X.cut [(0, zr g0 33), (1, zi y1), (2, zi y2), (3, zi y3), (4, zr g4 37), (5, zi y5), (6, zi y6)] (zi56 140) rfl ?_
            refine X.iconst 141 (zi56 140) rfl rfl (by decide) ?_
            exact hK611 1 (by first | trivial | omega) (Eq.trans (if_pos h607) rfl)
          · refine X.iload_n 137 (zi56 136) rfl rfl rfl ?_
            refine X.goto 141 (zi56 137) rfl rfl ?_
            refine X.cut [(0, zr g0 33), (1, zi y1), (2, zi y2), (3, zi y3), (4, zr g4 37), (5, zi y5), (6, zi y6)] (zi56 141) rfl ?_
            exact hK611 y1 (by first | trivial | omega) (Eq.trans (if_neg h607) rfl)
      refine X.icmplt 114 23 (zi56 20) rfl rfl rfl (fun h565 => ?_) (fun h565 => ?_)
      · exact hK600 m (Eq.trans (if_pos h565) rfl) (hJ.up (by omega))
      · refine X.iload_n 24 (zi56 23) rfl rfl rfl ?_
        refine X.iload 26 (zi56 24) rfl rfl rfl ?_
        refine X.iiE 27 .ishr (fun x y => x >>> (y &&& 31)) (zi56 26) rfl rfl rfl (fun _ _ => rfl) (fun z566 ez566 hz566 => ?_)
        refine X.iconst 28 (zi56 27) rfl rfl (by decide) ?_
        refine X.andE 29 1 (zi56 28) rfl rfl (by decide) (.inl rfl) (fun z567 ez567 hz567 => ?_)
        refine X.iconst 30 (zi56 29) rfl rfl (by decide) ?_
        have hK572 : ∀ (v : Int) , (0 ≤ v ∧ v ≤ 1) → (if z567 = 1 then
            (1)
            else
            (0)) = v → X (EE s) d 56 38 [(0, zr g0 33), (1, zi y1), (2, zi y2), (3, zi y3), (4, zr g4 37), (5, zi y5), (6, zi y6), (7, zi v564)] [zi v] m Q := by
          intro v569 hv569 hT573
          refine X.istore 40 [(0, zr g0 33), (1, zi y1), (2, zi y2), (3, zi y3), (4, zr g4 37), (5, zi y5), (6, zi y6), (7, zi v564), (8, zi v569)] (zi56 38) rfl rfl rfl ?_
          refine X.aload_n 41 (zi56 40) rfl rfl rfl ?_
          refine X.getR 44 (zi56 41) rfl rfl (by decide) rfl rfl ?_
          refine X.iload 46 (zi56 44) rfl rfl rfl ?_
          refine X.iload 48 (zi56 46) rfl rfl rfl ?_
          have hK580 : ∀ (v : Int) , ((-2147483648) ≤ v ∧ v ≤ 2147483647) → (if v569 = 0 then
              (0)
              else
              (zn (w32 ((m g0 36 y6) + y1)) fun z576 =>
              z576)) = v → X (EE s) d 56 64 [(0, zr g0 33), (1, zi y1), (2, zi y2), (3, zi y3), (4, zr g4 37), (5, zi y5), (6, zi y6), (7, zi v564), (8, zi v569)] [zi v, zi y6, zr g0 36] m Q := by
            intro v577 hv577 hT581
            refine X.iast' 65 (zi56 64) rfl rfl (by decide) rfl (by omega) (fun hrm582 m582 hm582 => ?_)
            have hJ583 := w36_0 hJ hm582 (by omega) hrm582 hf9 hgg0
            refine X.iload 67 (zi56 65) rfl rfl rfl ?_
            refine X.ifeq 78 70 (zi56 67) rfl rfl rfl (fun h584 => ?_) (fun h584 => ?_)
            · refine X.iload 80 (zi56 78) rfl rfl rfl ?_
              refine X.ifeq 114 83 (zi56 80) rfl rfl rfl (fun h585 => ?_) (fun h585 => ?_)
              · refine X.cut [(0, zr g0 33), (1, zi y1), (2, zi y2), (3, zi y3), (4, zr g4 37), (5, zi y5), (6, zi y6), (7, zi v564)] (zi56 114) rfl ?_
                exact hK600 m582 (Eq.trans (if_neg h565) (Eq.trans (zn_eq ez566) (Eq.trans (zn_eq ez567) (Eq.trans (zn_eq hT573.symm) (Eq.trans (zn_eq hT581.symm) (Eq.trans (zs_eq hm582) (Eq.trans (if_pos h584) (Eq.trans (if_pos h585) rfl)))))))) (hJ583.up (by omega))
              · refine X.aload_n 84 (zi56 83) rfl rfl rfl ?_
                refine X.getR 87 (zi56 84) rfl rfl (by decide) rfl rfl ?_
                refine X.iload 89 (zi56 87) rfl rfl rfl ?_
                refine X.ialdr 90 (zi56 89) rfl rfl (by decide) rfl (by omega) (fun h586 => ?_)
                refine X.iload_n 91 (zi56 90) rfl rfl rfl ?_
                refine X.icmple 114 94 (zi56 91) rfl rfl rfl (fun h587 => ?_) (fun h587 => ?_)
                · refine X.cut [(0, zr g0 33), (1, zi y1), (2, zi y2), (3, zi y3), (4, zr g4 37), (5, zi y5), (6, zi y6), (7, zi v564)] (zi56 114) rfl ?_
                  exact hK600 m582 (Eq.trans (if_neg h565) (Eq.trans (zn_eq ez566) (Eq.trans (zn_eq ez567) (Eq.trans (zn_eq hT573.symm) (Eq.trans (zn_eq hT581.symm) (Eq.trans (zs_eq hm582) (Eq.trans (if_pos h584) (Eq.trans (if_neg h585) (Eq.trans (if_pos h587) rfl))))))))) (hJ583.up (by omega))
                · refine X.cut [(0, zr g0 33), (1, zi y1), (2, zi y2), (3, zi y3), (4, zr g4 37), (5, zi y5), (6, zi y6), (7, zi v564)] (zi56 94) rfl ?_
                  refine X.aload_n 95 (zi56 94) rfl rfl rfl ?_
                  refine X.iload 97 (zi56 95) rfl rfl rfl ?_
                  refine X.iload 99 (zi56 97) rfl rfl rfl ?_
                  refine X.ifne 106 102 (zi56 99) rfl rfl rfl (fun h588 => (by exfalso; omega)) (fun h588 => ?_)
                  refine X.iconst 103 (zi56 102) rfl rfl (by decide) ?_
                  refine X.goto 107 (zi56 103) rfl rfl ?_
                  refine X.aload 109 (zi56 107) rfl rfl rfl ?_
                  refine X.iload 111 (zi56 109) rfl rfl rfl ?_
                  refine X.callv 114 [zi y6, zi 1, zr g4 37, zi y5] [] [(0, zr g0 33), (1, zi y6), (2, zi 1), (3, zr g4 37), (4, zi y5)] (zi56 111) rfl (by decide) rfl rfl (by omega) rfl rfl (by decide) rfl t57 (Nat.le_of_ble_eq_true rfl) (Nat.le_of_ble_eq_true rfl) rfl ?_
                  refine c57_1 (B := B) g0 g4 y6 1 y5 (by omega) (hJ583.up (by omega)) (by omega) (by omega) (by omega) (by omega) hf6 hf9 hgg0 hgg4 (fun m589 hFv591 hJ590 => ?_)
                  show X (EE s) d 56 114 [(0, zr g0 33), (1, zi y1), (2, zi y2), (3, zi y3), (4, zr g4 37), (5, zi y5), (6, zi y6), (7, zi v564)] [] m589 _
                  exact hK600 m589 (Eq.trans (if_neg h565) (Eq.trans (zn_eq ez566) (Eq.trans (zn_eq ez567) (Eq.trans (zn_eq hT573.symm) (Eq.trans (zn_eq hT581.symm) (Eq.trans (zs_eq hm582) (Eq.trans (if_pos h584) (Eq.trans (if_neg h585) (Eq.trans (if_neg h587) (Eq.trans (zs_eq hFv591.symm) rfl)))))))))) (hJ590.up (by omega))
            · refine X.iload 72 (zi56 70) rfl rfl rfl ?_
              refine X.ifne 114 75 (zi56 72) rfl rfl rfl (fun h592 => ?_) (fun h592 => ?_)
              · refine X.cut [(0, zr g0 33), (1, zi y1), (2, zi y2), (3, zi y3), (4, zr g4 37), (5, zi y5), (6, zi y6), (7, zi v564)] (zi56 114) rfl ?_
                exact hK600 m582 (Eq.trans (if_neg h565) (Eq.trans (zn_eq ez566) (Eq.trans (zn_eq ez567) (Eq.trans (zn_eq hT573.symm) (Eq.trans (zn_eq hT581.symm) (Eq.trans (zs_eq hm582) (Eq.trans (if_neg h584) (Eq.trans (if_neg h592) rfl)))))))) (hJ583.up (by omega))
              · refine X.goto 94 (zi56 75) rfl rfl ?_
                refine X.cut [(0, zr g0 33), (1, zi y1), (2, zi y2), (3, zi y3), (4, zr g4 37), (5, zi y5), (6, zi y6), (7, zi v564)] (zi56 94) rfl ?_
                refine X.aload_n 95 (zi56 94) rfl rfl rfl ?_
                refine X.iload 97 (zi56 95) rfl rfl rfl ?_
                refine X.iload 99 (zi56 97) rfl rfl rfl ?_
                refine X.ifne 106 102 (zi56 99) rfl rfl rfl (fun h593 => ?_) (fun h593 => (by exfalso; omega))
                refine X.iconst 107 (zi56 106) rfl rfl (by decide) ?_
                refine X.aload 109 (zi56 107) rfl rfl rfl ?_
                refine X.iload 111 (zi56 109) rfl rfl rfl ?_
                refine X.callv 114 [zi y6, zi 0, zr g4 37, zi y5] [] [(0, zr g0 33), (1, zi y6), (2, zi 0), (3, zr g4 37), (4, zi y5)] (zi56 111) rfl (by decide) rfl rfl (by omega) rfl rfl (by decide) rfl t57 (Nat.le_of_ble_eq_true rfl) (Nat.le_of_ble_eq_true rfl) rfl ?_
                refine c57_1 (B := B) g0 g4 y6 0 y5 (by omega) (hJ583.up (by omega)) (by omega) (by omega) (by omega) (by omega) hf6 hf9 hgg0 hgg4 (fun m594 hFv596 hJ595 => ?_)
                show X (EE s) d 56 114 [(0, zr g0 33), (1, zi y1), (2, zi y2), (3, zi y3), (4, zr g4 37), (5, zi y5), (6, zi y6), (7, zi v564)] [] m594 _
                exact hK600 m594 (Eq.trans (if_neg h565) (Eq.trans (zn_eq ez566) (Eq.trans (zn_eq ez567) (Eq.trans (zn_eq hT573.symm) (Eq.trans (zn_eq hT581.symm) (Eq.trans (zs_eq hm582) (Eq.trans (if_neg h584) (Eq.trans (if_pos h592) (Eq.trans (zs_eq hFv596.symm) rfl))))))))) (hJ595.up (by omega))
          refine X.ifeq 63 51 (zi56 48) rfl rfl rfl (fun h574 => ?_) (fun h574 => ?_)
          · refine X.iconst 64 (zi56 63) rfl rfl (by decide) ?_
            exact hK580 0 (by first | trivial | omega) (Eq.trans (if_pos h574) rfl)
          · refine X.aload_n 52 (zi56 51) rfl rfl rfl ?_
            refine X.getR 55 (zi56 52) rfl rfl (by decide) rfl rfl ?_
            refine X.iload 57 (zi56 55) rfl rfl rfl ?_
            refine X.ialdr 58 (zi56 57) rfl rfl (by decide) rfl (by omega) (fun h575 => ?_)
            refine X.iload_n 59 (zi56 58) rfl rfl rfl ?_
            refine X.iaddW 60 (zi56 59) rfl rfl (fun z576 ez576 hz576 => ?_)
            refine X.goto 64 (zi56 60) rfl rfl ?_
            exact hK580 z576 (by first | trivial | omega) (Eq.trans (if_neg h574) (Eq.trans (zn_eq ez576) rfl))
        refine X.icmpne 37 33 (zi56 30) rfl rfl rfl (fun h568 => ?_) (fun h568 => ?_)
        · refine X.iconst 38 (zi56 37) rfl rfl (by decide) ?_
          exact hK572 0 (by first | trivial | omega) (Eq.trans (if_neg h568) rfl)
        · refine X.iconst 34 (zi56 33) rfl rfl (by decide) ?_
          refine X.goto 38 (zi56 34) rfl rfl ?_
          exact hK572 1 (by first | trivial | omega) (Eq.trans (if_pos h568) rfl)
-- WorkMeter$Marks.passSeconds
noncomputable def f56_1 (g0 g4 : Nat) (a1 a2 a3 a5 : Int) (m : zM) : zM :=
  fl56_3_1 (fun m501 =>
  m501) g0 g4 a1 a2 a3 a5 (zfu 6) 0 m
-- WorkMeter$Marks.passSeconds
theorem c56_1 {s : Nat × (Nat → Int32)} {S : zS} {m0 m : zM} {B : Int} {d : Nat} {Q : Option zV → zM → Prop} (g0 g4 : Nat) (a1 a2 a3 a5 : Int) (hd : 15 ≤ d) (hJ : J S m0 B m) (hB : B + 6 ≤ 1000000000) (ha1 : 1 ≤ a1 ∧ a1 ≤ 3600) (ha2 : (-2147483648) ≤ a2 ∧ a2 ≤ 2147483647) (ha3 : 0 ≤ a3 ∧ a3 ≤ 1000000) (ha5 : 0 ≤ a5 ∧ a5 ≤ 2000000000) (hf6 : ¬ S.1 6) (hf9 : ¬ S.1 9) (hgg0 : ¬ S.2.1 g0) (hgg4 : ¬ S.2.1 g4) (hQ : ∀ m', f56_1 g0 g4 a1 a2 a3 a5 m = m' → J S m0 (B + 6) m' → Q none m') : X (EE s) d 56 0 [(0, zr g0 33), (1, zi a1), (2, zi a2), (3, zi a3), (4, zr g4 37), (5, zi a5)] [] m Q := by
  refine X.iconst 1 (zi56 0) rfl rfl (by decide) ?_
  refine X.istore 3 [(0, zr g0 33), (1, zi a1), (2, zi a2), (3, zi a3), (4, zr g4 37), (5, zi a5), (6, zi 0)] (zi56 1) rfl rfl rfl ?_
  have hz6 := zfu_eq 6
  refine l56_3_1 (s := s) (d := d) (R0 := (f56_1 g0 g4 a1 a2 a3 a5 m)) g0 g4 a1 a2 a3 a5  (BE := B + 6) (by omega) (by omega) (by omega) (by omega) (by omega) (by omega) hf6 hf9 hgg0 hgg4 (fun  m501 B502 hJ503 hBB502 hR504 => ?_) (zfu 6) 0 m (B) (hJ.up (by omega)) (by omega) (by omega) (by omega) rfl
  refine X.retv (zi56 149) rfl t56 ?_
  exact hQ  m501  (Eq.trans hR504 rfl) (hJ503.up (by omega)) 
-- WorkMeter$Load.addMetered
noncomputable def f58_1 (g0 : Nat) (a1 a2 : Int) (m : zM) : zM :=
  zn (w32 ((m g0 27 6) + a1)) fun z502 =>
  zs (z_upd m g0 27 6 z502) fun m503 =>
  zn (zor (m503 g0 27 8) a2) fun z506 =>
  zs (z_upd m503 g0 27 8 z506) fun m507 =>
  m507
-- WorkMeter$Load.addMetered
theorem c58_1 {s : Nat × (Nat → Int32)} {S : zS} {m0 m : zM} {B : Int} {d : Nat} {Q : Option zV → zM → Prop} (g0 : Nat) (a1 a2 : Int) (hd : 13 ≤ d) (hJ : J S m0 B m) (hB : B + 0 ≤ 1000000000) (ha1 : 1 ≤ a1 ∧ a1 ≤ 3600) (ha2 : (-2147483648) ≤ a2 ∧ a2 ≤ 2147483647) (hf7 : ¬ S.1 7) (hgg0 : ¬ S.2.1 g0) (hQ : ∀ m', f58_1 g0 a1 a2 m = m' → J S m0 (B) m' → Q none m') : X (EE s) d 58 0 [(0, zr g0 27), (1, zi a1), (2, zi a2)] [] m Q := by
  refine X.aload_n 1 (zi58 0) rfl rfl rfl ?_
  refine X.dup 2 (zi58 1) rfl rfl rfl ?_
  refine X.getIr 5 6 (zi58 2) rfl rfl (by decide) rfl rfl rfl (fun h501 => ?_)
  refine X.iload_n 6 (zi58 5) rfl rfl rfl ?_
  refine X.iaddW 7 (zi58 6) rfl rfl (fun z502 ez502 hz502 => ?_)
  refine X.putI' 10 6 (zi58 7) rfl rfl (by decide) rfl rfl rfl (fun hrm503 m503 hm503 => ?_)
  have hJ504 := w27_3 hJ hm503 (by omega) hrm503 hf7 hgg0
  refine X.aload_n 11 (zi58 10) rfl rfl rfl ?_
  refine X.dup 12 (zi58 11) rfl rfl rfl ?_
  refine X.getIr 15 8 (zi58 12) rfl rfl (by decide) rfl rfl rfl (fun h505 => ?_)
  refine X.iload_n 16 (zi58 15) rfl rfl rfl ?_
  refine X.iiE 17 .ior (fun x y => x ||| y) (zi58 16) rfl rfl rfl (fun _ _ => rfl) (fun z506 ez506 hz506 => ?_)
  refine X.putI' 20 8 (zi58 17) rfl rfl (by decide) rfl rfl rfl (fun hrm507 m507 hm507 => ?_)
  have hJ508 := w27_3 hJ504 hm507 (by omega) hrm507 hf7 hgg0
  refine X.retv (zi58 20) rfl t58 ?_
  exact hQ  m507  (Eq.trans (zn_eq ez502) (Eq.trans (zs_eq hm503) (Eq.trans (zn_eq ez506) (Eq.trans (zs_eq hm507) rfl)))) (hJ508.up (by omega)) 
-- WorkMeter$Load.statusSoFar
noncomputable def f61_1 (g0 : Nat) (a1 : Int) (m : zM) : Int :=
  zn (if (m g0 27 7) ≤ 0 then
  ((m g0 27 8))
  else
  (zn (zor (m g0 27 8) 32) fun z504 =>
  z504)) fun v505 =>
  zn (((m g0 27 9) % a1)) fun z511 =>
  zn (if z511 = 0 then
  (v505)
  else
  (zn (zor v505 128) fun z513 =>
  z513)) fun v514 =>
  v514
-- WorkMeter$Load.statusSoFar
theorem c61_1 {s : Nat × (Nat → Int32)} {S : zS} {m0 m : zM} {B : Int} {d : Nat} {Q : Option zV → zM → Prop} (g0 : Nat) (a1 : Int) (hd : 13 ≤ d) (hJ : J S m0 B m) (hB : B + 0 ≤ 1000000000) (ha1 : 1 ≤ a1 ∧ a1 ≤ 1000000) (hQ : ∀ (v : Int), ((-2147483648) ≤ v ∧ v ≤ 2147483647) → f61_1 g0 a1 m = v → Q (some (zi v)) m) : X (EE s) d 61 0 [(0, zr g0 27), (1, zi a1)] [] m Q := by
  refine X.aload_n 1 (zi61 0) rfl rfl rfl ?_
  refine X.getIr 4 8 (zi61 1) rfl rfl (by decide) rfl rfl rfl (fun h501 => ?_)
  refine X.istore_n 5 [(0, zr g0 27), (1, zi a1), (2, zi (m g0 27 8))] (zi61 4) rfl rfl rfl ?_
  refine X.aload_n 6 (zi61 5) rfl rfl rfl ?_
  refine X.getIr 9 7 (zi61 6) rfl rfl (by decide) rfl rfl rfl (fun h502 => ?_)
  have hK508 : ∀ (v : Int) , ((-2147483648) ≤ v ∧ v ≤ 2147483647) → (if (m g0 27 7) ≤ 0 then
      ((m g0 27 8))
      else
      (zn (zor (m g0 27 8) 32) fun z504 =>
      z504)) = v → X (EE s) d 61 17 [(0, zr g0 27), (1, zi a1), (2, zi v)] [] m Q := by
    intro v505 hv505 hT509
    refine X.aload_n 18 (zi61 17) rfl rfl rfl ?_
    refine X.getI 21 9 (zi61 18) rfl rfl (by decide) rfl rfl rfl ?_
    have h510 := r27_9 hJ g0
    refine X.iload_n 22 (zi61 21) rfl rfl rfl ?_
    refine X.irem 23 (zi61 22) rfl rfl (by omega) ?_
    have hz511 := z_modb (x := (m g0 27 9)) (y := a1) (by omega) (by omega)
    obtain ⟨z511, ez511⟩ : ∃ z, z = ((m g0 27 9) % a1) := ⟨_, rfl⟩
    rw [← ez511] at hz511 ⊢
    have hK517 : ∀ (v : Int) , ((-2147483648) ≤ v ∧ v ≤ 2147483647) → (if z511 = 0 then
        (v505)
        else
        (zn (zor v505 128) fun z513 =>
        z513)) = v → X (EE s) d 61 35 [] [zi v] m Q := by
      intro v514 hv514 hT518
      refine X.reti (zi61 35) rfl t61 ?_
      exact hQ v514 (by first | trivial | omega) (Eq.trans (zn_eq hT509.symm) (Eq.trans (zn_eq ez511) (Eq.trans (zn_eq hT518.symm) rfl))) 
    refine X.ifeq 34 26 (zi61 23) rfl rfl rfl (fun h512 => ?_) (fun h512 => ?_)
    · refine X.cut [(2, zi v505)] (zi61 34) rfl ?_
      refine X.iload_n 35 (zi61 34) rfl rfl rfl ?_
      refine X.cut [] (zi61 35) rfl ?_
      exact hK517 v505 (by first | trivial | omega) (Eq.trans (if_pos h512) rfl)
    · refine X.iload_n 27 (zi61 26) rfl rfl rfl ?_
      refine X.sipush 30 (zi61 27) rfl rfl (by decide) ?_
      refine X.iiE 31 .ior (fun x y => x ||| y) (zi61 30) rfl rfl rfl (fun _ _ => rfl) (fun z513 ez513 hz513 => ?_)
      refine X.goto 35 (zi61 31) rfl rfl ?_
      refine X.cut [] (zi61 35) rfl ?_
      exact hK517 z513 (by first | trivial | omega) (Eq.trans (if_neg h512) (Eq.trans (zn_eq ez513) rfl))
  refine X.ifle 17 12 (zi61 9) rfl rfl rfl (fun h503 => ?_) (fun h503 => ?_)
  · exact hK508 (m g0 27 8) (by first | trivial | omega) (Eq.trans (if_pos h503) rfl)
  · refine X.iload_n 13 (zi61 12) rfl rfl rfl ?_
    refine X.bipush 15 (zi61 13) rfl rfl (by decide) ?_
    refine X.iiE 16 .ior (fun x y => x ||| y) (zi61 15) rfl rfl rfl (fun _ _ => rfl) (fun z504 ez504 hz504 => ?_)
    refine X.istore_n 17 [(0, zr g0 27), (1, zi a1), (2, zi z504)] (zi61 16) rfl rfl rfl ?_
    exact hK508 z504 (by first | trivial | omega) (Eq.trans (if_neg h503) (Eq.trans (zn_eq ez504) rfl))
noncomputable def fl62_14_1_b (self : Int → zM → zM) (k47 : zM → zM) (g0 : Nat) (y1 y2 y3 : Int) (y4 : Int) (m : zM) : zM :=
  if 4 ≤ y4 then
  (k47 m)
  else
  (zn (w64 ((m g0 29 y4) + (m g0 28 ((y3 + 1) + y4)))) fun z506 =>
  zs (z_upd m g0 29 y4 z506) fun m507 =>
  self (y4 + 1) m507)
noncomputable def fl62_14_1 (k47 : zM → zM) (g0 : Nat) (y1 y2 y3 : Int) : Nat → Int → zM → zM
  | 0 => fun y4 m => m
  | n + 1 => fl62_14_1_b (fl62_14_1 k47 g0 y1 y2 y3 n) k47 g0 y1 y2 y3
theorem l62_14_1 {s : Nat × (Nat → Int32)} {S : zS} {m0 : zM} {d : Nat} {Q : Option zV → zM → Prop} {R0 : zM} {k47 : zM → zM} (g0 : Nat) (y1 y2 y3 : Int) (BE : Int) (hE : BE ≤ 1000000000) (hd : 13 ≤ d) (hy1 : 0 ≤ y1 ∧ y1 ≤ 2000000000) (hy2 : (-2147483648) ≤ y2 ∧ y2 ≤ 2147483647) (hy3 : 0 ≤ y3 ∧ y3 ≤ 378) (hf7 : ¬ S.1 7) (hgg0 : ¬ S.2.1 g0)
    (K47 : ∀ (m' : zM) (B' : Int), J S m0 B' m' → B' ≤ BE → R0 = k47 m' → X (EE s) d 62 47 [(0, zr g0 27), (1, zi y1), (2, zi y2), (3, zi y3)] [] m' Q) :
    ∀ (n : Nat) (y4 : Int) (m : zM) (B : Int), J S m0 B m → B + 0 * (n : Int) ≤ BE → (0 ≤ y4 ∧ y4 ≤ 4) → 4 - y4 < (n : Int) → R0 = fl62_14_1 k47 g0 y1 y2 y3 n y4 m → X (EE s) d 62 14 [(0, zr g0 27), (1, zi y1), (2, zi y2), (3, zi y3), (4, zi y4)] [] m Q := by
  intro n
  induction n with
  | zero =>
    intro y4 m B hJ hB hy4 hn hR
    exfalso
    omega
  | succ n ih =>
    intro y4 m B hJ hB hy4 hn hR
    replace hR : R0 = fl62_14_1_b (fl62_14_1 k47 g0 y1 y2 y3 n) k47 g0 y1 y2 y3 y4 m := hR
    refine X.iload 16 (zi62 14) rfl rfl rfl ?_
    refine X.iconst 17 (zi62 16) rfl rfl (by decide) ?_
    refine X.icmpge 47 20 (zi62 17) rfl rfl rfl (fun h505 => ?_) (fun h505 => ?_)
    · refine X.cut [(0, zr g0 27), (1, zi y1), (2, zi y2), (3, zi y3)] (zi62 47) rfl ?_
      exact K47  m (B) (hJ.up (by omega)) (by omega)  (Eq.trans hR (Eq.trans (if_pos h505) rfl))
    · refine X.aload_n 21 (zi62 20) rfl rfl rfl ?_
      refine X.getR 24 (zi62 21) rfl rfl (by decide) rfl rfl ?_
      refine X.iload 26 (zi62 24) rfl rfl rfl ?_
      refine X.dup2 27 (zi62 26) rfl rfl ?_
      refine X.lald 28 (zi62 27) rfl rfl (by decide) rfl (by omega) ?_
      refine X.aload_n 29 (zi62 28) rfl rfl rfl ?_
      refine X.getR 32 (zi62 29) rfl rfl (by decide) rfl rfl ?_
      refine X.iload_n 33 (zi62 32) rfl rfl rfl ?_
      refine X.iconst 34 (zi62 33) rfl rfl (by decide) ?_
      refine X.iadd 35 (zi62 34) rfl rfl (by omega) ?_
      refine X.iload 37 (zi62 35) rfl rfl rfl ?_
      refine X.iadd 38 (zi62 37) rfl rfl (by omega) ?_
      refine X.lald 39 (zi62 38) rfl rfl (by decide) rfl (by omega) ?_
      refine X.laddW 40 (zi62 39) rfl rfl (fun z506 ez506 hz506 => ?_)
      refine X.last' 41 (zi62 40) rfl rfl (by decide) rfl (by omega) (fun hrm507 m507 hm507 => ?_)
      have hJ508 := w29_0 hJ hm507 (by omega) hrm507 hf7 hgg0
      refine X.iinc 44 [(0, zr g0 27), (1, zi y1), (2, zi y2), (3, zi y3), (4, zi (y4 + 1))] (zi62 41) rfl rfl rfl (by omega) rfl ?_
      refine X.goto 14 (zi62 44) rfl rfl ?_
      exact ih (y4 + 1) m507 (B) (hJ508.up (by omega)) (by omega) (by omega) (by omega) (Eq.trans hR (Eq.trans (if_neg h505) (Eq.trans (zn_eq ez506) (Eq.trans (zs_eq hm507) rfl))))
-- WorkMeter$Load.addLine
noncomputable def f62_1 (g0 : Nat) (a1 a2 : Int) (m : zM) : zM :=
  fl62_14_1 (fun m502 =>
  zs (z_upd m502 g0 28 ((((m g0 27 2) % 64) * 6) + 0) a1) fun m506 =>
  zs (z_upd m506 g0 28 ((((m g0 27 2) % 64) * 6) + 1) (m506 g0 27 3)) fun m508 =>
  zs (z_upd m508 g0 28 ((((m g0 27 2) % 64) * 6) + 2) (m508 g0 27 4)) fun m510 =>
  zs (z_upd m510 g0 28 ((((m g0 27 2) % 64) * 6) + 3) (m510 g0 27 5)) fun m512 =>
  zs (z_upd m512 g0 28 ((((m g0 27 2) % 64) * 6) + 4) (m512 g0 27 6)) fun m515 =>
  zs (z_upd m515 g0 28 ((((m g0 27 2) % 64) * 6) + 5) a2) fun m517 =>
  zs (z_upd m517 g0 27 2 ((m517 g0 27 2) + 1)) fun m520 =>
  m520) g0 a1 a2 (((m g0 27 2) % 64) * 6) (zfu 5) 0 m
-- WorkMeter$Load.addLine
theorem c62_1 {s : Nat × (Nat → Int32)} {S : zS} {m0 m : zM} {B : Int} {d : Nat} {Q : Option zV → zM → Prop} (g0 : Nat) (a1 a2 : Int) (hd : 13 ≤ d) (hJ : J S m0 B m) (hB : B + 1 ≤ 1000000000) (ha1 : 0 ≤ a1 ∧ a1 ≤ 2000000000) (ha2 : (-2147483648) ≤ a2 ∧ a2 ≤ 2147483647) (hf7 : ¬ S.1 7) (hgg0 : ¬ S.2.1 g0) (hQ : ∀ m', f62_1 g0 a1 a2 m = m' → J S m0 (B + 1) m' → Q none m') : X (EE s) d 62 0 [(0, zr g0 27), (1, zi a1), (2, zi a2)] [] m Q := by
  refine X.aload_n 1 (zi62 0) rfl rfl rfl ?_
  refine X.getI 4 2 (zi62 1) rfl rfl (by decide) rfl rfl rfl ?_
  have h501 := r27_2 hJ g0
  refine X.bipush 6 (zi62 4) rfl rfl (by decide) ?_
  refine X.irem 7 (zi62 6) rfl rfl (by omega) ?_
  refine X.bipush 9 (zi62 7) rfl rfl (by decide) ?_
  refine X.imul 10 (zi62 9) rfl rfl (by omega) ?_
  refine X.istore_n 11 [(0, zr g0 27), (1, zi a1), (2, zi a2), (3, zi (((m g0 27 2) % 64) * 6))] (zi62 10) rfl rfl rfl ?_
  refine X.iconst 12 (zi62 11) rfl rfl (by decide) ?_
  refine X.istore 14 [(0, zr g0 27), (1, zi a1), (2, zi a2), (3, zi (((m g0 27 2) % 64) * 6)), (4, zi 0)] (zi62 12) rfl rfl rfl ?_
  have hz5 := zfu_eq 5
  refine l62_14_1 (s := s) (d := d) (R0 := (f62_1 g0 a1 a2 m)) g0 a1 a2 (((m g0 27 2) % 64) * 6)  (BE := B + 0) (by omega) (by omega) (by omega) (by omega) (by omega) hf7 hgg0 (fun  m502 B503 hJ504 hBB503 hR505 => ?_) (zfu 5) 0 m (B) (hJ.up (by omega)) (by omega) (by omega) (by omega) rfl
  refine X.aload_n 48 (zi62 47) rfl rfl rfl ?_
  refine X.getR 51 (zi62 48) rfl rfl (by decide) rfl rfl ?_
  refine X.iload_n 52 (zi62 51) rfl rfl rfl ?_
  refine X.iconst 53 (zi62 52) rfl rfl (by decide) ?_
  refine X.iadd 54 (zi62 53) rfl rfl (by omega) ?_
  refine X.iload_n 55 (zi62 54) rfl rfl rfl ?_
  refine X.i2l 56 (zi62 55) rfl rfl ?_
  refine X.last' 57 (zi62 56) rfl rfl (by decide) rfl (by omega) (fun hrm506 m506 hm506 => ?_)
  have hJ507 := w28_0 hJ504 hm506 (by omega) hrm506 hf7 hgg0
  refine X.aload_n 58 (zi62 57) rfl rfl rfl ?_
  refine X.getR 61 (zi62 58) rfl rfl (by decide) rfl rfl ?_
  refine X.iload_n 62 (zi62 61) rfl rfl rfl ?_
  refine X.iconst 63 (zi62 62) rfl rfl (by decide) ?_
  refine X.iadd 64 (zi62 63) rfl rfl (by omega) ?_
  refine X.aload_n 65 (zi62 64) rfl rfl rfl ?_
  refine X.getL 68 3 (zi62 65) rfl rfl (by decide) rfl rfl rfl ?_
  refine X.last' 69 (zi62 68) rfl rfl (by decide) rfl (by omega) (fun hrm508 m508 hm508 => ?_)
  have hJ509 := w28_0 hJ507 hm508 (by omega) hrm508 hf7 hgg0
  refine X.aload_n 70 (zi62 69) rfl rfl rfl ?_
  refine X.getR 73 (zi62 70) rfl rfl (by decide) rfl rfl ?_
  refine X.iload_n 74 (zi62 73) rfl rfl rfl ?_
  refine X.iconst 75 (zi62 74) rfl rfl (by decide) ?_
  refine X.iadd 76 (zi62 75) rfl rfl (by omega) ?_
  refine X.aload_n 77 (zi62 76) rfl rfl rfl ?_
  refine X.getL 80 4 (zi62 77) rfl rfl (by decide) rfl rfl rfl ?_
  refine X.last' 81 (zi62 80) rfl rfl (by decide) rfl (by omega) (fun hrm510 m510 hm510 => ?_)
  have hJ511 := w28_0 hJ509 hm510 (by omega) hrm510 hf7 hgg0
  refine X.aload_n 82 (zi62 81) rfl rfl rfl ?_
  refine X.getR 85 (zi62 82) rfl rfl (by decide) rfl rfl ?_
  refine X.iload_n 86 (zi62 85) rfl rfl rfl ?_
  refine X.iconst 87 (zi62 86) rfl rfl (by decide) ?_
  refine X.iadd 88 (zi62 87) rfl rfl (by omega) ?_
  refine X.aload_n 89 (zi62 88) rfl rfl rfl ?_
  refine X.getL 92 5 (zi62 89) rfl rfl (by decide) rfl rfl rfl ?_
  refine X.last' 93 (zi62 92) rfl rfl (by decide) rfl (by omega) (fun hrm512 m512 hm512 => ?_)
  have hJ513 := w28_0 hJ511 hm512 (by omega) hrm512 hf7 hgg0
  refine X.aload_n 94 (zi62 93) rfl rfl rfl ?_
  refine X.getR 97 (zi62 94) rfl rfl (by decide) rfl rfl ?_
  refine X.iload_n 98 (zi62 97) rfl rfl rfl ?_
  refine X.iconst 99 (zi62 98) rfl rfl (by decide) ?_
  refine X.iadd 100 (zi62 99) rfl rfl (by omega) ?_
  refine X.aload_n 101 (zi62 100) rfl rfl rfl ?_
  refine X.getIr 104 6 (zi62 101) rfl rfl (by decide) rfl rfl rfl (fun h514 => ?_)
  refine X.i2l 105 (zi62 104) rfl rfl ?_
  refine X.last' 106 (zi62 105) rfl rfl (by decide) rfl (by omega) (fun hrm515 m515 hm515 => ?_)
  have hJ516 := w28_0 hJ513 hm515 (by omega) hrm515 hf7 hgg0
  refine X.aload_n 107 (zi62 106) rfl rfl rfl ?_
  refine X.getR 110 (zi62 107) rfl rfl (by decide) rfl rfl ?_
  refine X.iload_n 111 (zi62 110) rfl rfl rfl ?_
  refine X.iconst 112 (zi62 111) rfl rfl (by decide) ?_
  refine X.iadd 113 (zi62 112) rfl rfl (by omega) ?_
  refine X.iload_n 114 (zi62 113) rfl rfl rfl ?_
  refine X.i2l 115 (zi62 114) rfl rfl ?_
  refine X.last' 116 (zi62 115) rfl rfl (by decide) rfl (by omega) (fun hrm517 m517 hm517 => ?_)
  have hJ518 := w28_0 hJ516 hm517 (by omega) hrm517 hf7 hgg0
  refine X.aload_n 117 (zi62 116) rfl rfl rfl ?_
  refine X.dup 118 (zi62 117) rfl rfl rfl ?_
  refine X.getI 121 2 (zi62 118) rfl rfl (by decide) rfl rfl rfl ?_
  have h519 := r27_2 hJ518 g0
  refine X.iconst 122 (zi62 121) rfl rfl (by decide) ?_
  refine X.iadd 123 (zi62 122) rfl rfl (by omega) ?_
  refine X.putI' 126 2 (zi62 123) rfl rfl (by decide) rfl rfl rfl (fun hrm520 m520 hm520 => ?_)
  have hJ521 := w27_2 (hJ518.up (B' := B503 + 1) (by omega)) hm520 (by omega) hf7 hgg0
  refine X.retv (zi62 126) rfl t62 ?_
  exact hQ  m520  (Eq.trans hR505 (Eq.trans (zs_eq hm506) (Eq.trans (zs_eq hm508) (Eq.trans (zs_eq hm510) (Eq.trans (zs_eq hm512) (Eq.trans (zs_eq hm515) (Eq.trans (zs_eq hm517) (Eq.trans (zs_eq hm520) rfl)))))))) (hJ521.up (by omega)) 
-- WorkMeter$Load.endBlock
noncomputable def f60_1 (g0 : Nat) (a1 a2 a3 : Int) (m : zM) : zM :=
  zn (w32 ((m g0 27 6) + (m g0 27 7))) fun z503 =>
  zs (if z503 ≤ 0 then
  (m)
  else
  (zn (f61_1 g0 a2 m) fun v507 =>
  zn (zor v507 a3) fun z508 =>
  zn ((a1 % a2)) fun z509 =>
  zn (if z509 = 0 then
  (z508)
  else
  (zn (zor z508 128) fun z511 =>
  z511)) fun v512 =>
  zs (f62_1 g0 a1 v512 m) fun m517 =>
  m517)) fun m521 =>
  zs (z_upd m521 g0 27 3 0) fun m525 =>
  zs (z_upd m525 g0 27 4 0) fun m527 =>
  zs (z_upd m527 g0 27 5 0) fun m529 =>
  zs (z_upd m529 g0 27 6 0) fun m531 =>
  zs (z_upd m531 g0 27 7 0) fun m533 =>
  zs (z_upd m533 g0 27 8 0) fun m535 =>
  zs (z_upd m535 g0 27 9 a1) fun m537 =>
  m537
-- WorkMeter$Load.endBlock
theorem c60_1 {s : Nat × (Nat → Int32)} {S : zS} {m0 m : zM} {B : Int} {d : Nat} {Q : Option zV → zM → Prop} (g0 : Nat) (a1 a2 a3 : Int) (hd : 14 ≤ d) (hJ : J S m0 B m) (hB : B + 1 ≤ 1000000000) (ha1 : 0 ≤ a1 ∧ a1 ≤ 2000000000) (ha2 : 1 ≤ a2 ∧ a2 ≤ 1000000) (ha3 : 0 ≤ a3 ∧ a3 ≤ 64) (hf7 : ¬ S.1 7) (hgg0 : ¬ S.2.1 g0) (hQ : ∀ m', f60_1 g0 a1 a2 a3 m = m' → J S m0 (B + 1) m' → Q none m') : X (EE s) d 60 0 [(0, zr g0 27), (1, zi a1), (2, zi a2), (3, zi a3)] [] m Q := by
  refine X.aload_n 1 (zi60 0) rfl rfl rfl ?_
  refine X.getIr 4 6 (zi60 1) rfl rfl (by decide) rfl rfl rfl (fun h501 => ?_)
  refine X.aload_n 5 (zi60 4) rfl rfl rfl ?_
  refine X.getIr 8 7 (zi60 5) rfl rfl (by decide) rfl rfl rfl (fun h502 => ?_)
  refine X.iaddW 9 (zi60 8) rfl rfl (fun z503 ez503 hz503 => ?_)
  have hK523 : ∀ (m' : zM), (if z503 ≤ 0 then
      (m)
      else
      (zn (f61_1 g0 a2 m) fun v507 =>
      zn (zor v507 a3) fun z508 =>
      zn ((a1 % a2)) fun z509 =>
      zn (if z509 = 0 then
      (z508)
      else
      (zn (zor z508 128) fun z511 =>
      z511)) fun v512 =>
      zs (f62_1 g0 a1 v512 m) fun m517 =>
      m517)) = m' → J S m0 (B + 1) m' → X (EE s) d 60 43 [(0, zr g0 27), (1, zi a1)] [] m' Q := by
    intro m521 hT524 hJ522
    refine X.aload_n 44 (zi60 43) rfl rfl rfl ?_
    refine X.lconst (y := 0) 45 (zi60 44) rfl rfl rfl ?_
    refine X.putL' 48 3 (zi60 45) rfl rfl (by decide) rfl rfl rfl (fun hrm525 m525 hm525 => ?_)
    have hJ526 := w27_3 hJ522 hm525 (by omega) hrm525 hf7 hgg0
    refine X.aload_n 49 (zi60 48) rfl rfl rfl ?_
    refine X.lconst (y := 0) 50 (zi60 49) rfl rfl rfl ?_
    refine X.putL' 53 4 (zi60 50) rfl rfl (by decide) rfl rfl rfl (fun hrm527 m527 hm527 => ?_)
    have hJ528 := w27_3 hJ526 hm527 (by omega) hrm527 hf7 hgg0
    refine X.aload_n 54 (zi60 53) rfl rfl rfl ?_
    refine X.lconst (y := 0) 55 (zi60 54) rfl rfl rfl ?_
    refine X.putL' 58 5 (zi60 55) rfl rfl (by decide) rfl rfl rfl (fun hrm529 m529 hm529 => ?_)
    have hJ530 := w27_3 hJ528 hm529 (by omega) hrm529 hf7 hgg0
    refine X.aload_n 59 (zi60 58) rfl rfl rfl ?_
    refine X.iconst 60 (zi60 59) rfl rfl (by decide) ?_
    refine X.putI' 63 6 (zi60 60) rfl rfl (by decide) rfl rfl rfl (fun hrm531 m531 hm531 => ?_)
    have hJ532 := w27_3 hJ530 hm531 (by omega) hrm531 hf7 hgg0
    refine X.aload_n 64 (zi60 63) rfl rfl rfl ?_
    refine X.iconst 65 (zi60 64) rfl rfl (by decide) ?_
    refine X.putI' 68 7 (zi60 65) rfl rfl (by decide) rfl rfl rfl (fun hrm533 m533 hm533 => ?_)
    have hJ534 := w27_3 hJ532 hm533 (by omega) hrm533 hf7 hgg0
    refine X.aload_n 69 (zi60 68) rfl rfl rfl ?_
    refine X.iconst 70 (zi60 69) rfl rfl (by decide) ?_
    refine X.putI' 73 8 (zi60 70) rfl rfl (by decide) rfl rfl rfl (fun hrm535 m535 hm535 => ?_)
    have hJ536 := w27_3 hJ534 hm535 (by omega) hrm535 hf7 hgg0
    refine X.aload_n 74 (zi60 73) rfl rfl rfl ?_
    refine X.iload_n 75 (zi60 74) rfl rfl rfl ?_
    refine X.putI' 78 9 (zi60 75) rfl rfl (by decide) rfl rfl rfl (fun hrm537 m537 hm537 => ?_)
    have hJ538 := w27_9 hJ536 hm537 (by omega) hf7 hgg0
    refine X.retv (zi60 78) rfl t60 ?_
    exact hQ  m537  (Eq.trans (zn_eq ez503) (Eq.trans (zs_eq hT524.symm) (Eq.trans (zs_eq hm525) (Eq.trans (zs_eq hm527) (Eq.trans (zs_eq hm529) (Eq.trans (zs_eq hm531) (Eq.trans (zs_eq hm533) (Eq.trans (zs_eq hm535) (Eq.trans (zs_eq hm537) rfl))))))))) (hJ538.up (by omega)) 
  refine X.ifle 43 12 (zi60 9) rfl rfl rfl (fun h504 => ?_) (fun h504 => ?_)
  · refine X.cut [(0, zr g0 27), (1, zi a1)] (zi60 43) rfl ?_
    exact hK523 m (Eq.trans (if_pos h504) rfl) (hJ.up (by omega))
  · refine X.aload_n 13 (zi60 12) rfl rfl rfl ?_
    refine X.iload_n 14 (zi60 13) rfl rfl rfl ?_
    refine X.callv 17 [zi a2] [] [(0, zr g0 27), (1, zi a2)] (zi60 14) rfl (by decide) rfl rfl (by omega) rfl rfl (by decide) rfl t61 (Nat.le_of_ble_eq_true rfl) (Nat.le_of_ble_eq_true rfl) rfl ?_
    refine c61_1 (B := B) g0 a2 (by omega) (hJ.up (by omega)) (by omega) (by omega) (fun v507 hv507 hFv507 => ?_)
    show X (EE s) d 60 17 [(0, zr g0 27), (1, zi a1), (2, zi a2), (3, zi a3)] [zi v507] m _
    refine X.iload_n 18 (zi60 17) rfl rfl rfl ?_
    refine X.iiE 19 .ior (fun x y => x ||| y) (zi60 18) rfl rfl rfl (fun _ _ => rfl) (fun z508 ez508 hz508 => ?_)
    refine X.istore 21 [(0, zr g0 27), (1, zi a1), (2, zi a2), (3, zi a3), (4, zi z508)] (zi60 19) rfl rfl rfl ?_
    refine X.aload_n 22 (zi60 21) rfl rfl rfl ?_
    refine X.iload_n 23 (zi60 22) rfl rfl rfl ?_
    refine X.iload_n 24 (zi60 23) rfl rfl rfl ?_
    refine X.iload_n 25 (zi60 24) rfl rfl rfl ?_
    refine X.irem 26 (zi60 25) rfl rfl (by omega) ?_
    have hz509 := z_modb (x := a1) (y := a2) (by omega) (by omega)
    obtain ⟨z509, ez509⟩ : ∃ z, z = (a1 % a2) := ⟨_, rfl⟩
    rw [← ez509] at hz509 ⊢
    have hK515 : ∀ (v : Int) , ((-2147483648) ≤ v ∧ v ≤ 2147483647) → (if z509 = 0 then
        (z508)
        else
        (zn (zor z508 128) fun z511 =>
        z511)) = v → X (EE s) d 60 40 [(0, zr g0 27), (1, zi a1)] [zi v, zi a1, zr g0 27] m Q := by
      intro v512 hv512 hT516
      refine X.callv 43 [zi a1, zi v512] [] [(0, zr g0 27), (1, zi a1), (2, zi v512)] (zi60 40) rfl (by decide) rfl rfl (by omega) rfl rfl (by decide) rfl t62 (Nat.le_of_ble_eq_true rfl) (Nat.le_of_ble_eq_true rfl) rfl ?_
      refine c62_1 (B := B) g0 a1 v512 (by omega) (hJ.up (by omega)) (by omega) (by omega) (by omega) hf7 hgg0 (fun m517 hFv519 hJ518 => ?_)
      show X (EE s) d 60 43 [(0, zr g0 27), (1, zi a1)] [] m517 _
      exact hK523 m517 (Eq.trans (if_neg h504) (Eq.trans (zn_eq hFv507.symm) (Eq.trans (zn_eq ez508) (Eq.trans (zn_eq ez509) (Eq.trans (zn_eq hT516.symm) (Eq.trans (zs_eq hFv519.symm) rfl)))))) (hJ518.up (by omega))
    refine X.ifeq 38 29 (zi60 26) rfl rfl rfl (fun h510 => ?_) (fun h510 => ?_)
    · refine X.cut [(0, zr g0 27), (1, zi a1), (4, zi z508)] (zi60 38) rfl ?_
      refine X.iload 40 (zi60 38) rfl rfl rfl ?_
      refine X.cut [(0, zr g0 27), (1, zi a1)] (zi60 40) rfl ?_
      exact hK515 z508 (by first | trivial | omega) (Eq.trans (if_pos h510) rfl)
    · refine X.iload 31 (zi60 29) rfl rfl rfl ?_
      refine X.sipush 34 (zi60 31) rfl rfl (by decide) ?_
      refine X.iiE 35 .ior (fun x y => x ||| y) (zi60 34) rfl rfl rfl (fun _ _ => rfl) (fun z511 ez511 hz511 => ?_)
      refine X.goto 40 (zi60 35) rfl rfl ?_
      refine X.cut [(0, zr g0 27), (1, zi a1)] (zi60 40) rfl ?_
      exact hK515 z511 (by first | trivial | omega) (Eq.trans (if_neg h510) (Eq.trans (zn_eq ez511) rfl))
noncomputable def fl65_12_1_b (self : Int → Int) (k32 : Int → Int) (k59 : Int → Int) (k67 : Int) (g0 : Nat) (y1 y2 : Int) (m : zM) (y3 : Int) : Int :=
  if y1 ≤ y3 then
  (k67)
  else
  (zn (zandL (m g0 28 ((((((m g0 27 2) - 1) - y3) % 64) * 6) + 5)) 192) fun z512 =>
  if z512 = 0 then
  (if y3 ≤ 0 then
  (self (y3 + 1))
  else
  (zn (w64 ((m g0 28 ((((((m g0 27 2) - 1) - (y3 - 1)) % 64) * 6) + 0)) - (m g0 28 ((((((m g0 27 2) - 1) - y3) % 64) * 6) + 0)))) fun z516 =>
  if z516 = y2 then
  (self (y3 + 1))
  else
  (k59 y3)))
  else
  (k32 y3))
noncomputable def fl65_12_1 (k32 : Int → Int) (k59 : Int → Int) (k67 : Int) (g0 : Nat) (y1 y2 : Int) (m : zM) : Nat → Int → Int
  | 0 => fun y3 => 0
  | n + 1 => fl65_12_1_b (fl65_12_1 k32 k59 k67 g0 y1 y2 m n) k32 k59 k67 g0 y1 y2 m
theorem l65_12_1 {s : Nat × (Nat → Int32)} {S : zS} {m0 : zM} {m : zM} {B : Int} {d : Nat} {Q : Option zV → zM → Prop} {R0 : Int} {k32 : Int → Int} {k59 : Int → Int} {k67 : Int} (g0 : Nat) (y1 y2 : Int) (hd : 13 ≤ d) (hJ : J S m0 B m) (hB9 : B ≤ 1000000000) (hy1 : 1 ≤ y1 ∧ y1 ≤ 6) (hy2 : 1 ≤ y2 ∧ y2 ≤ 1000000)
    (K32 : ∀ (x3 : Int) , (0 ≤ x3 ∧ x3 ≤ 5) → (y1 ≤ m g0 27 2) → R0 = k32 x3 → X (EE s) d 65 32 [(0, zr g0 27), (1, zi y1), (2, zi y2), (3, zi x3)] [] m Q)
    (K59 : ∀ (x3 : Int) , (1 ≤ x3 ∧ x3 ≤ 5) → (y1 ≤ m g0 27 2) → R0 = k59 x3 → X (EE s) d 65 59 [(0, zr g0 27), (1, zi y1), (2, zi y2), (3, zi x3)] [] m Q)
    (K67 : (y1 ≤ m g0 27 2) → R0 = k67 → X (EE s) d 65 67 [] [] m Q) :
    ∀ (n : Nat) (y3 : Int) , (0 ≤ y3 ∧ y3 ≤ 6) → (y1 ≤ m g0 27 2) → 6 - y3 < (n : Int) → R0 = fl65_12_1 k32 k59 k67 g0 y1 y2 m n y3 → X (EE s) d 65 12 [(0, zr g0 27), (1, zi y1), (2, zi y2), (3, zi y3)] [] m Q := by
  intro n
  induction n with
  | zero =>
    intro y3 hy3 hr0 hn hR
    exfalso
    omega
  | succ n ih =>
    intro y3 hy3 hr0 hn hR
    replace hR : R0 = fl65_12_1_b (fl65_12_1 k32 k59 k67 g0 y1 y2 m n) k32 k59 k67 g0 y1 y2 m y3 := hR
    refine X.iload_n 13 (zi65 12) rfl rfl rfl ?_
    refine X.iload_n 14 (zi65 13) rfl rfl rfl ?_
    refine X.icmpge 67 17 (zi65 14) rfl rfl rfl (fun h510 => ?_) (fun h510 => ?_)
    · refine X.cut [] (zi65 67) rfl ?_
      exact K67  (by omega) (Eq.trans hR (Eq.trans (if_pos h510) rfl))
    · refine X.aload_n 18 (zi65 17) rfl rfl rfl ?_
      refine X.iload_n 19 (zi65 18) rfl rfl rfl ?_
      refine X.iconst 20 (zi65 19) rfl rfl (by decide) ?_
      refine X.callv 23 [zi y3, zi 5] [] [(0, zr g0 27), (1, zi y3), (2, zi 5)] (zi65 20) rfl (by decide) rfl rfl (by omega) rfl rfl (by decide) rfl t67 (Nat.le_of_ble_eq_true rfl) (Nat.le_of_ble_eq_true rfl) rfl ?_
      refine X.aload_n 1 (zi67 0) rfl rfl rfl ?_
      refine X.getR 4 (zi67 1) rfl rfl (by decide) rfl rfl ?_
      refine X.aload_n 5 (zi67 4) rfl rfl rfl ?_
      refine X.getI 8 2 (zi67 5) rfl rfl (by decide) rfl rfl rfl ?_
      have h511 := r27_2 hJ g0
      refine X.iconst 9 (zi67 8) rfl rfl (by decide) ?_
      refine X.isub 10 (zi67 9) rfl rfl (by omega) ?_
      refine X.iload_n 11 (zi67 10) rfl rfl rfl ?_
      refine X.isub 12 (zi67 11) rfl rfl (by omega) ?_
      refine X.bipush 14 (zi67 12) rfl rfl (by decide) ?_
      refine X.irem 15 (zi67 14) rfl rfl (by omega) ?_
      refine X.bipush 17 (zi67 15) rfl rfl (by decide) ?_
      refine X.imul 18 (zi67 17) rfl rfl (by omega) ?_
      refine X.iload_n 19 (zi67 18) rfl rfl rfl ?_
      refine X.iadd 20 (zi67 19) rfl rfl (by omega) ?_
      refine X.lald 21 (zi67 20) rfl rfl (by decide) rfl (by omega) ?_
      refine X.retl (zi67 21) rfl t67 ?_
      show X (EE s) d 65 23 [(0, zr g0 27), (1, zi y1), (2, zi y2), (3, zi y3)] [zl (m g0 28 ((((((m g0 27 2) - 1) - y3) % 64) * 6) + 5))] m _
      refine X.ldc2 26 (zi65 23) rfl rfl (by decide) ?_
      refine X.llE 27 .land (fun x y => x &&& y) (zi65 26) rfl rfl rfl (fun _ _ => rfl) (fun z512 ez512 hz512 => ?_)
      refine X.lconst (y := 0) 28 (zi65 27) rfl rfl rfl ?_
      refine X.lcmp 29 (zi65 28) rfl rfl (fun z513 hz513 => ?_)
      refine X.ifeq 34 32 (zi65 29) rfl rfl rfl (fun h514 => ?_) (fun h514 => ?_)
      · have h514c : z512 = 0 := by omega
        clear h514 hz513
        refine X.iload_n 35 (zi65 34) rfl rfl rfl ?_
        refine X.ifle 61 38 (zi65 35) rfl rfl rfl (fun h515 => ?_) (fun h515 => ?_)
        · refine X.iinc 64 [(0, zr g0 27), (1, zi y1), (2, zi y2), (3, zi (y3 + 1))] (zi65 61) rfl rfl rfl (by omega) rfl ?_
          refine X.goto 12 (zi65 64) rfl rfl ?_
          exact ih (y3 + 1) (by omega) (by omega) (by omega) (Eq.trans hR (Eq.trans (if_neg h510) (Eq.trans (zn_eq ez512) (Eq.trans (if_pos h514c) (Eq.trans (if_pos h515) rfl)))))
        · refine X.aload_n 39 (zi65 38) rfl rfl rfl ?_
          refine X.iload_n 40 (zi65 39) rfl rfl rfl ?_
          refine X.iconst 41 (zi65 40) rfl rfl (by decide) ?_
          refine X.isub 42 (zi65 41) rfl rfl (by omega) ?_
          refine X.iconst 43 (zi65 42) rfl rfl (by decide) ?_
          refine X.callv 46 [zi (y3 - 1), zi 0] [] [(0, zr g0 27), (1, zi (y3 - 1)), (2, zi 0)] (zi65 43) rfl (by decide) rfl rfl (by omega) rfl rfl (by decide) rfl t67 (Nat.le_of_ble_eq_true rfl) (Nat.le_of_ble_eq_true rfl) rfl ?_
          refine X.aload_n 1 (zi67 0) rfl rfl rfl ?_
          refine X.getR 4 (zi67 1) rfl rfl (by decide) rfl rfl ?_
          refine X.aload_n 5 (zi67 4) rfl rfl rfl ?_
          refine X.getI 8 2 (zi67 5) rfl rfl (by decide) rfl rfl rfl ?_
          refine X.iconst 9 (zi67 8) rfl rfl (by decide) ?_
          refine X.isub 10 (zi67 9) rfl rfl (by omega) ?_
          refine X.iload_n 11 (zi67 10) rfl rfl rfl ?_
          refine X.isub 12 (zi67 11) rfl rfl (by omega) ?_
          refine X.bipush 14 (zi67 12) rfl rfl (by decide) ?_
          refine X.irem 15 (zi67 14) rfl rfl (by omega) ?_
          refine X.bipush 17 (zi67 15) rfl rfl (by decide) ?_
          refine X.imul 18 (zi67 17) rfl rfl (by omega) ?_
          refine X.iload_n 19 (zi67 18) rfl rfl rfl ?_
          refine X.iadd 20 (zi67 19) rfl rfl (by omega) ?_
          refine X.lald 21 (zi67 20) rfl rfl (by decide) rfl (by omega) ?_
          refine X.retl (zi67 21) rfl t67 ?_
          show X (EE s) d 65 46 [(0, zr g0 27), (1, zi y1), (2, zi y2), (3, zi y3)] [zl (m g0 28 ((((((m g0 27 2) - 1) - (y3 - 1)) % 64) * 6) + 0))] m _
          refine X.aload_n 47 (zi65 46) rfl rfl rfl ?_
          refine X.iload_n 48 (zi65 47) rfl rfl rfl ?_
          refine X.iconst 49 (zi65 48) rfl rfl (by decide) ?_
          refine X.callv 52 [zi y3, zi 0] [zl (m g0 28 ((((((m g0 27 2) - 1) - (y3 - 1)) % 64) * 6) + 0))] [(0, zr g0 27), (1, zi y3), (2, zi 0)] (zi65 49) rfl (by decide) rfl rfl (by omega) rfl rfl (by decide) rfl t67 (Nat.le_of_ble_eq_true rfl) (Nat.le_of_ble_eq_true rfl) rfl ?_
          refine X.aload_n 1 (zi67 0) rfl rfl rfl ?_
          refine X.getR 4 (zi67 1) rfl rfl (by decide) rfl rfl ?_
          refine X.aload_n 5 (zi67 4) rfl rfl rfl ?_
          refine X.getI 8 2 (zi67 5) rfl rfl (by decide) rfl rfl rfl ?_
          refine X.iconst 9 (zi67 8) rfl rfl (by decide) ?_
          refine X.isub 10 (zi67 9) rfl rfl (by omega) ?_
          refine X.iload_n 11 (zi67 10) rfl rfl rfl ?_
          refine X.isub 12 (zi67 11) rfl rfl (by omega) ?_
          refine X.bipush 14 (zi67 12) rfl rfl (by decide) ?_
          refine X.irem 15 (zi67 14) rfl rfl (by omega) ?_
          refine X.bipush 17 (zi67 15) rfl rfl (by decide) ?_
          refine X.imul 18 (zi67 17) rfl rfl (by omega) ?_
          refine X.iload_n 19 (zi67 18) rfl rfl rfl ?_
          refine X.iadd 20 (zi67 19) rfl rfl (by omega) ?_
          refine X.lald 21 (zi67 20) rfl rfl (by decide) rfl (by omega) ?_
          refine X.retl (zi67 21) rfl t67 ?_
          show X (EE s) d 65 52 [(0, zr g0 27), (1, zi y1), (2, zi y2), (3, zi y3)] [zl (m g0 28 ((((((m g0 27 2) - 1) - y3) % 64) * 6) + 0)), zl (m g0 28 ((((((m g0 27 2) - 1) - (y3 - 1)) % 64) * 6) + 0))] m _
          refine X.lsubW 53 (zi65 52) rfl rfl (fun z516 ez516 hz516 => ?_)
          refine X.iload_n 54 (zi65 53) rfl rfl rfl ?_
          refine X.i2l 55 (zi65 54) rfl rfl ?_
          refine X.lcmp 56 (zi65 55) rfl rfl (fun z517 hz517 => ?_)
          refine X.ifeq 61 59 (zi65 56) rfl rfl rfl (fun h518 => ?_) (fun h518 => ?_)
          · have h518c : z516 = y2 := by omega
            clear h518 hz517
            refine X.iinc 64 [(0, zr g0 27), (1, zi y1), (2, zi y2), (3, zi (y3 + 1))] (zi65 61) rfl rfl rfl (by omega) rfl ?_
            refine X.goto 12 (zi65 64) rfl rfl ?_
            exact ih (y3 + 1) (by omega) (by omega) (by omega) (Eq.trans hR (Eq.trans (if_neg h510) (Eq.trans (zn_eq ez512) (Eq.trans (if_pos h514c) (Eq.trans (if_neg h515) (Eq.trans (zn_eq ez516) (Eq.trans (if_pos h518c) rfl)))))))
          · have h518c : ¬ z516 = y2 := by omega
            clear h518 hz517
            exact K59 y3 (by first | trivial | omega) (by omega) (Eq.trans hR (Eq.trans (if_neg h510) (Eq.trans (zn_eq ez512) (Eq.trans (if_pos h514c) (Eq.trans (if_neg h515) (Eq.trans (zn_eq ez516) (Eq.trans (if_neg h518c) rfl)))))))
      · have h514c : ¬ z512 = 0 := by omega
        clear h514 hz513
        exact K32 y3 (by first | trivial | omega) (by omega) (Eq.trans hR (Eq.trans (if_neg h510) (Eq.trans (zn_eq ez512) (Eq.trans (if_neg h514c) rfl))))
-- WorkMeter$Demand.windowIsWhole
noncomputable def f65_1 (g0 : Nat) (a1 a2 : Int) (m : zM) : Int :=
  if a1 ≤ (min (m g0 27 2) 64) then
  (fl65_12_1 (fun y503 =>
  0) (fun y508 =>
  0) (1) g0 a1 a2 m (zfu 7) 0)
  else
  (0)
-- WorkMeter$Demand.windowIsWhole
theorem c65_1 {s : Nat × (Nat → Int32)} {S : zS} {m0 m : zM} {B : Int} {d : Nat} {Q : Option zV → zM → Prop} (g0 : Nat) (a1 a2 : Int) (hd : 14 ≤ d) (hJ : J S m0 B m) (hB : B + 0 ≤ 1000000000) (ha1 : 1 ≤ a1 ∧ a1 ≤ 6) (ha2 : 1 ≤ a2 ∧ a2 ≤ 1000000) (hQ : ∀ (v : Int), (0 ≤ v ∧ v ≤ 1) → f65_1 g0 a1 a2 m = v → (v = 1 → a1 ≤ m g0 27 2) → Q (some (zi v)) m) : X (EE s) d 65 0 [(0, zr g0 27), (1, zi a1), (2, zi a2)] [] m Q := by
  refine X.aload_n 1 (zi65 0) rfl rfl rfl ?_
  refine X.callv 4 [] [] [(0, zr g0 27)] (zi65 1) rfl (by decide) rfl rfl (by omega) rfl rfl (by decide) rfl t66 (Nat.le_of_ble_eq_true rfl) (Nat.le_of_ble_eq_true rfl) rfl ?_
  refine X.aload_n 1 (zi66 0) rfl rfl rfl ?_
  refine X.getI 4 2 (zi66 1) rfl rfl (by decide) rfl rfl rfl ?_
  have h501 := r27_2 hJ g0
  refine X.bipush 6 (zi66 4) rfl rfl (by decide) ?_
  refine X.minI 9 (zi66 6) rfl rfl (by omega) (Nat.le_of_ble_eq_true rfl) ?_
  refine X.reti (zi66 9) rfl t66 ?_
  show X (EE s) d 65 4 [(0, zr g0 27), (1, zi a1), (2, zi a2)] [zi (min (m g0 27 2) 64)] m _
  refine X.iload_n 5 (zi65 4) rfl rfl rfl ?_
  refine X.icmpge 10 8 (zi65 5) rfl rfl rfl (fun h502 => ?_) (fun h502 => ?_)
  · refine X.iconst 11 (zi65 10) rfl rfl (by decide) ?_
    refine X.istore_n 12 [(0, zr g0 27), (1, zi a1), (2, zi a2), (3, zi 0)] (zi65 11) rfl rfl rfl ?_
    have hz7 := zfu_eq 7
    refine l65_12_1 (s := s) (m := m) (B := B) (d := d) (R0 := (f65_1 g0 a1 a2 m)) g0 a1 a2  (by omega) (hJ.up (by omega)) (by omega) (by omega) (by omega) (fun y503 hby503 hrlm504_0 hR507 => ?_) (fun y508 hby508 hrlm509_0 hR512 => ?_) (fun  hrlm513_0 hR516 => ?_) (zfu 7) 0 (by omega) (by omega) (by omega) (Eq.trans (if_pos h502) rfl)
    · refine X.iconst 33 (zi65 32) rfl rfl (by decide) ?_
      refine X.retz (zi65 33) rfl t65 (by omega) ?_
      exact hQ 0 (by first | trivial | omega) (Eq.trans hR507 rfl) (by omega)
    · refine X.iconst 60 (zi65 59) rfl rfl (by decide) ?_
      refine X.retz (zi65 60) rfl t65 (by omega) ?_
      exact hQ 0 (by first | trivial | omega) (Eq.trans hR512 rfl) (by omega)
    · refine X.iconst 68 (zi65 67) rfl rfl (by decide) ?_
      refine X.retz (zi65 68) rfl t65 (by omega) ?_
      exact hQ 1 (by first | trivial | omega) (Eq.trans hR516 rfl) (by omega)
  · refine X.iconst 9 (zi65 8) rfl rfl (by decide) ?_
    refine X.retz (zi65 9) rfl t65 (by omega) ?_
    exact hQ 0 (by first | trivial | omega) (Eq.trans (if_neg h502) rfl) (by omega)
noncomputable def fl68_5_1_b (self : Int → Int → Int) (k29 : Int → Int) (g0 : Nat) (y1 y2 : Int) (m : zM) (y3 y5 : Int) : Int :=
  if (y1 + y2) ≤ y5 then
  (k29 y3)
  else
  (zn (w64 (y3 + (m g0 28 ((((((m g0 27 2) - 1) - y5) % 64) * 6) + 1)))) fun z509 =>
  self z509 (y5 + 1))
noncomputable def fl68_5_1 (k29 : Int → Int) (g0 : Nat) (y1 y2 : Int) (m : zM) : Nat → Int → Int → Int
  | 0 => fun y3 y5 => 0
  | n + 1 => fl68_5_1_b (fl68_5_1 k29 g0 y1 y2 m n) k29 g0 y1 y2 m
theorem l68_5_1 {s : Nat × (Nat → Int32)} {S : zS} {m0 : zM} {m : zM} {B : Int} {d : Nat} {Q : Option zV → zM → Prop} {R0 : Int} {k29 : Int → Int} (g0 : Nat) (y1 y2 : Int) (hd : 13 ≤ d) (hJ : J S m0 B m) (hB9 : B ≤ 1000000000) (hy1 : 0 ≤ y1 ∧ y1 ≤ 63) (hy2 : 1 ≤ y2 ∧ y2 ≤ 64)
    (K29 : ∀ (x3 : Int) , (True) → (y1 + y2 ≤ m g0 27 2) → R0 = k29 x3 → X (EE s) d 68 29 [(3, zl x3)] [] m Q) :
    ∀ (n : Nat) (y3 y5 : Int) , (0 ≤ y5 ∧ y5 ≤ 127) → (y1 ≤ y5) → (y1 + y2 ≤ m g0 27 2) → 127 - y5 < (n : Int) → R0 = fl68_5_1 k29 g0 y1 y2 m n y3 y5 → X (EE s) d 68 5 [(0, zr g0 27), (1, zi y1), (2, zi y2), (3, zl y3), (5, zi y5)] [] m Q := by
  intro n
  induction n with
  | zero =>
    intro y3 y5 hy5 hr0 hr1 hn hR
    exfalso
    omega
  | succ n ih =>
    intro y3 y5 hy5 hr0 hr1 hn hR
    replace hR : R0 = fl68_5_1_b (fl68_5_1 k29 g0 y1 y2 m n) k29 g0 y1 y2 m y3 y5 := hR
    refine X.iload 7 (zi68 5) rfl rfl rfl ?_
    refine X.iload_n 8 (zi68 7) rfl rfl rfl ?_
    refine X.iload_n 9 (zi68 8) rfl rfl rfl ?_
    refine X.iadd 10 (zi68 9) rfl rfl (by omega) ?_
    refine X.icmpge 29 13 (zi68 10) rfl rfl rfl (fun h507 => ?_) (fun h507 => ?_)
    · refine X.cut [(3, zl y3)] (zi68 29) rfl ?_
      exact K29 y3 (by first | trivial | omega) (by omega) (Eq.trans hR (Eq.trans (if_pos h507) rfl))
    · refine X.lload_n 14 (zi68 13) rfl rfl rfl ?_
      refine X.aload_n 15 (zi68 14) rfl rfl rfl ?_
      refine X.iload 17 (zi68 15) rfl rfl rfl ?_
      refine X.iconst 18 (zi68 17) rfl rfl (by decide) ?_
      refine X.callv 21 [zi y5, zi 1] [zl y3] [(0, zr g0 27), (1, zi y5), (2, zi 1)] (zi68 18) rfl (by decide) rfl rfl (by omega) rfl rfl (by decide) rfl t67 (Nat.le_of_ble_eq_true rfl) (Nat.le_of_ble_eq_true rfl) rfl ?_
      refine X.aload_n 1 (zi67 0) rfl rfl rfl ?_
      refine X.getR 4 (zi67 1) rfl rfl (by decide) rfl rfl ?_
      refine X.aload_n 5 (zi67 4) rfl rfl rfl ?_
      refine X.getI 8 2 (zi67 5) rfl rfl (by decide) rfl rfl rfl ?_
      have h508 := r27_2 hJ g0
      refine X.iconst 9 (zi67 8) rfl rfl (by decide) ?_
      refine X.isub 10 (zi67 9) rfl rfl (by omega) ?_
      refine X.iload_n 11 (zi67 10) rfl rfl rfl ?_
      refine X.isub 12 (zi67 11) rfl rfl (by omega) ?_
      refine X.bipush 14 (zi67 12) rfl rfl (by decide) ?_
      refine X.irem 15 (zi67 14) rfl rfl (by omega) ?_
      refine X.bipush 17 (zi67 15) rfl rfl (by decide) ?_
      refine X.imul 18 (zi67 17) rfl rfl (by omega) ?_
      refine X.iload_n 19 (zi67 18) rfl rfl rfl ?_
      refine X.iadd 20 (zi67 19) rfl rfl (by omega) ?_
      refine X.lald 21 (zi67 20) rfl rfl (by decide) rfl (by omega) ?_
      refine X.retl (zi67 21) rfl t67 ?_
      show X (EE s) d 68 21 [(0, zr g0 27), (1, zi y1), (2, zi y2), (3, zl y3), (5, zi y5)] [zl (m g0 28 ((((((m g0 27 2) - 1) - y5) % 64) * 6) + 1)), zl y3] m _
      refine X.laddW 22 (zi68 21) rfl rfl (fun z509 ez509 hz509 => ?_)
      refine X.lstore_n 23 [(0, zr g0 27), (1, zi y1), (2, zi y2), (3, zl z509), (5, zi y5)] (zi68 22) rfl rfl rfl ?_
      refine X.iinc 26 [(0, zr g0 27), (1, zi y1), (2, zi y2), (3, zl z509), (5, zi (y5 + 1))] (zi68 23) rfl rfl rfl (by omega) rfl ?_
      refine X.goto 5 (zi68 26) rfl rfl ?_
      exact ih z509 (y5 + 1) (by omega) (by omega) (by omega) (by omega) (Eq.trans hR (Eq.trans (if_neg h507) (Eq.trans (zn_eq ez509) rfl)))
-- WorkMeter$Load.importOf
noncomputable def f68_1 (g0 : Nat) (a1 a2 : Int) (m : zM) : Int :=
  fl68_5_1 (fun y501 =>
  y501) g0 a1 a2 m (zfu 128) 0 a1
-- WorkMeter$Load.importOf
theorem c68_1 {s : Nat × (Nat → Int32)} {S : zS} {m0 m : zM} {B : Int} {d : Nat} {Q : Option zV → zM → Prop} (g0 : Nat) (a1 a2 : Int) (hd : 13 ≤ d) (hJ : J S m0 B m) (hB : B + 0 ≤ 1000000000) (ha1 : 0 ≤ a1 ∧ a1 ≤ 63) (ha2 : 1 ≤ a2 ∧ a2 ≤ 64) (hp0 : 0 ≤ a1) (hp1 : a1 + a2 ≤ m g0 27 2) (hQ : ∀ (v : Int), (True) → f68_1 g0 a1 a2 m = v → Q (some (zl v)) m) : X (EE s) d 68 0 [(0, zr g0 27), (1, zi a1), (2, zi a2)] [] m Q := by
  refine X.lconst (y := 0) 1 (zi68 0) rfl rfl rfl ?_
  refine X.lstore_n 2 [(0, zr g0 27), (1, zi a1), (2, zi a2), (3, zl 0)] (zi68 1) rfl rfl rfl ?_
  refine X.iload_n 3 (zi68 2) rfl rfl rfl ?_
  refine X.istore 5 [(0, zr g0 27), (1, zi a1), (2, zi a2), (3, zl 0), (5, zi a1)] (zi68 3) rfl rfl rfl ?_
  have hz128 := zfu_eq 128
  refine l68_5_1 (s := s) (m := m) (B := B) (d := d) (R0 := (f68_1 g0 a1 a2 m)) g0 a1 a2  (by omega) (hJ.up (by omega)) (by omega) (by omega) (by omega) (fun y501 hby501 hrlm502_0 hR505 => ?_) (zfu 128) 0 a1 (by omega) (by omega) (by omega) (by omega) rfl
  refine X.lload_n 30 (zi68 29) rfl rfl rfl ?_
  refine X.retl (zi68 30) rfl t68 ?_
  exact hQ y501 (by first | trivial | omega) (Eq.trans hR505 rfl) 
-- WorkMeter$Demand.blockEnded
noncomputable def f64_1 (g0 g1 : Nat) (a2 a3 a4 : Int) (m : zM) : zM :=
  zn (f65_1 g1 a2 a3 m) fun v503 =>
  if v503 = 0 then
  (m)
  else
  (zn (f68_1 g1 0 a2 m) fun v507 =>
  zs (z_upd m g0 30 2 v507) fun m508 =>
  zn (w32 (m508 g1 28 ((((((m508 g1 27 2) - 1) - 0) % 64) * 6) + 0))) fun z511 =>
  zs (z_upd m508 g0 30 3 z511) fun m512 =>
  zs (if (m512 g0 30 2) ≤ (m512 g0 31 a4) then
  (m512)
  else
  (zs (z_upd m512 g0 31 a4 (m512 g0 30 2)) fun m516 =>
  zs (z_upd m516 g0 32 a4 (m516 g0 30 3)) fun m519 =>
  m519)) fun m522 =>
  m522)
-- WorkMeter$Demand.blockEnded
theorem c64_1 {s : Nat × (Nat → Int32)} {S : zS} {m0 m : zM} {B : Int} {d : Nat} {Q : Option zV → zM → Prop} (g0 g1 : Nat) (a2 a3 a4 : Int) (hd : 15 ≤ d) (hJ : J S m0 B m) (hB : B + 0 ≤ 1000000000) (ha2 : 1 ≤ a2 ∧ a2 ≤ 6) (ha3 : 1 ≤ a3 ∧ a3 ≤ 1000000) (ha4 : 0 ≤ a4 ∧ a4 ≤ 3) (hf8 : ¬ S.1 8) (hgg0 : ¬ S.2.1 g0) (hQ : ∀ m', f64_1 g0 g1 a2 a3 a4 m = m' → J S m0 (B) m' → Q none m') : X (EE s) d 64 0 [(0, zr g0 30), (1, zr g1 27), (2, zi a2), (3, zi a3), (4, zi a4)] [] m Q := by
  refine X.aload_n 1 (zi64 0) rfl rfl rfl ?_
  refine X.iload_n 2 (zi64 1) rfl rfl rfl ?_
  refine X.iload_n 3 (zi64 2) rfl rfl rfl ?_
  refine X.calls 6 [zr g1 27, zi a2, zi a3] [] [(0, zr g1 27), (1, zi a2), (2, zi a3)] (zi64 3) (by decide) rfl rfl (by omega) rfl rfl t65 (Nat.le_of_ble_eq_true rfl) (Nat.le_of_ble_eq_true rfl) rfl ?_
  refine c65_1 (B := B) g1 a2 a3 (by omega) (hJ.up (by omega)) (by omega) (by omega) (by omega) (fun v503 hv503 hFv503 hqv503_0 => ?_)
  show X (EE s) d 64 6 [(0, zr g0 30), (1, zr g1 27), (2, zi a2), (3, zi a3), (4, zi a4)] [zi v503] m _
  refine X.ifne 10 9 (zi64 6) rfl rfl rfl (fun h504 => ?_) (fun h504 => ?_)
  · refine X.cut [(0, zr g0 30), (1, zr g1 27), (2, zi a2), (4, zi a4)] (zi64 10) rfl ?_
    refine X.aload_n 11 (zi64 10) rfl rfl rfl ?_
    refine X.aload_n 12 (zi64 11) rfl rfl rfl ?_
    refine X.iconst 13 (zi64 12) rfl rfl (by decide) ?_
    refine X.iload_n 14 (zi64 13) rfl rfl rfl ?_
    refine X.callv 17 [zi 0, zi a2] [zr g0 30] [(0, zr g1 27), (1, zi 0), (2, zi a2)] (zi64 14) rfl (by decide) rfl rfl (by omega) rfl rfl (by decide) rfl t68 (Nat.le_of_ble_eq_true rfl) (Nat.le_of_ble_eq_true rfl) rfl ?_
    refine c68_1 (B := B) g1 0 a2 (by omega) (hJ.up (by omega)) (by omega) (by omega) (by omega) (by omega) (by omega) (fun v507 hv507 hFv507 => ?_)
    show X (EE s) d 64 17 [(0, zr g0 30), (1, zr g1 27), (2, zi a2), (4, zi a4)] [zl v507, zr g0 30] m _
    refine X.putL' 20 2 (zi64 17) rfl rfl (by decide) rfl rfl rfl (fun hrm508 m508 hm508 => ?_)
    have hJ509 := w30_0 hJ hm508 (by omega) hrm508 hf8 hgg0
    have wtm508_0 : m508 g1 27 2 = m g1 27 2 := by rw [hm508]; exact z_upd_o _ _ rfl
    refine X.aload_n 21 (zi64 20) rfl rfl rfl ?_
    refine X.aload_n 22 (zi64 21) rfl rfl rfl ?_
    refine X.iconst 23 (zi64 22) rfl rfl (by decide) ?_
    refine X.iconst 24 (zi64 23) rfl rfl (by decide) ?_
    refine X.callv 27 [zi 0, zi 0] [zr g0 30] [(0, zr g1 27), (1, zi 0), (2, zi 0)] (zi64 24) rfl (by decide) rfl rfl (by omega) rfl rfl (by decide) rfl t67 (Nat.le_of_ble_eq_true rfl) (Nat.le_of_ble_eq_true rfl) rfl ?_
    refine X.aload_n 1 (zi67 0) rfl rfl rfl ?_
    refine X.getR 4 (zi67 1) rfl rfl (by decide) rfl rfl ?_
    refine X.aload_n 5 (zi67 4) rfl rfl rfl ?_
    refine X.getI 8 2 (zi67 5) rfl rfl (by decide) rfl rfl rfl ?_
    have h510 := r27_2 hJ509 g1
    refine X.iconst 9 (zi67 8) rfl rfl (by decide) ?_
    refine X.isub 10 (zi67 9) rfl rfl (by omega) ?_
    refine X.iload_n 11 (zi67 10) rfl rfl rfl ?_
    refine X.isub 12 (zi67 11) rfl rfl (by omega) ?_
    refine X.bipush 14 (zi67 12) rfl rfl (by decide) ?_
    refine X.irem 15 (zi67 14) rfl rfl (by omega) ?_
    refine X.bipush 17 (zi67 15) rfl rfl (by decide) ?_
    refine X.imul 18 (zi67 17) rfl rfl (by omega) ?_
    refine X.iload_n 19 (zi67 18) rfl rfl rfl ?_
    refine X.iadd 20 (zi67 19) rfl rfl (by omega) ?_
    refine X.lald 21 (zi67 20) rfl rfl (by decide) rfl (by omega) ?_
    refine X.retl (zi67 21) rfl t67 ?_
    show X (EE s) d 64 27 [(0, zr g0 30), (1, zr g1 27), (2, zi a2), (4, zi a4)] [zl (m508 g1 28 ((((((m508 g1 27 2) - 1) - 0) % 64) * 6) + 0)), zr g0 30] m508 _
    refine X.l2iW 28 (zi64 27) rfl rfl (fun z511 ez511 hz511 => ?_)
    refine X.putI' 31 3 (zi64 28) rfl rfl (by decide) rfl rfl rfl (fun hrm512 m512 hm512 => ?_)
    have hJ513 := w30_0 hJ509 hm512 (by omega) hrm512 hf8 hgg0
    have wtm512_0 : m512 g1 27 2 = m508 g1 27 2 := by rw [hm512]; exact z_upd_o _ _ rfl
    refine X.aload_n 32 (zi64 31) rfl rfl rfl ?_
    refine X.getL 35 2 (zi64 32) rfl rfl (by decide) rfl rfl rfl ?_
    refine X.aload_n 36 (zi64 35) rfl rfl rfl ?_
    refine X.getR 39 (zi64 36) rfl rfl (by decide) rfl rfl ?_
    refine X.iload 41 (zi64 39) rfl rfl rfl ?_
    refine X.lald 42 (zi64 41) rfl rfl (by decide) rfl (by omega) ?_
    refine X.lcmp 43 (zi64 42) rfl rfl (fun z514 hz514 => ?_)
    have hK524 : ∀ (m' : zM), (if (m512 g0 30 2) ≤ (m512 g0 31 a4) then
        (m512)
        else
        (zs (z_upd m512 g0 31 a4 (m512 g0 30 2)) fun m516 =>
        zs (z_upd m516 g0 32 a4 (m516 g0 30 3)) fun m519 =>
        m519)) = m' → J S m0 (B) m' → X (EE s) d 64 68 [] [] m' Q := by
      intro m522 hT525 hJ523
      refine X.retv (zi64 68) rfl t64 ?_
      exact hQ  m522  (Eq.trans (zn_eq hFv503.symm) (Eq.trans (if_neg h504) (Eq.trans (zn_eq hFv507.symm) (Eq.trans (zs_eq hm508) (Eq.trans (zn_eq ez511) (Eq.trans (zs_eq hm512) (Eq.trans (zs_eq hT525.symm) rfl))))))) (hJ523.up (by omega)) 
    refine X.ifle 68 46 (zi64 43) rfl rfl rfl (fun h515 => ?_) (fun h515 => ?_)
    · have h515c : (m512 g0 30 2) ≤ (m512 g0 31 a4) := by omega
      clear h515 hz514
      refine X.cut [] (zi64 68) rfl ?_
      exact hK524 m512 (Eq.trans (if_pos h515c) rfl) (hJ513.up (by omega))
    · have h515c : ¬ (m512 g0 30 2) ≤ (m512 g0 31 a4) := by omega
      clear h515 hz514
      refine X.aload_n 47 (zi64 46) rfl rfl rfl ?_
      refine X.getR 50 (zi64 47) rfl rfl (by decide) rfl rfl ?_
      refine X.iload 52 (zi64 50) rfl rfl rfl ?_
      refine X.aload_n 53 (zi64 52) rfl rfl rfl ?_
      refine X.getL 56 2 (zi64 53) rfl rfl (by decide) rfl rfl rfl ?_
      refine X.last' 57 (zi64 56) rfl rfl (by decide) rfl (by omega) (fun hrm516 m516 hm516 => ?_)
      have hJ517 := w31_0 hJ513 hm516 (by omega) hrm516 hf8 hgg0
      have wtm516_0 : m516 g1 27 2 = m512 g1 27 2 := by rw [hm516]; exact z_upd_o _ _ rfl
      refine X.aload_n 58 (zi64 57) rfl rfl rfl ?_
      refine X.getR 61 (zi64 58) rfl rfl (by decide) rfl rfl ?_
      refine X.iload 63 (zi64 61) rfl rfl rfl ?_
      refine X.aload_n 64 (zi64 63) rfl rfl rfl ?_
      refine X.getIr 67 3 (zi64 64) rfl rfl (by decide) rfl rfl rfl (fun h518 => ?_)
      refine X.iast' 68 (zi64 67) rfl rfl (by decide) rfl (by omega) (fun hrm519 m519 hm519 => ?_)
      have hJ520 := w32_0 hJ517 hm519 (by omega) hrm519 hf8 hgg0
      have wtm519_0 : m519 g1 27 2 = m516 g1 27 2 := by rw [hm519]; exact z_upd_o _ _ rfl
      refine X.cut [] (zi64 68) rfl ?_
      exact hK524 m519 (Eq.trans (if_neg h515c) (Eq.trans (zs_eq hm516) (Eq.trans (zs_eq hm519) rfl))) (hJ520.up (by omega))
  · refine X.retv (zi64 9) rfl t64 ?_
    exact hQ  m  (Eq.trans (zn_eq hFv503.symm) (Eq.trans (if_pos h504) rfl)) (hJ.up (by omega)) 
-- WorkMeter$Meter.endBlockIfDue
noncomputable def f59_1 (g0 : Nat) (a1 : Int) (m : zM) : zM :=
  zn (((m g0 8 9) % (max 1 (m g0 10 4)))) fun z503 =>
  zs (if z503 = 0 then
  (zs (f60_1 g0 (m g0 8 9) (max 1 (m g0 10 4)) 0 m) fun m505 =>
  zs (f64_1 g0 g0 (m505 g0 10 5) (max 1 (m g0 10 4)) a1 m505) fun m509 =>
  m509)
  else
  (m)) fun m513 =>
  m513
-- WorkMeter$Meter.endBlockIfDue
theorem c59_1 {s : Nat × (Nat → Int32)} {S : zS} {m0 m : zM} {B : Int} {d : Nat} {Q : Option zV → zM → Prop} (g0 : Nat) (a1 : Int) (hd : 16 ≤ d) (hJ : J S m0 B m) (hB : B + 1 ≤ 1000000000) (ha1 : 0 ≤ a1 ∧ a1 ≤ 3) (hf7 : ¬ S.1 7) (hf8 : ¬ S.1 8) (hgg0 : ¬ S.2.1 g0) (hQ : ∀ m', f59_1 g0 a1 m = m' → J S m0 (B + 1) m' → Q none m') : X (EE s) d 59 0 [(0, zr g0 8), (1, zi a1)] [] m Q := by
  refine X.aload_n 1 (zi59 0) rfl rfl rfl ?_
  refine X.getR 4 (zi59 1) rfl rfl (by decide) rfl rfl ?_
  refine X.callv 7 [] [] [(0, zr g0 9)] (zi59 4) rfl (by decide) rfl rfl (by omega) rfl rfl (by decide) rfl t36 (Nat.le_of_ble_eq_true rfl) (Nat.le_of_ble_eq_true rfl) rfl ?_
  refine X.iconst 1 (zi36 0) rfl rfl (by decide) ?_
  refine X.aload_n 2 (zi36 1) rfl rfl rfl ?_
  refine X.getR 5 (zi36 2) rfl rfl (by decide) rfl rfl ?_
  refine X.iconst 6 (zi36 5) rfl rfl (by decide) ?_
  refine X.iald 7 (zi36 6) rfl rfl (by decide) rfl (by omega) ?_
  have h501 := r10_0 hJ g0 (i := 4) (by omega)
  refine X.maxI 10 (zi36 7) rfl rfl (by omega) (Nat.le_of_ble_eq_true rfl) ?_
  refine X.reti (zi36 10) rfl t36 ?_
  show X (EE s) d 59 7 [(0, zr g0 8), (1, zi a1)] [zi (max 1 (m g0 10 4))] m _
  refine X.istore_n 8 [(0, zr g0 8), (1, zi a1), (2, zi (max 1 (m g0 10 4)))] (zi59 7) rfl rfl rfl ?_
  refine X.aload_n 9 (zi59 8) rfl rfl rfl ?_
  refine X.getI 12 9 (zi59 9) rfl rfl (by decide) rfl rfl rfl ?_
  have h502 := r8_9 hJ g0
  refine X.iload_n 13 (zi59 12) rfl rfl rfl ?_
  refine X.irem 14 (zi59 13) rfl rfl (by omega) ?_
  have hz503 := z_modb (x := (m g0 8 9)) (y := (max 1 (m g0 10 4))) (by omega) (by omega)
  obtain ⟨z503, ez503⟩ : ∃ z, z = ((m g0 8 9) % (max 1 (m g0 10 4))) := ⟨_, rfl⟩
  rw [← ez503] at hz503 ⊢
  have hK515 : ∀ (m' : zM), (if z503 = 0 then
      (zs (f60_1 g0 (m g0 8 9) (max 1 (m g0 10 4)) 0 m) fun m505 =>
      zs (f64_1 g0 g0 (m505 g0 10 5) (max 1 (m g0 10 4)) a1 m505) fun m509 =>
      m509)
      else
      (m)) = m' → J S m0 (B + 1) m' → X (EE s) d 59 50 [] [] m' Q := by
    intro m513 hT516 hJ514
    refine X.retv (zi59 50) rfl t59 ?_
    exact hQ  m513  (Eq.trans (zn_eq ez503) (Eq.trans (zs_eq hT516.symm) rfl)) (hJ514.up (by omega)) 
  refine X.ifne 50 17 (zi59 14) rfl rfl rfl (fun h504 => ?_) (fun h504 => ?_)
  · refine X.cut [] (zi59 50) rfl ?_
    exact hK515 m (Eq.trans (if_neg h504) rfl) (hJ.up (by omega))
  · refine X.aload_n 18 (zi59 17) rfl rfl rfl ?_
    refine X.getR 21 (zi59 18) rfl rfl (by decide) rfl rfl ?_
    refine X.aload_n 22 (zi59 21) rfl rfl rfl ?_
    refine X.getI 25 9 (zi59 22) rfl rfl (by decide) rfl rfl rfl ?_
    refine X.iload_n 26 (zi59 25) rfl rfl rfl ?_
    refine X.iconst 27 (zi59 26) rfl rfl (by decide) ?_
    refine X.callv 30 [zi (m g0 8 9), zi (max 1 (m g0 10 4)), zi 0] [] [(0, zr g0 27), (1, zi (m g0 8 9)), (2, zi (max 1 (m g0 10 4))), (3, zi 0)] (zi59 27) rfl (by decide) rfl rfl (by omega) rfl rfl (by decide) rfl t60 (Nat.le_of_ble_eq_true rfl) (Nat.le_of_ble_eq_true rfl) rfl ?_
    refine c60_1 (B := B) g0 (m g0 8 9) (max 1 (m g0 10 4)) 0 (by omega) (hJ.up (by omega)) (by omega) (by omega) (by omega) (by omega) hf7 hgg0 (fun m505 hFv507 hJ506 => ?_)
    show X (EE s) d 59 30 [(0, zr g0 8), (1, zi a1), (2, zi (max 1 (m g0 10 4)))] [] m505 _
    refine X.aload_n 31 (zi59 30) rfl rfl rfl ?_
    refine X.getR 34 (zi59 31) rfl rfl (by decide) rfl rfl ?_
    refine X.aload_n 35 (zi59 34) rfl rfl rfl ?_
    refine X.getR 38 (zi59 35) rfl rfl (by decide) rfl rfl ?_
    refine X.aload_n 39 (zi59 38) rfl rfl rfl ?_
    refine X.getR 42 (zi59 39) rfl rfl (by decide) rfl rfl ?_
    refine X.callv 45 [] [zr g0 27, zr g0 30] [(0, zr g0 9)] (zi59 42) rfl (by decide) rfl rfl (by omega) rfl rfl (by decide) rfl t63 (Nat.le_of_ble_eq_true rfl) (Nat.le_of_ble_eq_true rfl) rfl ?_
    refine X.aload_n 1 (zi63 0) rfl rfl rfl ?_
    refine X.getR 4 (zi63 1) rfl rfl (by decide) rfl rfl ?_
    refine X.iconst 5 (zi63 4) rfl rfl (by decide) ?_
    refine X.iald 6 (zi63 5) rfl rfl (by decide) rfl (by omega) ?_
    have h508 := r10_5 hJ506 g0
    refine X.reti (zi63 6) rfl t63 ?_
    show X (EE s) d 59 45 [(0, zr g0 8), (1, zi a1), (2, zi (max 1 (m g0 10 4)))] [zi (m505 g0 10 5), zr g0 27, zr g0 30] m505 _
    refine X.iload_n 46 (zi59 45) rfl rfl rfl ?_
    refine X.iload_n 47 (zi59 46) rfl rfl rfl ?_
    refine X.callv 50 [zr g0 27, zi (m505 g0 10 5), zi (max 1 (m g0 10 4)), zi a1] [] [(0, zr g0 30), (1, zr g0 27), (2, zi (m505 g0 10 5)), (3, zi (max 1 (m g0 10 4))), (4, zi a1)] (zi59 47) rfl (by decide) rfl rfl (by omega) rfl rfl (by decide) rfl t64 (Nat.le_of_ble_eq_true rfl) (Nat.le_of_ble_eq_true rfl) rfl ?_
    refine c64_1 (B := B + 1) g0 g0 (m505 g0 10 5) (max 1 (m g0 10 4)) a1 (by omega) (hJ506.up (by omega)) (by omega) (by omega) (by omega) (by omega) hf8 hgg0 (fun m509 hFv511 hJ510 => ?_)
    show X (EE s) d 59 50 [(0, zr g0 8), (1, zi a1), (2, zi (max 1 (m g0 10 4)))] [] m509 _
    refine X.cut [] (zi59 50) rfl ?_
    exact hK515 m509 (Eq.trans (if_pos h504) (Eq.trans (zs_eq hFv507.symm) (Eq.trans (zs_eq hFv511.symm) rfl))) (hJ510.up (by omega))
-- WorkMeter$Meter.meterStretch
noncomputable def f26_1 (g0 : Nat) (a1 : Int) (m : zM) : Int × zM :=
  zn (f27_1 g0 (m g0 8 9) m) fun v504 =>
  zn (f34_1 g0 (m g0 10 2) m) fun v508 =>
  zn (f35_1 g0 a1 v504 v508 m) fun v511 =>
  zs (f49_1 g0 v511 v504 m) fun m512 =>
  zn (w32 ((m512 g0 8 13) + v511)) fun z517 =>
  zs (z_upd m512 g0 8 13 z517) fun m518 =>
  zs (z_upd m518 g0 8 9 ((m518 g0 8 9) + (v511 - 1))) fun m521 =>
  zs (f53_1 g0 m521) fun m523 =>
  zs (f56_1 g0 g0 v511 v508 (m523 g0 10 3) (m523 g0 8 9) m523) fun m528 =>
  zs (f58_1 g0 v511 (m528 g0 33 3) m528) fun m532 =>
  zs (if 2000000000 ≤ (m532 g0 8 9) then
  (m532)
  else
  (zs (z_upd m532 g0 8 9 ((m532 g0 8 9) + 1)) fun m537 =>
  m537)) fun m540 =>
  zs (f59_1 g0 v504 m540) fun m544 =>
  (v511, m544)
-- WorkMeter$Meter.meterStretch
theorem c26_1 {s : Nat × (Nat → Int32)} {S : zS} {m0 m : zM} {B : Int} {d : Nat} {Q : Option zV → zM → Prop} (g0 : Nat) (a1 : Int) (hd : 17 ≤ d) (hJ : J S m0 B m) (hB : B + 8 ≤ 1000000000) (ha1 : 1 ≤ a1 ∧ a1 ≤ 3600) (hp0 : 1 ≤ a1) (hf6 : ¬ S.1 6) (hf7 : ¬ S.1 7) (hf8 : ¬ S.1 8) (hf9 : ¬ S.1 9) (hf10 : ¬ S.1 10) (hf11 : ¬ S.1 11) (hf12 : ¬ S.1 12) (hf13 : ¬ S.1 13) (hgg0 : ¬ S.2.1 g0) (hQ : ∀ (v : Int) m', (1 ≤ v ∧ v ≤ 3600) → f26_1 g0 a1 m = (v, m') → J S m0 (B + 8) m' → (1 ≤ v) → (v ≤ a1) → Q (some (zi v)) m') : X (EE s) d 26 0 [(0, zr g0 8), (1, zi a1)] [] m Q := by
  refine X.aload_n 1 (zi26 0) rfl rfl rfl ?_
  refine X.getR 4 (zi26 1) rfl rfl (by decide) rfl rfl ?_
  refine X.aload_n 5 (zi26 4) rfl rfl rfl ?_
  refine X.getI 8 9 (zi26 5) rfl rfl (by decide) rfl rfl rfl ?_
  have h501 := r8_9 hJ g0
  refine X.callv 11 [zi (m g0 8 9)] [] [(0, zr g0 11), (1, zi (m g0 8 9))] (zi26 8) rfl (by decide) rfl rfl (by omega) rfl rfl (by decide) rfl t27 (Nat.le_of_ble_eq_true rfl) (Nat.le_of_ble_eq_true rfl) rfl ?_
  refine c27_1 (B := B) g0 (m g0 8 9) (by omega) (hJ.up (by omega)) (by omega) (by omega) (fun v504 hv504 hFv504 => ?_)
  show X (EE s) d 26 11 [(0, zr g0 8), (1, zi a1)] [zi v504] m _
  refine X.istore_n 12 [(0, zr g0 8), (1, zi a1), (2, zi v504)] (zi26 11) rfl rfl rfl ?_
  refine X.aload_n 13 (zi26 12) rfl rfl rfl ?_
  refine X.getR 16 (zi26 13) rfl rfl (by decide) rfl rfl ?_
  refine X.aload_n 17 (zi26 16) rfl rfl rfl ?_
  refine X.getR 20 (zi26 17) rfl rfl (by decide) rfl rfl ?_
  refine X.callv 23 [] [zr g0 19] [(0, zr g0 9)] (zi26 20) rfl (by decide) rfl rfl (by omega) rfl rfl (by decide) rfl t33 (Nat.le_of_ble_eq_true rfl) (Nat.le_of_ble_eq_true rfl) rfl ?_
  refine X.aload_n 1 (zi33 0) rfl rfl rfl ?_
  refine X.getR 4 (zi33 1) rfl rfl (by decide) rfl rfl ?_
  refine X.iconst 5 (zi33 4) rfl rfl (by decide) ?_
  refine X.iald 6 (zi33 5) rfl rfl (by decide) rfl (by omega) ?_
  have h505 := r10_0 hJ g0 (i := 2) (by omega)
  refine X.reti (zi33 6) rfl t33 ?_
  show X (EE s) d 26 23 [(0, zr g0 8), (1, zi a1), (2, zi v504)] [zi (m g0 10 2), zr g0 19] m _
  refine X.callv 26 [zi (m g0 10 2)] [] [(0, zr g0 19), (1, zi (m g0 10 2))] (zi26 23) rfl (by decide) rfl rfl (by omega) rfl rfl (by decide) rfl t34 (Nat.le_of_ble_eq_true rfl) (Nat.le_of_ble_eq_true rfl) rfl ?_
  refine c34_1 (B := B) g0 (m g0 10 2) (by omega) (hJ.up (by omega)) (by omega) (by omega) (fun v508 hv508 hFv508 => ?_)
  show X (EE s) d 26 26 [(0, zr g0 8), (1, zi a1), (2, zi v504)] [zi v508] m _
  refine X.istore_n 27 [(0, zr g0 8), (1, zi a1), (2, zi v504), (3, zi v508)] (zi26 26) rfl rfl rfl ?_
  refine X.aload_n 28 (zi26 27) rfl rfl rfl ?_
  refine X.iload_n 29 (zi26 28) rfl rfl rfl ?_
  refine X.iload_n 30 (zi26 29) rfl rfl rfl ?_
  refine X.iload_n 31 (zi26 30) rfl rfl rfl ?_
  refine X.callv 34 [zi a1, zi v504, zi v508] [] [(0, zr g0 8), (1, zi a1), (2, zi v504), (3, zi v508)] (zi26 31) rfl (by decide) rfl rfl (by omega) rfl rfl (by decide) rfl t35 (Nat.le_of_ble_eq_true rfl) (Nat.le_of_ble_eq_true rfl) rfl ?_
  refine c35_1 (B := B) g0 a1 v504 v508 (by omega) (hJ.up (by omega)) (by omega) (by omega) (by omega) (by omega) (by omega) (fun v511 hv511 hFv511 hqv511_0 hqv511_1 hqv511_2 => ?_)
  show X (EE s) d 26 34 [(0, zr g0 8), (1, zi a1), (2, zi v504), (3, zi v508)] [zi v511] m _
  refine X.istore 36 [(0, zr g0 8), (1, zi a1), (2, zi v504), (3, zi v508), (4, zi v511)] (zi26 34) rfl rfl rfl ?_
  refine X.aload_n 37 (zi26 36) rfl rfl rfl ?_
  refine X.iload 39 (zi26 37) rfl rfl rfl ?_
  refine X.iload_n 40 (zi26 39) rfl rfl rfl ?_
  refine X.callv 43 [zi v511, zi v504] [] [(0, zr g0 8), (1, zi v511), (2, zi v504)] (zi26 40) rfl (by decide) rfl rfl (by omega) rfl rfl (by decide) rfl t49 (Nat.le_of_ble_eq_true rfl) (Nat.le_of_ble_eq_true rfl) rfl ?_
  refine c49_1 (S := (fun f => f ∉ [7, 10, 12, 13], fun g => g ∉ [g0], (S).2.2)) (m0 := m) (B := B) g0 v511 v504 (by omega) ((J.nw hJ).up (by omega)) (by omega) (by omega) (by omega) (zo_m rfl) (zo_m rfl) (zo_m rfl) (zo_m rfl) (by simp) (fun m512 hFv514 hJ513 => ?_)
  have wom512_8 : m512 g0 8 9 = m g0 8 9 := hJ513.eqf 11 rfl (show (11 : Nat) ∉ ([7, 10, 12, 13] : List Nat) by decide)
  have hJ515 := J.ow hJ hJ513 (zo_c hf7 (zo_c hf10 (zo_c hf12 (zo_c hf13 (zo_n))))) (zo_c hgg0 (zo_n))
  show X (EE s) d 26 43 [(0, zr g0 8), (1, zi a1), (2, zi v504), (3, zi v508), (4, zi v511)] [] m512 _
  refine X.aload_n 44 (zi26 43) rfl rfl rfl ?_
  refine X.dup 45 (zi26 44) rfl rfl rfl ?_
  refine X.getIr 48 13 (zi26 45) rfl rfl (by decide) rfl rfl rfl (fun h516 => ?_)
  refine X.iload 50 (zi26 48) rfl rfl rfl ?_
  refine X.iaddW 51 (zi26 50) rfl rfl (fun z517 ez517 hz517 => ?_)
  refine X.putI' 54 13 (zi26 51) rfl rfl (by decide) rfl rfl rfl (fun hrm518 m518 hm518 => ?_)
  have hJ519 := w8_13 hJ515 hm518 (by omega) hrm518 hf13 hgg0
  have wtm518_0 : m518 g0 8 9 = m512 g0 8 9 := by rw [hm518]; exact z_upd_i _ _ _ _ (by omega)
  refine X.aload_n 55 (zi26 54) rfl rfl rfl ?_
  refine X.dup 56 (zi26 55) rfl rfl rfl ?_
  refine X.getI 59 9 (zi26 56) rfl rfl (by decide) rfl rfl rfl ?_
  have h520 := r8_9 hJ519 g0
  refine X.iload 61 (zi26 59) rfl rfl rfl ?_
  refine X.iconst 62 (zi26 61) rfl rfl (by decide) ?_
  refine X.isub 63 (zi26 62) rfl rfl (by omega) ?_
  refine X.iadd 64 (zi26 63) rfl rfl (by omega) ?_
  refine X.putI' 67 9 (zi26 64) rfl rfl (by decide) rfl rfl rfl (fun hrm521 m521 hm521 => ?_)
  have hJ522 := w8_9 hJ519 hm521 (by omega) hf11 hgg0
  have em521 : m521 g0 8 9 = ((m518 g0 8 9) + (v511 - 1)) := by rw [hm521]; exact z_upd_same _ _ _ _ _
  refine X.aload_n 68 (zi26 67) rfl rfl rfl ?_
  refine X.callv 71 [] [] [(0, zr g0 8)] (zi26 68) rfl (by decide) rfl rfl (by omega) rfl rfl (by decide) rfl t53 (Nat.le_of_ble_eq_true rfl) (Nat.le_of_ble_eq_true rfl) rfl ?_
  refine c53_1 (B := B) g0  (by omega) (hJ522.up (by omega)) (by omega)  hf6 hf12 hgg0 (fun m523 hFv525 hJ524 => ?_)
  show X (EE s) d 26 71 [(0, zr g0 8), (1, zi a1), (2, zi v504), (3, zi v508), (4, zi v511)] [] m523 _
  refine X.aload_n 72 (zi26 71) rfl rfl rfl ?_
  refine X.getR 75 (zi26 72) rfl rfl (by decide) rfl rfl ?_
  refine X.iload 77 (zi26 75) rfl rfl rfl ?_
  refine X.iload_n 78 (zi26 77) rfl rfl rfl ?_
  refine X.aload_n 79 (zi26 78) rfl rfl rfl ?_
  refine X.getR 82 (zi26 79) rfl rfl (by decide) rfl rfl ?_
  refine X.callv 85 [] [zi v508, zi v511, zr g0 33] [(0, zr g0 9)] (zi26 82) rfl (by decide) rfl rfl (by omega) rfl rfl (by decide) rfl t38 (Nat.le_of_ble_eq_true rfl) (Nat.le_of_ble_eq_true rfl) rfl ?_
  refine X.aload_n 1 (zi38 0) rfl rfl rfl ?_
  refine X.getR 4 (zi38 1) rfl rfl (by decide) rfl rfl ?_
  refine X.iconst 5 (zi38 4) rfl rfl (by decide) ?_
  refine X.iald 6 (zi38 5) rfl rfl (by decide) rfl (by omega) ?_
  have h526 := r10_0 hJ524 g0 (i := 3) (by omega)
  refine X.reti (zi38 6) rfl t38 ?_
  show X (EE s) d 26 85 [(0, zr g0 8), (1, zi a1), (2, zi v504), (3, zi v508), (4, zi v511)] [zi (m523 g0 10 3), zi v508, zi v511, zr g0 33] m523 _
  refine X.aload_n 86 (zi26 85) rfl rfl rfl ?_
  refine X.getR 89 (zi26 86) rfl rfl (by decide) rfl rfl ?_
  refine X.aload_n 90 (zi26 89) rfl rfl rfl ?_
  refine X.getI 93 9 (zi26 90) rfl rfl (by decide) rfl rfl rfl ?_
  have h527 := r8_9 hJ524 g0
  refine X.callv 96 [zi v511, zi v508, zi (m523 g0 10 3), zr g0 37, zi (m523 g0 8 9)] [] [(0, zr g0 33), (1, zi v511), (2, zi v508), (3, zi (m523 g0 10 3)), (4, zr g0 37), (5, zi (m523 g0 8 9))] (zi26 93) rfl (by decide) rfl rfl (by omega) rfl rfl (by decide) rfl t56 (Nat.le_of_ble_eq_true rfl) (Nat.le_of_ble_eq_true rfl) rfl ?_
  refine c56_1 (B := B + 1) g0 g0 v511 v508 (m523 g0 10 3) (m523 g0 8 9) (by omega) (hJ524.up (by omega)) (by omega) (by omega) (by omega) (by omega) (by omega) hf6 hf9 hgg0 hgg0 (fun m528 hFv530 hJ529 => ?_)
  show X (EE s) d 26 96 [(0, zr g0 8), (1, zi a1), (2, zi v504), (3, zi v508), (4, zi v511)] [] m528 _
  refine X.aload_n 97 (zi26 96) rfl rfl rfl ?_
  refine X.getR 100 (zi26 97) rfl rfl (by decide) rfl rfl ?_
  refine X.iload 102 (zi26 100) rfl rfl rfl ?_
  refine X.aload_n 103 (zi26 102) rfl rfl rfl ?_
  refine X.getR 106 (zi26 103) rfl rfl (by decide) rfl rfl ?_
  refine X.getIr 109 3 (zi26 106) rfl rfl (by decide) rfl rfl rfl (fun h531 => ?_)
  refine X.callv 112 [zi v511, zi (m528 g0 33 3)] [] [(0, zr g0 27), (1, zi v511), (2, zi (m528 g0 33 3))] (zi26 109) rfl (by decide) rfl rfl (by omega) rfl rfl (by decide) rfl t58 (Nat.le_of_ble_eq_true rfl) (Nat.le_of_ble_eq_true rfl) rfl ?_
  refine c58_1 (B := B + 7) g0 v511 (m528 g0 33 3) (by omega) (hJ529.up (by omega)) (by omega) (by omega) (by omega) hf7 hgg0 (fun m532 hFv534 hJ533 => ?_)
  show X (EE s) d 26 112 [(0, zr g0 8), (1, zi a1), (2, zi v504), (3, zi v508), (4, zi v511)] [] m532 _
  refine X.aload_n 113 (zi26 112) rfl rfl rfl ?_
  refine X.getI 116 9 (zi26 113) rfl rfl (by decide) rfl rfl rfl ?_
  have h535 := r8_9 hJ533 g0
  refine X.ldc 118 (zi26 116) rfl rfl (by decide) ?_
  have hK542 : ∀ (m' : zM), (if 2000000000 ≤ (m532 g0 8 9) then
      (m532)
      else
      (zs (z_upd m532 g0 8 9 ((m532 g0 8 9) + 1)) fun m537 =>
      m537)) = m' → J S m0 (B + 7) m' → X (EE s) d 26 131 [(0, zr g0 8), (2, zi v504), (4, zi v511)] [] m' Q := by
    intro m540 hT543 hJ541
    refine X.aload_n 132 (zi26 131) rfl rfl rfl ?_
    refine X.iload_n 133 (zi26 132) rfl rfl rfl ?_
    refine X.callv 136 [zi v504] [] [(0, zr g0 8), (1, zi v504)] (zi26 133) rfl (by decide) rfl rfl (by omega) rfl rfl (by decide) rfl t59 (Nat.le_of_ble_eq_true rfl) (Nat.le_of_ble_eq_true rfl) rfl ?_
    refine c59_1 (B := B + 7) g0 v504 (by omega) (hJ541.up (by omega)) (by omega) (by omega) hf7 hf8 hgg0 (fun m544 hFv546 hJ545 => ?_)
    show X (EE s) d 26 136 [(0, zr g0 8), (2, zi v504), (4, zi v511)] [] m544 _
    refine X.iload 138 (zi26 136) rfl rfl rfl ?_
    refine X.reti (zi26 138) rfl t26 ?_
    exact hQ v511 m544 (by first | trivial | omega) (Eq.trans (zn_eq hFv504.symm) (Eq.trans (zn_eq hFv508.symm) (Eq.trans (zn_eq hFv511.symm) (Eq.trans (zs_eq hFv514.symm) (Eq.trans (zn_eq ez517) (Eq.trans (zs_eq hm518) (Eq.trans (zs_eq hm521) (Eq.trans (zs_eq hFv525.symm) (Eq.trans (zs_eq hFv530.symm) (Eq.trans (zs_eq hFv534.symm) (Eq.trans (zs_eq hT543.symm) (Eq.trans (zs_eq hFv546.symm) rfl)))))))))))) (hJ545.up (by omega)) (by omega) (by omega)
  refine X.icmpge 131 121 (zi26 118) rfl rfl rfl (fun h536 => ?_) (fun h536 => ?_)
  · refine X.cut [(0, zr g0 8), (2, zi v504), (4, zi v511)] (zi26 131) rfl ?_
    exact hK542 m532 (Eq.trans (if_pos h536) rfl) (hJ533.up (by omega))
  · refine X.aload_n 122 (zi26 121) rfl rfl rfl ?_
    refine X.dup 123 (zi26 122) rfl rfl rfl ?_
    refine X.getI 126 9 (zi26 123) rfl rfl (by decide) rfl rfl rfl ?_
    refine X.iconst 127 (zi26 126) rfl rfl (by decide) ?_
    refine X.iadd 128 (zi26 127) rfl rfl (by omega) ?_
    refine X.putI' 131 9 (zi26 128) rfl rfl (by decide) rfl rfl rfl (fun hrm537 m537 hm537 => ?_)
    have hJ538 := w8_9 hJ533 hm537 (by omega) hf11 hgg0
    have em537 : m537 g0 8 9 = ((m532 g0 8 9) + 1) := by rw [hm537]; exact z_upd_same _ _ _ _ _
    refine X.cut [(0, zr g0 8), (2, zi v504), (4, zi v511)] (zi26 131) rfl ?_
    exact hK542 m537 (Eq.trans (if_neg h536) (Eq.trans (zs_eq hm537) rfl)) (hJ538.up (by omega))
noncomputable def fl25_4_1_b (self : Int → Int → zM → zM) (k27 : zM → zM) (g0 : Nat) (y1 : Int) (y2 y3 : Int) (m : zM) : zM :=
  if y1 ≤ y3 then
  (k27 m)
  else
  (if y2 ≤ 0 then
  (k27 m)
  else
  (zb (f26_1 g0 y2 m) fun v510 m508 =>
  self (y2 - v510) (y3 + 1) m508))
noncomputable def fl25_4_1 (k27 : zM → zM) (g0 : Nat) (y1 : Int) : Nat → Int → Int → zM → zM
  | 0 => fun y2 y3 m => m
  | n + 1 => fl25_4_1_b (fl25_4_1 k27 g0 y1 n) k27 g0 y1
theorem l25_4_1 {s : Nat × (Nat → Int32)} {S : zS} {m0 : zM} {d : Nat} {Q : Option zV → zM → Prop} {R0 : zM} {k27 : zM → zM} (g0 : Nat) (y1 : Int) (BE : Int) (hE : BE ≤ 1000000000) (hd : 18 ≤ d) (hy1 : 1 ≤ y1 ∧ y1 ≤ 900) (hf6 : ¬ S.1 6) (hf7 : ¬ S.1 7) (hf8 : ¬ S.1 8) (hf9 : ¬ S.1 9) (hf10 : ¬ S.1 10) (hf11 : ¬ S.1 11) (hf12 : ¬ S.1 12) (hf13 : ¬ S.1 13) (hgg0 : ¬ S.2.1 g0)
    (K27 : ∀ (m' : zM) (B' : Int), J S m0 B' m' → B' ≤ BE → R0 = k27 m' → X (EE s) d 25 27 [] [] m' Q) :
    ∀ (n : Nat) (y2 y3 : Int) (m : zM) (B : Int), J S m0 B m → B + 8 * (n : Int) ≤ BE → (0 ≤ y2 ∧ y2 ≤ 3600) → (0 ≤ y3 ∧ y3 ≤ 900) → (y2 + y3 ≤ y1) → 900 - y3 < (n : Int) → R0 = fl25_4_1 k27 g0 y1 n y2 y3 m → X (EE s) d 25 4 [(0, zr g0 8), (1, zi y1), (2, zi y2), (3, zi y3)] [] m Q := by
  intro n
  induction n with
  | zero =>
    intro y2 y3 m B hJ hB hy2 hy3 hr0 hn hR
    exfalso
    omega
  | succ n ih =>
    intro y2 y3 m B hJ hB hy2 hy3 hr0 hn hR
    replace hR : R0 = fl25_4_1_b (fl25_4_1 k27 g0 y1 n) k27 g0 y1 y2 y3 m := hR
    refine X.iload_n 5 (zi25 4) rfl rfl rfl ?_
    refine X.iload_n 6 (zi25 5) rfl rfl rfl ?_
    refine X.icmpge 27 9 (zi25 6) rfl rfl rfl (fun h506 => ?_) (fun h506 => ?_)
    · refine X.cut [] (zi25 27) rfl ?_
      exact K27  m (B) (hJ.up (by omega)) (by omega)  (Eq.trans hR (Eq.trans (if_pos h506) rfl))
    · refine X.iload_n 10 (zi25 9) rfl rfl rfl ?_
      refine X.ifle 27 13 (zi25 10) rfl rfl rfl (fun h507 => ?_) (fun h507 => ?_)
      · refine X.cut [] (zi25 27) rfl ?_
        exact K27  m (B) (hJ.up (by omega)) (by omega)  (Eq.trans hR (Eq.trans (if_neg h506) (Eq.trans (if_pos h507) rfl)))
      · refine X.iload_n 14 (zi25 13) rfl rfl rfl ?_
        refine X.aload_n 15 (zi25 14) rfl rfl rfl ?_
        refine X.iload_n 16 (zi25 15) rfl rfl rfl ?_
        refine X.callv 19 [zi y2] [zi y2] [(0, zr g0 8), (1, zi y2)] (zi25 16) rfl (by decide) rfl rfl (by omega) rfl rfl (by decide) rfl t26 (Nat.le_of_ble_eq_true rfl) (Nat.le_of_ble_eq_true rfl) rfl ?_
        refine c26_1 (B := B) g0 y2 (by omega) (hJ.up (by omega)) (by omega) (by omega) (by omega) hf6 hf7 hf8 hf9 hf10 hf11 hf12 hf13 hgg0 (fun v510 m508 hv510 hFv510 hJ509 hqv510_0 hqv510_1 => ?_)
        show X (EE s) d 25 19 [(0, zr g0 8), (1, zi y1), (2, zi y2), (3, zi y3)] [zi v510, zi y2] m508 _
        refine X.isub 20 (zi25 19) rfl rfl (by omega) ?_
        refine X.istore_n 21 [(0, zr g0 8), (1, zi y1), (2, zi (y2 - v510)), (3, zi y3)] (zi25 20) rfl rfl rfl ?_
        refine X.iinc 24 [(0, zr g0 8), (1, zi y1), (2, zi (y2 - v510)), (3, zi (y3 + 1))] (zi25 21) rfl rfl rfl (by omega) rfl ?_
        refine X.goto 4 (zi25 24) rfl rfl ?_
        exact ih (y2 - v510) (y3 + 1) m508 (B + 8) (hJ509.up (by omega)) (by omega) (by omega) (by omega) (by omega) (by omega) (Eq.trans hR (Eq.trans (if_neg h506) (Eq.trans (if_neg h507) (Eq.trans (zb_eq hFv510) rfl))))
-- WorkMeter$Meter.meterTimes
noncomputable def f25_1 (g0 : Nat) (a1 : Int) (m : zM) : zM :=
  fl25_4_1 (fun m501 =>
  m501) g0 a1 (zfu 901) a1 0 m
-- WorkMeter$Meter.meterTimes
theorem c25_1 {s : Nat × (Nat → Int32)} {S : zS} {m0 m : zM} {B : Int} {d : Nat} {Q : Option zV → zM → Prop} (g0 : Nat) (a1 : Int) (hd : 18 ≤ d) (hJ : J S m0 B m) (hB : B + 7208 ≤ 1000000000) (ha1 : 1 ≤ a1 ∧ a1 ≤ 900) (hf6 : ¬ S.1 6) (hf7 : ¬ S.1 7) (hf8 : ¬ S.1 8) (hf9 : ¬ S.1 9) (hf10 : ¬ S.1 10) (hf11 : ¬ S.1 11) (hf12 : ¬ S.1 12) (hf13 : ¬ S.1 13) (hgg0 : ¬ S.2.1 g0) (hQ : ∀ m', f25_1 g0 a1 m = m' → J S m0 (B + 7208) m' → Q none m') : X (EE s) d 25 0 [(0, zr g0 8), (1, zi a1)] [] m Q := by
  refine X.iload_n 1 (zi25 0) rfl rfl rfl ?_
  refine X.istore_n 2 [(0, zr g0 8), (1, zi a1), (2, zi a1)] (zi25 1) rfl rfl rfl ?_
  refine X.iconst 3 (zi25 2) rfl rfl (by decide) ?_
  refine X.istore_n 4 [(0, zr g0 8), (1, zi a1), (2, zi a1), (3, zi 0)] (zi25 3) rfl rfl rfl ?_
  have hz901 := zfu_eq 901
  refine l25_4_1 (s := s) (d := d) (R0 := (f25_1 g0 a1 m)) g0 a1  (BE := B + 7208) (by omega) (by omega) (by omega) hf6 hf7 hf8 hf9 hf10 hf11 hf12 hf13 hgg0 (fun  m501 B502 hJ503 hBB502 hR504 => ?_) (zfu 901) a1 0 m (B) (hJ.up (by omega)) (by omega) (by omega) (by omega) (by omega) (by omega) rfl
  refine X.retv (zi25 27) rfl t25 ?_
  exact hQ  m501  (Eq.trans hR504 rfl) (hJ503.up (by omega)) 
-- WorkMeter.sample
noncomputable def f19_1 (a1 a2 : Int) (m : zM) : Int × zM :=
  if a1 < (-500) then
  (((-1), m))
  else
  (if 500 < a1 then
  (((-1), m))
  else
  (if a2 < (-500) then
  (((-1), m))
  else
  (if a2 ≤ 500 then
  (zb (f20_1 0 a1 a2 m) fun v507 m505 =>
  zs (if v507 = 0 then
  (m505)
  else
  (zs (f25_1 0 1 m505) fun m509 =>
  m509)) fun m513 =>
  ((m513 0 19 5), m513))
  else
  (((-1), m)))))
-- WorkMeter.sample
theorem c19_1 {s : Nat × (Nat → Int32)} {S : zS} {m0 m : zM} {B : Int} {d : Nat} {Q : Option zV → zM → Prop} (a1 a2 : Int) (hd : 19 ≤ d) (hJ : J S m0 B m) (hB : B + 7208 ≤ 1000000000) (ha1 : (-2147483648) ≤ a1 ∧ a1 ≤ 2147483647) (ha2 : (-2147483648) ≤ a2 ∧ a2 ≤ 2147483647) (hf2 : ¬ S.1 2) (hf6 : ¬ S.1 6) (hf7 : ¬ S.1 7) (hf8 : ¬ S.1 8) (hf9 : ¬ S.1 9) (hf10 : ¬ S.1 10) (hf11 : ¬ S.1 11) (hf12 : ¬ S.1 12) (hf13 : ¬ S.1 13) (hg0 : ¬ S.2.1 0) (hQ : ∀ (v : Int) m', ((-1) ≤ v ∧ v ≤ 47) → f19_1 a1 a2 m = (v, m') → J S m0 (B + 7208) m' → Q (some (zi v)) m') : X (EE s) d 19 0 [(0, zr 4 40), (1, zi a1), (2, zi a2)] [] m Q := by
  refine X.iload_n 1 (zi19 0) rfl rfl rfl ?_
  refine X.sipush 4 (zi19 1) rfl rfl (by decide) ?_
  refine X.icmplt 28 7 (zi19 4) rfl rfl rfl (fun h501 => ?_) (fun h501 => ?_)
  · refine X.cut [] (zi19 28) rfl ?_
    refine X.iconst 29 (zi19 28) rfl rfl (by decide) ?_
    refine X.reti (zi19 29) rfl t19 ?_
    exact hQ (-1) m (by first | trivial | omega) (Eq.trans (if_pos h501) rfl) (hJ.up (by omega)) 
  · refine X.iload_n 8 (zi19 7) rfl rfl rfl ?_
    refine X.sipush 11 (zi19 8) rfl rfl (by decide) ?_
    refine X.icmpgt 28 14 (zi19 11) rfl rfl rfl (fun h502 => ?_) (fun h502 => ?_)
    · refine X.cut [] (zi19 28) rfl ?_
      refine X.iconst 29 (zi19 28) rfl rfl (by decide) ?_
      refine X.reti (zi19 29) rfl t19 ?_
      exact hQ (-1) m (by first | trivial | omega) (Eq.trans (if_neg h501) (Eq.trans (if_pos h502) rfl)) (hJ.up (by omega)) 
    · refine X.iload_n 15 (zi19 14) rfl rfl rfl ?_
      refine X.sipush 18 (zi19 15) rfl rfl (by decide) ?_
      refine X.icmplt 28 21 (zi19 18) rfl rfl rfl (fun h503 => ?_) (fun h503 => ?_)
      · refine X.cut [] (zi19 28) rfl ?_
        refine X.iconst 29 (zi19 28) rfl rfl (by decide) ?_
        refine X.reti (zi19 29) rfl t19 ?_
        exact hQ (-1) m (by first | trivial | omega) (Eq.trans (if_neg h501) (Eq.trans (if_neg h502) (Eq.trans (if_pos h503) rfl))) (hJ.up (by omega)) 
      · refine X.iload_n 22 (zi19 21) rfl rfl rfl ?_
        refine X.sipush 25 (zi19 22) rfl rfl (by decide) ?_
        refine X.icmple 30 28 (zi19 25) rfl rfl rfl (fun h504 => ?_) (fun h504 => ?_)
        · refine X.aload_n 31 (zi19 30) rfl rfl rfl ?_
          refine X.getF 34 (zi19 31) rfl rfl (by decide) rfl rfl ?_
          refine X.getR 37 (zi19 34) rfl rfl (by decide) rfl rfl ?_
          refine X.iload_n 38 (zi19 37) rfl rfl rfl ?_
          refine X.iload_n 39 (zi19 38) rfl rfl rfl ?_
          refine X.callv 42 [zi a1, zi a2] [] [(0, zr 0 19), (1, zi a1), (2, zi a2)] (zi19 39) rfl (by decide) rfl rfl (by omega) rfl rfl (by decide) rfl t20 (Nat.le_of_ble_eq_true rfl) (Nat.le_of_ble_eq_true rfl) rfl ?_
          refine c20_1 (B := B) 0 a1 a2 (by omega) (hJ.up (by omega)) (by omega) (by omega) (by omega) hf2 hg0 (fun v507 m505 hv507 hFv507 hJ506 => ?_)
          show X (EE s) d 19 42 [(0, zr 4 40), (1, zi a1), (2, zi a2)] [zi v507] m505 _
          have hK515 : ∀ (m' : zM), (if v507 = 0 then
              (m505)
              else
              (zs (f25_1 0 1 m505) fun m509 =>
              m509)) = m' → J S m0 (B + 7208) m' → X (EE s) d 19 53 [(0, zr 4 40)] [] m' Q := by
            intro m513 hT516 hJ514
            refine X.aload_n 54 (zi19 53) rfl rfl rfl ?_
            refine X.getF 57 (zi19 54) rfl rfl (by decide) rfl rfl ?_
            refine X.getR 60 (zi19 57) rfl rfl (by decide) rfl rfl ?_
            refine X.getI 63 5 (zi19 60) rfl rfl (by decide) rfl rfl rfl ?_
            have h517 := r19_5 hJ514 0
            refine X.reti (zi19 63) rfl t19 ?_
            exact hQ (m513 0 19 5) m513 (by first | trivial | omega) (Eq.trans (if_neg h501) (Eq.trans (if_neg h502) (Eq.trans (if_neg h503) (Eq.trans (if_pos h504) (Eq.trans (zb_eq hFv507) (Eq.trans (zs_eq hT516.symm) rfl)))))) (hJ514.up (by omega)) 
          refine X.ifeq 53 45 (zi19 42) rfl rfl rfl (fun h508 => ?_) (fun h508 => ?_)
          · refine X.cut [(0, zr 4 40)] (zi19 53) rfl ?_
            exact hK515 m505 (Eq.trans (if_pos h508) rfl) (hJ506.up (by omega))
          · refine X.aload_n 46 (zi19 45) rfl rfl rfl ?_
            refine X.getF 49 (zi19 46) rfl rfl (by decide) rfl rfl ?_
            refine X.iconst 50 (zi19 49) rfl rfl (by decide) ?_
            refine X.callv 53 [zi 1] [] [(0, zr 0 8), (1, zi 1)] (zi19 50) rfl (by decide) rfl rfl (by omega) rfl rfl (by decide) rfl t25 (Nat.le_of_ble_eq_true rfl) (Nat.le_of_ble_eq_true rfl) rfl ?_
            refine c25_1 (B := B) 0 1 (by omega) (hJ506.up (by omega)) (by omega) (by omega) hf6 hf7 hf8 hf9 hf10 hf11 hf12 hf13 hg0 (fun m509 hFv511 hJ510 => ?_)
            show X (EE s) d 19 53 [(0, zr 4 40), (1, zi a1), (2, zi a2)] [] m509 _
            refine X.cut [(0, zr 4 40)] (zi19 53) rfl ?_
            exact hK515 m509 (Eq.trans (if_neg h508) (Eq.trans (zs_eq hFv511.symm) rfl)) (hJ510.up (by omega))
        · refine X.cut [] (zi19 28) rfl ?_
          refine X.iconst 29 (zi19 28) rfl rfl (by decide) ?_
          refine X.reti (zi19 29) rfl t19 ?_
          exact hQ (-1) m (by first | trivial | omega) (Eq.trans (if_neg h501) (Eq.trans (if_neg h502) (Eq.trans (if_neg h503) (Eq.trans (if_neg h504) rfl)))) (hJ.up (by omega)) 
noncomputable def fl205_139_1_b (self : Int → zM → Int × zM) (k173 : zM → Int × zM) (y4 : Int) (m : zM) : Int × zM :=
  if 96 ≤ y4 then
  (k173 m)
  else
  (zs (z_upd m 4 45 (95 + y4) (m 4 45 (191 + y4))) fun m507 =>
  self (y4 + 1) m507)
noncomputable def fl205_139_1 (k173 : zM → Int × zM) : Nat → Int → zM → Int × zM
  | 0 => fun y4 m => (0, m)
  | n + 1 => fl205_139_1_b (fl205_139_1 k173 n) k173
end
section
theorem l205_139_1 {s : Nat × (Nat → Int32)} {S : zS} {m0 : zM} {d : Nat} {Q : Option zV → zM → Prop} {R0 : Int × zM} {k173 : zM → Int × zM} (BE : Int) (hE : BE ≤ 1000000000) (hd : 13 ≤ d) (hf22 : ¬ S.1 22) (hg4 : ¬ S.2.1 4)
    (K173 : ∀ (m' : zM) (B' : Int), J S m0 B' m' → B' ≤ BE → R0 = k173 m' → X (EE s) d 205 173 [(0, zr 4 44)] [] m' Q) :
    ∀ (n : Nat) (y4 : Int) (m : zM) (B : Int), J S m0 B m → B + 0 * (n : Int) ≤ BE → (0 ≤ y4 ∧ y4 ≤ 96) → 96 - y4 < (n : Int) → R0 = fl205_139_1 k173 n y4 m → X (EE s) d 205 139 [(0, zr 4 44), (4, zi y4)] [] m Q := by
  intro n
  induction n with
  | zero =>
    intro y4 m B hJ hB hy4 hn hR
    exfalso
    omega
  | succ n ih =>
    intro y4 m B hJ hB hy4 hn hR
    replace hR : R0 = fl205_139_1_b (fl205_139_1 k173 n) k173 y4 m := hR
    refine X.iload 141 (zi205 139) rfl rfl rfl ?_
    refine X.bipush 143 (zi205 141) rfl rfl (by decide) ?_
    refine X.icmpge 173 146 (zi205 143) rfl rfl rfl (fun h505 => ?_) (fun h505 => ?_)
    · refine X.cut [(0, zr 4 44)] (zi205 173) rfl ?_
      exact K173  m (B) (hJ.up (by omega)) (by omega)  (Eq.trans hR (Eq.trans (if_pos h505) rfl))
    · refine X.aload_n 147 (zi205 146) rfl rfl rfl ?_
      refine X.getF 150 (zi205 147) rfl rfl (by decide) rfl rfl ?_
      refine X.bipush 152 (zi205 150) rfl rfl (by decide) ?_
      refine X.iload 154 (zi205 152) rfl rfl rfl ?_
      refine X.iadd 155 (zi205 154) rfl rfl (by omega) ?_
      refine X.aload_n 156 (zi205 155) rfl rfl rfl ?_
      refine X.getF 159 (zi205 156) rfl rfl (by decide) rfl rfl ?_
      refine X.sipush 162 (zi205 159) rfl rfl (by decide) ?_
      refine X.iload 164 (zi205 162) rfl rfl rfl ?_
      refine X.iadd 165 (zi205 164) rfl rfl (by omega) ?_
      refine X.lald 166 (zi205 165) rfl rfl (by decide) rfl (by omega) ?_
      have h506 := r45_95 hJ 4 (i := (191 + y4)) (by omega)
      refine X.last' 167 (zi205 166) rfl rfl (by decide) rfl (by omega) (fun hrm507 m507 hm507 => ?_)
      have hJ508 := w45_95 hJ hm507 (by omega) (by omega) hf22 hg4
      refine X.iinc 170 [(0, zr 4 44), (4, zi (y4 + 1))] (zi205 167) rfl rfl rfl (by omega) rfl ?_
      refine X.goto 139 (zi205 170) rfl rfl ?_
      exact ih (y4 + 1) m507 (B) (hJ508.up (by omega)) (by omega) (by omega) (by omega) (Eq.trans hR (Eq.trans (if_neg h505) (Eq.trans (zs_eq hm507) rfl)))
noncomputable def fl213_5_1_b (self : Int → Int → Int) (k48 : Int → Int) (y1 y2 : Int) (m : zM) (y3 y5 : Int) : Int :=
  if (m 4 45 2) ≤ y5 then
  (k48 y3)
  else
  (zn (((m 4 45 ((y1 + (16 * y2)) + y5)) * (m 4 45 ((y1 + (16 * y2)) + y5)))) fun z509 =>
  self (y3 + z509) (y5 + 1))
noncomputable def fl213_5_1 (k48 : Int → Int) (y1 y2 : Int) (m : zM) : Nat → Int → Int → Int
  | 0 => fun y3 y5 => 0
  | n + 1 => fl213_5_1_b (fl213_5_1 k48 y1 y2 m n) k48 y1 y2 m
theorem l213_5_1 {s : Nat × (Nat → Int32)} {S : zS} {m0 : zM} {m : zM} {B : Int} {d : Nat} {Q : Option zV → zM → Prop} {R0 : Int} {k48 : Int → Int} (y1 y2 : Int) (hd : 13 ≤ d) (hJ : J S m0 B m) (hB9 : B ≤ 1000000000) (hy1 : 95 ≤ y1 ∧ y1 ≤ 143) (hy2 : 0 ≤ y2 ∧ y2 ≤ 2)
    (K48 : ∀ (x3 : Int) , (0 ≤ x3 ∧ x3 ≤ 4000000) → R0 = k48 x3 → X (EE s) d 213 48 [(3, zl x3)] [] m Q) :
    ∀ (n : Nat) (y3 y5 : Int) , (0 ≤ y3 ∧ y3 ≤ 4000000) → (0 ≤ y5 ∧ y5 ≤ 16) → (y3 ≤ 250000 * y5) → 16 - y5 < (n : Int) → R0 = fl213_5_1 k48 y1 y2 m n y3 y5 → X (EE s) d 213 5 [(0, zr 4 44), (1, zi y1), (2, zi y2), (3, zl y3), (5, zi y5)] [] m Q := by
  intro n
  induction n with
  | zero =>
    intro y3 y5 hy3 hy5 hr0 hn hR
    exfalso
    omega
  | succ n ih =>
    intro y3 y5 hy3 hy5 hr0 hn hR
    replace hR : R0 = fl213_5_1_b (fl213_5_1 k48 y1 y2 m n) k48 y1 y2 m y3 y5 := hR
    refine X.iload 7 (zi213 5) rfl rfl rfl ?_
    refine X.aload_n 8 (zi213 7) rfl rfl rfl ?_
    refine X.callv 11 [] [zi y5] [(0, zr 4 44)] (zi213 8) rfl (by decide) rfl rfl (by omega) rfl rfl (by decide) rfl t211 (Nat.le_of_ble_eq_true rfl) (Nat.le_of_ble_eq_true rfl) rfl ?_
    refine X.aload_n 1 (zi211 0) rfl rfl rfl ?_
    refine X.getF 4 (zi211 1) rfl rfl (by decide) rfl rfl ?_
    refine X.iconst 5 (zi211 4) rfl rfl (by decide) ?_
    refine X.lald 6 (zi211 5) rfl rfl (by decide) rfl (by omega) ?_
    have h506 := r45_2 hJ 4
    refine X.l2i 7 (zi211 6) rfl rfl (by omega) ?_
    refine X.reti (zi211 7) rfl t211 ?_
    show X (EE s) d 213 11 [(0, zr 4 44), (1, zi y1), (2, zi y2), (3, zl y3), (5, zi y5)] [zi (m 4 45 2), zi y5] m _
    refine X.icmpge 48 14 (zi213 11) rfl rfl rfl (fun h507 => ?_) (fun h507 => ?_)
    · refine X.cut [(3, zl y3)] (zi213 48) rfl ?_
      exact K48 y3 (by first | trivial | omega) (Eq.trans hR (Eq.trans (if_pos h507) rfl))
    · refine X.lload_n 15 (zi213 14) rfl rfl rfl ?_
      refine X.aload_n 16 (zi213 15) rfl rfl rfl ?_
      refine X.getF 19 (zi213 16) rfl rfl (by decide) rfl rfl ?_
      refine X.iload_n 20 (zi213 19) rfl rfl rfl ?_
      refine X.iload_n 21 (zi213 20) rfl rfl rfl ?_
      refine X.iload 23 (zi213 21) rfl rfl rfl ?_
      refine X.calls 26 [zi y1, zi y2, zi y5] [zr 4 45, zl y3] [(0, zi y1), (1, zi y2), (2, zi y5)] (zi213 23) (by decide) rfl rfl (by omega) rfl rfl t207 (Nat.le_of_ble_eq_true rfl) (Nat.le_of_ble_eq_true rfl) rfl ?_
      refine X.iload_n 1 (zi207 0) rfl rfl rfl ?_
      refine X.bipush 3 (zi207 1) rfl rfl (by decide) ?_
      refine X.iload_n 4 (zi207 3) rfl rfl rfl ?_
      refine X.imul 5 (zi207 4) rfl rfl (by omega) ?_
      refine X.iadd 6 (zi207 5) rfl rfl (by omega) ?_
      refine X.iload_n 7 (zi207 6) rfl rfl rfl ?_
      refine X.iadd 8 (zi207 7) rfl rfl (by omega) ?_
      refine X.reti (zi207 8) rfl t207 ?_
      show X (EE s) d 213 26 [(0, zr 4 44), (1, zi y1), (2, zi y2), (3, zl y3), (5, zi y5)] [zi ((y1 + (16 * y2)) + y5), zr 4 45, zl y3] m _
      refine X.lald 27 (zi213 26) rfl rfl (by decide) rfl (by omega) ?_
      have h508 := r45_95 hJ 4 (i := ((y1 + (16 * y2)) + y5)) (by omega)
      refine X.aload_n 28 (zi213 27) rfl rfl rfl ?_
      refine X.getF 31 (zi213 28) rfl rfl (by decide) rfl rfl ?_
      refine X.iload_n 32 (zi213 31) rfl rfl rfl ?_
      refine X.iload_n 33 (zi213 32) rfl rfl rfl ?_
      refine X.iload 35 (zi213 33) rfl rfl rfl ?_
      refine X.calls 38 [zi y1, zi y2, zi y5] [zr 4 45, zl (m 4 45 ((y1 + (16 * y2)) + y5)), zl y3] [(0, zi y1), (1, zi y2), (2, zi y5)] (zi213 35) (by decide) rfl rfl (by omega) rfl rfl t207 (Nat.le_of_ble_eq_true rfl) (Nat.le_of_ble_eq_true rfl) rfl ?_
      refine X.iload_n 1 (zi207 0) rfl rfl rfl ?_
      refine X.bipush 3 (zi207 1) rfl rfl (by decide) ?_
      refine X.iload_n 4 (zi207 3) rfl rfl rfl ?_
      refine X.imul 5 (zi207 4) rfl rfl (by omega) ?_
      refine X.iadd 6 (zi207 5) rfl rfl (by omega) ?_
      refine X.iload_n 7 (zi207 6) rfl rfl rfl ?_
      refine X.iadd 8 (zi207 7) rfl rfl (by omega) ?_
      refine X.reti (zi207 8) rfl t207 ?_
      show X (EE s) d 213 38 [(0, zr 4 44), (1, zi y1), (2, zi y2), (3, zl y3), (5, zi y5)] [zi ((y1 + (16 * y2)) + y5), zr 4 45, zl (m 4 45 ((y1 + (16 * y2)) + y5)), zl y3] m _
      refine X.lald 39 (zi213 38) rfl rfl (by decide) rfl (by omega) ?_
      have hz509 := z_sqr (e := 500) (x := (m 4 45 ((y1 + (16 * y2)) + y5))) (by omega)
      refine X.lmul 40 (zi213 39) rfl rfl (z_in3 hz509 (by decide) (by decide)) ?_
      obtain ⟨z509, ez509⟩ : ∃ z, z = ((m 4 45 ((y1 + (16 * y2)) + y5)) * (m 4 45 ((y1 + (16 * y2)) + y5))) := ⟨_, rfl⟩
      rw [← ez509] at hz509 ⊢
      have gz509 : 0 ≤ z509 ∧ z509 ≤ 250000 := z_in3 hz509 (by decide) (by decide)
      clear hz509
      refine X.ladd 41 (zi213 40) rfl rfl (by omega) ?_
      refine X.lstore_n 42 [(0, zr 4 44), (1, zi y1), (2, zi y2), (3, zl (y3 + z509)), (5, zi y5)] (zi213 41) rfl rfl rfl ?_
      refine X.iinc 45 [(0, zr 4 44), (1, zi y1), (2, zi y2), (3, zl (y3 + z509)), (5, zi (y5 + 1))] (zi213 42) rfl rfl rfl (by omega) rfl ?_
      refine X.goto 5 (zi213 45) rfl rfl ?_
      exact ih (y3 + z509) (y5 + 1) (by omega) (by omega) (by omega) (by omega) (Eq.trans hR (Eq.trans (if_neg h507) (Eq.trans (zn_eq ez509) rfl)))
-- WorkMeterModel.squares
noncomputable def f213_1 (a1 a2 : Int) (m : zM) : Int :=
  fl213_5_1 (fun y501 =>
  y501) a1 a2 m (zfu 17) 0 0
-- WorkMeterModel.squares
theorem c213_1 {s : Nat × (Nat → Int32)} {S : zS} {m0 m : zM} {B : Int} {d : Nat} {Q : Option zV → zM → Prop} (a1 a2 : Int) (hd : 13 ≤ d) (hJ : J S m0 B m) (hB : B + 0 ≤ 1000000000) (ha1 : 95 ≤ a1 ∧ a1 ≤ 143) (ha2 : 0 ≤ a2 ∧ a2 ≤ 2) (hQ : ∀ (v : Int), (0 ≤ v ∧ v ≤ 4000000) → f213_1 a1 a2 m = v → Q (some (zl v)) m) : X (EE s) d 213 0 [(0, zr 4 44), (1, zi a1), (2, zi a2)] [] m Q := by
  refine X.lconst (y := 0) 1 (zi213 0) rfl rfl rfl ?_
  refine X.lstore_n 2 [(0, zr 4 44), (1, zi a1), (2, zi a2), (3, zl 0)] (zi213 1) rfl rfl rfl ?_
  refine X.iconst 3 (zi213 2) rfl rfl (by decide) ?_
  refine X.istore 5 [(0, zr 4 44), (1, zi a1), (2, zi a2), (3, zl 0), (5, zi 0)] (zi213 3) rfl rfl rfl ?_
  have hz17 := zfu_eq 17
  refine l213_5_1 (s := s) (m := m) (B := B) (d := d) (R0 := (f213_1 a1 a2 m))  a1 a2  (by omega) (hJ.up (by omega)) (by omega) (by omega) (by omega) (fun y501 hby501 hR505 => ?_) (zfu 17) 0 0 (by omega) (by omega) (by omega) (by omega) rfl
  refine X.lload_n 49 (zi213 48) rfl rfl rfl ?_
  refine X.retl (zi213 49) rfl t213 ?_
  exact hQ y501 (by first | trivial | omega) (Eq.trans hR505 rfl) 
noncomputable def fl212_5_1_b (self : Int → Int → Int) (k63 : Int → Int) (y1 : Int) (m : zM) (y2 y4 : Int) : Int :=
  if (m 4 45 2) ≤ y4 then
  (k63 y2)
  else
  (zn (((y4 + ((m 4 45 2) / 4)) % (m 4 45 2))) fun z511 =>
  zn (((m 4 45 ((95 + (16 * y1)) + y4)) * (m 4 45 ((143 + (16 * y1)) + z511)))) fun z513 =>
  self (y2 + z513) (y4 + 1))
noncomputable def fl212_5_1 (k63 : Int → Int) (y1 : Int) (m : zM) : Nat → Int → Int → Int
  | 0 => fun y2 y4 => 0
  | n + 1 => fl212_5_1_b (fl212_5_1 k63 y1 m n) k63 y1 m
theorem l212_5_1 {s : Nat × (Nat → Int32)} {S : zS} {m0 : zM} {m : zM} {B : Int} {d : Nat} {Q : Option zV → zM → Prop} {R0 : Int} {k63 : Int → Int} (y1 : Int) (hd : 13 ≤ d) (hJ : J S m0 B m) (hB9 : B ≤ 1000000000) (hy1 : 0 ≤ y1 ∧ y1 ≤ 2)
    (K63 : ∀ (x2 : Int) , ((-4000000) ≤ x2 ∧ x2 ≤ 4000000) → R0 = k63 x2 → X (EE s) d 212 63 [(2, zl x2)] [] m Q) :
    ∀ (n : Nat) (y2 y4 : Int) , ((-4000000) ≤ y2 ∧ y2 ≤ 4000000) → (0 ≤ y4 ∧ y4 ≤ 16) → (-250000 * y4 ≤ y2) → (y2 ≤ 250000 * y4) → 16 - y4 < (n : Int) → R0 = fl212_5_1 k63 y1 m n y2 y4 → X (EE s) d 212 5 [(0, zr 4 44), (1, zi y1), (2, zl y2), (4, zi y4)] [] m Q := by
  intro n
  induction n with
  | zero =>
    intro y2 y4 hy2 hy4 hr0 hr1 hn hR
    exfalso
    omega
  | succ n ih =>
    intro y2 y4 hy2 hy4 hr0 hr1 hn hR
    replace hR : R0 = fl212_5_1_b (fl212_5_1 k63 y1 m n) k63 y1 m y2 y4 := hR
    refine X.iload 7 (zi212 5) rfl rfl rfl ?_
    refine X.aload_n 8 (zi212 7) rfl rfl rfl ?_
    refine X.callv 11 [] [zi y4] [(0, zr 4 44)] (zi212 8) rfl (by decide) rfl rfl (by omega) rfl rfl (by decide) rfl t211 (Nat.le_of_ble_eq_true rfl) (Nat.le_of_ble_eq_true rfl) rfl ?_
    refine X.aload_n 1 (zi211 0) rfl rfl rfl ?_
    refine X.getF 4 (zi211 1) rfl rfl (by decide) rfl rfl ?_
    refine X.iconst 5 (zi211 4) rfl rfl (by decide) ?_
    refine X.lald 6 (zi211 5) rfl rfl (by decide) rfl (by omega) ?_
    have h508 := r45_2 hJ 4
    refine X.l2i 7 (zi211 6) rfl rfl (by omega) ?_
    refine X.reti (zi211 7) rfl t211 ?_
    show X (EE s) d 212 11 [(0, zr 4 44), (1, zi y1), (2, zl y2), (4, zi y4)] [zi (m 4 45 2), zi y4] m _
    refine X.icmpge 63 14 (zi212 11) rfl rfl rfl (fun h509 => ?_) (fun h509 => ?_)
    · refine X.cut [(2, zl y2)] (zi212 63) rfl ?_
      exact K63 y2 (by first | trivial | omega) (Eq.trans hR (Eq.trans (if_pos h509) rfl))
    · refine X.lload_n 15 (zi212 14) rfl rfl rfl ?_
      refine X.aload_n 16 (zi212 15) rfl rfl rfl ?_
      refine X.getF 19 (zi212 16) rfl rfl (by decide) rfl rfl ?_
      refine X.bipush 21 (zi212 19) rfl rfl (by decide) ?_
      refine X.iload_n 22 (zi212 21) rfl rfl rfl ?_
      refine X.iload 24 (zi212 22) rfl rfl rfl ?_
      refine X.calls 27 [zi 95, zi y1, zi y4] [zr 4 45, zl y2] [(0, zi 95), (1, zi y1), (2, zi y4)] (zi212 24) (by decide) rfl rfl (by omega) rfl rfl t207 (Nat.le_of_ble_eq_true rfl) (Nat.le_of_ble_eq_true rfl) rfl ?_
      refine X.iload_n 1 (zi207 0) rfl rfl rfl ?_
      refine X.bipush 3 (zi207 1) rfl rfl (by decide) ?_
      refine X.iload_n 4 (zi207 3) rfl rfl rfl ?_
      refine X.imul 5 (zi207 4) rfl rfl (by omega) ?_
      refine X.iadd 6 (zi207 5) rfl rfl (by omega) ?_
      refine X.iload_n 7 (zi207 6) rfl rfl rfl ?_
      refine X.iadd 8 (zi207 7) rfl rfl (by omega) ?_
      refine X.reti (zi207 8) rfl t207 ?_
      show X (EE s) d 212 27 [(0, zr 4 44), (1, zi y1), (2, zl y2), (4, zi y4)] [zi ((95 + (16 * y1)) + y4), zr 4 45, zl y2] m _
      refine X.lald 28 (zi212 27) rfl rfl (by decide) rfl (by omega) ?_
      have h510 := r45_95 hJ 4 (i := ((95 + (16 * y1)) + y4)) (by omega)
      refine X.aload_n 29 (zi212 28) rfl rfl rfl ?_
      refine X.getF 32 (zi212 29) rfl rfl (by decide) rfl rfl ?_
      refine X.sipush 35 (zi212 32) rfl rfl (by decide) ?_
      refine X.iload_n 36 (zi212 35) rfl rfl rfl ?_
      refine X.iload 38 (zi212 36) rfl rfl rfl ?_
      refine X.aload_n 39 (zi212 38) rfl rfl rfl ?_
      refine X.callv 42 [] [zi y4, zi y1, zi 143, zr 4 45, zl (m 4 45 ((95 + (16 * y1)) + y4)), zl y2] [(0, zr 4 44)] (zi212 39) rfl (by decide) rfl rfl (by omega) rfl rfl (by decide) rfl t211 (Nat.le_of_ble_eq_true rfl) (Nat.le_of_ble_eq_true rfl) rfl ?_
      refine X.aload_n 1 (zi211 0) rfl rfl rfl ?_
      refine X.getF 4 (zi211 1) rfl rfl (by decide) rfl rfl ?_
      refine X.iconst 5 (zi211 4) rfl rfl (by decide) ?_
      refine X.lald 6 (zi211 5) rfl rfl (by decide) rfl (by omega) ?_
      refine X.l2i 7 (zi211 6) rfl rfl (by omega) ?_
      refine X.reti (zi211 7) rfl t211 ?_
      show X (EE s) d 212 42 [(0, zr 4 44), (1, zi y1), (2, zl y2), (4, zi y4)] [zi (m 4 45 2), zi y4, zi y1, zi 143, zr 4 45, zl (m 4 45 ((95 + (16 * y1)) + y4)), zl y2] m _
      refine X.iconst 43 (zi212 42) rfl rfl (by decide) ?_
      refine X.idiv 44 (zi212 43) rfl rfl (by omega) ?_
      refine X.iadd 45 (zi212 44) rfl rfl (by omega) ?_
      refine X.aload_n 46 (zi212 45) rfl rfl rfl ?_
      refine X.callv 49 [] [zi (y4 + ((m 4 45 2) / 4)), zi y1, zi 143, zr 4 45, zl (m 4 45 ((95 + (16 * y1)) + y4)), zl y2] [(0, zr 4 44)] (zi212 46) rfl (by decide) rfl rfl (by omega) rfl rfl (by decide) rfl t211 (Nat.le_of_ble_eq_true rfl) (Nat.le_of_ble_eq_true rfl) rfl ?_
      refine X.aload_n 1 (zi211 0) rfl rfl rfl ?_
      refine X.getF 4 (zi211 1) rfl rfl (by decide) rfl rfl ?_
      refine X.iconst 5 (zi211 4) rfl rfl (by decide) ?_
      refine X.lald 6 (zi211 5) rfl rfl (by decide) rfl (by omega) ?_
      refine X.l2i 7 (zi211 6) rfl rfl (by omega) ?_
      refine X.reti (zi211 7) rfl t211 ?_
      show X (EE s) d 212 49 [(0, zr 4 44), (1, zi y1), (2, zl y2), (4, zi y4)] [zi (m 4 45 2), zi (y4 + ((m 4 45 2) / 4)), zi y1, zi 143, zr 4 45, zl (m 4 45 ((95 + (16 * y1)) + y4)), zl y2] m _
      refine X.irem 50 (zi212 49) rfl rfl (by omega) ?_
      have hz511 := z_modb (x := (y4 + ((m 4 45 2) / 4))) (y := (m 4 45 2)) (by omega) (by omega)
      obtain ⟨z511, ez511⟩ : ∃ z, z = ((y4 + ((m 4 45 2) / 4)) % (m 4 45 2)) := ⟨_, rfl⟩
      rw [← ez511] at hz511 ⊢
      refine X.calls 53 [zi 143, zi y1, zi z511] [zr 4 45, zl (m 4 45 ((95 + (16 * y1)) + y4)), zl y2] [(0, zi 143), (1, zi y1), (2, zi z511)] (zi212 50) (by decide) rfl rfl (by omega) rfl rfl t207 (Nat.le_of_ble_eq_true rfl) (Nat.le_of_ble_eq_true rfl) rfl ?_
      refine X.iload_n 1 (zi207 0) rfl rfl rfl ?_
      refine X.bipush 3 (zi207 1) rfl rfl (by decide) ?_
      refine X.iload_n 4 (zi207 3) rfl rfl rfl ?_
      refine X.imul 5 (zi207 4) rfl rfl (by omega) ?_
      refine X.iadd 6 (zi207 5) rfl rfl (by omega) ?_
      refine X.iload_n 7 (zi207 6) rfl rfl rfl ?_
      refine X.iadd 8 (zi207 7) rfl rfl (by omega) ?_
      refine X.reti (zi207 8) rfl t207 ?_
      show X (EE s) d 212 53 [(0, zr 4 44), (1, zi y1), (2, zl y2), (4, zi y4)] [zi ((143 + (16 * y1)) + z511), zr 4 45, zl (m 4 45 ((95 + (16 * y1)) + y4)), zl y2] m _
      refine X.lald 54 (zi212 53) rfl rfl (by decide) rfl (by omega) ?_
      have h512 := r45_95 hJ 4 (i := ((143 + (16 * y1)) + z511)) (by omega)
      have hz513 := z_mulr (a := (-500)) (b := 500) (c := (-500)) (e := 500) (x := (m 4 45 ((95 + (16 * y1)) + y4))) (y := (m 4 45 ((143 + (16 * y1)) + z511))) (by omega) (by omega)
      refine X.lmul 55 (zi212 54) rfl rfl (z_in3 hz513 (by decide) (by decide)) ?_
      obtain ⟨z513, ez513⟩ : ∃ z, z = ((m 4 45 ((95 + (16 * y1)) + y4)) * (m 4 45 ((143 + (16 * y1)) + z511))) := ⟨_, rfl⟩
      rw [← ez513] at hz513 ⊢
      have gz513 : (-250000) ≤ z513 ∧ z513 ≤ 250000 := z_in3 hz513 (by decide) (by decide)
      clear hz513
      refine X.ladd 56 (zi212 55) rfl rfl (by omega) ?_
      refine X.lstore_n 57 [(0, zr 4 44), (1, zi y1), (2, zl (y2 + z513)), (4, zi y4)] (zi212 56) rfl rfl rfl ?_
      refine X.iinc 60 [(0, zr 4 44), (1, zi y1), (2, zl (y2 + z513)), (4, zi (y4 + 1))] (zi212 57) rfl rfl rfl (by omega) rfl ?_
      refine X.goto 5 (zi212 60) rfl rfl ?_
      exact ih (y2 + z513) (y4 + 1) (by omega) (by omega) (by omega) (by omega) (by omega) (Eq.trans hR (Eq.trans (if_neg h509) (Eq.trans (zn_eq ez511) (Eq.trans (zn_eq ez513) rfl))))
-- WorkMeterModel.reactive
noncomputable def f212_1 (a1 : Int) (m : zM) : Int :=
  fl212_5_1 (fun y501 =>
  y501) a1 m (zfu 17) 0 0
-- WorkMeterModel.reactive
theorem c212_1 {s : Nat × (Nat → Int32)} {S : zS} {m0 m : zM} {B : Int} {d : Nat} {Q : Option zV → zM → Prop} (a1 : Int) (hd : 13 ≤ d) (hJ : J S m0 B m) (hB : B + 0 ≤ 1000000000) (ha1 : 0 ≤ a1 ∧ a1 ≤ 2) (hQ : ∀ (v : Int), ((-4000000) ≤ v ∧ v ≤ 4000000) → f212_1 a1 m = v → Q (some (zl v)) m) : X (EE s) d 212 0 [(0, zr 4 44), (1, zi a1)] [] m Q := by
  refine X.lconst (y := 0) 1 (zi212 0) rfl rfl rfl ?_
  refine X.lstore_n 2 [(0, zr 4 44), (1, zi a1), (2, zl 0)] (zi212 1) rfl rfl rfl ?_
  refine X.iconst 3 (zi212 2) rfl rfl (by decide) ?_
  refine X.istore 5 [(0, zr 4 44), (1, zi a1), (2, zl 0), (4, zi 0)] (zi212 3) rfl rfl rfl ?_
  have hz17 := zfu_eq 17
  refine l212_5_1 (s := s) (m := m) (B := B) (d := d) (R0 := (f212_1 a1 m))  a1  (by omega) (hJ.up (by omega)) (by omega) (by omega) (fun y501 hby501 hR505 => ?_) (zfu 17) 0 0 (by omega) (by omega) (by omega) (by omega) (by omega) rfl
  refine X.lload_n 64 (zi212 63) rfl rfl rfl ?_
  refine X.retl (zi212 64) rfl t212 ?_
  exact hQ y501 (by first | trivial | omega) (Eq.trans hR505 rfl) 
noncomputable def fl210_5_1_b (self : Int → Int → Int) (k51 : Int → Int) (y1 : Int) (m : zM) (y2 y4 : Int) : Int :=
  if (m 4 45 2) ≤ y4 then
  (k51 y2)
  else
  (zn (((m 4 45 ((95 + (16 * y1)) + y4)) * (m 4 45 ((143 + (16 * y1)) + y4)))) fun z511 =>
  self (y2 + z511) (y4 + 1))
noncomputable def fl210_5_1 (k51 : Int → Int) (y1 : Int) (m : zM) : Nat → Int → Int → Int
  | 0 => fun y2 y4 => 0
  | n + 1 => fl210_5_1_b (fl210_5_1 k51 y1 m n) k51 y1 m
theorem l210_5_1 {s : Nat × (Nat → Int32)} {S : zS} {m0 : zM} {m : zM} {B : Int} {d : Nat} {Q : Option zV → zM → Prop} {R0 : Int} {k51 : Int → Int} (y1 : Int) (hd : 13 ≤ d) (hJ : J S m0 B m) (hB9 : B ≤ 1000000000) (hy1 : 0 ≤ y1 ∧ y1 ≤ 2)
    (K51 : ∀ (x2 : Int) , ((-4000000) ≤ x2 ∧ x2 ≤ 4000000) → R0 = k51 x2 → X (EE s) d 210 51 [(2, zl x2)] [] m Q) :
    ∀ (n : Nat) (y2 y4 : Int) , ((-4000000) ≤ y2 ∧ y2 ≤ 4000000) → (0 ≤ y4 ∧ y4 ≤ 16) → (-250000 * y4 ≤ y2) → (y2 ≤ 250000 * y4) → 16 - y4 < (n : Int) → R0 = fl210_5_1 k51 y1 m n y2 y4 → X (EE s) d 210 5 [(0, zr 4 44), (1, zi y1), (2, zl y2), (4, zi y4)] [] m Q := by
  intro n
  induction n with
  | zero =>
    intro y2 y4 hy2 hy4 hr0 hr1 hn hR
    exfalso
    omega
  | succ n ih =>
    intro y2 y4 hy2 hy4 hr0 hr1 hn hR
    replace hR : R0 = fl210_5_1_b (fl210_5_1 k51 y1 m n) k51 y1 m y2 y4 := hR
    refine X.iload 7 (zi210 5) rfl rfl rfl ?_
    refine X.aload_n 8 (zi210 7) rfl rfl rfl ?_
    refine X.callv 11 [] [zi y4] [(0, zr 4 44)] (zi210 8) rfl (by decide) rfl rfl (by omega) rfl rfl (by decide) rfl t211 (Nat.le_of_ble_eq_true rfl) (Nat.le_of_ble_eq_true rfl) rfl ?_
    refine X.aload_n 1 (zi211 0) rfl rfl rfl ?_
    refine X.getF 4 (zi211 1) rfl rfl (by decide) rfl rfl ?_
    refine X.iconst 5 (zi211 4) rfl rfl (by decide) ?_
    refine X.lald 6 (zi211 5) rfl rfl (by decide) rfl (by omega) ?_
    have h507 := r45_2 hJ 4
    refine X.l2i 7 (zi211 6) rfl rfl (by omega) ?_
    refine X.reti (zi211 7) rfl t211 ?_
    show X (EE s) d 210 11 [(0, zr 4 44), (1, zi y1), (2, zl y2), (4, zi y4)] [zi (m 4 45 2), zi y4] m _
    refine X.icmpge 51 14 (zi210 11) rfl rfl rfl (fun h508 => ?_) (fun h508 => ?_)
    · refine X.cut [(2, zl y2)] (zi210 51) rfl ?_
      exact K51 y2 (by first | trivial | omega) (Eq.trans hR (Eq.trans (if_pos h508) rfl))
    · refine X.lload_n 15 (zi210 14) rfl rfl rfl ?_
      refine X.aload_n 16 (zi210 15) rfl rfl rfl ?_
      refine X.getF 19 (zi210 16) rfl rfl (by decide) rfl rfl ?_
      refine X.bipush 21 (zi210 19) rfl rfl (by decide) ?_
      refine X.iload_n 22 (zi210 21) rfl rfl rfl ?_
      refine X.iload 24 (zi210 22) rfl rfl rfl ?_
      refine X.calls 27 [zi 95, zi y1, zi y4] [zr 4 45, zl y2] [(0, zi 95), (1, zi y1), (2, zi y4)] (zi210 24) (by decide) rfl rfl (by omega) rfl rfl t207 (Nat.le_of_ble_eq_true rfl) (Nat.le_of_ble_eq_true rfl) rfl ?_
      refine X.iload_n 1 (zi207 0) rfl rfl rfl ?_
      refine X.bipush 3 (zi207 1) rfl rfl (by decide) ?_
      refine X.iload_n 4 (zi207 3) rfl rfl rfl ?_
      refine X.imul 5 (zi207 4) rfl rfl (by omega) ?_
      refine X.iadd 6 (zi207 5) rfl rfl (by omega) ?_
      refine X.iload_n 7 (zi207 6) rfl rfl rfl ?_
      refine X.iadd 8 (zi207 7) rfl rfl (by omega) ?_
      refine X.reti (zi207 8) rfl t207 ?_
      show X (EE s) d 210 27 [(0, zr 4 44), (1, zi y1), (2, zl y2), (4, zi y4)] [zi ((95 + (16 * y1)) + y4), zr 4 45, zl y2] m _
      refine X.lald 28 (zi210 27) rfl rfl (by decide) rfl (by omega) ?_
      have h509 := r45_95 hJ 4 (i := ((95 + (16 * y1)) + y4)) (by omega)
      refine X.aload_n 29 (zi210 28) rfl rfl rfl ?_
      refine X.getF 32 (zi210 29) rfl rfl (by decide) rfl rfl ?_
      refine X.sipush 35 (zi210 32) rfl rfl (by decide) ?_
      refine X.iload_n 36 (zi210 35) rfl rfl rfl ?_
      refine X.iload 38 (zi210 36) rfl rfl rfl ?_
      refine X.calls 41 [zi 143, zi y1, zi y4] [zr 4 45, zl (m 4 45 ((95 + (16 * y1)) + y4)), zl y2] [(0, zi 143), (1, zi y1), (2, zi y4)] (zi210 38) (by decide) rfl rfl (by omega) rfl rfl t207 (Nat.le_of_ble_eq_true rfl) (Nat.le_of_ble_eq_true rfl) rfl ?_
      refine X.iload_n 1 (zi207 0) rfl rfl rfl ?_
      refine X.bipush 3 (zi207 1) rfl rfl (by decide) ?_
      refine X.iload_n 4 (zi207 3) rfl rfl rfl ?_
      refine X.imul 5 (zi207 4) rfl rfl (by omega) ?_
      refine X.iadd 6 (zi207 5) rfl rfl (by omega) ?_
      refine X.iload_n 7 (zi207 6) rfl rfl rfl ?_
      refine X.iadd 8 (zi207 7) rfl rfl (by omega) ?_
      refine X.reti (zi207 8) rfl t207 ?_
      show X (EE s) d 210 41 [(0, zr 4 44), (1, zi y1), (2, zl y2), (4, zi y4)] [zi ((143 + (16 * y1)) + y4), zr 4 45, zl (m 4 45 ((95 + (16 * y1)) + y4)), zl y2] m _
      refine X.lald 42 (zi210 41) rfl rfl (by decide) rfl (by omega) ?_
      have h510 := r45_95 hJ 4 (i := ((143 + (16 * y1)) + y4)) (by omega)
      have hz511 := z_mulr (a := (-500)) (b := 500) (c := (-500)) (e := 500) (x := (m 4 45 ((95 + (16 * y1)) + y4))) (y := (m 4 45 ((143 + (16 * y1)) + y4))) (by omega) (by omega)
      refine X.lmul 43 (zi210 42) rfl rfl (z_in3 hz511 (by decide) (by decide)) ?_
      obtain ⟨z511, ez511⟩ : ∃ z, z = ((m 4 45 ((95 + (16 * y1)) + y4)) * (m 4 45 ((143 + (16 * y1)) + y4))) := ⟨_, rfl⟩
      rw [← ez511] at hz511 ⊢
      have gz511 : (-250000) ≤ z511 ∧ z511 ≤ 250000 := z_in3 hz511 (by decide) (by decide)
      clear hz511
      refine X.ladd 44 (zi210 43) rfl rfl (by omega) ?_
      refine X.lstore_n 45 [(0, zr 4 44), (1, zi y1), (2, zl (y2 + z511)), (4, zi y4)] (zi210 44) rfl rfl rfl ?_
      refine X.iinc 48 [(0, zr 4 44), (1, zi y1), (2, zl (y2 + z511)), (4, zi (y4 + 1))] (zi210 45) rfl rfl rfl (by omega) rfl ?_
      refine X.goto 5 (zi210 48) rfl rfl ?_
      exact ih (y2 + z511) (y4 + 1) (by omega) (by omega) (by omega) (by omega) (by omega) (Eq.trans hR (Eq.trans (if_neg h508) (Eq.trans (zn_eq ez511) rfl)))
-- WorkMeterModel.active
noncomputable def f210_1 (a1 : Int) (m : zM) : Int :=
  fl210_5_1 (fun y501 =>
  y501) a1 m (zfu 17) 0 0
-- WorkMeterModel.active
theorem c210_1 {s : Nat × (Nat → Int32)} {S : zS} {m0 m : zM} {B : Int} {d : Nat} {Q : Option zV → zM → Prop} (a1 : Int) (hd : 13 ≤ d) (hJ : J S m0 B m) (hB : B + 0 ≤ 1000000000) (ha1 : 0 ≤ a1 ∧ a1 ≤ 2) (hQ : ∀ (v : Int), ((-4000000) ≤ v ∧ v ≤ 4000000) → f210_1 a1 m = v → Q (some (zl v)) m) : X (EE s) d 210 0 [(0, zr 4 44), (1, zi a1)] [] m Q := by
  refine X.lconst (y := 0) 1 (zi210 0) rfl rfl rfl ?_
  refine X.lstore_n 2 [(0, zr 4 44), (1, zi a1), (2, zl 0)] (zi210 1) rfl rfl rfl ?_
  refine X.iconst 3 (zi210 2) rfl rfl (by decide) ?_
  refine X.istore 5 [(0, zr 4 44), (1, zi a1), (2, zl 0), (4, zi 0)] (zi210 3) rfl rfl rfl ?_
  have hz17 := zfu_eq 17
  refine l210_5_1 (s := s) (m := m) (B := B) (d := d) (R0 := (f210_1 a1 m))  a1  (by omega) (hJ.up (by omega)) (by omega) (by omega) (fun y501 hby501 hR505 => ?_) (zfu 17) 0 0 (by omega) (by omega) (by omega) (by omega) (by omega) rfl
  refine X.lload_n 52 (zi210 51) rfl rfl rfl ?_
  refine X.retl (zi210 52) rfl t210 ?_
  exact hQ y501 (by first | trivial | omega) (Eq.trans hR505 rfl) 
noncomputable def fl209_5_1_b (self : Int → Int → Int) (k75 : Int → Int) (y1 : Int) (m : zM) (y2 y4 : Int) : Int :=
  if (m 4 45 1) ≤ y4 then
  (k75 y2)
  else
  (zn (if y1 = 0 then
  (zn (f210_1 y4 m) fun v540 =>
  v540)
  else
  (if y1 = 1 then
  (zn (f212_1 y4 m) fun v537 =>
  v537)
  else
  (if y1 = 2 then
  (zn (f213_1 95 y4 m) fun v534 =>
  v534)
  else
  (zn (f213_1 143 y4 m) fun v531 =>
  v531)))) fun v541 =>
  self (y2 + v541) (y4 + 1))
noncomputable def fl209_5_1 (k75 : Int → Int) (y1 : Int) (m : zM) : Nat → Int → Int → Int
  | 0 => fun y2 y4 => 0
  | n + 1 => fl209_5_1_b (fl209_5_1 k75 y1 m n) k75 y1 m
theorem l209_5_1 {s : Nat × (Nat → Int32)} {S : zS} {m0 : zM} {m : zM} {B : Int} {d : Nat} {Q : Option zV → zM → Prop} {R0 : Int} {k75 : Int → Int} (y1 : Int) (hd : 14 ≤ d) (hJ : J S m0 B m) (hB9 : B ≤ 1000000000) (hy1 : 0 ≤ y1 ∧ y1 ≤ 3)
    (K75 : ∀ (x2 : Int) , ((-12000000) ≤ x2 ∧ x2 ≤ 12000000) → R0 = k75 x2 → X (EE s) d 209 75 [(2, zl x2)] [] m Q) :
    ∀ (n : Nat) (y2 y4 : Int) , ((-12000000) ≤ y2 ∧ y2 ≤ 12000000) → (0 ≤ y4 ∧ y4 ≤ 3) → (-4000000 * y4 ≤ y2) → (y2 ≤ 4000000 * y4) → 3 - y4 < (n : Int) → R0 = fl209_5_1 k75 y1 m n y2 y4 → X (EE s) d 209 5 [(0, zr 4 44), (1, zi y1), (2, zl y2), (4, zi y4)] [] m Q := by
  intro n
  induction n with
  | zero =>
    intro y2 y4 hy2 hy4 hr0 hr1 hn hR
    exfalso
    omega
  | succ n ih =>
    intro y2 y4 hy2 hy4 hr0 hr1 hn hR
    replace hR : R0 = fl209_5_1_b (fl209_5_1 k75 y1 m n) k75 y1 m y2 y4 := hR
    refine X.iload 7 (zi209 5) rfl rfl rfl ?_
    refine X.aload_n 8 (zi209 7) rfl rfl rfl ?_
    refine X.callv 11 [] [zi y4] [(0, zr 4 44)] (zi209 8) rfl (by decide) rfl rfl (by omega) rfl rfl (by decide) rfl t206 (Nat.le_of_ble_eq_true rfl) (Nat.le_of_ble_eq_true rfl) rfl ?_
    refine X.aload_n 1 (zi206 0) rfl rfl rfl ?_
    refine X.getF 4 (zi206 1) rfl rfl (by decide) rfl rfl ?_
    refine X.iconst 5 (zi206 4) rfl rfl (by decide) ?_
    refine X.lald 6 (zi206 5) rfl rfl (by decide) rfl (by omega) ?_
    have h524 := r45_1 hJ 4
    refine X.l2i 7 (zi206 6) rfl rfl (by omega) ?_
    refine X.reti (zi206 7) rfl t206 ?_
    show X (EE s) d 209 11 [(0, zr 4 44), (1, zi y1), (2, zl y2), (4, zi y4)] [zi (m 4 45 1), zi y4] m _
    refine X.icmpge 75 14 (zi209 11) rfl rfl rfl (fun h525 => ?_) (fun h525 => ?_)
    · refine X.cut [(2, zl y2)] (zi209 75) rfl ?_
      exact K75 y2 (by first | trivial | omega) (Eq.trans hR (Eq.trans (if_pos h525) rfl))
    · refine X.lload_n 15 (zi209 14) rfl rfl rfl ?_
      refine X.iload_n 16 (zi209 15) rfl rfl rfl ?_
      have hK544 : ∀ (v : Int) , ((-4000000) ≤ v ∧ v ≤ 4000000) → (if y1 = 0 then
          (zn (f210_1 y4 m) fun v540 =>
          v540)
          else
          (if y1 = 1 then
          (zn (f212_1 y4 m) fun v537 =>
          v537)
          else
          (if y1 = 2 then
          (zn (f213_1 95 y4 m) fun v534 =>
          v534)
          else
          (zn (f213_1 143 y4 m) fun v531 =>
          v531)))) = v → X (EE s) d 209 67 [(0, zr 4 44), (1, zi y1), (4, zi y4)] [zl v, zl y2] m Q := by
        intro v541 hv541 hT545
        refine X.ladd 68 (zi209 67) rfl rfl (by omega) ?_
        refine X.lstore_n 69 [(0, zr 4 44), (1, zi y1), (2, zl (y2 + v541)), (4, zi y4)] (zi209 68) rfl rfl rfl ?_
        refine X.iinc 72 [(0, zr 4 44), (1, zi y1), (2, zl (y2 + v541)), (4, zi (y4 + 1))] (zi209 69) rfl rfl rfl (by omega) rfl ?_
        refine X.goto 5 (zi209 72) rfl rfl ?_
        exact ih (y2 + v541) (y4 + 1) (by omega) (by omega) (by omega) (by omega) (by omega) (Eq.trans hR (Eq.trans (if_neg h525) (Eq.trans (zn_eq hT545.symm) rfl)))
      refine X.ifne 28 19 (zi209 16) rfl rfl rfl (fun h526 => ?_) (fun h526 => ?_)
      · refine X.cut [(0, zr 4 44), (1, zi y1), (4, zi y4)] (zi209 28) rfl ?_
        refine X.iload_n 29 (zi209 28) rfl rfl rfl ?_
        refine X.iconst 30 (zi209 29) rfl rfl (by decide) ?_
        refine X.icmpne 42 33 (zi209 30) rfl rfl rfl (fun h527 => ?_) (fun h527 => ?_)
        · refine X.iload_n 43 (zi209 42) rfl rfl rfl ?_
          refine X.iconst 44 (zi209 43) rfl rfl (by decide) ?_
          refine X.icmpne 58 47 (zi209 44) rfl rfl rfl (fun h528 => ?_) (fun h528 => ?_)
          · refine X.aload_n 59 (zi209 58) rfl rfl rfl ?_
            refine X.sipush 62 (zi209 59) rfl rfl (by decide) ?_
            refine X.iload 64 (zi209 62) rfl rfl rfl ?_
            refine X.callv 67 [zi 143, zi y4] [zl y2] [(0, zr 4 44), (1, zi 143), (2, zi y4)] (zi209 64) rfl (by decide) rfl rfl (by omega) rfl rfl (by decide) rfl t213 (Nat.le_of_ble_eq_true rfl) (Nat.le_of_ble_eq_true rfl) rfl ?_
            refine c213_1 (B := B)  143 y4 (by omega) (hJ.up (by omega)) (by omega) (by omega) (by omega) (fun v531 hv531 hFv531 => ?_)
            show X (EE s) d 209 67 [(0, zr 4 44), (1, zi y1), (4, zi y4)] [zl v531, zl y2] m _
            exact hK544 v531 (by first | trivial | omega) (Eq.trans (if_neg h526) (Eq.trans (if_neg h527) (Eq.trans (if_neg h528) (Eq.trans (zn_eq hFv531.symm) rfl))))
          · refine X.aload_n 48 (zi209 47) rfl rfl rfl ?_
            refine X.bipush 50 (zi209 48) rfl rfl (by decide) ?_
            refine X.iload 52 (zi209 50) rfl rfl rfl ?_
            refine X.callv 55 [zi 95, zi y4] [zl y2] [(0, zr 4 44), (1, zi 95), (2, zi y4)] (zi209 52) rfl (by decide) rfl rfl (by omega) rfl rfl (by decide) rfl t213 (Nat.le_of_ble_eq_true rfl) (Nat.le_of_ble_eq_true rfl) rfl ?_
            refine c213_1 (B := B)  95 y4 (by omega) (hJ.up (by omega)) (by omega) (by omega) (by omega) (fun v534 hv534 hFv534 => ?_)
            show X (EE s) d 209 55 [(0, zr 4 44), (1, zi y1), (4, zi y4)] [zl v534, zl y2] m _
            refine X.goto 67 (zi209 55) rfl rfl ?_
            exact hK544 v534 (by first | trivial | omega) (Eq.trans (if_neg h526) (Eq.trans (if_neg h527) (Eq.trans (if_pos h528) (Eq.trans (zn_eq hFv534.symm) rfl))))
        · refine X.aload_n 34 (zi209 33) rfl rfl rfl ?_
          refine X.iload 36 (zi209 34) rfl rfl rfl ?_
          refine X.callv 39 [zi y4] [zl y2] [(0, zr 4 44), (1, zi y4)] (zi209 36) rfl (by decide) rfl rfl (by omega) rfl rfl (by decide) rfl t212 (Nat.le_of_ble_eq_true rfl) (Nat.le_of_ble_eq_true rfl) rfl ?_
          refine c212_1 (B := B)  y4 (by omega) (hJ.up (by omega)) (by omega) (by omega) (fun v537 hv537 hFv537 => ?_)
          show X (EE s) d 209 39 [(0, zr 4 44), (1, zi y1), (4, zi y4)] [zl v537, zl y2] m _
          refine X.goto 67 (zi209 39) rfl rfl ?_
          exact hK544 v537 (by first | trivial | omega) (Eq.trans (if_neg h526) (Eq.trans (if_pos h527) (Eq.trans (zn_eq hFv537.symm) rfl)))
      · refine X.aload_n 20 (zi209 19) rfl rfl rfl ?_
        refine X.iload 22 (zi209 20) rfl rfl rfl ?_
        refine X.callv 25 [zi y4] [zl y2] [(0, zr 4 44), (1, zi y4)] (zi209 22) rfl (by decide) rfl rfl (by omega) rfl rfl (by decide) rfl t210 (Nat.le_of_ble_eq_true rfl) (Nat.le_of_ble_eq_true rfl) rfl ?_
        refine c210_1 (B := B)  y4 (by omega) (hJ.up (by omega)) (by omega) (by omega) (fun v540 hv540 hFv540 => ?_)
        show X (EE s) d 209 25 [(0, zr 4 44), (1, zi y1), (2, zl y2), (4, zi y4)] [zl v540, zl y2] m _
        refine X.goto 67 (zi209 25) rfl rfl ?_
        refine X.cut [(0, zr 4 44), (1, zi y1), (4, zi y4)] (zi209 67) rfl ?_
        exact hK544 v540 (by first | trivial | omega) (Eq.trans (if_pos h526) (Eq.trans (zn_eq hFv540.symm) rfl))
-- WorkMeterModel.together
noncomputable def f209_1 (a1 : Int) (m : zM) : Int :=
  fl209_5_1 (fun y501 =>
  y501) a1 m (zfu 4) 0 0
-- WorkMeterModel.together
theorem c209_1 {s : Nat × (Nat → Int32)} {S : zS} {m0 m : zM} {B : Int} {d : Nat} {Q : Option zV → zM → Prop} (a1 : Int) (hd : 14 ≤ d) (hJ : J S m0 B m) (hB : B + 0 ≤ 1000000000) (ha1 : 0 ≤ a1 ∧ a1 ≤ 3) (hQ : ∀ (v : Int), ((-12000000) ≤ v ∧ v ≤ 12000000) → f209_1 a1 m = v → Q (some (zl v)) m) : X (EE s) d 209 0 [(0, zr 4 44), (1, zi a1)] [] m Q := by
  refine X.lconst (y := 0) 1 (zi209 0) rfl rfl rfl ?_
  refine X.lstore_n 2 [(0, zr 4 44), (1, zi a1), (2, zl 0)] (zi209 1) rfl rfl rfl ?_
  refine X.iconst 3 (zi209 2) rfl rfl (by decide) ?_
  refine X.istore 5 [(0, zr 4 44), (1, zi a1), (2, zl 0), (4, zi 0)] (zi209 3) rfl rfl rfl ?_
  have hz4 := zfu_eq 4
  refine l209_5_1 (s := s) (m := m) (B := B) (d := d) (R0 := (f209_1 a1 m))  a1  (by omega) (hJ.up (by omega)) (by omega) (by omega) (fun y501 hby501 hR505 => ?_) (zfu 4) 0 0 (by omega) (by omega) (by omega) (by omega) (by omega) rfl
  refine X.lload_n 76 (zi209 75) rfl rfl rfl ?_
  refine X.retl (zi209 76) rfl t209 ?_
  exact hQ y501 (by first | trivial | omega) (Eq.trans hR505 rfl) 
noncomputable def fl214_7_1_b (self : Int → Int → Int) (k51 : Int → Int) (y0 : Int) (m : zM) (y2 y4 : Int) : Int :=
  if y2 < y4 then
  (zn (((((y2 + y4) + 1) / 2) * (((y2 + y4) + 1) / 2))) fun z508 =>
  if z508 ≤ y0 then
  (self (((y2 + y4) + 1) / 2) y4)
  else
  (self y2 ((((y2 + y4) + 1) / 2) - 1)))
  else
  (k51 y2)
noncomputable def fl214_7_1 (k51 : Int → Int) (y0 : Int) (m : zM) : Nat → Int → Int → Int
  | 0 => fun y2 y4 => 0
  | n + 1 => fl214_7_1_b (fl214_7_1 k51 y0 m n) k51 y0 m
theorem l214_7_1 {s : Nat × (Nat → Int32)} {S : zS} {m0 : zM} {m : zM} {B : Int} {d : Nat} {Q : Option zV → zM → Prop} {R0 : Int} {k51 : Int → Int} (y0 : Int) (hd : 13 ≤ d) (hJ : J S m0 B m) (hB9 : B ≤ 1000000000) (hy0 : 0 ≤ y0 ∧ y0 ≤ 288000000000000)
    (K51 : ∀ (x2 : Int) , (0 ≤ x2 ∧ x2 ≤ 3000000000) → R0 = k51 x2 → X (EE s) d 214 51 [(2, zl x2)] [] m Q) :
    ∀ (n : Nat) (y2 y4 : Int) , (0 ≤ y2 ∧ y2 ≤ 3000000000) → (0 ≤ y4 ∧ y4 ≤ 3000000000) → (y2 ≤ y4) → y4 - y2 < (n : Int) → R0 = fl214_7_1 k51 y0 m n y2 y4 → X (EE s) d 214 7 [(0, zl y0), (2, zl y2), (4, zl y4)] [] m Q := by
  intro n
  induction n with
  | zero =>
    intro y2 y4 hy2 hy4 hr0 hn hR
    exfalso
    omega
  | succ n ih =>
    intro y2 y4 hy2 hy4 hr0 hn hR
    replace hR : R0 = fl214_7_1_b (fl214_7_1 k51 y0 m n) k51 y0 m y2 y4 := hR
    refine X.lload_n 8 (zi214 7) rfl rfl rfl ?_
    refine X.lload 10 (zi214 8) rfl rfl rfl ?_
    refine X.lcmp 11 (zi214 10) rfl rfl (fun z506 hz506 => ?_)
    refine X.ifge 51 14 (zi214 11) rfl rfl rfl (fun h507 => ?_) (fun h507 => ?_)
    · have h507c : ¬ y2 < y4 := by omega
      clear h507 hz506
      refine X.cut [(2, zl y2)] (zi214 51) rfl ?_
      exact K51 y2 (by first | trivial | omega) (Eq.trans hR (Eq.trans (if_neg h507c) rfl))
    · have h507c : y2 < y4 := by omega
      clear h507 hz506
      refine X.lload_n 15 (zi214 14) rfl rfl rfl ?_
      refine X.lload 17 (zi214 15) rfl rfl rfl ?_
      refine X.ladd 18 (zi214 17) rfl rfl (by omega) ?_
      refine X.lconst (y := 1) 19 (zi214 18) rfl rfl rfl ?_
      refine X.ladd 20 (zi214 19) rfl rfl (by omega) ?_
      refine X.ldc2 23 (zi214 20) rfl rfl (by decide) ?_
      refine X.ldivp 24 (zi214 23) rfl rfl (by omega) ?_
      refine X.lstore 26 [(0, zl y0), (2, zl y2), (4, zl y4), (6, zl (((y2 + y4) + 1) / 2))] (zi214 24) rfl rfl rfl ?_
      refine X.lload 28 (zi214 26) rfl rfl rfl ?_
      refine X.lload 30 (zi214 28) rfl rfl rfl ?_
      have hz508 := z_sqr (e := 3000000000) (x := (((y2 + y4) + 1) / 2)) (by omega)
      refine X.lmul 31 (zi214 30) rfl rfl (z_in3 hz508 (by decide) (by decide)) ?_
      obtain ⟨z508, ez508⟩ : ∃ z, z = ((((y2 + y4) + 1) / 2) * (((y2 + y4) + 1) / 2)) := ⟨_, rfl⟩
      rw [← ez508] at hz508 ⊢
      have gz508 : 0 ≤ z508 ∧ z508 ≤ 9000000000000000000 := z_in3 hz508 (by decide) (by decide)
      clear hz508
      refine X.lload_n 32 (zi214 31) rfl rfl rfl ?_
      refine X.lcmp 33 (zi214 32) rfl rfl (fun z509 hz509 => ?_)
      refine X.ifgt 42 36 (zi214 33) rfl rfl rfl (fun h510 => ?_) (fun h510 => ?_)
      · have h510c : ¬ z508 ≤ y0 := by omega
        clear h510 hz509
        refine X.cut [(0, zl y0), (2, zl y2), (6, zl (((y2 + y4) + 1) / 2))] (zi214 42) rfl ?_
        refine X.lload 44 (zi214 42) rfl rfl rfl ?_
        refine X.lconst (y := 1) 45 (zi214 44) rfl rfl rfl ?_
        refine X.lsub 46 (zi214 45) rfl rfl (by omega) ?_
        refine X.lstore 48 [(0, zl y0), (2, zl y2), (4, zl ((((y2 + y4) + 1) / 2) - 1)), (6, zl (((y2 + y4) + 1) / 2))] (zi214 46) rfl rfl rfl ?_
        refine X.cut [(0, zl y0), (2, zl y2), (4, zl ((((y2 + y4) + 1) / 2) - 1))] (zi214 48) rfl ?_
        refine X.goto 7 (zi214 48) rfl rfl ?_
        exact ih y2 ((((y2 + y4) + 1) / 2) - 1) (by omega) (by omega) (by omega) (by omega) (Eq.trans hR (Eq.trans (if_pos h507c) (Eq.trans (zn_eq ez508) (Eq.trans (if_neg h510c) rfl))))
      · have h510c : z508 ≤ y0 := by omega
        clear h510 hz509
        refine X.lload 38 (zi214 36) rfl rfl rfl ?_
        refine X.lstore_n 39 [(0, zl y0), (2, zl (((y2 + y4) + 1) / 2)), (4, zl y4), (6, zl (((y2 + y4) + 1) / 2))] (zi214 38) rfl rfl rfl ?_
        refine X.goto 48 (zi214 39) rfl rfl ?_
        refine X.cut [(0, zl y0), (2, zl (((y2 + y4) + 1) / 2)), (4, zl y4)] (zi214 48) rfl ?_
        refine X.goto 7 (zi214 48) rfl rfl ?_
        exact ih (((y2 + y4) + 1) / 2) y4 (by omega) (by omega) (by omega) (by omega) (Eq.trans hR (Eq.trans (if_pos h507c) (Eq.trans (zn_eq ez508) (Eq.trans (if_pos h510c) rfl))))
-- WorkMeterModel.root
noncomputable def f214_1 (a0 : Int) (m : zM) : Int :=
  fl214_7_1 (fun y501 =>
  y501) a0 m (zfu 3000000001) 0 3000000000
-- WorkMeterModel.root
theorem c214_1 {s : Nat × (Nat → Int32)} {S : zS} {m0 m : zM} {B : Int} {d : Nat} {Q : Option zV → zM → Prop} (a0 : Int) (hd : 13 ≤ d) (hJ : J S m0 B m) (hB : B + 0 ≤ 1000000000) (ha0 : 0 ≤ a0 ∧ a0 ≤ 288000000000000) (hQ : ∀ (v : Int), (0 ≤ v ∧ v ≤ 3000000000) → f214_1 a0 m = v → Q (some (zl v)) m) : X (EE s) d 214 0 [(0, zl a0)] [] m Q := by
  refine X.lconst (y := 0) 1 (zi214 0) rfl rfl rfl ?_
  refine X.lstore_n 2 [(0, zl a0), (2, zl 0)] (zi214 1) rfl rfl rfl ?_
  refine X.ldc2 5 (zi214 2) rfl rfl (by decide) ?_
  refine X.lstore 7 [(0, zl a0), (2, zl 0), (4, zl 3000000000)] (zi214 5) rfl rfl rfl ?_
  have hz3000000001 := zfu_eq 3000000001
  refine l214_7_1 (s := s) (m := m) (B := B) (d := d) (R0 := (f214_1 a0 m))  a0  (by omega) (hJ.up (by omega)) (by omega) (by omega) (fun y501 hby501 hR505 => ?_) (zfu 3000000001) 0 3000000000 (by omega) (by omega) (by omega) (by omega) rfl
  refine X.lload_n 52 (zi214 51) rfl rfl rfl ?_
  refine X.retl (zi214 52) rfl t214 ?_
  exact hQ y501 (by first | trivial | omega) (Eq.trans hR505 rfl) 
-- WorkMeterModel.size
noncomputable def f215_1 (a0 : Int) (m : zM) : Int :=
  zn (if a0 < 0 then
  ((-a0))
  else
  (a0)) fun v503 =>
  v503
-- WorkMeterModel.size
theorem c215_1 {s : Nat × (Nat → Int32)} {S : zS} {m0 m : zM} {B : Int} {d : Nat} {Q : Option zV → zM → Prop} (a0 : Int) (hd : 13 ≤ d) (hJ : J S m0 B m) (hB : B + 0 ≤ 1000000000) (ha0 : (-12000000) ≤ a0 ∧ a0 ≤ 12000000) (hQ : ∀ (v : Int), (0 ≤ v ∧ v ≤ 12000000) → f215_1 a0 m = v → Q (some (zl v)) m) : X (EE s) d 215 0 [(0, zl a0)] [] m Q := by
  refine X.lload_n 1 (zi215 0) rfl rfl rfl ?_
  refine X.lconst (y := 0) 2 (zi215 1) rfl rfl rfl ?_
  refine X.lcmp 3 (zi215 2) rfl rfl (fun z501 hz501 => ?_)
  have hK506 : ∀ (v : Int) , (0 ≤ v ∧ v ≤ 12000000) → (if a0 < 0 then
      ((-a0))
      else
      (a0)) = v → X (EE s) d 215 12 [] [zl v] m Q := by
    intro v503 hv503 hT507
    refine X.retl (zi215 12) rfl t215 ?_
    exact hQ v503 (by first | trivial | omega) (Eq.trans (zn_eq hT507.symm) rfl) 
  refine X.ifge 11 6 (zi215 3) rfl rfl rfl (fun h502 => ?_) (fun h502 => ?_)
  · have h502c : ¬ a0 < 0 := by omega
    clear h502 hz501
    refine X.lload_n 12 (zi215 11) rfl rfl rfl ?_
    refine X.cut [] (zi215 12) rfl ?_
    exact hK506 a0 (by first | trivial | omega) (Eq.trans (if_neg h502c) rfl)
  · have h502c : a0 < 0 := by omega
    clear h502 hz501
    refine X.lload_n 7 (zi215 6) rfl rfl rfl ?_
    refine X.lneg 8 (zi215 7) rfl rfl (by omega) ?_
    refine X.goto 12 (zi215 8) rfl rfl ?_
    refine X.cut [] (zi215 12) rfl ?_
    exact hK506 (-a0) (by first | trivial | omega) (Eq.trans (if_pos h502c) rfl)
noncomputable def fl219_7_1_b (self : Int → Int → Int → Int) (k95 : Int → Int → Int) (y1 : Int) (m : zM) (y2 y3 y4 : Int) : Int :=
  if 4 ≤ y4 then
  (k95 y2 y3)
  else
  (if (m 4 45 (391 + y4)) = (-1) then
  (self y2 y3 (y4 + 1))
  else
  (zn (if (m 4 45 (391 + y4)) ≤ y1 then
  (if y2 = (-1) then
  (y4)
  else
  (if (m 4 45 (391 + y4)) ≤ (m 4 45 (391 + y2)) then
  (y2)
  else
  (y4)))
  else
  (y2)) fun v554 =>
  zn (if (m 4 45 (391 + y4)) ≤ (m 4 45 (391 + y3)) then
  (y3)
  else
  (y4)) fun v562 =>
  self v554 v562 (y4 + 1)))
noncomputable def fl219_7_1 (k95 : Int → Int → Int) (y1 : Int) (m : zM) : Nat → Int → Int → Int → Int
  | 0 => fun y2 y3 y4 => 0
  | n + 1 => fl219_7_1_b (fl219_7_1 k95 y1 m n) k95 y1 m
theorem l219_7_1 {s : Nat × (Nat → Int32)} {S : zS} {m0 : zM} {m : zM} {B : Int} {d : Nat} {Q : Option zV → zM → Prop} {R0 : Int} {k95 : Int → Int → Int} (y1 : Int) (hd : 13 ≤ d) (hJ : J S m0 B m) (hB9 : B ≤ 1000000000) (hy1 : 0 ≤ y1 ∧ y1 ≤ 364)
    (K95 : ∀ (x2 x3 : Int) , ((-1) ≤ x2 ∧ x2 ≤ 3) → (0 ≤ x3 ∧ x3 ≤ 3) → R0 = k95 x2 x3 → X (EE s) d 219 95 [(2, zi x2), (3, zi x3)] [] m Q) :
    ∀ (n : Nat) (y2 y3 y4 : Int) , ((-1) ≤ y2 ∧ y2 ≤ 3) → (0 ≤ y3 ∧ y3 ≤ 3) → (0 ≤ y4 ∧ y4 ≤ 4) → 4 - y4 < (n : Int) → R0 = fl219_7_1 k95 y1 m n y2 y3 y4 → X (EE s) d 219 7 [(0, zr 4 44), (1, zi y1), (2, zi y2), (3, zi y3), (4, zi y4)] [] m Q := by
  intro n
  induction n with
  | zero =>
    intro y2 y3 y4 hy2 hy3 hy4 hn hR
    exfalso
    omega
  | succ n ih =>
    intro y2 y3 y4 hy2 hy3 hy4 hn hR
    replace hR : R0 = fl219_7_1_b (fl219_7_1 k95 y1 m n) k95 y1 m y2 y3 y4 := hR
    refine X.iload 9 (zi219 7) rfl rfl rfl ?_
    refine X.iconst 10 (zi219 9) rfl rfl (by decide) ?_
    refine X.icmpge 95 13 (zi219 10) rfl rfl rfl (fun h544 => ?_) (fun h544 => ?_)
    · refine X.cut [(2, zi y2), (3, zi y3)] (zi219 95) rfl ?_
      exact K95 y2 y3 (by first | trivial | omega) (by first | trivial | omega) (Eq.trans hR (Eq.trans (if_pos h544) rfl))
    · refine X.aload_n 14 (zi219 13) rfl rfl rfl ?_
      refine X.getF 17 (zi219 14) rfl rfl (by decide) rfl rfl ?_
      refine X.sipush 20 (zi219 17) rfl rfl (by decide) ?_
      refine X.iload 22 (zi219 20) rfl rfl rfl ?_
      refine X.iadd 23 (zi219 22) rfl rfl (by omega) ?_
      refine X.lald 24 (zi219 23) rfl rfl (by decide) rfl (by omega) ?_
      have h545 := r45_391 hJ 4 (i := (391 + y4)) (by omega)
      refine X.lstore 26 [(0, zr 4 44), (1, zi y1), (2, zi y2), (3, zi y3), (4, zi y4), (5, zl (m 4 45 (391 + y4)))] (zi219 24) rfl rfl rfl ?_
      refine X.lload 28 (zi219 26) rfl rfl rfl ?_
      refine X.ldc2 31 (zi219 28) rfl rfl (by decide) ?_
      refine X.lcmp 32 (zi219 31) rfl rfl (fun z546 hz546 => ?_)
      refine X.ifne 38 35 (zi219 32) rfl rfl rfl (fun h547 => ?_) (fun h547 => ?_)
      · have h547c : ¬ (m 4 45 (391 + y4)) = (-1) := by omega
        clear h547 hz546
        refine X.lload 40 (zi219 38) rfl rfl rfl ?_
        refine X.iload_n 41 (zi219 40) rfl rfl rfl ?_
        refine X.i2l 42 (zi219 41) rfl rfl ?_
        refine X.lcmp 43 (zi219 42) rfl rfl (fun z548 hz548 => ?_)
        have hK557 : ∀ (v : Int) , ((-1) ≤ v ∧ v ≤ 3) → (if (m 4 45 (391 + y4)) ≤ y1 then
            (if y2 = (-1) then
            (y4)
            else
            (if (m 4 45 (391 + y4)) ≤ (m 4 45 (391 + y2)) then
            (y2)
            else
            (y4)))
            else
            (y2)) = v → X (EE s) d 219 70 [(0, zr 4 44), (1, zi y1), (2, zi v), (3, zi y3), (4, zi y4), (5, zl (m 4 45 (391 + y4)))] [] m Q := by
          intro v554 hv554 hT558
          refine X.lload 72 (zi219 70) rfl rfl rfl ?_
          refine X.aload_n 73 (zi219 72) rfl rfl rfl ?_
          refine X.getF 76 (zi219 73) rfl rfl (by decide) rfl rfl ?_
          refine X.sipush 79 (zi219 76) rfl rfl (by decide) ?_
          refine X.iload_n 80 (zi219 79) rfl rfl rfl ?_
          refine X.iadd 81 (zi219 80) rfl rfl (by omega) ?_
          refine X.lald 82 (zi219 81) rfl rfl (by decide) rfl (by omega) ?_
          have h559 := r45_391 hJ 4 (i := (391 + y3)) (by omega)
          refine X.lcmp 83 (zi219 82) rfl rfl (fun z560 hz560 => ?_)
          have hK565 : ∀ (v : Int) , (0 ≤ v ∧ v ≤ 3) → (if (m 4 45 (391 + y4)) ≤ (m 4 45 (391 + y3)) then
              (y3)
              else
              (y4)) = v → X (EE s) d 219 89 [(0, zr 4 44), (1, zi y1), (2, zi v554), (3, zi v), (4, zi y4)] [] m Q := by
            intro v562 hv562 hT566
            refine X.iinc 92 [(0, zr 4 44), (1, zi y1), (2, zi v554), (3, zi v562), (4, zi (y4 + 1))] (zi219 89) rfl rfl rfl (by omega) rfl ?_
            refine X.goto 7 (zi219 92) rfl rfl ?_
            exact ih v554 v562 (y4 + 1) (by omega) (by omega) (by omega) (by omega) (Eq.trans hR (Eq.trans (if_neg h544) (Eq.trans (if_neg h547c) (Eq.trans (zn_eq hT558.symm) (Eq.trans (zn_eq hT566.symm) rfl)))))
          refine X.ifle 89 86 (zi219 83) rfl rfl rfl (fun h561 => ?_) (fun h561 => ?_)
          · have h561c : (m 4 45 (391 + y4)) ≤ (m 4 45 (391 + y3)) := by omega
            clear h561 hz560
            refine X.cut [(0, zr 4 44), (1, zi y1), (2, zi v554), (3, zi y3), (4, zi y4)] (zi219 89) rfl ?_
            exact hK565 y3 (by first | trivial | omega) (Eq.trans (if_pos h561c) rfl)
          · have h561c : ¬ (m 4 45 (391 + y4)) ≤ (m 4 45 (391 + y3)) := by omega
            clear h561 hz560
            refine X.iload 88 (zi219 86) rfl rfl rfl ?_
            refine X.istore_n 89 [(0, zr 4 44), (1, zi y1), (2, zi v554), (3, zi y4), (4, zi y4), (5, zl (m 4 45 (391 + y4)))] (zi219 88) rfl rfl rfl ?_
            refine X.cut [(0, zr 4 44), (1, zi y1), (2, zi v554), (3, zi y4), (4, zi y4)] (zi219 89) rfl ?_
            exact hK565 y4 (by first | trivial | omega) (Eq.trans (if_neg h561c) rfl)
        refine X.ifgt 70 46 (zi219 43) rfl rfl rfl (fun h549 => ?_) (fun h549 => ?_)
        · have h549c : ¬ (m 4 45 (391 + y4)) ≤ y1 := by omega
          clear h549 hz548
          exact hK557 y2 (by first | trivial | omega) (Eq.trans (if_neg h549c) rfl)
        · have h549c : (m 4 45 (391 + y4)) ≤ y1 := by omega
          clear h549 hz548
          refine X.iload_n 47 (zi219 46) rfl rfl rfl ?_
          refine X.iconst 48 (zi219 47) rfl rfl (by decide) ?_
          refine X.icmpeq 67 51 (zi219 48) rfl rfl rfl (fun h550 => ?_) (fun h550 => ?_)
          · refine X.cut [(0, zr 4 44), (1, zi y1), (3, zi y3), (4, zi y4), (5, zl (m 4 45 (391 + y4)))] (zi219 67) rfl ?_
            refine X.iload 69 (zi219 67) rfl rfl rfl ?_
            refine X.istore_n 70 [(0, zr 4 44), (1, zi y1), (2, zi y4), (3, zi y3), (4, zi y4), (5, zl (m 4 45 (391 + y4)))] (zi219 69) rfl rfl rfl ?_
            exact hK557 y4 (by first | trivial | omega) (Eq.trans (if_pos h549c) (Eq.trans (if_pos h550) rfl))
          · refine X.lload 53 (zi219 51) rfl rfl rfl ?_
            refine X.aload_n 54 (zi219 53) rfl rfl rfl ?_
            refine X.getF 57 (zi219 54) rfl rfl (by decide) rfl rfl ?_
            refine X.sipush 60 (zi219 57) rfl rfl (by decide) ?_
            refine X.iload_n 61 (zi219 60) rfl rfl rfl ?_
            refine X.iadd 62 (zi219 61) rfl rfl (by omega) ?_
            refine X.lald 63 (zi219 62) rfl rfl (by decide) rfl (by omega) ?_
            have h551 := r45_391 hJ 4 (i := (391 + y2)) (by omega)
            refine X.lcmp 64 (zi219 63) rfl rfl (fun z552 hz552 => ?_)
            refine X.ifle 70 67 (zi219 64) rfl rfl rfl (fun h553 => ?_) (fun h553 => ?_)
            · have h553c : (m 4 45 (391 + y4)) ≤ (m 4 45 (391 + y2)) := by omega
              clear h553 hz552
              exact hK557 y2 (by first | trivial | omega) (Eq.trans (if_pos h549c) (Eq.trans (if_neg h550) (Eq.trans (if_pos h553c) rfl)))
            · have h553c : ¬ (m 4 45 (391 + y4)) ≤ (m 4 45 (391 + y2)) := by omega
              clear h553 hz552
              refine X.cut [(0, zr 4 44), (1, zi y1), (3, zi y3), (4, zi y4), (5, zl (m 4 45 (391 + y4)))] (zi219 67) rfl ?_
              refine X.iload 69 (zi219 67) rfl rfl rfl ?_
              refine X.istore_n 70 [(0, zr 4 44), (1, zi y1), (2, zi y4), (3, zi y3), (4, zi y4), (5, zl (m 4 45 (391 + y4)))] (zi219 69) rfl rfl rfl ?_
              exact hK557 y4 (by first | trivial | omega) (Eq.trans (if_pos h549c) (Eq.trans (if_neg h550) (Eq.trans (if_neg h553c) rfl)))
      · have h547c : (m 4 45 (391 + y4)) = (-1) := by omega
        clear h547 hz546
        refine X.goto 89 (zi219 35) rfl rfl ?_
        refine X.cut [(0, zr 4 44), (1, zi y1), (2, zi y2), (3, zi y3), (4, zi y4)] (zi219 89) rfl ?_
        refine X.iinc 92 [(0, zr 4 44), (1, zi y1), (2, zi y2), (3, zi y3), (4, zi (y4 + 1))] (zi219 89) rfl rfl rfl (by omega) rfl ?_
        refine X.goto 7 (zi219 92) rfl rfl ?_
        exact ih y2 y3 (y4 + 1) (by omega) (by omega) (by omega) (by omega) (Eq.trans hR (Eq.trans (if_neg h544) (Eq.trans (if_pos h547c) rfl)))
-- WorkMeterModel.seasonOf
noncomputable def f219_1 (a1 : Int) (m : zM) : Int :=
  fl219_7_1 (fun y501 y502 =>
  zn (if y501 = (-1) then
  (y502)
  else
  (y501)) fun v508 =>
  v508) a1 m (zfu 5) (-1) 0 0
-- WorkMeterModel.seasonOf
theorem c219_1 {s : Nat × (Nat → Int32)} {S : zS} {m0 m : zM} {B : Int} {d : Nat} {Q : Option zV → zM → Prop} (a1 : Int) (hd : 13 ≤ d) (hJ : J S m0 B m) (hB : B + 0 ≤ 1000000000) (ha1 : 0 ≤ a1 ∧ a1 ≤ 364) (hQ : ∀ (v : Int), (0 ≤ v ∧ v ≤ 3) → f219_1 a1 m = v → Q (some (zi v)) m) : X (EE s) d 219 0 [(0, zr 4 44), (1, zi a1)] [] m Q := by
  refine X.iconst 1 (zi219 0) rfl rfl (by decide) ?_
  refine X.istore_n 2 [(0, zr 4 44), (1, zi a1), (2, zi (-1))] (zi219 1) rfl rfl rfl ?_
  refine X.iconst 3 (zi219 2) rfl rfl (by decide) ?_
  refine X.istore_n 4 [(0, zr 4 44), (1, zi a1), (2, zi (-1)), (3, zi 0)] (zi219 3) rfl rfl rfl ?_
  refine X.iconst 5 (zi219 4) rfl rfl (by decide) ?_
  refine X.istore 7 [(0, zr 4 44), (1, zi a1), (2, zi (-1)), (3, zi 0), (4, zi 0)] (zi219 5) rfl rfl rfl ?_
  have hz5 := zfu_eq 5
  refine l219_7_1 (s := s) (m := m) (B := B) (d := d) (R0 := (f219_1 a1 m))  a1  (by omega) (hJ.up (by omega)) (by omega) (by omega) (fun y501 y502 hby501 hby502 hR506 => ?_) (zfu 5) (-1) 0 0 (by omega) (by omega) (by omega) (by omega) rfl
  refine X.iload_n 96 (zi219 95) rfl rfl rfl ?_
  refine X.iconst 97 (zi219 96) rfl rfl (by decide) ?_
  have hK511 : ∀ (v : Int) , (0 ≤ v ∧ v ≤ 3) → (if y501 = (-1) then
      (y502)
      else
      (y501)) = v → X (EE s) d 219 105 [] [zi v] m Q := by
    intro v508 hv508 hT512
    refine X.reti (zi219 105) rfl t219 ?_
    exact hQ v508 (by first | trivial | omega) (Eq.trans hR506 (Eq.trans (zn_eq hT512.symm) rfl)) 
  refine X.icmpne 104 100 (zi219 97) rfl rfl rfl (fun h507 => ?_) (fun h507 => ?_)
  · refine X.cut [(2, zi y501)] (zi219 104) rfl ?_
    refine X.iload_n 105 (zi219 104) rfl rfl rfl ?_
    refine X.cut [] (zi219 105) rfl ?_
    exact hK511 y501 (by first | trivial | omega) (Eq.trans (if_neg h507) rfl)
  · refine X.iload_n 101 (zi219 100) rfl rfl rfl ?_
    refine X.goto 105 (zi219 101) rfl rfl ?_
    refine X.cut [] (zi219 105) rfl ?_
    exact hK511 y502 (by first | trivial | omega) (Eq.trans (if_pos h507) rfl)
-- WorkMeterModel.tableAt
noncomputable def f218_1 (a1 : Int) (m : zM) : Int :=
  if (m 4 45 (423 + (a1 % 365))) = (-1) then
  (zn (f219_1 (a1 % 365) m) fun v506 =>
  (m 4 45 ((395 + (7 * v506)) + (a1 % 7))))
  else
  ((m 4 45 (423 + (a1 % 365))))
-- WorkMeterModel.tableAt
theorem c218_1 {s : Nat × (Nat → Int32)} {S : zS} {m0 m : zM} {B : Int} {d : Nat} {Q : Option zV → zM → Prop} (a1 : Int) (hd : 14 ≤ d) (hJ : J S m0 B m) (hB : B + 0 ≤ 1000000000) (ha1 : 0 ≤ a1 ∧ a1 ≤ 23150) (hQ : ∀ (v : Int), (0 ≤ v ∧ v ≤ 7) → f218_1 a1 m = v → Q (some (zi v)) m) : X (EE s) d 218 0 [(0, zr 4 44), (1, zi a1)] [] m Q := by
  refine X.iload_n 1 (zi218 0) rfl rfl rfl ?_
  refine X.sipush 4 (zi218 1) rfl rfl (by decide) ?_
  refine X.irem 5 (zi218 4) rfl rfl (by omega) ?_
  refine X.istore_n 6 [(0, zr 4 44), (1, zi a1), (2, zi (a1 % 365))] (zi218 5) rfl rfl rfl ?_
  refine X.aload_n 7 (zi218 6) rfl rfl rfl ?_
  refine X.getF 10 (zi218 7) rfl rfl (by decide) rfl rfl ?_
  refine X.sipush 13 (zi218 10) rfl rfl (by decide) ?_
  refine X.iload_n 14 (zi218 13) rfl rfl rfl ?_
  refine X.iadd 15 (zi218 14) rfl rfl (by omega) ?_
  refine X.lald 16 (zi218 15) rfl rfl (by decide) rfl (by omega) ?_
  have h501 := r45_423 hJ 4 (i := (423 + (a1 % 365))) (by omega)
  refine X.ldc2 19 (zi218 16) rfl rfl (by decide) ?_
  refine X.lcmp 20 (zi218 19) rfl rfl (fun z502 hz502 => ?_)
  refine X.ifeq 35 23 (zi218 20) rfl rfl rfl (fun h503 => ?_) (fun h503 => ?_)
  · have h503c : (m 4 45 (423 + (a1 % 365))) = (-1) := by omega
    clear h503 hz502
    refine X.aload_n 36 (zi218 35) rfl rfl rfl ?_
    refine X.getF 39 (zi218 36) rfl rfl (by decide) rfl rfl ?_
    refine X.sipush 42 (zi218 39) rfl rfl (by decide) ?_
    refine X.bipush 44 (zi218 42) rfl rfl (by decide) ?_
    refine X.aload_n 45 (zi218 44) rfl rfl rfl ?_
    refine X.iload_n 46 (zi218 45) rfl rfl rfl ?_
    refine X.callv 49 [zi (a1 % 365)] [zi 7, zi 395, zr 4 45] [(0, zr 4 44), (1, zi (a1 % 365))] (zi218 46) rfl (by decide) rfl rfl (by omega) rfl rfl (by decide) rfl t219 (Nat.le_of_ble_eq_true rfl) (Nat.le_of_ble_eq_true rfl) rfl ?_
    refine c219_1 (B := B)  (a1 % 365) (by omega) (hJ.up (by omega)) (by omega) (by omega) (fun v506 hv506 hFv506 => ?_)
    show X (EE s) d 218 49 [(0, zr 4 44), (1, zi a1), (2, zi (a1 % 365))] [zi v506, zi 7, zi 395, zr 4 45] m _
    refine X.imul 50 (zi218 49) rfl rfl (by omega) ?_
    refine X.iadd 51 (zi218 50) rfl rfl (by omega) ?_
    refine X.iload_n 52 (zi218 51) rfl rfl rfl ?_
    refine X.bipush 54 (zi218 52) rfl rfl (by decide) ?_
    refine X.irem 55 (zi218 54) rfl rfl (by omega) ?_
    refine X.iadd 56 (zi218 55) rfl rfl (by omega) ?_
    refine X.lald 57 (zi218 56) rfl rfl (by decide) rfl (by omega) ?_
    have h507 := r45_395 hJ 4 (i := ((395 + (7 * v506)) + (a1 % 7))) (by omega)
    refine X.l2i 58 (zi218 57) rfl rfl (by omega) ?_
    refine X.reti (zi218 58) rfl t218 ?_
    exact hQ (m 4 45 ((395 + (7 * v506)) + (a1 % 7))) (by first | trivial | omega) (Eq.trans (if_pos h503c) (Eq.trans (zn_eq hFv506.symm) rfl)) 
  · have h503c : ¬ (m 4 45 (423 + (a1 % 365))) = (-1) := by omega
    clear h503 hz502
    refine X.aload_n 24 (zi218 23) rfl rfl rfl ?_
    refine X.getF 27 (zi218 24) rfl rfl (by decide) rfl rfl ?_
    refine X.sipush 30 (zi218 27) rfl rfl (by decide) ?_
    refine X.iload_n 31 (zi218 30) rfl rfl rfl ?_
    refine X.iadd 32 (zi218 31) rfl rfl (by omega) ?_
    refine X.lald 33 (zi218 32) rfl rfl (by decide) rfl (by omega) ?_
    refine X.l2i 34 (zi218 33) rfl rfl (by omega) ?_
    refine X.reti (zi218 34) rfl t218 ?_
    exact hQ (m 4 45 (423 + (a1 % 365))) (by first | trivial | omega) (Eq.trans (if_neg h503c) rfl) 
noncomputable def fl217_14_1_b (self : Int → Int → Int) (k80 : Int → Int) (y1 y2 : Int) (m : zM) (y3 y4 : Int) : Int :=
  if y4 < (m 4 45 (287 + y2)) then
  (zn ((y1).tmod 86400) fun z533 =>
  zn (if (m 4 45 ((295 + (6 * y2)) + y4)) ≤ z533 then
  ((m 4 45 ((343 + (6 * y2)) + y4)))
  else
  (y3)) fun v537 =>
  self v537 (y4 + 1))
  else
  (k80 y3)
noncomputable def fl217_14_1 (k80 : Int → Int) (y1 y2 : Int) (m : zM) : Nat → Int → Int → Int
  | 0 => fun y3 y4 => 0
  | n + 1 => fl217_14_1_b (fl217_14_1 k80 y1 y2 m n) k80 y1 y2 m
theorem l217_14_1 {s : Nat × (Nat → Int32)} {S : zS} {m0 : zM} {m : zM} {B : Int} {d : Nat} {Q : Option zV → zM → Prop} {R0 : Int} {k80 : Int → Int} (y1 y2 : Int) (hd : 13 ≤ d) (hJ : J S m0 B m) (hB9 : B ≤ 1000000000) (hy1 : (-1) ≤ y1 ∧ y1 ≤ 2000000000) (hy2 : 0 ≤ y2 ∧ y2 ≤ 7)
    (K80 : ∀ (x3 : Int) , (0 ≤ x3 ∧ x3 ≤ 3) → R0 = k80 x3 → X (EE s) d 217 80 [(3, zi x3)] [] m Q) :
    ∀ (n : Nat) (y3 y4 : Int) , (0 ≤ y3 ∧ y3 ≤ 3) → (0 ≤ y4 ∧ y4 ≤ 6) → 6 - y4 < (n : Int) → R0 = fl217_14_1 k80 y1 y2 m n y3 y4 → X (EE s) d 217 14 [(0, zr 4 44), (1, zi y1), (2, zi y2), (3, zi y3), (4, zi y4)] [] m Q := by
  intro n
  induction n with
  | zero =>
    intro y3 y4 hy3 hy4 hn hR
    exfalso
    omega
  | succ n ih =>
    intro y3 y4 hy3 hy4 hn hR
    replace hR : R0 = fl217_14_1_b (fl217_14_1 k80 y1 y2 m n) k80 y1 y2 m y3 y4 := hR
    refine X.iload 16 (zi217 14) rfl rfl rfl ?_
    refine X.i2l 17 (zi217 16) rfl rfl ?_
    refine X.aload_n 18 (zi217 17) rfl rfl rfl ?_
    refine X.getF 21 (zi217 18) rfl rfl (by decide) rfl rfl ?_
    refine X.sipush 24 (zi217 21) rfl rfl (by decide) ?_
    refine X.iload_n 25 (zi217 24) rfl rfl rfl ?_
    refine X.iadd 26 (zi217 25) rfl rfl (by omega) ?_
    refine X.lald 27 (zi217 26) rfl rfl (by decide) rfl (by omega) ?_
    have h529 := r45_287 hJ 4 (i := (287 + y2)) (by omega)
    refine X.lcmp 28 (zi217 27) rfl rfl (fun z530 hz530 => ?_)
    refine X.ifge 80 31 (zi217 28) rfl rfl rfl (fun h531 => ?_) (fun h531 => ?_)
    · have h531c : ¬ y4 < (m 4 45 (287 + y2)) := by omega
      clear h531 hz530
      refine X.cut [(3, zi y3)] (zi217 80) rfl ?_
      exact K80 y3 (by first | trivial | omega) (Eq.trans hR (Eq.trans (if_neg h531c) rfl))
    · have h531c : y4 < (m 4 45 (287 + y2)) := by omega
      clear h531 hz530
      refine X.aload_n 32 (zi217 31) rfl rfl rfl ?_
      refine X.getF 35 (zi217 32) rfl rfl (by decide) rfl rfl ?_
      refine X.sipush 38 (zi217 35) rfl rfl (by decide) ?_
      refine X.bipush 40 (zi217 38) rfl rfl (by decide) ?_
      refine X.iload_n 41 (zi217 40) rfl rfl rfl ?_
      refine X.imul 42 (zi217 41) rfl rfl (by omega) ?_
      refine X.iadd 43 (zi217 42) rfl rfl (by omega) ?_
      refine X.iload 45 (zi217 43) rfl rfl rfl ?_
      refine X.iadd 46 (zi217 45) rfl rfl (by omega) ?_
      refine X.lald 47 (zi217 46) rfl rfl (by decide) rfl (by omega) ?_
      have h532 := r45_295 hJ 4 (i := ((295 + (6 * y2)) + y4)) (by omega)
      refine X.iload_n 48 (zi217 47) rfl rfl rfl ?_
      refine X.ldc 50 (zi217 48) rfl rfl (by decide) ?_
      refine X.iremE 51 (zi217 50) rfl rfl (by decide) (fun z533 ez533 hz533 => ?_)
      refine X.i2l 52 (zi217 51) rfl rfl ?_
      refine X.lcmp 53 (zi217 52) rfl rfl (fun z534 hz534 => ?_)
      have hK540 : ∀ (v : Int) , (0 ≤ v ∧ v ≤ 3) → (if (m 4 45 ((295 + (6 * y2)) + y4)) ≤ z533 then
          ((m 4 45 ((343 + (6 * y2)) + y4)))
          else
          (y3)) = v → X (EE s) d 217 74 [(0, zr 4 44), (1, zi y1), (2, zi y2), (3, zi v), (4, zi y4)] [] m Q := by
        intro v537 hv537 hT541
        refine X.iinc 77 [(0, zr 4 44), (1, zi y1), (2, zi y2), (3, zi v537), (4, zi (y4 + 1))] (zi217 74) rfl rfl rfl (by omega) rfl ?_
        refine X.goto 14 (zi217 77) rfl rfl ?_
        exact ih v537 (y4 + 1) (by omega) (by omega) (by omega) (Eq.trans hR (Eq.trans (if_pos h531c) (Eq.trans (zn_eq ez533) (Eq.trans (zn_eq hT541.symm) rfl))))
      refine X.ifgt 74 56 (zi217 53) rfl rfl rfl (fun h535 => ?_) (fun h535 => ?_)
      · have h535c : ¬ (m 4 45 ((295 + (6 * y2)) + y4)) ≤ z533 := by omega
        clear h535 hz534
        exact hK540 y3 (by first | trivial | omega) (Eq.trans (if_neg h535c) rfl)
      · have h535c : (m 4 45 ((295 + (6 * y2)) + y4)) ≤ z533 := by omega
        clear h535 hz534
        refine X.aload_n 57 (zi217 56) rfl rfl rfl ?_
        refine X.getF 60 (zi217 57) rfl rfl (by decide) rfl rfl ?_
        refine X.sipush 63 (zi217 60) rfl rfl (by decide) ?_
        refine X.bipush 65 (zi217 63) rfl rfl (by decide) ?_
        refine X.iload_n 66 (zi217 65) rfl rfl rfl ?_
        refine X.imul 67 (zi217 66) rfl rfl (by omega) ?_
        refine X.iadd 68 (zi217 67) rfl rfl (by omega) ?_
        refine X.iload 70 (zi217 68) rfl rfl rfl ?_
        refine X.iadd 71 (zi217 70) rfl rfl (by omega) ?_
        refine X.lald 72 (zi217 71) rfl rfl (by decide) rfl (by omega) ?_
        have h536 := r45_343 hJ 4 (i := ((343 + (6 * y2)) + y4)) (by omega)
        refine X.l2i 73 (zi217 72) rfl rfl (by omega) ?_
        refine X.istore_n 74 [(0, zr 4 44), (1, zi y1), (2, zi y2), (3, zi (m 4 45 ((343 + (6 * y2)) + y4))), (4, zi y4)] (zi217 73) rfl rfl rfl ?_
        exact hK540 (m 4 45 ((343 + (6 * y2)) + y4)) (by first | trivial | omega) (Eq.trans (if_pos h535c) rfl)
-- WorkMeterModel.tariff
noncomputable def f217_1 (a1 : Int) (m : zM) : Int :=
  zn ((a1).tdiv 86400) fun z501 =>
  zn (f218_1 z501 m) fun v504 =>
  fl217_14_1 (fun y505 =>
  y505) a1 v504 m (zfu 7) 0 0
-- WorkMeterModel.tariff
theorem c217_1 {s : Nat × (Nat → Int32)} {S : zS} {m0 m : zM} {B : Int} {d : Nat} {Q : Option zV → zM → Prop} (a1 : Int) (hd : 15 ≤ d) (hJ : J S m0 B m) (hB : B + 0 ≤ 1000000000) (ha1 : (-1) ≤ a1 ∧ a1 ≤ 2000000000) (hQ : ∀ (v : Int), (0 ≤ v ∧ v ≤ 3) → f217_1 a1 m = v → Q (some (zi v)) m) : X (EE s) d 217 0 [(0, zr 4 44), (1, zi a1)] [] m Q := by
  refine X.aload_n 1 (zi217 0) rfl rfl rfl ?_
  refine X.iload_n 2 (zi217 1) rfl rfl rfl ?_
  refine X.ldc 4 (zi217 2) rfl rfl (by decide) ?_
  refine X.idivE 5 (zi217 4) rfl rfl (by decide) (fun z501 ez501 hz501 => ?_)
  refine X.callv 8 [zi z501] [] [(0, zr 4 44), (1, zi z501)] (zi217 5) rfl (by decide) rfl rfl (by omega) rfl rfl (by decide) rfl t218 (Nat.le_of_ble_eq_true rfl) (Nat.le_of_ble_eq_true rfl) rfl ?_
  refine c218_1 (B := B)  z501 (by omega) (hJ.up (by omega)) (by omega) (by omega) (fun v504 hv504 hFv504 => ?_)
  show X (EE s) d 217 8 [(0, zr 4 44), (1, zi a1)] [zi v504] m _
  refine X.istore_n 9 [(0, zr 4 44), (1, zi a1), (2, zi v504)] (zi217 8) rfl rfl rfl ?_
  refine X.iconst 10 (zi217 9) rfl rfl (by decide) ?_
  refine X.istore_n 11 [(0, zr 4 44), (1, zi a1), (2, zi v504), (3, zi 0)] (zi217 10) rfl rfl rfl ?_
  refine X.iconst 12 (zi217 11) rfl rfl (by decide) ?_
  refine X.istore 14 [(0, zr 4 44), (1, zi a1), (2, zi v504), (3, zi 0), (4, zi 0)] (zi217 12) rfl rfl rfl ?_
  have hz7 := zfu_eq 7
  refine l217_14_1 (s := s) (m := m) (B := B) (d := d) (R0 := (f217_1 a1 m))  a1 v504  (by omega) (hJ.up (by omega)) (by omega) (by omega) (by omega) (fun y505 hby505 hR509 => ?_) (zfu 7) 0 0 (by omega) (by omega) (by omega) (Eq.trans (zn_eq ez501) (Eq.trans (zn_eq hFv504.symm) rfl))
  refine X.iload_n 81 (zi217 80) rfl rfl rfl ?_
  refine X.reti (zi217 81) rfl t217 ?_
  exact hQ y505 (by first | trivial | omega) (Eq.trans hR509 rfl) 
-- WorkMeterModel.counts
noncomputable def f220_1 (a1 a2 a3 : Int) (m : zM) : zM :=
  zn (w64 ((m 4 45 ((60 + (5 * a1)) + a2)) + a3)) fun z501 =>
  zs (z_upd m 4 45 ((60 + (5 * a1)) + a2) z501) fun m502 =>
  zn (w64 ((m502 4 45 ((60 + (5 * a1)) + 4)) + a3)) fun z504 =>
  zs (z_upd m502 4 45 ((60 + (5 * a1)) + 4) z504) fun m505 =>
  m505
-- WorkMeterModel.counts
theorem c220_1 {s : Nat × (Nat → Int32)} {S : zS} {m0 m : zM} {B : Int} {d : Nat} {Q : Option zV → zM → Prop} (a1 a2 a3 : Int) (hd : 13 ≤ d) (hJ : J S m0 B m) (hB : B + 0 ≤ 1000000000) (ha1 : 0 ≤ a1 ∧ a1 ≤ 0) (ha2 : 0 ≤ a2 ∧ a2 ≤ 3) (ha3 : 1 ≤ a3 ∧ a3 ≤ 12000000) (hf30 : ¬ S.1 30) (hg4 : ¬ S.2.1 4) (hQ : ∀ m', f220_1 a1 a2 a3 m = m' → J S m0 (B) m' → Q none m') : X (EE s) d 220 0 [(0, zr 4 44), (1, zi a1), (2, zi a2), (3, zl a3)] [] m Q := by
  refine X.aload_n 1 (zi220 0) rfl rfl rfl ?_
  refine X.getF 4 (zi220 1) rfl rfl (by decide) rfl rfl ?_
  refine X.bipush 6 (zi220 4) rfl rfl (by decide) ?_
  refine X.iconst 7 (zi220 6) rfl rfl (by decide) ?_
  refine X.iload_n 8 (zi220 7) rfl rfl rfl ?_
  refine X.imul 9 (zi220 8) rfl rfl (by omega) ?_
  refine X.iadd 10 (zi220 9) rfl rfl (by omega) ?_
  refine X.iload_n 11 (zi220 10) rfl rfl rfl ?_
  refine X.iadd 12 (zi220 11) rfl rfl (by omega) ?_
  refine X.dup2 13 (zi220 12) rfl rfl ?_
  refine X.lald 14 (zi220 13) rfl rfl (by decide) rfl (by omega) ?_
  refine X.lload_n 15 (zi220 14) rfl rfl rfl ?_
  refine X.laddW 16 (zi220 15) rfl rfl (fun z501 ez501 hz501 => ?_)
  refine X.last' 17 (zi220 16) rfl rfl (by decide) rfl (by omega) (fun hrm502 m502 hm502 => ?_)
  have hJ503 := w45_60 hJ hm502 (by omega) hrm502 hf30 hg4
  refine X.aload_n 18 (zi220 17) rfl rfl rfl ?_
  refine X.getF 21 (zi220 18) rfl rfl (by decide) rfl rfl ?_
  refine X.bipush 23 (zi220 21) rfl rfl (by decide) ?_
  refine X.iconst 24 (zi220 23) rfl rfl (by decide) ?_
  refine X.iload_n 25 (zi220 24) rfl rfl rfl ?_
  refine X.imul 26 (zi220 25) rfl rfl (by omega) ?_
  refine X.iadd 27 (zi220 26) rfl rfl (by omega) ?_
  refine X.iconst 28 (zi220 27) rfl rfl (by decide) ?_
  refine X.iadd 29 (zi220 28) rfl rfl (by omega) ?_
  refine X.dup2 30 (zi220 29) rfl rfl ?_
  refine X.lald 31 (zi220 30) rfl rfl (by decide) rfl (by omega) ?_
  refine X.lload_n 32 (zi220 31) rfl rfl rfl ?_
  refine X.laddW 33 (zi220 32) rfl rfl (fun z504 ez504 hz504 => ?_)
  refine X.last' 34 (zi220 33) rfl rfl (by decide) rfl (by omega) (fun hrm505 m505 hm505 => ?_)
  have hJ506 := w45_60 hJ503 hm505 (by omega) hrm505 hf30 hg4
  refine X.retv (zi220 34) rfl t220 ?_
  exact hQ  m505  (Eq.trans (zn_eq ez501) (Eq.trans (zs_eq hm502) (Eq.trans (zn_eq ez504) (Eq.trans (zs_eq hm505) rfl)))) (hJ506.up (by omega)) 
-- WorkMeterModel.counts
theorem c220_2 {s : Nat × (Nat → Int32)} {S : zS} {m0 m : zM} {B : Int} {d : Nat} {Q : Option zV → zM → Prop} (a1 a2 a3 : Int) (hd : 13 ≤ d) (hJ : J S m0 B m) (hB : B + 0 ≤ 1000000000) (ha1 : 1 ≤ a1 ∧ a1 ≤ 1) (ha2 : 0 ≤ a2 ∧ a2 ≤ 3) (ha3 : 1 ≤ a3 ∧ a3 ≤ 12000000) (hf30 : ¬ S.1 30) (hg4 : ¬ S.2.1 4) (hQ : ∀ m', f220_1 a1 a2 a3 m = m' → J S m0 (B) m' → Q none m') : X (EE s) d 220 0 [(0, zr 4 44), (1, zi a1), (2, zi a2), (3, zl a3)] [] m Q := by
  refine X.aload_n 1 (zi220 0) rfl rfl rfl ?_
  refine X.getF 4 (zi220 1) rfl rfl (by decide) rfl rfl ?_
  refine X.bipush 6 (zi220 4) rfl rfl (by decide) ?_
  refine X.iconst 7 (zi220 6) rfl rfl (by decide) ?_
  refine X.iload_n 8 (zi220 7) rfl rfl rfl ?_
  refine X.imul 9 (zi220 8) rfl rfl (by omega) ?_
  refine X.iadd 10 (zi220 9) rfl rfl (by omega) ?_
  refine X.iload_n 11 (zi220 10) rfl rfl rfl ?_
  refine X.iadd 12 (zi220 11) rfl rfl (by omega) ?_
  refine X.dup2 13 (zi220 12) rfl rfl ?_
  refine X.lald 14 (zi220 13) rfl rfl (by decide) rfl (by omega) ?_
  refine X.lload_n 15 (zi220 14) rfl rfl rfl ?_
  refine X.laddW 16 (zi220 15) rfl rfl (fun z501 ez501 hz501 => ?_)
  refine X.last' 17 (zi220 16) rfl rfl (by decide) rfl (by omega) (fun hrm502 m502 hm502 => ?_)
  have hJ503 := w45_60 hJ hm502 (by omega) hrm502 hf30 hg4
  refine X.aload_n 18 (zi220 17) rfl rfl rfl ?_
  refine X.getF 21 (zi220 18) rfl rfl (by decide) rfl rfl ?_
  refine X.bipush 23 (zi220 21) rfl rfl (by decide) ?_
  refine X.iconst 24 (zi220 23) rfl rfl (by decide) ?_
  refine X.iload_n 25 (zi220 24) rfl rfl rfl ?_
  refine X.imul 26 (zi220 25) rfl rfl (by omega) ?_
  refine X.iadd 27 (zi220 26) rfl rfl (by omega) ?_
  refine X.iconst 28 (zi220 27) rfl rfl (by decide) ?_
  refine X.iadd 29 (zi220 28) rfl rfl (by omega) ?_
  refine X.dup2 30 (zi220 29) rfl rfl ?_
  refine X.lald 31 (zi220 30) rfl rfl (by decide) rfl (by omega) ?_
  refine X.lload_n 32 (zi220 31) rfl rfl rfl ?_
  refine X.laddW 33 (zi220 32) rfl rfl (fun z504 ez504 hz504 => ?_)
  refine X.last' 34 (zi220 33) rfl rfl (by decide) rfl (by omega) (fun hrm505 m505 hm505 => ?_)
  have hJ506 := w45_60 hJ503 hm505 (by omega) hrm505 hf30 hg4
  refine X.retv (zi220 34) rfl t220 ?_
  exact hQ  m505  (Eq.trans (zn_eq ez501) (Eq.trans (zs_eq hm502) (Eq.trans (zn_eq ez504) (Eq.trans (zs_eq hm505) rfl)))) (hJ506.up (by omega)) 
-- WorkMeterModel.quadrant
noncomputable def f221_1 (a0 a1 : Int) (m : zM) : Int :=
  zn (if a0 < 0 then
  (if a1 < 0 then
  (3)
  else
  (2))
  else
  (if a1 < 0 then
  (4)
  else
  (1))) fun v507 =>
  v507
-- WorkMeterModel.quadrant
theorem c221_1 {s : Nat × (Nat → Int32)} {S : zS} {m0 m : zM} {B : Int} {d : Nat} {Q : Option zV → zM → Prop} (a0 a1 : Int) (hd : 13 ≤ d) (hJ : J S m0 B m) (hB : B + 0 ≤ 1000000000) (ha0 : (-12000000) ≤ a0 ∧ a0 ≤ 12000000) (ha1 : (-12000000) ≤ a1 ∧ a1 ≤ 12000000) (hQ : ∀ (v : Int), (1 ≤ v ∧ v ≤ 4) → f221_1 a0 a1 m = v → Q (some (zi v)) m) : X (EE s) d 221 0 [(0, zl a0), (2, zl a1)] [] m Q := by
  refine X.lload_n 1 (zi221 0) rfl rfl rfl ?_
  refine X.lconst (y := 0) 2 (zi221 1) rfl rfl rfl ?_
  refine X.lcmp 3 (zi221 2) rfl rfl (fun z501 hz501 => ?_)
  have hK510 : ∀ (v : Int) , (1 ≤ v ∧ v ≤ 4) → (if a0 < 0 then
      (if a1 < 0 then
      (3)
      else
      (2))
      else
      (if a1 < 0 then
      (4)
      else
      (1))) = v → X (EE s) d 221 31 [] [zi v] m Q := by
    intro v507 hv507 hT511
    refine X.reti (zi221 31) rfl t221 ?_
    exact hQ v507 (by first | trivial | omega) (Eq.trans (zn_eq hT511.symm) rfl) 
  refine X.iflt 20 6 (zi221 3) rfl rfl rfl (fun h502 => ?_) (fun h502 => ?_)
  · have h502c : a0 < 0 := by omega
    clear h502 hz501
    refine X.cut [(2, zl a1)] (zi221 20) rfl ?_
    refine X.lload_n 21 (zi221 20) rfl rfl rfl ?_
    refine X.lconst (y := 0) 22 (zi221 21) rfl rfl rfl ?_
    refine X.lcmp 23 (zi221 22) rfl rfl (fun z503 hz503 => ?_)
    refine X.iflt 30 26 (zi221 23) rfl rfl rfl (fun h504 => ?_) (fun h504 => ?_)
    · have h504c : a1 < 0 := by omega
      clear h504 hz503
      refine X.cut [] (zi221 30) rfl ?_
      refine X.iconst 31 (zi221 30) rfl rfl (by decide) ?_
      exact hK510 3 (by first | trivial | omega) (Eq.trans (if_pos h502c) (Eq.trans (if_pos h504c) rfl))
    · have h504c : ¬ a1 < 0 := by omega
      clear h504 hz503
      refine X.iconst 27 (zi221 26) rfl rfl (by decide) ?_
      refine X.goto 31 (zi221 27) rfl rfl ?_
      refine X.cut [] (zi221 31) rfl ?_
      exact hK510 2 (by first | trivial | omega) (Eq.trans (if_pos h502c) (Eq.trans (if_neg h504c) rfl))
  · have h502c : ¬ a0 < 0 := by omega
    clear h502 hz501
    refine X.lload_n 7 (zi221 6) rfl rfl rfl ?_
    refine X.lconst (y := 0) 8 (zi221 7) rfl rfl rfl ?_
    refine X.lcmp 9 (zi221 8) rfl rfl (fun z505 hz505 => ?_)
    refine X.iflt 16 12 (zi221 9) rfl rfl rfl (fun h506 => ?_) (fun h506 => ?_)
    · have h506c : a1 < 0 := by omega
      clear h506 hz505
      refine X.cut [] (zi221 16) rfl ?_
      refine X.iconst 17 (zi221 16) rfl rfl (by decide) ?_
      refine X.goto 31 (zi221 17) rfl rfl ?_
      exact hK510 4 (by first | trivial | omega) (Eq.trans (if_neg h502c) (Eq.trans (if_pos h506c) rfl))
    · have h506c : ¬ a1 < 0 := by omega
      clear h506 hz505
      refine X.iconst 13 (zi221 12) rfl rfl (by decide) ?_
      refine X.goto 31 (zi221 13) rfl rfl ?_
      refine X.cut [] (zi221 31) rfl ?_
      exact hK510 1 (by first | trivial | omega) (Eq.trans (if_neg h502c) (Eq.trans (if_neg h506c) rfl))
-- WorkMeterModel.counts
theorem c220_3 {s : Nat × (Nat → Int32)} {S : zS} {m0 m : zM} {B : Int} {d : Nat} {Q : Option zV → zM → Prop} (a1 a2 a3 : Int) (hd : 13 ≤ d) (hJ : J S m0 B m) (hB : B + 0 ≤ 1000000000) (ha1 : 2 ≤ a1 ∧ a1 ≤ 5) (ha2 : 0 ≤ a2 ∧ a2 ≤ 3) (ha3 : 0 ≤ a3 ∧ a3 ≤ 12000000) (hf30 : ¬ S.1 30) (hg4 : ¬ S.2.1 4) (hQ : ∀ m', f220_1 a1 a2 a3 m = m' → J S m0 (B) m' → Q none m') : X (EE s) d 220 0 [(0, zr 4 44), (1, zi a1), (2, zi a2), (3, zl a3)] [] m Q := by
  refine X.aload_n 1 (zi220 0) rfl rfl rfl ?_
  refine X.getF 4 (zi220 1) rfl rfl (by decide) rfl rfl ?_
  refine X.bipush 6 (zi220 4) rfl rfl (by decide) ?_
  refine X.iconst 7 (zi220 6) rfl rfl (by decide) ?_
  refine X.iload_n 8 (zi220 7) rfl rfl rfl ?_
  refine X.imul 9 (zi220 8) rfl rfl (by omega) ?_
  refine X.iadd 10 (zi220 9) rfl rfl (by omega) ?_
  refine X.iload_n 11 (zi220 10) rfl rfl rfl ?_
  refine X.iadd 12 (zi220 11) rfl rfl (by omega) ?_
  refine X.dup2 13 (zi220 12) rfl rfl ?_
  refine X.lald 14 (zi220 13) rfl rfl (by decide) rfl (by omega) ?_
  refine X.lload_n 15 (zi220 14) rfl rfl rfl ?_
  refine X.laddW 16 (zi220 15) rfl rfl (fun z501 ez501 hz501 => ?_)
  refine X.last' 17 (zi220 16) rfl rfl (by decide) rfl (by omega) (fun hrm502 m502 hm502 => ?_)
  have hJ503 := w45_60 hJ hm502 (by omega) hrm502 hf30 hg4
  refine X.aload_n 18 (zi220 17) rfl rfl rfl ?_
  refine X.getF 21 (zi220 18) rfl rfl (by decide) rfl rfl ?_
  refine X.bipush 23 (zi220 21) rfl rfl (by decide) ?_
  refine X.iconst 24 (zi220 23) rfl rfl (by decide) ?_
  refine X.iload_n 25 (zi220 24) rfl rfl rfl ?_
  refine X.imul 26 (zi220 25) rfl rfl (by omega) ?_
  refine X.iadd 27 (zi220 26) rfl rfl (by omega) ?_
  refine X.iconst 28 (zi220 27) rfl rfl (by decide) ?_
  refine X.iadd 29 (zi220 28) rfl rfl (by omega) ?_
  refine X.dup2 30 (zi220 29) rfl rfl ?_
  refine X.lald 31 (zi220 30) rfl rfl (by decide) rfl (by omega) ?_
  refine X.lload_n 32 (zi220 31) rfl rfl rfl ?_
  refine X.laddW 33 (zi220 32) rfl rfl (fun z504 ez504 hz504 => ?_)
  refine X.last' 34 (zi220 33) rfl rfl (by decide) rfl (by omega) (fun hrm505 m505 hm505 => ?_)
  have hJ506 := w45_60 hJ503 hm505 (by omega) hrm505 hf30 hg4
  refine X.retv (zi220 34) rfl t220 ?_
  exact hQ  m505  (Eq.trans (zn_eq ez501) (Eq.trans (zs_eq hm502) (Eq.trans (zn_eq ez504) (Eq.trans (zs_eq hm505) rfl)))) (hJ506.up (by omega)) 
-- WorkMeterModel.counts
theorem c220_4 {s : Nat × (Nat → Int32)} {S : zS} {m0 m : zM} {B : Int} {d : Nat} {Q : Option zV → zM → Prop} (a1 a2 a3 : Int) (hd : 13 ≤ d) (hJ : J S m0 B m) (hB : B + 0 ≤ 1000000000) (ha1 : 6 ≤ a1 ∧ a1 ≤ 6) (ha2 : 0 ≤ a2 ∧ a2 ≤ 3) (ha3 : 0 ≤ a3 ∧ a3 ≤ 3000000000) (hf30 : ¬ S.1 30) (hg4 : ¬ S.2.1 4) (hQ : ∀ m', f220_1 a1 a2 a3 m = m' → J S m0 (B) m' → Q none m') : X (EE s) d 220 0 [(0, zr 4 44), (1, zi a1), (2, zi a2), (3, zl a3)] [] m Q := by
  refine X.aload_n 1 (zi220 0) rfl rfl rfl ?_
  refine X.getF 4 (zi220 1) rfl rfl (by decide) rfl rfl ?_
  refine X.bipush 6 (zi220 4) rfl rfl (by decide) ?_
  refine X.iconst 7 (zi220 6) rfl rfl (by decide) ?_
  refine X.iload_n 8 (zi220 7) rfl rfl rfl ?_
  refine X.imul 9 (zi220 8) rfl rfl (by omega) ?_
  refine X.iadd 10 (zi220 9) rfl rfl (by omega) ?_
  refine X.iload_n 11 (zi220 10) rfl rfl rfl ?_
  refine X.iadd 12 (zi220 11) rfl rfl (by omega) ?_
  refine X.dup2 13 (zi220 12) rfl rfl ?_
  refine X.lald 14 (zi220 13) rfl rfl (by decide) rfl (by omega) ?_
  refine X.lload_n 15 (zi220 14) rfl rfl rfl ?_
  refine X.laddW 16 (zi220 15) rfl rfl (fun z501 ez501 hz501 => ?_)
  refine X.last' 17 (zi220 16) rfl rfl (by decide) rfl (by omega) (fun hrm502 m502 hm502 => ?_)
  have hJ503 := w45_60 hJ hm502 (by omega) hrm502 hf30 hg4
  refine X.aload_n 18 (zi220 17) rfl rfl rfl ?_
  refine X.getF 21 (zi220 18) rfl rfl (by decide) rfl rfl ?_
  refine X.bipush 23 (zi220 21) rfl rfl (by decide) ?_
  refine X.iconst 24 (zi220 23) rfl rfl (by decide) ?_
  refine X.iload_n 25 (zi220 24) rfl rfl rfl ?_
  refine X.imul 26 (zi220 25) rfl rfl (by omega) ?_
  refine X.iadd 27 (zi220 26) rfl rfl (by omega) ?_
  refine X.iconst 28 (zi220 27) rfl rfl (by decide) ?_
  refine X.iadd 29 (zi220 28) rfl rfl (by omega) ?_
  refine X.dup2 30 (zi220 29) rfl rfl ?_
  refine X.lald 31 (zi220 30) rfl rfl (by decide) rfl (by omega) ?_
  refine X.lload_n 32 (zi220 31) rfl rfl rfl ?_
  refine X.laddW 33 (zi220 32) rfl rfl (fun z504 ez504 hz504 => ?_)
  refine X.last' 34 (zi220 33) rfl rfl (by decide) rfl (by omega) (fun hrm505 m505 hm505 => ?_)
  have hJ506 := w45_60 hJ503 hm505 (by omega) hrm505 hf30 hg4
  refine X.retv (zi220 34) rfl t220 ?_
  exact hQ  m505  (Eq.trans (zn_eq ez501) (Eq.trans (zs_eq hm502) (Eq.trans (zn_eq ez504) (Eq.trans (zs_eq hm505) rfl)))) (hJ506.up (by omega)) 
-- WorkMeterModel.registers
noncomputable def f216_1 (a1 a2 a3 : Int) (m : zM) : zM :=
  zn (f217_1 (m 4 45 0) m) fun v504 =>
  zn (w64 (((m 4 45 (60 + v504))).tdiv (m 4 45 5))) fun z506 =>
  zs (if a1 ≤ 0 then
  (m)
  else
  (zs (f220_1 0 v504 a1 m) fun m509 =>
  m509)) fun m513 =>
  zs (if a1 < 0 then
  (zs (f220_1 1 v504 (-a1) m513) fun m519 =>
  m519)
  else
  (m513)) fun m523 =>
  zn (f221_1 a1 a2 m523) fun v529 =>
  zn (f215_1 a2 m523) fun v532 =>
  zs (f220_1 (1 + v529) v504 v532 m523) fun m533 =>
  zs (f220_1 6 v504 a3 m533) fun m536 =>
  zn (w64 (((m536 4 45 (60 + v504))).tdiv (m536 4 45 5))) fun z540 =>
  zn (w64 (z540 - z506)) fun z541 =>
  zn (w64 (z541 * (m536 4 45 (28 + v504)))) fun z543 =>
  zn (w64 ((m536 4 45 10) - z543)) fun z544 =>
  zs (z_upd m536 4 45 10 z544) fun m545 =>
  zn (if a1 ≤ 0 then
  (0)
  else
  (a1)) fun v549 =>
  zn (w64 ((m545 4 45 22) + v549)) fun z554 =>
  zs (z_upd m545 4 45 22 z554) fun m555 =>
  zn (if a1 < 0 then
  ((-a1))
  else
  (0)) fun v559 =>
  zn (w64 ((m555 4 45 23) + v559)) fun z564 =>
  zs (z_upd m555 4 45 23 z564) fun m565 =>
  zn (w64 ((m565 4 45 24) + a3)) fun z567 =>
  zs (z_upd m565 4 45 24 z567) fun m568 =>
  m568
-- WorkMeterModel.registers
theorem c216_1 {s : Nat × (Nat → Int32)} {S : zS} {m0 m : zM} {B : Int} {d : Nat} {Q : Option zV → zM → Prop} (a1 a2 a3 : Int) (hd : 16 ≤ d) (hJ : J S m0 B m) (hB : B + 0 ≤ 1000000000) (ha1 : (-12000000) ≤ a1 ∧ a1 ≤ 12000000) (ha2 : (-12000000) ≤ a2 ∧ a2 ≤ 12000000) (ha3 : 0 ≤ a3 ∧ a3 ≤ 3000000000) (hf27 : ¬ S.1 27) (hf30 : ¬ S.1 30) (hf32 : ¬ S.1 32) (hg4 : ¬ S.2.1 4) (hQ : ∀ m', f216_1 a1 a2 a3 m = m' → J S m0 (B) m' → Q none m') : X (EE s) d 216 0 [(0, zr 4 44), (1, zl a1), (3, zl a2), (5, zl a3)] [] m Q := by
  refine X.aload_n 1 (zi216 0) rfl rfl rfl ?_
  refine X.aload_n 2 (zi216 1) rfl rfl rfl ?_
  refine X.getF 5 (zi216 2) rfl rfl (by decide) rfl rfl ?_
  refine X.iconst 6 (zi216 5) rfl rfl (by decide) ?_
  refine X.lald 7 (zi216 6) rfl rfl (by decide) rfl (by omega) ?_
  have h501 := r45_0 hJ 4
  refine X.l2i 8 (zi216 7) rfl rfl (by omega) ?_
  refine X.callv 11 [zi (m 4 45 0)] [] [(0, zr 4 44), (1, zi (m 4 45 0))] (zi216 8) rfl (by decide) rfl rfl (by omega) rfl rfl (by decide) rfl t217 (Nat.le_of_ble_eq_true rfl) (Nat.le_of_ble_eq_true rfl) rfl ?_
  refine c217_1 (B := B)  (m 4 45 0) (by omega) (hJ.up (by omega)) (by omega) (by omega) (fun v504 hv504 hFv504 => ?_)
  show X (EE s) d 216 11 [(0, zr 4 44), (1, zl a1), (3, zl a2), (5, zl a3)] [zi v504] m _
  refine X.istore 13 [(0, zr 4 44), (1, zl a1), (3, zl a2), (5, zl a3), (7, zi v504)] (zi216 11) rfl rfl rfl ?_
  refine X.aload_n 14 (zi216 13) rfl rfl rfl ?_
  refine X.getF 17 (zi216 14) rfl rfl (by decide) rfl rfl ?_
  refine X.bipush 19 (zi216 17) rfl rfl (by decide) ?_
  refine X.iload 21 (zi216 19) rfl rfl rfl ?_
  refine X.iadd 22 (zi216 21) rfl rfl (by omega) ?_
  refine X.lald 23 (zi216 22) rfl rfl (by decide) rfl (by omega) ?_
  refine X.aload_n 24 (zi216 23) rfl rfl rfl ?_
  refine X.getF 27 (zi216 24) rfl rfl (by decide) rfl rfl ?_
  refine X.iconst 28 (zi216 27) rfl rfl (by decide) ?_
  refine X.lald 29 (zi216 28) rfl rfl (by decide) rfl (by omega) ?_
  have h505 := r45_5 hJ 4
  refine X.ldivW 30 (zi216 29) rfl rfl (by omega) (fun z506 ez506 hz506 => ?_)
  refine X.lstore 32 [(0, zr 4 44), (1, zl a1), (3, zl a2), (5, zl a3), (7, zi v504), (8, zl z506)] (zi216 30) rfl rfl rfl ?_
  refine X.lload_n 33 (zi216 32) rfl rfl rfl ?_
  refine X.lconst (y := 0) 34 (zi216 33) rfl rfl rfl ?_
  refine X.lcmp 35 (zi216 34) rfl rfl (fun z507 hz507 => ?_)
  have hK515 : ∀ (m' : zM), (if a1 ≤ 0 then
      (m)
      else
      (zs (f220_1 0 v504 a1 m) fun m509 =>
      m509)) = m' → J S m0 (B) m' → X (EE s) d 216 46 [(0, zr 4 44), (1, zl a1), (3, zl a2), (5, zl a3), (7, zi v504), (8, zl z506)] [] m' Q := by
    intro m513 hT516 hJ514
    refine X.lload_n 47 (zi216 46) rfl rfl rfl ?_
    refine X.lconst (y := 0) 48 (zi216 47) rfl rfl rfl ?_
    refine X.lcmp 49 (zi216 48) rfl rfl (fun z517 hz517 => ?_)
    have hK525 : ∀ (m' : zM), (if a1 < 0 then
        (zs (f220_1 1 v504 (-a1) m513) fun m519 =>
        m519)
        else
        (m513)) = m' → J S m0 (B) m' → X (EE s) d 216 61 [(0, zr 4 44), (1, zl a1), (3, zl a2), (5, zl a3), (7, zi v504), (8, zl z506)] [] m' Q := by
      intro m523 hT526 hJ524
      refine X.aload_n 62 (zi216 61) rfl rfl rfl ?_
      refine X.iconst 63 (zi216 62) rfl rfl (by decide) ?_
      refine X.lload_n 64 (zi216 63) rfl rfl rfl ?_
      refine X.lload_n 65 (zi216 64) rfl rfl rfl ?_
      refine X.calls 68 [zl a1, zl a2] [zi 1, zr 4 44] [(0, zl a1), (2, zl a2)] (zi216 65) (by decide) rfl rfl (by omega) rfl rfl t221 (Nat.le_of_ble_eq_true rfl) (Nat.le_of_ble_eq_true rfl) rfl ?_
      refine c221_1 (B := B)  a1 a2 (by omega) (hJ524.up (by omega)) (by omega) (by omega) (by omega) (fun v529 hv529 hFv529 => ?_)
      show X (EE s) d 216 68 [(0, zr 4 44), (1, zl a1), (3, zl a2), (5, zl a3), (7, zi v504), (8, zl z506)] [zi v529, zi 1, zr 4 44] m523 _
      refine X.iadd 69 (zi216 68) rfl rfl (by omega) ?_
      refine X.iload 71 (zi216 69) rfl rfl rfl ?_
      refine X.lload_n 72 (zi216 71) rfl rfl rfl ?_
      refine X.calls 75 [zl a2] [zi v504, zi (1 + v529), zr 4 44] [(0, zl a2)] (zi216 72) (by decide) rfl rfl (by omega) rfl rfl t215 (Nat.le_of_ble_eq_true rfl) (Nat.le_of_ble_eq_true rfl) rfl ?_
      refine c215_1 (B := B)  a2 (by omega) (hJ524.up (by omega)) (by omega) (by omega) (fun v532 hv532 hFv532 => ?_)
      show X (EE s) d 216 75 [(0, zr 4 44), (1, zl a1), (3, zl a2), (5, zl a3), (7, zi v504), (8, zl z506)] [zl v532, zi v504, zi (1 + v529), zr 4 44] m523 _
      refine X.callv 78 [zi (1 + v529), zi v504, zl v532] [] [(0, zr 4 44), (1, zi (1 + v529)), (2, zi v504), (3, zl v532)] (zi216 75) rfl (by decide) rfl rfl (by omega) rfl rfl (by decide) rfl t220 (Nat.le_of_ble_eq_true rfl) (Nat.le_of_ble_eq_true rfl) rfl ?_
      refine c220_3 (B := B)  (1 + v529) v504 v532 (by omega) (hJ524.up (by omega)) (by omega) (by omega) (by omega) (by omega) hf30 hg4 (fun m533 hFv535 hJ534 => ?_)
      show X (EE s) d 216 78 [(0, zr 4 44), (1, zl a1), (3, zl a2), (5, zl a3), (7, zi v504), (8, zl z506)] [] m533 _
      refine X.aload_n 79 (zi216 78) rfl rfl rfl ?_
      refine X.bipush 81 (zi216 79) rfl rfl (by decide) ?_
      refine X.iload 83 (zi216 81) rfl rfl rfl ?_
      refine X.lload 85 (zi216 83) rfl rfl rfl ?_
      refine X.callv 88 [zi 6, zi v504, zl a3] [] [(0, zr 4 44), (1, zi 6), (2, zi v504), (3, zl a3)] (zi216 85) rfl (by decide) rfl rfl (by omega) rfl rfl (by decide) rfl t220 (Nat.le_of_ble_eq_true rfl) (Nat.le_of_ble_eq_true rfl) rfl ?_
      refine c220_4 (B := B)  6 v504 a3 (by omega) (hJ534.up (by omega)) (by omega) (by omega) (by omega) (by omega) hf30 hg4 (fun m536 hFv538 hJ537 => ?_)
      show X (EE s) d 216 88 [(0, zr 4 44), (1, zl a1), (3, zl a2), (5, zl a3), (7, zi v504), (8, zl z506)] [] m536 _
      refine X.aload_n 89 (zi216 88) rfl rfl rfl ?_
      refine X.getF 92 (zi216 89) rfl rfl (by decide) rfl rfl ?_
      refine X.bipush 94 (zi216 92) rfl rfl (by decide) ?_
      refine X.dup2 95 (zi216 94) rfl rfl ?_
      refine X.lald 96 (zi216 95) rfl rfl (by decide) rfl (by omega) ?_
      refine X.aload_n 97 (zi216 96) rfl rfl rfl ?_
      refine X.getF 100 (zi216 97) rfl rfl (by decide) rfl rfl ?_
      refine X.bipush 102 (zi216 100) rfl rfl (by decide) ?_
      refine X.iload 104 (zi216 102) rfl rfl rfl ?_
      refine X.iadd 105 (zi216 104) rfl rfl (by omega) ?_
      refine X.lald 106 (zi216 105) rfl rfl (by decide) rfl (by omega) ?_
      refine X.aload_n 107 (zi216 106) rfl rfl rfl ?_
      refine X.getF 110 (zi216 107) rfl rfl (by decide) rfl rfl ?_
      refine X.iconst 111 (zi216 110) rfl rfl (by decide) ?_
      refine X.lald 112 (zi216 111) rfl rfl (by decide) rfl (by omega) ?_
      have h539 := r45_5 hJ537 4
      refine X.ldivW 113 (zi216 112) rfl rfl (by omega) (fun z540 ez540 hz540 => ?_)
      refine X.lload 115 (zi216 113) rfl rfl rfl ?_
      refine X.lsubW 116 (zi216 115) rfl rfl (fun z541 ez541 hz541 => ?_)
      refine X.aload_n 117 (zi216 116) rfl rfl rfl ?_
      refine X.getF 120 (zi216 117) rfl rfl (by decide) rfl rfl ?_
      refine X.bipush 122 (zi216 120) rfl rfl (by decide) ?_
      refine X.iload 124 (zi216 122) rfl rfl rfl ?_
      refine X.iadd 125 (zi216 124) rfl rfl (by omega) ?_
      refine X.lald 126 (zi216 125) rfl rfl (by decide) rfl (by omega) ?_
      have h542 := r45_28 hJ537 4 (i := (28 + v504)) (by omega)
      refine X.lmulW 127 (zi216 126) rfl rfl (fun z543 ez543 hz543 => ?_)
      refine X.lsubW 128 (zi216 127) rfl rfl (fun z544 ez544 hz544 => ?_)
      refine X.last' 129 (zi216 128) rfl rfl (by decide) rfl (by omega) (fun hrm545 m545 hm545 => ?_)
      have hJ546 := w45_10 hJ537 hm545 hrm545 hf32 hg4
      refine X.aload_n 130 (zi216 129) rfl rfl rfl ?_
      refine X.getF 133 (zi216 130) rfl rfl (by decide) rfl rfl ?_
      refine X.bipush 135 (zi216 133) rfl rfl (by decide) ?_
      refine X.dup2 136 (zi216 135) rfl rfl ?_
      refine X.lald 137 (zi216 136) rfl rfl (by decide) rfl (by omega) ?_
      refine X.lload_n 138 (zi216 137) rfl rfl rfl ?_
      refine X.lconst (y := 0) 139 (zi216 138) rfl rfl rfl ?_
      refine X.lcmp 140 (zi216 139) rfl rfl (fun z547 hz547 => ?_)
      have hK552 : ∀ (v : Int) , (0 ≤ v ∧ v ≤ 12000000) → (if a1 ≤ 0 then
          (0)
          else
          (a1)) = v → X (EE s) d 216 148 [(0, zr 4 44), (1, zl a1), (5, zl a3)] [zl v, zl (m545 4 45 22), zi 22, zr 4 45] m545 Q := by
        intro v549 hv549 hT553
        refine X.laddW 149 (zi216 148) rfl rfl (fun z554 ez554 hz554 => ?_)
        refine X.last' 150 (zi216 149) rfl rfl (by decide) rfl (by omega) (fun hrm555 m555 hm555 => ?_)
        have hJ556 := w45_21 hJ546 hm555 (by omega) hrm555 hf27 hg4
        refine X.aload_n 151 (zi216 150) rfl rfl rfl ?_
        refine X.getF 154 (zi216 151) rfl rfl (by decide) rfl rfl ?_
        refine X.bipush 156 (zi216 154) rfl rfl (by decide) ?_
        refine X.dup2 157 (zi216 156) rfl rfl ?_
        refine X.lald 158 (zi216 157) rfl rfl (by decide) rfl (by omega) ?_
        refine X.lload_n 159 (zi216 158) rfl rfl rfl ?_
        refine X.lconst (y := 0) 160 (zi216 159) rfl rfl rfl ?_
        refine X.lcmp 161 (zi216 160) rfl rfl (fun z557 hz557 => ?_)
        have hK562 : ∀ (v : Int) , (0 ≤ v ∧ v ≤ 12000000) → (if a1 < 0 then
            ((-a1))
            else
            (0)) = v → X (EE s) d 216 170 [(0, zr 4 44), (5, zl a3)] [zl v, zl (m555 4 45 23), zi 23, zr 4 45] m555 Q := by
          intro v559 hv559 hT563
          refine X.laddW 171 (zi216 170) rfl rfl (fun z564 ez564 hz564 => ?_)
          refine X.last' 172 (zi216 171) rfl rfl (by decide) rfl (by omega) (fun hrm565 m565 hm565 => ?_)
          have hJ566 := w45_21 hJ556 hm565 (by omega) hrm565 hf27 hg4
          refine X.aload_n 173 (zi216 172) rfl rfl rfl ?_
          refine X.getF 176 (zi216 173) rfl rfl (by decide) rfl rfl ?_
          refine X.bipush 178 (zi216 176) rfl rfl (by decide) ?_
          refine X.dup2 179 (zi216 178) rfl rfl ?_
          refine X.lald 180 (zi216 179) rfl rfl (by decide) rfl (by omega) ?_
          refine X.lload 182 (zi216 180) rfl rfl rfl ?_
          refine X.laddW 183 (zi216 182) rfl rfl (fun z567 ez567 hz567 => ?_)
          refine X.last' 184 (zi216 183) rfl rfl (by decide) rfl (by omega) (fun hrm568 m568 hm568 => ?_)
          have hJ569 := w45_21 hJ566 hm568 (by omega) hrm568 hf27 hg4
          refine X.retv (zi216 184) rfl t216 ?_
          exact hQ  m568  (Eq.trans (zn_eq hFv504.symm) (Eq.trans (zn_eq ez506) (Eq.trans (zs_eq hT516.symm) (Eq.trans (zs_eq hT526.symm) (Eq.trans (zn_eq hFv529.symm) (Eq.trans (zn_eq hFv532.symm) (Eq.trans (zs_eq hFv535.symm) (Eq.trans (zs_eq hFv538.symm) (Eq.trans (zn_eq ez540) (Eq.trans (zn_eq ez541) (Eq.trans (zn_eq ez543) (Eq.trans (zn_eq ez544) (Eq.trans (zs_eq hm545) (Eq.trans (zn_eq hT553.symm) (Eq.trans (zn_eq ez554) (Eq.trans (zs_eq hm555) (Eq.trans (zn_eq hT563.symm) (Eq.trans (zn_eq ez564) (Eq.trans (zs_eq hm565) (Eq.trans (zn_eq ez567) (Eq.trans (zs_eq hm568) rfl))))))))))))))))))))) (hJ569.up (by omega)) 
        refine X.ifge 169 164 (zi216 161) rfl rfl rfl (fun h558 => ?_) (fun h558 => ?_)
        · have h558c : ¬ a1 < 0 := by omega
          clear h558 hz557
          refine X.cut [(0, zr 4 44), (5, zl a3)] (zi216 169) rfl ?_
          refine X.lconst (y := 0) 170 (zi216 169) rfl rfl rfl ?_
          exact hK562 0 (by first | trivial | omega) (Eq.trans (if_neg h558c) rfl)
        · have h558c : a1 < 0 := by omega
          clear h558 hz557
          refine X.lload_n 165 (zi216 164) rfl rfl rfl ?_
          refine X.lneg 166 (zi216 165) rfl rfl (by omega) ?_
          refine X.goto 170 (zi216 166) rfl rfl ?_
          refine X.cut [(0, zr 4 44), (5, zl a3)] (zi216 170) rfl ?_
          exact hK562 (-a1) (by first | trivial | omega) (Eq.trans (if_pos h558c) rfl)
      refine X.ifle 147 143 (zi216 140) rfl rfl rfl (fun h548 => ?_) (fun h548 => ?_)
      · have h548c : a1 ≤ 0 := by omega
        clear h548 hz547
        refine X.cut [(0, zr 4 44), (1, zl a1), (5, zl a3)] (zi216 147) rfl ?_
        refine X.lconst (y := 0) 148 (zi216 147) rfl rfl rfl ?_
        exact hK552 0 (by first | trivial | omega) (Eq.trans (if_pos h548c) rfl)
      · have h548c : ¬ a1 ≤ 0 := by omega
        clear h548 hz547
        refine X.lload_n 144 (zi216 143) rfl rfl rfl ?_
        refine X.goto 148 (zi216 144) rfl rfl ?_
        refine X.cut [(0, zr 4 44), (1, zl a1), (5, zl a3)] (zi216 148) rfl ?_
        exact hK552 a1 (by first | trivial | omega) (Eq.trans (if_neg h548c) rfl)
    refine X.ifge 61 52 (zi216 49) rfl rfl rfl (fun h518 => ?_) (fun h518 => ?_)
    · have h518c : ¬ a1 < 0 := by omega
      clear h518 hz517
      exact hK525 m513 (Eq.trans (if_neg h518c) rfl) (hJ514.up (by omega))
    · have h518c : a1 < 0 := by omega
      clear h518 hz517
      refine X.aload_n 53 (zi216 52) rfl rfl rfl ?_
      refine X.iconst 54 (zi216 53) rfl rfl (by decide) ?_
      refine X.iload 56 (zi216 54) rfl rfl rfl ?_
      refine X.lload_n 57 (zi216 56) rfl rfl rfl ?_
      refine X.lneg 58 (zi216 57) rfl rfl (by omega) ?_
      refine X.callv 61 [zi 1, zi v504, zl (-a1)] [] [(0, zr 4 44), (1, zi 1), (2, zi v504), (3, zl (-a1))] (zi216 58) rfl (by decide) rfl rfl (by omega) rfl rfl (by decide) rfl t220 (Nat.le_of_ble_eq_true rfl) (Nat.le_of_ble_eq_true rfl) rfl ?_
      refine c220_2 (B := B)  1 v504 (-a1) (by omega) (hJ514.up (by omega)) (by omega) (by omega) (by omega) (by omega) hf30 hg4 (fun m519 hFv521 hJ520 => ?_)
      show X (EE s) d 216 61 [(0, zr 4 44), (1, zl a1), (3, zl a2), (5, zl a3), (7, zi v504), (8, zl z506)] [] m519 _
      exact hK525 m519 (Eq.trans (if_pos h518c) (Eq.trans (zs_eq hFv521.symm) rfl)) (hJ520.up (by omega))
  refine X.ifle 46 38 (zi216 35) rfl rfl rfl (fun h508 => ?_) (fun h508 => ?_)
  · have h508c : a1 ≤ 0 := by omega
    clear h508 hz507
    exact hK515 m (Eq.trans (if_pos h508c) rfl) (hJ.up (by omega))
  · have h508c : ¬ a1 ≤ 0 := by omega
    clear h508 hz507
    refine X.aload_n 39 (zi216 38) rfl rfl rfl ?_
    refine X.iconst 40 (zi216 39) rfl rfl (by decide) ?_
    refine X.iload 42 (zi216 40) rfl rfl rfl ?_
    refine X.lload_n 43 (zi216 42) rfl rfl rfl ?_
    refine X.callv 46 [zi 0, zi v504, zl a1] [] [(0, zr 4 44), (1, zi 0), (2, zi v504), (3, zl a1)] (zi216 43) rfl (by decide) rfl rfl (by omega) rfl rfl (by decide) rfl t220 (Nat.le_of_ble_eq_true rfl) (Nat.le_of_ble_eq_true rfl) rfl ?_
    refine c220_1 (B := B)  0 v504 a1 (by omega) (hJ.up (by omega)) (by omega) (by omega) (by omega) (by omega) hf30 hg4 (fun m509 hFv511 hJ510 => ?_)
    show X (EE s) d 216 46 [(0, zr 4 44), (1, zl a1), (3, zl a2), (5, zl a3), (7, zi v504), (8, zl z506)] [] m509 _
    exact hK515 m509 (Eq.trans (if_neg h508c) (Eq.trans (zs_eq hFv511.symm) rfl)) (hJ510.up (by omega))
noncomputable def fl223_17_1_b (self : Int → zM → zM) (k54 : zM → zM) (y1 y2 : Int) (y4 : Int) (m : zM) : zM :=
  if 120 ≤ y4 then
  (k54 m)
  else
  (zs (z_upd m 4 45 ((1487 + y4) - 3) (m 4 45 (1487 + y4))) fun m505 =>
  self (y4 + 1) m505)
noncomputable def fl223_17_1 (k54 : zM → zM) (y1 y2 : Int) : Nat → Int → zM → zM
  | 0 => fun y4 m => m
  | n + 1 => fl223_17_1_b (fl223_17_1 k54 y1 y2 n) k54 y1 y2
theorem l223_17_1 {s : Nat × (Nat → Int32)} {S : zS} {m0 : zM} {d : Nat} {Q : Option zV → zM → Prop} {R0 : zM} {k54 : zM → zM} (y1 y2 : Int) (BE : Int) (hE : BE ≤ 1000000000) (hd : 13 ≤ d) (hy1 : 0 ≤ y1 ∧ y1 ≤ 40) (hf26 : ¬ S.1 26) (hg4 : ¬ S.2.1 4)
    (K54 : ∀ (m' : zM) (B' : Int), J S m0 B' m' → B' ≤ BE → R0 = k54 m' → X (EE s) d 223 54 [(0, zr 4 44), (1, zi y1), (2, zl y2)] [] m' Q) :
    ∀ (n : Nat) (y4 : Int) (m : zM) (B : Int), J S m0 B m → B + 0 * (n : Int) ≤ BE → (3 ≤ y4 ∧ y4 ≤ 120) → 120 - y4 < (n : Int) → R0 = fl223_17_1 k54 y1 y2 n y4 m → X (EE s) d 223 17 [(0, zr 4 44), (1, zi y1), (2, zl y2), (4, zi y4)] [] m Q := by
  intro n
  induction n with
  | zero =>
    intro y4 m B hJ hB hy4 hn hR
    exfalso
    omega
  | succ n ih =>
    intro y4 m B hJ hB hy4 hn hR
    replace hR : R0 = fl223_17_1_b (fl223_17_1 k54 y1 y2 n) k54 y1 y2 y4 m := hR
    refine X.iload 19 (zi223 17) rfl rfl rfl ?_
    refine X.bipush 21 (zi223 19) rfl rfl (by decide) ?_
    refine X.icmpge 54 24 (zi223 21) rfl rfl rfl (fun h504 => ?_) (fun h504 => ?_)
    · refine X.cut [(0, zr 4 44), (1, zi y1), (2, zl y2)] (zi223 54) rfl ?_
      exact K54  m (B) (hJ.up (by omega)) (by omega)  (Eq.trans hR (Eq.trans (if_pos h504) rfl))
    · refine X.aload_n 25 (zi223 24) rfl rfl rfl ?_
      refine X.getF 28 (zi223 25) rfl rfl (by decide) rfl rfl ?_
      refine X.sipush 31 (zi223 28) rfl rfl (by decide) ?_
      refine X.iload 33 (zi223 31) rfl rfl rfl ?_
      refine X.iadd 34 (zi223 33) rfl rfl (by omega) ?_
      refine X.iconst 35 (zi223 34) rfl rfl (by decide) ?_
      refine X.isub 36 (zi223 35) rfl rfl (by omega) ?_
      refine X.aload_n 37 (zi223 36) rfl rfl rfl ?_
      refine X.getF 40 (zi223 37) rfl rfl (by decide) rfl rfl ?_
      refine X.sipush 43 (zi223 40) rfl rfl (by decide) ?_
      refine X.iload 45 (zi223 43) rfl rfl rfl ?_
      refine X.iadd 46 (zi223 45) rfl rfl (by omega) ?_
      refine X.lald 47 (zi223 46) rfl rfl (by decide) rfl (by omega) ?_
      refine X.last' 48 (zi223 47) rfl rfl (by decide) rfl (by omega) (fun hrm505 m505 hm505 => ?_)
      have hJ506 := w45_1487 hJ hm505 (by omega) hrm505 hf26 hg4
      refine X.iinc 51 [(0, zr 4 44), (1, zi y1), (2, zl y2), (4, zi (y4 + 1))] (zi223 48) rfl rfl rfl (by omega) rfl ?_
      refine X.goto 17 (zi223 51) rfl rfl ?_
      exact ih (y4 + 1) m505 (B) (hJ506.up (by omega)) (by omega) (by omega) (by omega) (Eq.trans hR (Eq.trans (if_neg h504) (Eq.trans (zs_eq hm505) rfl)))
-- WorkMeterModel.logs
noncomputable def f223_1 (a1 a2 : Int) (m : zM) : zM :=
  if (m 4 45 16) < 40 then
  (zs (z_upd m 4 45 (1487 + (3 * (m 4 45 16))) (m 4 45 0)) fun m507 =>
  zs (z_upd m507 4 45 ((1487 + (3 * (m 4 45 16))) + 1) a1) fun m509 =>
  zs (z_upd m509 4 45 ((1487 + (3 * (m 4 45 16))) + 2) a2) fun m511 =>
  zs (z_upd m511 4 45 16 ((m511 4 45 16) + 1)) fun m514 =>
  m514)
  else
  (fl223_17_1 (fun m516 =>
  zn (if (m516 4 45 16) < 40 then
  ((m516 4 45 16))
  else
  (39)) fun v523 =>
  zs (z_upd m516 4 45 (1487 + (3 * v523)) (m516 4 45 0)) fun m529 =>
  zs (z_upd m529 4 45 ((1487 + (3 * v523)) + 1) a1) fun m531 =>
  zs (z_upd m531 4 45 ((1487 + (3 * v523)) + 2) a2) fun m533 =>
  zs (z_upd m533 4 45 16 ((m533 4 45 16) + 1)) fun m536 =>
  m536) a1 a2 (zfu 118) 3 m)
end
