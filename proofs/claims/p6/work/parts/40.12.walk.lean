theorem l270_23_1 {s : Nat × (Nat → Int32)} {S : zS} {m0 : zM} {d : Nat} {Q : Option zV → zM → Prop} {R0 : Int × zM} {k97 : Int → zM → Int × zM} (y1 y2 : Int) (c8 c9 : Int) (BE : Int) (hE : BE ≤ 1000000000) (hd : 13 ≤ d) (hy1 : 0 ≤ y1 ∧ y1 ≤ 0) (hy2 : 0 ≤ y2 ∧ y2 ≤ 1000) (hf19 : ¬ S.1 19) (hg4 : ¬ S.2.1 4)
    (K97 : ∀ (x3 : Int) (m' : zM) (B' : Int), J S m0 B' m' → B' ≤ BE → (0 ≤ x3 ∧ x3 ≤ 1000009) → (m' 4 44 10 ≤ m' 4 44 8) → (c8 ≤ m' 4 44 10) → (c8 ≤ m' 4 44 8) → (c9 ≤ m' 4 44 9) → R0 = k97 x3 m' → X (EE s) d 270 97 [(0, zr 4 44), (1, zi y1), (2, zi y2), (3, zi x3)] [] m' Q) :
    ∀ (n : Nat) (y3 : Int) (m : zM) (B : Int), J S m0 B m → B + 0 * (n : Int) ≤ BE → (0 ≤ y3 ∧ y3 ≤ 1000009) → (m 4 44 10 ≤ m 4 44 8) → (c8 ≤ m 4 44 10) → (c8 ≤ m 4 44 8) → (c9 ≤ m 4 44 9) → 300 - m 4 44 8 < (n : Int) → R0 = fl270_23_1 k97 y1 y2 n y3 m → X (EE s) d 270 23 [(0, zr 4 44), (1, zi y1), (2, zi y2), (3, zi y3)] [] m Q := by
  intro n
  induction n with
  | zero =>
    intro y3 m B hJ hB hy3 hr0 hr1 hr2 hr3 hn hR
    have zf0 := r44_8 hJ 4
    exfalso
    omega
  | succ n ih =>
    intro y3 m B hJ hB hy3 hr0 hr1 hr2 hr3 hn hR
    replace hR : R0 = fl270_23_1_b (fl270_23_1 k97 y1 y2 n) k97 y1 y2 y3 m := hR
    refine X.aload_n 24 i270_23 rfl rfl rfl ?_
    refine X.getI 27 8 i270_24 rfl rfl (by decide) rfl rfl rfl ?_
    have h521 := r44_8 hJ 4
    refine X.aload_n 28 i270_27 rfl rfl rfl ?_
    refine X.getI 31 5 i270_28 rfl rfl (by decide) rfl rfl rfl ?_
    have h522 := r44_5 hJ 4
    refine X.icmpge 97 34 i270_31 rfl rfl rfl (fun h523 => ?_) (fun h523 => ?_)
    · exact K97 y3 m (B) (hJ.up (by omega)) (by omega) (by first | trivial | omega) (by omega) (by omega) (by omega) (by omega) (Eq.trans hR (Eq.trans (if_pos h523) rfl))
    · refine X.aload_n 35 i270_34 rfl rfl rfl ?_
      refine X.getF 38 i270_35 rfl rfl (by decide) rfl rfl ?_
      refine X.aload_n 39 i270_38 rfl rfl rfl ?_
      refine X.getI 42 8 i270_39 rfl rfl (by decide) rfl rfl rfl ?_
      refine X.bald 43 i270_42 rfl rfl (by decide) rfl (by omega) (fun h524 => ?_)
      refine X.i2l 44 i270_43 rfl rfl ?_
      refine X.ldc2 47 i270_44 rfl rfl (by decide) ?_
      refine X.ldc2 50 i270_47 rfl rfl (by decide) ?_
      refine X.calls 53 [zl (m 4 48 (m 4 44 8)), zl 48, zl 57] [] [(0, zl (m 4 48 (m 4 44 8))), (2, zl 48), (4, zl 57)] i270_50 (by decide) rfl rfl (by omega) rfl rfl t204 (Nat.le_of_ble_eq_true rfl) (Nat.le_of_ble_eq_true rfl) rfl ?_
      refine X.lload_n 1 i204_0 rfl rfl rfl ?_
      refine X.lload_n 2 i204_1 rfl rfl rfl ?_
      refine X.lcmp 3 i204_2 rfl rfl (fun z525 hz525 => ?_)
      refine X.iflt 17 6 i204_3 rfl rfl rfl (fun h526 => ?_) (fun h526 => ?_)
      · have h526c : (m 4 48 (m 4 44 8)) < 48 := by omega
        clear h526 hz525
        refine X.cut [] i204_17 rfl ?_
        refine X.iconst 18 i204_17 rfl rfl (by decide) ?_
        refine X.retz i204_18 rfl t204 (by omega) ?_
        show X (EE s) d 270 53 [(0, zr 4 44), (1, zi y1), (2, zi y2), (3, zi y3)] [zi 0] m _
        refine X.ifeq 97 56 i270_53 rfl rfl rfl (fun h527 => ?_) (fun h527 => (by exfalso; omega))
        exact K97 y3 m (B) (hJ.up (by omega)) (by omega) (by first | trivial | omega) (by omega) (by omega) (by omega) (by omega) (Eq.trans hR (Eq.trans (if_neg h523) (Eq.trans (if_pos h526c) rfl)))
      · have h526c : ¬ (m 4 48 (m 4 44 8)) < 48 := by omega
        clear h526 hz525
        refine X.lload_n 7 i204_6 rfl rfl rfl ?_
        refine X.lload 9 i204_7 rfl rfl rfl ?_
        refine X.lcmp 10 i204_9 rfl rfl (fun z528 hz528 => ?_)
        refine X.ifgt 17 13 i204_10 rfl rfl rfl (fun h529 => ?_) (fun h529 => ?_)
        · have h529c : ¬ (m 4 48 (m 4 44 8)) ≤ 57 := by omega
          clear h529 hz528
          refine X.cut [] i204_17 rfl ?_
          refine X.iconst 18 i204_17 rfl rfl (by decide) ?_
          refine X.retz i204_18 rfl t204 (by omega) ?_
          show X (EE s) d 270 53 [(0, zr 4 44), (1, zi y1), (2, zi y2), (3, zi y3)] [zi 0] m _
          refine X.ifeq 97 56 i270_53 rfl rfl rfl (fun h530 => ?_) (fun h530 => (by exfalso; omega))
          exact K97 y3 m (B) (hJ.up (by omega)) (by omega) (by first | trivial | omega) (by omega) (by omega) (by omega) (by omega) (Eq.trans hR (Eq.trans (if_neg h523) (Eq.trans (if_neg h526c) (Eq.trans (if_neg h529c) rfl))))
        · have h529c : (m 4 48 (m 4 44 8)) ≤ 57 := by omega
          clear h529 hz528
          refine X.iconst 14 i204_13 rfl rfl (by decide) ?_
          refine X.goto 18 i204_14 rfl rfl ?_
          refine X.cut [] i204_18 rfl ?_
          refine X.retz i204_18 rfl t204 (by omega) ?_
          show X (EE s) d 270 53 [(0, zr 4 44), (1, zi y1), (2, zi y2), (3, zi y3)] [zi 1] m _
          refine X.ifeq 97 56 i270_53 rfl rfl rfl (fun h531 => (by exfalso; omega)) (fun h531 => ?_)
          refine X.iload_n 57 i270_56 rfl rfl rfl ?_
          refine X.ldc 59 i270_57 rfl rfl (by decide) ?_
          have hK537 : ∀ (v : Int) , (0 ≤ v ∧ v ≤ 1000009) → (if y3 ≤ 100000 then
              ((((10 * y3) + (m 4 48 (m 4 44 8))) - 48))
              else
              (y3)) = v → X (EE s) d 270 83 [(0, zr 4 44), (1, zi y1), (2, zi y2)] [zi v] m Q := by
            intro v534 hv534 hT538
            refine X.istore_n 84 [(0, zr 4 44), (1, zi y1), (2, zi y2), (3, zi v534)] i270_83 rfl rfl rfl ?_
            refine X.aload_n 85 i270_84 rfl rfl rfl ?_
            refine X.dup 86 i270_85 rfl rfl rfl ?_
            refine X.getI 89 8 i270_86 rfl rfl (by decide) rfl rfl rfl ?_
            refine X.iconst 90 i270_89 rfl rfl (by decide) ?_
            refine X.iadd 91 i270_90 rfl rfl (by omega) ?_
            refine X.putI' 94 8 i270_91 rfl rfl (by decide) rfl rfl rfl (fun hrm539 m539 hm539 => ?_)
            have hJ540 := w44_8 hJ hm539 (by omega) hf19 hg4
            have em539 : m539 4 44 8 = ((m 4 44 8) + 1) := by rw [hm539]; exact z_upd_same _ _ _ _ _
            have wmm539_9 : m539 4 44 9 = m 4 44 9 := by rw [hm539]; exact z_upd_o _ _ rfl
            have wmm539_10 : m539 4 44 10 = m 4 44 10 := by rw [hm539]; exact z_upd_o _ _ rfl
            refine X.goto 23 i270_94 rfl rfl ?_
            exact ih v534 m539 (B) (hJ540.up (by omega)) (by omega) (by omega) (by omega) (by omega) (by omega) (by omega) (by omega) (Eq.trans hR (Eq.trans (if_neg h523) (Eq.trans (if_neg h526c) (Eq.trans (if_pos h529c) (Eq.trans (zn_eq hT538.symm) (Eq.trans (zs_eq hm539) rfl))))))
          refine X.icmple 66 62 i270_59 rfl rfl rfl (fun h532 => ?_) (fun h532 => ?_)
          · refine X.bipush 68 i270_66 rfl rfl (by decide) ?_
            refine X.iload_n 69 i270_68 rfl rfl rfl ?_
            refine X.imul 70 i270_69 rfl rfl (by omega) ?_
            refine X.aload_n 71 i270_70 rfl rfl rfl ?_
            refine X.getF 74 i270_71 rfl rfl (by decide) rfl rfl ?_
            refine X.aload_n 75 i270_74 rfl rfl rfl ?_
            refine X.getI 78 8 i270_75 rfl rfl (by decide) rfl rfl rfl ?_
            refine X.bald 79 i270_78 rfl rfl (by decide) rfl (by omega) (fun h533 => ?_)
            refine X.iadd 80 i270_79 rfl rfl (by omega) ?_
            refine X.bipush 82 i270_80 rfl rfl (by decide) ?_
            refine X.isub 83 i270_82 rfl rfl (by omega) ?_
            refine X.cut [(0, zr 4 44), (1, zi y1), (2, zi y2)] i270_83 rfl ?_
            exact hK537 (((10 * y3) + (m 4 48 (m 4 44 8))) - 48) (by first | trivial | omega) (Eq.trans (if_pos h532) rfl)
          · refine X.iload_n 63 i270_62 rfl rfl rfl ?_
            refine X.goto 83 i270_63 rfl rfl ?_
            refine X.cut [(0, zr 4 44), (1, zi y1), (2, zi y2)] i270_83 rfl ?_
            exact hK537 y3 (by first | trivial | omega) (Eq.trans (if_neg h532) rfl)
-- WorkMeterModel.wrong
theorem c268_4 {s : Nat × (Nat → Int32)} {S : zS} {m0 m : zM} {B : Int} {d : Nat} {Q : Option zV → zM → Prop} (a1 a2 : Int) (hd : 13 ≤ d) (hJ : J S m0 B m) (hB : B + 0 ≤ 1000000000) (ha1 : 2 ≤ a1 ∧ a1 ≤ 2) (ha2 : (-2147483648) ≤ a2 ∧ a2 ≤ 2147483647) (hf16 : ¬ S.1 16) (hf19 : ¬ S.1 19) (hg4 : ¬ S.2.1 4) (hQ : ∀ m', f268_1 a1 a2 m = m' → J S m0 (B) m' → (m' 4 44 9 = 1) → (m 4 44 8 ≤ m' 4 44 8) → (m 4 44 9 ≤ m' 4 44 9) → Q none m') : X (EE s) d 268 0 [(0, zr 4 44), (1, zi a1), (2, zi a2)] [] m Q := by
  refine X.aload_n 1 i268_0 rfl rfl rfl ?_
  refine X.getZ 4 9 i268_1 rfl rfl (by decide) rfl rfl rfl (fun h501 => ?_)
  refine X.ifeq 8 7 i268_4 rfl rfl rfl (fun h502 => ?_) (fun h502 => ?_)
  · refine X.aload_n 9 i268_8 rfl rfl rfl ?_
    refine X.iconst 10 i268_9 rfl rfl (by decide) ?_
    refine X.putZ' 13 9 i268_10 rfl rfl (by decide) rfl rfl rfl (by omega) (fun hrm503 m503 hm503 => ?_)
    have hJ504 := w44_9 hJ hm503 (by omega) hf19 hg4
    have em503 : m503 4 44 9 = 1 := by rw [hm503]; exact z_upd_same _ _ _ _ _
    have wmm503_8 : m503 4 44 8 = m 4 44 8 := by rw [hm503]; exact z_upd_o _ _ rfl
    have wmm503_10 : m503 4 44 10 = m 4 44 10 := by rw [hm503]; exact z_upd_o _ _ rfl
    refine X.aload_n 14 i268_13 rfl rfl rfl ?_
    refine X.iload_n 15 i268_14 rfl rfl rfl ?_
    refine X.putI' 18 6 i268_15 rfl rfl (by decide) rfl rfl rfl (fun hrm505 m505 hm505 => ?_)
    have hJ506 := w44_6 hJ504 hm505 (by omega) hrm505 hf16 hg4
    have wmm505_8 : m505 4 44 8 = m503 4 44 8 := by rw [hm505]; exact z_upd_o _ _ rfl
    have wmm505_9 : m505 4 44 9 = m503 4 44 9 := by rw [hm505]; exact z_upd_o _ _ rfl
    have wmm505_10 : m505 4 44 10 = m503 4 44 10 := by rw [hm505]; exact z_upd_o _ _ rfl
    refine X.aload_n 19 i268_18 rfl rfl rfl ?_
    refine X.iload_n 20 i268_19 rfl rfl rfl ?_
    refine X.putI' 23 7 i268_20 rfl rfl (by decide) rfl rfl rfl (fun hrm507 m507 hm507 => ?_)
    have hJ508 := w44_6 hJ506 hm507 (by omega) hrm507 hf16 hg4
    have wmm507_8 : m507 4 44 8 = m505 4 44 8 := by rw [hm507]; exact z_upd_o _ _ rfl
    have wmm507_9 : m507 4 44 9 = m505 4 44 9 := by rw [hm507]; exact z_upd_o _ _ rfl
    have wmm507_10 : m507 4 44 10 = m505 4 44 10 := by rw [hm507]; exact z_upd_o _ _ rfl
    refine X.retv i268_23 rfl t268 ?_
    exact hQ  m507  (Eq.trans (if_pos h502) (Eq.trans (zs_eq hm503) (Eq.trans (zs_eq hm505) (Eq.trans (zs_eq hm507) rfl)))) (hJ508.up (by omega)) (by omega) (by omega) (by omega)
  · refine X.retv i268_7 rfl t268 ?_
    exact hQ  m  (Eq.trans (if_neg h502) rfl) (hJ.up (by omega)) (by omega) (by omega) (by omega)
-- WorkMeterModel.number
noncomputable def f270_1 (a1 a2 : Int) (m : zM) : Int × zM :=
  if (m 4 44 9) = 0 then
  (zs (f263_1 m) fun m503 =>
  zs (z_upd m503 4 44 10 (m503 4 44 8)) fun m507 =>
  fl270_23_1 (fun y509 m510 =>
  zs (if (m510 4 44 8) = (m510 4 44 10) then
  (zs (f268_1 1 (m510 4 44 8) m510) fun m526 =>
  m526)
  else
  (if y509 ≤ a2 then
  (m510)
  else
  (zs (f268_1 2 (m510 4 44 10) m510) fun m522 =>
  m522))) fun m530 =>
  zn (if (m530 4 44 9) = 0 then
  (y509)
  else
  (0)) fun v536 =>
  (v536, m530)) a1 a2 (zfu 301) 0 m507)
  else
  ((0, m))
-- WorkMeterModel.number
theorem c270_1 {s : Nat × (Nat → Int32)} {S : zS} {m0 m : zM} {B : Int} {d : Nat} {Q : Option zV → zM → Prop} (a1 a2 : Int) (hd : 14 ≤ d) (hJ : J S m0 B m) (hB : B + 0 ≤ 1000000000) (ha1 : 0 ≤ a1 ∧ a1 ≤ 0) (ha2 : 0 ≤ a2 ∧ a2 ≤ 1000) (hf16 : ¬ S.1 16) (hf19 : ¬ S.1 19) (hg4 : ¬ S.2.1 4) (hQ : ∀ (v : Int) m', (0 ≤ v ∧ v ≤ 1000009) → f270_1 a1 a2 m = (v, m') → J S m0 (B) m' → (v ≤ a2) → (m' 4 44 9 = 1 ∨ m 4 44 8 < m' 4 44 8) → (m 4 44 8 ≤ m' 4 44 8) → (m 4 44 9 ≤ m' 4 44 9) → Q (some (zi v)) m') : X (EE s) d 270 0 [(0, zr 4 44), (1, zi a1), (2, zi a2)] [] m Q := by
  refine X.aload_n 1 i270_0 rfl rfl rfl ?_
  refine X.getZ 4 9 i270_1 rfl rfl (by decide) rfl rfl rfl (fun h501 => ?_)
  refine X.ifeq 9 7 i270_4 rfl rfl rfl (fun h502 => ?_) (fun h502 => ?_)
  · refine X.aload_n 10 i270_9 rfl rfl rfl ?_
    refine X.callv 13 [] [] [(0, zr 4 44)] i270_10 rfl (by decide) rfl rfl (by omega) rfl rfl (by decide) rfl t263 (Nat.le_of_ble_eq_true rfl) (Nat.le_of_ble_eq_true rfl) rfl ?_
    refine c263_1 (B := B)   (by omega) (hJ.up (by omega)) (by omega)  hf19 hg4 (fun m503 hFv505 hJ504 hqv505_0 hqv505_1 => ?_)
    show X (EE s) d 270 13 [(0, zr 4 44), (1, zi a1), (2, zi a2)] [] m503 _
    refine X.aload_n 14 i270_13 rfl rfl rfl ?_
    refine X.aload_n 15 i270_14 rfl rfl rfl ?_
    refine X.getI 18 8 i270_15 rfl rfl (by decide) rfl rfl rfl ?_
    have h506 := r44_8 hJ504 4
    refine X.putI' 21 10 i270_18 rfl rfl (by decide) rfl rfl rfl (fun hrm507 m507 hm507 => ?_)
    have hJ508 := w44_10 hJ504 hm507 (by omega) hrm507 hf19 hg4
    have em507 : m507 4 44 10 = (m503 4 44 8) := by rw [hm507]; exact z_upd_same _ _ _ _ _
    have wmm507_8 : m507 4 44 8 = m503 4 44 8 := by rw [hm507]; exact z_upd_o _ _ rfl
    have wmm507_9 : m507 4 44 9 = m503 4 44 9 := by rw [hm507]; exact z_upd_o _ _ rfl
    refine X.iconst 22 i270_21 rfl rfl (by decide) ?_
    refine X.istore_n 23 [(0, zr 4 44), (1, zi a1), (2, zi a2), (3, zi 0)] i270_22 rfl rfl rfl ?_
    have hz301 := zfu_eq 301
    refine l270_23_1 (s := s) (d := d) (R0 := (f270_1 a1 a2 m))  a1 a2 (m507 4 44 8) (m507 4 44 9) (BE := B + 0) (by omega) (by omega) (by omega) (by omega) hf19 hg4 (fun y509 m510 B511 hJ512 hBB511 hby509 hrlm510_0 hrlm510_1 hrlm510_2 hrlm510_3 hR513 => ?_) (zfu 301) 0 m507 (B) (hJ508.up (by omega)) (by omega) (by omega) (by omega) (by omega) (by omega) (by omega) (by omega) (Eq.trans (if_pos h502) (Eq.trans (zs_eq hFv505.symm) (Eq.trans (zs_eq hm507) rfl)))
    refine X.aload_n 98 i270_97 rfl rfl rfl ?_
    refine X.getI 101 8 i270_98 rfl rfl (by decide) rfl rfl rfl ?_
    have h514 := r44_8 hJ512 4
    refine X.aload_n 102 i270_101 rfl rfl rfl ?_
    refine X.getIr 105 10 i270_102 rfl rfl (by decide) rfl rfl rfl (fun h515 => ?_)
    have hK532 : ∀ (m' : zM), (if (m510 4 44 8) = (m510 4 44 10) then
        (zs (f268_1 1 (m510 4 44 8) m510) fun m526 =>
        m526)
        else
        (if y509 ≤ a2 then
        (m510)
        else
        (zs (f268_1 2 (m510 4 44 10) m510) fun m522 =>
        m522))) = m' → J S m0 (B511) m' → X (EE s) d 270 141 [(0, zr 4 44), (3, zi y509)] [] m' Q := by
      intro m530 hT533 hJ531
      refine X.aload_n 142 i270_141 rfl rfl rfl ?_
      refine X.getZ 145 9 i270_142 rfl rfl (by decide) rfl rfl rfl (fun h534 => ?_)
      have hK539 : ∀ (v : Int) , (0 ≤ v ∧ v ≤ 1000009) → (if (m530 4 44 9) = 0 then
          (y509)
          else
          (0)) = v → X (EE s) d 270 153 [] [zi v] m530 Q := by
        intro v536 hv536 hT540
        refine X.reti i270_153 rfl t270 ?_
        exact hQ v536 m530 (by first | trivial | omega) (Eq.trans hR513 (Eq.trans (zs_eq hT533.symm) (Eq.trans (zn_eq hT540.symm) rfl))) (hJ531.up (by omega)) (by omega) (by omega) (by omega) (by omega)
      refine X.ifeq 152 148 i270_145 rfl rfl rfl (fun h535 => ?_) (fun h535 => ?_)
      · refine X.cut [(3, zi y509)] i270_152 rfl ?_
        refine X.iload_n 153 i270_152 rfl rfl rfl ?_
        refine X.cut [] i270_153 rfl ?_
        exact hK539 y509 (by first | trivial | omega) (Eq.trans (if_pos h535) rfl)
      · refine X.iconst 149 i270_148 rfl rfl (by decide) ?_
        refine X.goto 153 i270_149 rfl rfl ?_
        refine X.cut [] i270_153 rfl ?_
        exact hK539 0 (by first | trivial | omega) (Eq.trans (if_neg h535) rfl)
    refine X.icmpne 120 108 i270_105 rfl rfl rfl (fun h516 => ?_) (fun h516 => ?_)
    · refine X.iload_n 121 i270_120 rfl rfl rfl ?_
      refine X.i2l 122 i270_121 rfl rfl ?_
      refine X.iload_n 123 i270_122 rfl rfl rfl ?_
      refine X.i2l 124 i270_123 rfl rfl ?_
      refine X.iload_n 125 i270_124 rfl rfl rfl ?_
      refine X.i2l 126 i270_125 rfl rfl ?_
      refine X.calls 129 [zl y509, zl a1, zl a2] [] [(0, zl y509), (2, zl a1), (4, zl a2)] i270_126 (by decide) rfl rfl (by omega) rfl rfl t204 (Nat.le_of_ble_eq_true rfl) (Nat.le_of_ble_eq_true rfl) rfl ?_
      refine X.lload_n 1 i204_0 rfl rfl rfl ?_
      refine X.lload_n 2 i204_1 rfl rfl rfl ?_
      refine X.lcmp 3 i204_2 rfl rfl (fun z517 hz517 => ?_)
      refine X.iflt 17 6 i204_3 rfl rfl rfl (fun h518 => (by exfalso; omega)) (fun h518 => ?_)
      have h518c : ¬ y509 < a1 := by omega
      clear h518 hz517
      refine X.lload_n 7 i204_6 rfl rfl rfl ?_
      refine X.lload 9 i204_7 rfl rfl rfl ?_
      refine X.lcmp 10 i204_9 rfl rfl (fun z519 hz519 => ?_)
      refine X.ifgt 17 13 i204_10 rfl rfl rfl (fun h520 => ?_) (fun h520 => ?_)
      · have h520c : ¬ y509 ≤ a2 := by omega
        clear h520 hz519
        refine X.cut [] i204_17 rfl ?_
        refine X.iconst 18 i204_17 rfl rfl (by decide) ?_
        refine X.retz i204_18 rfl t204 (by omega) ?_
        show X (EE s) d 270 129 [(0, zr 4 44), (1, zi a1), (2, zi a2), (3, zi y509)] [zi 0] m510 _
        refine X.ifne 141 132 i270_129 rfl rfl rfl (fun h521 => (by exfalso; omega)) (fun h521 => ?_)
        refine X.aload_n 133 i270_132 rfl rfl rfl ?_
        refine X.iconst 134 i270_133 rfl rfl (by decide) ?_
        refine X.aload_n 135 i270_134 rfl rfl rfl ?_
        refine X.getI 138 10 i270_135 rfl rfl (by decide) rfl rfl rfl ?_
        refine X.callv 141 [zi 2, zi (m510 4 44 10)] [] [(0, zr 4 44), (1, zi 2), (2, zi (m510 4 44 10))] i270_138 rfl (by decide) rfl rfl (by omega) rfl rfl (by decide) rfl t268 (Nat.le_of_ble_eq_true rfl) (Nat.le_of_ble_eq_true rfl) rfl ?_
        refine c268_4 (B := B511)  2 (m510 4 44 10) (by omega) (hJ512.up (by omega)) (by omega) (by omega) (by omega) hf16 hf19 hg4 (fun m522 hFv524 hJ523 hqv524_0 hqv524_1 hqv524_2 => ?_)
        show X (EE s) d 270 141 [(0, zr 4 44), (1, zi a1), (2, zi a2), (3, zi y509)] [] m522 _
        refine X.cut [(0, zr 4 44), (3, zi y509)] i270_141 rfl ?_
        exact hK532 m522 (Eq.trans (if_neg h516) (Eq.trans (if_neg h520c) (Eq.trans (zs_eq hFv524.symm) rfl))) (hJ523.up (by omega))
      · have h520c : y509 ≤ a2 := by omega
        clear h520 hz519
        refine X.iconst 14 i204_13 rfl rfl (by decide) ?_
        refine X.goto 18 i204_14 rfl rfl ?_
        refine X.cut [] i204_18 rfl ?_
        refine X.retz i204_18 rfl t204 (by omega) ?_
        show X (EE s) d 270 129 [(0, zr 4 44), (1, zi a1), (2, zi a2), (3, zi y509)] [zi 1] m510 _
        refine X.ifne 141 132 i270_129 rfl rfl rfl (fun h525 => ?_) (fun h525 => (by exfalso; omega))
        refine X.cut [(0, zr 4 44), (3, zi y509)] i270_141 rfl ?_
        exact hK532 m510 (Eq.trans (if_neg h516) (Eq.trans (if_pos h520c) rfl)) (hJ512.up (by omega))
    · refine X.aload_n 109 i270_108 rfl rfl rfl ?_
      refine X.iconst 110 i270_109 rfl rfl (by decide) ?_
      refine X.aload_n 111 i270_110 rfl rfl rfl ?_
      refine X.getI 114 8 i270_111 rfl rfl (by decide) rfl rfl rfl ?_
      refine X.callv 117 [zi 1, zi (m510 4 44 8)] [] [(0, zr 4 44), (1, zi 1), (2, zi (m510 4 44 8))] i270_114 rfl (by decide) rfl rfl (by omega) rfl rfl (by decide) rfl t268 (Nat.le_of_ble_eq_true rfl) (Nat.le_of_ble_eq_true rfl) rfl ?_
      refine c268_1 (B := B511)  1 (m510 4 44 8) (by omega) (hJ512.up (by omega)) (by omega) (by omega) (by omega) hf16 hf19 hg4 (fun m526 hFv528 hJ527 hqv528_0 hqv528_1 hqv528_2 => ?_)
      show X (EE s) d 270 117 [(0, zr 4 44), (1, zi a1), (2, zi a2), (3, zi y509)] [] m526 _
      refine X.goto 141 i270_117 rfl rfl ?_
      refine X.cut [(0, zr 4 44), (3, zi y509)] i270_141 rfl ?_
      exact hK532 m526 (Eq.trans (if_pos h516) (Eq.trans (zs_eq hFv528.symm) rfl)) (hJ527.up (by omega))
  · refine X.iconst 8 i270_7 rfl rfl (by decide) ?_
    refine X.reti i270_8 rfl t270 ?_
    exact hQ 0 m (by first | trivial | omega) (Eq.trans (if_neg h502) rfl) (hJ.up (by omega)) (by omega) (by omega) (by omega) (by omega)
-- WorkMeterModel.wrong
theorem c268_5 {s : Nat × (Nat → Int32)} {S : zS} {m0 m : zM} {B : Int} {d : Nat} {Q : Option zV → zM → Prop} (a1 a2 : Int) (hd : 13 ≤ d) (hJ : J S m0 B m) (hB : B + 0 ≤ 1000000000) (ha1 : 3 ≤ a1 ∧ a1 ≤ 3) (ha2 : (-2147483648) ≤ a2 ∧ a2 ≤ 2147483647) (hf16 : ¬ S.1 16) (hf19 : ¬ S.1 19) (hg4 : ¬ S.2.1 4) (hQ : ∀ m', f268_1 a1 a2 m = m' → J S m0 (B) m' → (m' 4 44 9 = 1) → (m 4 44 8 ≤ m' 4 44 8) → (m 4 44 9 ≤ m' 4 44 9) → Q none m') : X (EE s) d 268 0 [(0, zr 4 44), (1, zi a1), (2, zi a2)] [] m Q := by
  refine X.aload_n 1 i268_0 rfl rfl rfl ?_
  refine X.getZ 4 9 i268_1 rfl rfl (by decide) rfl rfl rfl (fun h501 => ?_)
  refine X.ifeq 8 7 i268_4 rfl rfl rfl (fun h502 => ?_) (fun h502 => ?_)
  · refine X.aload_n 9 i268_8 rfl rfl rfl ?_
    refine X.iconst 10 i268_9 rfl rfl (by decide) ?_
    refine X.putZ' 13 9 i268_10 rfl rfl (by decide) rfl rfl rfl (by omega) (fun hrm503 m503 hm503 => ?_)
    have hJ504 := w44_9 hJ hm503 (by omega) hf19 hg4
    have em503 : m503 4 44 9 = 1 := by rw [hm503]; exact z_upd_same _ _ _ _ _
    have wmm503_8 : m503 4 44 8 = m 4 44 8 := by rw [hm503]; exact z_upd_o _ _ rfl
    have wmm503_10 : m503 4 44 10 = m 4 44 10 := by rw [hm503]; exact z_upd_o _ _ rfl
    refine X.aload_n 14 i268_13 rfl rfl rfl ?_
    refine X.iload_n 15 i268_14 rfl rfl rfl ?_
    refine X.putI' 18 6 i268_15 rfl rfl (by decide) rfl rfl rfl (fun hrm505 m505 hm505 => ?_)
    have hJ506 := w44_6 hJ504 hm505 (by omega) hrm505 hf16 hg4
    have wmm505_8 : m505 4 44 8 = m503 4 44 8 := by rw [hm505]; exact z_upd_o _ _ rfl
    have wmm505_9 : m505 4 44 9 = m503 4 44 9 := by rw [hm505]; exact z_upd_o _ _ rfl
    have wmm505_10 : m505 4 44 10 = m503 4 44 10 := by rw [hm505]; exact z_upd_o _ _ rfl
    refine X.aload_n 19 i268_18 rfl rfl rfl ?_
    refine X.iload_n 20 i268_19 rfl rfl rfl ?_
    refine X.putI' 23 7 i268_20 rfl rfl (by decide) rfl rfl rfl (fun hrm507 m507 hm507 => ?_)
    have hJ508 := w44_6 hJ506 hm507 (by omega) hrm507 hf16 hg4
    have wmm507_8 : m507 4 44 8 = m505 4 44 8 := by rw [hm507]; exact z_upd_o _ _ rfl
    have wmm507_9 : m507 4 44 9 = m505 4 44 9 := by rw [hm507]; exact z_upd_o _ _ rfl
    have wmm507_10 : m507 4 44 10 = m505 4 44 10 := by rw [hm507]; exact z_upd_o _ _ rfl
    refine X.retv i268_23 rfl t268 ?_
    exact hQ  m507  (Eq.trans (if_pos h502) (Eq.trans (zs_eq hm503) (Eq.trans (zs_eq hm505) (Eq.trans (zs_eq hm507) rfl)))) (hJ508.up (by omega)) (by omega) (by omega) (by omega)
  · refine X.retv i268_7 rfl t268 ?_
    exact hQ  m  (Eq.trans (if_neg h502) rfl) (hJ.up (by omega)) (by omega) (by omega) (by omega)
-- WorkMeterModel.isDigitNext
noncomputable def f271_1 (m : zM) : Int × zM :=
  zs (f263_1 m) fun m501 =>
  zn (if (m501 4 44 5) ≤ (m501 4 44 8) then
  (0)
  else
  (if (m501 4 48 (m501 4 44 8)) < 48 then
  (0)
  else
  (if (m501 4 48 (m501 4 44 8)) ≤ 57 then
  (1)
  else
  (0)))) fun v515 =>
  (v515, m501)
-- WorkMeterModel.isDigitNext
theorem c271_1 {s : Nat × (Nat → Int32)} {S : zS} {m0 m : zM} {B : Int} {d : Nat} {Q : Option zV → zM → Prop} (hd : 14 ≤ d) (hJ : J S m0 B m) (hB : B + 0 ≤ 1000000000) (hf19 : ¬ S.1 19) (hg4 : ¬ S.2.1 4) (hQ : ∀ (v : Int) m', (0 ≤ v ∧ v ≤ 1) → f271_1 m = (v, m') → J S m0 (B) m' → (m 4 44 8 ≤ m' 4 44 8) → (m 4 44 9 ≤ m' 4 44 9) → Q (some (zi v)) m') : X (EE s) d 271 0 [(0, zr 4 44)] [] m Q := by
  refine X.aload_n 1 i271_0 rfl rfl rfl ?_
  refine X.callv 4 [] [] [(0, zr 4 44)] i271_1 rfl (by decide) rfl rfl (by omega) rfl rfl (by decide) rfl t263 (Nat.le_of_ble_eq_true rfl) (Nat.le_of_ble_eq_true rfl) rfl ?_
  refine c263_1 (B := B)   (by omega) (hJ.up (by omega)) (by omega)  hf19 hg4 (fun m501 hFv503 hJ502 hqv503_0 hqv503_1 => ?_)
  show X (EE s) d 271 4 [(0, zr 4 44)] [] m501 _
  refine X.aload_n 5 i271_4 rfl rfl rfl ?_
  refine X.getI 8 8 i271_5 rfl rfl (by decide) rfl rfl rfl ?_
  have h504 := r44_8 hJ502 4
  refine X.aload_n 9 i271_8 rfl rfl rfl ?_
  refine X.getI 12 5 i271_9 rfl rfl (by decide) rfl rfl rfl ?_
  have h505 := r44_5 hJ502 4
  have hK518 : ∀ (v : Int) , (0 ≤ v ∧ v ≤ 1) → (if (m501 4 44 5) ≤ (m501 4 44 8) then
      (0)
      else
      (if (m501 4 48 (m501 4 44 8)) < 48 then
      (0)
      else
      (if (m501 4 48 (m501 4 44 8)) ≤ 57 then
      (1)
      else
      (0)))) = v → X (EE s) d 271 42 [] [zi v] m501 Q := by
    intro v515 hv515 hT519
    refine X.retz i271_42 rfl t271 (by omega) ?_
    exact hQ v515 m501 (by first | trivial | omega) (Eq.trans (zs_eq hFv503.symm) (Eq.trans (zn_eq hT519.symm) rfl)) (hJ502.up (by omega)) (by omega) (by omega)
  refine X.icmpge 41 15 i271_12 rfl rfl rfl (fun h506 => ?_) (fun h506 => ?_)
  · refine X.cut [] i271_41 rfl ?_
    refine X.iconst 42 i271_41 rfl rfl (by decide) ?_
    exact hK518 0 (by first | trivial | omega) (Eq.trans (if_pos h506) rfl)
  · refine X.aload_n 16 i271_15 rfl rfl rfl ?_
    refine X.getF 19 i271_16 rfl rfl (by decide) rfl rfl ?_
    refine X.aload_n 20 i271_19 rfl rfl rfl ?_
    refine X.getI 23 8 i271_20 rfl rfl (by decide) rfl rfl rfl ?_
    refine X.bald 24 i271_23 rfl rfl (by decide) rfl (by omega) (fun h507 => ?_)
    refine X.i2l 25 i271_24 rfl rfl ?_
    refine X.ldc2 28 i271_25 rfl rfl (by decide) ?_
    refine X.ldc2 31 i271_28 rfl rfl (by decide) ?_
    refine X.calls 34 [zl (m501 4 48 (m501 4 44 8)), zl 48, zl 57] [] [(0, zl (m501 4 48 (m501 4 44 8))), (2, zl 48), (4, zl 57)] i271_31 (by decide) rfl rfl (by omega) rfl rfl t204 (Nat.le_of_ble_eq_true rfl) (Nat.le_of_ble_eq_true rfl) rfl ?_
    refine X.lload_n 1 i204_0 rfl rfl rfl ?_
    refine X.lload_n 2 i204_1 rfl rfl rfl ?_
    refine X.lcmp 3 i204_2 rfl rfl (fun z508 hz508 => ?_)
    refine X.iflt 17 6 i204_3 rfl rfl rfl (fun h509 => ?_) (fun h509 => ?_)
    · have h509c : (m501 4 48 (m501 4 44 8)) < 48 := by omega
      clear h509 hz508
      refine X.cut [] i204_17 rfl ?_
      refine X.iconst 18 i204_17 rfl rfl (by decide) ?_
      refine X.retz i204_18 rfl t204 (by omega) ?_
      show X (EE s) d 271 34 [(0, zr 4 44)] [zi 0] m501 _
      refine X.ifeq 41 37 i271_34 rfl rfl rfl (fun h510 => ?_) (fun h510 => (by exfalso; omega))
      refine X.cut [] i271_41 rfl ?_
      refine X.iconst 42 i271_41 rfl rfl (by decide) ?_
      exact hK518 0 (by first | trivial | omega) (Eq.trans (if_neg h506) (Eq.trans (if_pos h509c) rfl))
    · have h509c : ¬ (m501 4 48 (m501 4 44 8)) < 48 := by omega
      clear h509 hz508
      refine X.lload_n 7 i204_6 rfl rfl rfl ?_
      refine X.lload 9 i204_7 rfl rfl rfl ?_
      refine X.lcmp 10 i204_9 rfl rfl (fun z511 hz511 => ?_)
      refine X.ifgt 17 13 i204_10 rfl rfl rfl (fun h512 => ?_) (fun h512 => ?_)
      · have h512c : ¬ (m501 4 48 (m501 4 44 8)) ≤ 57 := by omega
        clear h512 hz511
        refine X.cut [] i204_17 rfl ?_
        refine X.iconst 18 i204_17 rfl rfl (by decide) ?_
        refine X.retz i204_18 rfl t204 (by omega) ?_
        show X (EE s) d 271 34 [(0, zr 4 44)] [zi 0] m501 _
        refine X.ifeq 41 37 i271_34 rfl rfl rfl (fun h513 => ?_) (fun h513 => (by exfalso; omega))
        refine X.cut [] i271_41 rfl ?_
        refine X.iconst 42 i271_41 rfl rfl (by decide) ?_
        exact hK518 0 (by first | trivial | omega) (Eq.trans (if_neg h506) (Eq.trans (if_neg h509c) (Eq.trans (if_neg h512c) rfl)))
      · have h512c : (m501 4 48 (m501 4 44 8)) ≤ 57 := by omega
        clear h512 hz511
        refine X.iconst 14 i204_13 rfl rfl (by decide) ?_
        refine X.goto 18 i204_14 rfl rfl ?_
        refine X.cut [] i204_18 rfl ?_
        refine X.retz i204_18 rfl t204 (by omega) ?_
        show X (EE s) d 271 34 [(0, zr 4 44)] [zi 1] m501 _
        refine X.ifeq 41 37 i271_34 rfl rfl rfl (fun h514 => (by exfalso; omega)) (fun h514 => ?_)
        refine X.iconst 38 i271_37 rfl rfl (by decide) ?_
        refine X.goto 42 i271_38 rfl rfl ?_
        refine X.cut [] i271_42 rfl ?_
        exact hK518 1 (by first | trivial | omega) (Eq.trans (if_neg h506) (Eq.trans (if_neg h509c) (Eq.trans (if_pos h512c) rfl)))
-- WorkMeterModel.wrong
theorem c268_6 {s : Nat × (Nat → Int32)} {S : zS} {m0 m : zM} {B : Int} {d : Nat} {Q : Option zV → zM → Prop} (a1 a2 : Int) (hd : 13 ≤ d) (hJ : J S m0 B m) (hB : B + 0 ≤ 1000000000) (ha1 : 4 ≤ a1 ∧ a1 ≤ 4) (ha2 : (-2147483648) ≤ a2 ∧ a2 ≤ 2147483647) (hf16 : ¬ S.1 16) (hf19 : ¬ S.1 19) (hg4 : ¬ S.2.1 4) (hQ : ∀ m', f268_1 a1 a2 m = m' → J S m0 (B) m' → (m' 4 44 9 = 1) → (m 4 44 8 ≤ m' 4 44 8) → (m 4 44 9 ≤ m' 4 44 9) → Q none m') : X (EE s) d 268 0 [(0, zr 4 44), (1, zi a1), (2, zi a2)] [] m Q := by
  refine X.aload_n 1 i268_0 rfl rfl rfl ?_
  refine X.getZ 4 9 i268_1 rfl rfl (by decide) rfl rfl rfl (fun h501 => ?_)
  refine X.ifeq 8 7 i268_4 rfl rfl rfl (fun h502 => ?_) (fun h502 => ?_)
  · refine X.aload_n 9 i268_8 rfl rfl rfl ?_
    refine X.iconst 10 i268_9 rfl rfl (by decide) ?_
    refine X.putZ' 13 9 i268_10 rfl rfl (by decide) rfl rfl rfl (by omega) (fun hrm503 m503 hm503 => ?_)
    have hJ504 := w44_9 hJ hm503 (by omega) hf19 hg4
    have em503 : m503 4 44 9 = 1 := by rw [hm503]; exact z_upd_same _ _ _ _ _
    have wmm503_8 : m503 4 44 8 = m 4 44 8 := by rw [hm503]; exact z_upd_o _ _ rfl
    have wmm503_10 : m503 4 44 10 = m 4 44 10 := by rw [hm503]; exact z_upd_o _ _ rfl
    refine X.aload_n 14 i268_13 rfl rfl rfl ?_
    refine X.iload_n 15 i268_14 rfl rfl rfl ?_
    refine X.putI' 18 6 i268_15 rfl rfl (by decide) rfl rfl rfl (fun hrm505 m505 hm505 => ?_)
    have hJ506 := w44_6 hJ504 hm505 (by omega) hrm505 hf16 hg4
    have wmm505_8 : m505 4 44 8 = m503 4 44 8 := by rw [hm505]; exact z_upd_o _ _ rfl
    have wmm505_9 : m505 4 44 9 = m503 4 44 9 := by rw [hm505]; exact z_upd_o _ _ rfl
    have wmm505_10 : m505 4 44 10 = m503 4 44 10 := by rw [hm505]; exact z_upd_o _ _ rfl
    refine X.aload_n 19 i268_18 rfl rfl rfl ?_
    refine X.iload_n 20 i268_19 rfl rfl rfl ?_
    refine X.putI' 23 7 i268_20 rfl rfl (by decide) rfl rfl rfl (fun hrm507 m507 hm507 => ?_)
    have hJ508 := w44_6 hJ506 hm507 (by omega) hrm507 hf16 hg4
    have wmm507_8 : m507 4 44 8 = m505 4 44 8 := by rw [hm507]; exact z_upd_o _ _ rfl
    have wmm507_9 : m507 4 44 9 = m505 4 44 9 := by rw [hm507]; exact z_upd_o _ _ rfl
    have wmm507_10 : m507 4 44 10 = m505 4 44 10 := by rw [hm507]; exact z_upd_o _ _ rfl
    refine X.retv i268_23 rfl t268 ?_
    exact hQ  m507  (Eq.trans (if_pos h502) (Eq.trans (zs_eq hm503) (Eq.trans (zs_eq hm505) (Eq.trans (zs_eq hm507) rfl)))) (hJ508.up (by omega)) (by omega) (by omega) (by omega)
  · refine X.retv i268_7 rfl t268 ?_
    exact hQ  m  (Eq.trans (if_neg h502) rfl) (hJ.up (by omega)) (by omega) (by omega) (by omega)
-- WorkMeterModel.must
noncomputable def f272_1 (a1 : Int) (m : zM) : zM :=
  zs (f263_1 m) fun m501 =>
  zs (if (m501 4 44 5) ≤ (m501 4 44 8) then
  (zs (f268_1 1 (m501 4 44 8) m501) fun m507 =>
  m507)
  else
  (if (m501 4 48 (m501 4 44 8)) = a1 then
  (zs (z_upd m501 4 44 8 ((m501 4 44 8) + 1)) fun m515 =>
  m515)
  else
  (zs (f268_1 1 (m501 4 44 8) m501) fun m512 =>
  m512))) fun m518 =>
  m518
-- WorkMeterModel.must
theorem c272_1 {s : Nat × (Nat → Int32)} {S : zS} {m0 m : zM} {B : Int} {d : Nat} {Q : Option zV → zM → Prop} (a1 : Int) (hd : 14 ≤ d) (hJ : J S m0 B m) (hB : B + 0 ≤ 1000000000) (ha1 : 58 ≤ a1 ∧ a1 ≤ 58) (hf16 : ¬ S.1 16) (hf19 : ¬ S.1 19) (hg4 : ¬ S.2.1 4) (hQ : ∀ m', f272_1 a1 m = m' → J S m0 (B) m' → (m' 4 44 9 = 1 ∨ m 4 44 8 < m' 4 44 8) → (m 4 44 8 ≤ m' 4 44 8) → (m 4 44 9 ≤ m' 4 44 9) → Q none m') : X (EE s) d 272 0 [(0, zr 4 44), (1, zi a1)] [] m Q := by
  refine X.aload_n 1 i272_0 rfl rfl rfl ?_
  refine X.callv 4 [] [] [(0, zr 4 44)] i272_1 rfl (by decide) rfl rfl (by omega) rfl rfl (by decide) rfl t263 (Nat.le_of_ble_eq_true rfl) (Nat.le_of_ble_eq_true rfl) rfl ?_
  refine c263_1 (B := B)   (by omega) (hJ.up (by omega)) (by omega)  hf19 hg4 (fun m501 hFv503 hJ502 hqv503_0 hqv503_1 => ?_)
  show X (EE s) d 272 4 [(0, zr 4 44), (1, zi a1)] [] m501 _
  refine X.aload_n 5 i272_4 rfl rfl rfl ?_
  refine X.getI 8 8 i272_5 rfl rfl (by decide) rfl rfl rfl ?_
  have h504 := r44_8 hJ502 4
  refine X.aload_n 9 i272_8 rfl rfl rfl ?_
  refine X.getI 12 5 i272_9 rfl rfl (by decide) rfl rfl rfl ?_
  have h505 := r44_5 hJ502 4
  have hK520 : ∀ (m' : zM), (if (m501 4 44 5) ≤ (m501 4 44 8) then
      (zs (f268_1 1 (m501 4 44 8) m501) fun m507 =>
      m507)
      else
      (if (m501 4 48 (m501 4 44 8)) = a1 then
      (zs (z_upd m501 4 44 8 ((m501 4 44 8) + 1)) fun m515 =>
      m515)
      else
      (zs (f268_1 1 (m501 4 44 8) m501) fun m512 =>
      m512))) = m' → J S m0 (B) m' → X (EE s) d 272 50 [] [] m' Q := by
    intro m518 hT521 hJ519
    refine X.retv i272_50 rfl t272 ?_
    exact hQ  m518  (Eq.trans (zs_eq hFv503.symm) (Eq.trans (zs_eq hT521.symm) rfl)) (hJ519.up (by omega)) (by omega) (by omega) (by omega)
  refine X.icmpge 41 15 i272_12 rfl rfl rfl (fun h506 => ?_) (fun h506 => ?_)
  · refine X.cut [(0, zr 4 44)] i272_41 rfl ?_
    refine X.aload_n 42 i272_41 rfl rfl rfl ?_
    refine X.iconst 43 i272_42 rfl rfl (by decide) ?_
    refine X.aload_n 44 i272_43 rfl rfl rfl ?_
    refine X.getI 47 8 i272_44 rfl rfl (by decide) rfl rfl rfl ?_
    refine X.callv 50 [zi 1, zi (m501 4 44 8)] [] [(0, zr 4 44), (1, zi 1), (2, zi (m501 4 44 8))] i272_47 rfl (by decide) rfl rfl (by omega) rfl rfl (by decide) rfl t268 (Nat.le_of_ble_eq_true rfl) (Nat.le_of_ble_eq_true rfl) rfl ?_
    refine c268_1 (B := B)  1 (m501 4 44 8) (by omega) (hJ502.up (by omega)) (by omega) (by omega) (by omega) hf16 hf19 hg4 (fun m507 hFv509 hJ508 hqv509_0 hqv509_1 hqv509_2 => ?_)
    show X (EE s) d 272 50 [(0, zr 4 44)] [] m507 _
    refine X.cut [] i272_50 rfl ?_
    exact hK520 m507 (Eq.trans (if_pos h506) (Eq.trans (zs_eq hFv509.symm) rfl)) (hJ508.up (by omega))
  · refine X.aload_n 16 i272_15 rfl rfl rfl ?_
    refine X.getF 19 i272_16 rfl rfl (by decide) rfl rfl ?_
    refine X.aload_n 20 i272_19 rfl rfl rfl ?_
    refine X.getI 23 8 i272_20 rfl rfl (by decide) rfl rfl rfl ?_
    refine X.bald 24 i272_23 rfl rfl (by decide) rfl (by omega) (fun h510 => ?_)
    refine X.iload_n 25 i272_24 rfl rfl rfl ?_
    refine X.icmpne 41 28 i272_25 rfl rfl rfl (fun h511 => ?_) (fun h511 => ?_)
    · refine X.cut [(0, zr 4 44)] i272_41 rfl ?_
      refine X.aload_n 42 i272_41 rfl rfl rfl ?_
      refine X.iconst 43 i272_42 rfl rfl (by decide) ?_
      refine X.aload_n 44 i272_43 rfl rfl rfl ?_
      refine X.getI 47 8 i272_44 rfl rfl (by decide) rfl rfl rfl ?_
      refine X.callv 50 [zi 1, zi (m501 4 44 8)] [] [(0, zr 4 44), (1, zi 1), (2, zi (m501 4 44 8))] i272_47 rfl (by decide) rfl rfl (by omega) rfl rfl (by decide) rfl t268 (Nat.le_of_ble_eq_true rfl) (Nat.le_of_ble_eq_true rfl) rfl ?_
      refine c268_1 (B := B)  1 (m501 4 44 8) (by omega) (hJ502.up (by omega)) (by omega) (by omega) (by omega) hf16 hf19 hg4 (fun m512 hFv514 hJ513 hqv514_0 hqv514_1 hqv514_2 => ?_)
      show X (EE s) d 272 50 [(0, zr 4 44)] [] m512 _
      refine X.cut [] i272_50 rfl ?_
      exact hK520 m512 (Eq.trans (if_neg h506) (Eq.trans (if_neg h511) (Eq.trans (zs_eq hFv514.symm) rfl))) (hJ513.up (by omega))
    · refine X.aload_n 29 i272_28 rfl rfl rfl ?_
      refine X.dup 30 i272_29 rfl rfl rfl ?_
      refine X.getI 33 8 i272_30 rfl rfl (by decide) rfl rfl rfl ?_
      refine X.iconst 34 i272_33 rfl rfl (by decide) ?_
      refine X.iadd 35 i272_34 rfl rfl (by omega) ?_
      refine X.putI' 38 8 i272_35 rfl rfl (by decide) rfl rfl rfl (fun hrm515 m515 hm515 => ?_)
      have hJ516 := w44_8 hJ502 hm515 (by omega) hf19 hg4
      have em515 : m515 4 44 8 = ((m501 4 44 8) + 1) := by rw [hm515]; exact z_upd_same _ _ _ _ _
      have wmm515_9 : m515 4 44 9 = m501 4 44 9 := by rw [hm515]; exact z_upd_o _ _ rfl
      have wmm515_10 : m515 4 44 10 = m501 4 44 10 := by rw [hm515]; exact z_upd_o _ _ rfl
      refine X.goto 50 i272_38 rfl rfl ?_
      refine X.cut [] i272_50 rfl ?_
      exact hK520 m515 (Eq.trans (if_neg h506) (Eq.trans (if_pos h511) (Eq.trans (zs_eq hm515) rfl))) (hJ516.up (by omega))
noncomputable def fl273_2_1_b (self : Int → Int) (k39 : Int → Int) (k47 : Int) (y1 y2 : Int) (m : zM) (y3 : Int) : Int :=
  if y3 < (m 4 45 (287 + y1)) then
  (if (m 4 45 ((295 + (6 * y1)) + y3)) = y2 then
  (k39 y3)
  else
  (self (y3 + 1)))
  else
  (k47)
noncomputable def fl273_2_1 (k39 : Int → Int) (k47 : Int) (y1 y2 : Int) (m : zM) : Nat → Int → Int
  | 0 => fun y3 => 0
  | n + 1 => fl273_2_1_b (fl273_2_1 k39 k47 y1 y2 m n) k39 k47 y1 y2 m
theorem l273_2_1 {s : Nat × (Nat → Int32)} {S : zS} {m0 : zM} {m : zM} {B : Int} {d : Nat} {Q : Option zV → zM → Prop} {R0 : Int} {k39 : Int → Int} {k47 : Int} (y1 y2 : Int) (hd : 13 ≤ d) (hJ : J S m0 B m) (hB9 : B ≤ 1000000000) (hy1 : 0 ≤ y1 ∧ y1 ≤ 7) (hy2 : 0 ≤ y2 ∧ y2 ≤ 86340)
    (K39 : ∀ (x3 : Int) , (0 ≤ x3 ∧ x3 ≤ 5) → R0 = k39 x3 → X (EE s) d 273 39 [(0, zr 4 44), (1, zi y1), (2, zi y2), (3, zi x3)] [] m Q)
    (K47 : R0 = k47 → X (EE s) d 273 47 [] [] m Q) :
    ∀ (n : Nat) (y3 : Int) , (0 ≤ y3 ∧ y3 ≤ 6) → 6 - y3 < (n : Int) → R0 = fl273_2_1 k39 k47 y1 y2 m n y3 → X (EE s) d 273 2 [(0, zr 4 44), (1, zi y1), (2, zi y2), (3, zi y3)] [] m Q := by
  intro n
  induction n with
  | zero =>
    intro y3 hy3 hn hR
    exfalso
    omega
  | succ n ih =>
    intro y3 hy3 hn hR
    replace hR : R0 = fl273_2_1_b (fl273_2_1 k39 k47 y1 y2 m n) k39 k47 y1 y2 m y3 := hR
    refine X.iload_n 3 i273_2 rfl rfl rfl ?_
    refine X.i2l 4 i273_3 rfl rfl ?_
    refine X.aload_n 5 i273_4 rfl rfl rfl ?_
    refine X.getF 8 i273_5 rfl rfl (by decide) rfl rfl ?_
    refine X.sipush 11 i273_8 rfl rfl (by decide) ?_
    refine X.iload_n 12 i273_11 rfl rfl rfl ?_
    refine X.iadd 13 i273_12 rfl rfl (by omega) ?_
    refine X.lald 14 i273_13 rfl rfl (by decide) rfl (by omega) ?_
    have h509 := r45_287 hJ 4 (i := (287 + y1)) (by omega)
    refine X.lcmp 15 i273_14 rfl rfl (fun z510 hz510 => ?_)
    refine X.ifge 47 18 i273_15 rfl rfl rfl (fun h511 => ?_) (fun h511 => ?_)
    · have h511c : ¬ y3 < (m 4 45 (287 + y1)) := by omega
      clear h511 hz510
      refine X.cut [] i273_47 rfl ?_
      exact K47   (Eq.trans hR (Eq.trans (if_neg h511c) rfl))
    · have h511c : y3 < (m 4 45 (287 + y1)) := by omega
      clear h511 hz510
      refine X.aload_n 19 i273_18 rfl rfl rfl ?_
      refine X.getF 22 i273_19 rfl rfl (by decide) rfl rfl ?_
      refine X.sipush 25 i273_22 rfl rfl (by decide) ?_
      refine X.bipush 27 i273_25 rfl rfl (by decide) ?_
      refine X.iload_n 28 i273_27 rfl rfl rfl ?_
      refine X.imul 29 i273_28 rfl rfl (by omega) ?_
      refine X.iadd 30 i273_29 rfl rfl (by omega) ?_
      refine X.iload_n 31 i273_30 rfl rfl rfl ?_
      refine X.iadd 32 i273_31 rfl rfl (by omega) ?_
      refine X.lald 33 i273_32 rfl rfl (by decide) rfl (by omega) ?_
      have h512 := r45_295 hJ 4 (i := ((295 + (6 * y1)) + y3)) (by omega)
      refine X.iload_n 34 i273_33 rfl rfl rfl ?_
      refine X.i2l 35 i273_34 rfl rfl ?_
      refine X.lcmp 36 i273_35 rfl rfl (fun z513 hz513 => ?_)
      refine X.ifne 41 39 i273_36 rfl rfl rfl (fun h514 => ?_) (fun h514 => ?_)
      · have h514c : ¬ (m 4 45 ((295 + (6 * y1)) + y3)) = y2 := by omega
        clear h514 hz513
        refine X.iinc 44 [(0, zr 4 44), (1, zi y1), (2, zi y2), (3, zi (y3 + 1))] i273_41 rfl rfl rfl (by omega) rfl ?_
        refine X.goto 2 i273_44 rfl rfl ?_
        exact ih (y3 + 1) (by omega) (by omega) (Eq.trans hR (Eq.trans (if_pos h511c) (Eq.trans (if_neg h514c) rfl)))
      · have h514c : (m 4 45 ((295 + (6 * y1)) + y3)) = y2 := by omega
        clear h514 hz513
        exact K39 y3 (by first | trivial | omega) (Eq.trans hR (Eq.trans (if_pos h511c) (Eq.trans (if_pos h514c) rfl)))
-- WorkMeterModel.isSwitch
noncomputable def f273_1 (a1 a2 : Int) (m : zM) : Int :=
  fl273_2_1 (fun y501 =>
  1) (0) a1 a2 m (zfu 7) 0
-- WorkMeterModel.isSwitch
theorem c273_1 {s : Nat × (Nat → Int32)} {S : zS} {m0 m : zM} {B : Int} {d : Nat} {Q : Option zV → zM → Prop} (a1 a2 : Int) (hd : 13 ≤ d) (hJ : J S m0 B m) (hB : B + 0 ≤ 1000000000) (ha1 : 0 ≤ a1 ∧ a1 ≤ 7) (ha2 : 0 ≤ a2 ∧ a2 ≤ 86340) (hQ : ∀ (v : Int), (0 ≤ v ∧ v ≤ 1) → f273_1 a1 a2 m = v → Q (some (zi v)) m) : X (EE s) d 273 0 [(0, zr 4 44), (1, zi a1), (2, zi a2)] [] m Q := by
  refine X.iconst 1 i273_0 rfl rfl (by decide) ?_
  refine X.istore_n 2 [(0, zr 4 44), (1, zi a1), (2, zi a2), (3, zi 0)] i273_1 rfl rfl rfl ?_
  have hz7 := zfu_eq 7
  refine l273_2_1 (s := s) (m := m) (B := B) (d := d) (R0 := (f273_1 a1 a2 m))  a1 a2  (by omega) (hJ.up (by omega)) (by omega) (by omega) (by omega) (fun y501 hby501 hR505 => ?_) (fun  hR509 => ?_) (zfu 7) 0 (by omega) (by omega) rfl
  · refine X.iconst 40 i273_39 rfl rfl (by decide) ?_
    refine X.retz i273_40 rfl t273 (by omega) ?_
    exact hQ 1 (by first | trivial | omega) (Eq.trans hR505 rfl) 
  · refine X.iconst 48 i273_47 rfl rfl (by decide) ?_
    refine X.retz i273_48 rfl t273 (by omega) ?_
    exact hQ 0 (by first | trivial | omega) (Eq.trans hR509 rfl) 
noncomputable def fl269_40_1_b (self : zM → zM) (k175 : zM → zM) (y1 : Int) (m : zM) : zM :=
  if (m 4 44 9) = 0 then
  (zb (f271_1 m) fun v562 m560 =>
  if v562 = 0 then
  (k175 m560)
  else
  (zb (f270_1 0 23 m560) fun v566 m564 =>
  zs (if (m564 4 44 9) = 0 then
  (if (m564 4 45 (287 + y1)) = 6 then
  (zs (f268_1 4 (m564 4 44 10) m564) fun m573 =>
  m573)
  else
  (m564))
  else
  (m564)) fun m577 =>
  zs (f272_1 58 m577) fun m581 =>
  zb (f270_1 0 59 m581) fun v586 m584 =>
  zs (if (m584 4 44 9) = 0 then
  (zn (f273_1 y1 ((3600 * v566) + (60 * v586)) m584) fun v591 =>
  if v591 = 0 then
  (m584)
  else
  (zs (f268_1 3 (m584 4 44 10) m584) fun m594 =>
  m594))
  else
  (m584)) fun m598 =>
  zb (f270_1 0 3 m598) fun v604 m602 =>
  zs (if (m602 4 44 9) = 0 then
  (zb (f243_1 y1 ((3600 * v566) + (60 * v586)) v604 m602) fun v609 m607 =>
  m607)
  else
  (m602)) fun m611 =>
  self m611))
  else
  (k175 m)
noncomputable def fl269_40_1 (k175 : zM → zM) (y1 : Int) : Nat → zM → zM
  | 0 => fun m => m
  | n + 1 => fl269_40_1_b (fl269_40_1 k175 y1 n) k175 y1
theorem l269_40_1 {s : Nat × (Nat → Int32)} {S : zS} {m0 : zM} {d : Nat} {Q : Option zV → zM → Prop} {R0 : zM} {k175 : zM → zM} (y1 : Int) (c8 c9 : Int) (BE : Int) (hE : BE ≤ 1000000000) (hd : 15 ≤ d) (hy1 : 0 ≤ y1 ∧ y1 ≤ 7) (hf1 : ¬ S.1 1) (hf16 : ¬ S.1 16) (hf19 : ¬ S.1 19) (hg4 : ¬ S.2.1 4)
    (K175 : ∀ (m' : zM) (B' : Int), J S m0 B' m' → B' ≤ BE → (c8 ≤ m' 4 44 8) → (c9 ≤ m' 4 44 9) → R0 = k175 m' → X (EE s) d 269 175 [] [] m' Q) :
    ∀ (n : Nat) (m : zM) (B : Int), J S m0 B m → B + 0 * (n : Int) ≤ BE → (c8 ≤ m 4 44 8) → (c9 ≤ m 4 44 9) → 604 - m 4 44 8 - 302 * m 4 44 9 < (n : Int) → R0 = fl269_40_1 k175 y1 n m → X (EE s) d 269 40 [(0, zr 4 44), (1, zi y1)] [] m Q := by
  intro n
  induction n with
  | zero =>
    intro  m B hJ hB hr0 hr1 hn hR
    have zf0 := r44_8 hJ 4
    have zf1 := r44_9 hJ 4
    exfalso
    omega
  | succ n ih =>
    intro  m B hJ hB hr0 hr1 hn hR
    replace hR : R0 = fl269_40_1_b (fl269_40_1 k175 y1 n) k175 y1 m := hR
    refine X.aload_n 41 i269_40 rfl rfl rfl ?_
    refine X.getZ 44 9 i269_41 rfl rfl (by decide) rfl rfl rfl (fun h558 => ?_)
    refine X.ifne 175 47 i269_44 rfl rfl rfl (fun h559 => ?_) (fun h559 => ?_)
    · refine X.cut [] i269_175 rfl ?_
      exact K175  m (B) (hJ.up (by omega)) (by omega) (by omega) (by omega) (Eq.trans hR (Eq.trans (if_neg h559) rfl))
    · refine X.aload_n 48 i269_47 rfl rfl rfl ?_
      refine X.callv 51 [] [] [(0, zr 4 44)] i269_48 rfl (by decide) rfl rfl (by omega) rfl rfl (by decide) rfl t271 (Nat.le_of_ble_eq_true rfl) (Nat.le_of_ble_eq_true rfl) rfl ?_
      refine c271_1 (B := B)   (by omega) (hJ.up (by omega)) (by omega)  hf19 hg4 (fun v562 m560 hv562 hFv562 hJ561 hqv562_0 hqv562_1 => ?_)
      show X (EE s) d 269 51 [(0, zr 4 44), (1, zi y1)] [zi v562] m560 _
      refine X.ifeq 175 54 i269_51 rfl rfl rfl (fun h563 => ?_) (fun h563 => ?_)
      · refine X.cut [] i269_175 rfl ?_
        exact K175  m560 (B) (hJ561.up (by omega)) (by omega) (by omega) (by omega) (Eq.trans hR (Eq.trans (if_pos h559) (Eq.trans (zb_eq hFv562) (Eq.trans (if_pos h563) rfl))))
      · refine X.aload_n 55 i269_54 rfl rfl rfl ?_
        refine X.iconst 56 i269_55 rfl rfl (by decide) ?_
        refine X.bipush 58 i269_56 rfl rfl (by decide) ?_
        refine X.callv 61 [zi 0, zi 23] [] [(0, zr 4 44), (1, zi 0), (2, zi 23)] i269_58 rfl (by decide) rfl rfl (by omega) rfl rfl (by decide) rfl t270 (Nat.le_of_ble_eq_true rfl) (Nat.le_of_ble_eq_true rfl) rfl ?_
        refine c270_1 (B := B)  0 23 (by omega) (hJ561.up (by omega)) (by omega) (by omega) (by omega) hf16 hf19 hg4 (fun v566 m564 hv566 hFv566 hJ565 hqv566_0 hqv566_1 hqv566_2 hqv566_3 => ?_)
        show X (EE s) d 269 61 [(0, zr 4 44), (1, zi y1)] [zi v566] m564 _
        refine X.istore_n 62 [(0, zr 4 44), (1, zi y1), (2, zi v566)] i269_61 rfl rfl rfl ?_
        refine X.aload_n 63 i269_62 rfl rfl rfl ?_
        refine X.getZ 66 9 i269_63 rfl rfl (by decide) rfl rfl rfl (fun h567 => ?_)
        have hK579 : ∀ (m' : zM), (if (m564 4 44 9) = 0 then
            (if (m564 4 45 (287 + y1)) = 6 then
            (zs (f268_1 4 (m564 4 44 10) m564) fun m573 =>
            m573)
            else
            (m564))
            else
            (m564)) = m' → J S m0 (B) m' → X (EE s) d 269 95 [(0, zr 4 44), (1, zi y1), (2, zi v566)] [] m' Q := by
          intro m577 hT580 hJ578
          refine X.aload_n 96 i269_95 rfl rfl rfl ?_
          refine X.bipush 98 i269_96 rfl rfl (by decide) ?_
          refine X.callv 101 [zi 58] [] [(0, zr 4 44), (1, zi 58)] i269_98 rfl (by decide) rfl rfl (by omega) rfl rfl (by decide) rfl t272 (Nat.le_of_ble_eq_true rfl) (Nat.le_of_ble_eq_true rfl) rfl ?_
          refine c272_1 (B := B)  58 (by omega) (hJ578.up (by omega)) (by omega) (by omega) hf16 hf19 hg4 (fun m581 hFv583 hJ582 hqv583_0 hqv583_1 hqv583_2 => ?_)
          show X (EE s) d 269 101 [(0, zr 4 44), (1, zi y1), (2, zi v566)] [] m581 _
          refine X.aload_n 102 i269_101 rfl rfl rfl ?_
          refine X.iconst 103 i269_102 rfl rfl (by decide) ?_
          refine X.bipush 105 i269_103 rfl rfl (by decide) ?_
          refine X.callv 108 [zi 0, zi 59] [] [(0, zr 4 44), (1, zi 0), (2, zi 59)] i269_105 rfl (by decide) rfl rfl (by omega) rfl rfl (by decide) rfl t270 (Nat.le_of_ble_eq_true rfl) (Nat.le_of_ble_eq_true rfl) rfl ?_
          refine c270_1 (B := B)  0 59 (by omega) (hJ582.up (by omega)) (by omega) (by omega) (by omega) hf16 hf19 hg4 (fun v586 m584 hv586 hFv586 hJ585 hqv586_0 hqv586_1 hqv586_2 hqv586_3 => ?_)
          show X (EE s) d 269 108 [(0, zr 4 44), (1, zi y1), (2, zi v566)] [zi v586] m584 _
          refine X.istore_n 109 [(0, zr 4 44), (1, zi y1), (2, zi v566), (3, zi v586)] i269_108 rfl rfl rfl ?_
          refine X.sipush 112 i269_109 rfl rfl (by decide) ?_
          refine X.iload_n 113 i269_112 rfl rfl rfl ?_
          refine X.imul 114 i269_113 rfl rfl (by omega) ?_
          refine X.bipush 116 i269_114 rfl rfl (by decide) ?_
          refine X.iload_n 117 i269_116 rfl rfl rfl ?_
          refine X.imul 118 i269_117 rfl rfl (by omega) ?_
          refine X.iadd 119 i269_118 rfl rfl (by omega) ?_
          refine X.istore 121 [(0, zr 4 44), (1, zi y1), (2, zi v566), (3, zi v586), (4, zi ((3600 * v566) + (60 * v586)))] i269_119 rfl rfl rfl ?_
          refine X.aload_n 122 i269_121 rfl rfl rfl ?_
          refine X.getZ 125 9 i269_122 rfl rfl (by decide) rfl rfl rfl (fun h587 => ?_)
          have hK600 : ∀ (m' : zM), (if (m584 4 44 9) = 0 then
              (zn (f273_1 y1 ((3600 * v566) + (60 * v586)) m584) fun v591 =>
              if v591 = 0 then
              (m584)
              else
              (zs (f268_1 3 (m584 4 44 10) m584) fun m594 =>
              m594))
              else
              (m584)) = m' → J S m0 (B) m' → X (EE s) d 269 147 [(0, zr 4 44), (1, zi y1), (4, zi ((3600 * v566) + (60 * v586)))] [] m' Q := by
            intro m598 hT601 hJ599
            refine X.aload_n 148 i269_147 rfl rfl rfl ?_
            refine X.iconst 149 i269_148 rfl rfl (by decide) ?_
            refine X.iconst 150 i269_149 rfl rfl (by decide) ?_
            refine X.callv 153 [zi 0, zi 3] [] [(0, zr 4 44), (1, zi 0), (2, zi 3)] i269_150 rfl (by decide) rfl rfl (by omega) rfl rfl (by decide) rfl t270 (Nat.le_of_ble_eq_true rfl) (Nat.le_of_ble_eq_true rfl) rfl ?_
            refine c270_1 (B := B)  0 3 (by omega) (hJ599.up (by omega)) (by omega) (by omega) (by omega) hf16 hf19 hg4 (fun v604 m602 hv604 hFv604 hJ603 hqv604_0 hqv604_1 hqv604_2 hqv604_3 => ?_)
            show X (EE s) d 269 153 [(0, zr 4 44), (1, zi y1), (4, zi ((3600 * v566) + (60 * v586)))] [zi v604] m602 _
            refine X.istore 155 [(0, zr 4 44), (1, zi y1), (4, zi ((3600 * v566) + (60 * v586))), (5, zi v604)] i269_153 rfl rfl rfl ?_
            refine X.aload_n 156 i269_155 rfl rfl rfl ?_
            refine X.getZ 159 9 i269_156 rfl rfl (by decide) rfl rfl rfl (fun h605 => ?_)
            have hK613 : ∀ (m' : zM), (if (m602 4 44 9) = 0 then
                (zb (f243_1 y1 ((3600 * v566) + (60 * v586)) v604 m602) fun v609 m607 =>
                m607)
                else
                (m602)) = m' → J S m0 (B) m' → X (EE s) d 269 172 [(0, zr 4 44), (1, zi y1)] [] m' Q := by
              intro m611 hT614 hJ612
              refine X.goto 40 i269_172 rfl rfl ?_
              exact ih  m611 (B) (hJ612.up (by omega)) (by omega) (by omega) (by omega) (by omega) (Eq.trans hR (Eq.trans (if_pos h559) (Eq.trans (zb_eq hFv562) (Eq.trans (if_neg h563) (Eq.trans (zb_eq hFv566) (Eq.trans (zs_eq hT580.symm) (Eq.trans (zs_eq hFv583.symm) (Eq.trans (zb_eq hFv586) (Eq.trans (zs_eq hT601.symm) (Eq.trans (zb_eq hFv604) (Eq.trans (zs_eq hT614.symm) rfl)))))))))))
            refine X.ifne 172 162 i269_159 rfl rfl rfl (fun h606 => ?_) (fun h606 => ?_)
            · refine X.cut [(0, zr 4 44), (1, zi y1)] i269_172 rfl ?_
              exact hK613 m602 (Eq.trans (if_neg h606) rfl) (hJ603.up (by omega))
            · refine X.aload_n 163 i269_162 rfl rfl rfl ?_
              refine X.iload_n 164 i269_163 rfl rfl rfl ?_
              refine X.iload 166 i269_164 rfl rfl rfl ?_
              refine X.iload 168 i269_166 rfl rfl rfl ?_
              refine X.callv 171 [zi y1, zi ((3600 * v566) + (60 * v586)), zi v604] [] [(0, zr 4 44), (1, zi y1), (2, zi ((3600 * v566) + (60 * v586))), (3, zi v604)] i269_168 rfl (by decide) rfl rfl (by omega) rfl rfl (by decide) rfl t243 (Nat.le_of_ble_eq_true rfl) (Nat.le_of_ble_eq_true rfl) rfl ?_
              refine c243_1 (B := B)  y1 ((3600 * v566) + (60 * v586)) v604 (by omega) (hJ603.up (by omega)) (by omega) (by omega) (by omega) (by omega) hf1 hg4 (fun v609 m607 hv609 hFv609 hJ608 hqv609_0 hqv609_1 => ?_)
              show X (EE s) d 269 171 [(0, zr 4 44), (1, zi y1), (4, zi ((3600 * v566) + (60 * v586))), (5, zi v604)] [zi v609] m607 _
              refine X.pop 172 i269_171 rfl rfl rfl ?_
              refine X.cut [(0, zr 4 44), (1, zi y1)] i269_172 rfl ?_
              exact hK613 m607 (Eq.trans (if_pos h606) (Eq.trans (zb_eq hFv609) rfl)) (hJ608.up (by omega))
          refine X.ifne 147 128 i269_125 rfl rfl rfl (fun h588 => ?_) (fun h588 => ?_)
          · refine X.cut [(0, zr 4 44), (1, zi y1), (4, zi ((3600 * v566) + (60 * v586)))] i269_147 rfl ?_
            exact hK600 m584 (Eq.trans (if_neg h588) rfl) (hJ585.up (by omega))
          · refine X.aload_n 129 i269_128 rfl rfl rfl ?_
            refine X.iload_n 130 i269_129 rfl rfl rfl ?_
            refine X.iload 132 i269_130 rfl rfl rfl ?_
            refine X.callv 135 [zi y1, zi ((3600 * v566) + (60 * v586))] [] [(0, zr 4 44), (1, zi y1), (2, zi ((3600 * v566) + (60 * v586)))] i269_132 rfl (by decide) rfl rfl (by omega) rfl rfl (by decide) rfl t273 (Nat.le_of_ble_eq_true rfl) (Nat.le_of_ble_eq_true rfl) rfl ?_
            refine c273_1 (B := B)  y1 ((3600 * v566) + (60 * v586)) (by omega) (hJ585.up (by omega)) (by omega) (by omega) (by omega) (fun v591 hv591 hFv591 => ?_)
            show X (EE s) d 269 135 [(0, zr 4 44), (1, zi y1), (2, zi v566), (3, zi v586), (4, zi ((3600 * v566) + (60 * v586)))] [zi v591] m584 _
            refine X.ifeq 147 138 i269_135 rfl rfl rfl (fun h592 => ?_) (fun h592 => ?_)
            · refine X.cut [(0, zr 4 44), (1, zi y1), (4, zi ((3600 * v566) + (60 * v586)))] i269_147 rfl ?_
              exact hK600 m584 (Eq.trans (if_pos h588) (Eq.trans (zn_eq hFv591.symm) (Eq.trans (if_pos h592) rfl))) (hJ585.up (by omega))
            · refine X.aload_n 139 i269_138 rfl rfl rfl ?_
              refine X.iconst 140 i269_139 rfl rfl (by decide) ?_
              refine X.aload_n 141 i269_140 rfl rfl rfl ?_
              refine X.getIr 144 10 i269_141 rfl rfl (by decide) rfl rfl rfl (fun h593 => ?_)
              refine X.callv 147 [zi 3, zi (m584 4 44 10)] [] [(0, zr 4 44), (1, zi 3), (2, zi (m584 4 44 10))] i269_144 rfl (by decide) rfl rfl (by omega) rfl rfl (by decide) rfl t268 (Nat.le_of_ble_eq_true rfl) (Nat.le_of_ble_eq_true rfl) rfl ?_
              refine c268_5 (B := B)  3 (m584 4 44 10) (by omega) (hJ585.up (by omega)) (by omega) (by omega) (by omega) hf16 hf19 hg4 (fun m594 hFv596 hJ595 hqv596_0 hqv596_1 hqv596_2 => ?_)
              show X (EE s) d 269 147 [(0, zr 4 44), (1, zi y1), (2, zi v566), (3, zi v586), (4, zi ((3600 * v566) + (60 * v586)))] [] m594 _
              refine X.cut [(0, zr 4 44), (1, zi y1), (4, zi ((3600 * v566) + (60 * v586)))] i269_147 rfl ?_
              exact hK600 m594 (Eq.trans (if_pos h588) (Eq.trans (zn_eq hFv591.symm) (Eq.trans (if_neg h592) (Eq.trans (zs_eq hFv596.symm) rfl)))) (hJ595.up (by omega))
        refine X.ifne 95 69 i269_66 rfl rfl rfl (fun h568 => ?_) (fun h568 => ?_)
        · exact hK579 m564 (Eq.trans (if_neg h568) rfl) (hJ565.up (by omega))
        · refine X.aload_n 70 i269_69 rfl rfl rfl ?_
          refine X.getF 73 i269_70 rfl rfl (by decide) rfl rfl ?_
          refine X.sipush 76 i269_73 rfl rfl (by decide) ?_
          refine X.iload_n 77 i269_76 rfl rfl rfl ?_
          refine X.iadd 78 i269_77 rfl rfl (by omega) ?_
          refine X.lald 79 i269_78 rfl rfl (by decide) rfl (by omega) ?_
          have h569 := r45_287 hJ565 4 (i := (287 + y1)) (by omega)
          refine X.ldc2 82 i269_79 rfl rfl (by decide) ?_
          refine X.lcmp 83 i269_82 rfl rfl (fun z570 hz570 => ?_)
          refine X.ifne 95 86 i269_83 rfl rfl rfl (fun h571 => ?_) (fun h571 => ?_)
          · have h571c : ¬ (m564 4 45 (287 + y1)) = 6 := by omega
            clear h571 hz570
            exact hK579 m564 (Eq.trans (if_pos h568) (Eq.trans (if_neg h571c) rfl)) (hJ565.up (by omega))
          · have h571c : (m564 4 45 (287 + y1)) = 6 := by omega
            clear h571 hz570
            refine X.aload_n 87 i269_86 rfl rfl rfl ?_
            refine X.iconst 88 i269_87 rfl rfl (by decide) ?_
            refine X.aload_n 89 i269_88 rfl rfl rfl ?_
            refine X.getIr 92 10 i269_89 rfl rfl (by decide) rfl rfl rfl (fun h572 => ?_)
            refine X.callv 95 [zi 4, zi (m564 4 44 10)] [] [(0, zr 4 44), (1, zi 4), (2, zi (m564 4 44 10))] i269_92 rfl (by decide) rfl rfl (by omega) rfl rfl (by decide) rfl t268 (Nat.le_of_ble_eq_true rfl) (Nat.le_of_ble_eq_true rfl) rfl ?_
            refine c268_6 (B := B)  4 (m564 4 44 10) (by omega) (hJ565.up (by omega)) (by omega) (by omega) (by omega) hf16 hf19 hg4 (fun m573 hFv575 hJ574 hqv575_0 hqv575_1 hqv575_2 => ?_)
            show X (EE s) d 269 95 [(0, zr 4 44), (1, zi y1), (2, zi v566)] [] m573 _
            exact hK579 m573 (Eq.trans (if_pos h568) (Eq.trans (if_pos h571c) (Eq.trans (zs_eq hFv575.symm) rfl))) (hJ574.up (by omega))
-- WorkMeterModel.tableLine
noncomputable def f269_1 (m : zM) : zM :=
  zb (f270_1 0 7 m) fun v503 m501 =>
  zs (if (m501 4 44 9) = 0 then
  (if (m501 4 49 v503) = 0 then
  (m501)
  else
  (zs (f268_1 3 (m501 4 44 10) m501) fun m509 =>
  m509))
  else
  (m501)) fun m513 =>
  zs (z_upd m513 4 49 v503 1) fun m517 =>
  fl269_40_1 (fun m519 =>
  m519) v503 (zfu 605) m517
-- WorkMeterModel.tableLine
theorem c269_1 {s : Nat × (Nat → Int32)} {S : zS} {m0 m : zM} {B : Int} {d : Nat} {Q : Option zV → zM → Prop} (hd : 15 ≤ d) (hJ : J S m0 B m) (hB : B + 0 ≤ 1000000000) (hf1 : ¬ S.1 1) (hf16 : ¬ S.1 16) (hf19 : ¬ S.1 19) (hg4 : ¬ S.2.1 4) (hQ : ∀ m', f269_1 m = m' → J S m0 (B) m' → (m 4 44 8 ≤ m' 4 44 8) → (m 4 44 9 ≤ m' 4 44 9) → Q none m') : X (EE s) d 269 0 [(0, zr 4 44)] [] m Q := by
  refine X.aload_n 1 i269_0 rfl rfl rfl ?_
  refine X.iconst 2 i269_1 rfl rfl (by decide) ?_
  refine X.bipush 4 i269_2 rfl rfl (by decide) ?_
  refine X.callv 7 [zi 0, zi 7] [] [(0, zr 4 44), (1, zi 0), (2, zi 7)] i269_4 rfl (by decide) rfl rfl (by omega) rfl rfl (by decide) rfl t270 (Nat.le_of_ble_eq_true rfl) (Nat.le_of_ble_eq_true rfl) rfl ?_
  refine c270_1 (B := B)  0 7 (by omega) (hJ.up (by omega)) (by omega) (by omega) (by omega) hf16 hf19 hg4 (fun v503 m501 hv503 hFv503 hJ502 hqv503_0 hqv503_1 hqv503_2 hqv503_3 => ?_)
  show X (EE s) d 269 7 [(0, zr 4 44)] [zi v503] m501 _
  refine X.istore_n 8 [(0, zr 4 44), (1, zi v503)] i269_7 rfl rfl rfl ?_
  refine X.aload_n 9 i269_8 rfl rfl rfl ?_
  refine X.getZ 12 9 i269_9 rfl rfl (by decide) rfl rfl rfl (fun h504 => ?_)
  have hK515 : ∀ (m' : zM), (if (m501 4 44 9) = 0 then
      (if (m501 4 49 v503) = 0 then
      (m501)
      else
      (zs (f268_1 3 (m501 4 44 10) m501) fun m509 =>
      m509))
      else
      (m501)) = m' → J S m0 (B) m' → X (EE s) d 269 33 [(0, zr 4 44), (1, zi v503)] [] m' Q := by
    intro m513 hT516 hJ514
    refine X.aload_n 34 i269_33 rfl rfl rfl ?_
    refine X.getF 37 i269_34 rfl rfl (by decide) rfl rfl ?_
    refine X.iload_n 38 i269_37 rfl rfl rfl ?_
    refine X.iconst 39 i269_38 rfl rfl (by decide) ?_
    refine X.zast' 40 i269_39 rfl rfl (by decide) rfl (by omega) (by omega) (fun hrm517 m517 hm517 => ?_)
    have hJ518 := w49_0 hJ514 hm517 (by omega) hrm517 hf19 hg4
    have wmm517_8 : m517 4 44 8 = m513 4 44 8 := by rw [hm517]; exact z_upd_o _ _ rfl
    have wmm517_9 : m517 4 44 9 = m513 4 44 9 := by rw [hm517]; exact z_upd_o _ _ rfl
    have wmm517_10 : m517 4 44 10 = m513 4 44 10 := by rw [hm517]; exact z_upd_o _ _ rfl
    have hz605 := zfu_eq 605
    refine l269_40_1 (s := s) (d := d) (R0 := (f269_1 m))  v503 (m517 4 44 8) (m517 4 44 9) (BE := B + 0) (by omega) (by omega) (by omega) hf1 hf16 hf19 hg4 (fun  m519 B520 hJ521 hBB520 hrlm519_0 hrlm519_1 hR522 => ?_) (zfu 605)  m517 (B) (hJ518.up (by omega)) (by omega) (by omega) (by omega) (by omega) (Eq.trans (zb_eq hFv503) (Eq.trans (zs_eq hT516.symm) (Eq.trans (zs_eq hm517) rfl)))
    refine X.retv i269_175 rfl t269 ?_
    exact hQ  m519  (Eq.trans hR522 rfl) (hJ521.up (by omega)) (by omega) (by omega)
  refine X.ifne 33 15 i269_12 rfl rfl rfl (fun h505 => ?_) (fun h505 => ?_)
  · exact hK515 m501 (Eq.trans (if_neg h505) rfl) (hJ502.up (by omega))
  · refine X.aload_n 16 i269_15 rfl rfl rfl ?_
    refine X.getF 19 i269_16 rfl rfl (by decide) rfl rfl ?_
    refine X.iload_n 20 i269_19 rfl rfl rfl ?_
    refine X.zald 21 i269_20 rfl rfl (by decide) rfl (by omega) (fun h506 => ?_)
    refine X.ifeq 33 24 i269_21 rfl rfl rfl (fun h507 => ?_) (fun h507 => ?_)
    · exact hK515 m501 (Eq.trans (if_pos h505) (Eq.trans (if_pos h507) rfl)) (hJ502.up (by omega))
    · refine X.aload_n 25 i269_24 rfl rfl rfl ?_
      refine X.iconst 26 i269_25 rfl rfl (by decide) ?_
      refine X.aload_n 27 i269_26 rfl rfl rfl ?_
      refine X.getIr 30 10 i269_27 rfl rfl (by decide) rfl rfl rfl (fun h508 => ?_)
      refine X.callv 33 [zi 3, zi (m501 4 44 10)] [] [(0, zr 4 44), (1, zi 3), (2, zi (m501 4 44 10))] i269_30 rfl (by decide) rfl rfl (by omega) rfl rfl (by decide) rfl t268 (Nat.le_of_ble_eq_true rfl) (Nat.le_of_ble_eq_true rfl) rfl ?_
      refine c268_5 (B := B)  3 (m501 4 44 10) (by omega) (hJ502.up (by omega)) (by omega) (by omega) (by omega) hf16 hf19 hg4 (fun m509 hFv511 hJ510 hqv511_0 hqv511_1 hqv511_2 => ?_)
      show X (EE s) d 269 33 [(0, zr 4 44), (1, zi v503)] [] m509 _
      exact hK515 m509 (Eq.trans (if_pos h505) (Eq.trans (if_neg h507) (Eq.trans (zs_eq hFv511.symm) rfl))) (hJ510.up (by omega))
noncomputable def fl274_60_1_b (self : Int → zM → zM) (k95 : zM → zM) (y1 : Int) (y2 : Int) (m : zM) : zM :=
  if 7 ≤ y2 then
  (k95 m)
  else
  (zb (f270_1 0 7 m) fun v510 m508 =>
  zs (z_upd m508 4 45 ((395 + (7 * y1)) + y2) v510) fun m511 =>
  self (y2 + 1) m511)
noncomputable def fl274_60_1 (k95 : zM → zM) (y1 : Int) : Nat → Int → zM → zM
  | 0 => fun y2 m => m
  | n + 1 => fl274_60_1_b (fl274_60_1 k95 y1 n) k95 y1
theorem l274_60_1 {s : Nat × (Nat → Int32)} {S : zS} {m0 : zM} {d : Nat} {Q : Option zV → zM → Prop} {R0 : zM} {k95 : zM → zM} (y1 : Int) (c8 c9 : Int) (BE : Int) (hE : BE ≤ 1000000000) (hd : 15 ≤ d) (hy1 : 0 ≤ y1 ∧ y1 ≤ 3) (hf1 : ¬ S.1 1) (hf16 : ¬ S.1 16) (hf19 : ¬ S.1 19) (hg4 : ¬ S.2.1 4)
    (K95 : ∀ (m' : zM) (B' : Int), J S m0 B' m' → B' ≤ BE → (c8 ≤ m' 4 44 8) → (c9 ≤ m' 4 44 9) → R0 = k95 m' → X (EE s) d 274 95 [] [] m' Q) :
    ∀ (n : Nat) (y2 : Int) (m : zM) (B : Int), J S m0 B m → B + 0 * (n : Int) ≤ BE → (0 ≤ y2 ∧ y2 ≤ 7) → (c8 ≤ m 4 44 8) → (c9 ≤ m 4 44 9) → 7 - y2 < (n : Int) → R0 = fl274_60_1 k95 y1 n y2 m → X (EE s) d 274 60 [(0, zr 4 44), (1, zi y1), (2, zi y2)] [] m Q := by
  intro n
  induction n with
  | zero =>
    intro y2 m B hJ hB hy2 hr0 hr1 hn hR
    exfalso
    omega
  | succ n ih =>
    intro y2 m B hJ hB hy2 hr0 hr1 hn hR
    replace hR : R0 = fl274_60_1_b (fl274_60_1 k95 y1 n) k95 y1 y2 m := hR
    refine X.iload_n 61 i274_60 rfl rfl rfl ?_
    refine X.bipush 63 i274_61 rfl rfl (by decide) ?_
    refine X.icmpge 95 66 i274_63 rfl rfl rfl (fun h507 => ?_) (fun h507 => ?_)
    · refine X.cut [] i274_95 rfl ?_
      exact K95  m (B) (hJ.up (by omega)) (by omega) (by omega) (by omega) (Eq.trans hR (Eq.trans (if_pos h507) rfl))
    · refine X.aload_n 67 i274_66 rfl rfl rfl ?_
      refine X.getF 70 i274_67 rfl rfl (by decide) rfl rfl ?_
      refine X.sipush 73 i274_70 rfl rfl (by decide) ?_
      refine X.bipush 75 i274_73 rfl rfl (by decide) ?_
      refine X.iload_n 76 i274_75 rfl rfl rfl ?_
      refine X.imul 77 i274_76 rfl rfl (by omega) ?_
      refine X.iadd 78 i274_77 rfl rfl (by omega) ?_
      refine X.iload_n 79 i274_78 rfl rfl rfl ?_
      refine X.iadd 80 i274_79 rfl rfl (by omega) ?_
      refine X.aload_n 81 i274_80 rfl rfl rfl ?_
      refine X.iconst 82 i274_81 rfl rfl (by decide) ?_
      refine X.bipush 84 i274_82 rfl rfl (by decide) ?_
      refine X.callv 87 [zi 0, zi 7] [zi ((395 + (7 * y1)) + y2), zr 4 45] [(0, zr 4 44), (1, zi 0), (2, zi 7)] i274_84 rfl (by decide) rfl rfl (by omega) rfl rfl (by decide) rfl t270 (Nat.le_of_ble_eq_true rfl) (Nat.le_of_ble_eq_true rfl) rfl ?_
      refine c270_1 (B := B)  0 7 (by omega) (hJ.up (by omega)) (by omega) (by omega) (by omega) hf16 hf19 hg4 (fun v510 m508 hv510 hFv510 hJ509 hqv510_0 hqv510_1 hqv510_2 hqv510_3 => ?_)
      show X (EE s) d 274 87 [(0, zr 4 44), (1, zi y1), (2, zi y2)] [zi v510, zi ((395 + (7 * y1)) + y2), zr 4 45] m508 _
      refine X.i2l 88 i274_87 rfl rfl ?_
      refine X.last' 89 i274_88 rfl rfl (by decide) rfl (by omega) (fun hrm511 m511 hm511 => ?_)
      have hJ512 := w45_395 hJ509 hm511 (by omega) (by omega) hf1 hg4
      have wmm511_8 : m511 4 44 8 = m508 4 44 8 := by rw [hm511]; exact z_upd_o _ _ rfl
      have wmm511_9 : m511 4 44 9 = m508 4 44 9 := by rw [hm511]; exact z_upd_o _ _ rfl
      have wmm511_10 : m511 4 44 10 = m508 4 44 10 := by rw [hm511]; exact z_upd_o _ _ rfl
      refine X.iinc 92 [(0, zr 4 44), (1, zi y1), (2, zi (y2 + 1))] i274_89 rfl rfl rfl (by omega) rfl ?_
      refine X.goto 60 i274_92 rfl rfl ?_
      exact ih (y2 + 1) m511 (B) (hJ512.up (by omega)) (by omega) (by omega) (by omega) (by omega) (by omega) (Eq.trans hR (Eq.trans (if_neg h507) (Eq.trans (zb_eq hFv510) (Eq.trans (zs_eq hm511) rfl))))
-- WorkMeterModel.seasonLine
noncomputable def f274_1 (m : zM) : zM :=
  zb (f270_1 0 3 m) fun v503 m501 =>
  zs (if (m501 4 44 9) = 0 then
  (if (m501 4 50 v503) = 0 then
  (m501)
  else
  (zs (f268_1 3 (m501 4 44 10) m501) fun m509 =>
  m509))
  else
  (m501)) fun m513 =>
  zs (z_upd m513 4 50 v503 1) fun m517 =>
  zb (f270_1 0 364 m517) fun v521 m519 =>
  zs (z_upd m519 4 45 (391 + v503) v521) fun m522 =>
  fl274_60_1 (fun m524 =>
  m524) v503 (zfu 8) 0 m522
-- WorkMeterModel.seasonLine
theorem c274_1 {s : Nat × (Nat → Int32)} {S : zS} {m0 m : zM} {B : Int} {d : Nat} {Q : Option zV → zM → Prop} (hd : 15 ≤ d) (hJ : J S m0 B m) (hB : B + 0 ≤ 1000000000) (hf1 : ¬ S.1 1) (hf16 : ¬ S.1 16) (hf19 : ¬ S.1 19) (hg4 : ¬ S.2.1 4) (hQ : ∀ m', f274_1 m = m' → J S m0 (B) m' → (m 4 44 8 ≤ m' 4 44 8) → (m 4 44 9 ≤ m' 4 44 9) → Q none m') : X (EE s) d 274 0 [(0, zr 4 44)] [] m Q := by
  refine X.aload_n 1 i274_0 rfl rfl rfl ?_
  refine X.iconst 2 i274_1 rfl rfl (by decide) ?_
  refine X.iconst 3 i274_2 rfl rfl (by decide) ?_
  refine X.callv 6 [zi 0, zi 3] [] [(0, zr 4 44), (1, zi 0), (2, zi 3)] i274_3 rfl (by decide) rfl rfl (by omega) rfl rfl (by decide) rfl t270 (Nat.le_of_ble_eq_true rfl) (Nat.le_of_ble_eq_true rfl) rfl ?_
  refine c270_1 (B := B)  0 3 (by omega) (hJ.up (by omega)) (by omega) (by omega) (by omega) hf16 hf19 hg4 (fun v503 m501 hv503 hFv503 hJ502 hqv503_0 hqv503_1 hqv503_2 hqv503_3 => ?_)
  show X (EE s) d 274 6 [(0, zr 4 44)] [zi v503] m501 _
  refine X.istore_n 7 [(0, zr 4 44), (1, zi v503)] i274_6 rfl rfl rfl ?_
  refine X.aload_n 8 i274_7 rfl rfl rfl ?_
  refine X.getZ 11 9 i274_8 rfl rfl (by decide) rfl rfl rfl (fun h504 => ?_)
  have hK515 : ∀ (m' : zM), (if (m501 4 44 9) = 0 then
      (if (m501 4 50 v503) = 0 then
      (m501)
      else
      (zs (f268_1 3 (m501 4 44 10) m501) fun m509 =>
      m509))
      else
      (m501)) = m' → J S m0 (B) m' → X (EE s) d 274 32 [(0, zr 4 44), (1, zi v503)] [] m' Q := by
    intro m513 hT516 hJ514
    refine X.aload_n 33 i274_32 rfl rfl rfl ?_
    refine X.getF 36 i274_33 rfl rfl (by decide) rfl rfl ?_
    refine X.iload_n 37 i274_36 rfl rfl rfl ?_
    refine X.iconst 38 i274_37 rfl rfl (by decide) ?_
    refine X.zast' 39 i274_38 rfl rfl (by decide) rfl (by omega) (by omega) (fun hrm517 m517 hm517 => ?_)
    have hJ518 := w50_0 hJ514 hm517 (by omega) hrm517 hf19 hg4
    have wmm517_8 : m517 4 44 8 = m513 4 44 8 := by rw [hm517]; exact z_upd_o _ _ rfl
    have wmm517_9 : m517 4 44 9 = m513 4 44 9 := by rw [hm517]; exact z_upd_o _ _ rfl
    have wmm517_10 : m517 4 44 10 = m513 4 44 10 := by rw [hm517]; exact z_upd_o _ _ rfl
    refine X.aload_n 40 i274_39 rfl rfl rfl ?_
    refine X.getF 43 i274_40 rfl rfl (by decide) rfl rfl ?_
    refine X.sipush 46 i274_43 rfl rfl (by decide) ?_
    refine X.iload_n 47 i274_46 rfl rfl rfl ?_
    refine X.iadd 48 i274_47 rfl rfl (by omega) ?_
    refine X.aload_n 49 i274_48 rfl rfl rfl ?_
    refine X.iconst 50 i274_49 rfl rfl (by decide) ?_
    refine X.sipush 53 i274_50 rfl rfl (by decide) ?_
    refine X.callv 56 [zi 0, zi 364] [zi (391 + v503), zr 4 45] [(0, zr 4 44), (1, zi 0), (2, zi 364)] i274_53 rfl (by decide) rfl rfl (by omega) rfl rfl (by decide) rfl t270 (Nat.le_of_ble_eq_true rfl) (Nat.le_of_ble_eq_true rfl) rfl ?_
    refine c270_1 (B := B)  0 364 (by omega) (hJ518.up (by omega)) (by omega) (by omega) (by omega) hf16 hf19 hg4 (fun v521 m519 hv521 hFv521 hJ520 hqv521_0 hqv521_1 hqv521_2 hqv521_3 => ?_)
    show X (EE s) d 274 56 [(0, zr 4 44), (1, zi v503)] [zi v521, zi (391 + v503), zr 4 45] m519 _
    refine X.i2l 57 i274_56 rfl rfl ?_
    refine X.last' 58 i274_57 rfl rfl (by decide) rfl (by omega) (fun hrm522 m522 hm522 => ?_)
    have hJ523 := w45_391 hJ520 hm522 (by omega) (by omega) hf1 hg4
    have wmm522_8 : m522 4 44 8 = m519 4 44 8 := by rw [hm522]; exact z_upd_o _ _ rfl
    have wmm522_9 : m522 4 44 9 = m519 4 44 9 := by rw [hm522]; exact z_upd_o _ _ rfl
    have wmm522_10 : m522 4 44 10 = m519 4 44 10 := by rw [hm522]; exact z_upd_o _ _ rfl
    refine X.iconst 59 i274_58 rfl rfl (by decide) ?_
    refine X.istore_n 60 [(0, zr 4 44), (1, zi v503), (2, zi 0)] i274_59 rfl rfl rfl ?_
    have hz8 := zfu_eq 8
    refine l274_60_1 (s := s) (d := d) (R0 := (f274_1 m))  v503 (m522 4 44 8) (m522 4 44 9) (BE := B + 0) (by omega) (by omega) (by omega) hf1 hf16 hf19 hg4 (fun  m524 B525 hJ526 hBB525 hrlm524_0 hrlm524_1 hR527 => ?_) (zfu 8) 0 m522 (B) (hJ523.up (by omega)) (by omega) (by omega) (by omega) (by omega) (by omega) (Eq.trans (zb_eq hFv503) (Eq.trans (zs_eq hT516.symm) (Eq.trans (zs_eq hm517) (Eq.trans (zb_eq hFv521) (Eq.trans (zs_eq hm522) rfl)))))
    refine X.retv i274_95 rfl t274 ?_
    exact hQ  m524  (Eq.trans hR527 rfl) (hJ526.up (by omega)) (by omega) (by omega)
  refine X.ifne 32 14 i274_11 rfl rfl rfl (fun h505 => ?_) (fun h505 => ?_)
  · exact hK515 m501 (Eq.trans (if_neg h505) rfl) (hJ502.up (by omega))
  · refine X.aload_n 15 i274_14 rfl rfl rfl ?_
    refine X.getF 18 i274_15 rfl rfl (by decide) rfl rfl ?_
    refine X.iload_n 19 i274_18 rfl rfl rfl ?_
    refine X.zald 20 i274_19 rfl rfl (by decide) rfl (by omega) (fun h506 => ?_)
    refine X.ifeq 32 23 i274_20 rfl rfl rfl (fun h507 => ?_) (fun h507 => ?_)
    · exact hK515 m501 (Eq.trans (if_pos h505) (Eq.trans (if_pos h507) rfl)) (hJ502.up (by omega))
    · refine X.aload_n 24 i274_23 rfl rfl rfl ?_
      refine X.iconst 25 i274_24 rfl rfl (by decide) ?_
      refine X.aload_n 26 i274_25 rfl rfl rfl ?_
      refine X.getIr 29 10 i274_26 rfl rfl (by decide) rfl rfl rfl (fun h508 => ?_)
      refine X.callv 32 [zi 3, zi (m501 4 44 10)] [] [(0, zr 4 44), (1, zi 3), (2, zi (m501 4 44 10))] i274_29 rfl (by decide) rfl rfl (by omega) rfl rfl (by decide) rfl t268 (Nat.le_of_ble_eq_true rfl) (Nat.le_of_ble_eq_true rfl) rfl ?_
      refine c268_5 (B := B)  3 (m501 4 44 10) (by omega) (hJ502.up (by omega)) (by omega) (by omega) (by omega) hf16 hf19 hg4 (fun m509 hFv511 hJ510 hqv511_0 hqv511_1 hqv511_2 => ?_)
      show X (EE s) d 274 32 [(0, zr 4 44), (1, zi v503)] [] m509 _
      exact hK515 m509 (Eq.trans (if_pos h505) (Eq.trans (if_neg h507) (Eq.trans (zs_eq hFv511.symm) rfl))) (hJ510.up (by omega))
-- WorkMeterModel.specialLine
noncomputable def f275_1 (m : zM) : zM :=
  zb (f270_1 0 364 m) fun v503 m501 =>
  zs (if (m501 4 44 9) = 0 then
  (if (m501 4 45 (423 + v503)) = (-1) then
  (m501)
  else
  (zs (f268_1 3 (m501 4 44 10) m501) fun m510 =>
  m510))
  else
  (m501)) fun m514 =>
  zb (f270_1 0 7 m514) fun v520 m518 =>
  zs (z_upd m518 4 45 (423 + v503) v520) fun m521 =>
  m521
-- WorkMeterModel.specialLine
theorem c275_1 {s : Nat × (Nat → Int32)} {S : zS} {m0 m : zM} {B : Int} {d : Nat} {Q : Option zV → zM → Prop} (hd : 15 ≤ d) (hJ : J S m0 B m) (hB : B + 0 ≤ 1000000000) (hf1 : ¬ S.1 1) (hf16 : ¬ S.1 16) (hf19 : ¬ S.1 19) (hg4 : ¬ S.2.1 4) (hQ : ∀ m', f275_1 m = m' → J S m0 (B) m' → (m 4 44 8 ≤ m' 4 44 8) → (m 4 44 9 ≤ m' 4 44 9) → Q none m') : X (EE s) d 275 0 [(0, zr 4 44)] [] m Q := by
  refine X.aload_n 1 i275_0 rfl rfl rfl ?_
  refine X.iconst 2 i275_1 rfl rfl (by decide) ?_
  refine X.sipush 5 i275_2 rfl rfl (by decide) ?_
  refine X.callv 8 [zi 0, zi 364] [] [(0, zr 4 44), (1, zi 0), (2, zi 364)] i275_5 rfl (by decide) rfl rfl (by omega) rfl rfl (by decide) rfl t270 (Nat.le_of_ble_eq_true rfl) (Nat.le_of_ble_eq_true rfl) rfl ?_
  refine c270_1 (B := B)  0 364 (by omega) (hJ.up (by omega)) (by omega) (by omega) (by omega) hf16 hf19 hg4 (fun v503 m501 hv503 hFv503 hJ502 hqv503_0 hqv503_1 hqv503_2 hqv503_3 => ?_)
  show X (EE s) d 275 8 [(0, zr 4 44)] [zi v503] m501 _
  refine X.istore_n 9 [(0, zr 4 44), (1, zi v503)] i275_8 rfl rfl rfl ?_
  refine X.aload_n 10 i275_9 rfl rfl rfl ?_
  refine X.getZ 13 9 i275_10 rfl rfl (by decide) rfl rfl rfl (fun h504 => ?_)
  have hK516 : ∀ (m' : zM), (if (m501 4 44 9) = 0 then
      (if (m501 4 45 (423 + v503)) = (-1) then
      (m501)
      else
      (zs (f268_1 3 (m501 4 44 10) m501) fun m510 =>
      m510))
      else
      (m501)) = m' → J S m0 (B) m' → X (EE s) d 275 42 [(0, zr 4 44), (1, zi v503)] [] m' Q := by
    intro m514 hT517 hJ515
    refine X.aload_n 43 i275_42 rfl rfl rfl ?_
    refine X.getF 46 i275_43 rfl rfl (by decide) rfl rfl ?_
    refine X.sipush 49 i275_46 rfl rfl (by decide) ?_
    refine X.iload_n 50 i275_49 rfl rfl rfl ?_
    refine X.iadd 51 i275_50 rfl rfl (by omega) ?_
    refine X.aload_n 52 i275_51 rfl rfl rfl ?_
    refine X.iconst 53 i275_52 rfl rfl (by decide) ?_
    refine X.bipush 55 i275_53 rfl rfl (by decide) ?_
    refine X.callv 58 [zi 0, zi 7] [zi (423 + v503), zr 4 45] [(0, zr 4 44), (1, zi 0), (2, zi 7)] i275_55 rfl (by decide) rfl rfl (by omega) rfl rfl (by decide) rfl t270 (Nat.le_of_ble_eq_true rfl) (Nat.le_of_ble_eq_true rfl) rfl ?_
    refine c270_1 (B := B)  0 7 (by omega) (hJ515.up (by omega)) (by omega) (by omega) (by omega) hf16 hf19 hg4 (fun v520 m518 hv520 hFv520 hJ519 hqv520_0 hqv520_1 hqv520_2 hqv520_3 => ?_)
    show X (EE s) d 275 58 [(0, zr 4 44), (1, zi v503)] [zi v520, zi (423 + v503), zr 4 45] m518 _
    refine X.i2l 59 i275_58 rfl rfl ?_
    refine X.last' 60 i275_59 rfl rfl (by decide) rfl (by omega) (fun hrm521 m521 hm521 => ?_)
    have hJ522 := w45_423 hJ519 hm521 (by omega) (by omega) hf1 hg4
    have wmm521_8 : m521 4 44 8 = m518 4 44 8 := by rw [hm521]; exact z_upd_o _ _ rfl
    have wmm521_9 : m521 4 44 9 = m518 4 44 9 := by rw [hm521]; exact z_upd_o _ _ rfl
    have wmm521_10 : m521 4 44 10 = m518 4 44 10 := by rw [hm521]; exact z_upd_o _ _ rfl
    refine X.retv i275_60 rfl t275 ?_
    exact hQ  m521  (Eq.trans (zb_eq hFv503) (Eq.trans (zs_eq hT517.symm) (Eq.trans (zb_eq hFv520) (Eq.trans (zs_eq hm521) rfl)))) (hJ522.up (by omega)) (by omega) (by omega)
  refine X.ifne 42 16 i275_13 rfl rfl rfl (fun h505 => ?_) (fun h505 => ?_)
  · exact hK516 m501 (Eq.trans (if_neg h505) rfl) (hJ502.up (by omega))
  · refine X.aload_n 17 i275_16 rfl rfl rfl ?_
    refine X.getF 20 i275_17 rfl rfl (by decide) rfl rfl ?_
    refine X.sipush 23 i275_20 rfl rfl (by decide) ?_
    refine X.iload_n 24 i275_23 rfl rfl rfl ?_
    refine X.iadd 25 i275_24 rfl rfl (by omega) ?_
    refine X.lald 26 i275_25 rfl rfl (by decide) rfl (by omega) ?_
    have h506 := r45_423 hJ502 4 (i := (423 + v503)) (by omega)
    refine X.ldc2 29 i275_26 rfl rfl (by decide) ?_
    refine X.lcmp 30 i275_29 rfl rfl (fun z507 hz507 => ?_)
    refine X.ifeq 42 33 i275_30 rfl rfl rfl (fun h508 => ?_) (fun h508 => ?_)
    · have h508c : (m501 4 45 (423 + v503)) = (-1) := by omega
      clear h508 hz507
      exact hK516 m501 (Eq.trans (if_pos h505) (Eq.trans (if_pos h508c) rfl)) (hJ502.up (by omega))
    · have h508c : ¬ (m501 4 45 (423 + v503)) = (-1) := by omega
      clear h508 hz507
      refine X.aload_n 34 i275_33 rfl rfl rfl ?_
      refine X.iconst 35 i275_34 rfl rfl (by decide) ?_
      refine X.aload_n 36 i275_35 rfl rfl rfl ?_
      refine X.getIr 39 10 i275_36 rfl rfl (by decide) rfl rfl rfl (fun h509 => ?_)
      refine X.callv 42 [zi 3, zi (m501 4 44 10)] [] [(0, zr 4 44), (1, zi 3), (2, zi (m501 4 44 10))] i275_39 rfl (by decide) rfl rfl (by omega) rfl rfl (by decide) rfl t268 (Nat.le_of_ble_eq_true rfl) (Nat.le_of_ble_eq_true rfl) rfl ?_
      refine c268_5 (B := B)  3 (m501 4 44 10) (by omega) (hJ502.up (by omega)) (by omega) (by omega) (by omega) hf16 hf19 hg4 (fun m510 hFv512 hJ511 hqv512_0 hqv512_1 hqv512_2 => ?_)
      show X (EE s) d 275 42 [(0, zr 4 44), (1, zi v503)] [] m510 _
      exact hK516 m510 (Eq.trans (if_pos h505) (Eq.trans (if_neg h508c) (Eq.trans (zs_eq hFv512.symm) rfl))) (hJ511.up (by omega))
-- WorkMeterModel.must
theorem c272_2 {s : Nat × (Nat → Int32)} {S : zS} {m0 m : zM} {B : Int} {d : Nat} {Q : Option zV → zM → Prop} (a1 : Int) (hd : 14 ≤ d) (hJ : J S m0 B m) (hB : B + 0 ≤ 1000000000) (ha1 : 59 ≤ a1 ∧ a1 ≤ 59) (hf16 : ¬ S.1 16) (hf19 : ¬ S.1 19) (hg4 : ¬ S.2.1 4) (hQ : ∀ m', f272_1 a1 m = m' → J S m0 (B) m' → (m' 4 44 9 = 1 ∨ m 4 44 8 < m' 4 44 8) → (m 4 44 8 ≤ m' 4 44 8) → (m 4 44 9 ≤ m' 4 44 9) → Q none m') : X (EE s) d 272 0 [(0, zr 4 44), (1, zi a1)] [] m Q := by
  refine X.aload_n 1 i272_0 rfl rfl rfl ?_
  refine X.callv 4 [] [] [(0, zr 4 44)] i272_1 rfl (by decide) rfl rfl (by omega) rfl rfl (by decide) rfl t263 (Nat.le_of_ble_eq_true rfl) (Nat.le_of_ble_eq_true rfl) rfl ?_
  refine c263_1 (B := B)   (by omega) (hJ.up (by omega)) (by omega)  hf19 hg4 (fun m501 hFv503 hJ502 hqv503_0 hqv503_1 => ?_)
  show X (EE s) d 272 4 [(0, zr 4 44), (1, zi a1)] [] m501 _
  refine X.aload_n 5 i272_4 rfl rfl rfl ?_
  refine X.getI 8 8 i272_5 rfl rfl (by decide) rfl rfl rfl ?_
  have h504 := r44_8 hJ502 4
  refine X.aload_n 9 i272_8 rfl rfl rfl ?_
  refine X.getI 12 5 i272_9 rfl rfl (by decide) rfl rfl rfl ?_
  have h505 := r44_5 hJ502 4
  have hK520 : ∀ (m' : zM), (if (m501 4 44 5) ≤ (m501 4 44 8) then
      (zs (f268_1 1 (m501 4 44 8) m501) fun m507 =>
      m507)
      else
      (if (m501 4 48 (m501 4 44 8)) = a1 then
      (zs (z_upd m501 4 44 8 ((m501 4 44 8) + 1)) fun m515 =>
      m515)
      else
      (zs (f268_1 1 (m501 4 44 8) m501) fun m512 =>
      m512))) = m' → J S m0 (B) m' → X (EE s) d 272 50 [] [] m' Q := by
    intro m518 hT521 hJ519
    refine X.retv i272_50 rfl t272 ?_
    exact hQ  m518  (Eq.trans (zs_eq hFv503.symm) (Eq.trans (zs_eq hT521.symm) rfl)) (hJ519.up (by omega)) (by omega) (by omega) (by omega)
  refine X.icmpge 41 15 i272_12 rfl rfl rfl (fun h506 => ?_) (fun h506 => ?_)
  · refine X.cut [(0, zr 4 44)] i272_41 rfl ?_
    refine X.aload_n 42 i272_41 rfl rfl rfl ?_
    refine X.iconst 43 i272_42 rfl rfl (by decide) ?_
    refine X.aload_n 44 i272_43 rfl rfl rfl ?_
    refine X.getI 47 8 i272_44 rfl rfl (by decide) rfl rfl rfl ?_
    refine X.callv 50 [zi 1, zi (m501 4 44 8)] [] [(0, zr 4 44), (1, zi 1), (2, zi (m501 4 44 8))] i272_47 rfl (by decide) rfl rfl (by omega) rfl rfl (by decide) rfl t268 (Nat.le_of_ble_eq_true rfl) (Nat.le_of_ble_eq_true rfl) rfl ?_
    refine c268_1 (B := B)  1 (m501 4 44 8) (by omega) (hJ502.up (by omega)) (by omega) (by omega) (by omega) hf16 hf19 hg4 (fun m507 hFv509 hJ508 hqv509_0 hqv509_1 hqv509_2 => ?_)
    show X (EE s) d 272 50 [(0, zr 4 44)] [] m507 _
    refine X.cut [] i272_50 rfl ?_
    exact hK520 m507 (Eq.trans (if_pos h506) (Eq.trans (zs_eq hFv509.symm) rfl)) (hJ508.up (by omega))
  · refine X.aload_n 16 i272_15 rfl rfl rfl ?_
    refine X.getF 19 i272_16 rfl rfl (by decide) rfl rfl ?_
    refine X.aload_n 20 i272_19 rfl rfl rfl ?_
    refine X.getI 23 8 i272_20 rfl rfl (by decide) rfl rfl rfl ?_
    refine X.bald 24 i272_23 rfl rfl (by decide) rfl (by omega) (fun h510 => ?_)
    refine X.iload_n 25 i272_24 rfl rfl rfl ?_
    refine X.icmpne 41 28 i272_25 rfl rfl rfl (fun h511 => ?_) (fun h511 => ?_)
    · refine X.cut [(0, zr 4 44)] i272_41 rfl ?_
      refine X.aload_n 42 i272_41 rfl rfl rfl ?_
      refine X.iconst 43 i272_42 rfl rfl (by decide) ?_
      refine X.aload_n 44 i272_43 rfl rfl rfl ?_
      refine X.getI 47 8 i272_44 rfl rfl (by decide) rfl rfl rfl ?_
      refine X.callv 50 [zi 1, zi (m501 4 44 8)] [] [(0, zr 4 44), (1, zi 1), (2, zi (m501 4 44 8))] i272_47 rfl (by decide) rfl rfl (by omega) rfl rfl (by decide) rfl t268 (Nat.le_of_ble_eq_true rfl) (Nat.le_of_ble_eq_true rfl) rfl ?_
      refine c268_1 (B := B)  1 (m501 4 44 8) (by omega) (hJ502.up (by omega)) (by omega) (by omega) (by omega) hf16 hf19 hg4 (fun m512 hFv514 hJ513 hqv514_0 hqv514_1 hqv514_2 => ?_)
      show X (EE s) d 272 50 [(0, zr 4 44)] [] m512 _
      refine X.cut [] i272_50 rfl ?_
      exact hK520 m512 (Eq.trans (if_neg h506) (Eq.trans (if_neg h511) (Eq.trans (zs_eq hFv514.symm) rfl))) (hJ513.up (by omega))
    · refine X.aload_n 29 i272_28 rfl rfl rfl ?_
      refine X.dup 30 i272_29 rfl rfl rfl ?_
      refine X.getI 33 8 i272_30 rfl rfl (by decide) rfl rfl rfl ?_
      refine X.iconst 34 i272_33 rfl rfl (by decide) ?_
      refine X.iadd 35 i272_34 rfl rfl (by omega) ?_
      refine X.putI' 38 8 i272_35 rfl rfl (by decide) rfl rfl rfl (fun hrm515 m515 hm515 => ?_)
      have hJ516 := w44_8 hJ502 hm515 (by omega) hf19 hg4
      have em515 : m515 4 44 8 = ((m501 4 44 8) + 1) := by rw [hm515]; exact z_upd_same _ _ _ _ _
      have wmm515_9 : m515 4 44 9 = m501 4 44 9 := by rw [hm515]; exact z_upd_o _ _ rfl
      have wmm515_10 : m515 4 44 10 = m501 4 44 10 := by rw [hm515]; exact z_upd_o _ _ rfl
      refine X.goto 50 i272_38 rfl rfl ?_
      refine X.cut [] i272_50 rfl ?_
      exact hK520 m515 (Eq.trans (if_neg h506) (Eq.trans (if_pos h511) (Eq.trans (zs_eq hm515) rfl))) (hJ516.up (by omega))
noncomputable def fl264_123_1_b (self : Int → zM → zM) (k151 : zM → zM) (y3 : Int) (m : zM) : zM :=
  if 4 ≤ y3 then
  (k151 m)
  else
  (zb (f270_1 0 100 m) fun v510 m508 =>
  zs (z_upd m508 4 45 (28 + y3) v510) fun m511 =>
  self (y3 + 1) m511)
noncomputable def fl264_123_1 (k151 : zM → zM) : Nat → Int → zM → zM
  | 0 => fun y3 m => m
  | n + 1 => fl264_123_1_b (fl264_123_1 k151 n) k151
theorem l264_123_1 {s : Nat × (Nat → Int32)} {S : zS} {m0 : zM} {d : Nat} {Q : Option zV → zM → Prop} {R0 : zM} {k151 : zM → zM} (c8 c9 : Int) (BE : Int) (hE : BE ≤ 1000000000) (hd : 15 ≤ d) (hf3 : ¬ S.1 3) (hf16 : ¬ S.1 16) (hf19 : ¬ S.1 19) (hg4 : ¬ S.2.1 4)
    (K151 : ∀ (m' : zM) (B' : Int), J S m0 B' m' → B' ≤ BE → (c8 ≤ m' 4 44 8) → (c9 ≤ m' 4 44 9) → R0 = k151 m' → X (EE s) d 264 151 [(0, zr 4 44)] [] m' Q) :
    ∀ (n : Nat) (y3 : Int) (m : zM) (B : Int), J S m0 B m → B + 0 * (n : Int) ≤ BE → (0 ≤ y3 ∧ y3 ≤ 4) → (c8 ≤ m 4 44 8) → (c9 ≤ m 4 44 9) → 4 - y3 < (n : Int) → R0 = fl264_123_1 k151 n y3 m → X (EE s) d 264 123 [(0, zr 4 44), (3, zi y3)] [] m Q := by
  intro n
  induction n with
  | zero =>
    intro y3 m B hJ hB hy3 hr0 hr1 hn hR
    exfalso
    omega
  | succ n ih =>
    intro y3 m B hJ hB hy3 hr0 hr1 hn hR
    replace hR : R0 = fl264_123_1_b (fl264_123_1 k151 n) k151 y3 m := hR
    refine X.iload_n 124 i264_123 rfl rfl rfl ?_
    refine X.iconst 125 i264_124 rfl rfl (by decide) ?_
    refine X.icmpge 151 128 i264_125 rfl rfl rfl (fun h507 => ?_) (fun h507 => ?_)
    · refine X.cut [(0, zr 4 44)] i264_151 rfl ?_
      exact K151  m (B) (hJ.up (by omega)) (by omega) (by omega) (by omega) (Eq.trans hR (Eq.trans (if_pos h507) rfl))
    · refine X.aload_n 129 i264_128 rfl rfl rfl ?_
      refine X.getF 132 i264_129 rfl rfl (by decide) rfl rfl ?_
      refine X.bipush 134 i264_132 rfl rfl (by decide) ?_
      refine X.iload_n 135 i264_134 rfl rfl rfl ?_
      refine X.iadd 136 i264_135 rfl rfl (by omega) ?_
      refine X.aload_n 137 i264_136 rfl rfl rfl ?_
      refine X.iconst 138 i264_137 rfl rfl (by decide) ?_
      refine X.bipush 140 i264_138 rfl rfl (by decide) ?_
      refine X.callv 143 [zi 0, zi 100] [zi (28 + y3), zr 4 45] [(0, zr 4 44), (1, zi 0), (2, zi 100)] i264_140 rfl (by decide) rfl rfl (by omega) rfl rfl (by decide) rfl t270 (Nat.le_of_ble_eq_true rfl) (Nat.le_of_ble_eq_true rfl) rfl ?_
      refine c270_1 (B := B)  0 100 (by omega) (hJ.up (by omega)) (by omega) (by omega) (by omega) hf16 hf19 hg4 (fun v510 m508 hv510 hFv510 hJ509 hqv510_0 hqv510_1 hqv510_2 hqv510_3 => ?_)
      show X (EE s) d 264 143 [(0, zr 4 44), (3, zi y3)] [zi v510, zi (28 + y3), zr 4 45] m508 _
      refine X.i2l 144 i264_143 rfl rfl ?_
      refine X.last' 145 i264_144 rfl rfl (by decide) rfl (by omega) (fun hrm511 m511 hm511 => ?_)
      have hJ512 := w45_28 hJ509 hm511 (by omega) (by omega) hf3 hg4
      have wmm511_8 : m511 4 44 8 = m508 4 44 8 := by rw [hm511]; exact z_upd_o _ _ rfl
      have wmm511_9 : m511 4 44 9 = m508 4 44 9 := by rw [hm511]; exact z_upd_o _ _ rfl
      have wmm511_10 : m511 4 44 10 = m508 4 44 10 := by rw [hm511]; exact z_upd_o _ _ rfl
      refine X.iinc 148 [(0, zr 4 44), (3, zi (y3 + 1))] i264_145 rfl rfl rfl (by omega) rfl ?_
      refine X.goto 123 i264_148 rfl rfl ?_
      exact ih (y3 + 1) m511 (B) (hJ512.up (by omega)) (by omega) (by omega) (by omega) (by omega) (by omega) (Eq.trans hR (Eq.trans (if_neg h507) (Eq.trans (zb_eq hFv510) (Eq.trans (zs_eq hm511) rfl))))
-- WorkMeterModel.line
noncomputable def f264_1 (m : zM) : zM :=
  zn (f265_1 m) fun v504 =>
  zs (if v504 = 0 then
  (zs (f268_1 1 (m 4 44 8) m) fun m506 =>
  m506)
  else
  (m)) fun m510 =>
  zs (if v504 = 3 then
  (if (m510 4 44 13) = 16 then
  (zs (f268_1 4 (m 4 44 8) m510) fun m517 =>
  m517)
  else
  (m510))
  else
  (m510)) fun m521 =>
  zs (if v504 = 4 then
  (if (m521 4 44 14) = 0 then
  (m521)
  else
  (zs (f268_1 3 (m 4 44 8) m521) fun m528 =>
  m528))
  else
  (m521)) fun m532 =>
  zn (f267_1 m532) fun v538 =>
  zs (z_upd m532 4 44 8 v538) fun m539 =>
  if (m539 4 44 9) = 0 then
  (zs (if v504 = 1 then
  (zs (f269_1 m539) fun m544 =>
  m544)
  else
  (m539)) fun m548 =>
  zs (if v504 = 2 then
  (zs (f274_1 m548) fun m553 =>
  m553)
  else
  (m548)) fun m557 =>
  zs (if v504 = 3 then
  (zn (w32 ((m557 4 44 13) + 1)) fun z563 =>
  zs (z_upd m557 4 44 13 z563) fun m564 =>
  zs (f275_1 m564) fun m566 =>
  m566)
  else
  (m557)) fun m570 =>
  if v504 = 4 then
  (zs (z_upd m570 4 44 14 1) fun m578 =>
  fl264_123_1 (fun m580 =>
  zs (f272_1 59 m580) fun m584 =>
  m584) (zfu 5) 0 m578)
  else
  (zs (f272_1 59 m570) fun m575 =>
  m575))
  else
  (m539)
-- WorkMeterModel.line
theorem c264_1 {s : Nat × (Nat → Int32)} {S : zS} {m0 m : zM} {B : Int} {d : Nat} {Q : Option zV → zM → Prop} (hd : 16 ≤ d) (hJ : J S m0 B m) (hB : B + 0 ≤ 1000000000) (hf1 : ¬ S.1 1) (hf3 : ¬ S.1 3) (hf16 : ¬ S.1 16) (hf19 : ¬ S.1 19) (hg4 : ¬ S.2.1 4) (hQ : ∀ m', f264_1 m = m' → J S m0 (B) m' → (m' 4 44 9 = 1 ∨ m 4 44 8 < m' 4 44 8) → (m 4 44 8 ≤ m' 4 44 8) → (m 4 44 9 ≤ m' 4 44 9) → Q none m') : X (EE s) d 264 0 [(0, zr 4 44)] [] m Q := by
  refine X.aload_n 1 i264_0 rfl rfl rfl ?_
  refine X.getI 4 8 i264_1 rfl rfl (by decide) rfl rfl rfl ?_
  have h501 := r44_8 hJ 4
  refine X.istore_n 5 [(0, zr 4 44), (1, zi (m 4 44 8))] i264_4 rfl rfl rfl ?_
  refine X.aload_n 6 i264_5 rfl rfl rfl ?_
  refine X.callv 9 [] [] [(0, zr 4 44)] i264_6 rfl (by decide) rfl rfl (by omega) rfl rfl (by decide) rfl t265 (Nat.le_of_ble_eq_true rfl) (Nat.le_of_ble_eq_true rfl) rfl ?_
  refine c265_1 (B := B)   (by omega) (hJ.up (by omega)) (by omega)  (fun v504 hv504 hFv504 => ?_)
  show X (EE s) d 264 9 [(0, zr 4 44), (1, zi (m 4 44 8))] [zi v504] m _
  refine X.istore_n 10 [(0, zr 4 44), (1, zi (m 4 44 8)), (2, zi v504)] i264_9 rfl rfl rfl ?_
  refine X.iload_n 11 i264_10 rfl rfl rfl ?_
  have hK512 : ∀ (m' : zM), (if v504 = 0 then
      (zs (f268_1 1 (m 4 44 8) m) fun m506 =>
      m506)
      else
      (m)) = m' → J S m0 (B) m' → X (EE s) d 264 20 [(0, zr 4 44), (1, zi (m 4 44 8)), (2, zi v504)] [] m' Q := by
    intro m510 hT513 hJ511
    refine X.iload_n 21 i264_20 rfl rfl rfl ?_
    refine X.iconst 22 i264_21 rfl rfl (by decide) ?_
    have hK523 : ∀ (m' : zM), (if v504 = 3 then
        (if (m510 4 44 13) = 16 then
        (zs (f268_1 4 (m 4 44 8) m510) fun m517 =>
        m517)
        else
        (m510))
        else
        (m510)) = m' → J S m0 (B) m' → X (EE s) d 264 40 [(0, zr 4 44), (1, zi (m 4 44 8)), (2, zi v504)] [] m' Q := by
      intro m521 hT524 hJ522
      refine X.iload_n 41 i264_40 rfl rfl rfl ?_
      refine X.iconst 42 i264_41 rfl rfl (by decide) ?_
      have hK534 : ∀ (m' : zM), (if v504 = 4 then
          (if (m521 4 44 14) = 0 then
          (m521)
          else
          (zs (f268_1 3 (m 4 44 8) m521) fun m528 =>
          m528))
          else
          (m521)) = m' → J S m0 (B) m' → X (EE s) d 264 58 [(0, zr 4 44), (2, zi v504)] [] m' Q := by
        intro m532 hT535 hJ533
        refine X.aload_n 59 i264_58 rfl rfl rfl ?_
        refine X.aload_n 60 i264_59 rfl rfl rfl ?_
        refine X.callv 63 [] [zr 4 44] [(0, zr 4 44)] i264_60 rfl (by decide) rfl rfl (by omega) rfl rfl (by decide) rfl t267 (Nat.le_of_ble_eq_true rfl) (Nat.le_of_ble_eq_true rfl) rfl ?_
        refine c267_1 (B := B)   (by omega) (hJ533.up (by omega)) (by omega)  (fun v538 hv538 hFv538 hqv538_0 => ?_)
        show X (EE s) d 264 63 [(0, zr 4 44), (2, zi v504)] [zi v538, zr 4 44] m532 _
        refine X.putI' 66 8 i264_63 rfl rfl (by decide) rfl rfl rfl (fun hrm539 m539 hm539 => ?_)
        have hJ540 := w44_8 hJ533 hm539 (by omega) hf19 hg4
        have em539 : m539 4 44 8 = v538 := by rw [hm539]; exact z_upd_same _ _ _ _ _
        have wmm539_9 : m539 4 44 9 = m532 4 44 9 := by rw [hm539]; exact z_upd_o _ _ rfl
        have wmm539_10 : m539 4 44 10 = m532 4 44 10 := by rw [hm539]; exact z_upd_o _ _ rfl
        refine X.aload_n 67 i264_66 rfl rfl rfl ?_
        refine X.getZ 70 9 i264_67 rfl rfl (by decide) rfl rfl rfl (fun h541 => ?_)
        refine X.ifeq 74 73 i264_70 rfl rfl rfl (fun h542 => ?_) (fun h542 => ?_)
        · refine X.iload_n 75 i264_74 rfl rfl rfl ?_
          refine X.iconst 76 i264_75 rfl rfl (by decide) ?_
          have hK550 : ∀ (m' : zM), (if v504 = 1 then
              (zs (f269_1 m539) fun m544 =>
              m544)
              else
              (m539)) = m' → J S m0 (B) m' → X (EE s) d 264 83 [(0, zr 4 44), (2, zi v504)] [] m' Q := by
            intro m548 hT551 hJ549
            refine X.iload_n 84 i264_83 rfl rfl rfl ?_
            refine X.iconst 85 i264_84 rfl rfl (by decide) ?_
            have hK559 : ∀ (m' : zM), (if v504 = 2 then
                (zs (f274_1 m548) fun m553 =>
                m553)
                else
                (m548)) = m' → J S m0 (B) m' → X (EE s) d 264 92 [(0, zr 4 44), (2, zi v504)] [] m' Q := by
              intro m557 hT560 hJ558
              refine X.iload_n 93 i264_92 rfl rfl rfl ?_
              refine X.iconst 94 i264_93 rfl rfl (by decide) ?_
              have hK572 : ∀ (m' : zM), (if v504 = 3 then
                  (zn (w32 ((m557 4 44 13) + 1)) fun z563 =>
                  zs (z_upd m557 4 44 13 z563) fun m564 =>
                  zs (f275_1 m564) fun m566 =>
                  m566)
                  else
                  (m557)) = m' → J S m0 (B) m' → X (EE s) d 264 111 [(0, zr 4 44), (2, zi v504)] [] m' Q := by
                intro m570 hT573 hJ571
                refine X.iload_n 112 i264_111 rfl rfl rfl ?_
                refine X.iconst 113 i264_112 rfl rfl (by decide) ?_
                refine X.icmpne 151 116 i264_113 rfl rfl rfl (fun h574 => ?_) (fun h574 => ?_)
                · refine X.cut [(0, zr 4 44)] i264_151 rfl ?_
                  refine X.aload_n 152 i264_151 rfl rfl rfl ?_
                  refine X.bipush 154 i264_152 rfl rfl (by decide) ?_
                  refine X.callv 157 [zi 59] [] [(0, zr 4 44), (1, zi 59)] i264_154 rfl (by decide) rfl rfl (by omega) rfl rfl (by decide) rfl t272 (Nat.le_of_ble_eq_true rfl) (Nat.le_of_ble_eq_true rfl) rfl ?_
                  refine c272_2 (B := B)  59 (by omega) (hJ571.up (by omega)) (by omega) (by omega) hf16 hf19 hg4 (fun m575 hFv577 hJ576 hqv577_0 hqv577_1 hqv577_2 => ?_)
                  show X (EE s) d 264 157 [(0, zr 4 44)] [] m575 _
                  refine X.retv i264_157 rfl t264 ?_
                  exact hQ  m575  (Eq.trans (zn_eq hFv504.symm) (Eq.trans (zs_eq hT513.symm) (Eq.trans (zs_eq hT524.symm) (Eq.trans (zs_eq hT535.symm) (Eq.trans (zn_eq hFv538.symm) (Eq.trans (zs_eq hm539) (Eq.trans (if_pos h542) (Eq.trans (zs_eq hT551.symm) (Eq.trans (zs_eq hT560.symm) (Eq.trans (zs_eq hT573.symm) (Eq.trans (if_neg h574) (Eq.trans (zs_eq hFv577.symm) rfl)))))))))))) (hJ576.up (by omega)) (by omega) (by omega) (by omega)
                · refine X.aload_n 117 i264_116 rfl rfl rfl ?_
                  refine X.iconst 118 i264_117 rfl rfl (by decide) ?_
                  refine X.putZ' 121 14 i264_118 rfl rfl (by decide) rfl rfl rfl (by omega) (fun hrm578 m578 hm578 => ?_)
                  have hJ579 := w44_14 hJ571 hm578 (by omega) hf19 hg4
                  have wmm578_8 : m578 4 44 8 = m570 4 44 8 := by rw [hm578]; exact z_upd_o _ _ rfl
                  have wmm578_9 : m578 4 44 9 = m570 4 44 9 := by rw [hm578]; exact z_upd_o _ _ rfl
                  have wmm578_10 : m578 4 44 10 = m570 4 44 10 := by rw [hm578]; exact z_upd_o _ _ rfl
                  refine X.iconst 122 i264_121 rfl rfl (by decide) ?_
                  refine X.istore_n 123 [(0, zr 4 44), (2, zi v504), (3, zi 0)] i264_122 rfl rfl rfl ?_
                  refine X.cut [(0, zr 4 44), (3, zi 0)] i264_123 rfl ?_
                  have hz5 := zfu_eq 5
                  refine l264_123_1 (s := s) (d := d) (R0 := (f264_1 m))   (m578 4 44 8) (m578 4 44 9) (BE := B + 0) (by omega) (by omega) hf3 hf16 hf19 hg4 (fun  m580 B581 hJ582 hBB581 hrlm580_0 hrlm580_1 hR583 => ?_) (zfu 5) 0 m578 (B) (hJ579.up (by omega)) (by omega) (by omega) (by omega) (by omega) (by omega) (Eq.trans (zn_eq hFv504.symm) (Eq.trans (zs_eq hT513.symm) (Eq.trans (zs_eq hT524.symm) (Eq.trans (zs_eq hT535.symm) (Eq.trans (zn_eq hFv538.symm) (Eq.trans (zs_eq hm539) (Eq.trans (if_pos h542) (Eq.trans (zs_eq hT551.symm) (Eq.trans (zs_eq hT560.symm) (Eq.trans (zs_eq hT573.symm) (Eq.trans (if_pos h574) (Eq.trans (zs_eq hm578) rfl))))))))))))
                  refine X.aload_n 152 i264_151 rfl rfl rfl ?_
                  refine X.bipush 154 i264_152 rfl rfl (by decide) ?_
                  refine X.callv 157 [zi 59] [] [(0, zr 4 44), (1, zi 59)] i264_154 rfl (by decide) rfl rfl (by omega) rfl rfl (by decide) rfl t272 (Nat.le_of_ble_eq_true rfl) (Nat.le_of_ble_eq_true rfl) rfl ?_
                  refine c272_2 (B := B581)  59 (by omega) (hJ582.up (by omega)) (by omega) (by omega) hf16 hf19 hg4 (fun m584 hFv586 hJ585 hqv586_0 hqv586_1 hqv586_2 => ?_)
                  show X (EE s) d 264 157 [(0, zr 4 44)] [] m584 _
                  refine X.retv i264_157 rfl t264 ?_
                  exact hQ  m584  (Eq.trans hR583 (Eq.trans (zs_eq hFv586.symm) rfl)) (hJ585.up (by omega)) (by omega) (by omega) (by omega)
              refine X.icmpne 111 97 i264_94 rfl rfl rfl (fun h561 => ?_) (fun h561 => ?_)
              · exact hK572 m557 (Eq.trans (if_neg h561) rfl) (hJ558.up (by omega))
              · refine X.aload_n 98 i264_97 rfl rfl rfl ?_
                refine X.dup 99 i264_98 rfl rfl rfl ?_
                refine X.getIr 102 13 i264_99 rfl rfl (by decide) rfl rfl rfl (fun h562 => ?_)
                refine X.iconst 103 i264_102 rfl rfl (by decide) ?_
                refine X.iaddW 104 i264_103 rfl rfl (fun z563 ez563 hz563 => ?_)
                refine X.putI' 107 13 i264_104 rfl rfl (by decide) rfl rfl rfl (fun hrm564 m564 hm564 => ?_)
                have hJ565 := w44_10 hJ558 hm564 (by omega) hrm564 hf19 hg4
                have wmm564_8 : m564 4 44 8 = m557 4 44 8 := by rw [hm564]; exact z_upd_o _ _ rfl
                have wmm564_9 : m564 4 44 9 = m557 4 44 9 := by rw [hm564]; exact z_upd_o _ _ rfl
                have wmm564_10 : m564 4 44 10 = m557 4 44 10 := by rw [hm564]; exact z_upd_o _ _ rfl
                refine X.aload_n 108 i264_107 rfl rfl rfl ?_
                refine X.callv 111 [] [] [(0, zr 4 44)] i264_108 rfl (by decide) rfl rfl (by omega) rfl rfl (by decide) rfl t275 (Nat.le_of_ble_eq_true rfl) (Nat.le_of_ble_eq_true rfl) rfl ?_
                refine c275_1 (B := B)   (by omega) (hJ565.up (by omega)) (by omega)  hf1 hf16 hf19 hg4 (fun m566 hFv568 hJ567 hqv568_0 hqv568_1 => ?_)
                show X (EE s) d 264 111 [(0, zr 4 44), (2, zi v504)] [] m566 _
                exact hK572 m566 (Eq.trans (if_pos h561) (Eq.trans (zn_eq ez563) (Eq.trans (zs_eq hm564) (Eq.trans (zs_eq hFv568.symm) rfl)))) (hJ567.up (by omega))
            refine X.icmpne 92 88 i264_85 rfl rfl rfl (fun h552 => ?_) (fun h552 => ?_)
            · exact hK559 m548 (Eq.trans (if_neg h552) rfl) (hJ549.up (by omega))
            · refine X.aload_n 89 i264_88 rfl rfl rfl ?_
              refine X.callv 92 [] [] [(0, zr 4 44)] i264_89 rfl (by decide) rfl rfl (by omega) rfl rfl (by decide) rfl t274 (Nat.le_of_ble_eq_true rfl) (Nat.le_of_ble_eq_true rfl) rfl ?_
              refine c274_1 (B := B)   (by omega) (hJ549.up (by omega)) (by omega)  hf1 hf16 hf19 hg4 (fun m553 hFv555 hJ554 hqv555_0 hqv555_1 => ?_)
              show X (EE s) d 264 92 [(0, zr 4 44), (2, zi v504)] [] m553 _
              exact hK559 m553 (Eq.trans (if_pos h552) (Eq.trans (zs_eq hFv555.symm) rfl)) (hJ554.up (by omega))
          refine X.icmpne 83 79 i264_76 rfl rfl rfl (fun h543 => ?_) (fun h543 => ?_)
          · exact hK550 m539 (Eq.trans (if_neg h543) rfl) (hJ540.up (by omega))
          · refine X.aload_n 80 i264_79 rfl rfl rfl ?_
            refine X.callv 83 [] [] [(0, zr 4 44)] i264_80 rfl (by decide) rfl rfl (by omega) rfl rfl (by decide) rfl t269 (Nat.le_of_ble_eq_true rfl) (Nat.le_of_ble_eq_true rfl) rfl ?_
            refine c269_1 (B := B)   (by omega) (hJ540.up (by omega)) (by omega)  hf1 hf16 hf19 hg4 (fun m544 hFv546 hJ545 hqv546_0 hqv546_1 => ?_)
            show X (EE s) d 264 83 [(0, zr 4 44), (2, zi v504)] [] m544 _
            exact hK550 m544 (Eq.trans (if_pos h543) (Eq.trans (zs_eq hFv546.symm) rfl)) (hJ545.up (by omega))
        · refine X.retv i264_73 rfl t264 ?_
          exact hQ  m539  (Eq.trans (zn_eq hFv504.symm) (Eq.trans (zs_eq hT513.symm) (Eq.trans (zs_eq hT524.symm) (Eq.trans (zs_eq hT535.symm) (Eq.trans (zn_eq hFv538.symm) (Eq.trans (zs_eq hm539) (Eq.trans (if_neg h542) rfl))))))) (hJ540.up (by omega)) (by omega) (by omega) (by omega)
      refine X.icmpne 58 45 i264_42 rfl rfl rfl (fun h525 => ?_) (fun h525 => ?_)
      · refine X.cut [(0, zr 4 44), (2, zi v504)] i264_58 rfl ?_
        exact hK534 m521 (Eq.trans (if_neg h525) rfl) (hJ522.up (by omega))
      · refine X.aload_n 46 i264_45 rfl rfl rfl ?_
        refine X.getZ 49 14 i264_46 rfl rfl (by decide) rfl rfl rfl (fun h526 => ?_)
        refine X.ifeq 58 52 i264_49 rfl rfl rfl (fun h527 => ?_) (fun h527 => ?_)
        · refine X.cut [(0, zr 4 44), (2, zi v504)] i264_58 rfl ?_
          exact hK534 m521 (Eq.trans (if_pos h525) (Eq.trans (if_pos h527) rfl)) (hJ522.up (by omega))
        · refine X.aload_n 53 i264_52 rfl rfl rfl ?_
          refine X.iconst 54 i264_53 rfl rfl (by decide) ?_
          refine X.iload_n 55 i264_54 rfl rfl rfl ?_
          refine X.callv 58 [zi 3, zi (m 4 44 8)] [] [(0, zr 4 44), (1, zi 3), (2, zi (m 4 44 8))] i264_55 rfl (by decide) rfl rfl (by omega) rfl rfl (by decide) rfl t268 (Nat.le_of_ble_eq_true rfl) (Nat.le_of_ble_eq_true rfl) rfl ?_
          refine c268_3 (B := B)  3 (m 4 44 8) (by omega) (hJ522.up (by omega)) (by omega) (by omega) (by omega) hf16 hf19 hg4 (fun m528 hFv530 hJ529 hqv530_0 hqv530_1 hqv530_2 => ?_)
          show X (EE s) d 264 58 [(0, zr 4 44), (1, zi (m 4 44 8)), (2, zi v504)] [] m528 _
          refine X.cut [(0, zr 4 44), (2, zi v504)] i264_58 rfl ?_
          exact hK534 m528 (Eq.trans (if_pos h525) (Eq.trans (if_neg h527) (Eq.trans (zs_eq hFv530.symm) rfl))) (hJ529.up (by omega))
    refine X.icmpne 40 25 i264_22 rfl rfl rfl (fun h514 => ?_) (fun h514 => ?_)
    · exact hK523 m510 (Eq.trans (if_neg h514) rfl) (hJ511.up (by omega))
    · refine X.aload_n 26 i264_25 rfl rfl rfl ?_
      refine X.getIr 29 13 i264_26 rfl rfl (by decide) rfl rfl rfl (fun h515 => ?_)
      refine X.bipush 31 i264_29 rfl rfl (by decide) ?_
      refine X.icmpne 40 34 i264_31 rfl rfl rfl (fun h516 => ?_) (fun h516 => ?_)
      · exact hK523 m510 (Eq.trans (if_pos h514) (Eq.trans (if_neg h516) rfl)) (hJ511.up (by omega))
      · refine X.aload_n 35 i264_34 rfl rfl rfl ?_
        refine X.iconst 36 i264_35 rfl rfl (by decide) ?_
        refine X.iload_n 37 i264_36 rfl rfl rfl ?_
        refine X.callv 40 [zi 4, zi (m 4 44 8)] [] [(0, zr 4 44), (1, zi 4), (2, zi (m 4 44 8))] i264_37 rfl (by decide) rfl rfl (by omega) rfl rfl (by decide) rfl t268 (Nat.le_of_ble_eq_true rfl) (Nat.le_of_ble_eq_true rfl) rfl ?_
        refine c268_2 (B := B)  4 (m 4 44 8) (by omega) (hJ511.up (by omega)) (by omega) (by omega) (by omega) hf16 hf19 hg4 (fun m517 hFv519 hJ518 hqv519_0 hqv519_1 hqv519_2 => ?_)
        show X (EE s) d 264 40 [(0, zr 4 44), (1, zi (m 4 44 8)), (2, zi v504)] [] m517 _
        exact hK523 m517 (Eq.trans (if_pos h514) (Eq.trans (if_pos h516) (Eq.trans (zs_eq hFv519.symm) rfl))) (hJ518.up (by omega))
  refine X.ifne 20 14 i264_11 rfl rfl rfl (fun h505 => ?_) (fun h505 => ?_)
  · exact hK512 m (Eq.trans (if_neg h505) rfl) (hJ.up (by omega))
  · refine X.aload_n 15 i264_14 rfl rfl rfl ?_
    refine X.iconst 16 i264_15 rfl rfl (by decide) ?_
    refine X.iload_n 17 i264_16 rfl rfl rfl ?_
    refine X.callv 20 [zi 1, zi (m 4 44 8)] [] [(0, zr 4 44), (1, zi 1), (2, zi (m 4 44 8))] i264_17 rfl (by decide) rfl rfl (by omega) rfl rfl (by decide) rfl t268 (Nat.le_of_ble_eq_true rfl) (Nat.le_of_ble_eq_true rfl) rfl ?_
    refine c268_1 (B := B)  1 (m 4 44 8) (by omega) (hJ.up (by omega)) (by omega) (by omega) (by omega) hf16 hf19 hg4 (fun m506 hFv508 hJ507 hqv508_0 hqv508_1 hqv508_2 => ?_)
    show X (EE s) d 264 20 [(0, zr 4 44), (1, zi (m 4 44 8)), (2, zi v504)] [] m506 _
    exact hK512 m506 (Eq.trans (if_pos h505) (Eq.trans (zs_eq hFv508.symm) rfl)) (hJ507.up (by omega))
noncomputable def fl260_55_1_b (self : Int → zM → Int × zM) (k87 : Int → zM → Int × zM) (y1 : Int) (m : zM) : Int × zM :=
  if (m 4 44 5) ≤ (m 4 44 8) then
  (k87 y1 m)
  else
  (if (m 4 44 9) = 0 then
  (zs (f264_1 m) fun m517 =>
  zs (f263_1 m517) fun m520 =>
  self (y1 + 1) m520)
  else
  (k87 y1 m))
noncomputable def fl260_55_1 (k87 : Int → zM → Int × zM) : Nat → Int → zM → Int × zM
  | 0 => fun y1 m => (0, m)
  | n + 1 => fl260_55_1_b (fl260_55_1 k87 n) k87
theorem l260_55_1 {s : Nat × (Nat → Int32)} {S : zS} {m0 : zM} {d : Nat} {Q : Option zV → zM → Prop} {R0 : Int × zM} {k87 : Int → zM → Int × zM} (BE : Int) (hE : BE ≤ 1000000000) (hd : 17 ≤ d) (hf1 : ¬ S.1 1) (hf3 : ¬ S.1 3) (hf16 : ¬ S.1 16) (hf19 : ¬ S.1 19) (hg4 : ¬ S.2.1 4)
    (K87 : ∀ (x1 : Int) (m' : zM) (B' : Int), J S m0 B' m' → B' ≤ BE → (0 ≤ x1 ∧ x1 ≤ 605) → (x1 ≤ m' 4 44 8 + 302 * m' 4 44 9) → R0 = k87 x1 m' → X (EE s) d 260 87 [(0, zr 4 44), (1, zi x1)] [] m' Q) :
    ∀ (n : Nat) (y1 : Int) (m : zM) (B : Int), J S m0 B m → B + 0 * (n : Int) ≤ BE → (0 ≤ y1 ∧ y1 ≤ 605) → (y1 ≤ m 4 44 8 + 302 * m 4 44 9) → 604 - m 4 44 8 - 302 * m 4 44 9 < (n : Int) → R0 = fl260_55_1 k87 n y1 m → X (EE s) d 260 55 [(0, zr 4 44), (1, zi y1)] [] m Q := by
  intro n
  induction n with
  | zero =>
    intro y1 m B hJ hB hy1 hr0 hn hR
    have zf0 := r44_8 hJ 4
    have zf1 := r44_9 hJ 4
    exfalso
    omega
  | succ n ih =>
    intro y1 m B hJ hB hy1 hr0 hn hR
    replace hR : R0 = fl260_55_1_b (fl260_55_1 k87 n) k87 y1 m := hR
    refine X.aload_n 56 i260_55 rfl rfl rfl ?_
    refine X.getI 59 8 i260_56 rfl rfl (by decide) rfl rfl rfl ?_
    have h512 := r44_8 hJ 4
    refine X.aload_n 60 i260_59 rfl rfl rfl ?_
    refine X.getI 63 5 i260_60 rfl rfl (by decide) rfl rfl rfl ?_
    have h513 := r44_5 hJ 4
    refine X.icmpge 87 66 i260_63 rfl rfl rfl (fun h514 => ?_) (fun h514 => ?_)
    · exact K87 y1 m (B) (hJ.up (by omega)) (by omega) (by first | trivial | omega) (by omega) (Eq.trans hR (Eq.trans (if_pos h514) rfl))
    · refine X.aload_n 67 i260_66 rfl rfl rfl ?_
      refine X.getZ 70 9 i260_67 rfl rfl (by decide) rfl rfl rfl (fun h515 => ?_)
      refine X.ifne 87 73 i260_70 rfl rfl rfl (fun h516 => ?_) (fun h516 => ?_)
      · exact K87 y1 m (B) (hJ.up (by omega)) (by omega) (by first | trivial | omega) (by omega) (Eq.trans hR (Eq.trans (if_neg h514) (Eq.trans (if_neg h516) rfl)))
      · refine X.aload_n 74 i260_73 rfl rfl rfl ?_
        refine X.callv 77 [] [] [(0, zr 4 44)] i260_74 rfl (by decide) rfl rfl (by omega) rfl rfl (by decide) rfl t264 (Nat.le_of_ble_eq_true rfl) (Nat.le_of_ble_eq_true rfl) rfl ?_
        refine c264_1 (S := (S.1, S.2.1, True, S.2.2.2)) (B := B)   (by omega) (hJ.up (by omega)) (by omega)  hf1 hf3 hf16 hf19 hg4 (fun m517 hFv519 hJ518 hqv519_0 hqv519_1 hqv519_2 => ?_)
        show X (EE s) d 260 77 [(0, zr 4 44), (1, zi y1)] [] m517 _
        refine X.iinc 80 [(0, zr 4 44), (1, zi (y1 + 1))] i260_77 rfl rfl rfl (by omega) rfl ?_
        refine X.aload_n 81 i260_80 rfl rfl rfl ?_
        refine X.callv 84 [] [] [(0, zr 4 44)] i260_81 rfl (by decide) rfl rfl (by omega) rfl rfl (by decide) rfl t263 (Nat.le_of_ble_eq_true rfl) (Nat.le_of_ble_eq_true rfl) rfl ?_
        refine c263_1 (S := (S.1, S.2.1, True, S.2.2.2)) (B := B)   (by omega) (hJ518.up (by omega)) (by omega)  hf19 hg4 (fun m520 hFv522 hJ521 hqv522_0 hqv522_1 => ?_)
        show X (EE s) d 260 84 [(0, zr 4 44), (1, zi (y1 + 1))] [] m520 _
        refine X.goto 55 i260_84 rfl rfl ?_
        exact ih (y1 + 1) m520 (B) (hJ521.up (by omega)) (by omega) (by omega) (by omega) (by omega) (Eq.trans hR (Eq.trans (if_neg h514) (Eq.trans (if_pos h516) (Eq.trans (zs_eq hFv519.symm) (Eq.trans (zs_eq hFv522.symm) rfl)))))
-- WorkMeterModel.calendar
noncomputable def f260_1 (m : zM) : Int × zM :=
  zs (z_upd m 4 44 6 0) fun m501 =>
  zs (z_upd m501 4 44 7 (-1)) fun m503 =>
  zb (f203_1 m503) fun v507 m505 =>
  if v507 = 0 then
  (zs (z_cpy m505 4 46 4 45 0 0 1619) fun m509 =>
  zs (z_upd m509 4 44 9 0) fun m512 =>
  zs (z_upd m512 4 44 8 0) fun m514 =>
  zs (f262_1 m514) fun m516 =>
  zs (f263_1 m516) fun m519 =>
  fl260_55_1 (fun y522 m523 =>
  zs (z_upd m523 4 44 5 0) fun m527 =>
  if (m527 4 44 9) = 0 then
  ((y522, m527))
  else
  (zs (z_cpy m527 4 45 4 46 0 0 1619) fun m531 =>
  ((-1), m531))) (zfu 605) 0 m519)
  else
  (zs (z_upd m505 4 44 5 0) fun m534 =>
  ((-1), m534))
