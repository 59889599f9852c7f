section
-- WorkMeterModel.must
theorem c272_2 {s : Nat × (Nat → Int32)} {S : zS} {m0 m : zM} {B : Int} {d : Nat} {Q : Option zV → zM → Prop} (a1 : Int) (hd : 14 ≤ d) (hJ : J S m0 B m) (hB : B + 0 ≤ 1000000000) (ha1 : 58 ≤ a1 ∧ a1 ≤ 58) (hf36 : ¬ S.1 36) (hf39 : ¬ S.1 39) (hg4 : ¬ S.2.1 4) (hQ : ∀ m', f272_1 a1 m = m' → J S m0 (B) m' → (m' 4 44 9 = 1 ∨ m 4 44 8 < m' 4 44 8) → (m 4 44 8 ≤ m' 4 44 8) → (m 4 44 9 ≤ m' 4 44 9) → Q none m') : X (EE s) d 272 0 [(0, zr 4 44), (1, zi a1)] [] m Q := by
  refine X.aload_n 1 (zi272 0) rfl rfl rfl ?_
  refine X.callv 4 [] [] [(0, zr 4 44)] (zi272 1) rfl (by decide) rfl rfl (by omega) rfl rfl (by decide) rfl t263 (Nat.le_of_ble_eq_true rfl) (Nat.le_of_ble_eq_true rfl) rfl ?_
  refine c263_1 (B := B)   (by omega) (hJ.up (by omega)) (by omega)  hf39 hg4 (fun m501 hFv503 hJ502 hqv503_0 hqv503_1 => ?_)
  show X (EE s) d 272 4 [(0, zr 4 44), (1, zi a1)] [] m501 _
  refine X.aload_n 5 (zi272 4) rfl rfl rfl ?_
  refine X.getI 8 8 (zi272 5) rfl rfl (by decide) rfl rfl rfl ?_
  have h504 := r44_8 hJ502 4
  refine X.aload_n 9 (zi272 8) rfl rfl rfl ?_
  refine X.getI 12 5 (zi272 9) rfl rfl (by decide) rfl rfl rfl ?_
  have h505 := r44_5 hJ502 4
  refine X.icmpge 41 15 (zi272 12) rfl rfl rfl (fun h506 => ?_) (fun h506 => ?_)
  · refine X.cut [(0, zr 4 44)] (zi272 41) rfl ?_
    refine X.aload_n 42 (zi272 41) rfl rfl rfl ?_
    refine X.iconst 43 (zi272 42) rfl rfl (by decide) ?_
    refine X.aload_n 44 (zi272 43) rfl rfl rfl ?_
    refine X.getI 47 8 (zi272 44) rfl rfl (by decide) rfl rfl rfl ?_
    refine X.callv 50 [zi 1, zi (m501 4 44 8)] [] [(0, zr 4 44), (1, zi 1), (2, zi (m501 4 44 8))] (zi272 47) rfl (by decide) rfl rfl (by omega) rfl rfl (by decide) rfl t268 (Nat.le_of_ble_eq_true rfl) (Nat.le_of_ble_eq_true rfl) rfl ?_
    refine c268_2 (B := B)  1 (m501 4 44 8) (by omega) (hJ502.up (by omega)) (by omega) (by omega) (by omega) hf36 hf39 hg4 (fun m507 hFv509 hJ508 hqv509_0 hqv509_1 hqv509_2 => ?_)
    show X (EE s) d 272 50 [(0, zr 4 44)] [] m507 _
    refine X.cut [] (zi272 50) rfl ?_
    refine X.retv (zi272 50) rfl t272 ?_
    exact hQ  m507  (Eq.trans (zs_eq hFv503.symm) (Eq.trans (if_pos h506) (Eq.trans (zs_eq hFv509.symm) rfl))) (hJ508.up (by omega)) (by omega) (by omega) (by omega)
  · refine X.aload_n 16 (zi272 15) rfl rfl rfl ?_
    refine X.getF 19 (zi272 16) rfl rfl (by decide) rfl rfl ?_
    refine X.aload_n 20 (zi272 19) rfl rfl rfl ?_
    refine X.getI 23 8 (zi272 20) rfl rfl (by decide) rfl rfl rfl ?_
    refine X.bald 24 (zi272 23) rfl rfl (by decide) rfl (by omega) (fun h510 => ?_)
    refine X.iload_n 25 (zi272 24) rfl rfl rfl ?_
    refine X.icmpne 41 28 (zi272 25) rfl rfl rfl (fun h511 => ?_) (fun h511 => ?_)
    · refine X.cut [(0, zr 4 44)] (zi272 41) rfl ?_
      refine X.aload_n 42 (zi272 41) rfl rfl rfl ?_
      refine X.iconst 43 (zi272 42) rfl rfl (by decide) ?_
      refine X.aload_n 44 (zi272 43) rfl rfl rfl ?_
      refine X.getI 47 8 (zi272 44) rfl rfl (by decide) rfl rfl rfl ?_
      refine X.callv 50 [zi 1, zi (m501 4 44 8)] [] [(0, zr 4 44), (1, zi 1), (2, zi (m501 4 44 8))] (zi272 47) rfl (by decide) rfl rfl (by omega) rfl rfl (by decide) rfl t268 (Nat.le_of_ble_eq_true rfl) (Nat.le_of_ble_eq_true rfl) rfl ?_
      refine c268_2 (B := B)  1 (m501 4 44 8) (by omega) (hJ502.up (by omega)) (by omega) (by omega) (by omega) hf36 hf39 hg4 (fun m512 hFv514 hJ513 hqv514_0 hqv514_1 hqv514_2 => ?_)
      show X (EE s) d 272 50 [(0, zr 4 44)] [] m512 _
      refine X.cut [] (zi272 50) rfl ?_
      refine X.retv (zi272 50) rfl t272 ?_
      exact hQ  m512  (Eq.trans (zs_eq hFv503.symm) (Eq.trans (if_neg h506) (Eq.trans (if_neg h511) (Eq.trans (zs_eq hFv514.symm) rfl)))) (hJ513.up (by omega)) (by omega) (by omega) (by omega)
    · refine X.aload_n 29 (zi272 28) rfl rfl rfl ?_
      refine X.dup 30 (zi272 29) rfl rfl rfl ?_
      refine X.getI 33 8 (zi272 30) rfl rfl (by decide) rfl rfl rfl ?_
      refine X.iconst 34 (zi272 33) rfl rfl (by decide) ?_
      refine X.iadd 35 (zi272 34) rfl rfl (by omega) ?_
      refine X.putI' 38 8 (zi272 35) rfl rfl (by decide) rfl rfl rfl (fun hrm515 m515 hm515 => ?_)
      have hJ516 := w44_8 hJ502 hm515 (by omega) hf39 hg4
      have em515 : m515 4 44 8 = ((m501 4 44 8) + 1) := by rw [hm515]; exact z_upd_same _ _ _ _ _
      have wmm515_9 : m515 4 44 9 = m501 4 44 9 := by rw [hm515]; exact z_upd_o _ _ rfl
      have wmm515_10 : m515 4 44 10 = m501 4 44 10 := by rw [hm515]; exact z_upd_o _ _ rfl
      refine X.goto 50 (zi272 38) rfl rfl ?_
      refine X.cut [] (zi272 50) rfl ?_
      refine X.retv (zi272 50) rfl t272 ?_
      exact hQ  m515  (Eq.trans (zs_eq hFv503.symm) (Eq.trans (if_neg h506) (Eq.trans (if_pos h511) (Eq.trans (zs_eq hm515) rfl)))) (hJ516.up (by omega)) (by omega) (by omega) (by omega)
noncomputable def fl273_2_1_b (self : Int → Int) (k39 : Int → Int) (k47 : Int) (y1 y2 : Int) (m : zM) (y3 : Int) : Int :=
  if y3 < (m 4 45 (287 + y1)) then
  (if (m 4 45 ((295 + (6 * y1)) + y3)) = y2 then
  (k39 y3)
  else
  (self (y3 + 1)))
  else
  (k47)
noncomputable def fl273_2_1 (k39 : Int → Int) (k47 : Int) (y1 y2 : Int) (m : zM) : Nat → Int → Int
  | 0 => fun y3 => 0
  | n + 1 => fl273_2_1_b (fl273_2_1 k39 k47 y1 y2 m n) k39 k47 y1 y2 m
theorem l273_2_1 {s : Nat × (Nat → Int32)} {S : zS} {m0 : zM} {m : zM} {B : Int} {d : Nat} {Q : Option zV → zM → Prop} {R0 : Int} {k39 : Int → Int} {k47 : Int} (y1 y2 : Int) (hd : 13 ≤ d) (hJ : J S m0 B m) (hB9 : B ≤ 1000000000) (hy1 : 0 ≤ y1 ∧ y1 ≤ 7) (hy2 : 0 ≤ y2 ∧ y2 ≤ 86340)
    (K39 : ∀ (x3 : Int) , (0 ≤ x3 ∧ x3 ≤ 5) → R0 = k39 x3 → X (EE s) d 273 39 [(0, zr 4 44), (1, zi y1), (2, zi y2), (3, zi x3)] [] m Q)
    (K47 : R0 = k47 → X (EE s) d 273 47 [] [] m Q) :
    ∀ (n : Nat) (y3 : Int) , (0 ≤ y3 ∧ y3 ≤ 6) → 6 - y3 < (n : Int) → R0 = fl273_2_1 k39 k47 y1 y2 m n y3 → X (EE s) d 273 2 [(0, zr 4 44), (1, zi y1), (2, zi y2), (3, zi y3)] [] m Q := by
  intro n
  induction n with
  | zero =>
    intro y3 hy3 hn hR
    exfalso
    omega
  | succ n ih =>
    intro y3 hy3 hn hR
    replace hR : R0 = fl273_2_1_b (fl273_2_1 k39 k47 y1 y2 m n) k39 k47 y1 y2 m y3 := hR
    refine X.iload_n 3 (zi273 2) rfl rfl rfl ?_
    refine X.i2l 4 (zi273 3) rfl rfl ?_
    refine X.aload_n 5 (zi273 4) rfl rfl rfl ?_
    refine X.getF 8 (zi273 5) rfl rfl (by decide) rfl rfl ?_
    refine X.sipush 11 (zi273 8) rfl rfl (by decide) ?_
    refine X.iload_n 12 (zi273 11) rfl rfl rfl ?_
    refine X.iadd 13 (zi273 12) rfl rfl (by omega) ?_
    refine X.lald 14 (zi273 13) rfl rfl (by decide) rfl (by omega) ?_
    have h509 := r45_287 hJ 4 (i := (287 + y1)) (by omega)
    refine X.lcmp 15 (zi273 14) rfl rfl (fun z510 hz510 => ?_)
    refine X.ifge 47 18 (zi273 15) rfl rfl rfl (fun h511 => ?_) (fun h511 => ?_)
    · have h511c : ¬ y3 < (m 4 45 (287 + y1)) := by omega
      clear h511 hz510
      refine X.cut [] (zi273 47) rfl ?_
      exact K47   (Eq.trans hR (Eq.trans (if_neg h511c) rfl))
    · have h511c : y3 < (m 4 45 (287 + y1)) := by omega
      clear h511 hz510
      refine X.aload_n 19 (zi273 18) rfl rfl rfl ?_
      refine X.getF 22 (zi273 19) rfl rfl (by decide) rfl rfl ?_
      refine X.sipush 25 (zi273 22) rfl rfl (by decide) ?_
      refine X.bipush 27 (zi273 25) rfl rfl (by decide) ?_
      refine X.iload_n 28 (zi273 27) rfl rfl rfl ?_
      refine X.imul 29 (zi273 28) rfl rfl (by omega) ?_
      refine X.iadd 30 (zi273 29) rfl rfl (by omega) ?_
      refine X.iload_n 31 (zi273 30) rfl rfl rfl ?_
      refine X.iadd 32 (zi273 31) rfl rfl (by omega) ?_
      refine X.lald 33 (zi273 32) rfl rfl (by decide) rfl (by omega) ?_
      have h512 := r45_295 hJ 4 (i := ((295 + (6 * y1)) + y3)) (by omega)
      refine X.iload_n 34 (zi273 33) rfl rfl rfl ?_
      refine X.i2l 35 (zi273 34) rfl rfl ?_
      refine X.lcmp 36 (zi273 35) rfl rfl (fun z513 hz513 => ?_)
      refine X.ifne 41 39 (zi273 36) rfl rfl rfl (fun h514 => ?_) (fun h514 => ?_)
      · have h514c : ¬ (m 4 45 ((295 + (6 * y1)) + y3)) = y2 := by omega
        clear h514 hz513
        refine X.iinc 44 [(0, zr 4 44), (1, zi y1), (2, zi y2), (3, zi (y3 + 1))] (zi273 41) rfl rfl rfl (by omega) rfl ?_
        refine X.goto 2 (zi273 44) rfl rfl ?_
        exact ih (y3 + 1) (by omega) (by omega) (Eq.trans hR (Eq.trans (if_pos h511c) (Eq.trans (if_neg h514c) rfl)))
      · have h514c : (m 4 45 ((295 + (6 * y1)) + y3)) = y2 := by omega
        clear h514 hz513
        exact K39 y3 (by first | trivial | omega) (Eq.trans hR (Eq.trans (if_pos h511c) (Eq.trans (if_pos h514c) rfl)))
-- WorkMeterModel.isSwitch
noncomputable def f273_1 (a1 a2 : Int) (m : zM) : Int :=
  fl273_2_1 (fun y501 =>
  1) (0) a1 a2 m (zfu 7) 0
-- WorkMeterModel.isSwitch
theorem c273_1 {s : Nat × (Nat → Int32)} {S : zS} {m0 m : zM} {B : Int} {d : Nat} {Q : Option zV → zM → Prop} (a1 a2 : Int) (hd : 13 ≤ d) (hJ : J S m0 B m) (hB : B + 0 ≤ 1000000000) (ha1 : 0 ≤ a1 ∧ a1 ≤ 7) (ha2 : 0 ≤ a2 ∧ a2 ≤ 86340) (hQ : ∀ (v : Int), (0 ≤ v ∧ v ≤ 1) → f273_1 a1 a2 m = v → Q (some (zi v)) m) : X (EE s) d 273 0 [(0, zr 4 44), (1, zi a1), (2, zi a2)] [] m Q := by
  refine X.iconst 1 (zi273 0) rfl rfl (by decide) ?_
  refine X.istore_n 2 [(0, zr 4 44), (1, zi a1), (2, zi a2), (3, zi 0)] (zi273 1) rfl rfl rfl ?_
  have hz7 := zfu_eq 7
  refine l273_2_1 (s := s) (m := m) (B := B) (d := d) (R0 := (f273_1 a1 a2 m))  a1 a2  (by omega) (hJ.up (by omega)) (by omega) (by omega) (by omega) (fun y501 hby501 hR505 => ?_) (fun  hR509 => ?_) (zfu 7) 0 (by omega) (by omega) rfl
  · refine X.iconst 40 (zi273 39) rfl rfl (by decide) ?_
    refine X.retz (zi273 40) rfl t273 (by omega) ?_
    exact hQ 1 (by first | trivial | omega) (Eq.trans hR505 rfl) 
  · refine X.iconst 48 (zi273 47) rfl rfl (by decide) ?_
    refine X.retz (zi273 48) rfl t273 (by omega) ?_
    exact hQ 0 (by first | trivial | omega) (Eq.trans hR509 rfl) 
-- WorkMeterModel.wrong
theorem c268_4 {s : Nat × (Nat → Int32)} {S : zS} {m0 m : zM} {B : Int} {d : Nat} {Q : Option zV → zM → Prop} (a1 a2 : Int) (hd : 13 ≤ d) (hJ : J S m0 B m) (hB : B + 0 ≤ 1000000000) (ha1 : 4 ≤ a1 ∧ a1 ≤ 4) (ha2 : (-2147483648) ≤ a2 ∧ a2 ≤ 2147483647) (hf36 : ¬ S.1 36) (hf39 : ¬ S.1 39) (hg4 : ¬ S.2.1 4) (hQ : ∀ m', f268_1 a1 a2 m = m' → J S m0 (B) m' → (m' 4 44 9 = 1) → (m 4 44 8 ≤ m' 4 44 8) → (m 4 44 9 ≤ m' 4 44 9) → Q none m') : X (EE s) d 268 0 [(0, zr 4 44), (1, zi a1), (2, zi a2)] [] m Q := by
  refine X.aload_n 1 (zi268 0) rfl rfl rfl ?_
  refine X.getZ 4 9 (zi268 1) rfl rfl (by decide) rfl rfl rfl (fun h501 => ?_)
  refine X.ifeq 8 7 (zi268 4) rfl rfl rfl (fun h502 => ?_) (fun h502 => ?_)
  · refine X.aload_n 9 (zi268 8) rfl rfl rfl ?_
    refine X.iconst 10 (zi268 9) rfl rfl (by decide) ?_
    refine X.putZ' 13 9 (zi268 10) rfl rfl (by decide) rfl rfl rfl (by omega) (fun hrm503 m503 hm503 => ?_)
    have hJ504 := w44_9 hJ hm503 (by omega) hf39 hg4
    have em503 : m503 4 44 9 = 1 := by rw [hm503]; exact z_upd_same _ _ _ _ _
    have wmm503_8 : m503 4 44 8 = m 4 44 8 := by rw [hm503]; exact z_upd_o _ _ rfl
    have wmm503_10 : m503 4 44 10 = m 4 44 10 := by rw [hm503]; exact z_upd_o _ _ rfl
    refine X.aload_n 14 (zi268 13) rfl rfl rfl ?_
    refine X.iload_n 15 (zi268 14) rfl rfl rfl ?_
    refine X.putI' 18 6 (zi268 15) rfl rfl (by decide) rfl rfl rfl (fun hrm505 m505 hm505 => ?_)
    have hJ506 := w44_6 hJ504 hm505 (by omega) hrm505 hf36 hg4
    have wmm505_8 : m505 4 44 8 = m503 4 44 8 := by rw [hm505]; exact z_upd_o _ _ rfl
    have wmm505_9 : m505 4 44 9 = m503 4 44 9 := by rw [hm505]; exact z_upd_o _ _ rfl
    have wmm505_10 : m505 4 44 10 = m503 4 44 10 := by rw [hm505]; exact z_upd_o _ _ rfl
    refine X.aload_n 19 (zi268 18) rfl rfl rfl ?_
    refine X.iload_n 20 (zi268 19) rfl rfl rfl ?_
    refine X.putI' 23 7 (zi268 20) rfl rfl (by decide) rfl rfl rfl (fun hrm507 m507 hm507 => ?_)
    have hJ508 := w44_6 hJ506 hm507 (by omega) hrm507 hf36 hg4
    have wmm507_8 : m507 4 44 8 = m505 4 44 8 := by rw [hm507]; exact z_upd_o _ _ rfl
    have wmm507_9 : m507 4 44 9 = m505 4 44 9 := by rw [hm507]; exact z_upd_o _ _ rfl
    have wmm507_10 : m507 4 44 10 = m505 4 44 10 := by rw [hm507]; exact z_upd_o _ _ rfl
    refine X.retv (zi268 23) rfl t268 ?_
    exact hQ  m507  (Eq.trans (if_pos h502) (Eq.trans (zs_eq hm503) (Eq.trans (zs_eq hm505) (Eq.trans (zs_eq hm507) rfl)))) (hJ508.up (by omega)) (by omega) (by omega) (by omega)
  · refine X.retv (zi268 7) rfl t268 ?_
    exact hQ  m  (Eq.trans (if_neg h502) rfl) (hJ.up (by omega)) (by omega) (by omega) (by omega)
noncomputable def fl269_40_1_b (self : zM → zM) (k175 : zM → zM) (y1 : Int) (m : zM) : zM :=
  if (m 4 44 9) = 0 then
  (zb (f271_1 m) fun v643 m641 =>
  if v643 = 0 then
  (k175 m641)
  else
  (zb (f270_1 0 23 m641) fun v647 m645 =>
  if (m645 4 44 9) = 0 then
  (if (m645 4 45 (287 + y1)) = 6 then
  (zs (f268_1 4 (m645 4 44 10) m645) fun m734 =>
  zs (f272_1 58 m734) fun m737 =>
  zb (f270_1 0 59 m737) fun v742 m740 =>
  if (m740 4 44 9) = 0 then
  (zn (f273_1 y1 ((3600 * v647) + (60 * v742)) m740) fun v755 =>
  if v755 = 0 then
  (zb (f270_1 0 3 m740) fun v759 m757 =>
  if (m757 4 44 9) = 0 then
  (zb (f243_1 y1 ((3600 * v647) + (60 * v742)) v759 m757) fun v764 m762 =>
  self m762)
  else
  (self m757))
  else
  (zs (f268_1 3 (m740 4 44 10) m740) fun m766 =>
  zb (f270_1 0 3 m766) fun v771 m769 =>
  if (m769 4 44 9) = 0 then
  (zb (f243_1 y1 ((3600 * v647) + (60 * v742)) v771 m769) fun v776 m774 =>
  self m774)
  else
  (self m769)))
  else
  (zb (f270_1 0 3 m740) fun v747 m745 =>
  if (m745 4 44 9) = 0 then
  (zb (f243_1 y1 ((3600 * v647) + (60 * v742)) v747 m745) fun v752 m750 =>
  self m750)
  else
  (self m745)))
  else
  (zs (f272_1 58 m645) fun m693 =>
  zb (f270_1 0 59 m693) fun v698 m696 =>
  if (m696 4 44 9) = 0 then
  (zn (f273_1 y1 ((3600 * v647) + (60 * v698)) m696) fun v711 =>
  if v711 = 0 then
  (zb (f270_1 0 3 m696) fun v715 m713 =>
  if (m713 4 44 9) = 0 then
  (zb (f243_1 y1 ((3600 * v647) + (60 * v698)) v715 m713) fun v720 m718 =>
  self m718)
  else
  (self m713))
  else
  (zs (f268_1 3 (m696 4 44 10) m696) fun m722 =>
  zb (f270_1 0 3 m722) fun v727 m725 =>
  if (m725 4 44 9) = 0 then
  (zb (f243_1 y1 ((3600 * v647) + (60 * v698)) v727 m725) fun v732 m730 =>
  self m730)
  else
  (self m725)))
  else
  (zb (f270_1 0 3 m696) fun v703 m701 =>
  if (m701 4 44 9) = 0 then
  (zb (f243_1 y1 ((3600 * v647) + (60 * v698)) v703 m701) fun v708 m706 =>
  self m706)
  else
  (self m701))))
  else
  (zs (f272_1 58 m645) fun m650 =>
  zb (f270_1 0 59 m650) fun v655 m653 =>
  if (m653 4 44 9) = 0 then
  (zn (f273_1 y1 ((3600 * v647) + (60 * v655)) m653) fun v668 =>
  if v668 = 0 then
  (zb (f270_1 0 3 m653) fun v672 m670 =>
  if (m670 4 44 9) = 0 then
  (zb (f243_1 y1 ((3600 * v647) + (60 * v655)) v672 m670) fun v677 m675 =>
  self m675)
  else
  (self m670))
  else
  (zs (f268_1 3 (m653 4 44 10) m653) fun m679 =>
  zb (f270_1 0 3 m679) fun v684 m682 =>
  if (m682 4 44 9) = 0 then
  (zb (f243_1 y1 ((3600 * v647) + (60 * v655)) v684 m682) fun v689 m687 =>
  self m687)
  else
  (self m682)))
  else
  (zb (f270_1 0 3 m653) fun v660 m658 =>
  if (m658 4 44 9) = 0 then
  (zb (f243_1 y1 ((3600 * v647) + (60 * v655)) v660 m658) fun v665 m663 =>
  self m663)
  else
  (self m658)))))
  else
  (k175 m)
noncomputable def fl269_40_1 (k175 : zM → zM) (y1 : Int) : Nat → zM → zM
  | 0 => fun m => m
  | n + 1 => fl269_40_1_b (fl269_40_1 k175 y1 n) k175 y1
theorem l269_40_1 {s : Nat × (Nat → Int32)} {S : zS} {m0 : zM} {d : Nat} {Q : Option zV → zM → Prop} {R0 : zM} {k175 : zM → zM} (y1 : Int) (c8 c9 : Int) (BE : Int) (hE : BE ≤ 1000000000) (hd : 15 ≤ d) (hy1 : 0 ≤ y1 ∧ y1 ≤ 7) (hf21 : ¬ S.1 21) (hf36 : ¬ S.1 36) (hf39 : ¬ S.1 39) (hg4 : ¬ S.2.1 4)
    (K175 : ∀ (m' : zM) (B' : Int), J S m0 B' m' → B' ≤ BE → (c8 ≤ m' 4 44 8) → (c9 ≤ m' 4 44 9) → R0 = k175 m' → X (EE s) d 269 175 [] [] m' Q) :
    ∀ (n : Nat) (m : zM) (B : Int), J S m0 B m → B + 0 * (n : Int) ≤ BE → (c8 ≤ m 4 44 8) → (c9 ≤ m 4 44 9) → 604 - m 4 44 8 - 302 * m 4 44 9 < (n : Int) → R0 = fl269_40_1 k175 y1 n m → X (EE s) d 269 40 [(0, zr 4 44), (1, zi y1)] [] m Q := by
  intro n
  induction n with
  | zero =>
    intro  m B hJ hB hr0 hr1 hn hR
    have zf0 := r44_8 hJ 4
    have zf1 := r44_9 hJ 4
    exfalso
    omega
  | succ n ih =>
    intro  m B hJ hB hr0 hr1 hn hR
    replace hR : R0 = fl269_40_1_b (fl269_40_1 k175 y1 n) k175 y1 m := hR
    refine X.aload_n 41 (zi269 40) rfl rfl rfl ?_
    refine X.getZ 44 9 (zi269 41) rfl rfl (by decide) rfl rfl rfl (fun h639 => ?_)
    refine X.ifne 175 47 (zi269 44) rfl rfl rfl (fun h640 => ?_) (fun h640 => ?_)
    · refine X.cut [] (zi269 175) rfl ?_
      exact K175  m (B) (hJ.up (by omega)) (by omega) (by omega) (by omega) (Eq.trans hR (Eq.trans (if_neg h640) rfl))
    · refine X.aload_n 48 (zi269 47) rfl rfl rfl ?_
      refine X.callv 51 [] [] [(0, zr 4 44)] (zi269 48) rfl (by decide) rfl rfl (by omega) rfl rfl (by decide) rfl t271 (Nat.le_of_ble_eq_true rfl) (Nat.le_of_ble_eq_true rfl) rfl ?_
      refine c271_1 (B := B)   (by omega) (hJ.up (by omega)) (by omega)  hf39 hg4 (fun v643 m641 hv643 hFv643 hJ642 hqv643_0 hqv643_1 => ?_)
      show X (EE s) d 269 51 [(0, zr 4 44), (1, zi y1)] [zi v643] m641 _
      refine X.ifeq 175 54 (zi269 51) rfl rfl rfl (fun h644 => ?_) (fun h644 => ?_)
      · refine X.cut [] (zi269 175) rfl ?_
        exact K175  m641 (B) (hJ642.up (by omega)) (by omega) (by omega) (by omega) (Eq.trans hR (Eq.trans (if_pos h640) (Eq.trans (zb_eq hFv643) (Eq.trans (if_pos h644) rfl))))
      · refine X.aload_n 55 (zi269 54) rfl rfl rfl ?_
        refine X.iconst 56 (zi269 55) rfl rfl (by decide) ?_
        refine X.bipush 58 (zi269 56) rfl rfl (by decide) ?_
        refine X.callv 61 [zi 0, zi 23] [] [(0, zr 4 44), (1, zi 0), (2, zi 23)] (zi269 58) rfl (by decide) rfl rfl (by omega) rfl rfl (by decide) rfl t270 (Nat.le_of_ble_eq_true rfl) (Nat.le_of_ble_eq_true rfl) rfl ?_
        refine c270_1 (B := B)  0 23 (by omega) (hJ642.up (by omega)) (by omega) (by omega) (by omega) hf36 hf39 hg4 (fun v647 m645 hv647 hFv647 hJ646 hqv647_0 hqv647_1 hqv647_2 hqv647_3 => ?_)
        show X (EE s) d 269 61 [(0, zr 4 44), (1, zi y1)] [zi v647] m645 _
        refine X.istore_n 62 [(0, zr 4 44), (1, zi y1), (2, zi v647)] (zi269 61) rfl rfl rfl ?_
        refine X.aload_n 63 (zi269 62) rfl rfl rfl ?_
        refine X.getZ 66 9 (zi269 63) rfl rfl (by decide) rfl rfl rfl (fun h648 => ?_)
        refine X.ifne 95 69 (zi269 66) rfl rfl rfl (fun h649 => ?_) (fun h649 => ?_)
        · refine X.aload_n 96 (zi269 95) rfl rfl rfl ?_
          refine X.bipush 98 (zi269 96) rfl rfl (by decide) ?_
          refine X.callv 101 [zi 58] [] [(0, zr 4 44), (1, zi 58)] (zi269 98) rfl (by decide) rfl rfl (by omega) rfl rfl (by decide) rfl t272 (Nat.le_of_ble_eq_true rfl) (Nat.le_of_ble_eq_true rfl) rfl ?_
          refine c272_2 (B := B)  58 (by omega) (hJ646.up (by omega)) (by omega) (by omega) hf36 hf39 hg4 (fun m650 hFv652 hJ651 hqv652_0 hqv652_1 hqv652_2 => ?_)
          show X (EE s) d 269 101 [(0, zr 4 44), (1, zi y1), (2, zi v647)] [] m650 _
          refine X.aload_n 102 (zi269 101) rfl rfl rfl ?_
          refine X.iconst 103 (zi269 102) rfl rfl (by decide) ?_
          refine X.bipush 105 (zi269 103) rfl rfl (by decide) ?_
          refine X.callv 108 [zi 0, zi 59] [] [(0, zr 4 44), (1, zi 0), (2, zi 59)] (zi269 105) rfl (by decide) rfl rfl (by omega) rfl rfl (by decide) rfl t270 (Nat.le_of_ble_eq_true rfl) (Nat.le_of_ble_eq_true rfl) rfl ?_
          refine c270_1 (B := B)  0 59 (by omega) (hJ651.up (by omega)) (by omega) (by omega) (by omega) hf36 hf39 hg4 (fun v655 m653 hv655 hFv655 hJ654 hqv655_0 hqv655_1 hqv655_2 hqv655_3 => ?_)
          show X (EE s) d 269 108 [(0, zr 4 44), (1, zi y1), (2, zi v647)] [zi v655] m653 _
          refine X.istore_n 109 [(0, zr 4 44), (1, zi y1), (2, zi v647), (3, zi v655)] (zi269 108) rfl rfl rfl ?_
          refine X.sipush 112 (zi269 109) rfl rfl (by decide) ?_
          refine X.iload_n 113 (zi269 112) rfl rfl rfl ?_
          refine X.imul 114 (zi269 113) rfl rfl (by omega) ?_
          refine X.bipush 116 (zi269 114) rfl rfl (by decide) ?_
          refine X.iload_n 117 (zi269 116) rfl rfl rfl ?_
          refine X.imul 118 (zi269 117) rfl rfl (by omega) ?_
          refine X.iadd 119 (zi269 118) rfl rfl (by omega) ?_
          refine X.istore 121 [(0, zr 4 44), (1, zi y1), (2, zi v647), (3, zi v655), (4, zi ((3600 * v647) + (60 * v655)))] (zi269 119) rfl rfl rfl ?_
          refine X.aload_n 122 (zi269 121) rfl rfl rfl ?_
          refine X.getZ 125 9 (zi269 122) rfl rfl (by decide) rfl rfl rfl (fun h656 => ?_)
          refine X.ifne 147 128 (zi269 125) rfl rfl rfl (fun h657 => ?_) (fun h657 => ?_)
          · refine X.cut [(0, zr 4 44), (1, zi y1), (4, zi ((3600 * v647) + (60 * v655)))] (zi269 147) rfl ?_
            refine X.aload_n 148 (zi269 147) rfl rfl rfl ?_
            refine X.iconst 149 (zi269 148) rfl rfl (by decide) ?_
            refine X.iconst 150 (zi269 149) rfl rfl (by decide) ?_
            refine X.callv 153 [zi 0, zi 3] [] [(0, zr 4 44), (1, zi 0), (2, zi 3)] (zi269 150) rfl (by decide) rfl rfl (by omega) rfl rfl (by decide) rfl t270 (Nat.le_of_ble_eq_true rfl) (Nat.le_of_ble_eq_true rfl) rfl ?_
            refine c270_1 (B := B)  0 3 (by omega) (hJ654.up (by omega)) (by omega) (by omega) (by omega) hf36 hf39 hg4 (fun v660 m658 hv660 hFv660 hJ659 hqv660_0 hqv660_1 hqv660_2 hqv660_3 => ?_)
            show X (EE s) d 269 153 [(0, zr 4 44), (1, zi y1), (4, zi ((3600 * v647) + (60 * v655)))] [zi v660] m658 _
            refine X.istore 155 [(0, zr 4 44), (1, zi y1), (4, zi ((3600 * v647) + (60 * v655))), (5, zi v660)] (zi269 153) rfl rfl rfl ?_
            refine X.aload_n 156 (zi269 155) rfl rfl rfl ?_
            refine X.getZ 159 9 (zi269 156) rfl rfl (by decide) rfl rfl rfl (fun h661 => ?_)
            refine X.ifne 172 162 (zi269 159) rfl rfl rfl (fun h662 => ?_) (fun h662 => ?_)
            · refine X.cut [(0, zr 4 44), (1, zi y1)] (zi269 172) rfl ?_
              refine X.goto 40 (zi269 172) rfl rfl ?_
              exact ih  m658 (B) (hJ659.up (by omega)) (by omega) (by omega) (by omega) (by omega) (Eq.trans hR (Eq.trans (if_pos h640) (Eq.trans (zb_eq hFv643) (Eq.trans (if_neg h644) (Eq.trans (zb_eq hFv647) (Eq.trans (if_neg h649) (Eq.trans (zs_eq hFv652.symm) (Eq.trans (zb_eq hFv655) (Eq.trans (if_neg h657) (Eq.trans (zb_eq hFv660) (Eq.trans (if_neg h662) rfl)))))))))))
            · refine X.aload_n 163 (zi269 162) rfl rfl rfl ?_
              refine X.iload_n 164 (zi269 163) rfl rfl rfl ?_
              refine X.iload 166 (zi269 164) rfl rfl rfl ?_
              refine X.iload 168 (zi269 166) rfl rfl rfl ?_
              refine X.callv 171 [zi y1, zi ((3600 * v647) + (60 * v655)), zi v660] [] [(0, zr 4 44), (1, zi y1), (2, zi ((3600 * v647) + (60 * v655))), (3, zi v660)] (zi269 168) rfl (by decide) rfl rfl (by omega) rfl rfl (by decide) rfl t243 (Nat.le_of_ble_eq_true rfl) (Nat.le_of_ble_eq_true rfl) rfl ?_
              refine c243_1 (B := B)  y1 ((3600 * v647) + (60 * v655)) v660 (by omega) (hJ659.up (by omega)) (by omega) (by omega) (by omega) (by omega) hf21 hg4 (fun v665 m663 hv665 hFv665 hJ664 hqv665_0 hqv665_1 => ?_)
              show X (EE s) d 269 171 [(0, zr 4 44), (1, zi y1), (4, zi ((3600 * v647) + (60 * v655))), (5, zi v660)] [zi v665] m663 _
              refine X.pop 172 (zi269 171) rfl rfl rfl ?_
              refine X.cut [(0, zr 4 44), (1, zi y1)] (zi269 172) rfl ?_
              refine X.goto 40 (zi269 172) rfl rfl ?_
              exact ih  m663 (B) (hJ664.up (by omega)) (by omega) (by omega) (by omega) (by omega) (Eq.trans hR (Eq.trans (if_pos h640) (Eq.trans (zb_eq hFv643) (Eq.trans (if_neg h644) (Eq.trans (zb_eq hFv647) (Eq.trans (if_neg h649) (Eq.trans (zs_eq hFv652.symm) (Eq.trans (zb_eq hFv655) (Eq.trans (if_neg h657) (Eq.trans (zb_eq hFv660) (Eq.trans (if_pos h662) (Eq.trans (zb_eq hFv665) rfl))))))))))))
          · refine X.aload_n 129 (zi269 128) rfl rfl rfl ?_
            refine X.iload_n 130 (zi269 129) rfl rfl rfl ?_
            refine X.iload 132 (zi269 130) rfl rfl rfl ?_
            refine X.callv 135 [zi y1, zi ((3600 * v647) + (60 * v655))] [] [(0, zr 4 44), (1, zi y1), (2, zi ((3600 * v647) + (60 * v655)))] (zi269 132) rfl (by decide) rfl rfl (by omega) rfl rfl (by decide) rfl t273 (Nat.le_of_ble_eq_true rfl) (Nat.le_of_ble_eq_true rfl) rfl ?_
            refine c273_1 (B := B)  y1 ((3600 * v647) + (60 * v655)) (by omega) (hJ654.up (by omega)) (by omega) (by omega) (by omega) (fun v668 hv668 hFv668 => ?_)
            show X (EE s) d 269 135 [(0, zr 4 44), (1, zi y1), (2, zi v647), (3, zi v655), (4, zi ((3600 * v647) + (60 * v655)))] [zi v668] m653 _
            refine X.ifeq 147 138 (zi269 135) rfl rfl rfl (fun h669 => ?_) (fun h669 => ?_)
            · refine X.cut [(0, zr 4 44), (1, zi y1), (4, zi ((3600 * v647) + (60 * v655)))] (zi269 147) rfl ?_
              refine X.aload_n 148 (zi269 147) rfl rfl rfl ?_
              refine X.iconst 149 (zi269 148) rfl rfl (by decide) ?_
              refine X.iconst 150 (zi269 149) rfl rfl (by decide) ?_
              refine X.callv 153 [zi 0, zi 3] [] [(0, zr 4 44), (1, zi 0), (2, zi 3)] (zi269 150) rfl (by decide) rfl rfl (by omega) rfl rfl (by decide) rfl t270 (Nat.le_of_ble_eq_true rfl) (Nat.le_of_ble_eq_true rfl) rfl ?_
              refine c270_1 (B := B)  0 3 (by omega) (hJ654.up (by omega)) (by omega) (by omega) (by omega) hf36 hf39 hg4 (fun v672 m670 hv672 hFv672 hJ671 hqv672_0 hqv672_1 hqv672_2 hqv672_3 => ?_)
              show X (EE s) d 269 153 [(0, zr 4 44), (1, zi y1), (4, zi ((3600 * v647) + (60 * v655)))] [zi v672] m670 _
              refine X.istore 155 [(0, zr 4 44), (1, zi y1), (4, zi ((3600 * v647) + (60 * v655))), (5, zi v672)] (zi269 153) rfl rfl rfl ?_
              refine X.aload_n 156 (zi269 155) rfl rfl rfl ?_
              refine X.getZ 159 9 (zi269 156) rfl rfl (by decide) rfl rfl rfl (fun h673 => ?_)
              refine X.ifne 172 162 (zi269 159) rfl rfl rfl (fun h674 => ?_) (fun h674 => ?_)
              · refine X.cut [(0, zr 4 44), (1, zi y1)] (zi269 172) rfl ?_
                refine X.goto 40 (zi269 172) rfl rfl ?_
                exact ih  m670 (B) (hJ671.up (by omega)) (by omega) (by omega) (by omega) (by omega) (Eq.trans hR (Eq.trans (if_pos h640) (Eq.trans (zb_eq hFv643) (Eq.trans (if_neg h644) (Eq.trans (zb_eq hFv647) (Eq.trans (if_neg h649) (Eq.trans (zs_eq hFv652.symm) (Eq.trans (zb_eq hFv655) (Eq.trans (if_pos h657) (Eq.trans (zn_eq hFv668.symm) (Eq.trans (if_pos h669) (Eq.trans (zb_eq hFv672) (Eq.trans (if_neg h674) rfl)))))))))))))
              · refine X.aload_n 163 (zi269 162) rfl rfl rfl ?_
                refine X.iload_n 164 (zi269 163) rfl rfl rfl ?_
                refine X.iload 166 (zi269 164) rfl rfl rfl ?_
                refine X.iload 168 (zi269 166) rfl rfl rfl ?_
                refine X.callv 171 [zi y1, zi ((3600 * v647) + (60 * v655)), zi v672] [] [(0, zr 4 44), (1, zi y1), (2, zi ((3600 * v647) + (60 * v655))), (3, zi v672)] (zi269 168) rfl (by decide) rfl rfl (by omega) rfl rfl (by decide) rfl t243 (Nat.le_of_ble_eq_true rfl) (Nat.le_of_ble_eq_true rfl) rfl ?_
                refine c243_1 (B := B)  y1 ((3600 * v647) + (60 * v655)) v672 (by omega) (hJ671.up (by omega)) (by omega) (by omega) (by omega) (by omega) hf21 hg4 (fun v677 m675 hv677 hFv677 hJ676 hqv677_0 hqv677_1 => ?_)
                show X (EE s) d 269 171 [(0, zr 4 44), (1, zi y1), (4, zi ((3600 * v647) + (60 * v655))), (5, zi v672)] [zi v677] m675 _
                refine X.pop 172 (zi269 171) rfl rfl rfl ?_
                refine X.cut [(0, zr 4 44), (1, zi y1)] (zi269 172) rfl ?_
                refine X.goto 40 (zi269 172) rfl rfl ?_
                exact ih  m675 (B) (hJ676.up (by omega)) (by omega) (by omega) (by omega) (by omega) (Eq.trans hR (Eq.trans (if_pos h640) (Eq.trans (zb_eq hFv643) (Eq.trans (if_neg h644) (Eq.trans (zb_eq hFv647) (Eq.trans (if_neg h649) (Eq.trans (zs_eq hFv652.symm) (Eq.trans (zb_eq hFv655) (Eq.trans (if_pos h657) (Eq.trans (zn_eq hFv668.symm) (Eq.trans (if_pos h669) (Eq.trans (zb_eq hFv672) (Eq.trans (if_pos h674) (Eq.trans (zb_eq hFv677) rfl))))))))))))))
            · refine X.aload_n 139 (zi269 138) rfl rfl rfl ?_
              refine X.iconst 140 (zi269 139) rfl rfl (by decide) ?_
              refine X.aload_n 141 (zi269 140) rfl rfl rfl ?_
              refine X.getIr 144 10 (zi269 141) rfl rfl (by decide) rfl rfl rfl (fun h678 => ?_)
              refine X.callv 147 [zi 3, zi (m653 4 44 10)] [] [(0, zr 4 44), (1, zi 3), (2, zi (m653 4 44 10))] (zi269 144) rfl (by decide) rfl rfl (by omega) rfl rfl (by decide) rfl t268 (Nat.le_of_ble_eq_true rfl) (Nat.le_of_ble_eq_true rfl) rfl ?_
              refine c268_3 (B := B)  3 (m653 4 44 10) (by omega) (hJ654.up (by omega)) (by omega) (by omega) (by omega) hf36 hf39 hg4 (fun m679 hFv681 hJ680 hqv681_0 hqv681_1 hqv681_2 => ?_)
              show X (EE s) d 269 147 [(0, zr 4 44), (1, zi y1), (2, zi v647), (3, zi v655), (4, zi ((3600 * v647) + (60 * v655)))] [] m679 _
              refine X.cut [(0, zr 4 44), (1, zi y1), (4, zi ((3600 * v647) + (60 * v655)))] (zi269 147) rfl ?_
              refine X.aload_n 148 (zi269 147) rfl rfl rfl ?_
              refine X.iconst 149 (zi269 148) rfl rfl (by decide) ?_
              refine X.iconst 150 (zi269 149) rfl rfl (by decide) ?_
              refine X.callv 153 [zi 0, zi 3] [] [(0, zr 4 44), (1, zi 0), (2, zi 3)] (zi269 150) rfl (by decide) rfl rfl (by omega) rfl rfl (by decide) rfl t270 (Nat.le_of_ble_eq_true rfl) (Nat.le_of_ble_eq_true rfl) rfl ?_
              refine c270_1 (B := B)  0 3 (by omega) (hJ680.up (by omega)) (by omega) (by omega) (by omega) hf36 hf39 hg4 (fun v684 m682 hv684 hFv684 hJ683 hqv684_0 hqv684_1 hqv684_2 hqv684_3 => ?_)
              show X (EE s) d 269 153 [(0, zr 4 44), (1, zi y1), (4, zi ((3600 * v647) + (60 * v655)))] [zi v684] m682 _
              refine X.istore 155 [(0, zr 4 44), (1, zi y1), (4, zi ((3600 * v647) + (60 * v655))), (5, zi v684)] (zi269 153) rfl rfl rfl ?_
              refine X.aload_n 156 (zi269 155) rfl rfl rfl ?_
              refine X.getZ 159 9 (zi269 156) rfl rfl (by decide) rfl rfl rfl (fun h685 => ?_)
              refine X.ifne 172 162 (zi269 159) rfl rfl rfl (fun h686 => ?_) (fun h686 => ?_)
              · refine X.cut [(0, zr 4 44), (1, zi y1)] (zi269 172) rfl ?_
                refine X.goto 40 (zi269 172) rfl rfl ?_
                exact ih  m682 (B) (hJ683.up (by omega)) (by omega) (by omega) (by omega) (by omega) (Eq.trans hR (Eq.trans (if_pos h640) (Eq.trans (zb_eq hFv643) (Eq.trans (if_neg h644) (Eq.trans (zb_eq hFv647) (Eq.trans (if_neg h649) (Eq.trans (zs_eq hFv652.symm) (Eq.trans (zb_eq hFv655) (Eq.trans (if_pos h657) (Eq.trans (zn_eq hFv668.symm) (Eq.trans (if_neg h669) (Eq.trans (zs_eq hFv681.symm) (Eq.trans (zb_eq hFv684) (Eq.trans (if_neg h686) rfl))))))))))))))
              · refine X.aload_n 163 (zi269 162) rfl rfl rfl ?_
                refine X.iload_n 164 (zi269 163) rfl rfl rfl ?_
                refine X.iload 166 (zi269 164) rfl rfl rfl ?_
                refine X.iload 168 (zi269 166) rfl rfl rfl ?_
                refine X.callv 171 [zi y1, zi ((3600 * v647) + (60 * v655)), zi v684] [] [(0, zr 4 44), (1, zi y1), (2, zi ((3600 * v647) + (60 * v655))), (3, zi v684)] (zi269 168) rfl (by decide) rfl rfl (by omega) rfl rfl (by decide) rfl t243 (Nat.le_of_ble_eq_true rfl) (Nat.le_of_ble_eq_true rfl) rfl ?_
                refine c243_1 (B := B)  y1 ((3600 * v647) + (60 * v655)) v684 (by omega) (hJ683.up (by omega)) (by omega) (by omega) (by omega) (by omega) hf21 hg4 (fun v689 m687 hv689 hFv689 hJ688 hqv689_0 hqv689_1 => ?_)
                show X (EE s) d 269 171 [(0, zr 4 44), (1, zi y1), (4, zi ((3600 * v647) + (60 * v655))), (5, zi v684)] [zi v689] m687 _
                refine X.pop 172 (zi269 171) rfl rfl rfl ?_
                refine X.cut [(0, zr 4 44), (1, zi y1)] (zi269 172) rfl ?_
                refine X.goto 40 (zi269 172) rfl rfl ?_
                exact ih  m687 (B) (hJ688.up (by omega)) (by omega) (by omega) (by omega) (by omega) (Eq.trans hR (Eq.trans (if_pos h640) (Eq.trans (zb_eq hFv643) (Eq.trans (if_neg h644) (Eq.trans (zb_eq hFv647) (Eq.trans (if_neg h649) (Eq.trans (zs_eq hFv652.symm) (Eq.trans (zb_eq hFv655) (Eq.trans (if_pos h657) (Eq.trans (zn_eq hFv668.symm) (Eq.trans (if_neg h669) (Eq.trans (zs_eq hFv681.symm) (Eq.trans (zb_eq hFv684) (Eq.trans (if_pos h686) (Eq.trans (zb_eq hFv689) rfl)))))))))))))))
        · refine X.aload_n 70 (zi269 69) rfl rfl rfl ?_
          refine X.getF 73 (zi269 70) rfl rfl (by decide) rfl rfl ?_
          refine X.sipush 76 (zi269 73) rfl rfl (by decide) ?_
          refine X.iload_n 77 (zi269 76) rfl rfl rfl ?_
          refine X.iadd 78 (zi269 77) rfl rfl (by omega) ?_
          refine X.lald 79 (zi269 78) rfl rfl (by decide) rfl (by omega) ?_
          have h690 := r45_287 hJ646 4 (i := (287 + y1)) (by omega)
          refine X.ldc2 82 (zi269 79) rfl rfl (by decide) ?_
          refine X.lcmp 83 (zi269 82) rfl rfl (fun z691 hz691 => ?_)
          refine X.ifne 95 86 (zi269 83) rfl rfl rfl (fun h692 => ?_) (fun h692 => ?_)
          · have h692c : ¬ (m645 4 45 (287 + y1)) = 6 := by omega
            clear h692 hz691
            refine X.aload_n 96 (zi269 95) rfl rfl rfl ?_
            refine X.bipush 98 (zi269 96) rfl rfl (by decide) ?_
            refine X.callv 101 [zi 58] [] [(0, zr 4 44), (1, zi 58)] (zi269 98) rfl (by decide) rfl rfl (by omega) rfl rfl (by decide) rfl t272 (Nat.le_of_ble_eq_true rfl) (Nat.le_of_ble_eq_true rfl) rfl ?_
            refine c272_2 (B := B)  58 (by omega) (hJ646.up (by omega)) (by omega) (by omega) hf36 hf39 hg4 (fun m693 hFv695 hJ694 hqv695_0 hqv695_1 hqv695_2 => ?_)
            show X (EE s) d 269 101 [(0, zr 4 44), (1, zi y1), (2, zi v647)] [] m693 _
            refine X.aload_n 102 (zi269 101) rfl rfl rfl ?_
            refine X.iconst 103 (zi269 102) rfl rfl (by decide) ?_
            refine X.bipush 105 (zi269 103) rfl rfl (by decide) ?_
            refine X.callv 108 [zi 0, zi 59] [] [(0, zr 4 44), (1, zi 0), (2, zi 59)] (zi269 105) rfl (by decide) rfl rfl (by omega) rfl rfl (by decide) rfl t270 (Nat.le_of_ble_eq_true rfl) (Nat.le_of_ble_eq_true rfl) rfl ?_
            refine c270_1 (B := B)  0 59 (by omega) (hJ694.up (by omega)) (by omega) (by omega) (by omega) hf36 hf39 hg4 (fun v698 m696 hv698 hFv698 hJ697 hqv698_0 hqv698_1 hqv698_2 hqv698_3 => ?_)
            show X (EE s) d 269 108 [(0, zr 4 44), (1, zi y1), (2, zi v647)] [zi v698] m696 _
            refine X.istore_n 109 [(0, zr 4 44), (1, zi y1), (2, zi v647), (3, zi v698)] (zi269 108) rfl rfl rfl ?_
            refine X.sipush 112 (zi269 109) rfl rfl (by decide) ?_
            refine X.iload_n 113 (zi269 112) rfl rfl rfl ?_
            refine X.imul 114 (zi269 113) rfl rfl (by omega) ?_
            refine X.bipush 116 (zi269 114) rfl rfl (by decide) ?_
            refine X.iload_n 117 (zi269 116) rfl rfl rfl ?_
            refine X.imul 118 (zi269 117) rfl rfl (by omega) ?_
            refine X.iadd 119 (zi269 118) rfl rfl (by omega) ?_
            refine X.istore 121 [(0, zr 4 44), (1, zi y1), (2, zi v647), (3, zi v698), (4, zi ((3600 * v647) + (60 * v698)))] (zi269 119) rfl rfl rfl ?_
            refine X.aload_n 122 (zi269 121) rfl rfl rfl ?_
            refine X.getZ 125 9 (zi269 122) rfl rfl (by decide) rfl rfl rfl (fun h699 => ?_)
            refine X.ifne 147 128 (zi269 125) rfl rfl rfl (fun h700 => ?_) (fun h700 => ?_)
            · refine X.cut [(0, zr 4 44), (1, zi y1), (4, zi ((3600 * v647) + (60 * v698)))] (zi269 147) rfl ?_
              refine X.aload_n 148 (zi269 147) rfl rfl rfl ?_
              refine X.iconst 149 (zi269 148) rfl rfl (by decide) ?_
              refine X.iconst 150 (zi269 149) rfl rfl (by decide) ?_
              refine X.callv 153 [zi 0, zi 3] [] [(0, zr 4 44), (1, zi 0), (2, zi 3)] (zi269 150) rfl (by decide) rfl rfl (by omega) rfl rfl (by decide) rfl t270 (Nat.le_of_ble_eq_true rfl) (Nat.le_of_ble_eq_true rfl) rfl ?_
              refine c270_1 (B := B)  0 3 (by omega) (hJ697.up (by omega)) (by omega) (by omega) (by omega) hf36 hf39 hg4 (fun v703 m701 hv703 hFv703 hJ702 hqv703_0 hqv703_1 hqv703_2 hqv703_3 => ?_)
              show X (EE s) d 269 153 [(0, zr 4 44), (1, zi y1), (4, zi ((3600 * v647) + (60 * v698)))] [zi v703] m701 _
              refine X.istore 155 [(0, zr 4 44), (1, zi y1), (4, zi ((3600 * v647) + (60 * v698))), (5, zi v703)] (zi269 153) rfl rfl rfl ?_
              refine X.aload_n 156 (zi269 155) rfl rfl rfl ?_
              refine X.getZ 159 9 (zi269 156) rfl rfl (by decide) rfl rfl rfl (fun h704 => ?_)
              refine X.ifne 172 162 (zi269 159) rfl rfl rfl (fun h705 => ?_) (fun h705 => ?_)
              · refine X.cut [(0, zr 4 44), (1, zi y1)] (zi269 172) rfl ?_
                refine X.goto 40 (zi269 172) rfl rfl ?_
                exact ih  m701 (B) (hJ702.up (by omega)) (by omega) (by omega) (by omega) (by omega) (Eq.trans hR (Eq.trans (if_pos h640) (Eq.trans (zb_eq hFv643) (Eq.trans (if_neg h644) (Eq.trans (zb_eq hFv647) (Eq.trans (if_pos h649) (Eq.trans (if_neg h692c) (Eq.trans (zs_eq hFv695.symm) (Eq.trans (zb_eq hFv698) (Eq.trans (if_neg h700) (Eq.trans (zb_eq hFv703) (Eq.trans (if_neg h705) rfl))))))))))))
              · refine X.aload_n 163 (zi269 162) rfl rfl rfl ?_
                refine X.iload_n 164 (zi269 163) rfl rfl rfl ?_
                refine X.iload 166 (zi269 164) rfl rfl rfl ?_
                refine X.iload 168 (zi269 166) rfl rfl rfl ?_
                refine X.callv 171 [zi y1, zi ((3600 * v647) + (60 * v698)), zi v703] [] [(0, zr 4 44), (1, zi y1), (2, zi ((3600 * v647) + (60 * v698))), (3, zi v703)] (zi269 168) rfl (by decide) rfl rfl (by omega) rfl rfl (by decide) rfl t243 (Nat.le_of_ble_eq_true rfl) (Nat.le_of_ble_eq_true rfl) rfl ?_
                refine c243_1 (B := B)  y1 ((3600 * v647) + (60 * v698)) v703 (by omega) (hJ702.up (by omega)) (by omega) (by omega) (by omega) (by omega) hf21 hg4 (fun v708 m706 hv708 hFv708 hJ707 hqv708_0 hqv708_1 => ?_)
                show X (EE s) d 269 171 [(0, zr 4 44), (1, zi y1), (4, zi ((3600 * v647) + (60 * v698))), (5, zi v703)] [zi v708] m706 _
                refine X.pop 172 (zi269 171) rfl rfl rfl ?_
                refine X.cut [(0, zr 4 44), (1, zi y1)] (zi269 172) rfl ?_
                refine X.goto 40 (zi269 172) rfl rfl ?_
                exact ih  m706 (B) (hJ707.up (by omega)) (by omega) (by omega) (by omega) (by omega) (Eq.trans hR (Eq.trans (if_pos h640) (Eq.trans (zb_eq hFv643) (Eq.trans (if_neg h644) (Eq.trans (zb_eq hFv647) (Eq.trans (if_pos h649) (Eq.trans (if_neg h692c) (Eq.trans (zs_eq hFv695.symm) (Eq.trans (zb_eq hFv698) (Eq.trans (if_neg h700) (Eq.trans (zb_eq hFv703) (Eq.trans (if_pos h705) (Eq.trans (zb_eq hFv708) rfl)))))))))))))
            · refine X.aload_n 129 (zi269 128) rfl rfl rfl ?_
              refine X.iload_n 130 (zi269 129) rfl rfl rfl ?_
              refine X.iload 132 (zi269 130) rfl rfl rfl ?_
              refine X.callv 135 [zi y1, zi ((3600 * v647) + (60 * v698))] [] [(0, zr 4 44), (1, zi y1), (2, zi ((3600 * v647) + (60 * v698)))] (zi269 132) rfl (by decide) rfl rfl (by omega) rfl rfl (by decide) rfl t273 (Nat.le_of_ble_eq_true rfl) (Nat.le_of_ble_eq_true rfl) rfl ?_
              refine c273_1 (B := B)  y1 ((3600 * v647) + (60 * v698)) (by omega) (hJ697.up (by omega)) (by omega) (by omega) (by omega) (fun v711 hv711 hFv711 => ?_)
              show X (EE s) d 269 135 [(0, zr 4 44), (1, zi y1), (2, zi v647), (3, zi v698), (4, zi ((3600 * v647) + (60 * v698)))] [zi v711] m696 _
              refine X.ifeq 147 138 (zi269 135) rfl rfl rfl (fun h712 => ?_) (fun h712 => ?_)
              · refine X.cut [(0, zr 4 44), (1, zi y1), (4, zi ((3600 * v647) + (60 * v698)))] (zi269 147) rfl ?_
                refine X.aload_n 148 (zi269 147) rfl rfl rfl ?_
                refine X.iconst 149 (zi269 148) rfl rfl (by decide) ?_
                refine X.iconst 150 (zi269 149) rfl rfl (by decide) ?_
                refine X.callv 153 [zi 0, zi 3] [] [(0, zr 4 44), (1, zi 0), (2, zi 3)] (zi269 150) rfl (by decide) rfl rfl (by omega) rfl rfl (by decide) rfl t270 (Nat.le_of_ble_eq_true rfl) (Nat.le_of_ble_eq_true rfl) rfl ?_
                refine c270_1 (B := B)  0 3 (by omega) (hJ697.up (by omega)) (by omega) (by omega) (by omega) hf36 hf39 hg4 (fun v715 m713 hv715 hFv715 hJ714 hqv715_0 hqv715_1 hqv715_2 hqv715_3 => ?_)
                show X (EE s) d 269 153 [(0, zr 4 44), (1, zi y1), (4, zi ((3600 * v647) + (60 * v698)))] [zi v715] m713 _
                refine X.istore 155 [(0, zr 4 44), (1, zi y1), (4, zi ((3600 * v647) + (60 * v698))), (5, zi v715)] (zi269 153) rfl rfl rfl ?_
                refine X.aload_n 156 (zi269 155) rfl rfl rfl ?_
                refine X.getZ 159 9 (zi269 156) rfl rfl (by decide) rfl rfl rfl (fun h716 => ?_)
                refine X.ifne 172 162 (zi269 159) rfl rfl rfl (fun h717 => ?_) (fun h717 => ?_)
                · refine X.cut [(0, zr 4 44), (1, zi y1)] (zi269 172) rfl ?_
                  refine X.goto 40 (zi269 172) rfl rfl ?_
                  exact ih  m713 (B) (hJ714.up (by omega)) (by omega) (by omega) (by omega) (by omega) (Eq.trans hR (Eq.trans (if_pos h640) (Eq.trans (zb_eq hFv643) (Eq.trans (if_neg h644) (Eq.trans (zb_eq hFv647) (Eq.trans (if_pos h649) (Eq.trans (if_neg h692c) (Eq.trans (zs_eq hFv695.symm) (Eq.trans (zb_eq hFv698) (Eq.trans (if_pos h700) (Eq.trans (zn_eq hFv711.symm) (Eq.trans (if_pos h712) (Eq.trans (zb_eq hFv715) (Eq.trans (if_neg h717) rfl))))))))))))))
                · refine X.aload_n 163 (zi269 162) rfl rfl rfl ?_
                  refine X.iload_n 164 (zi269 163) rfl rfl rfl ?_
                  refine X.iload 166 (zi269 164) rfl rfl rfl ?_
                  refine X.iload 168 (zi269 166) rfl rfl rfl ?_
                  refine X.callv 171 [zi y1, zi ((3600 * v647) + (60 * v698)), zi v715] [] [(0, zr 4 44), (1, zi y1), (2, zi ((3600 * v647) + (60 * v698))), (3, zi v715)] (zi269 168) rfl (by decide) rfl rfl (by omega) rfl rfl (by decide) rfl t243 (Nat.le_of_ble_eq_true rfl) (Nat.le_of_ble_eq_true rfl) rfl ?_
                  refine c243_1 (B := B)  y1 ((3600 * v647) + (60 * v698)) v715 (by omega) (hJ714.up (by omega)) (by omega) (by omega) (by omega) (by omega) hf21 hg4 (fun v720 m718 hv720 hFv720 hJ719 hqv720_0 hqv720_1 => ?_)
                  show X (EE s) d 269 171 [(0, zr 4 44), (1, zi y1), (4, zi ((3600 * v647) + (60 * v698))), (5, zi v715)] [zi v720] m718 _
                  refine X.pop 172 (zi269 171) rfl rfl rfl ?_
                  refine X.cut [(0, zr 4 44), (1, zi y1)] (zi269 172) rfl ?_
                  refine X.goto 40 (zi269 172) rfl rfl ?_
                  exact ih  m718 (B) (hJ719.up (by omega)) (by omega) (by omega) (by omega) (by omega) (Eq.trans hR (Eq.trans (if_pos h640) (Eq.trans (zb_eq hFv643) (Eq.trans (if_neg h644) (Eq.trans (zb_eq hFv647) (Eq.trans (if_pos h649) (Eq.trans (if_neg h692c) (Eq.trans (zs_eq hFv695.symm) (Eq.trans (zb_eq hFv698) (Eq.trans (if_pos h700) (Eq.trans (zn_eq hFv711.symm) (Eq.trans (if_pos h712) (Eq.trans (zb_eq hFv715) (Eq.trans (if_pos h717) (Eq.trans (zb_eq hFv720) rfl)))))))))))))))
              · refine X.aload_n 139 (zi269 138) rfl rfl rfl ?_
                refine X.iconst 140 (zi269 139) rfl rfl (by decide) ?_
                refine X.aload_n 141 (zi269 140) rfl rfl rfl ?_
                refine X.getIr 144 10 (zi269 141) rfl rfl (by decide) rfl rfl rfl (fun h721 => ?_)
                refine X.callv 147 [zi 3, zi (m696 4 44 10)] [] [(0, zr 4 44), (1, zi 3), (2, zi (m696 4 44 10))] (zi269 144) rfl (by decide) rfl rfl (by omega) rfl rfl (by decide) rfl t268 (Nat.le_of_ble_eq_true rfl) (Nat.le_of_ble_eq_true rfl) rfl ?_
                refine c268_3 (B := B)  3 (m696 4 44 10) (by omega) (hJ697.up (by omega)) (by omega) (by omega) (by omega) hf36 hf39 hg4 (fun m722 hFv724 hJ723 hqv724_0 hqv724_1 hqv724_2 => ?_)
                show X (EE s) d 269 147 [(0, zr 4 44), (1, zi y1), (2, zi v647), (3, zi v698), (4, zi ((3600 * v647) + (60 * v698)))] [] m722 _
                refine X.cut [(0, zr 4 44), (1, zi y1), (4, zi ((3600 * v647) + (60 * v698)))] (zi269 147) rfl ?_
                refine X.aload_n 148 (zi269 147) rfl rfl rfl ?_
                refine X.iconst 149 (zi269 148) rfl rfl (by decide) ?_
                refine X.iconst 150 (zi269 149) rfl rfl (by decide) ?_
                refine X.callv 153 [zi 0, zi 3] [] [(0, zr 4 44), (1, zi 0), (2, zi 3)] (zi269 150) rfl (by decide) rfl rfl (by omega) rfl rfl (by decide) rfl t270 (Nat.le_of_ble_eq_true rfl) (Nat.le_of_ble_eq_true rfl) rfl ?_
                refine c270_1 (B := B)  0 3 (by omega) (hJ723.up (by omega)) (by omega) (by omega) (by omega) hf36 hf39 hg4 (fun v727 m725 hv727 hFv727 hJ726 hqv727_0 hqv727_1 hqv727_2 hqv727_3 => ?_)
                show X (EE s) d 269 153 [(0, zr 4 44), (1, zi y1), (4, zi ((3600 * v647) + (60 * v698)))] [zi v727] m725 _
                refine X.istore 155 [(0, zr 4 44), (1, zi y1), (4, zi ((3600 * v647) + (60 * v698))), (5, zi v727)] (zi269 153) rfl rfl rfl ?_
                refine X.aload_n 156 (zi269 155) rfl rfl rfl ?_
                refine X.getZ 159 9 (zi269 156) rfl rfl (by decide) rfl rfl rfl (fun h728 => ?_)
                refine X.ifne 172 162 (zi269 159) rfl rfl rfl (fun h729 => ?_) (fun h729 => ?_)
                · refine X.cut [(0, zr 4 44), (1, zi y1)] (zi269 172) rfl ?_
                  refine X.goto 40 (zi269 172) rfl rfl ?_
                  exact ih  m725 (B) (hJ726.up (by omega)) (by omega) (by omega) (by omega) (by omega) (Eq.trans hR (Eq.trans (if_pos h640) (Eq.trans (zb_eq hFv643) (Eq.trans (if_neg h644) (Eq.trans (zb_eq hFv647) (Eq.trans (if_pos h649) (Eq.trans (if_neg h692c) (Eq.trans (zs_eq hFv695.symm) (Eq.trans (zb_eq hFv698) (Eq.trans (if_pos h700) (Eq.trans (zn_eq hFv711.symm) (Eq.trans (if_neg h712) (Eq.trans (zs_eq hFv724.symm) (Eq.trans (zb_eq hFv727) (Eq.trans (if_neg h729) rfl)))))))))))))))
                · refine X.aload_n 163 (zi269 162) rfl rfl rfl ?_
                  refine X.iload_n 164 (zi269 163) rfl rfl rfl ?_
                  refine X.iload 166 (zi269 164) rfl rfl rfl ?_
                  refine X.iload 168 (zi269 166) rfl rfl rfl ?_
                  refine X.callv 171 [zi y1, zi ((3600 * v647) + (60 * v698)), zi v727] [] [(0, zr 4 44), (1, zi y1), (2, zi ((3600 * v647) + (60 * v698))), (3, zi v727)] (zi269 168) rfl (by decide) rfl rfl (by omega) rfl rfl (by decide) rfl t243 (Nat.le_of_ble_eq_true rfl) (Nat.le_of_ble_eq_true rfl) rfl ?_
                  refine c243_1 (B := B)  y1 ((3600 * v647) + (60 * v698)) v727 (by omega) (hJ726.up (by omega)) (by omega) (by omega) (by omega) (by omega) hf21 hg4 (fun v732 m730 hv732 hFv732 hJ731 hqv732_0 hqv732_1 => ?_)
                  show X (EE s) d 269 171 [(0, zr 4 44), (1, zi y1), (4, zi ((3600 * v647) + (60 * v698))), (5, zi v727)] [zi v732] m730 _
                  refine X.pop 172 (zi269 171) rfl rfl rfl ?_
                  refine X.cut [(0, zr 4 44), (1, zi y1)] (zi269 172) rfl ?_
                  refine X.goto 40 (zi269 172) rfl rfl ?_
                  exact ih  m730 (B) (hJ731.up (by omega)) (by omega) (by omega) (by omega) (by omega) (Eq.trans hR (Eq.trans (if_pos h640) (Eq.trans (zb_eq hFv643) (Eq.trans (if_neg h644) (Eq.trans (zb_eq hFv647) (Eq.trans (if_pos h649) (Eq.trans (if_neg h692c) (Eq.trans (zs_eq hFv695.symm) (Eq.trans (zb_eq hFv698) (Eq.trans (if_pos h700) (Eq.trans (zn_eq hFv711.symm) (Eq.trans (if_neg h712) (Eq.trans (zs_eq hFv724.symm) (Eq.trans (zb_eq hFv727) (Eq.trans (if_pos h729) (Eq.trans (zb_eq hFv732) rfl))))))))))))))))
          · have h692c : (m645 4 45 (287 + y1)) = 6 := by omega
            clear h692 hz691
            refine X.aload_n 87 (zi269 86) rfl rfl rfl ?_
            refine X.iconst 88 (zi269 87) rfl rfl (by decide) ?_
            refine X.aload_n 89 (zi269 88) rfl rfl rfl ?_
            refine X.getIr 92 10 (zi269 89) rfl rfl (by decide) rfl rfl rfl (fun h733 => ?_)
            refine X.callv 95 [zi 4, zi (m645 4 44 10)] [] [(0, zr 4 44), (1, zi 4), (2, zi (m645 4 44 10))] (zi269 92) rfl (by decide) rfl rfl (by omega) rfl rfl (by decide) rfl t268 (Nat.le_of_ble_eq_true rfl) (Nat.le_of_ble_eq_true rfl) rfl ?_
            refine c268_4 (B := B)  4 (m645 4 44 10) (by omega) (hJ646.up (by omega)) (by omega) (by omega) (by omega) hf36 hf39 hg4 (fun m734 hFv736 hJ735 hqv736_0 hqv736_1 hqv736_2 => ?_)
            show X (EE s) d 269 95 [(0, zr 4 44), (1, zi y1), (2, zi v647)] [] m734 _
            refine X.aload_n 96 (zi269 95) rfl rfl rfl ?_
            refine X.bipush 98 (zi269 96) rfl rfl (by decide) ?_
            refine X.callv 101 [zi 58] [] [(0, zr 4 44), (1, zi 58)] (zi269 98) rfl (by decide) rfl rfl (by omega) rfl rfl (by decide) rfl t272 (Nat.le_of_ble_eq_true rfl) (Nat.le_of_ble_eq_true rfl) rfl ?_
            refine c272_2 (B := B)  58 (by omega) (hJ735.up (by omega)) (by omega) (by omega) hf36 hf39 hg4 (fun m737 hFv739 hJ738 hqv739_0 hqv739_1 hqv739_2 => ?_)
            show X (EE s) d 269 101 [(0, zr 4 44), (1, zi y1), (2, zi v647)] [] m737 _
            refine X.aload_n 102 (zi269 101) rfl rfl rfl ?_
            refine X.iconst 103 (zi269 102) rfl rfl (by decide) ?_
            refine X.bipush 105 (zi269 103) rfl rfl (by decide) ?_
            refine X.callv 108 [zi 0, zi 59] [] [(0, zr 4 44), (1, zi 0), (2, zi 59)] (zi269 105) rfl (by decide) rfl rfl (by omega) rfl rfl (by decide) rfl t270 (Nat.le_of_ble_eq_true rfl) (Nat.le_of_ble_eq_true rfl) rfl ?_
            refine c270_1 (B := B)  0 59 (by omega) (hJ738.up (by omega)) (by omega) (by omega) (by omega) hf36 hf39 hg4 (fun v742 m740 hv742 hFv742 hJ741 hqv742_0 hqv742_1 hqv742_2 hqv742_3 => ?_)
            show X (EE s) d 269 108 [(0, zr 4 44), (1, zi y1), (2, zi v647)] [zi v742] m740 _
            refine X.istore_n 109 [(0, zr 4 44), (1, zi y1), (2, zi v647), (3, zi v742)] (zi269 108) rfl rfl rfl ?_
            refine X.sipush 112 (zi269 109) rfl rfl (by decide) ?_
            refine X.iload_n 113 (zi269 112) rfl rfl rfl ?_
            refine X.imul 114 (zi269 113) rfl rfl (by omega) ?_
            refine X.bipush 116 (zi269 114) rfl rfl (by decide) ?_
            refine X.iload_n 117 (zi269 116) rfl rfl rfl ?_
            refine X.imul 118 (zi269 117) rfl rfl (by omega) ?_
            refine X.iadd 119 (zi269 118) rfl rfl (by omega) ?_
            refine X.istore 121 [(0, zr 4 44), (1, zi y1), (2, zi v647), (3, zi v742), (4, zi ((3600 * v647) + (60 * v742)))] (zi269 119) rfl rfl rfl ?_
            refine X.aload_n 122 (zi269 121) rfl rfl rfl ?_
            refine X.getZ 125 9 (zi269 122) rfl rfl (by decide) rfl rfl rfl (fun h743 => ?_)
            refine X.ifne 147 128 (zi269 125) rfl rfl rfl (fun h744 => ?_) (fun h744 => ?_)
            · refine X.cut [(0, zr 4 44), (1, zi y1), (4, zi ((3600 * v647) + (60 * v742)))] (zi269 147) rfl ?_
              refine X.aload_n 148 (zi269 147) rfl rfl rfl ?_
              refine X.iconst 149 (zi269 148) rfl rfl (by decide) ?_
              refine X.iconst 150 (zi269 149) rfl rfl (by decide) ?_
              refine X.callv 153 [zi 0, zi 3] [] [(0, zr 4 44), (1, zi 0), (2, zi 3)] (zi269 150) rfl (by decide) rfl rfl (by omega) rfl rfl (by decide) rfl t270 (Nat.le_of_ble_eq_true rfl) (Nat.le_of_ble_eq_true rfl) rfl ?_
              refine c270_1 (B := B)  0 3 (by omega) (hJ741.up (by omega)) (by omega) (by omega) (by omega) hf36 hf39 hg4 (fun v747 m745 hv747 hFv747 hJ746 hqv747_0 hqv747_1 hqv747_2 hqv747_3 => ?_)
              show X (EE s) d 269 153 [(0, zr 4 44), (1, zi y1), (4, zi ((3600 * v647) + (60 * v742)))] [zi v747] m745 _
              refine X.istore 155 [(0, zr 4 44), (1, zi y1), (4, zi ((3600 * v647) + (60 * v742))), (5, zi v747)] (zi269 153) rfl rfl rfl ?_
              refine X.aload_n 156 (zi269 155) rfl rfl rfl ?_
              refine X.getZ 159 9 (zi269 156) rfl rfl (by decide) rfl rfl rfl (fun h748 => ?_)
              refine X.ifne 172 162 (zi269 159) rfl rfl rfl (fun h749 => ?_) (fun h749 => ?_)
              · refine X.cut [(0, zr 4 44), (1, zi y1)] (zi269 172) rfl ?_
                refine X.goto 40 (zi269 172) rfl rfl ?_
                exact ih  m745 (B) (hJ746.up (by omega)) (by omega) (by omega) (by omega) (by omega) (Eq.trans hR (Eq.trans (if_pos h640) (Eq.trans (zb_eq hFv643) (Eq.trans (if_neg h644) (Eq.trans (zb_eq hFv647) (Eq.trans (if_pos h649) (Eq.trans (if_pos h692c) (Eq.trans (zs_eq hFv736.symm) (Eq.trans (zs_eq hFv739.symm) (Eq.trans (zb_eq hFv742) (Eq.trans (if_neg h744) (Eq.trans (zb_eq hFv747) (Eq.trans (if_neg h749) rfl)))))))))))))
              · refine X.aload_n 163 (zi269 162) rfl rfl rfl ?_
                refine X.iload_n 164 (zi269 163) rfl rfl rfl ?_
                refine X.iload 166 (zi269 164) rfl rfl rfl ?_
                refine X.iload 168 (zi269 166) rfl rfl rfl ?_
                refine X.callv 171 [zi y1, zi ((3600 * v647) + (60 * v742)), zi v747] [] [(0, zr 4 44), (1, zi y1), (2, zi ((3600 * v647) + (60 * v742))), (3, zi v747)] (zi269 168) rfl (by decide) rfl rfl (by omega) rfl rfl (by decide) rfl t243 (Nat.le_of_ble_eq_true rfl) (Nat.le_of_ble_eq_true rfl) rfl ?_
                refine c243_1 (B := B)  y1 ((3600 * v647) + (60 * v742)) v747 (by omega) (hJ746.up (by omega)) (by omega) (by omega) (by omega) (by omega) hf21 hg4 (fun v752 m750 hv752 hFv752 hJ751 hqv752_0 hqv752_1 => ?_)
                show X (EE s) d 269 171 [(0, zr 4 44), (1, zi y1), (4, zi ((3600 * v647) + (60 * v742))), (5, zi v747)] [zi v752] m750 _
                refine X.pop 172 (zi269 171) rfl rfl rfl ?_
                refine X.cut [(0, zr 4 44), (1, zi y1)] (zi269 172) rfl ?_
                refine X.goto 40 (zi269 172) rfl rfl ?_
                exact ih  m750 (B) (hJ751.up (by omega)) (by omega) (by omega) (by omega) (by omega) (Eq.trans hR (Eq.trans (if_pos h640) (Eq.trans (zb_eq hFv643) (Eq.trans (if_neg h644) (Eq.trans (zb_eq hFv647) (Eq.trans (if_pos h649) (Eq.trans (if_pos h692c) (Eq.trans (zs_eq hFv736.symm) (Eq.trans (zs_eq hFv739.symm) (Eq.trans (zb_eq hFv742) (Eq.trans (if_neg h744) (Eq.trans (zb_eq hFv747) (Eq.trans (if_pos h749) (Eq.trans (zb_eq hFv752) rfl))))))))))))))
            · refine X.aload_n 129 (zi269 128) rfl rfl rfl ?_
              refine X.iload_n 130 (zi269 129) rfl rfl rfl ?_
              refine X.iload 132 (zi269 130) rfl rfl rfl ?_
              refine X.callv 135 [zi y1, zi ((3600 * v647) + (60 * v742))] [] [(0, zr 4 44), (1, zi y1), (2, zi ((3600 * v647) + (60 * v742)))] (zi269 132) rfl (by decide) rfl rfl (by omega) rfl rfl (by decide) rfl t273 (Nat.le_of_ble_eq_true rfl) (Nat.le_of_ble_eq_true rfl) rfl ?_
              refine c273_1 (B := B)  y1 ((3600 * v647) + (60 * v742)) (by omega) (hJ741.up (by omega)) (by omega) (by omega) (by omega) (fun v755 hv755 hFv755 => ?_)
              show X (EE s) d 269 135 [(0, zr 4 44), (1, zi y1), (2, zi v647), (3, zi v742), (4, zi ((3600 * v647) + (60 * v742)))] [zi v755] m740 _
              refine X.ifeq 147 138 (zi269 135) rfl rfl rfl (fun h756 => ?_) (fun h756 => ?_)
              · refine X.cut [(0, zr 4 44), (1, zi y1), (4, zi ((3600 * v647) + (60 * v742)))] (zi269 147) rfl ?_
                refine X.aload_n 148 (zi269 147) rfl rfl rfl ?_
                refine X.iconst 149 (zi269 148) rfl rfl (by decide) ?_
                refine X.iconst 150 (zi269 149) rfl rfl (by decide) ?_
                refine X.callv 153 [zi 0, zi 3] [] [(0, zr 4 44), (1, zi 0), (2, zi 3)] (zi269 150) rfl (by decide) rfl rfl (by omega) rfl rfl (by decide) rfl t270 (Nat.le_of_ble_eq_true rfl) (Nat.le_of_ble_eq_true rfl) rfl ?_
                refine c270_1 (B := B)  0 3 (by omega) (hJ741.up (by omega)) (by omega) (by omega) (by omega) hf36 hf39 hg4 (fun v759 m757 hv759 hFv759 hJ758 hqv759_0 hqv759_1 hqv759_2 hqv759_3 => ?_)
                show X (EE s) d 269 153 [(0, zr 4 44), (1, zi y1), (4, zi ((3600 * v647) + (60 * v742)))] [zi v759] m757 _
                refine X.istore 155 [(0, zr 4 44), (1, zi y1), (4, zi ((3600 * v647) + (60 * v742))), (5, zi v759)] (zi269 153) rfl rfl rfl ?_
                refine X.aload_n 156 (zi269 155) rfl rfl rfl ?_
                refine X.getZ 159 9 (zi269 156) rfl rfl (by decide) rfl rfl rfl (fun h760 => ?_)
                refine X.ifne 172 162 (zi269 159) rfl rfl rfl (fun h761 => ?_) (fun h761 => ?_)
                · refine X.cut [(0, zr 4 44), (1, zi y1)] (zi269 172) rfl ?_
                  refine X.goto 40 (zi269 172) rfl rfl ?_
                  exact ih  m757 (B) (hJ758.up (by omega)) (by omega) (by omega) (by omega) (by omega) (Eq.trans hR (Eq.trans (if_pos h640) (Eq.trans (zb_eq hFv643) (Eq.trans (if_neg h644) (Eq.trans (zb_eq hFv647) (Eq.trans (if_pos h649) (Eq.trans (if_pos h692c) (Eq.trans (zs_eq hFv736.symm) (Eq.trans (zs_eq hFv739.symm) (Eq.trans (zb_eq hFv742) (Eq.trans (if_pos h744) (Eq.trans (zn_eq hFv755.symm) (Eq.trans (if_pos h756) (Eq.trans (zb_eq hFv759) (Eq.trans (if_neg h761) rfl)))))))))))))))
                · refine X.aload_n 163 (zi269 162) rfl rfl rfl ?_
                  refine X.iload_n 164 (zi269 163) rfl rfl rfl ?_
                  refine X.iload 166 (zi269 164) rfl rfl rfl ?_
                  refine X.iload 168 (zi269 166) rfl rfl rfl ?_
                  refine X.callv 171 [zi y1, zi ((3600 * v647) + (60 * v742)), zi v759] [] [(0, zr 4 44), (1, zi y1), (2, zi ((3600 * v647) + (60 * v742))), (3, zi v759)] (zi269 168) rfl (by decide) rfl rfl (by omega) rfl rfl (by decide) rfl t243 (Nat.le_of_ble_eq_true rfl) (Nat.le_of_ble_eq_true rfl) rfl ?_
                  refine c243_1 (B := B)  y1 ((3600 * v647) + (60 * v742)) v759 (by omega) (hJ758.up (by omega)) (by omega) (by omega) (by omega) (by omega) hf21 hg4 (fun v764 m762 hv764 hFv764 hJ763 hqv764_0 hqv764_1 => ?_)
                  show X (EE s) d 269 171 [(0, zr 4 44), (1, zi y1), (4, zi ((3600 * v647) + (60 * v742))), (5, zi v759)] [zi v764] m762 _
                  refine X.pop 172 (zi269 171) rfl rfl rfl ?_
                  refine X.cut [(0, zr 4 44), (1, zi y1)] (zi269 172) rfl ?_
                  refine X.goto 40 (zi269 172) rfl rfl ?_
                  exact ih  m762 (B) (hJ763.up (by omega)) (by omega) (by omega) (by omega) (by omega) (Eq.trans hR (Eq.trans (if_pos h640) (Eq.trans (zb_eq hFv643) (Eq.trans (if_neg h644) (Eq.trans (zb_eq hFv647) (Eq.trans (if_pos h649) (Eq.trans (if_pos h692c) (Eq.trans (zs_eq hFv736.symm) (Eq.trans (zs_eq hFv739.symm) (Eq.trans (zb_eq hFv742) (Eq.trans (if_pos h744) (Eq.trans (zn_eq hFv755.symm) (Eq.trans (if_pos h756) (Eq.trans (zb_eq hFv759) (Eq.trans (if_pos h761) (Eq.trans (zb_eq hFv764) rfl))))))))))))))))
              · refine X.aload_n 139 (zi269 138) rfl rfl rfl ?_
                refine X.iconst 140 (zi269 139) rfl rfl (by decide) ?_
                refine X.aload_n 141 (zi269 140) rfl rfl rfl ?_
                refine X.getIr 144 10 (zi269 141) rfl rfl (by decide) rfl rfl rfl (fun h765 => ?_)
                refine X.callv 147 [zi 3, zi (m740 4 44 10)] [] [(0, zr 4 44), (1, zi 3), (2, zi (m740 4 44 10))] (zi269 144) rfl (by decide) rfl rfl (by omega) rfl rfl (by decide) rfl t268 (Nat.le_of_ble_eq_true rfl) (Nat.le_of_ble_eq_true rfl) rfl ?_
                refine c268_3 (B := B)  3 (m740 4 44 10) (by omega) (hJ741.up (by omega)) (by omega) (by omega) (by omega) hf36 hf39 hg4 (fun m766 hFv768 hJ767 hqv768_0 hqv768_1 hqv768_2 => ?_)
                show X (EE s) d 269 147 [(0, zr 4 44), (1, zi y1), (2, zi v647), (3, zi v742), (4, zi ((3600 * v647) + (60 * v742)))] [] m766 _
                refine X.cut [(0, zr 4 44), (1, zi y1), (4, zi ((3600 * v647) + (60 * v742)))] (zi269 147) rfl ?_
                refine X.aload_n 148 (zi269 147) rfl rfl rfl ?_
                refine X.iconst 149 (zi269 148) rfl rfl (by decide) ?_
                refine X.iconst 150 (zi269 149) rfl rfl (by decide) ?_
                refine X.callv 153 [zi 0, zi 3] [] [(0, zr 4 44), (1, zi 0), (2, zi 3)] (zi269 150) rfl (by decide) rfl rfl (by omega) rfl rfl (by decide) rfl t270 (Nat.le_of_ble_eq_true rfl) (Nat.le_of_ble_eq_true rfl) rfl ?_
                refine c270_1 (B := B)  0 3 (by omega) (hJ767.up (by omega)) (by omega) (by omega) (by omega) hf36 hf39 hg4 (fun v771 m769 hv771 hFv771 hJ770 hqv771_0 hqv771_1 hqv771_2 hqv771_3 => ?_)
                show X (EE s) d 269 153 [(0, zr 4 44), (1, zi y1), (4, zi ((3600 * v647) + (60 * v742)))] [zi v771] m769 _
                refine X.istore 155 [(0, zr 4 44), (1, zi y1), (4, zi ((3600 * v647) + (60 * v742))), (5, zi v771)] (zi269 153) rfl rfl rfl ?_
                refine X.aload_n 156 (zi269 155) rfl rfl rfl ?_
                refine X.getZ 159 9 (zi269 156) rfl rfl (by decide) rfl rfl rfl (fun h772 => ?_)
                refine X.ifne 172 162 (zi269 159) rfl rfl rfl (fun h773 => ?_) (fun h773 => ?_)
                · refine X.cut [(0, zr 4 44), (1, zi y1)] (zi269 172) rfl ?_
                  refine X.goto 40 (zi269 172) rfl rfl ?_
                  exact ih  m769 (B) (hJ770.up (by omega)) (by omega) (by omega) (by omega) (by omega) (Eq.trans hR (Eq.trans (if_pos h640) (Eq.trans (zb_eq hFv643) (Eq.trans (if_neg h644) (Eq.trans (zb_eq hFv647) (Eq.trans (if_pos h649) (Eq.trans (if_pos h692c) (Eq.trans (zs_eq hFv736.symm) (Eq.trans (zs_eq hFv739.symm) (Eq.trans (zb_eq hFv742) (Eq.trans (if_pos h744) (Eq.trans (zn_eq hFv755.symm) (Eq.trans (if_neg h756) (Eq.trans (zs_eq hFv768.symm) (Eq.trans (zb_eq hFv771) (Eq.trans (if_neg h773) rfl))))))))))))))))
                · refine X.aload_n 163 (zi269 162) rfl rfl rfl ?_
                  refine X.iload_n 164 (zi269 163) rfl rfl rfl ?_
                  refine X.iload 166 (zi269 164) rfl rfl rfl ?_
                  refine X.iload 168 (zi269 166) rfl rfl rfl ?_
                  refine X.callv 171 [zi y1, zi ((3600 * v647) + (60 * v742)), zi v771] [] [(0, zr 4 44), (1, zi y1), (2, zi ((3600 * v647) + (60 * v742))), (3, zi v771)] (zi269 168) rfl (by decide) rfl rfl (by omega) rfl rfl (by decide) rfl t243 (Nat.le_of_ble_eq_true rfl) (Nat.le_of_ble_eq_true rfl) rfl ?_
                  refine c243_1 (B := B)  y1 ((3600 * v647) + (60 * v742)) v771 (by omega) (hJ770.up (by omega)) (by omega) (by omega) (by omega) (by omega) hf21 hg4 (fun v776 m774 hv776 hFv776 hJ775 hqv776_0 hqv776_1 => ?_)
                  show X (EE s) d 269 171 [(0, zr 4 44), (1, zi y1), (4, zi ((3600 * v647) + (60 * v742))), (5, zi v771)] [zi v776] m774 _
                  refine X.pop 172 (zi269 171) rfl rfl rfl ?_
                  refine X.cut [(0, zr 4 44), (1, zi y1)] (zi269 172) rfl ?_
                  refine X.goto 40 (zi269 172) rfl rfl ?_
                  exact ih  m774 (B) (hJ775.up (by omega)) (by omega) (by omega) (by omega) (by omega) (Eq.trans hR (Eq.trans (if_pos h640) (Eq.trans (zb_eq hFv643) (Eq.trans (if_neg h644) (Eq.trans (zb_eq hFv647) (Eq.trans (if_pos h649) (Eq.trans (if_pos h692c) (Eq.trans (zs_eq hFv736.symm) (Eq.trans (zs_eq hFv739.symm) (Eq.trans (zb_eq hFv742) (Eq.trans (if_pos h744) (Eq.trans (zn_eq hFv755.symm) (Eq.trans (if_neg h756) (Eq.trans (zs_eq hFv768.symm) (Eq.trans (zb_eq hFv771) (Eq.trans (if_pos h773) (Eq.trans (zb_eq hFv776) rfl)))))))))))))))))
-- WorkMeterModel.tableLine
noncomputable def f269_1 (m : zM) : zM :=
  zb (f270_1 0 7 m) fun v503 m501 =>
  if (m501 4 44 9) = 0 then
  (if (m501 4 49 v503) = 0 then
  (zs (z_upd m501 4 49 v503 1) fun m516 =>
  fl269_40_1 (fun m518 =>
  m518) v503 (zfu 605) m516)
  else
  (zs (f268_1 3 (m501 4 44 10) m501) fun m525 =>
  zs (z_upd m525 4 49 v503 1) fun m528 =>
  fl269_40_1 (fun m530 =>
  m530) v503 (zfu 605) m528))
  else
  (zs (z_upd m501 4 49 v503 1) fun m506 =>
  fl269_40_1 (fun m508 =>
  m508) v503 (zfu 605) m506)
-- WorkMeterModel.tableLine
theorem c269_1 {s : Nat × (Nat → Int32)} {S : zS} {m0 m : zM} {B : Int} {d : Nat} {Q : Option zV → zM → Prop} (hd : 15 ≤ d) (hJ : J S m0 B m) (hB : B + 0 ≤ 1000000000) (hf21 : ¬ S.1 21) (hf36 : ¬ S.1 36) (hf39 : ¬ S.1 39) (hg4 : ¬ S.2.1 4) (hQ : ∀ m', f269_1 m = m' → J S m0 (B) m' → (m 4 44 8 ≤ m' 4 44 8) → (m 4 44 9 ≤ m' 4 44 9) → Q none m') : X (EE s) d 269 0 [(0, zr 4 44)] [] m Q := by
  refine X.aload_n 1 (zi269 0) rfl rfl rfl ?_
  refine X.iconst 2 (zi269 1) rfl rfl (by decide) ?_
  refine X.bipush 4 (zi269 2) rfl rfl (by decide) ?_
  refine X.callv 7 [zi 0, zi 7] [] [(0, zr 4 44), (1, zi 0), (2, zi 7)] (zi269 4) rfl (by decide) rfl rfl (by omega) rfl rfl (by decide) rfl t270 (Nat.le_of_ble_eq_true rfl) (Nat.le_of_ble_eq_true rfl) rfl ?_
  refine c270_1 (B := B)  0 7 (by omega) (hJ.up (by omega)) (by omega) (by omega) (by omega) hf36 hf39 hg4 (fun v503 m501 hv503 hFv503 hJ502 hqv503_0 hqv503_1 hqv503_2 hqv503_3 => ?_)
  show X (EE s) d 269 7 [(0, zr 4 44)] [zi v503] m501 _
  refine X.istore_n 8 [(0, zr 4 44), (1, zi v503)] (zi269 7) rfl rfl rfl ?_
  refine X.aload_n 9 (zi269 8) rfl rfl rfl ?_
  refine X.getZ 12 9 (zi269 9) rfl rfl (by decide) rfl rfl rfl (fun h504 => ?_)
  refine X.ifne 33 15 (zi269 12) rfl rfl rfl (fun h505 => ?_) (fun h505 => ?_)
  · refine X.aload_n 34 (zi269 33) rfl rfl rfl ?_
    refine X.getF 37 (zi269 34) rfl rfl (by decide) rfl rfl ?_
    refine X.iload_n 38 (zi269 37) rfl rfl rfl ?_
    refine X.iconst 39 (zi269 38) rfl rfl (by decide) ?_
    refine X.zast' 40 (zi269 39) rfl rfl (by decide) rfl (by omega) (by omega) (fun hrm506 m506 hm506 => ?_)
    have hJ507 := w49_0 hJ502 hm506 (by omega) hrm506 hf39 hg4
    have wmm506_8 : m506 4 44 8 = m501 4 44 8 := by rw [hm506]; exact z_upd_o _ _ rfl
    have wmm506_9 : m506 4 44 9 = m501 4 44 9 := by rw [hm506]; exact z_upd_o _ _ rfl
    have wmm506_10 : m506 4 44 10 = m501 4 44 10 := by rw [hm506]; exact z_upd_o _ _ rfl
    have hz605 := zfu_eq 605
    have zf512 := r44_8 hJ507 4
    have zf513 := r44_9 hJ507 4
    refine l269_40_1 (s := s) (d := d) (R0 := (f269_1 m))  v503 (m506 4 44 8) (m506 4 44 9) (BE := B + 0) (by omega) (by omega) (by omega) hf21 hf36 hf39 hg4 (fun  m508 B509 hJ510 hBB509 hrlm508_0 hrlm508_1 hR511 => ?_) (zfu 605)  m506 (B) (hJ507.up (by omega)) (by omega) (by omega) (by omega) (by omega) (Eq.trans (zb_eq hFv503) (Eq.trans (if_neg h505) (Eq.trans (zs_eq hm506) rfl)))
    refine X.retv (zi269 175) rfl t269 ?_
    exact hQ  m508  (Eq.trans hR511 rfl) (hJ510.up (by omega)) (by omega) (by omega)
  · refine X.aload_n 16 (zi269 15) rfl rfl rfl ?_
    refine X.getF 19 (zi269 16) rfl rfl (by decide) rfl rfl ?_
    refine X.iload_n 20 (zi269 19) rfl rfl rfl ?_
    refine X.zald 21 (zi269 20) rfl rfl (by decide) rfl (by omega) (fun h514 => ?_)
    refine X.ifeq 33 24 (zi269 21) rfl rfl rfl (fun h515 => ?_) (fun h515 => ?_)
    · refine X.aload_n 34 (zi269 33) rfl rfl rfl ?_
      refine X.getF 37 (zi269 34) rfl rfl (by decide) rfl rfl ?_
      refine X.iload_n 38 (zi269 37) rfl rfl rfl ?_
      refine X.iconst 39 (zi269 38) rfl rfl (by decide) ?_
      refine X.zast' 40 (zi269 39) rfl rfl (by decide) rfl (by omega) (by omega) (fun hrm516 m516 hm516 => ?_)
      have hJ517 := w49_0 hJ502 hm516 (by omega) hrm516 hf39 hg4
      have wmm516_8 : m516 4 44 8 = m501 4 44 8 := by rw [hm516]; exact z_upd_o _ _ rfl
      have wmm516_9 : m516 4 44 9 = m501 4 44 9 := by rw [hm516]; exact z_upd_o _ _ rfl
      have wmm516_10 : m516 4 44 10 = m501 4 44 10 := by rw [hm516]; exact z_upd_o _ _ rfl
      have hz605 := zfu_eq 605
      have zf522 := r44_8 hJ517 4
      have zf523 := r44_9 hJ517 4
      refine l269_40_1 (s := s) (d := d) (R0 := (f269_1 m))  v503 (m516 4 44 8) (m516 4 44 9) (BE := B + 0) (by omega) (by omega) (by omega) hf21 hf36 hf39 hg4 (fun  m518 B519 hJ520 hBB519 hrlm518_0 hrlm518_1 hR521 => ?_) (zfu 605)  m516 (B) (hJ517.up (by omega)) (by omega) (by omega) (by omega) (by omega) (Eq.trans (zb_eq hFv503) (Eq.trans (if_pos h505) (Eq.trans (if_pos h515) (Eq.trans (zs_eq hm516) rfl))))
      refine X.retv (zi269 175) rfl t269 ?_
      exact hQ  m518  (Eq.trans hR521 rfl) (hJ520.up (by omega)) (by omega) (by omega)
    · refine X.aload_n 25 (zi269 24) rfl rfl rfl ?_
      refine X.iconst 26 (zi269 25) rfl rfl (by decide) ?_
      refine X.aload_n 27 (zi269 26) rfl rfl rfl ?_
      refine X.getIr 30 10 (zi269 27) rfl rfl (by decide) rfl rfl rfl (fun h524 => ?_)
      refine X.callv 33 [zi 3, zi (m501 4 44 10)] [] [(0, zr 4 44), (1, zi 3), (2, zi (m501 4 44 10))] (zi269 30) rfl (by decide) rfl rfl (by omega) rfl rfl (by decide) rfl t268 (Nat.le_of_ble_eq_true rfl) (Nat.le_of_ble_eq_true rfl) rfl ?_
      refine c268_3 (B := B)  3 (m501 4 44 10) (by omega) (hJ502.up (by omega)) (by omega) (by omega) (by omega) hf36 hf39 hg4 (fun m525 hFv527 hJ526 hqv527_0 hqv527_1 hqv527_2 => ?_)
      show X (EE s) d 269 33 [(0, zr 4 44), (1, zi v503)] [] m525 _
      refine X.aload_n 34 (zi269 33) rfl rfl rfl ?_
      refine X.getF 37 (zi269 34) rfl rfl (by decide) rfl rfl ?_
      refine X.iload_n 38 (zi269 37) rfl rfl rfl ?_
      refine X.iconst 39 (zi269 38) rfl rfl (by decide) ?_
      refine X.zast' 40 (zi269 39) rfl rfl (by decide) rfl (by omega) (by omega) (fun hrm528 m528 hm528 => ?_)
      have hJ529 := w49_0 hJ526 hm528 (by omega) hrm528 hf39 hg4
      have wmm528_8 : m528 4 44 8 = m525 4 44 8 := by rw [hm528]; exact z_upd_o _ _ rfl
      have wmm528_9 : m528 4 44 9 = m525 4 44 9 := by rw [hm528]; exact z_upd_o _ _ rfl
      have wmm528_10 : m528 4 44 10 = m525 4 44 10 := by rw [hm528]; exact z_upd_o _ _ rfl
      have hz605 := zfu_eq 605
      have zf534 := r44_8 hJ529 4
      have zf535 := r44_9 hJ529 4
      refine l269_40_1 (s := s) (d := d) (R0 := (f269_1 m))  v503 (m528 4 44 8) (m528 4 44 9) (BE := B + 0) (by omega) (by omega) (by omega) hf21 hf36 hf39 hg4 (fun  m530 B531 hJ532 hBB531 hrlm530_0 hrlm530_1 hR533 => ?_) (zfu 605)  m528 (B) (hJ529.up (by omega)) (by omega) (by omega) (by omega) (by omega) (Eq.trans (zb_eq hFv503) (Eq.trans (if_pos h505) (Eq.trans (if_neg h515) (Eq.trans (zs_eq hFv527.symm) (Eq.trans (zs_eq hm528) rfl)))))
      refine X.retv (zi269 175) rfl t269 ?_
      exact hQ  m530  (Eq.trans hR533 rfl) (hJ532.up (by omega)) (by omega) (by omega)
noncomputable def fl264_123_1_b (self : Int → zM → zM) (k151 : zM → zM) (y3 : Int) (m : zM) : zM :=
  if 4 ≤ y3 then
  (k151 m)
  else
  (zb (f270_1 0 100 m) fun v510 m508 =>
  zs (z_upd m508 4 45 (28 + y3) v510) fun m511 =>
  self (y3 + 1) m511)
noncomputable def fl264_123_1 (k151 : zM → zM) : Nat → Int → zM → zM
  | 0 => fun y3 m => m
  | n + 1 => fl264_123_1_b (fl264_123_1 k151 n) k151
theorem l264_123_1 {s : Nat × (Nat → Int32)} {S : zS} {m0 : zM} {d : Nat} {Q : Option zV → zM → Prop} {R0 : zM} {k151 : zM → zM} (c8 c9 : Int) (BE : Int) (hE : BE ≤ 1000000000) (hd : 15 ≤ d) (hf23 : ¬ S.1 23) (hf36 : ¬ S.1 36) (hf39 : ¬ S.1 39) (hg4 : ¬ S.2.1 4)
    (K151 : ∀ (m' : zM) (B' : Int), J S m0 B' m' → B' ≤ BE → (c8 ≤ m' 4 44 8) → (c9 ≤ m' 4 44 9) → R0 = k151 m' → X (EE s) d 264 151 [(0, zr 4 44)] [] m' Q) :
    ∀ (n : Nat) (y3 : Int) (m : zM) (B : Int), J S m0 B m → B + 0 * (n : Int) ≤ BE → (0 ≤ y3 ∧ y3 ≤ 4) → (c8 ≤ m 4 44 8) → (c9 ≤ m 4 44 9) → 4 - y3 < (n : Int) → R0 = fl264_123_1 k151 n y3 m → X (EE s) d 264 123 [(0, zr 4 44), (3, zi y3)] [] m Q := by
  intro n
  induction n with
  | zero =>
    intro y3 m B hJ hB hy3 hr0 hr1 hn hR
    exfalso
    omega
  | succ n ih =>
    intro y3 m B hJ hB hy3 hr0 hr1 hn hR
    replace hR : R0 = fl264_123_1_b (fl264_123_1 k151 n) k151 y3 m := hR
    refine X.iload_n 124 (zi264 123) rfl rfl rfl ?_
    refine X.iconst 125 (zi264 124) rfl rfl (by decide) ?_
    refine X.icmpge 151 128 (zi264 125) rfl rfl rfl (fun h507 => ?_) (fun h507 => ?_)
    · refine X.cut [(0, zr 4 44)] (zi264 151) rfl ?_
      exact K151  m (B) (hJ.up (by omega)) (by omega) (by omega) (by omega) (Eq.trans hR (Eq.trans (if_pos h507) rfl))
    · refine X.aload_n 129 (zi264 128) rfl rfl rfl ?_
      refine X.getF 132 (zi264 129) rfl rfl (by decide) rfl rfl ?_
      refine X.bipush 134 (zi264 132) rfl rfl (by decide) ?_
      refine X.iload_n 135 (zi264 134) rfl rfl rfl ?_
      refine X.iadd 136 (zi264 135) rfl rfl (by omega) ?_
      refine X.aload_n 137 (zi264 136) rfl rfl rfl ?_
      refine X.iconst 138 (zi264 137) rfl rfl (by decide) ?_
      refine X.bipush 140 (zi264 138) rfl rfl (by decide) ?_
      refine X.callv 143 [zi 0, zi 100] [zi (28 + y3), zr 4 45] [(0, zr 4 44), (1, zi 0), (2, zi 100)] (zi264 140) rfl (by decide) rfl rfl (by omega) rfl rfl (by decide) rfl t270 (Nat.le_of_ble_eq_true rfl) (Nat.le_of_ble_eq_true rfl) rfl ?_
      refine c270_1 (B := B)  0 100 (by omega) (hJ.up (by omega)) (by omega) (by omega) (by omega) hf36 hf39 hg4 (fun v510 m508 hv510 hFv510 hJ509 hqv510_0 hqv510_1 hqv510_2 hqv510_3 => ?_)
      show X (EE s) d 264 143 [(0, zr 4 44), (3, zi y3)] [zi v510, zi (28 + y3), zr 4 45] m508 _
      refine X.i2l 144 (zi264 143) rfl rfl ?_
      refine X.last' 145 (zi264 144) rfl rfl (by decide) rfl (by omega) (fun hrm511 m511 hm511 => ?_)
      have hJ512 := w45_28 hJ509 hm511 (by omega) (by omega) hf23 hg4
      have wmm511_8 : m511 4 44 8 = m508 4 44 8 := by rw [hm511]; exact z_upd_o _ _ rfl
      have wmm511_9 : m511 4 44 9 = m508 4 44 9 := by rw [hm511]; exact z_upd_o _ _ rfl
      have wmm511_10 : m511 4 44 10 = m508 4 44 10 := by rw [hm511]; exact z_upd_o _ _ rfl
      refine X.iinc 148 [(0, zr 4 44), (3, zi (y3 + 1))] (zi264 145) rfl rfl rfl (by omega) rfl ?_
      refine X.goto 123 (zi264 148) rfl rfl ?_
      exact ih (y3 + 1) m511 (B) (hJ512.up (by omega)) (by omega) (by omega) (by omega) (by omega) (by omega) (Eq.trans hR (Eq.trans (if_neg h507) (Eq.trans (zb_eq hFv510) (Eq.trans (zs_eq hm511) rfl))))
-- WorkMeterModel.line
noncomputable def f264_1 (m : zM) : zM :=
  zn (f265_1 m) fun v504 =>
  if v504 = 0 then
  (zs (f268_1 1 (m 4 44 8) m) fun m640 =>
  zn (f267_1 m640) fun v647 =>
  zs (z_upd m640 4 44 8 v647) fun m648 =>
  if (m648 4 44 9) = 0 then
  (zs (f272_1 59 m648) fun m656 =>
  m656)
  else
  (m648))
  else
  (if v504 = 3 then
  (if (m 4 44 13) = 16 then
  (zs (f268_1 4 (m 4 44 8) m) fun m615 =>
  zn (f267_1 m615) fun v621 =>
  zs (z_upd m615 4 44 8 v621) fun m622 =>
  if (m622 4 44 9) = 0 then
  (zn (w32 ((m622 4 44 13) + 1)) fun z630 =>
  zs (z_upd m622 4 44 13 z630) fun m631 =>
  zs (f275_1 m631) fun m633 =>
  zs (f272_1 59 m633) fun m637 =>
  m637)
  else
  (m622))
  else
  (zn (f267_1 m) fun v596 =>
  zs (z_upd m 4 44 8 v596) fun m597 =>
  if (m597 4 44 9) = 0 then
  (zn (w32 ((m597 4 44 13) + 1)) fun z605 =>
  zs (z_upd m597 4 44 13 z605) fun m606 =>
  zs (f275_1 m606) fun m608 =>
  zs (f272_1 59 m608) fun m612 =>
  m612)
  else
  (m597)))
  else
  (if v504 = 4 then
  (if (m 4 44 14) = 0 then
  (zn (f267_1 m) fun v550 =>
  zs (z_upd m 4 44 8 v550) fun m551 =>
  if (m551 4 44 9) = 0 then
  (zs (z_upd m551 4 44 14 1) fun m559 =>
  fl264_123_1 (fun m561 =>
  zs (f272_1 59 m561) fun m565 =>
  m565) (zfu 5) 0 m559)
  else
  (m551))
  else
  (zs (f268_1 3 (m 4 44 8) m) fun m568 =>
  zn (f267_1 m568) fun v573 =>
  zs (z_upd m568 4 44 8 v573) fun m574 =>
  if (m574 4 44 9) = 0 then
  (zs (z_upd m574 4 44 14 1) fun m582 =>
  fl264_123_1 (fun m584 =>
  zs (f272_1 59 m584) fun m588 =>
  m588) (zfu 5) 0 m582)
  else
  (m574)))
  else
  (zn (f267_1 m) fun v510 =>
  zs (z_upd m 4 44 8 v510) fun m511 =>
  if (m511 4 44 9) = 0 then
  (if v504 = 1 then
  (zs (f269_1 m511) fun m537 =>
  zs (f272_1 59 m537) fun m543 =>
  m543)
  else
  (if v504 = 2 then
  (zs (f274_1 m511) fun m529 =>
  zs (f272_1 59 m529) fun m534 =>
  m534)
  else
  (zn (w32 ((m511 4 44 13) + 1)) fun z519 =>
  zs (z_upd m511 4 44 13 z519) fun m520 =>
  zs (f275_1 m520) fun m522 =>
  zs (f272_1 59 m522) fun m526 =>
  m526)))
  else
  (m511))))
-- WorkMeterModel.line
theorem c264_1 {s : Nat × (Nat → Int32)} {S : zS} {m0 m : zM} {B : Int} {d : Nat} {Q : Option zV → zM → Prop} (hd : 16 ≤ d) (hJ : J S m0 B m) (hB : B + 0 ≤ 1000000000) (hf21 : ¬ S.1 21) (hf23 : ¬ S.1 23) (hf36 : ¬ S.1 36) (hf39 : ¬ S.1 39) (hg4 : ¬ S.2.1 4) (hQ : ∀ m', f264_1 m = m' → J S m0 (B) m' → (m' 4 44 9 = 1 ∨ m 4 44 8 < m' 4 44 8) → (m 4 44 8 ≤ m' 4 44 8) → (m 4 44 9 ≤ m' 4 44 9) → Q none m') : X (EE s) d 264 0 [(0, zr 4 44)] [] m Q := by
  refine X.aload_n 1 (zi264 0) rfl rfl rfl ?_
  refine X.getI 4 8 (zi264 1) rfl rfl (by decide) rfl rfl rfl ?_
  have h501 := r44_8 hJ 4
  refine X.istore_n 5 [(0, zr 4 44), (1, zi (m 4 44 8))] (zi264 4) rfl rfl rfl ?_
  refine X.aload_n 6 (zi264 5) rfl rfl rfl ?_
  refine X.callv 9 [] [] [(0, zr 4 44)] (zi264 6) rfl (by decide) rfl rfl (by omega) rfl rfl (by decide) rfl t265 (Nat.le_of_ble_eq_true rfl) (Nat.le_of_ble_eq_true rfl) rfl ?_
  refine c265_1 (B := B)   (by omega) (hJ.up (by omega)) (by omega)  (fun v504 hv504 hFv504 => ?_)
  show X (EE s) d 264 9 [(0, zr 4 44), (1, zi (m 4 44 8))] [zi v504] m _
  refine X.istore_n 10 [(0, zr 4 44), (1, zi (m 4 44 8)), (2, zi v504)] (zi264 9) rfl rfl rfl ?_
  refine X.iload_n 11 (zi264 10) rfl rfl rfl ?_
  refine X.ifne 20 14 (zi264 11) rfl rfl rfl (fun h505 => ?_) (fun h505 => ?_)
  · refine X.iload_n 21 (zi264 20) rfl rfl rfl ?_
    refine X.iconst 22 (zi264 21) rfl rfl (by decide) ?_
    refine X.icmpne 40 25 (zi264 22) rfl rfl rfl (fun h506 => ?_) (fun h506 => ?_)
    · refine X.iload_n 41 (zi264 40) rfl rfl rfl ?_
      refine X.iconst 42 (zi264 41) rfl rfl (by decide) ?_
      refine X.icmpne 58 45 (zi264 42) rfl rfl rfl (fun h507 => ?_) (fun h507 => ?_)
      · refine X.cut [(0, zr 4 44), (2, zi v504)] (zi264 58) rfl ?_
        refine X.aload_n 59 (zi264 58) rfl rfl rfl ?_
        refine X.aload_n 60 (zi264 59) rfl rfl rfl ?_
        refine X.callv 63 [] [zr 4 44] [(0, zr 4 44)] (zi264 60) rfl (by decide) rfl rfl (by omega) rfl rfl (by decide) rfl t267 (Nat.le_of_ble_eq_true rfl) (Nat.le_of_ble_eq_true rfl) rfl ?_
        refine c267_1 (B := B)   (by omega) (hJ.up (by omega)) (by omega)  (fun v510 hv510 hFv510 hqv510_0 => ?_)
        show X (EE s) d 264 63 [(0, zr 4 44), (2, zi v504)] [zi v510, zr 4 44] m _
        refine X.putI' 66 8 (zi264 63) rfl rfl (by decide) rfl rfl rfl (fun hrm511 m511 hm511 => ?_)
        have hJ512 := w44_8 hJ hm511 (by omega) hf39 hg4
        have em511 : m511 4 44 8 = v510 := by rw [hm511]; exact z_upd_same _ _ _ _ _
        have wmm511_9 : m511 4 44 9 = m 4 44 9 := by rw [hm511]; exact z_upd_o _ _ rfl
        have wmm511_10 : m511 4 44 10 = m 4 44 10 := by rw [hm511]; exact z_upd_o _ _ rfl
        refine X.aload_n 67 (zi264 66) rfl rfl rfl ?_
        refine X.getZ 70 9 (zi264 67) rfl rfl (by decide) rfl rfl rfl (fun h513 => ?_)
        refine X.ifeq 74 73 (zi264 70) rfl rfl rfl (fun h514 => ?_) (fun h514 => ?_)
        · refine X.iload_n 75 (zi264 74) rfl rfl rfl ?_
          refine X.iconst 76 (zi264 75) rfl rfl (by decide) ?_
          refine X.icmpne 83 79 (zi264 76) rfl rfl rfl (fun h515 => ?_) (fun h515 => ?_)
          · refine X.iload_n 84 (zi264 83) rfl rfl rfl ?_
            refine X.iconst 85 (zi264 84) rfl rfl (by decide) ?_
            refine X.icmpne 92 88 (zi264 85) rfl rfl rfl (fun h516 => ?_) (fun h516 => ?_)
            · refine X.iload_n 93 (zi264 92) rfl rfl rfl ?_
              refine X.iconst 94 (zi264 93) rfl rfl (by decide) ?_
              refine X.icmpne 111 97 (zi264 94) rfl rfl rfl (fun h517 => (by exfalso; omega)) (fun h517 => ?_)
              refine X.aload_n 98 (zi264 97) rfl rfl rfl ?_
              refine X.dup 99 (zi264 98) rfl rfl rfl ?_
              refine X.getIr 102 13 (zi264 99) rfl rfl (by decide) rfl rfl rfl (fun h518 => ?_)
              refine X.iconst 103 (zi264 102) rfl rfl (by decide) ?_
              refine X.iaddW 104 (zi264 103) rfl rfl (fun z519 ez519 hz519 => ?_)
              refine X.putI' 107 13 (zi264 104) rfl rfl (by decide) rfl rfl rfl (fun hrm520 m520 hm520 => ?_)
              have hJ521 := w44_10 hJ512 hm520 (by omega) hrm520 hf39 hg4
              have wmm520_8 : m520 4 44 8 = m511 4 44 8 := by rw [hm520]; exact z_upd_o _ _ rfl
              have wmm520_9 : m520 4 44 9 = m511 4 44 9 := by rw [hm520]; exact z_upd_o _ _ rfl
              have wmm520_10 : m520 4 44 10 = m511 4 44 10 := by rw [hm520]; exact z_upd_o _ _ rfl
              refine X.aload_n 108 (zi264 107) rfl rfl rfl ?_
              refine X.callv 111 [] [] [(0, zr 4 44)] (zi264 108) rfl (by decide) rfl rfl (by omega) rfl rfl (by decide) rfl t275 (Nat.le_of_ble_eq_true rfl) (Nat.le_of_ble_eq_true rfl) rfl ?_
              refine c275_1 (B := B)   (by omega) (hJ521.up (by omega)) (by omega)  hf21 hf36 hf39 hg4 (fun m522 hFv524 hJ523 hqv524_0 hqv524_1 => ?_)
              show X (EE s) d 264 111 [(0, zr 4 44), (2, zi v504)] [] m522 _
              refine X.iload_n 112 (zi264 111) rfl rfl rfl ?_
              refine X.iconst 113 (zi264 112) rfl rfl (by decide) ?_
              refine X.icmpne 151 116 (zi264 113) rfl rfl rfl (fun h525 => ?_) (fun h525 => (by exfalso; omega))
              refine X.cut [(0, zr 4 44)] (zi264 151) rfl ?_
              refine X.aload_n 152 (zi264 151) rfl rfl rfl ?_
              refine X.bipush 154 (zi264 152) rfl rfl (by decide) ?_
              refine X.callv 157 [zi 59] [] [(0, zr 4 44), (1, zi 59)] (zi264 154) rfl (by decide) rfl rfl (by omega) rfl rfl (by decide) rfl t272 (Nat.le_of_ble_eq_true rfl) (Nat.le_of_ble_eq_true rfl) rfl ?_
              refine c272_1 (B := B)  59 (by omega) (hJ523.up (by omega)) (by omega) (by omega) hf36 hf39 hg4 (fun m526 hFv528 hJ527 hqv528_0 hqv528_1 hqv528_2 => ?_)
              show X (EE s) d 264 157 [(0, zr 4 44)] [] m526 _
              refine X.retv (zi264 157) rfl t264 ?_
              exact hQ  m526  (Eq.trans (zn_eq hFv504.symm) (Eq.trans (if_neg h505) (Eq.trans (if_neg h506) (Eq.trans (if_neg h507) (Eq.trans (zn_eq hFv510.symm) (Eq.trans (zs_eq hm511) (Eq.trans (if_pos h514) (Eq.trans (if_neg h515) (Eq.trans (if_neg h516) (Eq.trans (zn_eq ez519) (Eq.trans (zs_eq hm520) (Eq.trans (zs_eq hFv524.symm) (Eq.trans (zs_eq hFv528.symm) rfl))))))))))))) (hJ527.up (by omega)) (by omega) (by omega) (by omega)
            · refine X.aload_n 89 (zi264 88) rfl rfl rfl ?_
              refine X.callv 92 [] [] [(0, zr 4 44)] (zi264 89) rfl (by decide) rfl rfl (by omega) rfl rfl (by decide) rfl t274 (Nat.le_of_ble_eq_true rfl) (Nat.le_of_ble_eq_true rfl) rfl ?_
              refine c274_1 (B := B)   (by omega) (hJ512.up (by omega)) (by omega)  hf21 hf36 hf39 hg4 (fun m529 hFv531 hJ530 hqv531_0 hqv531_1 => ?_)
              show X (EE s) d 264 92 [(0, zr 4 44), (2, zi v504)] [] m529 _
              refine X.iload_n 93 (zi264 92) rfl rfl rfl ?_
              refine X.iconst 94 (zi264 93) rfl rfl (by decide) ?_
              refine X.icmpne 111 97 (zi264 94) rfl rfl rfl (fun h532 => ?_) (fun h532 => (by exfalso; omega))
              refine X.iload_n 112 (zi264 111) rfl rfl rfl ?_
              refine X.iconst 113 (zi264 112) rfl rfl (by decide) ?_
              refine X.icmpne 151 116 (zi264 113) rfl rfl rfl (fun h533 => ?_) (fun h533 => (by exfalso; omega))
              refine X.cut [(0, zr 4 44)] (zi264 151) rfl ?_
              refine X.aload_n 152 (zi264 151) rfl rfl rfl ?_
              refine X.bipush 154 (zi264 152) rfl rfl (by decide) ?_
              refine X.callv 157 [zi 59] [] [(0, zr 4 44), (1, zi 59)] (zi264 154) rfl (by decide) rfl rfl (by omega) rfl rfl (by decide) rfl t272 (Nat.le_of_ble_eq_true rfl) (Nat.le_of_ble_eq_true rfl) rfl ?_
              refine c272_1 (B := B)  59 (by omega) (hJ530.up (by omega)) (by omega) (by omega) hf36 hf39 hg4 (fun m534 hFv536 hJ535 hqv536_0 hqv536_1 hqv536_2 => ?_)
              show X (EE s) d 264 157 [(0, zr 4 44)] [] m534 _
              refine X.retv (zi264 157) rfl t264 ?_
              exact hQ  m534  (Eq.trans (zn_eq hFv504.symm) (Eq.trans (if_neg h505) (Eq.trans (if_neg h506) (Eq.trans (if_neg h507) (Eq.trans (zn_eq hFv510.symm) (Eq.trans (zs_eq hm511) (Eq.trans (if_pos h514) (Eq.trans (if_neg h515) (Eq.trans (if_pos h516) (Eq.trans (zs_eq hFv531.symm) (Eq.trans (zs_eq hFv536.symm) rfl))))))))))) (hJ535.up (by omega)) (by omega) (by omega) (by omega)
          · refine X.aload_n 80 (zi264 79) rfl rfl rfl ?_
            refine X.callv 83 [] [] [(0, zr 4 44)] (zi264 80) rfl (by decide) rfl rfl (by omega) rfl rfl (by decide) rfl t269 (Nat.le_of_ble_eq_true rfl) (Nat.le_of_ble_eq_true rfl) rfl ?_
            refine c269_1 (B := B)   (by omega) (hJ512.up (by omega)) (by omega)  hf21 hf36 hf39 hg4 (fun m537 hFv539 hJ538 hqv539_0 hqv539_1 => ?_)
            show X (EE s) d 264 83 [(0, zr 4 44), (2, zi v504)] [] m537 _
            refine X.iload_n 84 (zi264 83) rfl rfl rfl ?_
            refine X.iconst 85 (zi264 84) rfl rfl (by decide) ?_
            refine X.icmpne 92 88 (zi264 85) rfl rfl rfl (fun h540 => ?_) (fun h540 => (by exfalso; omega))
            refine X.iload_n 93 (zi264 92) rfl rfl rfl ?_
            refine X.iconst 94 (zi264 93) rfl rfl (by decide) ?_
            refine X.icmpne 111 97 (zi264 94) rfl rfl rfl (fun h541 => ?_) (fun h541 => (by exfalso; omega))
            refine X.iload_n 112 (zi264 111) rfl rfl rfl ?_
            refine X.iconst 113 (zi264 112) rfl rfl (by decide) ?_
            refine X.icmpne 151 116 (zi264 113) rfl rfl rfl (fun h542 => ?_) (fun h542 => (by exfalso; omega))
            refine X.cut [(0, zr 4 44)] (zi264 151) rfl ?_
            refine X.aload_n 152 (zi264 151) rfl rfl rfl ?_
            refine X.bipush 154 (zi264 152) rfl rfl (by decide) ?_
            refine X.callv 157 [zi 59] [] [(0, zr 4 44), (1, zi 59)] (zi264 154) rfl (by decide) rfl rfl (by omega) rfl rfl (by decide) rfl t272 (Nat.le_of_ble_eq_true rfl) (Nat.le_of_ble_eq_true rfl) rfl ?_
            refine c272_1 (B := B)  59 (by omega) (hJ538.up (by omega)) (by omega) (by omega) hf36 hf39 hg4 (fun m543 hFv545 hJ544 hqv545_0 hqv545_1 hqv545_2 => ?_)
            show X (EE s) d 264 157 [(0, zr 4 44)] [] m543 _
            refine X.retv (zi264 157) rfl t264 ?_
            exact hQ  m543  (Eq.trans (zn_eq hFv504.symm) (Eq.trans (if_neg h505) (Eq.trans (if_neg h506) (Eq.trans (if_neg h507) (Eq.trans (zn_eq hFv510.symm) (Eq.trans (zs_eq hm511) (Eq.trans (if_pos h514) (Eq.trans (if_pos h515) (Eq.trans (zs_eq hFv539.symm) (Eq.trans (zs_eq hFv545.symm) rfl)))))))))) (hJ544.up (by omega)) (by omega) (by omega) (by omega)
        · refine X.retv (zi264 73) rfl t264 ?_
          exact hQ  m511  (Eq.trans (zn_eq hFv504.symm) (Eq.trans (if_neg h505) (Eq.trans (if_neg h506) (Eq.trans (if_neg h507) (Eq.trans (zn_eq hFv510.symm) (Eq.trans (zs_eq hm511) (Eq.trans (if_neg h514) rfl))))))) (hJ512.up (by omega)) (by omega) (by omega) (by omega)
      · refine X.aload_n 46 (zi264 45) rfl rfl rfl ?_
        refine X.getZ 49 14 (zi264 46) rfl rfl (by decide) rfl rfl rfl (fun h546 => ?_)
        refine X.ifeq 58 52 (zi264 49) rfl rfl rfl (fun h547 => ?_) (fun h547 => ?_)
        · refine X.cut [(0, zr 4 44), (2, zi v504)] (zi264 58) rfl ?_
          refine X.aload_n 59 (zi264 58) rfl rfl rfl ?_
          refine X.aload_n 60 (zi264 59) rfl rfl rfl ?_
          refine X.callv 63 [] [zr 4 44] [(0, zr 4 44)] (zi264 60) rfl (by decide) rfl rfl (by omega) rfl rfl (by decide) rfl t267 (Nat.le_of_ble_eq_true rfl) (Nat.le_of_ble_eq_true rfl) rfl ?_
          refine c267_1 (B := B)   (by omega) (hJ.up (by omega)) (by omega)  (fun v550 hv550 hFv550 hqv550_0 => ?_)
          show X (EE s) d 264 63 [(0, zr 4 44), (2, zi v504)] [zi v550, zr 4 44] m _
          refine X.putI' 66 8 (zi264 63) rfl rfl (by decide) rfl rfl rfl (fun hrm551 m551 hm551 => ?_)
          have hJ552 := w44_8 hJ hm551 (by omega) hf39 hg4
          have em551 : m551 4 44 8 = v550 := by rw [hm551]; exact z_upd_same _ _ _ _ _
          have wmm551_9 : m551 4 44 9 = m 4 44 9 := by rw [hm551]; exact z_upd_o _ _ rfl
          have wmm551_10 : m551 4 44 10 = m 4 44 10 := by rw [hm551]; exact z_upd_o _ _ rfl
          refine X.aload_n 67 (zi264 66) rfl rfl rfl ?_
          refine X.getZ 70 9 (zi264 67) rfl rfl (by decide) rfl rfl rfl (fun h553 => ?_)
          refine X.ifeq 74 73 (zi264 70) rfl rfl rfl (fun h554 => ?_) (fun h554 => ?_)
          · refine X.iload_n 75 (zi264 74) rfl rfl rfl ?_
            refine X.iconst 76 (zi264 75) rfl rfl (by decide) ?_
            refine X.icmpne 83 79 (zi264 76) rfl rfl rfl (fun h555 => ?_) (fun h555 => (by exfalso; omega))
            refine X.iload_n 84 (zi264 83) rfl rfl rfl ?_
            refine X.iconst 85 (zi264 84) rfl rfl (by decide) ?_
            refine X.icmpne 92 88 (zi264 85) rfl rfl rfl (fun h556 => ?_) (fun h556 => (by exfalso; omega))
            refine X.iload_n 93 (zi264 92) rfl rfl rfl ?_
            refine X.iconst 94 (zi264 93) rfl rfl (by decide) ?_
            refine X.icmpne 111 97 (zi264 94) rfl rfl rfl (fun h557 => ?_) (fun h557 => (by exfalso; omega))
            refine X.iload_n 112 (zi264 111) rfl rfl rfl ?_
            refine X.iconst 113 (zi264 112) rfl rfl (by decide) ?_
            refine X.icmpne 151 116 (zi264 113) rfl rfl rfl (fun h558 => (by exfalso; omega)) (fun h558 => ?_)
            refine X.aload_n 117 (zi264 116) rfl rfl rfl ?_
            refine X.iconst 118 (zi264 117) rfl rfl (by decide) ?_
            refine X.putZ' 121 14 (zi264 118) rfl rfl (by decide) rfl rfl rfl (by omega) (fun hrm559 m559 hm559 => ?_)
            have hJ560 := w44_14 hJ552 hm559 (by omega) hf39 hg4
            have wmm559_8 : m559 4 44 8 = m551 4 44 8 := by rw [hm559]; exact z_upd_o _ _ rfl
            have wmm559_9 : m559 4 44 9 = m551 4 44 9 := by rw [hm559]; exact z_upd_o _ _ rfl
            have wmm559_10 : m559 4 44 10 = m551 4 44 10 := by rw [hm559]; exact z_upd_o _ _ rfl
            refine X.iconst 122 (zi264 121) rfl rfl (by decide) ?_
            refine X.istore_n 123 [(0, zr 4 44), (2, zi v504), (3, zi 0)] (zi264 122) rfl rfl rfl ?_
            refine X.cut [(0, zr 4 44), (3, zi 0)] (zi264 123) rfl ?_
            have hz5 := zfu_eq 5
            refine l264_123_1 (s := s) (d := d) (R0 := (f264_1 m))   (m559 4 44 8) (m559 4 44 9) (BE := B + 0) (by omega) (by omega) hf23 hf36 hf39 hg4 (fun  m561 B562 hJ563 hBB562 hrlm561_0 hrlm561_1 hR564 => ?_) (zfu 5) 0 m559 (B) (hJ560.up (by omega)) (by omega) (by omega) (by omega) (by omega) (by omega) (Eq.trans (zn_eq hFv504.symm) (Eq.trans (if_neg h505) (Eq.trans (if_neg h506) (Eq.trans (if_pos h507) (Eq.trans (if_pos h547) (Eq.trans (zn_eq hFv550.symm) (Eq.trans (zs_eq hm551) (Eq.trans (if_pos h554) (Eq.trans (zs_eq hm559) rfl)))))))))
            refine X.aload_n 152 (zi264 151) rfl rfl rfl ?_
            refine X.bipush 154 (zi264 152) rfl rfl (by decide) ?_
            refine X.callv 157 [zi 59] [] [(0, zr 4 44), (1, zi 59)] (zi264 154) rfl (by decide) rfl rfl (by omega) rfl rfl (by decide) rfl t272 (Nat.le_of_ble_eq_true rfl) (Nat.le_of_ble_eq_true rfl) rfl ?_
            refine c272_1 (B := B562)  59 (by omega) (hJ563.up (by omega)) (by omega) (by omega) hf36 hf39 hg4 (fun m565 hFv567 hJ566 hqv567_0 hqv567_1 hqv567_2 => ?_)
            show X (EE s) d 264 157 [(0, zr 4 44)] [] m565 _
            refine X.retv (zi264 157) rfl t264 ?_
            exact hQ  m565  (Eq.trans hR564 (Eq.trans (zs_eq hFv567.symm) rfl)) (hJ566.up (by omega)) (by omega) (by omega) (by omega)
          · refine X.retv (zi264 73) rfl t264 ?_
            exact hQ  m551  (Eq.trans (zn_eq hFv504.symm) (Eq.trans (if_neg h505) (Eq.trans (if_neg h506) (Eq.trans (if_pos h507) (Eq.trans (if_pos h547) (Eq.trans (zn_eq hFv550.symm) (Eq.trans (zs_eq hm551) (Eq.trans (if_neg h554) rfl)))))))) (hJ552.up (by omega)) (by omega) (by omega) (by omega)
        · refine X.aload_n 53 (zi264 52) rfl rfl rfl ?_
          refine X.iconst 54 (zi264 53) rfl rfl (by decide) ?_
          refine X.iload_n 55 (zi264 54) rfl rfl rfl ?_
          refine X.callv 58 [zi 3, zi (m 4 44 8)] [] [(0, zr 4 44), (1, zi 3), (2, zi (m 4 44 8))] (zi264 55) rfl (by decide) rfl rfl (by omega) rfl rfl (by decide) rfl t268 (Nat.le_of_ble_eq_true rfl) (Nat.le_of_ble_eq_true rfl) rfl ?_
          refine c268_3 (B := B)  3 (m 4 44 8) (by omega) (hJ.up (by omega)) (by omega) (by omega) (by omega) hf36 hf39 hg4 (fun m568 hFv570 hJ569 hqv570_0 hqv570_1 hqv570_2 => ?_)
          show X (EE s) d 264 58 [(0, zr 4 44), (1, zi (m 4 44 8)), (2, zi v504)] [] m568 _
          refine X.cut [(0, zr 4 44), (2, zi v504)] (zi264 58) rfl ?_
          refine X.aload_n 59 (zi264 58) rfl rfl rfl ?_
          refine X.aload_n 60 (zi264 59) rfl rfl rfl ?_
          refine X.callv 63 [] [zr 4 44] [(0, zr 4 44)] (zi264 60) rfl (by decide) rfl rfl (by omega) rfl rfl (by decide) rfl t267 (Nat.le_of_ble_eq_true rfl) (Nat.le_of_ble_eq_true rfl) rfl ?_
          refine c267_1 (B := B)   (by omega) (hJ569.up (by omega)) (by omega)  (fun v573 hv573 hFv573 hqv573_0 => ?_)
          show X (EE s) d 264 63 [(0, zr 4 44), (2, zi v504)] [zi v573, zr 4 44] m568 _
          refine X.putI' 66 8 (zi264 63) rfl rfl (by decide) rfl rfl rfl (fun hrm574 m574 hm574 => ?_)
          have hJ575 := w44_8 hJ569 hm574 (by omega) hf39 hg4
          have em574 : m574 4 44 8 = v573 := by rw [hm574]; exact z_upd_same _ _ _ _ _
          have wmm574_9 : m574 4 44 9 = m568 4 44 9 := by rw [hm574]; exact z_upd_o _ _ rfl
          have wmm574_10 : m574 4 44 10 = m568 4 44 10 := by rw [hm574]; exact z_upd_o _ _ rfl
          refine X.aload_n 67 (zi264 66) rfl rfl rfl ?_
          refine X.getZ 70 9 (zi264 67) rfl rfl (by decide) rfl rfl rfl (fun h576 => ?_)
          refine X.ifeq 74 73 (zi264 70) rfl rfl rfl (fun h577 => ?_) (fun h577 => ?_)
          · refine X.iload_n 75 (zi264 74) rfl rfl rfl ?_
            refine X.iconst 76 (zi264 75) rfl rfl (by decide) ?_
            refine X.icmpne 83 79 (zi264 76) rfl rfl rfl (fun h578 => ?_) (fun h578 => (by exfalso; omega))
            refine X.iload_n 84 (zi264 83) rfl rfl rfl ?_
            refine X.iconst 85 (zi264 84) rfl rfl (by decide) ?_
            refine X.icmpne 92 88 (zi264 85) rfl rfl rfl (fun h579 => ?_) (fun h579 => (by exfalso; omega))
            refine X.iload_n 93 (zi264 92) rfl rfl rfl ?_
            refine X.iconst 94 (zi264 93) rfl rfl (by decide) ?_
            refine X.icmpne 111 97 (zi264 94) rfl rfl rfl (fun h580 => ?_) (fun h580 => (by exfalso; omega))
            refine X.iload_n 112 (zi264 111) rfl rfl rfl ?_
            refine X.iconst 113 (zi264 112) rfl rfl (by decide) ?_
            refine X.icmpne 151 116 (zi264 113) rfl rfl rfl (fun h581 => (by exfalso; omega)) (fun h581 => ?_)
            refine X.aload_n 117 (zi264 116) rfl rfl rfl ?_
            refine X.iconst 118 (zi264 117) rfl rfl (by decide) ?_
            refine X.putZ' 121 14 (zi264 118) rfl rfl (by decide) rfl rfl rfl (by omega) (fun hrm582 m582 hm582 => ?_)
            have hJ583 := w44_14 hJ575 hm582 (by omega) hf39 hg4
            have wmm582_8 : m582 4 44 8 = m574 4 44 8 := by rw [hm582]; exact z_upd_o _ _ rfl
            have wmm582_9 : m582 4 44 9 = m574 4 44 9 := by rw [hm582]; exact z_upd_o _ _ rfl
            have wmm582_10 : m582 4 44 10 = m574 4 44 10 := by rw [hm582]; exact z_upd_o _ _ rfl
            refine X.iconst 122 (zi264 121) rfl rfl (by decide) ?_
            refine X.istore_n 123 [(0, zr 4 44), (2, zi v504), (3, zi 0)] (zi264 122) rfl rfl rfl ?_
            refine X.cut [(0, zr 4 44), (3, zi 0)] (zi264 123) rfl ?_
            have hz5 := zfu_eq 5
            refine l264_123_1 (s := s) (d := d) (R0 := (f264_1 m))   (m582 4 44 8) (m582 4 44 9) (BE := B + 0) (by omega) (by omega) hf23 hf36 hf39 hg4 (fun  m584 B585 hJ586 hBB585 hrlm584_0 hrlm584_1 hR587 => ?_) (zfu 5) 0 m582 (B) (hJ583.up (by omega)) (by omega) (by omega) (by omega) (by omega) (by omega) (Eq.trans (zn_eq hFv504.symm) (Eq.trans (if_neg h505) (Eq.trans (if_neg h506) (Eq.trans (if_pos h507) (Eq.trans (if_neg h547) (Eq.trans (zs_eq hFv570.symm) (Eq.trans (zn_eq hFv573.symm) (Eq.trans (zs_eq hm574) (Eq.trans (if_pos h577) (Eq.trans (zs_eq hm582) rfl))))))))))
            refine X.aload_n 152 (zi264 151) rfl rfl rfl ?_
            refine X.bipush 154 (zi264 152) rfl rfl (by decide) ?_
            refine X.callv 157 [zi 59] [] [(0, zr 4 44), (1, zi 59)] (zi264 154) rfl (by decide) rfl rfl (by omega) rfl rfl (by decide) rfl t272 (Nat.le_of_ble_eq_true rfl) (Nat.le_of_ble_eq_true rfl) rfl ?_
            refine c272_1 (B := B585)  59 (by omega) (hJ586.up (by omega)) (by omega) (by omega) hf36 hf39 hg4 (fun m588 hFv590 hJ589 hqv590_0 hqv590_1 hqv590_2 => ?_)
            show X (EE s) d 264 157 [(0, zr 4 44)] [] m588 _
            refine X.retv (zi264 157) rfl t264 ?_
            exact hQ  m588  (Eq.trans hR587 (Eq.trans (zs_eq hFv590.symm) rfl)) (hJ589.up (by omega)) (by omega) (by omega) (by omega)
          · refine X.retv (zi264 73) rfl t264 ?_
            exact hQ  m574  (Eq.trans (zn_eq hFv504.symm) (Eq.trans (if_neg h505) (Eq.trans (if_neg h506) (Eq.trans (if_pos h507) (Eq.trans (if_neg h547) (Eq.trans (zs_eq hFv570.symm) (Eq.trans (zn_eq hFv573.symm) (Eq.trans (zs_eq hm574) (Eq.trans (if_neg h577) rfl))))))))) (hJ575.up (by omega)) (by omega) (by omega) (by omega)
    · refine X.aload_n 26 (zi264 25) rfl rfl rfl ?_
      refine X.getIr 29 13 (zi264 26) rfl rfl (by decide) rfl rfl rfl (fun h591 => ?_)
      refine X.bipush 31 (zi264 29) rfl rfl (by decide) ?_
      refine X.icmpne 40 34 (zi264 31) rfl rfl rfl (fun h592 => ?_) (fun h592 => ?_)
      · refine X.iload_n 41 (zi264 40) rfl rfl rfl ?_
        refine X.iconst 42 (zi264 41) rfl rfl (by decide) ?_
        refine X.icmpne 58 45 (zi264 42) rfl rfl rfl (fun h593 => ?_) (fun h593 => (by exfalso; omega))
        refine X.cut [(0, zr 4 44), (2, zi v504)] (zi264 58) rfl ?_
        refine X.aload_n 59 (zi264 58) rfl rfl rfl ?_
        refine X.aload_n 60 (zi264 59) rfl rfl rfl ?_
        refine X.callv 63 [] [zr 4 44] [(0, zr 4 44)] (zi264 60) rfl (by decide) rfl rfl (by omega) rfl rfl (by decide) rfl t267 (Nat.le_of_ble_eq_true rfl) (Nat.le_of_ble_eq_true rfl) rfl ?_
        refine c267_1 (B := B)   (by omega) (hJ.up (by omega)) (by omega)  (fun v596 hv596 hFv596 hqv596_0 => ?_)
        show X (EE s) d 264 63 [(0, zr 4 44), (2, zi v504)] [zi v596, zr 4 44] m _
        refine X.putI' 66 8 (zi264 63) rfl rfl (by decide) rfl rfl rfl (fun hrm597 m597 hm597 => ?_)
        have hJ598 := w44_8 hJ hm597 (by omega) hf39 hg4
        have em597 : m597 4 44 8 = v596 := by rw [hm597]; exact z_upd_same _ _ _ _ _
        have wmm597_9 : m597 4 44 9 = m 4 44 9 := by rw [hm597]; exact z_upd_o _ _ rfl
        have wmm597_10 : m597 4 44 10 = m 4 44 10 := by rw [hm597]; exact z_upd_o _ _ rfl
        refine X.aload_n 67 (zi264 66) rfl rfl rfl ?_
        refine X.getZ 70 9 (zi264 67) rfl rfl (by decide) rfl rfl rfl (fun h599 => ?_)
        refine X.ifeq 74 73 (zi264 70) rfl rfl rfl (fun h600 => ?_) (fun h600 => ?_)
        · refine X.iload_n 75 (zi264 74) rfl rfl rfl ?_
          refine X.iconst 76 (zi264 75) rfl rfl (by decide) ?_
          refine X.icmpne 83 79 (zi264 76) rfl rfl rfl (fun h601 => ?_) (fun h601 => (by exfalso; omega))
          refine X.iload_n 84 (zi264 83) rfl rfl rfl ?_
          refine X.iconst 85 (zi264 84) rfl rfl (by decide) ?_
          refine X.icmpne 92 88 (zi264 85) rfl rfl rfl (fun h602 => ?_) (fun h602 => (by exfalso; omega))
          refine X.iload_n 93 (zi264 92) rfl rfl rfl ?_
          refine X.iconst 94 (zi264 93) rfl rfl (by decide) ?_
          refine X.icmpne 111 97 (zi264 94) rfl rfl rfl (fun h603 => (by exfalso; omega)) (fun h603 => ?_)
          refine X.aload_n 98 (zi264 97) rfl rfl rfl ?_
          refine X.dup 99 (zi264 98) rfl rfl rfl ?_
          refine X.getIr 102 13 (zi264 99) rfl rfl (by decide) rfl rfl rfl (fun h604 => ?_)
          refine X.iconst 103 (zi264 102) rfl rfl (by decide) ?_
          refine X.iaddW 104 (zi264 103) rfl rfl (fun z605 ez605 hz605 => ?_)
          refine X.putI' 107 13 (zi264 104) rfl rfl (by decide) rfl rfl rfl (fun hrm606 m606 hm606 => ?_)
          have hJ607 := w44_10 hJ598 hm606 (by omega) hrm606 hf39 hg4
          have wmm606_8 : m606 4 44 8 = m597 4 44 8 := by rw [hm606]; exact z_upd_o _ _ rfl
          have wmm606_9 : m606 4 44 9 = m597 4 44 9 := by rw [hm606]; exact z_upd_o _ _ rfl
          have wmm606_10 : m606 4 44 10 = m597 4 44 10 := by rw [hm606]; exact z_upd_o _ _ rfl
          refine X.aload_n 108 (zi264 107) rfl rfl rfl ?_
          refine X.callv 111 [] [] [(0, zr 4 44)] (zi264 108) rfl (by decide) rfl rfl (by omega) rfl rfl (by decide) rfl t275 (Nat.le_of_ble_eq_true rfl) (Nat.le_of_ble_eq_true rfl) rfl ?_
          refine c275_1 (B := B)   (by omega) (hJ607.up (by omega)) (by omega)  hf21 hf36 hf39 hg4 (fun m608 hFv610 hJ609 hqv610_0 hqv610_1 => ?_)
          show X (EE s) d 264 111 [(0, zr 4 44), (2, zi v504)] [] m608 _
          refine X.iload_n 112 (zi264 111) rfl rfl rfl ?_
          refine X.iconst 113 (zi264 112) rfl rfl (by decide) ?_
          refine X.icmpne 151 116 (zi264 113) rfl rfl rfl (fun h611 => ?_) (fun h611 => (by exfalso; omega))
          refine X.cut [(0, zr 4 44)] (zi264 151) rfl ?_
          refine X.aload_n 152 (zi264 151) rfl rfl rfl ?_
          refine X.bipush 154 (zi264 152) rfl rfl (by decide) ?_
          refine X.callv 157 [zi 59] [] [(0, zr 4 44), (1, zi 59)] (zi264 154) rfl (by decide) rfl rfl (by omega) rfl rfl (by decide) rfl t272 (Nat.le_of_ble_eq_true rfl) (Nat.le_of_ble_eq_true rfl) rfl ?_
          refine c272_1 (B := B)  59 (by omega) (hJ609.up (by omega)) (by omega) (by omega) hf36 hf39 hg4 (fun m612 hFv614 hJ613 hqv614_0 hqv614_1 hqv614_2 => ?_)
          show X (EE s) d 264 157 [(0, zr 4 44)] [] m612 _
          refine X.retv (zi264 157) rfl t264 ?_
          exact hQ  m612  (Eq.trans (zn_eq hFv504.symm) (Eq.trans (if_neg h505) (Eq.trans (if_pos h506) (Eq.trans (if_neg h592) (Eq.trans (zn_eq hFv596.symm) (Eq.trans (zs_eq hm597) (Eq.trans (if_pos h600) (Eq.trans (zn_eq ez605) (Eq.trans (zs_eq hm606) (Eq.trans (zs_eq hFv610.symm) (Eq.trans (zs_eq hFv614.symm) rfl))))))))))) (hJ613.up (by omega)) (by omega) (by omega) (by omega)
        · refine X.retv (zi264 73) rfl t264 ?_
          exact hQ  m597  (Eq.trans (zn_eq hFv504.symm) (Eq.trans (if_neg h505) (Eq.trans (if_pos h506) (Eq.trans (if_neg h592) (Eq.trans (zn_eq hFv596.symm) (Eq.trans (zs_eq hm597) (Eq.trans (if_neg h600) rfl))))))) (hJ598.up (by omega)) (by omega) (by omega) (by omega)
      · refine X.aload_n 35 (zi264 34) rfl rfl rfl ?_
        refine X.iconst 36 (zi264 35) rfl rfl (by decide) ?_
        refine X.iload_n 37 (zi264 36) rfl rfl rfl ?_
        refine X.callv 40 [zi 4, zi (m 4 44 8)] [] [(0, zr 4 44), (1, zi 4), (2, zi (m 4 44 8))] (zi264 37) rfl (by decide) rfl rfl (by omega) rfl rfl (by decide) rfl t268 (Nat.le_of_ble_eq_true rfl) (Nat.le_of_ble_eq_true rfl) rfl ?_
        refine c268_4 (B := B)  4 (m 4 44 8) (by omega) (hJ.up (by omega)) (by omega) (by omega) (by omega) hf36 hf39 hg4 (fun m615 hFv617 hJ616 hqv617_0 hqv617_1 hqv617_2 => ?_)
        show X (EE s) d 264 40 [(0, zr 4 44), (1, zi (m 4 44 8)), (2, zi v504)] [] m615 _
        refine X.iload_n 41 (zi264 40) rfl rfl rfl ?_
        refine X.iconst 42 (zi264 41) rfl rfl (by decide) ?_
        refine X.icmpne 58 45 (zi264 42) rfl rfl rfl (fun h618 => ?_) (fun h618 => (by exfalso; omega))
        refine X.cut [(0, zr 4 44), (2, zi v504)] (zi264 58) rfl ?_
        refine X.aload_n 59 (zi264 58) rfl rfl rfl ?_
        refine X.aload_n 60 (zi264 59) rfl rfl rfl ?_
        refine X.callv 63 [] [zr 4 44] [(0, zr 4 44)] (zi264 60) rfl (by decide) rfl rfl (by omega) rfl rfl (by decide) rfl t267 (Nat.le_of_ble_eq_true rfl) (Nat.le_of_ble_eq_true rfl) rfl ?_
        refine c267_1 (B := B)   (by omega) (hJ616.up (by omega)) (by omega)  (fun v621 hv621 hFv621 hqv621_0 => ?_)
        show X (EE s) d 264 63 [(0, zr 4 44), (2, zi v504)] [zi v621, zr 4 44] m615 _
        refine X.putI' 66 8 (zi264 63) rfl rfl (by decide) rfl rfl rfl (fun hrm622 m622 hm622 => ?_)
        have hJ623 := w44_8 hJ616 hm622 (by omega) hf39 hg4
        have em622 : m622 4 44 8 = v621 := by rw [hm622]; exact z_upd_same _ _ _ _ _
        have wmm622_9 : m622 4 44 9 = m615 4 44 9 := by rw [hm622]; exact z_upd_o _ _ rfl
        have wmm622_10 : m622 4 44 10 = m615 4 44 10 := by rw [hm622]; exact z_upd_o _ _ rfl
        refine X.aload_n 67 (zi264 66) rfl rfl rfl ?_
        refine X.getZ 70 9 (zi264 67) rfl rfl (by decide) rfl rfl rfl (fun h624 => ?_)
        refine X.ifeq 74 73 (zi264 70) rfl rfl rfl (fun h625 => ?_) (fun h625 => ?_)
        · refine X.iload_n 75 (zi264 74) rfl rfl rfl ?_
          refine X.iconst 76 (zi264 75) rfl rfl (by decide) ?_
          refine X.icmpne 83 79 (zi264 76) rfl rfl rfl (fun h626 => ?_) (fun h626 => (by exfalso; omega))
          refine X.iload_n 84 (zi264 83) rfl rfl rfl ?_
          refine X.iconst 85 (zi264 84) rfl rfl (by decide) ?_
          refine X.icmpne 92 88 (zi264 85) rfl rfl rfl (fun h627 => ?_) (fun h627 => (by exfalso; omega))
          refine X.iload_n 93 (zi264 92) rfl rfl rfl ?_
          refine X.iconst 94 (zi264 93) rfl rfl (by decide) ?_
          refine X.icmpne 111 97 (zi264 94) rfl rfl rfl (fun h628 => (by exfalso; omega)) (fun h628 => ?_)
          refine X.aload_n 98 (zi264 97) rfl rfl rfl ?_
          refine X.dup 99 (zi264 98) rfl rfl rfl ?_
          refine X.getIr 102 13 (zi264 99) rfl rfl (by decide) rfl rfl rfl (fun h629 => ?_)
          refine X.iconst 103 (zi264 102) rfl rfl (by decide) ?_
          refine X.iaddW 104 (zi264 103) rfl rfl (fun z630 ez630 hz630 => ?_)
          refine X.putI' 107 13 (zi264 104) rfl rfl (by decide) rfl rfl rfl (fun hrm631 m631 hm631 => ?_)
          have hJ632 := w44_10 hJ623 hm631 (by omega) hrm631 hf39 hg4
          have wmm631_8 : m631 4 44 8 = m622 4 44 8 := by rw [hm631]; exact z_upd_o _ _ rfl
          have wmm631_9 : m631 4 44 9 = m622 4 44 9 := by rw [hm631]; exact z_upd_o _ _ rfl
          have wmm631_10 : m631 4 44 10 = m622 4 44 10 := by rw [hm631]; exact z_upd_o _ _ rfl
          refine X.aload_n 108 (zi264 107) rfl rfl rfl ?_
          refine X.callv 111 [] [] [(0, zr 4 44)] (zi264 108) rfl (by decide) rfl rfl (by omega) rfl rfl (by decide) rfl t275 (Nat.le_of_ble_eq_true rfl) (Nat.le_of_ble_eq_true rfl) rfl ?_
          refine c275_1 (B := B)   (by omega) (hJ632.up (by omega)) (by omega)  hf21 hf36 hf39 hg4 (fun m633 hFv635 hJ634 hqv635_0 hqv635_1 => ?_)
          show X (EE s) d 264 111 [(0, zr 4 44), (2, zi v504)] [] m633 _
          refine X.iload_n 112 (zi264 111) rfl rfl rfl ?_
          refine X.iconst 113 (zi264 112) rfl rfl (by decide) ?_
          refine X.icmpne 151 116 (zi264 113) rfl rfl rfl (fun h636 => ?_) (fun h636 => (by exfalso; omega))
          refine X.cut [(0, zr 4 44)] (zi264 151) rfl ?_
          refine X.aload_n 152 (zi264 151) rfl rfl rfl ?_
          refine X.bipush 154 (zi264 152) rfl rfl (by decide) ?_
          refine X.callv 157 [zi 59] [] [(0, zr 4 44), (1, zi 59)] (zi264 154) rfl (by decide) rfl rfl (by omega) rfl rfl (by decide) rfl t272 (Nat.le_of_ble_eq_true rfl) (Nat.le_of_ble_eq_true rfl) rfl ?_
          refine c272_1 (B := B)  59 (by omega) (hJ634.up (by omega)) (by omega) (by omega) hf36 hf39 hg4 (fun m637 hFv639 hJ638 hqv639_0 hqv639_1 hqv639_2 => ?_)
          show X (EE s) d 264 157 [(0, zr 4 44)] [] m637 _
          refine X.retv (zi264 157) rfl t264 ?_
          exact hQ  m637  (Eq.trans (zn_eq hFv504.symm) (Eq.trans (if_neg h505) (Eq.trans (if_pos h506) (Eq.trans (if_pos h592) (Eq.trans (zs_eq hFv617.symm) (Eq.trans (zn_eq hFv621.symm) (Eq.trans (zs_eq hm622) (Eq.trans (if_pos h625) (Eq.trans (zn_eq ez630) (Eq.trans (zs_eq hm631) (Eq.trans (zs_eq hFv635.symm) (Eq.trans (zs_eq hFv639.symm) rfl)))))))))))) (hJ638.up (by omega)) (by omega) (by omega) (by omega)
        · refine X.retv (zi264 73) rfl t264 ?_
          exact hQ  m622  (Eq.trans (zn_eq hFv504.symm) (Eq.trans (if_neg h505) (Eq.trans (if_pos h506) (Eq.trans (if_pos h592) (Eq.trans (zs_eq hFv617.symm) (Eq.trans (zn_eq hFv621.symm) (Eq.trans (zs_eq hm622) (Eq.trans (if_neg h625) rfl)))))))) (hJ623.up (by omega)) (by omega) (by omega) (by omega)
  · refine X.aload_n 15 (zi264 14) rfl rfl rfl ?_
    refine X.iconst 16 (zi264 15) rfl rfl (by decide) ?_
    refine X.iload_n 17 (zi264 16) rfl rfl rfl ?_
    refine X.callv 20 [zi 1, zi (m 4 44 8)] [] [(0, zr 4 44), (1, zi 1), (2, zi (m 4 44 8))] (zi264 17) rfl (by decide) rfl rfl (by omega) rfl rfl (by decide) rfl t268 (Nat.le_of_ble_eq_true rfl) (Nat.le_of_ble_eq_true rfl) rfl ?_
    refine c268_2 (B := B)  1 (m 4 44 8) (by omega) (hJ.up (by omega)) (by omega) (by omega) (by omega) hf36 hf39 hg4 (fun m640 hFv642 hJ641 hqv642_0 hqv642_1 hqv642_2 => ?_)
    show X (EE s) d 264 20 [(0, zr 4 44), (1, zi (m 4 44 8)), (2, zi v504)] [] m640 _
    refine X.iload_n 21 (zi264 20) rfl rfl rfl ?_
    refine X.iconst 22 (zi264 21) rfl rfl (by decide) ?_
    refine X.icmpne 40 25 (zi264 22) rfl rfl rfl (fun h643 => ?_) (fun h643 => (by exfalso; omega))
    refine X.iload_n 41 (zi264 40) rfl rfl rfl ?_
    refine X.iconst 42 (zi264 41) rfl rfl (by decide) ?_
    refine X.icmpne 58 45 (zi264 42) rfl rfl rfl (fun h644 => ?_) (fun h644 => (by exfalso; omega))
    refine X.cut [(0, zr 4 44), (2, zi v504)] (zi264 58) rfl ?_
    refine X.aload_n 59 (zi264 58) rfl rfl rfl ?_
    refine X.aload_n 60 (zi264 59) rfl rfl rfl ?_
    refine X.callv 63 [] [zr 4 44] [(0, zr 4 44)] (zi264 60) rfl (by decide) rfl rfl (by omega) rfl rfl (by decide) rfl t267 (Nat.le_of_ble_eq_true rfl) (Nat.le_of_ble_eq_true rfl) rfl ?_
    refine c267_1 (B := B)   (by omega) (hJ641.up (by omega)) (by omega)  (fun v647 hv647 hFv647 hqv647_0 => ?_)
    show X (EE s) d 264 63 [(0, zr 4 44), (2, zi v504)] [zi v647, zr 4 44] m640 _
    refine X.putI' 66 8 (zi264 63) rfl rfl (by decide) rfl rfl rfl (fun hrm648 m648 hm648 => ?_)
    have hJ649 := w44_8 hJ641 hm648 (by omega) hf39 hg4
    have em648 : m648 4 44 8 = v647 := by rw [hm648]; exact z_upd_same _ _ _ _ _
    have wmm648_9 : m648 4 44 9 = m640 4 44 9 := by rw [hm648]; exact z_upd_o _ _ rfl
    have wmm648_10 : m648 4 44 10 = m640 4 44 10 := by rw [hm648]; exact z_upd_o _ _ rfl
    refine X.aload_n 67 (zi264 66) rfl rfl rfl ?_
    refine X.getZ 70 9 (zi264 67) rfl rfl (by decide) rfl rfl rfl (fun h650 => ?_)
    refine X.ifeq 74 73 (zi264 70) rfl rfl rfl (fun h651 => ?_) (fun h651 => ?_)
    · refine X.iload_n 75 (zi264 74) rfl rfl rfl ?_
      refine X.iconst 76 (zi264 75) rfl rfl (by decide) ?_
      refine X.icmpne 83 79 (zi264 76) rfl rfl rfl (fun h652 => ?_) (fun h652 => (by exfalso; omega))
      refine X.iload_n 84 (zi264 83) rfl rfl rfl ?_
      refine X.iconst 85 (zi264 84) rfl rfl (by decide) ?_
      refine X.icmpne 92 88 (zi264 85) rfl rfl rfl (fun h653 => ?_) (fun h653 => (by exfalso; omega))
      refine X.iload_n 93 (zi264 92) rfl rfl rfl ?_
      refine X.iconst 94 (zi264 93) rfl rfl (by decide) ?_
      refine X.icmpne 111 97 (zi264 94) rfl rfl rfl (fun h654 => ?_) (fun h654 => (by exfalso; omega))
      refine X.iload_n 112 (zi264 111) rfl rfl rfl ?_
      refine X.iconst 113 (zi264 112) rfl rfl (by decide) ?_
      refine X.icmpne 151 116 (zi264 113) rfl rfl rfl (fun h655 => ?_) (fun h655 => (by exfalso; omega))
      refine X.cut [(0, zr 4 44)] (zi264 151) rfl ?_
      refine X.aload_n 152 (zi264 151) rfl rfl rfl ?_
      refine X.bipush 154 (zi264 152) rfl rfl (by decide) ?_
      refine X.callv 157 [zi 59] [] [(0, zr 4 44), (1, zi 59)] (zi264 154) rfl (by decide) rfl rfl (by omega) rfl rfl (by decide) rfl t272 (Nat.le_of_ble_eq_true rfl) (Nat.le_of_ble_eq_true rfl) rfl ?_
      refine c272_1 (B := B)  59 (by omega) (hJ649.up (by omega)) (by omega) (by omega) hf36 hf39 hg4 (fun m656 hFv658 hJ657 hqv658_0 hqv658_1 hqv658_2 => ?_)
      show X (EE s) d 264 157 [(0, zr 4 44)] [] m656 _
      refine X.retv (zi264 157) rfl t264 ?_
      exact hQ  m656  (Eq.trans (zn_eq hFv504.symm) (Eq.trans (if_pos h505) (Eq.trans (zs_eq hFv642.symm) (Eq.trans (zn_eq hFv647.symm) (Eq.trans (zs_eq hm648) (Eq.trans (if_pos h651) (Eq.trans (zs_eq hFv658.symm) rfl))))))) (hJ657.up (by omega)) (by omega) (by omega) (by omega)
    · refine X.retv (zi264 73) rfl t264 ?_
      exact hQ  m648  (Eq.trans (zn_eq hFv504.symm) (Eq.trans (if_pos h505) (Eq.trans (zs_eq hFv642.symm) (Eq.trans (zn_eq hFv647.symm) (Eq.trans (zs_eq hm648) (Eq.trans (if_neg h651) rfl)))))) (hJ649.up (by omega)) (by omega) (by omega) (by omega)
noncomputable def fl260_55_1_b (self : Int → zM → Int × zM) (k87 : Int → zM → Int × zM) (y1 : Int) (m : zM) : Int × zM :=
  if (m 4 44 5) ≤ (m 4 44 8) then
  (k87 y1 m)
  else
  (if (m 4 44 9) = 0 then
  (zs (f264_1 m) fun m517 =>
  zs (f263_1 m517) fun m520 =>
  self (y1 + 1) m520)
  else
  (k87 y1 m))
noncomputable def fl260_55_1 (k87 : Int → zM → Int × zM) : Nat → Int → zM → Int × zM
  | 0 => fun y1 m => (0, m)
  | n + 1 => fl260_55_1_b (fl260_55_1 k87 n) k87
theorem l260_55_1 {s : Nat × (Nat → Int32)} {S : zS} {m0 : zM} {d : Nat} {Q : Option zV → zM → Prop} {R0 : Int × zM} {k87 : Int → zM → Int × zM} (BE : Int) (hE : BE ≤ 1000000000) (hd : 17 ≤ d) (hf21 : ¬ S.1 21) (hf23 : ¬ S.1 23) (hf36 : ¬ S.1 36) (hf39 : ¬ S.1 39) (hg4 : ¬ S.2.1 4)
    (K87 : ∀ (x1 : Int) (m' : zM) (B' : Int), J S m0 B' m' → B' ≤ BE → (0 ≤ x1 ∧ x1 ≤ 605) → (x1 ≤ m' 4 44 8 + 302 * m' 4 44 9) → R0 = k87 x1 m' → X (EE s) d 260 87 [(0, zr 4 44), (1, zi x1)] [] m' Q) :
    ∀ (n : Nat) (y1 : Int) (m : zM) (B : Int), J S m0 B m → B + 0 * (n : Int) ≤ BE → (0 ≤ y1 ∧ y1 ≤ 605) → (y1 ≤ m 4 44 8 + 302 * m 4 44 9) → 604 - m 4 44 8 - 302 * m 4 44 9 < (n : Int) → R0 = fl260_55_1 k87 n y1 m → X (EE s) d 260 55 [(0, zr 4 44), (1, zi y1)] [] m Q := by
  intro n
  induction n with
  | zero =>
    intro y1 m B hJ hB hy1 hr0 hn hR
    have zf0 := r44_8 hJ 4
    have zf1 := r44_9 hJ 4
    exfalso
    omega
  | succ n ih =>
    intro y1 m B hJ hB hy1 hr0 hn hR
    replace hR : R0 = fl260_55_1_b (fl260_55_1 k87 n) k87 y1 m := hR
    refine X.aload_n 56 (zi260 55) rfl rfl rfl ?_
    refine X.getI 59 8 (zi260 56) rfl rfl (by decide) rfl rfl rfl ?_
    have h512 := r44_8 hJ 4
    refine X.aload_n 60 (zi260 59) rfl rfl rfl ?_
    refine X.getI 63 5 (zi260 60) rfl rfl (by decide) rfl rfl rfl ?_
    have h513 := r44_5 hJ 4
    refine X.icmpge 87 66 (zi260 63) rfl rfl rfl (fun h514 => ?_) (fun h514 => ?_)
    · exact K87 y1 m (B) (hJ.up (by omega)) (by omega) (by first | trivial | omega) (by omega) (Eq.trans hR (Eq.trans (if_pos h514) rfl))
    · refine X.aload_n 67 (zi260 66) rfl rfl rfl ?_
      refine X.getZ 70 9 (zi260 67) rfl rfl (by decide) rfl rfl rfl (fun h515 => ?_)
      refine X.ifne 87 73 (zi260 70) rfl rfl rfl (fun h516 => ?_) (fun h516 => ?_)
      · exact K87 y1 m (B) (hJ.up (by omega)) (by omega) (by first | trivial | omega) (by omega) (Eq.trans hR (Eq.trans (if_neg h514) (Eq.trans (if_neg h516) rfl)))
      · refine X.aload_n 74 (zi260 73) rfl rfl rfl ?_
        refine X.callv 77 [] [] [(0, zr 4 44)] (zi260 74) rfl (by decide) rfl rfl (by omega) rfl rfl (by decide) rfl t264 (Nat.le_of_ble_eq_true rfl) (Nat.le_of_ble_eq_true rfl) rfl ?_
        refine c264_1 (B := B)   (by omega) (hJ.up (by omega)) (by omega)  hf21 hf23 hf36 hf39 hg4 (fun m517 hFv519 hJ518 hqv519_0 hqv519_1 hqv519_2 => ?_)
        show X (EE s) d 260 77 [(0, zr 4 44), (1, zi y1)] [] m517 _
        refine X.iinc 80 [(0, zr 4 44), (1, zi (y1 + 1))] (zi260 77) rfl rfl rfl (by omega) rfl ?_
        refine X.aload_n 81 (zi260 80) rfl rfl rfl ?_
        refine X.callv 84 [] [] [(0, zr 4 44)] (zi260 81) rfl (by decide) rfl rfl (by omega) rfl rfl (by decide) rfl t263 (Nat.le_of_ble_eq_true rfl) (Nat.le_of_ble_eq_true rfl) rfl ?_
        refine c263_1 (B := B)   (by omega) (hJ518.up (by omega)) (by omega)  hf39 hg4 (fun m520 hFv522 hJ521 hqv522_0 hqv522_1 => ?_)
        show X (EE s) d 260 84 [(0, zr 4 44), (1, zi (y1 + 1))] [] m520 _
        refine X.goto 55 (zi260 84) rfl rfl ?_
        exact ih (y1 + 1) m520 (B) (hJ521.up (by omega)) (by omega) (by omega) (by omega) (by omega) (Eq.trans hR (Eq.trans (if_neg h514) (Eq.trans (if_pos h516) (Eq.trans (zs_eq hFv519.symm) (Eq.trans (zs_eq hFv522.symm) rfl)))))
-- WorkMeterModel.calendar
noncomputable def f260_1 (m : zM) : Int × zM :=
  zs (z_upd m 4 44 6 0) fun m501 =>
  zs (z_upd m501 4 44 7 (-1)) fun m503 =>
  zb (f203_1 m503) fun v507 m505 =>
  if v507 = 0 then
  (zs (z_cpy m505 4 46 4 45 0 0 1619) fun m509 =>
  zs (z_upd m509 4 44 9 0) fun m512 =>
  zs (z_upd m512 4 44 8 0) fun m514 =>
  zs (f262_1 m514) fun m516 =>
  zs (f263_1 m516) fun m519 =>
  fl260_55_1 (fun y522 m523 =>
  zs (z_upd m523 4 44 5 0) fun m529 =>
  if (m529 4 44 9) = 0 then
  ((y522, m529))
  else
  (zs (z_cpy m529 4 45 4 46 0 0 1619) fun m533 =>
  ((-1), m533))) (zfu 605) 0 m519)
  else
  (zs (z_upd m505 4 44 5 0) fun m536 =>
  ((-1), m536))
-- WorkMeterModel.calendar
theorem c260_1 {s : Nat × (Nat → Int32)} {S : zS} {m0 m : zM} {B : Int} {d : Nat} {Q : Option zV → zM → Prop} (hd : 17 ≤ d) (hJ : J S m0 B m) (hB : B + 0 ≤ 1000000000) (hf21 : ¬ S.1 21) (hf22 : ¬ S.1 22) (hf23 : ¬ S.1 23) (hf24 : ¬ S.1 24) (hf25 : ¬ S.1 25) (hf26 : ¬ S.1 26) (hf27 : ¬ S.1 27) (hf28 : ¬ S.1 28) (hf29 : ¬ S.1 29) (hf30 : ¬ S.1 30) (hf31 : ¬ S.1 31) (hf32 : ¬ S.1 32) (hf33 : ¬ S.1 33) (hf35 : ¬ S.1 35) (hf36 : ¬ S.1 36) (hf38 : ¬ S.1 38) (hf39 : ¬ S.1 39) (hg4 : ¬ S.2.1 4) (hQ : ∀ (v : Int) m', ((-1) ≤ v ∧ v ≤ 605) → f260_1 m = (v, m') → J S m0 (B) m' → Q (some (zi v)) m') : X (EE s) d 260 0 [(0, zr 4 44)] [] m Q := by
  refine X.aload_n 1 (zi260 0) rfl rfl rfl ?_
  refine X.iconst 2 (zi260 1) rfl rfl (by decide) ?_
  refine X.putI' 5 6 (zi260 2) rfl rfl (by decide) rfl rfl rfl (fun hrm501 m501 hm501 => ?_)
  have hJ502 := w44_6 hJ hm501 (by omega) hrm501 hf36 hg4
  refine X.aload_n 6 (zi260 5) rfl rfl rfl ?_
  refine X.iconst 7 (zi260 6) rfl rfl (by decide) ?_
  refine X.putI' 10 7 (zi260 7) rfl rfl (by decide) rfl rfl rfl (fun hrm503 m503 hm503 => ?_)
  have hJ504 := w44_6 hJ502 hm503 (by omega) hrm503 hf36 hg4
  refine X.aload_n 11 (zi260 10) rfl rfl rfl ?_
  refine X.callv 14 [] [] [(0, zr 4 44)] (zi260 11) rfl (by decide) rfl rfl (by omega) rfl rfl (by decide) rfl t203 (Nat.le_of_ble_eq_true rfl) (Nat.le_of_ble_eq_true rfl) rfl ?_
  refine c203_1 (B := B)   (by omega) (hJ504.up (by omega)) (by omega)  hf24 hg4 (fun v507 m505 hv507 hFv507 hJ506 => ?_)
  show X (EE s) d 260 14 [(0, zr 4 44)] [zi v507] m505 _
  refine X.ifeq 24 17 (zi260 14) rfl rfl rfl (fun h508 => ?_) (fun h508 => ?_)
  · refine X.aload_n 25 (zi260 24) rfl rfl rfl ?_
    refine X.getF 28 (zi260 25) rfl rfl (by decide) rfl rfl ?_
    refine X.aload_n 29 (zi260 28) rfl rfl rfl ?_
    refine X.getF 32 (zi260 29) rfl rfl (by decide) rfl rfl ?_
    refine X.calls 35 [zr 4 45, zr 4 46] [] [(0, zr 4 45), (1, zr 4 46)] (zi260 32) (by decide) rfl rfl (by omega) rfl rfl t261 (Nat.le_of_ble_eq_true rfl) (Nat.le_of_ble_eq_true rfl) rfl ?_
    refine c_cq_45_46 (S := S) (B := B) (by omega) (hJ506)  hf38 hg4 (fun m509 hFv511 hJ510 => ?_)
    have wcm509 : m509 4 44 3 = m505 4 44 3 := by rw [hFv511]; exact z_cpy_o rfl
    show X (EE s) d 260 35 [(0, zr 4 44)] [] m509 _
    refine X.aload_n 36 (zi260 35) rfl rfl rfl ?_
    refine X.iconst 37 (zi260 36) rfl rfl (by decide) ?_
    refine X.putZ' 40 9 (zi260 37) rfl rfl (by decide) rfl rfl rfl (by omega) (fun hrm512 m512 hm512 => ?_)
    have hJ513 := w44_9 hJ510 hm512 (by omega) hf39 hg4
    have em512 : m512 4 44 9 = 0 := by rw [hm512]; exact z_upd_same _ _ _ _ _
    refine X.aload_n 41 (zi260 40) rfl rfl rfl ?_
    refine X.iconst 42 (zi260 41) rfl rfl (by decide) ?_
    refine X.putI' 45 8 (zi260 42) rfl rfl (by decide) rfl rfl rfl (fun hrm514 m514 hm514 => ?_)
    have hJ515 := w44_8 hJ513 hm514 (by omega) hf39 hg4
    have em514 : m514 4 44 8 = 0 := by rw [hm514]; exact z_upd_same _ _ _ _ _
    refine X.aload_n 46 (zi260 45) rfl rfl rfl ?_
    refine X.callv 49 [] [] [(0, zr 4 44)] (zi260 46) rfl (by decide) rfl rfl (by omega) rfl rfl (by decide) rfl t262 (Nat.le_of_ble_eq_true rfl) (Nat.le_of_ble_eq_true rfl) rfl ?_
    refine c262_1 (S := (S.1, S.2.1, True, S.2.2.2)) (B := B)   (by omega) (hJ515.up (by omega)) (by omega)  hf21 hf39 hg4 (fun m516 hFv518 hJ517 => ?_)
    show X (EE s) d 260 49 [(0, zr 4 44)] [] m516 _
    refine X.iconst 50 (zi260 49) rfl rfl (by decide) ?_
    refine X.istore_n 51 [(0, zr 4 44), (1, zi 0)] (zi260 50) rfl rfl rfl ?_
    refine X.aload_n 52 (zi260 51) rfl rfl rfl ?_
    refine X.callv 55 [] [] [(0, zr 4 44)] (zi260 52) rfl (by decide) rfl rfl (by omega) rfl rfl (by decide) rfl t263 (Nat.le_of_ble_eq_true rfl) (Nat.le_of_ble_eq_true rfl) rfl ?_
    refine c263_1 (S := (S.1, S.2.1, True, S.2.2.2)) (B := B)   (by omega) (hJ517.up (by omega)) (by omega)  hf39 hg4 (fun m519 hFv521 hJ520 hqv521_0 hqv521_1 => ?_)
    show X (EE s) d 260 55 [(0, zr 4 44), (1, zi 0)] [] m519 _
    have hz605 := zfu_eq 605
    have zf527 := r44_8 hJ520 4
    have zf528 := r44_9 hJ520 4
    refine l260_55_1 (s := s) (d := d) (R0 := (f260_1 m)) (S := (S.1, S.2.1, True, S.2.2.2))    (BE := B + 0) (by omega) (by omega) hf21 hf23 hf36 hf39 hg4 (fun y522 m523 B524 hJ525 hBB524 hby522 hrlm523_0 hR526 => ?_) (zfu 605) 0 m519 (B) (hJ520.up (by omega)) (by omega) (by omega) (by omega) (by omega) (Eq.trans (zs_eq hm501) (Eq.trans (zs_eq hm503) (Eq.trans (zb_eq hFv507) (Eq.trans (if_pos h508) (Eq.trans (zs_eq hFv511) (Eq.trans (zs_eq hm512) (Eq.trans (zs_eq hm514) (Eq.trans (zs_eq hFv518.symm) (Eq.trans (zs_eq hFv521.symm) rfl)))))))))
    refine X.aload_n 88 (zi260 87) rfl rfl rfl ?_
    refine X.iconst 89 (zi260 88) rfl rfl (by decide) ?_
    refine X.putI' 92 5 (zi260 89) rfl rfl (by decide) rfl rfl rfl (fun hrm529 m529 hm529 => ?_)
    have hJ530 := w44_5 hJ525 hm529 (by omega) hf35 hg4
    have em529 : m529 4 44 5 = 0 := by rw [hm529]; exact z_upd_same _ _ _ _ _
    refine X.aload_n 93 (zi260 92) rfl rfl rfl ?_
    refine X.getZ 96 9 (zi260 93) rfl rfl (by decide) rfl rfl rfl (fun h531 => ?_)
    refine X.ifne 101 99 (zi260 96) rfl rfl rfl (fun h532 => ?_) (fun h532 => ?_)
    · refine X.cut [(0, zr 4 44)] (zi260 101) rfl ?_
      refine X.aload_n 102 (zi260 101) rfl rfl rfl ?_
      refine X.getF 105 (zi260 102) rfl rfl (by decide) rfl rfl ?_
      refine X.aload_n 106 (zi260 105) rfl rfl rfl ?_
      refine X.getF 109 (zi260 106) rfl rfl (by decide) rfl rfl ?_
      refine X.calls 112 [zr 4 46, zr 4 45] [] [(0, zr 4 46), (1, zr 4 45)] (zi260 109) (by decide) rfl rfl (by omega) rfl rfl t261 (Nat.le_of_ble_eq_true rfl) (Nat.le_of_ble_eq_true rfl) rfl ?_
      refine c_cq_46_45 (S := (S.1, S.2.1, True, S.2.2.2)) (B := B524) (by omega) (hJ530) trivial hf21 hf22 hf23 hf24 hf25 hf26 hf27 hf28 hf29 hf30 hf31 hf32 hf33 hg4 (fun m533 hFv535 hJ534 => ?_)
      have wcm533 : m533 4 44 3 = m529 4 44 3 := by rw [hFv535]; exact z_cpy_o rfl
      show X (EE s) d 260 112 [(0, zr 4 44)] [] m533 _
      refine X.iconst 113 (zi260 112) rfl rfl (by decide) ?_
      refine X.reti (zi260 113) rfl t260 ?_
      exact hQ (-1) m533 (by first | trivial | omega) (Eq.trans hR526 (Eq.trans (zs_eq hm529) (Eq.trans (if_neg h532) (Eq.trans (zs_eq hFv535) rfl)))) ((J.wk (p' := S.2.2.1) (q' := S.2.2.2) hJ534 (fun h => by first | trivial | exact h) (fun h => by first | trivial | exact h)).up (by omega)) 
    · refine X.iload_n 100 (zi260 99) rfl rfl rfl ?_
      refine X.reti (zi260 100) rfl t260 ?_
      exact hQ y522 m529 (by first | trivial | omega) (Eq.trans hR526 (Eq.trans (zs_eq hm529) (Eq.trans (if_pos h532) rfl))) ((J.wk (p' := S.2.2.1) (q' := S.2.2.2) hJ530 (fun h => by first | trivial | exact h) (fun h => by first | trivial | exact h)).up (by omega)) 
  · refine X.aload_n 18 (zi260 17) rfl rfl rfl ?_
    refine X.iconst 19 (zi260 18) rfl rfl (by decide) ?_
    refine X.putI' 22 5 (zi260 19) rfl rfl (by decide) rfl rfl rfl (fun hrm536 m536 hm536 => ?_)
    have hJ537 := w44_5 hJ506 hm536 (by omega) hf35 hg4
    have em536 : m536 4 44 5 = 0 := by rw [hm536]; exact z_upd_same _ _ _ _ _
    refine X.iconst 23 (zi260 22) rfl rfl (by decide) ?_
    refine X.reti (zi260 23) rfl t260 ?_
    exact hQ (-1) m536 (by first | trivial | omega) (Eq.trans (zs_eq hm501) (Eq.trans (zs_eq hm503) (Eq.trans (zb_eq hFv507) (Eq.trans (if_neg h508) (Eq.trans (zs_eq hm536) rfl))))) (hJ537.up (by omega)) 
-- WorkMeter.fault
noncomputable def f113_1 (a1 : Int) (m : zM) : Int :=
  if a1 = 0 then
  ((m 4 41 4))
  else
  (zn (if a1 = 1 then
  ((m 4 41 5))
  else
  ((-1))) fun v504 =>
  v504)
-- WorkMeter.fault
theorem c113_1 {s : Nat × (Nat → Int32)} {S : zS} {m0 m : zM} {B : Int} {d : Nat} {Q : Option zV → zM → Prop} (a1 : Int) (hd : 13 ≤ d) (hJ : J S m0 B m) (hB : B + 0 ≤ 1000000000) (ha1 : (-2147483648) ≤ a1 ∧ a1 ≤ 2147483647) (hQ : ∀ (v : Int), ((-2147483648) ≤ v ∧ v ≤ 2147483647) → f113_1 a1 m = v → Q (some (zi v)) m) : X (EE s) d 113 0 [(0, zr 4 40), (1, zi a1)] [] m Q := by
  refine X.iload_n 1 (zi113 0) rfl rfl rfl ?_
  refine X.ifne 12 4 (zi113 1) rfl rfl rfl (fun h501 => ?_) (fun h501 => ?_)
  · refine X.iload_n 13 (zi113 12) rfl rfl rfl ?_
    refine X.iconst 14 (zi113 13) rfl rfl (by decide) ?_
    have hK507 : ∀ (v : Int) , ((-2147483648) ≤ v ∧ v ≤ 2147483647) → (if a1 = 1 then
        ((m 4 41 5))
        else
        ((-1))) = v → X (EE s) d 113 28 [] [zi v] m Q := by
      intro v504 hv504 hT508
      refine X.reti (zi113 28) rfl t113 ?_
      exact hQ v504 (by first | trivial | omega) (Eq.trans (if_neg h501) (Eq.trans (zn_eq hT508.symm) rfl)) 
    refine X.icmpne 27 17 (zi113 14) rfl rfl rfl (fun h502 => ?_) (fun h502 => ?_)
    · refine X.cut [] (zi113 27) rfl ?_
      refine X.iconst 28 (zi113 27) rfl rfl (by decide) ?_
      exact hK507 (-1) (by first | trivial | omega) (Eq.trans (if_neg h502) rfl)
    · refine X.aload_n 18 (zi113 17) rfl rfl rfl ?_
      refine X.getF 21 (zi113 18) rfl rfl (by decide) rfl rfl ?_
      refine X.getIr 24 5 (zi113 21) rfl rfl (by decide) rfl rfl rfl (fun h503 => ?_)
      refine X.goto 28 (zi113 24) rfl rfl ?_
      refine X.cut [] (zi113 28) rfl ?_
      exact hK507 (m 4 41 5) (by first | trivial | omega) (Eq.trans (if_pos h502) rfl)
  · refine X.aload_n 5 (zi113 4) rfl rfl rfl ?_
    refine X.getF 8 (zi113 5) rfl rfl (by decide) rfl rfl ?_
    refine X.getIr 11 4 (zi113 8) rfl rfl (by decide) rfl rfl rfl (fun h509 => ?_)
    refine X.reti (zi113 11) rfl t113 ?_
    exact hQ (m 4 41 4) (by first | trivial | omega) (Eq.trans (if_pos h501) rfl) 
-- WorkMeterModel.fault
noncomputable def f259_1 (a1 : Int) (m : zM) : Int :=
  zn (if a1 = 0 then
  ((m 4 44 6))
  else
  (if a1 = 1 then
  ((m 4 44 7))
  else
  ((-1)))) fun v505 =>
  v505
-- WorkMeterModel.fault
theorem c259_1 {s : Nat × (Nat → Int32)} {S : zS} {m0 m : zM} {B : Int} {d : Nat} {Q : Option zV → zM → Prop} (a1 : Int) (hd : 13 ≤ d) (hJ : J S m0 B m) (hB : B + 0 ≤ 1000000000) (ha1 : (-2147483648) ≤ a1 ∧ a1 ≤ 2147483647) (hQ : ∀ (v : Int), ((-2147483648) ≤ v ∧ v ≤ 2147483647) → f259_1 a1 m = v → Q (some (zi v)) m) : X (EE s) d 259 0 [(0, zr 4 44), (1, zi a1)] [] m Q := by
  refine X.iload_n 1 (zi259 0) rfl rfl rfl ?_
  have hK508 : ∀ (v : Int) , ((-2147483648) ≤ v ∧ v ≤ 2147483647) → (if a1 = 0 then
      ((m 4 44 6))
      else
      (if a1 = 1 then
      ((m 4 44 7))
      else
      ((-1)))) = v → X (EE s) d 259 24 [] [zi v] m Q := by
    intro v505 hv505 hT509
    refine X.reti (zi259 24) rfl t259 ?_
    exact hQ v505 (by first | trivial | omega) (Eq.trans (zn_eq hT509.symm) rfl) 
  refine X.ifne 11 4 (zi259 1) rfl rfl rfl (fun h501 => ?_) (fun h501 => ?_)
  · refine X.iload_n 12 (zi259 11) rfl rfl rfl ?_
    refine X.iconst 13 (zi259 12) rfl rfl (by decide) ?_
    refine X.icmpne 23 16 (zi259 13) rfl rfl rfl (fun h502 => ?_) (fun h502 => ?_)
    · refine X.cut [] (zi259 23) rfl ?_
      refine X.iconst 24 (zi259 23) rfl rfl (by decide) ?_
      exact hK508 (-1) (by first | trivial | omega) (Eq.trans (if_neg h501) (Eq.trans (if_neg h502) rfl))
    · refine X.aload_n 17 (zi259 16) rfl rfl rfl ?_
      refine X.getIr 20 7 (zi259 17) rfl rfl (by decide) rfl rfl rfl (fun h503 => ?_)
      refine X.goto 24 (zi259 20) rfl rfl ?_
      refine X.cut [] (zi259 24) rfl ?_
      exact hK508 (m 4 44 7) (by first | trivial | omega) (Eq.trans (if_neg h501) (Eq.trans (if_pos h502) rfl))
  · refine X.aload_n 5 (zi259 4) rfl rfl rfl ?_
    refine X.getIr 8 6 (zi259 5) rfl rfl (by decide) rfl rfl rfl (fun h504 => ?_)
    refine X.goto 24 (zi259 8) rfl rfl ?_
    refine X.cut [] (zi259 24) rfl ?_
    exact hK508 (m 4 44 6) (by first | trivial | omega) (Eq.trans (if_pos h501) rfl)
-- WorkMeter$Seal.close
noncomputable def f115_1 (g0 : Nat) (a1 : Int) (m : zM) : Int × zM :=
  if (m g0 39 0) = 0 then
  (if a1 < 0 then
  ((0, m))
  else
  (if a1 ≤ 9999 then
  (zs (z_upd m g0 39 0 1) fun m505 =>
  zs (z_upd m505 g0 39 1 a1) fun m507 =>
  (1, m507))
  else
  ((0, m))))
  else
  ((0, m))
end
section
-- WorkMeter$Seal.close
theorem c115_1 {s : Nat × (Nat → Int32)} {S : zS} {m0 m : zM} {B : Int} {d : Nat} {Q : Option zV → zM → Prop} (g0 : Nat) (a1 : Int) (hd : 13 ≤ d) (hJ : J S m0 B m) (hB : B + 0 ≤ 1000000000) (ha1 : (-2147483648) ≤ a1 ∧ a1 ≤ 2147483647) (hf4 : ¬ S.1 4) (hgg0 : ¬ S.2.1 g0) (hQ : ∀ (v : Int) m', (0 ≤ v ∧ v ≤ 1) → f115_1 g0 a1 m = (v, m') → J S m0 (B) m' → Q (some (zi v)) m') : X (EE s) d 115 0 [(0, zr g0 39), (1, zi a1)] [] m Q := by
  refine X.aload_n 1 (zi115 0) rfl rfl rfl ?_
  refine X.getZ 4 0 (zi115 1) rfl rfl (by decide) rfl rfl rfl (fun h501 => ?_)
  refine X.ifne 18 7 (zi115 4) rfl rfl rfl (fun h502 => ?_) (fun h502 => ?_)
  · refine X.cut [] (zi115 18) rfl ?_
    refine X.iconst 19 (zi115 18) rfl rfl (by decide) ?_
    refine X.retz (zi115 19) rfl t115 (by omega) ?_
    exact hQ 0 m (by first | trivial | omega) (Eq.trans (if_neg h502) rfl) (hJ.up (by omega)) 
  · refine X.iload_n 8 (zi115 7) rfl rfl rfl ?_
    refine X.iflt 18 11 (zi115 8) rfl rfl rfl (fun h503 => ?_) (fun h503 => ?_)
    · refine X.cut [] (zi115 18) rfl ?_
      refine X.iconst 19 (zi115 18) rfl rfl (by decide) ?_
      refine X.retz (zi115 19) rfl t115 (by omega) ?_
      exact hQ 0 m (by first | trivial | omega) (Eq.trans (if_pos h502) (Eq.trans (if_pos h503) rfl)) (hJ.up (by omega)) 
    · refine X.iload_n 12 (zi115 11) rfl rfl rfl ?_
      refine X.sipush 15 (zi115 12) rfl rfl (by decide) ?_
      refine X.icmple 20 18 (zi115 15) rfl rfl rfl (fun h504 => ?_) (fun h504 => ?_)
      · refine X.aload_n 21 (zi115 20) rfl rfl rfl ?_
        refine X.iconst 22 (zi115 21) rfl rfl (by decide) ?_
        refine X.putZ' 25 0 (zi115 22) rfl rfl (by decide) rfl rfl rfl (by omega) (fun hrm505 m505 hm505 => ?_)
        have hJ506 := w39_0 hJ hm505 (by omega) hf4 hgg0
        refine X.aload_n 26 (zi115 25) rfl rfl rfl ?_
        refine X.iload_n 27 (zi115 26) rfl rfl rfl ?_
        refine X.putI' 30 1 (zi115 27) rfl rfl (by decide) rfl rfl rfl (fun hrm507 m507 hm507 => ?_)
        have hJ508 := w39_1 hJ506 hm507 hrm507 hf4 hgg0
        refine X.iconst 31 (zi115 30) rfl rfl (by decide) ?_
        refine X.retz (zi115 31) rfl t115 (by omega) ?_
        exact hQ 1 m507 (by first | trivial | omega) (Eq.trans (if_pos h502) (Eq.trans (if_neg h503) (Eq.trans (if_pos h504) (Eq.trans (zs_eq hm505) (Eq.trans (zs_eq hm507) rfl))))) (hJ508.up (by omega)) 
      · refine X.cut [] (zi115 18) rfl ?_
        refine X.iconst 19 (zi115 18) rfl rfl (by decide) ?_
        refine X.retz (zi115 19) rfl t115 (by omega) ?_
        exact hQ 0 m (by first | trivial | omega) (Eq.trans (if_pos h502) (Eq.trans (if_neg h503) (Eq.trans (if_neg h504) rfl))) (hJ.up (by omega)) 
-- WorkMeter$Meter.note
theorem c54_2 {s : Nat × (Nat → Int32)} {S : zS} {m0 m : zM} {B : Int} {d : Nat} {Q : Option zV → zM → Prop} (g0 : Nat) (a1 a2 : Int) (hd : 14 ≤ d) (hJ : J S m0 B m) (hB : B + 1 ≤ 1000000000) (ha1 : 30 ≤ a1 ∧ a1 ≤ 30) (ha2 : 0 ≤ a2 ∧ a2 ≤ 0) (hf6 : ¬ S.1 6) (hgg0 : ¬ S.2.1 g0) (hQ : ∀ m', f54_1 g0 a1 a2 m = m' → J S m0 (B + 1) m' → Q none m') : X (EE s) d 54 0 [(0, zr g0 8), (1, zi a1), (2, zi a2)] [] m Q := by
  refine X.aload_n 1 (zi54 0) rfl rfl rfl ?_
  refine X.getR 4 (zi54 1) rfl rfl (by decide) rfl rfl ?_
  refine X.aload_n 5 (zi54 4) rfl rfl rfl ?_
  refine X.getI 8 9 (zi54 5) rfl rfl (by decide) rfl rfl rfl ?_
  have h501 := r8_9 hJ g0
  refine X.iload_n 9 (zi54 8) rfl rfl rfl ?_
  refine X.iload_n 10 (zi54 9) rfl rfl rfl ?_
  refine X.callv 13 [zi (m g0 8 9), zi a1, zi a2] [] [(0, zr g0 37), (1, zi (m g0 8 9)), (2, zi a1), (3, zi a2)] (zi54 10) rfl (by decide) rfl rfl (by omega) rfl rfl (by decide) rfl t55 (Nat.le_of_ble_eq_true rfl) (Nat.le_of_ble_eq_true rfl) rfl ?_
  refine c55_1 (B := B) g0 (m g0 8 9) a1 a2 (by omega) (hJ.up (by omega)) (by omega) (by omega) (by omega) (by omega) hf6 hgg0 (fun m502 hFv504 hJ503 => ?_)
  show X (EE s) d 54 13 [(0, zr g0 8), (1, zi a1), (2, zi a2)] [] m502 _
  refine X.retv (zi54 13) rfl t54 ?_
  exact hQ  m502  (Eq.trans (zs_eq hFv504.symm) rfl) (hJ503.up (by omega)) 
-- WorkMeter.seal
noncomputable def f114_1 (a1 : Int) (m : zM) : Int × zM :=
  zb (f115_1 0 a1 m) fun v503 m501 =>
  if v503 = 0 then
  ((0, m501))
  else
  (zs (f54_1 0 30 0 m501) fun m505 =>
  (1, m505))
-- WorkMeter.seal
theorem c114_1 {s : Nat × (Nat → Int32)} {S : zS} {m0 m : zM} {B : Int} {d : Nat} {Q : Option zV → zM → Prop} (a1 : Int) (hd : 15 ≤ d) (hJ : J S m0 B m) (hB : B + 1 ≤ 1000000000) (ha1 : (-2147483648) ≤ a1 ∧ a1 ≤ 2147483647) (hf4 : ¬ S.1 4) (hf6 : ¬ S.1 6) (hg0 : ¬ S.2.1 0) (hQ : ∀ (v : Int) m', (0 ≤ v ∧ v ≤ 1) → f114_1 a1 m = (v, m') → J S m0 (B + 1) m' → Q (some (zi v)) m') : X (EE s) d 114 0 [(0, zr 4 40), (1, zi a1)] [] m Q := by
  refine X.aload_n 1 (zi114 0) rfl rfl rfl ?_
  refine X.getF 4 (zi114 1) rfl rfl (by decide) rfl rfl ?_
  refine X.getR 7 (zi114 4) rfl rfl (by decide) rfl rfl ?_
  refine X.iload_n 8 (zi114 7) rfl rfl rfl ?_
  refine X.callv 11 [zi a1] [] [(0, zr 0 39), (1, zi a1)] (zi114 8) rfl (by decide) rfl rfl (by omega) rfl rfl (by decide) rfl t115 (Nat.le_of_ble_eq_true rfl) (Nat.le_of_ble_eq_true rfl) rfl ?_
  refine c115_1 (B := B) 0 a1 (by omega) (hJ.up (by omega)) (by omega) (by omega) hf4 hg0 (fun v503 m501 hv503 hFv503 hJ502 => ?_)
  show X (EE s) d 114 11 [(0, zr 4 40), (1, zi a1)] [zi v503] m501 _
  refine X.ifne 16 14 (zi114 11) rfl rfl rfl (fun h504 => ?_) (fun h504 => ?_)
  · refine X.cut [(0, zr 4 40)] (zi114 16) rfl ?_
    refine X.aload_n 17 (zi114 16) rfl rfl rfl ?_
    refine X.getF 20 (zi114 17) rfl rfl (by decide) rfl rfl ?_
    refine X.bipush 22 (zi114 20) rfl rfl (by decide) ?_
    refine X.iconst 23 (zi114 22) rfl rfl (by decide) ?_
    refine X.callv 26 [zi 30, zi 0] [] [(0, zr 0 8), (1, zi 30), (2, zi 0)] (zi114 23) rfl (by decide) rfl rfl (by omega) rfl rfl (by decide) rfl t54 (Nat.le_of_ble_eq_true rfl) (Nat.le_of_ble_eq_true rfl) rfl ?_
    refine c54_2 (B := B) 0 30 0 (by omega) (hJ502.up (by omega)) (by omega) (by omega) (by omega) hf6 hg0 (fun m505 hFv507 hJ506 => ?_)
    show X (EE s) d 114 26 [(0, zr 4 40)] [] m505 _
    refine X.iconst 27 (zi114 26) rfl rfl (by decide) ?_
    refine X.retz (zi114 27) rfl t114 (by omega) ?_
    exact hQ 1 m505 (by first | trivial | omega) (Eq.trans (zb_eq hFv503) (Eq.trans (if_neg h504) (Eq.trans (zs_eq hFv507.symm) rfl))) (hJ506.up (by omega)) 
  · refine X.iconst 15 (zi114 14) rfl rfl (by decide) ?_
    refine X.retz (zi114 15) rfl t114 (by omega) ?_
    exact hQ 0 m501 (by first | trivial | omega) (Eq.trans (zb_eq hFv503) (Eq.trans (if_pos h504) rfl)) (hJ502.up (by omega)) 
-- WorkMeterModel.seal
noncomputable def f276_1 (a1 : Int) (m : zM) : Int × zM :=
  if (m 4 45 1614) = 1 then
  ((0, m))
  else
  (if a1 < 0 then
  ((0, m))
  else
  (if a1 ≤ 9999 then
  (zs (z_upd m 4 45 1614 1) fun m511 =>
  zs (z_upd m511 4 45 1615 a1) fun m513 =>
  zs (f223_1 30 0 m513) fun m515 =>
  (1, m515))
  else
  ((0, m))))
-- WorkMeterModel.seal
theorem c276_1 {s : Nat × (Nat → Int32)} {S : zS} {m0 m : zM} {B : Int} {d : Nat} {Q : Option zV → zM → Prop} (a1 : Int) (hd : 14 ≤ d) (hJ : J S m0 B m) (hB : B + 1 ≤ 1000000000) (ha1 : (-2147483648) ≤ a1 ∧ a1 ≤ 2147483647) (hf24 : ¬ S.1 24) (hf26 : ¬ S.1 26) (hg4 : ¬ S.2.1 4) (hQ : ∀ (v : Int) m', (0 ≤ v ∧ v ≤ 1) → f276_1 a1 m = (v, m') → J S m0 (B + 1) m' → Q (some (zi v)) m') : X (EE s) d 276 0 [(0, zr 4 44), (1, zi a1)] [] m Q := by
  refine X.aload_n 1 (zi276 0) rfl rfl rfl ?_
  refine X.getF 4 (zi276 1) rfl rfl (by decide) rfl rfl ?_
  refine X.sipush 7 (zi276 4) rfl rfl (by decide) ?_
  refine X.lald 8 (zi276 7) rfl rfl (by decide) rfl (by omega) ?_
  have h501 := r45_1614 hJ 4
  refine X.lconst (y := 1) 9 (zi276 8) rfl rfl rfl ?_
  refine X.lcmp 10 (zi276 9) rfl rfl (fun z502 hz502 => ?_)
  refine X.ifeq 25 13 (zi276 10) rfl rfl rfl (fun h503 => ?_) (fun h503 => ?_)
  · have h503c : (m 4 45 1614) = 1 := by omega
    clear h503 hz502
    refine X.cut [] (zi276 25) rfl ?_
    refine X.iconst 26 (zi276 25) rfl rfl (by decide) ?_
    refine X.retz (zi276 26) rfl t276 (by omega) ?_
    exact hQ 0 m (by first | trivial | omega) (Eq.trans (if_pos h503c) rfl) (hJ.up (by omega)) 
  · have h503c : ¬ (m 4 45 1614) = 1 := by omega
    clear h503 hz502
    refine X.iload_n 14 (zi276 13) rfl rfl rfl ?_
    refine X.i2l 15 (zi276 14) rfl rfl ?_
    refine X.lconst (y := 0) 16 (zi276 15) rfl rfl rfl ?_
    refine X.ldc2 19 (zi276 16) rfl rfl (by decide) ?_
    refine X.calls 22 [zl a1, zl 0, zl 9999] [] [(0, zl a1), (2, zl 0), (4, zl 9999)] (zi276 19) (by decide) rfl rfl (by omega) rfl rfl t204 (Nat.le_of_ble_eq_true rfl) (Nat.le_of_ble_eq_true rfl) rfl ?_
    refine X.lload_n 1 (zi204 0) rfl rfl rfl ?_
    refine X.lload_n 2 (zi204 1) rfl rfl rfl ?_
    refine X.lcmp 3 (zi204 2) rfl rfl (fun z504 hz504 => ?_)
    refine X.iflt 17 6 (zi204 3) rfl rfl rfl (fun h505 => ?_) (fun h505 => ?_)
    · have h505c : a1 < 0 := by omega
      clear h505 hz504
      refine X.cut [] (zi204 17) rfl ?_
      refine X.iconst 18 (zi204 17) rfl rfl (by decide) ?_
      refine X.retz (zi204 18) rfl t204 (by omega) ?_
      show X (EE s) d 276 22 [(0, zr 4 44), (1, zi a1)] [zi 0] m _
      refine X.ifne 27 25 (zi276 22) rfl rfl rfl (fun h506 => (by exfalso; omega)) (fun h506 => ?_)
      refine X.cut [] (zi276 25) rfl ?_
      refine X.iconst 26 (zi276 25) rfl rfl (by decide) ?_
      refine X.retz (zi276 26) rfl t276 (by omega) ?_
      exact hQ 0 m (by first | trivial | omega) (Eq.trans (if_neg h503c) (Eq.trans (if_pos h505c) rfl)) (hJ.up (by omega)) 
    · have h505c : ¬ a1 < 0 := by omega
      clear h505 hz504
      refine X.lload_n 7 (zi204 6) rfl rfl rfl ?_
      refine X.lload 9 (zi204 7) rfl rfl rfl ?_
      refine X.lcmp 10 (zi204 9) rfl rfl (fun z507 hz507 => ?_)
      refine X.ifgt 17 13 (zi204 10) rfl rfl rfl (fun h508 => ?_) (fun h508 => ?_)
      · have h508c : ¬ a1 ≤ 9999 := by omega
        clear h508 hz507
        refine X.cut [] (zi204 17) rfl ?_
        refine X.iconst 18 (zi204 17) rfl rfl (by decide) ?_
        refine X.retz (zi204 18) rfl t204 (by omega) ?_
        show X (EE s) d 276 22 [(0, zr 4 44), (1, zi a1)] [zi 0] m _
        refine X.ifne 27 25 (zi276 22) rfl rfl rfl (fun h509 => (by exfalso; omega)) (fun h509 => ?_)
        refine X.cut [] (zi276 25) rfl ?_
        refine X.iconst 26 (zi276 25) rfl rfl (by decide) ?_
        refine X.retz (zi276 26) rfl t276 (by omega) ?_
        exact hQ 0 m (by first | trivial | omega) (Eq.trans (if_neg h503c) (Eq.trans (if_neg h505c) (Eq.trans (if_neg h508c) rfl))) (hJ.up (by omega)) 
      · have h508c : a1 ≤ 9999 := by omega
        clear h508 hz507
        refine X.iconst 14 (zi204 13) rfl rfl (by decide) ?_
        refine X.goto 18 (zi204 14) rfl rfl ?_
        refine X.cut [] (zi204 18) rfl ?_
        refine X.retz (zi204 18) rfl t204 (by omega) ?_
        show X (EE s) d 276 22 [(0, zr 4 44), (1, zi a1)] [zi 1] m _
        refine X.ifne 27 25 (zi276 22) rfl rfl rfl (fun h510 => ?_) (fun h510 => (by exfalso; omega))
        refine X.aload_n 28 (zi276 27) rfl rfl rfl ?_
        refine X.getF 31 (zi276 28) rfl rfl (by decide) rfl rfl ?_
        refine X.sipush 34 (zi276 31) rfl rfl (by decide) ?_
        refine X.lconst (y := 1) 35 (zi276 34) rfl rfl rfl ?_
        refine X.last' 36 (zi276 35) rfl rfl (by decide) rfl (by omega) (fun hrm511 m511 hm511 => ?_)
        have hJ512 := w45_1614 hJ hm511 (by omega) hf24 hg4
        refine X.aload_n 37 (zi276 36) rfl rfl rfl ?_
        refine X.getF 40 (zi276 37) rfl rfl (by decide) rfl rfl ?_
        refine X.sipush 43 (zi276 40) rfl rfl (by decide) ?_
        refine X.iload_n 44 (zi276 43) rfl rfl rfl ?_
        refine X.i2l 45 (zi276 44) rfl rfl ?_
        refine X.last' 46 (zi276 45) rfl rfl (by decide) rfl (by omega) (fun hrm513 m513 hm513 => ?_)
        have hJ514 := w45_1615 hJ512 hm513 hrm513 hf24 hg4
        refine X.aload_n 47 (zi276 46) rfl rfl rfl ?_
        refine X.bipush 49 (zi276 47) rfl rfl (by decide) ?_
        refine X.lconst (y := 0) 50 (zi276 49) rfl rfl rfl ?_
        refine X.callv 53 [zi 30, zl 0] [] [(0, zr 4 44), (1, zi 30), (2, zl 0)] (zi276 50) rfl (by decide) rfl rfl (by omega) rfl rfl (by decide) rfl t223 (Nat.le_of_ble_eq_true rfl) (Nat.le_of_ble_eq_true rfl) rfl ?_
        refine c223_1 (B := B)  30 0 (by omega) (hJ514.up (by omega)) (by omega) (by omega) hf26 hg4 (fun m515 hFv517 hJ516 => ?_)
        show X (EE s) d 276 53 [(0, zr 4 44), (1, zi a1)] [] m515 _
        refine X.iconst 54 (zi276 53) rfl rfl (by decide) ?_
        refine X.retz (zi276 54) rfl t276 (by omega) ?_
        exact hQ 1 m515 (by first | trivial | omega) (Eq.trans (if_neg h503c) (Eq.trans (if_neg h505c) (Eq.trans (if_pos h508c) (Eq.trans (zs_eq hm511) (Eq.trans (zs_eq hm513) (Eq.trans (zs_eq hFv517.symm) rfl)))))) (hJ516.up (by omega)) 
-- WorkMeter$Seal.lockedFor
noncomputable def f118_1 (g0 : Nat) (a1 : Int) (m : zM) : Int :=
  (max 0 ((m g0 39 4) - a1))
-- WorkMeter$Seal.lockedFor
theorem c118_1 {s : Nat × (Nat → Int32)} {S : zS} {m0 m : zM} {B : Int} {d : Nat} {Q : Option zV → zM → Prop} (g0 : Nat) (a1 : Int) (hd : 13 ≤ d) (hJ : J S m0 B m) (hB : B + 0 ≤ 1000000000) (ha1 : 0 ≤ a1 ∧ a1 ≤ 2000000000) (hQ : ∀ (v : Int), (0 ≤ v ∧ v ≤ 2000000300) → f118_1 g0 a1 m = v → Q (some (zi v)) m) : X (EE s) d 118 0 [(0, zr g0 39), (1, zi a1)] [] m Q := by
  refine X.iconst 1 (zi118 0) rfl rfl (by decide) ?_
  refine X.aload_n 2 (zi118 1) rfl rfl rfl ?_
  refine X.getI 5 4 (zi118 2) rfl rfl (by decide) rfl rfl rfl ?_
  have h501 := r39_4 hJ g0
  refine X.iload_n 6 (zi118 5) rfl rfl rfl ?_
  refine X.isub 7 (zi118 6) rfl rfl (by omega) ?_
  refine X.maxI 10 (zi118 7) rfl rfl (by omega) (Nat.le_of_ble_eq_true rfl) ?_
  refine X.reti (zi118 10) rfl t118 ?_
  exact hQ (max 0 ((m g0 39 4) - a1)) (by first | trivial | omega) rfl 
-- WorkMeter$Meter.note
theorem c54_3 {s : Nat × (Nat → Int32)} {S : zS} {m0 m : zM} {B : Int} {d : Nat} {Q : Option zV → zM → Prop} (g0 : Nat) (a1 a2 : Int) (hd : 14 ≤ d) (hJ : J S m0 B m) (hB : B + 1 ≤ 1000000000) (ha1 : 32 ≤ a1 ∧ a1 ≤ 32) (ha2 : 0 ≤ a2 ∧ a2 ≤ 1000000000) (hf6 : ¬ S.1 6) (hgg0 : ¬ S.2.1 g0) (hQ : ∀ m', f54_1 g0 a1 a2 m = m' → J S m0 (B + 1) m' → Q none m') : X (EE s) d 54 0 [(0, zr g0 8), (1, zi a1), (2, zi a2)] [] m Q := by
  refine X.aload_n 1 (zi54 0) rfl rfl rfl ?_
  refine X.getR 4 (zi54 1) rfl rfl (by decide) rfl rfl ?_
  refine X.aload_n 5 (zi54 4) rfl rfl rfl ?_
  refine X.getI 8 9 (zi54 5) rfl rfl (by decide) rfl rfl rfl ?_
  have h501 := r8_9 hJ g0
  refine X.iload_n 9 (zi54 8) rfl rfl rfl ?_
  refine X.iload_n 10 (zi54 9) rfl rfl rfl ?_
  refine X.callv 13 [zi (m g0 8 9), zi a1, zi a2] [] [(0, zr g0 37), (1, zi (m g0 8 9)), (2, zi a1), (3, zi a2)] (zi54 10) rfl (by decide) rfl rfl (by omega) rfl rfl (by decide) rfl t55 (Nat.le_of_ble_eq_true rfl) (Nat.le_of_ble_eq_true rfl) rfl ?_
  refine c55_1 (B := B) g0 (m g0 8 9) a1 a2 (by omega) (hJ.up (by omega)) (by omega) (by omega) (by omega) (by omega) hf6 hgg0 (fun m502 hFv504 hJ503 => ?_)
  show X (EE s) d 54 13 [(0, zr g0 8), (1, zi a1), (2, zi a2)] [] m502 _
  refine X.retv (zi54 13) rfl t54 ?_
  exact hQ  m502  (Eq.trans (zs_eq hFv504.symm) rfl) (hJ503.up (by omega)) 
-- WorkMeter$Seal.lock
noncomputable def f121_1 (g0 : Nat) (a1 : Int) (m : zM) : zM :=
  zs (z_upd m g0 39 2 0) fun m501 =>
  zs (z_upd m501 g0 39 4 (a1 + 300)) fun m503 =>
  m503
-- WorkMeter$Seal.lock
theorem c121_1 {s : Nat × (Nat → Int32)} {S : zS} {m0 m : zM} {B : Int} {d : Nat} {Q : Option zV → zM → Prop} (g0 : Nat) (a1 : Int) (hd : 13 ≤ d) (hJ : J S m0 B m) (hB : B + 1 ≤ 1000000000) (ha1 : 0 ≤ a1 ∧ a1 ≤ 2000000000) (hf4 : ¬ S.1 4) (hgg0 : ¬ S.2.1 g0) (hQ : ∀ m', f121_1 g0 a1 m = m' → J S m0 (B + 1) m' → Q none m') : X (EE s) d 121 0 [(0, zr g0 39), (1, zi a1)] [] m Q := by
  refine X.aload_n 1 (zi121 0) rfl rfl rfl ?_
  refine X.iconst 2 (zi121 1) rfl rfl (by decide) ?_
  refine X.putI' 5 2 (zi121 2) rfl rfl (by decide) rfl rfl rfl (fun hrm501 m501 hm501 => ?_)
  have rbm501 := r39_2 hJ g0
  have hJ502 := w39_2 (hJ.up (B' := B + 1) (by omega)) hm501 (by omega) hf4 hgg0
  refine X.aload_n 6 (zi121 5) rfl rfl rfl ?_
  refine X.iload_n 7 (zi121 6) rfl rfl rfl ?_
  refine X.sipush 10 (zi121 7) rfl rfl (by decide) ?_
  refine X.iadd 11 (zi121 10) rfl rfl (by omega) ?_
  refine X.putI' 14 4 (zi121 11) rfl rfl (by decide) rfl rfl rfl (fun hrm503 m503 hm503 => ?_)
  have hJ504 := w39_4 hJ502 hm503 (by omega) hf4 hgg0
  refine X.retv (zi121 14) rfl t121 ?_
  exact hQ  m503  (Eq.trans (zs_eq hm501) (Eq.trans (zs_eq hm503) rfl)) (hJ504.up (by omega)) 
-- WorkMeter$Meter.note
theorem c54_4 {s : Nat × (Nat → Int32)} {S : zS} {m0 m : zM} {B : Int} {d : Nat} {Q : Option zV → zM → Prop} (g0 : Nat) (a1 a2 : Int) (hd : 14 ≤ d) (hJ : J S m0 B m) (hB : B + 1 ≤ 1000000000) (ha1 : 33 ≤ a1 ∧ a1 ≤ 33) (ha2 : 0 ≤ a2 ∧ a2 ≤ 0) (hf6 : ¬ S.1 6) (hgg0 : ¬ S.2.1 g0) (hQ : ∀ m', f54_1 g0 a1 a2 m = m' → J S m0 (B + 1) m' → Q none m') : X (EE s) d 54 0 [(0, zr g0 8), (1, zi a1), (2, zi a2)] [] m Q := by
  refine X.aload_n 1 (zi54 0) rfl rfl rfl ?_
  refine X.getR 4 (zi54 1) rfl rfl (by decide) rfl rfl ?_
  refine X.aload_n 5 (zi54 4) rfl rfl rfl ?_
  refine X.getI 8 9 (zi54 5) rfl rfl (by decide) rfl rfl rfl ?_
  have h501 := r8_9 hJ g0
  refine X.iload_n 9 (zi54 8) rfl rfl rfl ?_
  refine X.iload_n 10 (zi54 9) rfl rfl rfl ?_
  refine X.callv 13 [zi (m g0 8 9), zi a1, zi a2] [] [(0, zr g0 37), (1, zi (m g0 8 9)), (2, zi a1), (3, zi a2)] (zi54 10) rfl (by decide) rfl rfl (by omega) rfl rfl (by decide) rfl t55 (Nat.le_of_ble_eq_true rfl) (Nat.le_of_ble_eq_true rfl) rfl ?_
  refine c55_1 (B := B) g0 (m g0 8 9) a1 a2 (by omega) (hJ.up (by omega)) (by omega) (by omega) (by omega) (by omega) hf6 hgg0 (fun m502 hFv504 hJ503 => ?_)
  show X (EE s) d 54 13 [(0, zr g0 8), (1, zi a1), (2, zi a2)] [] m502 _
  refine X.retv (zi54 13) rfl t54 ?_
  exact hQ  m502  (Eq.trans (zs_eq hFv504.symm) rfl) (hJ503.up (by omega)) 
-- WorkMeter$Seal.breakOpen
noncomputable def f119_1 (g0 : Nat) (m : zM) : zM :=
  zs (z_upd m g0 39 0 0) fun m501 =>
  zs (z_upd m501 g0 39 2 0) fun m503 =>
  zs (z_upd m503 g0 39 4 0) fun m505 =>
  m505
-- WorkMeter$Seal.breakOpen
theorem c119_1 {s : Nat × (Nat → Int32)} {S : zS} {m0 m : zM} {B : Int} {d : Nat} {Q : Option zV → zM → Prop} (g0 : Nat) (hd : 13 ≤ d) (hJ : J S m0 B m) (hB : B + 1 ≤ 1000000000) (hf4 : ¬ S.1 4) (hgg0 : ¬ S.2.1 g0) (hQ : ∀ m', f119_1 g0 m = m' → J S m0 (B + 1) m' → Q none m') : X (EE s) d 119 0 [(0, zr g0 39)] [] m Q := by
  refine X.aload_n 1 (zi119 0) rfl rfl rfl ?_
  refine X.iconst 2 (zi119 1) rfl rfl (by decide) ?_
  refine X.putZ' 5 0 (zi119 2) rfl rfl (by decide) rfl rfl rfl (by omega) (fun hrm501 m501 hm501 => ?_)
  have hJ502 := w39_0 hJ hm501 (by omega) hf4 hgg0
  refine X.aload_n 6 (zi119 5) rfl rfl rfl ?_
  refine X.iconst 7 (zi119 6) rfl rfl (by decide) ?_
  refine X.putI' 10 2 (zi119 7) rfl rfl (by decide) rfl rfl rfl (fun hrm503 m503 hm503 => ?_)
  have rbm503 := r39_2 hJ502 g0
  have hJ504 := w39_2 (hJ502.up (B' := B + 1) (by omega)) hm503 (by omega) hf4 hgg0
  refine X.aload_n 11 (zi119 10) rfl rfl rfl ?_
  refine X.iconst 12 (zi119 11) rfl rfl (by decide) ?_
  refine X.putI' 15 4 (zi119 12) rfl rfl (by decide) rfl rfl rfl (fun hrm505 m505 hm505 => ?_)
  have hJ506 := w39_4 hJ504 hm505 (by omega) hf4 hgg0
  refine X.retv (zi119 15) rfl t119 ?_
  exact hQ  m505  (Eq.trans (zs_eq hm501) (Eq.trans (zs_eq hm503) (Eq.trans (zs_eq hm505) rfl))) (hJ506.up (by omega)) 
-- WorkMeter$Meter.note
theorem c54_5 {s : Nat × (Nat → Int32)} {S : zS} {m0 m : zM} {B : Int} {d : Nat} {Q : Option zV → zM → Prop} (g0 : Nat) (a1 a2 : Int) (hd : 14 ≤ d) (hJ : J S m0 B m) (hB : B + 1 ≤ 1000000000) (ha1 : 31 ≤ a1 ∧ a1 ≤ 31) (ha2 : 0 ≤ a2 ∧ a2 ≤ 0) (hf6 : ¬ S.1 6) (hgg0 : ¬ S.2.1 g0) (hQ : ∀ m', f54_1 g0 a1 a2 m = m' → J S m0 (B + 1) m' → Q none m') : X (EE s) d 54 0 [(0, zr g0 8), (1, zi a1), (2, zi a2)] [] m Q := by
  refine X.aload_n 1 (zi54 0) rfl rfl rfl ?_
  refine X.getR 4 (zi54 1) rfl rfl (by decide) rfl rfl ?_
  refine X.aload_n 5 (zi54 4) rfl rfl rfl ?_
  refine X.getI 8 9 (zi54 5) rfl rfl (by decide) rfl rfl rfl ?_
  have h501 := r8_9 hJ g0
  refine X.iload_n 9 (zi54 8) rfl rfl rfl ?_
  refine X.iload_n 10 (zi54 9) rfl rfl rfl ?_
  refine X.callv 13 [zi (m g0 8 9), zi a1, zi a2] [] [(0, zr g0 37), (1, zi (m g0 8 9)), (2, zi a1), (3, zi a2)] (zi54 10) rfl (by decide) rfl rfl (by omega) rfl rfl (by decide) rfl t55 (Nat.le_of_ble_eq_true rfl) (Nat.le_of_ble_eq_true rfl) rfl ?_
  refine c55_1 (B := B) g0 (m g0 8 9) a1 a2 (by omega) (hJ.up (by omega)) (by omega) (by omega) (by omega) (by omega) hf6 hgg0 (fun m502 hFv504 hJ503 => ?_)
  show X (EE s) d 54 13 [(0, zr g0 8), (1, zi a1), (2, zi a2)] [] m502 _
  refine X.retv (zi54 13) rfl t54 ?_
  exact hQ  m502  (Eq.trans (zs_eq hFv504.symm) rfl) (hJ503.up (by omega)) 
-- WorkMeter$Meter.tryCode
noncomputable def f117_1 (g0 : Nat) (a1 : Int) (m : zM) : Int × zM :=
  if (m g0 39 0) = 0 then
  ((0, m))
  else
  (zn (f118_1 g0 (m g0 8 9) m) fun v506 =>
  if v506 ≤ 0 then
  (if a1 = (m g0 39 1) then
  (zs (f119_1 g0 m) fun m528 =>
  zs (f54_1 g0 31 0 m528) fun m531 =>
  (1, m531))
  else
  (zs (z_upd m g0 39 2 ((m g0 39 2) + 1)) fun m511 =>
  zs (f54_1 g0 32 (m511 g0 39 2) m511) fun m514 =>
  if (m514 g0 39 2) < 3 then
  ((0, m514))
  else
  (zs (f121_1 g0 (m514 g0 8 9) m514) fun m522 =>
  zs (f54_1 g0 33 0 m522) fun m525 =>
  (0, m525))))
  else
  ((0, m)))
-- WorkMeter$Meter.tryCode
theorem c117_1 {s : Nat × (Nat → Int32)} {S : zS} {m0 m : zM} {B : Int} {d : Nat} {Q : Option zV → zM → Prop} (g0 : Nat) (a1 : Int) (hd : 15 ≤ d) (hJ : J S m0 B m) (hB : B + 4 ≤ 1000000000) (ha1 : (-2147483648) ≤ a1 ∧ a1 ≤ 2147483647) (hf4 : ¬ S.1 4) (hf6 : ¬ S.1 6) (hgg0 : ¬ S.2.1 g0) (hQ : ∀ (v : Int) m', (0 ≤ v ∧ v ≤ 1) → f117_1 g0 a1 m = (v, m') → J S m0 (B + 4) m' → Q (some (zi v)) m') : X (EE s) d 117 0 [(0, zr g0 8), (1, zi a1)] [] m Q := by
  refine X.aload_n 1 (zi117 0) rfl rfl rfl ?_
  refine X.getR 4 (zi117 1) rfl rfl (by decide) rfl rfl ?_
  refine X.getZ 7 0 (zi117 4) rfl rfl (by decide) rfl rfl rfl (fun h501 => ?_)
  refine X.ifeq 24 10 (zi117 7) rfl rfl rfl (fun h502 => ?_) (fun h502 => ?_)
  · refine X.cut [] (zi117 24) rfl ?_
    refine X.iconst 25 (zi117 24) rfl rfl (by decide) ?_
    refine X.retz (zi117 25) rfl t117 (by omega) ?_
    exact hQ 0 m (by first | trivial | omega) (Eq.trans (if_pos h502) rfl) (hJ.up (by omega)) 
  · refine X.aload_n 11 (zi117 10) rfl rfl rfl ?_
    refine X.getR 14 (zi117 11) rfl rfl (by decide) rfl rfl ?_
    refine X.aload_n 15 (zi117 14) rfl rfl rfl ?_
    refine X.getI 18 9 (zi117 15) rfl rfl (by decide) rfl rfl rfl ?_
    have h503 := r8_9 hJ g0
    refine X.callv 21 [zi (m g0 8 9)] [] [(0, zr g0 39), (1, zi (m g0 8 9))] (zi117 18) rfl (by decide) rfl rfl (by omega) rfl rfl (by decide) rfl t118 (Nat.le_of_ble_eq_true rfl) (Nat.le_of_ble_eq_true rfl) rfl ?_
    refine c118_1 (B := B) g0 (m g0 8 9) (by omega) (hJ.up (by omega)) (by omega) (by omega) (fun v506 hv506 hFv506 => ?_)
    show X (EE s) d 117 21 [(0, zr g0 8), (1, zi a1)] [zi v506] m _
    refine X.ifle 26 24 (zi117 21) rfl rfl rfl (fun h507 => ?_) (fun h507 => ?_)
    · refine X.iload_n 27 (zi117 26) rfl rfl rfl ?_
      refine X.aload_n 28 (zi117 27) rfl rfl rfl ?_
      refine X.getR 31 (zi117 28) rfl rfl (by decide) rfl rfl ?_
      refine X.getIr 34 1 (zi117 31) rfl rfl (by decide) rfl rfl rfl (fun h508 => ?_)
      refine X.icmpne 53 37 (zi117 34) rfl rfl rfl (fun h509 => ?_) (fun h509 => ?_)
      · refine X.cut [(0, zr g0 8)] (zi117 53) rfl ?_
        refine X.aload_n 54 (zi117 53) rfl rfl rfl ?_
        refine X.getR 57 (zi117 54) rfl rfl (by decide) rfl rfl ?_
        refine X.dup 58 (zi117 57) rfl rfl rfl ?_
        refine X.getI 61 2 (zi117 58) rfl rfl (by decide) rfl rfl rfl ?_
        have h510 := r39_2 hJ g0
        refine X.iconst 62 (zi117 61) rfl rfl (by decide) ?_
        refine X.iadd 63 (zi117 62) rfl rfl (by omega) ?_
        refine X.putI' 66 2 (zi117 63) rfl rfl (by decide) rfl rfl rfl (fun hrm511 m511 hm511 => ?_)
        have hJ512 := w39_2 (hJ.up (B' := B + 1) (by omega)) hm511 (by omega) hf4 hgg0
        refine X.aload_n 67 (zi117 66) rfl rfl rfl ?_
        refine X.bipush 69 (zi117 67) rfl rfl (by decide) ?_
        refine X.aload_n 70 (zi117 69) rfl rfl rfl ?_
        refine X.getR 73 (zi117 70) rfl rfl (by decide) rfl rfl ?_
        refine X.getI 76 2 (zi117 73) rfl rfl (by decide) rfl rfl rfl ?_
        have h513 := r39_2 hJ512 g0
        refine X.callv 79 [zi 32, zi (m511 g0 39 2)] [] [(0, zr g0 8), (1, zi 32), (2, zi (m511 g0 39 2))] (zi117 76) rfl (by decide) rfl rfl (by omega) rfl rfl (by decide) rfl t54 (Nat.le_of_ble_eq_true rfl) (Nat.le_of_ble_eq_true rfl) rfl ?_
        refine c54_3 (B := B + 1) g0 32 (m511 g0 39 2) (by omega) (hJ512.up (by omega)) (by omega) (by omega) (by omega) hf6 hgg0 (fun m514 hFv516 hJ515 => ?_)
        show X (EE s) d 117 79 [(0, zr g0 8)] [] m514 _
        refine X.aload_n 80 (zi117 79) rfl rfl rfl ?_
        refine X.getR 83 (zi117 80) rfl rfl (by decide) rfl rfl ?_
        refine X.callv 86 [] [] [(0, zr g0 39)] (zi117 83) rfl (by decide) rfl rfl (by omega) rfl rfl (by decide) rfl t120 (Nat.le_of_ble_eq_true rfl) (Nat.le_of_ble_eq_true rfl) rfl ?_
        refine X.aload_n 1 (zi120 0) rfl rfl rfl ?_
        refine X.getI 4 2 (zi120 1) rfl rfl (by decide) rfl rfl rfl ?_
        have h517 := r39_2 hJ515 g0
        refine X.iconst 5 (zi120 4) rfl rfl (by decide) ?_
        refine X.icmplt 12 8 (zi120 5) rfl rfl rfl (fun h518 => ?_) (fun h518 => ?_)
        · refine X.cut [] (zi120 12) rfl ?_
          refine X.iconst 13 (zi120 12) rfl rfl (by decide) ?_
          refine X.retz (zi120 13) rfl t120 (by omega) ?_
          show X (EE s) d 117 86 [(0, zr g0 8)] [zi 0] m514 _
          refine X.ifeq 107 89 (zi117 86) rfl rfl rfl (fun h519 => ?_) (fun h519 => (by exfalso; omega))
          refine X.cut [] (zi117 107) rfl ?_
          refine X.iconst 108 (zi117 107) rfl rfl (by decide) ?_
          refine X.retz (zi117 108) rfl t117 (by omega) ?_
          exact hQ 0 m514 (by first | trivial | omega) (Eq.trans (if_neg h502) (Eq.trans (zn_eq hFv506.symm) (Eq.trans (if_pos h507) (Eq.trans (if_neg h509) (Eq.trans (zs_eq hm511) (Eq.trans (zs_eq hFv516.symm) (Eq.trans (if_pos h518) rfl))))))) (hJ515.up (by omega)) 
        · refine X.iconst 9 (zi120 8) rfl rfl (by decide) ?_
          refine X.goto 13 (zi120 9) rfl rfl ?_
          refine X.cut [] (zi120 13) rfl ?_
          refine X.retz (zi120 13) rfl t120 (by omega) ?_
          show X (EE s) d 117 86 [(0, zr g0 8)] [zi 1] m514 _
          refine X.ifeq 107 89 (zi117 86) rfl rfl rfl (fun h520 => (by exfalso; omega)) (fun h520 => ?_)
          refine X.aload_n 90 (zi117 89) rfl rfl rfl ?_
          refine X.getR 93 (zi117 90) rfl rfl (by decide) rfl rfl ?_
          refine X.aload_n 94 (zi117 93) rfl rfl rfl ?_
          refine X.getI 97 9 (zi117 94) rfl rfl (by decide) rfl rfl rfl ?_
          have h521 := r8_9 hJ515 g0
          refine X.callv 100 [zi (m514 g0 8 9)] [] [(0, zr g0 39), (1, zi (m514 g0 8 9))] (zi117 97) rfl (by decide) rfl rfl (by omega) rfl rfl (by decide) rfl t121 (Nat.le_of_ble_eq_true rfl) (Nat.le_of_ble_eq_true rfl) rfl ?_
          refine c121_1 (B := B + 2) g0 (m514 g0 8 9) (by omega) (hJ515.up (by omega)) (by omega) (by omega) hf4 hgg0 (fun m522 hFv524 hJ523 => ?_)
          show X (EE s) d 117 100 [(0, zr g0 8)] [] m522 _
          refine X.aload_n 101 (zi117 100) rfl rfl rfl ?_
          refine X.bipush 103 (zi117 101) rfl rfl (by decide) ?_
          refine X.iconst 104 (zi117 103) rfl rfl (by decide) ?_
          refine X.callv 107 [zi 33, zi 0] [] [(0, zr g0 8), (1, zi 33), (2, zi 0)] (zi117 104) rfl (by decide) rfl rfl (by omega) rfl rfl (by decide) rfl t54 (Nat.le_of_ble_eq_true rfl) (Nat.le_of_ble_eq_true rfl) rfl ?_
          refine c54_4 (B := B + 3) g0 33 0 (by omega) (hJ523.up (by omega)) (by omega) (by omega) (by omega) hf6 hgg0 (fun m525 hFv527 hJ526 => ?_)
          show X (EE s) d 117 107 [(0, zr g0 8)] [] m525 _
          refine X.cut [] (zi117 107) rfl ?_
          refine X.iconst 108 (zi117 107) rfl rfl (by decide) ?_
          refine X.retz (zi117 108) rfl t117 (by omega) ?_
          exact hQ 0 m525 (by first | trivial | omega) (Eq.trans (if_neg h502) (Eq.trans (zn_eq hFv506.symm) (Eq.trans (if_pos h507) (Eq.trans (if_neg h509) (Eq.trans (zs_eq hm511) (Eq.trans (zs_eq hFv516.symm) (Eq.trans (if_neg h518) (Eq.trans (zs_eq hFv524.symm) (Eq.trans (zs_eq hFv527.symm) rfl))))))))) (hJ526.up (by omega)) 
      · refine X.aload_n 38 (zi117 37) rfl rfl rfl ?_
        refine X.getR 41 (zi117 38) rfl rfl (by decide) rfl rfl ?_
        refine X.callv 44 [] [] [(0, zr g0 39)] (zi117 41) rfl (by decide) rfl rfl (by omega) rfl rfl (by decide) rfl t119 (Nat.le_of_ble_eq_true rfl) (Nat.le_of_ble_eq_true rfl) rfl ?_
        refine c119_1 (B := B) g0  (by omega) (hJ.up (by omega)) (by omega)  hf4 hgg0 (fun m528 hFv530 hJ529 => ?_)
        show X (EE s) d 117 44 [(0, zr g0 8), (1, zi a1)] [] m528 _
        refine X.aload_n 45 (zi117 44) rfl rfl rfl ?_
        refine X.bipush 47 (zi117 45) rfl rfl (by decide) ?_
        refine X.iconst 48 (zi117 47) rfl rfl (by decide) ?_
        refine X.callv 51 [zi 31, zi 0] [] [(0, zr g0 8), (1, zi 31), (2, zi 0)] (zi117 48) rfl (by decide) rfl rfl (by omega) rfl rfl (by decide) rfl t54 (Nat.le_of_ble_eq_true rfl) (Nat.le_of_ble_eq_true rfl) rfl ?_
        refine c54_5 (B := B + 1) g0 31 0 (by omega) (hJ529.up (by omega)) (by omega) (by omega) (by omega) hf6 hgg0 (fun m531 hFv533 hJ532 => ?_)
        show X (EE s) d 117 51 [(0, zr g0 8), (1, zi a1)] [] m531 _
        refine X.iconst 52 (zi117 51) rfl rfl (by decide) ?_
        refine X.retz (zi117 52) rfl t117 (by omega) ?_
        exact hQ 1 m531 (by first | trivial | omega) (Eq.trans (if_neg h502) (Eq.trans (zn_eq hFv506.symm) (Eq.trans (if_pos h507) (Eq.trans (if_pos h509) (Eq.trans (zs_eq hFv530.symm) (Eq.trans (zs_eq hFv533.symm) rfl)))))) (hJ532.up (by omega)) 
    · refine X.cut [] (zi117 24) rfl ?_
      refine X.iconst 25 (zi117 24) rfl rfl (by decide) ?_
      refine X.retz (zi117 25) rfl t117 (by omega) ?_
      exact hQ 0 m (by first | trivial | omega) (Eq.trans (if_neg h502) (Eq.trans (zn_eq hFv506.symm) (Eq.trans (if_neg h507) rfl))) (hJ.up (by omega)) 
-- WorkMeter.open
noncomputable def f116_1 (a1 : Int) (m : zM) : Int × zM :=
  zb (f117_1 0 a1 m) fun v503 m501 =>
  (v503, m501)
-- WorkMeter.open
theorem c116_1 {s : Nat × (Nat → Int32)} {S : zS} {m0 m : zM} {B : Int} {d : Nat} {Q : Option zV → zM → Prop} (a1 : Int) (hd : 16 ≤ d) (hJ : J S m0 B m) (hB : B + 4 ≤ 1000000000) (ha1 : (-2147483648) ≤ a1 ∧ a1 ≤ 2147483647) (hf4 : ¬ S.1 4) (hf6 : ¬ S.1 6) (hg0 : ¬ S.2.1 0) (hQ : ∀ (v : Int) m', (0 ≤ v ∧ v ≤ 1) → f116_1 a1 m = (v, m') → J S m0 (B + 4) m' → Q (some (zi v)) m') : X (EE s) d 116 0 [(0, zr 4 40), (1, zi a1)] [] m Q := by
  refine X.aload_n 1 (zi116 0) rfl rfl rfl ?_
  refine X.getF 4 (zi116 1) rfl rfl (by decide) rfl rfl ?_
  refine X.iload_n 5 (zi116 4) rfl rfl rfl ?_
  refine X.callv 8 [zi a1] [] [(0, zr 0 8), (1, zi a1)] (zi116 5) rfl (by decide) rfl rfl (by omega) rfl rfl (by decide) rfl t117 (Nat.le_of_ble_eq_true rfl) (Nat.le_of_ble_eq_true rfl) rfl ?_
  refine c117_1 (B := B) 0 a1 (by omega) (hJ.up (by omega)) (by omega) (by omega) hf4 hf6 hg0 (fun v503 m501 hv503 hFv503 hJ502 => ?_)
  show X (EE s) d 116 8 [(0, zr 4 40), (1, zi a1)] [zi v503] m501 _
  refine X.retz (zi116 8) rfl t116 (by omega) ?_
  exact hQ v503 m501 (by first | trivial | omega) (Eq.trans (zb_eq hFv503) rfl) (hJ502.up (by omega)) 
-- WorkMeterModel.lockedFor
noncomputable def f278_1 (m : zM) : Int :=
  zn (if (m 4 45 1617) ≤ (m 4 45 0) then
  (0)
  else
  (((m 4 45 1617) - (m 4 45 0)))) fun v505 =>
  v505
-- WorkMeterModel.lockedFor
theorem c278_1 {s : Nat × (Nat → Int32)} {S : zS} {m0 m : zM} {B : Int} {d : Nat} {Q : Option zV → zM → Prop} (hd : 13 ≤ d) (hJ : J S m0 B m) (hB : B + 0 ≤ 1000000000) (hQ : ∀ (v : Int), ((-1999999999) ≤ v ∧ v ≤ 2000000300) → f278_1 m = v → Q (some (zl v)) m) : X (EE s) d 278 0 [(0, zr 4 44)] [] m Q := by
  refine X.aload_n 1 (zi278 0) rfl rfl rfl ?_
  refine X.getF 4 (zi278 1) rfl rfl (by decide) rfl rfl ?_
  refine X.sipush 7 (zi278 4) rfl rfl (by decide) ?_
  refine X.lald 8 (zi278 7) rfl rfl (by decide) rfl (by omega) ?_
  have h501 := r45_1617 hJ 4
  refine X.aload_n 9 (zi278 8) rfl rfl rfl ?_
  refine X.getF 12 (zi278 9) rfl rfl (by decide) rfl rfl ?_
  refine X.iconst 13 (zi278 12) rfl rfl (by decide) ?_
  refine X.lald 14 (zi278 13) rfl rfl (by decide) rfl (by omega) ?_
  have h502 := r45_0 hJ 4
  refine X.lcmp 15 (zi278 14) rfl rfl (fun z503 hz503 => ?_)
  have hK508 : ∀ (v : Int) , ((-1999999999) ≤ v ∧ v ≤ 2000000300) → (if (m 4 45 1617) ≤ (m 4 45 0) then
      (0)
      else
      (((m 4 45 1617) - (m 4 45 0)))) = v → X (EE s) d 278 37 [] [zl v] m Q := by
    intro v505 hv505 hT509
    refine X.retl (zi278 37) rfl t278 ?_
    exact hQ v505 (by first | trivial | omega) (Eq.trans (zn_eq hT509.symm) rfl) 
  refine X.ifle 36 18 (zi278 15) rfl rfl rfl (fun h504 => ?_) (fun h504 => ?_)
  · have h504c : (m 4 45 1617) ≤ (m 4 45 0) := by omega
    clear h504 hz503
    refine X.cut [] (zi278 36) rfl ?_
    refine X.lconst (y := 0) 37 (zi278 36) rfl rfl rfl ?_
    exact hK508 0 (by first | trivial | omega) (Eq.trans (if_pos h504c) rfl)
  · have h504c : ¬ (m 4 45 1617) ≤ (m 4 45 0) := by omega
    clear h504 hz503
    refine X.aload_n 19 (zi278 18) rfl rfl rfl ?_
    refine X.getF 22 (zi278 19) rfl rfl (by decide) rfl rfl ?_
    refine X.sipush 25 (zi278 22) rfl rfl (by decide) ?_
    refine X.lald 26 (zi278 25) rfl rfl (by decide) rfl (by omega) ?_
    refine X.aload_n 27 (zi278 26) rfl rfl rfl ?_
    refine X.getF 30 (zi278 27) rfl rfl (by decide) rfl rfl ?_
    refine X.iconst 31 (zi278 30) rfl rfl (by decide) ?_
    refine X.lald 32 (zi278 31) rfl rfl (by decide) rfl (by omega) ?_
    refine X.lsub 33 (zi278 32) rfl rfl (by omega) ?_
    refine X.goto 37 (zi278 33) rfl rfl ?_
    refine X.cut [] (zi278 37) rfl ?_
    exact hK508 ((m 4 45 1617) - (m 4 45 0)) (by first | trivial | omega) (Eq.trans (if_neg h504c) rfl)
-- WorkMeterModel.open
noncomputable def f277_1 (a1 : Int) (m : zM) : Int × zM :=
  if (m 4 45 1614) = 0 then
  ((0, m))
  else
  (zn (f278_1 m) fun v506 =>
  if v506 ≤ 0 then
  (if a1 = (m 4 45 1615) then
  (zs (z_upd m 4 45 1614 0) fun m529 =>
  zs (z_upd m529 4 45 1616 0) fun m531 =>
  zs (z_upd m531 4 45 1617 0) fun m533 =>
  zs (f223_1 31 0 m533) fun m535 =>
  (1, m535))
  else
  (zs (z_upd m 4 45 1616 ((m 4 45 1616) + 1)) fun m512 =>
  zs (f223_1 32 (m512 4 45 1616) m512) fun m515 =>
  if (m515 4 45 1616) < 3 then
  ((0, m515))
  else
  (zs (z_upd m515 4 45 1616 0) fun m521 =>
  zs (z_upd m521 4 45 1617 ((m521 4 45 0) + 300)) fun m524 =>
  zs (f223_1 33 0 m524) fun m526 =>
  (0, m526))))
  else
  ((0, m)))
-- WorkMeterModel.open
theorem c277_1 {s : Nat × (Nat → Int32)} {S : zS} {m0 m : zM} {B : Int} {d : Nat} {Q : Option zV → zM → Prop} (a1 : Int) (hd : 14 ≤ d) (hJ : J S m0 B m) (hB : B + 4 ≤ 1000000000) (ha1 : (-2147483648) ≤ a1 ∧ a1 ≤ 2147483647) (hf24 : ¬ S.1 24) (hf26 : ¬ S.1 26) (hg4 : ¬ S.2.1 4) (hQ : ∀ (v : Int) m', (0 ≤ v ∧ v ≤ 1) → f277_1 a1 m = (v, m') → J S m0 (B + 4) m' → Q (some (zi v)) m') : X (EE s) d 277 0 [(0, zr 4 44), (1, zi a1)] [] m Q := by
  refine X.aload_n 1 (zi277 0) rfl rfl rfl ?_
  refine X.getF 4 (zi277 1) rfl rfl (by decide) rfl rfl ?_
  refine X.sipush 7 (zi277 4) rfl rfl (by decide) ?_
  refine X.lald 8 (zi277 7) rfl rfl (by decide) rfl (by omega) ?_
  have h501 := r45_1614 hJ 4
  refine X.lconst (y := 0) 9 (zi277 8) rfl rfl rfl ?_
  refine X.lcmp 10 (zi277 9) rfl rfl (fun z502 hz502 => ?_)
  refine X.ifeq 22 13 (zi277 10) rfl rfl rfl (fun h503 => ?_) (fun h503 => ?_)
  · have h503c : (m 4 45 1614) = 0 := by omega
    clear h503 hz502
    refine X.cut [] (zi277 22) rfl ?_
    refine X.iconst 23 (zi277 22) rfl rfl (by decide) ?_
    refine X.retz (zi277 23) rfl t277 (by omega) ?_
    exact hQ 0 m (by first | trivial | omega) (Eq.trans (if_pos h503c) rfl) (hJ.up (by omega)) 
  · have h503c : ¬ (m 4 45 1614) = 0 := by omega
    clear h503 hz502
    refine X.aload_n 14 (zi277 13) rfl rfl rfl ?_
    refine X.callv 17 [] [] [(0, zr 4 44)] (zi277 14) rfl (by decide) rfl rfl (by omega) rfl rfl (by decide) rfl t278 (Nat.le_of_ble_eq_true rfl) (Nat.le_of_ble_eq_true rfl) rfl ?_
    refine c278_1 (B := B)   (by omega) (hJ.up (by omega)) (by omega)  (fun v506 hv506 hFv506 => ?_)
    show X (EE s) d 277 17 [(0, zr 4 44), (1, zi a1)] [zl v506] m _
    refine X.lconst (y := 0) 18 (zi277 17) rfl rfl rfl ?_
    refine X.lcmp 19 (zi277 18) rfl rfl (fun z507 hz507 => ?_)
    refine X.ifle 24 22 (zi277 19) rfl rfl rfl (fun h508 => ?_) (fun h508 => ?_)
    · have h508c : v506 ≤ 0 := by omega
      clear h508 hz507
      refine X.iload_n 25 (zi277 24) rfl rfl rfl ?_
      refine X.i2l 26 (zi277 25) rfl rfl ?_
      refine X.aload_n 27 (zi277 26) rfl rfl rfl ?_
      refine X.getF 30 (zi277 27) rfl rfl (by decide) rfl rfl ?_
      refine X.sipush 33 (zi277 30) rfl rfl (by decide) ?_
      refine X.lald 34 (zi277 33) rfl rfl (by decide) rfl (by omega) ?_
      refine X.lcmp 35 (zi277 34) rfl rfl (fun z509 hz509 => ?_)
      refine X.ifne 74 38 (zi277 35) rfl rfl rfl (fun h510 => ?_) (fun h510 => ?_)
      · have h510c : ¬ a1 = (m 4 45 1615) := by omega
        clear h510 hz509
        refine X.cut [(0, zr 4 44)] (zi277 74) rfl ?_
        refine X.aload_n 75 (zi277 74) rfl rfl rfl ?_
        refine X.getF 78 (zi277 75) rfl rfl (by decide) rfl rfl ?_
        refine X.sipush 81 (zi277 78) rfl rfl (by decide) ?_
        refine X.dup2 82 (zi277 81) rfl rfl ?_
        refine X.lald 83 (zi277 82) rfl rfl (by decide) rfl (by omega) ?_
        have h511 := r45_1616 hJ 4
        refine X.lconst (y := 1) 84 (zi277 83) rfl rfl rfl ?_
        refine X.ladd 85 (zi277 84) rfl rfl (by omega) ?_
        refine X.last' 86 (zi277 85) rfl rfl (by decide) rfl (by omega) (fun hrm512 m512 hm512 => ?_)
        have hJ513 := w45_1616 (hJ.up (B' := B + 1) (by omega)) hm512 (by omega) hf24 hg4
        refine X.aload_n 87 (zi277 86) rfl rfl rfl ?_
        refine X.bipush 89 (zi277 87) rfl rfl (by decide) ?_
        refine X.aload_n 90 (zi277 89) rfl rfl rfl ?_
        refine X.getF 93 (zi277 90) rfl rfl (by decide) rfl rfl ?_
        refine X.sipush 96 (zi277 93) rfl rfl (by decide) ?_
        refine X.lald 97 (zi277 96) rfl rfl (by decide) rfl (by omega) ?_
        have h514 := r45_1616 hJ513 4
        refine X.callv 100 [zi 32, zl (m512 4 45 1616)] [] [(0, zr 4 44), (1, zi 32), (2, zl (m512 4 45 1616))] (zi277 97) rfl (by decide) rfl rfl (by omega) rfl rfl (by decide) rfl t223 (Nat.le_of_ble_eq_true rfl) (Nat.le_of_ble_eq_true rfl) rfl ?_
        refine c223_1 (B := B + 1)  32 (m512 4 45 1616) (by omega) (hJ513.up (by omega)) (by omega) (by omega) hf26 hg4 (fun m515 hFv517 hJ516 => ?_)
        show X (EE s) d 277 100 [(0, zr 4 44)] [] m515 _
        refine X.aload_n 101 (zi277 100) rfl rfl rfl ?_
        refine X.getF 104 (zi277 101) rfl rfl (by decide) rfl rfl ?_
        refine X.sipush 107 (zi277 104) rfl rfl (by decide) ?_
        refine X.lald 108 (zi277 107) rfl rfl (by decide) rfl (by omega) ?_
        have h518 := r45_1616 hJ516 4
        refine X.ldc2 111 (zi277 108) rfl rfl (by decide) ?_
        refine X.lcmp 112 (zi277 111) rfl rfl (fun z519 hz519 => ?_)
        refine X.ifge 117 115 (zi277 112) rfl rfl rfl (fun h520 => ?_) (fun h520 => ?_)
        · have h520c : ¬ (m515 4 45 1616) < 3 := by omega
          clear h520 hz519
          refine X.aload_n 118 (zi277 117) rfl rfl rfl ?_
          refine X.getF 121 (zi277 118) rfl rfl (by decide) rfl rfl ?_
          refine X.sipush 124 (zi277 121) rfl rfl (by decide) ?_
          refine X.lconst (y := 0) 125 (zi277 124) rfl rfl rfl ?_
          refine X.last' 126 (zi277 125) rfl rfl (by decide) rfl (by omega) (fun hrm521 m521 hm521 => ?_)
          have rbm521 := r45_1616 hJ516 4
          have hJ522 := w45_1616 (hJ516.up (B' := B + 3) (by omega)) hm521 (by omega) hf24 hg4
          refine X.aload_n 127 (zi277 126) rfl rfl rfl ?_
          refine X.getF 130 (zi277 127) rfl rfl (by decide) rfl rfl ?_
          refine X.sipush 133 (zi277 130) rfl rfl (by decide) ?_
          refine X.aload_n 134 (zi277 133) rfl rfl rfl ?_
          refine X.getF 137 (zi277 134) rfl rfl (by decide) rfl rfl ?_
          refine X.iconst 138 (zi277 137) rfl rfl (by decide) ?_
          refine X.lald 139 (zi277 138) rfl rfl (by decide) rfl (by omega) ?_
          have h523 := r45_0 hJ522 4
          refine X.ldc2 142 (zi277 139) rfl rfl (by decide) ?_
          refine X.ladd 143 (zi277 142) rfl rfl (by omega) ?_
          refine X.last' 144 (zi277 143) rfl rfl (by decide) rfl (by omega) (fun hrm524 m524 hm524 => ?_)
          have hJ525 := w45_1617 hJ522 hm524 (by omega) hf24 hg4
          refine X.aload_n 145 (zi277 144) rfl rfl rfl ?_
          refine X.bipush 147 (zi277 145) rfl rfl (by decide) ?_
          refine X.lconst (y := 0) 148 (zi277 147) rfl rfl rfl ?_
          refine X.callv 151 [zi 33, zl 0] [] [(0, zr 4 44), (1, zi 33), (2, zl 0)] (zi277 148) rfl (by decide) rfl rfl (by omega) rfl rfl (by decide) rfl t223 (Nat.le_of_ble_eq_true rfl) (Nat.le_of_ble_eq_true rfl) rfl ?_
          refine c223_1 (B := B + 3)  33 0 (by omega) (hJ525.up (by omega)) (by omega) (by omega) hf26 hg4 (fun m526 hFv528 hJ527 => ?_)
          show X (EE s) d 277 151 [(0, zr 4 44)] [] m526 _
          refine X.iconst 152 (zi277 151) rfl rfl (by decide) ?_
          refine X.retz (zi277 152) rfl t277 (by omega) ?_
          exact hQ 0 m526 (by first | trivial | omega) (Eq.trans (if_neg h503c) (Eq.trans (zn_eq hFv506.symm) (Eq.trans (if_pos h508c) (Eq.trans (if_neg h510c) (Eq.trans (zs_eq hm512) (Eq.trans (zs_eq hFv517.symm) (Eq.trans (if_neg h520c) (Eq.trans (zs_eq hm521) (Eq.trans (zs_eq hm524) (Eq.trans (zs_eq hFv528.symm) rfl)))))))))) (hJ527.up (by omega)) 
        · have h520c : (m515 4 45 1616) < 3 := by omega
          clear h520 hz519
          refine X.iconst 116 (zi277 115) rfl rfl (by decide) ?_
          refine X.retz (zi277 116) rfl t277 (by omega) ?_
          exact hQ 0 m515 (by first | trivial | omega) (Eq.trans (if_neg h503c) (Eq.trans (zn_eq hFv506.symm) (Eq.trans (if_pos h508c) (Eq.trans (if_neg h510c) (Eq.trans (zs_eq hm512) (Eq.trans (zs_eq hFv517.symm) (Eq.trans (if_pos h520c) rfl))))))) (hJ516.up (by omega)) 
      · have h510c : a1 = (m 4 45 1615) := by omega
        clear h510 hz509
        refine X.aload_n 39 (zi277 38) rfl rfl rfl ?_
        refine X.getF 42 (zi277 39) rfl rfl (by decide) rfl rfl ?_
        refine X.sipush 45 (zi277 42) rfl rfl (by decide) ?_
        refine X.lconst (y := 0) 46 (zi277 45) rfl rfl rfl ?_
        refine X.last' 47 (zi277 46) rfl rfl (by decide) rfl (by omega) (fun hrm529 m529 hm529 => ?_)
        have hJ530 := w45_1614 hJ hm529 (by omega) hf24 hg4
        refine X.aload_n 48 (zi277 47) rfl rfl rfl ?_
        refine X.getF 51 (zi277 48) rfl rfl (by decide) rfl rfl ?_
        refine X.sipush 54 (zi277 51) rfl rfl (by decide) ?_
        refine X.lconst (y := 0) 55 (zi277 54) rfl rfl rfl ?_
        refine X.last' 56 (zi277 55) rfl rfl (by decide) rfl (by omega) (fun hrm531 m531 hm531 => ?_)
        have rbm531 := r45_1616 hJ530 4
        have hJ532 := w45_1616 (hJ530.up (B' := B + 1) (by omega)) hm531 (by omega) hf24 hg4
        refine X.aload_n 57 (zi277 56) rfl rfl rfl ?_
        refine X.getF 60 (zi277 57) rfl rfl (by decide) rfl rfl ?_
        refine X.sipush 63 (zi277 60) rfl rfl (by decide) ?_
        refine X.lconst (y := 0) 64 (zi277 63) rfl rfl rfl ?_
        refine X.last' 65 (zi277 64) rfl rfl (by decide) rfl (by omega) (fun hrm533 m533 hm533 => ?_)
        have hJ534 := w45_1617 hJ532 hm533 (by omega) hf24 hg4
        refine X.aload_n 66 (zi277 65) rfl rfl rfl ?_
        refine X.bipush 68 (zi277 66) rfl rfl (by decide) ?_
        refine X.lconst (y := 0) 69 (zi277 68) rfl rfl rfl ?_
        refine X.callv 72 [zi 31, zl 0] [] [(0, zr 4 44), (1, zi 31), (2, zl 0)] (zi277 69) rfl (by decide) rfl rfl (by omega) rfl rfl (by decide) rfl t223 (Nat.le_of_ble_eq_true rfl) (Nat.le_of_ble_eq_true rfl) rfl ?_
        refine c223_1 (B := B + 1)  31 0 (by omega) (hJ534.up (by omega)) (by omega) (by omega) hf26 hg4 (fun m535 hFv537 hJ536 => ?_)
        show X (EE s) d 277 72 [(0, zr 4 44), (1, zi a1)] [] m535 _
        refine X.iconst 73 (zi277 72) rfl rfl (by decide) ?_
        refine X.retz (zi277 73) rfl t277 (by omega) ?_
        exact hQ 1 m535 (by first | trivial | omega) (Eq.trans (if_neg h503c) (Eq.trans (zn_eq hFv506.symm) (Eq.trans (if_pos h508c) (Eq.trans (if_pos h510c) (Eq.trans (zs_eq hm529) (Eq.trans (zs_eq hm531) (Eq.trans (zs_eq hm533) (Eq.trans (zs_eq hFv537.symm) rfl)))))))) (hJ536.up (by omega)) 
    · have h508c : ¬ v506 ≤ 0 := by omega
      clear h508 hz507
      refine X.cut [] (zi277 22) rfl ?_
      refine X.iconst 23 (zi277 22) rfl rfl (by decide) ?_
      refine X.retz (zi277 23) rfl t277 (by omega) ?_
      exact hQ 0 m (by first | trivial | omega) (Eq.trans (if_neg h503c) (Eq.trans (zn_eq hFv506.symm) (Eq.trans (if_neg h508c) rfl))) (hJ.up (by omega)) 
-- WorkMeter.season
noncomputable def f122_1 (a1 a2 : Int) (m : zM) : Int × zM :=
  zb (f17_1 0 m) fun v503 m501 =>
  if v503 = 0 then
  (if a1 < 0 then
  ((0, m501))
  else
  (if 4 ≤ a1 then
  ((0, m501))
  else
  (if a2 < (-1) then
  ((0, m501))
  else
  (if a2 < 365 then
  (if a1 = 0 then
  (if a2 = (-1) then
  ((0, m501))
  else
  (zs (z_upd m501 0 15 a1 a2) fun m516 =>
  (1, m516)))
  else
  (zs (z_upd m501 0 15 a1 a2) fun m513 =>
  (1, m513)))
  else
  ((0, m501))))))
  else
  ((0, m501))
-- WorkMeter.season
theorem c122_1 {s : Nat × (Nat → Int32)} {S : zS} {m0 m : zM} {B : Int} {d : Nat} {Q : Option zV → zM → Prop} (a1 a2 : Int) (hd : 14 ≤ d) (hJ : J S m0 B m) (hB : B + 0 ≤ 1000000000) (ha1 : (-2147483648) ≤ a1 ∧ a1 ≤ 2147483647) (ha2 : (-2147483648) ≤ a2 ∧ a2 ≤ 2147483647) (hf1 : ¬ S.1 1) (hf4 : ¬ S.1 4) (hg0 : ¬ S.2.1 0) (hQ : ∀ (v : Int) m', (0 ≤ v ∧ v ≤ 1) → f122_1 a1 a2 m = (v, m') → J S m0 (B) m' → Q (some (zi v)) m') : X (EE s) d 122 0 [(0, zr 4 40), (1, zi a1), (2, zi a2)] [] m Q := by
  refine X.aload_n 1 (zi122 0) rfl rfl rfl ?_
  refine X.getF 4 (zi122 1) rfl rfl (by decide) rfl rfl ?_
  refine X.getR 7 (zi122 4) rfl rfl (by decide) rfl rfl ?_
  refine X.callv 10 [] [] [(0, zr 0 39)] (zi122 7) rfl (by decide) rfl rfl (by omega) rfl rfl (by decide) rfl t17 (Nat.le_of_ble_eq_true rfl) (Nat.le_of_ble_eq_true rfl) rfl ?_
  refine c17_1 (B := B) 0  (by omega) (hJ.up (by omega)) (by omega)  hf4 hg0 (fun v503 m501 hv503 hFv503 hJ502 => ?_)
  show X (EE s) d 122 10 [(0, zr 4 40), (1, zi a1), (2, zi a2)] [zi v503] m501 _
  refine X.ifne 32 13 (zi122 10) rfl rfl rfl (fun h504 => ?_) (fun h504 => ?_)
  · refine X.cut [] (zi122 32) rfl ?_
    refine X.iconst 33 (zi122 32) rfl rfl (by decide) ?_
    refine X.retz (zi122 33) rfl t122 (by omega) ?_
    exact hQ 0 m501 (by first | trivial | omega) (Eq.trans (zb_eq hFv503) (Eq.trans (if_neg h504) rfl)) (hJ502.up (by omega)) 
  · refine X.iload_n 14 (zi122 13) rfl rfl rfl ?_
    refine X.calls 17 [zi a1] [] [(0, zi a1)] (zi122 14) (by decide) rfl rfl (by omega) rfl rfl t123 (Nat.le_of_ble_eq_true rfl) (Nat.le_of_ble_eq_true rfl) rfl ?_
    refine X.iload_n 1 (zi123 0) rfl rfl rfl ?_
    refine X.iflt 13 4 (zi123 1) rfl rfl rfl (fun h505 => ?_) (fun h505 => ?_)
    · refine X.cut [] (zi123 13) rfl ?_
      refine X.iconst 14 (zi123 13) rfl rfl (by decide) ?_
      refine X.retz (zi123 14) rfl t123 (by omega) ?_
      show X (EE s) d 122 17 [(0, zr 4 40), (1, zi a1), (2, zi a2)] [zi 0] m501 _
      refine X.ifeq 32 20 (zi122 17) rfl rfl rfl (fun h506 => ?_) (fun h506 => (by exfalso; omega))
      refine X.cut [] (zi122 32) rfl ?_
      refine X.iconst 33 (zi122 32) rfl rfl (by decide) ?_
      refine X.retz (zi122 33) rfl t122 (by omega) ?_
      exact hQ 0 m501 (by first | trivial | omega) (Eq.trans (zb_eq hFv503) (Eq.trans (if_pos h504) (Eq.trans (if_pos h505) rfl))) (hJ502.up (by omega)) 
    · refine X.iload_n 5 (zi123 4) rfl rfl rfl ?_
      refine X.iconst 6 (zi123 5) rfl rfl (by decide) ?_
      refine X.icmpge 13 9 (zi123 6) rfl rfl rfl (fun h507 => ?_) (fun h507 => ?_)
      · refine X.cut [] (zi123 13) rfl ?_
        refine X.iconst 14 (zi123 13) rfl rfl (by decide) ?_
        refine X.retz (zi123 14) rfl t123 (by omega) ?_
        show X (EE s) d 122 17 [(0, zr 4 40), (1, zi a1), (2, zi a2)] [zi 0] m501 _
        refine X.ifeq 32 20 (zi122 17) rfl rfl rfl (fun h508 => ?_) (fun h508 => (by exfalso; omega))
        refine X.cut [] (zi122 32) rfl ?_
        refine X.iconst 33 (zi122 32) rfl rfl (by decide) ?_
        refine X.retz (zi122 33) rfl t122 (by omega) ?_
        exact hQ 0 m501 (by first | trivial | omega) (Eq.trans (zb_eq hFv503) (Eq.trans (if_pos h504) (Eq.trans (if_neg h505) (Eq.trans (if_pos h507) rfl)))) (hJ502.up (by omega)) 
      · refine X.iconst 10 (zi123 9) rfl rfl (by decide) ?_
        refine X.goto 14 (zi123 10) rfl rfl ?_
        refine X.cut [] (zi123 14) rfl ?_
        refine X.retz (zi123 14) rfl t123 (by omega) ?_
        show X (EE s) d 122 17 [(0, zr 4 40), (1, zi a1), (2, zi a2)] [zi 1] m501 _
        refine X.ifeq 32 20 (zi122 17) rfl rfl rfl (fun h509 => (by exfalso; omega)) (fun h509 => ?_)
        refine X.iload_n 21 (zi122 20) rfl rfl rfl ?_
        refine X.iconst 22 (zi122 21) rfl rfl (by decide) ?_
        refine X.icmplt 32 25 (zi122 22) rfl rfl rfl (fun h510 => ?_) (fun h510 => ?_)
        · refine X.cut [] (zi122 32) rfl ?_
          refine X.iconst 33 (zi122 32) rfl rfl (by decide) ?_
          refine X.retz (zi122 33) rfl t122 (by omega) ?_
          exact hQ 0 m501 (by first | trivial | omega) (Eq.trans (zb_eq hFv503) (Eq.trans (if_pos h504) (Eq.trans (if_neg h505) (Eq.trans (if_neg h507) (Eq.trans (if_pos h510) rfl))))) (hJ502.up (by omega)) 
        · refine X.iload_n 26 (zi122 25) rfl rfl rfl ?_
          refine X.sipush 29 (zi122 26) rfl rfl (by decide) ?_
          refine X.icmplt 34 32 (zi122 29) rfl rfl rfl (fun h511 => ?_) (fun h511 => ?_)
          · refine X.iload_n 35 (zi122 34) rfl rfl rfl ?_
            refine X.ifne 45 38 (zi122 35) rfl rfl rfl (fun h512 => ?_) (fun h512 => ?_)
            · refine X.aload_n 46 (zi122 45) rfl rfl rfl ?_
              refine X.getF 49 (zi122 46) rfl rfl (by decide) rfl rfl ?_
              refine X.getR 52 (zi122 49) rfl rfl (by decide) rfl rfl ?_
              refine X.getR 55 (zi122 52) rfl rfl (by decide) rfl rfl ?_
              refine X.iload_n 56 (zi122 55) rfl rfl rfl ?_
              refine X.iload_n 57 (zi122 56) rfl rfl rfl ?_
              refine X.iast' 58 (zi122 57) rfl rfl (by decide) rfl (by omega) (fun hrm513 m513 hm513 => ?_)
              have hJ514 := w15_0 hJ502 hm513 (by omega) (by omega) hf1 hg0
              refine X.iconst 59 (zi122 58) rfl rfl (by decide) ?_
              refine X.retz (zi122 59) rfl t122 (by omega) ?_
              exact hQ 1 m513 (by first | trivial | omega) (Eq.trans (zb_eq hFv503) (Eq.trans (if_pos h504) (Eq.trans (if_neg h505) (Eq.trans (if_neg h507) (Eq.trans (if_neg h510) (Eq.trans (if_pos h511) (Eq.trans (if_neg h512) (Eq.trans (zs_eq hm513) rfl)))))))) (hJ514.up (by omega)) 
            · refine X.iload_n 39 (zi122 38) rfl rfl rfl ?_
              refine X.iconst 40 (zi122 39) rfl rfl (by decide) ?_
              refine X.icmpne 45 43 (zi122 40) rfl rfl rfl (fun h515 => ?_) (fun h515 => ?_)
              · refine X.aload_n 46 (zi122 45) rfl rfl rfl ?_
                refine X.getF 49 (zi122 46) rfl rfl (by decide) rfl rfl ?_
                refine X.getR 52 (zi122 49) rfl rfl (by decide) rfl rfl ?_
                refine X.getR 55 (zi122 52) rfl rfl (by decide) rfl rfl ?_
                refine X.iload_n 56 (zi122 55) rfl rfl rfl ?_
                refine X.iload_n 57 (zi122 56) rfl rfl rfl ?_
                refine X.iast' 58 (zi122 57) rfl rfl (by decide) rfl (by omega) (fun hrm516 m516 hm516 => ?_)
                have hJ517 := w15_0 hJ502 hm516 (by omega) (by omega) hf1 hg0
                refine X.iconst 59 (zi122 58) rfl rfl (by decide) ?_
                refine X.retz (zi122 59) rfl t122 (by omega) ?_
                exact hQ 1 m516 (by first | trivial | omega) (Eq.trans (zb_eq hFv503) (Eq.trans (if_pos h504) (Eq.trans (if_neg h505) (Eq.trans (if_neg h507) (Eq.trans (if_neg h510) (Eq.trans (if_pos h511) (Eq.trans (if_pos h512) (Eq.trans (if_neg h515) (Eq.trans (zs_eq hm516) rfl))))))))) (hJ517.up (by omega)) 
              · refine X.iconst 44 (zi122 43) rfl rfl (by decide) ?_
                refine X.retz (zi122 44) rfl t122 (by omega) ?_
                exact hQ 0 m501 (by first | trivial | omega) (Eq.trans (zb_eq hFv503) (Eq.trans (if_pos h504) (Eq.trans (if_neg h505) (Eq.trans (if_neg h507) (Eq.trans (if_neg h510) (Eq.trans (if_pos h511) (Eq.trans (if_pos h512) (Eq.trans (if_pos h515) rfl)))))))) (hJ502.up (by omega)) 
          · refine X.cut [] (zi122 32) rfl ?_
            refine X.iconst 33 (zi122 32) rfl rfl (by decide) ?_
            refine X.retz (zi122 33) rfl t122 (by omega) ?_
            exact hQ 0 m501 (by first | trivial | omega) (Eq.trans (zb_eq hFv503) (Eq.trans (if_pos h504) (Eq.trans (if_neg h505) (Eq.trans (if_neg h507) (Eq.trans (if_neg h510) (Eq.trans (if_neg h511) rfl)))))) (hJ502.up (by omega)) 
-- WorkMeterModel.season
noncomputable def f245_1 (a1 a2 : Int) (m : zM) : Int × zM :=
  zb (f203_1 m) fun v503 m501 =>
  if v503 = 0 then
  (if a1 < 0 then
  ((0, m501))
  else
  (if a1 ≤ 3 then
  (zn (if a1 = 0 then
  (0)
  else
  ((-1))) fun v513 =>
  if a2 < v513 then
  ((0, m501))
  else
  (if a2 ≤ 364 then
  (zs (z_upd m501 4 45 (391 + a1) a2) fun m525 =>
  (1, m525))
  else
  ((0, m501))))
  else
  ((0, m501))))
  else
  ((0, m501))
-- WorkMeterModel.season
theorem c245_1 {s : Nat × (Nat → Int32)} {S : zS} {m0 m : zM} {B : Int} {d : Nat} {Q : Option zV → zM → Prop} (a1 a2 : Int) (hd : 14 ≤ d) (hJ : J S m0 B m) (hB : B + 0 ≤ 1000000000) (ha1 : (-2147483648) ≤ a1 ∧ a1 ≤ 2147483647) (ha2 : (-2147483648) ≤ a2 ∧ a2 ≤ 2147483647) (hf21 : ¬ S.1 21) (hf24 : ¬ S.1 24) (hg4 : ¬ S.2.1 4) (hQ : ∀ (v : Int) m', (0 ≤ v ∧ v ≤ 1) → f245_1 a1 a2 m = (v, m') → J S m0 (B) m' → Q (some (zi v)) m') : X (EE s) d 245 0 [(0, zr 4 44), (1, zi a1), (2, zi a2)] [] m Q := by
  refine X.aload_n 1 (zi245 0) rfl rfl rfl ?_
  refine X.callv 4 [] [] [(0, zr 4 44)] (zi245 1) rfl (by decide) rfl rfl (by omega) rfl rfl (by decide) rfl t203 (Nat.le_of_ble_eq_true rfl) (Nat.le_of_ble_eq_true rfl) rfl ?_
  refine c203_1 (B := B)   (by omega) (hJ.up (by omega)) (by omega)  hf24 hg4 (fun v503 m501 hv503 hFv503 hJ502 => ?_)
  show X (EE s) d 245 4 [(0, zr 4 44), (1, zi a1), (2, zi a2)] [zi v503] m501 _
  refine X.ifne 36 7 (zi245 4) rfl rfl rfl (fun h504 => ?_) (fun h504 => ?_)
  · refine X.cut [] (zi245 36) rfl ?_
    refine X.iconst 37 (zi245 36) rfl rfl (by decide) ?_
    refine X.retz (zi245 37) rfl t245 (by omega) ?_
    exact hQ 0 m501 (by first | trivial | omega) (Eq.trans (zb_eq hFv503) (Eq.trans (if_neg h504) rfl)) (hJ502.up (by omega)) 
  · refine X.iload_n 8 (zi245 7) rfl rfl rfl ?_
    refine X.calls 11 [zi a1] [] [(0, zi a1)] (zi245 8) (by decide) rfl rfl (by omega) rfl rfl t246 (Nat.le_of_ble_eq_true rfl) (Nat.le_of_ble_eq_true rfl) rfl ?_
    refine X.iload_n 1 (zi246 0) rfl rfl rfl ?_
    refine X.i2l 2 (zi246 1) rfl rfl ?_
    refine X.lconst (y := 0) 3 (zi246 2) rfl rfl rfl ?_
    refine X.ldc2 6 (zi246 3) rfl rfl (by decide) ?_
    refine X.calls 9 [zl a1, zl 0, zl 3] [] [(0, zl a1), (2, zl 0), (4, zl 3)] (zi246 6) (by decide) rfl rfl (by omega) rfl rfl t204 (Nat.le_of_ble_eq_true rfl) (Nat.le_of_ble_eq_true rfl) rfl ?_
    refine X.lload_n 1 (zi204 0) rfl rfl rfl ?_
    refine X.lload_n 2 (zi204 1) rfl rfl rfl ?_
    refine X.lcmp 3 (zi204 2) rfl rfl (fun z505 hz505 => ?_)
    refine X.iflt 17 6 (zi204 3) rfl rfl rfl (fun h506 => ?_) (fun h506 => ?_)
    · have h506c : a1 < 0 := by omega
      clear h506 hz505
      refine X.cut [] (zi204 17) rfl ?_
      refine X.iconst 18 (zi204 17) rfl rfl (by decide) ?_
      refine X.retz (zi204 18) rfl t204 (by omega) ?_
      show X (EE s) (d - 1) 246 9 [(0, zi a1)] [zi 0] m501 _
      refine X.retz (zi246 9) rfl t246 (by omega) ?_
      show X (EE s) d 245 11 [(0, zr 4 44), (1, zi a1), (2, zi a2)] [zi 0] m501 _
      refine X.ifeq 36 14 (zi245 11) rfl rfl rfl (fun h507 => ?_) (fun h507 => (by exfalso; omega))
      refine X.cut [] (zi245 36) rfl ?_
      refine X.iconst 37 (zi245 36) rfl rfl (by decide) ?_
      refine X.retz (zi245 37) rfl t245 (by omega) ?_
      exact hQ 0 m501 (by first | trivial | omega) (Eq.trans (zb_eq hFv503) (Eq.trans (if_pos h504) (Eq.trans (if_pos h506c) rfl))) (hJ502.up (by omega)) 
    · have h506c : ¬ a1 < 0 := by omega
      clear h506 hz505
      refine X.lload_n 7 (zi204 6) rfl rfl rfl ?_
      refine X.lload 9 (zi204 7) rfl rfl rfl ?_
      refine X.lcmp 10 (zi204 9) rfl rfl (fun z508 hz508 => ?_)
      refine X.ifgt 17 13 (zi204 10) rfl rfl rfl (fun h509 => ?_) (fun h509 => ?_)
      · have h509c : ¬ a1 ≤ 3 := by omega
        clear h509 hz508
        refine X.cut [] (zi204 17) rfl ?_
        refine X.iconst 18 (zi204 17) rfl rfl (by decide) ?_
        refine X.retz (zi204 18) rfl t204 (by omega) ?_
        show X (EE s) (d - 1) 246 9 [(0, zi a1)] [zi 0] m501 _
        refine X.retz (zi246 9) rfl t246 (by omega) ?_
        show X (EE s) d 245 11 [(0, zr 4 44), (1, zi a1), (2, zi a2)] [zi 0] m501 _
        refine X.ifeq 36 14 (zi245 11) rfl rfl rfl (fun h510 => ?_) (fun h510 => (by exfalso; omega))
        refine X.cut [] (zi245 36) rfl ?_
        refine X.iconst 37 (zi245 36) rfl rfl (by decide) ?_
        refine X.retz (zi245 37) rfl t245 (by omega) ?_
        exact hQ 0 m501 (by first | trivial | omega) (Eq.trans (zb_eq hFv503) (Eq.trans (if_pos h504) (Eq.trans (if_neg h506c) (Eq.trans (if_neg h509c) rfl)))) (hJ502.up (by omega)) 
      · have h509c : a1 ≤ 3 := by omega
        clear h509 hz508
        refine X.iconst 14 (zi204 13) rfl rfl (by decide) ?_
        refine X.goto 18 (zi204 14) rfl rfl ?_
        refine X.cut [] (zi204 18) rfl ?_
        refine X.retz (zi204 18) rfl t204 (by omega) ?_
        show X (EE s) (d - 1) 246 9 [(0, zi a1)] [zi 1] m501 _
        refine X.retz (zi246 9) rfl t246 (by omega) ?_
        show X (EE s) d 245 11 [(0, zr 4 44), (1, zi a1), (2, zi a2)] [zi 1] m501 _
        refine X.ifeq 36 14 (zi245 11) rfl rfl rfl (fun h511 => (by exfalso; omega)) (fun h511 => ?_)
        refine X.iload_n 15 (zi245 14) rfl rfl rfl ?_
        refine X.i2l 16 (zi245 15) rfl rfl ?_
        refine X.iload_n 17 (zi245 16) rfl rfl rfl ?_
        have hK516 : ∀ (v : Int) , ((-1) ≤ v ∧ v ≤ 0) → (if a1 = 0 then
            (0)
            else
            ((-1))) = v → X (EE s) d 245 27 [(0, zr 4 44), (1, zi a1), (2, zi a2)] [zl v, zl a2] m501 Q := by
          intro v513 hv513 hT517
          refine X.ldc2 30 (zi245 27) rfl rfl (by decide) ?_
          refine X.calls 33 [zl a2, zl v513, zl 364] [] [(0, zl a2), (2, zl v513), (4, zl 364)] (zi245 30) (by decide) rfl rfl (by omega) rfl rfl t204 (Nat.le_of_ble_eq_true rfl) (Nat.le_of_ble_eq_true rfl) rfl ?_
          refine X.lload_n 1 (zi204 0) rfl rfl rfl ?_
          refine X.lload_n 2 (zi204 1) rfl rfl rfl ?_
          refine X.lcmp 3 (zi204 2) rfl rfl (fun z518 hz518 => ?_)
          refine X.iflt 17 6 (zi204 3) rfl rfl rfl (fun h519 => ?_) (fun h519 => ?_)
          · have h519c : a2 < v513 := by omega
            clear h519 hz518
            refine X.cut [] (zi204 17) rfl ?_
            refine X.iconst 18 (zi204 17) rfl rfl (by decide) ?_
            refine X.retz (zi204 18) rfl t204 (by omega) ?_
            show X (EE s) d 245 33 [(0, zr 4 44), (1, zi a1), (2, zi a2)] [zi 0] m501 _
            refine X.ifne 38 36 (zi245 33) rfl rfl rfl (fun h520 => (by exfalso; omega)) (fun h520 => ?_)
            refine X.cut [] (zi245 36) rfl ?_
            refine X.iconst 37 (zi245 36) rfl rfl (by decide) ?_
            refine X.retz (zi245 37) rfl t245 (by omega) ?_
            exact hQ 0 m501 (by first | trivial | omega) (Eq.trans (zb_eq hFv503) (Eq.trans (if_pos h504) (Eq.trans (if_neg h506c) (Eq.trans (if_pos h509c) (Eq.trans (zn_eq hT517.symm) (Eq.trans (if_pos h519c) rfl)))))) (hJ502.up (by omega)) 
          · have h519c : ¬ a2 < v513 := by omega
            clear h519 hz518
            refine X.lload_n 7 (zi204 6) rfl rfl rfl ?_
            refine X.lload 9 (zi204 7) rfl rfl rfl ?_
            refine X.lcmp 10 (zi204 9) rfl rfl (fun z521 hz521 => ?_)
            refine X.ifgt 17 13 (zi204 10) rfl rfl rfl (fun h522 => ?_) (fun h522 => ?_)
            · have h522c : ¬ a2 ≤ 364 := by omega
              clear h522 hz521
              refine X.cut [] (zi204 17) rfl ?_
              refine X.iconst 18 (zi204 17) rfl rfl (by decide) ?_
              refine X.retz (zi204 18) rfl t204 (by omega) ?_
              show X (EE s) d 245 33 [(0, zr 4 44), (1, zi a1), (2, zi a2)] [zi 0] m501 _
              refine X.ifne 38 36 (zi245 33) rfl rfl rfl (fun h523 => (by exfalso; omega)) (fun h523 => ?_)
              refine X.cut [] (zi245 36) rfl ?_
              refine X.iconst 37 (zi245 36) rfl rfl (by decide) ?_
              refine X.retz (zi245 37) rfl t245 (by omega) ?_
              exact hQ 0 m501 (by first | trivial | omega) (Eq.trans (zb_eq hFv503) (Eq.trans (if_pos h504) (Eq.trans (if_neg h506c) (Eq.trans (if_pos h509c) (Eq.trans (zn_eq hT517.symm) (Eq.trans (if_neg h519c) (Eq.trans (if_neg h522c) rfl))))))) (hJ502.up (by omega)) 
            · have h522c : a2 ≤ 364 := by omega
              clear h522 hz521
              refine X.iconst 14 (zi204 13) rfl rfl (by decide) ?_
              refine X.goto 18 (zi204 14) rfl rfl ?_
              refine X.cut [] (zi204 18) rfl ?_
              refine X.retz (zi204 18) rfl t204 (by omega) ?_
              show X (EE s) d 245 33 [(0, zr 4 44), (1, zi a1), (2, zi a2)] [zi 1] m501 _
              refine X.ifne 38 36 (zi245 33) rfl rfl rfl (fun h524 => ?_) (fun h524 => (by exfalso; omega))
              refine X.aload_n 39 (zi245 38) rfl rfl rfl ?_
              refine X.getF 42 (zi245 39) rfl rfl (by decide) rfl rfl ?_
              refine X.sipush 45 (zi245 42) rfl rfl (by decide) ?_
              refine X.iload_n 46 (zi245 45) rfl rfl rfl ?_
              refine X.iadd 47 (zi245 46) rfl rfl (by omega) ?_
              refine X.iload_n 48 (zi245 47) rfl rfl rfl ?_
              refine X.i2l 49 (zi245 48) rfl rfl ?_
              refine X.last' 50 (zi245 49) rfl rfl (by decide) rfl (by omega) (fun hrm525 m525 hm525 => ?_)
              have hJ526 := w45_391 hJ502 hm525 (by omega) (by omega) hf21 hg4
              refine X.iconst 51 (zi245 50) rfl rfl (by decide) ?_
              refine X.retz (zi245 51) rfl t245 (by omega) ?_
              exact hQ 1 m525 (by first | trivial | omega) (Eq.trans (zb_eq hFv503) (Eq.trans (if_pos h504) (Eq.trans (if_neg h506c) (Eq.trans (if_pos h509c) (Eq.trans (zn_eq hT517.symm) (Eq.trans (if_neg h519c) (Eq.trans (if_pos h522c) (Eq.trans (zs_eq hm525) rfl)))))))) (hJ526.up (by omega)) 
        refine X.ifne 24 20 (zi245 17) rfl rfl rfl (fun h512 => ?_) (fun h512 => ?_)
        · refine X.ldc2 27 (zi245 24) rfl rfl (by decide) ?_
          exact hK516 (-1) (by first | trivial | omega) (Eq.trans (if_neg h512) rfl)
        · refine X.lconst (y := 0) 21 (zi245 20) rfl rfl rfl ?_
          refine X.goto 27 (zi245 21) rfl rfl ?_
          exact hK516 0 (by first | trivial | omega) (Eq.trans (if_pos h512) rfl)
-- WorkMeter.week
noncomputable def f124_1 (a1 a2 a3 : Int) (m : zM) : Int × zM :=
  zb (f17_1 0 m) fun v503 m501 =>
  if v503 = 0 then
  (if a1 < 0 then
  ((0, m501))
  else
  (if 4 ≤ a1 then
  ((0, m501))
  else
  (if a3 < 0 then
  ((0, m501))
  else
  (if 8 ≤ a3 then
  ((0, m501))
  else
  (if a2 < 0 then
  ((0, m501))
  else
  (if a2 < 7 then
  (zs (z_upd m501 0 16 ((a1 * 7) + a2) a3) fun m517 =>
  (1, m517))
  else
  ((0, m501))))))))
  else
  ((0, m501))
-- WorkMeter.week
theorem c124_1 {s : Nat × (Nat → Int32)} {S : zS} {m0 m : zM} {B : Int} {d : Nat} {Q : Option zV → zM → Prop} (a1 a2 a3 : Int) (hd : 14 ≤ d) (hJ : J S m0 B m) (hB : B + 0 ≤ 1000000000) (ha1 : (-2147483648) ≤ a1 ∧ a1 ≤ 2147483647) (ha2 : (-2147483648) ≤ a2 ∧ a2 ≤ 2147483647) (ha3 : (-2147483648) ≤ a3 ∧ a3 ≤ 2147483647) (hf1 : ¬ S.1 1) (hf4 : ¬ S.1 4) (hg0 : ¬ S.2.1 0) (hQ : ∀ (v : Int) m', (0 ≤ v ∧ v ≤ 1) → f124_1 a1 a2 a3 m = (v, m') → J S m0 (B) m' → Q (some (zi v)) m') : X (EE s) d 124 0 [(0, zr 4 40), (1, zi a1), (2, zi a2), (3, zi a3)] [] m Q := by
  refine X.aload_n 1 (zi124 0) rfl rfl rfl ?_
  refine X.getF 4 (zi124 1) rfl rfl (by decide) rfl rfl ?_
  refine X.getR 7 (zi124 4) rfl rfl (by decide) rfl rfl ?_
  refine X.callv 10 [] [] [(0, zr 0 39)] (zi124 7) rfl (by decide) rfl rfl (by omega) rfl rfl (by decide) rfl t17 (Nat.le_of_ble_eq_true rfl) (Nat.le_of_ble_eq_true rfl) rfl ?_
  refine c17_1 (B := B) 0  (by omega) (hJ.up (by omega)) (by omega)  hf4 hg0 (fun v503 m501 hv503 hFv503 hJ502 => ?_)
  show X (EE s) d 124 10 [(0, zr 4 40), (1, zi a1), (2, zi a2), (3, zi a3)] [zi v503] m501 _
  refine X.ifne 27 13 (zi124 10) rfl rfl rfl (fun h504 => ?_) (fun h504 => ?_)
  · refine X.cut [] (zi124 27) rfl ?_
    refine X.iconst 28 (zi124 27) rfl rfl (by decide) ?_
    refine X.retz (zi124 28) rfl t124 (by omega) ?_
    exact hQ 0 m501 (by first | trivial | omega) (Eq.trans (zb_eq hFv503) (Eq.trans (if_neg h504) rfl)) (hJ502.up (by omega)) 
  · refine X.iload_n 14 (zi124 13) rfl rfl rfl ?_
    refine X.calls 17 [zi a1] [] [(0, zi a1)] (zi124 14) (by decide) rfl rfl (by omega) rfl rfl t123 (Nat.le_of_ble_eq_true rfl) (Nat.le_of_ble_eq_true rfl) rfl ?_
    refine X.iload_n 1 (zi123 0) rfl rfl rfl ?_
    refine X.iflt 13 4 (zi123 1) rfl rfl rfl (fun h505 => ?_) (fun h505 => ?_)
    · refine X.cut [] (zi123 13) rfl ?_
      refine X.iconst 14 (zi123 13) rfl rfl (by decide) ?_
      refine X.retz (zi123 14) rfl t123 (by omega) ?_
      show X (EE s) d 124 17 [(0, zr 4 40), (1, zi a1), (2, zi a2), (3, zi a3)] [zi 0] m501 _
      refine X.ifeq 27 20 (zi124 17) rfl rfl rfl (fun h506 => ?_) (fun h506 => (by exfalso; omega))
      refine X.cut [] (zi124 27) rfl ?_
      refine X.iconst 28 (zi124 27) rfl rfl (by decide) ?_
      refine X.retz (zi124 28) rfl t124 (by omega) ?_
      exact hQ 0 m501 (by first | trivial | omega) (Eq.trans (zb_eq hFv503) (Eq.trans (if_pos h504) (Eq.trans (if_pos h505) rfl))) (hJ502.up (by omega)) 
    · refine X.iload_n 5 (zi123 4) rfl rfl rfl ?_
      refine X.iconst 6 (zi123 5) rfl rfl (by decide) ?_
      refine X.icmpge 13 9 (zi123 6) rfl rfl rfl (fun h507 => ?_) (fun h507 => ?_)
      · refine X.cut [] (zi123 13) rfl ?_
        refine X.iconst 14 (zi123 13) rfl rfl (by decide) ?_
        refine X.retz (zi123 14) rfl t123 (by omega) ?_
        show X (EE s) d 124 17 [(0, zr 4 40), (1, zi a1), (2, zi a2), (3, zi a3)] [zi 0] m501 _
        refine X.ifeq 27 20 (zi124 17) rfl rfl rfl (fun h508 => ?_) (fun h508 => (by exfalso; omega))
        refine X.cut [] (zi124 27) rfl ?_
        refine X.iconst 28 (zi124 27) rfl rfl (by decide) ?_
        refine X.retz (zi124 28) rfl t124 (by omega) ?_
        exact hQ 0 m501 (by first | trivial | omega) (Eq.trans (zb_eq hFv503) (Eq.trans (if_pos h504) (Eq.trans (if_neg h505) (Eq.trans (if_pos h507) rfl)))) (hJ502.up (by omega)) 
      · refine X.iconst 10 (zi123 9) rfl rfl (by decide) ?_
        refine X.goto 14 (zi123 10) rfl rfl ?_
        refine X.cut [] (zi123 14) rfl ?_
        refine X.retz (zi123 14) rfl t123 (by omega) ?_
        show X (EE s) d 124 17 [(0, zr 4 40), (1, zi a1), (2, zi a2), (3, zi a3)] [zi 1] m501 _
        refine X.ifeq 27 20 (zi124 17) rfl rfl rfl (fun h509 => (by exfalso; omega)) (fun h509 => ?_)
        refine X.iload_n 21 (zi124 20) rfl rfl rfl ?_
        refine X.calls 24 [zi a3] [] [(0, zi a3)] (zi124 21) (by decide) rfl rfl (by omega) rfl rfl t79 (Nat.le_of_ble_eq_true rfl) (Nat.le_of_ble_eq_true rfl) rfl ?_
        refine X.iload_n 1 (zi79 0) rfl rfl rfl ?_
        refine X.iflt 14 4 (zi79 1) rfl rfl rfl (fun h510 => ?_) (fun h510 => ?_)
        · refine X.cut [] (zi79 14) rfl ?_
          refine X.iconst 15 (zi79 14) rfl rfl (by decide) ?_
          refine X.retz (zi79 15) rfl t79 (by omega) ?_
          show X (EE s) d 124 24 [(0, zr 4 40), (1, zi a1), (2, zi a2), (3, zi a3)] [zi 0] m501 _
          refine X.ifne 29 27 (zi124 24) rfl rfl rfl (fun h511 => (by exfalso; omega)) (fun h511 => ?_)
          refine X.cut [] (zi124 27) rfl ?_
          refine X.iconst 28 (zi124 27) rfl rfl (by decide) ?_
          refine X.retz (zi124 28) rfl t124 (by omega) ?_
          exact hQ 0 m501 (by first | trivial | omega) (Eq.trans (zb_eq hFv503) (Eq.trans (if_pos h504) (Eq.trans (if_neg h505) (Eq.trans (if_neg h507) (Eq.trans (if_pos h510) rfl))))) (hJ502.up (by omega)) 
        · refine X.iload_n 5 (zi79 4) rfl rfl rfl ?_
          refine X.bipush 7 (zi79 5) rfl rfl (by decide) ?_
          refine X.icmpge 14 10 (zi79 7) rfl rfl rfl (fun h512 => ?_) (fun h512 => ?_)
          · refine X.cut [] (zi79 14) rfl ?_
            refine X.iconst 15 (zi79 14) rfl rfl (by decide) ?_
            refine X.retz (zi79 15) rfl t79 (by omega) ?_
            show X (EE s) d 124 24 [(0, zr 4 40), (1, zi a1), (2, zi a2), (3, zi a3)] [zi 0] m501 _
            refine X.ifne 29 27 (zi124 24) rfl rfl rfl (fun h513 => (by exfalso; omega)) (fun h513 => ?_)
            refine X.cut [] (zi124 27) rfl ?_
            refine X.iconst 28 (zi124 27) rfl rfl (by decide) ?_
            refine X.retz (zi124 28) rfl t124 (by omega) ?_
            exact hQ 0 m501 (by first | trivial | omega) (Eq.trans (zb_eq hFv503) (Eq.trans (if_pos h504) (Eq.trans (if_neg h505) (Eq.trans (if_neg h507) (Eq.trans (if_neg h510) (Eq.trans (if_pos h512) rfl)))))) (hJ502.up (by omega)) 
          · refine X.iconst 11 (zi79 10) rfl rfl (by decide) ?_
            refine X.goto 15 (zi79 11) rfl rfl ?_
            refine X.cut [] (zi79 15) rfl ?_
            refine X.retz (zi79 15) rfl t79 (by omega) ?_
            show X (EE s) d 124 24 [(0, zr 4 40), (1, zi a1), (2, zi a2), (3, zi a3)] [zi 1] m501 _
            refine X.ifne 29 27 (zi124 24) rfl rfl rfl (fun h514 => ?_) (fun h514 => (by exfalso; omega))
            refine X.iload_n 30 (zi124 29) rfl rfl rfl ?_
            refine X.iflt 39 33 (zi124 30) rfl rfl rfl (fun h515 => ?_) (fun h515 => ?_)
            · refine X.cut [] (zi124 39) rfl ?_
              refine X.iconst 40 (zi124 39) rfl rfl (by decide) ?_
              refine X.retz (zi124 40) rfl t124 (by omega) ?_
              exact hQ 0 m501 (by first | trivial | omega) (Eq.trans (zb_eq hFv503) (Eq.trans (if_pos h504) (Eq.trans (if_neg h505) (Eq.trans (if_neg h507) (Eq.trans (if_neg h510) (Eq.trans (if_neg h512) (Eq.trans (if_pos h515) rfl))))))) (hJ502.up (by omega)) 
            · refine X.iload_n 34 (zi124 33) rfl rfl rfl ?_
              refine X.bipush 36 (zi124 34) rfl rfl (by decide) ?_
              refine X.icmplt 41 39 (zi124 36) rfl rfl rfl (fun h516 => ?_) (fun h516 => ?_)
              · refine X.aload_n 42 (zi124 41) rfl rfl rfl ?_
                refine X.getF 45 (zi124 42) rfl rfl (by decide) rfl rfl ?_
                refine X.getR 48 (zi124 45) rfl rfl (by decide) rfl rfl ?_
                refine X.getR 51 (zi124 48) rfl rfl (by decide) rfl rfl ?_
                refine X.iload_n 52 (zi124 51) rfl rfl rfl ?_
                refine X.bipush 54 (zi124 52) rfl rfl (by decide) ?_
                refine X.imul 55 (zi124 54) rfl rfl (by omega) ?_
                refine X.iload_n 56 (zi124 55) rfl rfl rfl ?_
                refine X.iadd 57 (zi124 56) rfl rfl (by omega) ?_
                refine X.iload_n 58 (zi124 57) rfl rfl rfl ?_
                refine X.iast' 59 (zi124 58) rfl rfl (by decide) rfl (by omega) (fun hrm517 m517 hm517 => ?_)
                have hJ518 := w16_0 hJ502 hm517 (by omega) (by omega) hf1 hg0
                refine X.iconst 60 (zi124 59) rfl rfl (by decide) ?_
                refine X.retz (zi124 60) rfl t124 (by omega) ?_
                exact hQ 1 m517 (by first | trivial | omega) (Eq.trans (zb_eq hFv503) (Eq.trans (if_pos h504) (Eq.trans (if_neg h505) (Eq.trans (if_neg h507) (Eq.trans (if_neg h510) (Eq.trans (if_neg h512) (Eq.trans (if_neg h515) (Eq.trans (if_pos h516) (Eq.trans (zs_eq hm517) rfl))))))))) (hJ518.up (by omega)) 
              · refine X.cut [] (zi124 39) rfl ?_
                refine X.iconst 40 (zi124 39) rfl rfl (by decide) ?_
                refine X.retz (zi124 40) rfl t124 (by omega) ?_
                exact hQ 0 m501 (by first | trivial | omega) (Eq.trans (zb_eq hFv503) (Eq.trans (if_pos h504) (Eq.trans (if_neg h505) (Eq.trans (if_neg h507) (Eq.trans (if_neg h510) (Eq.trans (if_neg h512) (Eq.trans (if_neg h515) (Eq.trans (if_neg h516) rfl)))))))) (hJ502.up (by omega)) 
-- WorkMeterModel.week
noncomputable def f247_1 (a1 a2 a3 : Int) (m : zM) : Int × zM :=
  zb (f203_1 m) fun v503 m501 =>
  if v503 = 0 then
  (if a1 < 0 then
  ((0, m501))
  else
  (if a1 ≤ 3 then
  (if a2 < 0 then
  ((0, m501))
  else
  (if a2 ≤ 6 then
  (if a3 < 0 then
  ((0, m501))
  else
  (if a3 ≤ 7 then
  (zs (z_upd m501 4 45 ((395 + (7 * a1)) + a2) a3) fun m526 =>
  (1, m526))
  else
  ((0, m501))))
  else
  ((0, m501))))
  else
  ((0, m501))))
  else
  ((0, m501))
-- WorkMeterModel.week
theorem c247_1 {s : Nat × (Nat → Int32)} {S : zS} {m0 m : zM} {B : Int} {d : Nat} {Q : Option zV → zM → Prop} (a1 a2 a3 : Int) (hd : 14 ≤ d) (hJ : J S m0 B m) (hB : B + 0 ≤ 1000000000) (ha1 : (-2147483648) ≤ a1 ∧ a1 ≤ 2147483647) (ha2 : (-2147483648) ≤ a2 ∧ a2 ≤ 2147483647) (ha3 : (-2147483648) ≤ a3 ∧ a3 ≤ 2147483647) (hf21 : ¬ S.1 21) (hf24 : ¬ S.1 24) (hg4 : ¬ S.2.1 4) (hQ : ∀ (v : Int) m', (0 ≤ v ∧ v ≤ 1) → f247_1 a1 a2 a3 m = (v, m') → J S m0 (B) m' → Q (some (zi v)) m') : X (EE s) d 247 0 [(0, zr 4 44), (1, zi a1), (2, zi a2), (3, zi a3)] [] m Q := by
  refine X.aload_n 1 (zi247 0) rfl rfl rfl ?_
  refine X.callv 4 [] [] [(0, zr 4 44)] (zi247 1) rfl (by decide) rfl rfl (by omega) rfl rfl (by decide) rfl t203 (Nat.le_of_ble_eq_true rfl) (Nat.le_of_ble_eq_true rfl) rfl ?_
  refine c203_1 (B := B)   (by omega) (hJ.up (by omega)) (by omega)  hf24 hg4 (fun v503 m501 hv503 hFv503 hJ502 => ?_)
  show X (EE s) d 247 4 [(0, zr 4 44), (1, zi a1), (2, zi a2), (3, zi a3)] [zi v503] m501 _
  refine X.ifne 33 7 (zi247 4) rfl rfl rfl (fun h504 => ?_) (fun h504 => ?_)
  · refine X.cut [] (zi247 33) rfl ?_
    refine X.iconst 34 (zi247 33) rfl rfl (by decide) ?_
    refine X.retz (zi247 34) rfl t247 (by omega) ?_
    exact hQ 0 m501 (by first | trivial | omega) (Eq.trans (zb_eq hFv503) (Eq.trans (if_neg h504) rfl)) (hJ502.up (by omega)) 
  · refine X.iload_n 8 (zi247 7) rfl rfl rfl ?_
    refine X.calls 11 [zi a1] [] [(0, zi a1)] (zi247 8) (by decide) rfl rfl (by omega) rfl rfl t246 (Nat.le_of_ble_eq_true rfl) (Nat.le_of_ble_eq_true rfl) rfl ?_
    refine X.iload_n 1 (zi246 0) rfl rfl rfl ?_
    refine X.i2l 2 (zi246 1) rfl rfl ?_
    refine X.lconst (y := 0) 3 (zi246 2) rfl rfl rfl ?_
    refine X.ldc2 6 (zi246 3) rfl rfl (by decide) ?_
    refine X.calls 9 [zl a1, zl 0, zl 3] [] [(0, zl a1), (2, zl 0), (4, zl 3)] (zi246 6) (by decide) rfl rfl (by omega) rfl rfl t204 (Nat.le_of_ble_eq_true rfl) (Nat.le_of_ble_eq_true rfl) rfl ?_
    refine X.lload_n 1 (zi204 0) rfl rfl rfl ?_
    refine X.lload_n 2 (zi204 1) rfl rfl rfl ?_
    refine X.lcmp 3 (zi204 2) rfl rfl (fun z505 hz505 => ?_)
    refine X.iflt 17 6 (zi204 3) rfl rfl rfl (fun h506 => ?_) (fun h506 => ?_)
    · have h506c : a1 < 0 := by omega
      clear h506 hz505
      refine X.cut [] (zi204 17) rfl ?_
      refine X.iconst 18 (zi204 17) rfl rfl (by decide) ?_
      refine X.retz (zi204 18) rfl t204 (by omega) ?_
      show X (EE s) (d - 1) 246 9 [(0, zi a1)] [zi 0] m501 _
      refine X.retz (zi246 9) rfl t246 (by omega) ?_
      show X (EE s) d 247 11 [(0, zr 4 44), (1, zi a1), (2, zi a2), (3, zi a3)] [zi 0] m501 _
      refine X.ifeq 33 14 (zi247 11) rfl rfl rfl (fun h507 => ?_) (fun h507 => (by exfalso; omega))
      refine X.cut [] (zi247 33) rfl ?_
      refine X.iconst 34 (zi247 33) rfl rfl (by decide) ?_
      refine X.retz (zi247 34) rfl t247 (by omega) ?_
      exact hQ 0 m501 (by first | trivial | omega) (Eq.trans (zb_eq hFv503) (Eq.trans (if_pos h504) (Eq.trans (if_pos h506c) rfl))) (hJ502.up (by omega)) 
    · have h506c : ¬ a1 < 0 := by omega
      clear h506 hz505
      refine X.lload_n 7 (zi204 6) rfl rfl rfl ?_
      refine X.lload 9 (zi204 7) rfl rfl rfl ?_
      refine X.lcmp 10 (zi204 9) rfl rfl (fun z508 hz508 => ?_)
      refine X.ifgt 17 13 (zi204 10) rfl rfl rfl (fun h509 => ?_) (fun h509 => ?_)
      · have h509c : ¬ a1 ≤ 3 := by omega
        clear h509 hz508
        refine X.cut [] (zi204 17) rfl ?_
        refine X.iconst 18 (zi204 17) rfl rfl (by decide) ?_
        refine X.retz (zi204 18) rfl t204 (by omega) ?_
        show X (EE s) (d - 1) 246 9 [(0, zi a1)] [zi 0] m501 _
        refine X.retz (zi246 9) rfl t246 (by omega) ?_
        show X (EE s) d 247 11 [(0, zr 4 44), (1, zi a1), (2, zi a2), (3, zi a3)] [zi 0] m501 _
        refine X.ifeq 33 14 (zi247 11) rfl rfl rfl (fun h510 => ?_) (fun h510 => (by exfalso; omega))
        refine X.cut [] (zi247 33) rfl ?_
        refine X.iconst 34 (zi247 33) rfl rfl (by decide) ?_
        refine X.retz (zi247 34) rfl t247 (by omega) ?_
        exact hQ 0 m501 (by first | trivial | omega) (Eq.trans (zb_eq hFv503) (Eq.trans (if_pos h504) (Eq.trans (if_neg h506c) (Eq.trans (if_neg h509c) rfl)))) (hJ502.up (by omega)) 
      · have h509c : a1 ≤ 3 := by omega
        clear h509 hz508
        refine X.iconst 14 (zi204 13) rfl rfl (by decide) ?_
        refine X.goto 18 (zi204 14) rfl rfl ?_
        refine X.cut [] (zi204 18) rfl ?_
        refine X.retz (zi204 18) rfl t204 (by omega) ?_
        show X (EE s) (d - 1) 246 9 [(0, zi a1)] [zi 1] m501 _
        refine X.retz (zi246 9) rfl t246 (by omega) ?_
        show X (EE s) d 247 11 [(0, zr 4 44), (1, zi a1), (2, zi a2), (3, zi a3)] [zi 1] m501 _
        refine X.ifeq 33 14 (zi247 11) rfl rfl rfl (fun h511 => (by exfalso; omega)) (fun h511 => ?_)
        refine X.iload_n 15 (zi247 14) rfl rfl rfl ?_
        refine X.i2l 16 (zi247 15) rfl rfl ?_
        refine X.lconst (y := 0) 17 (zi247 16) rfl rfl rfl ?_
        refine X.ldc2 20 (zi247 17) rfl rfl (by decide) ?_
        refine X.calls 23 [zl a2, zl 0, zl 6] [] [(0, zl a2), (2, zl 0), (4, zl 6)] (zi247 20) (by decide) rfl rfl (by omega) rfl rfl t204 (Nat.le_of_ble_eq_true rfl) (Nat.le_of_ble_eq_true rfl) rfl ?_
        refine X.lload_n 1 (zi204 0) rfl rfl rfl ?_
        refine X.lload_n 2 (zi204 1) rfl rfl rfl ?_
        refine X.lcmp 3 (zi204 2) rfl rfl (fun z512 hz512 => ?_)
        refine X.iflt 17 6 (zi204 3) rfl rfl rfl (fun h513 => ?_) (fun h513 => ?_)
        · have h513c : a2 < 0 := by omega
          clear h513 hz512
          refine X.cut [] (zi204 17) rfl ?_
          refine X.iconst 18 (zi204 17) rfl rfl (by decide) ?_
          refine X.retz (zi204 18) rfl t204 (by omega) ?_
          show X (EE s) d 247 23 [(0, zr 4 44), (1, zi a1), (2, zi a2), (3, zi a3)] [zi 0] m501 _
          refine X.ifeq 33 26 (zi247 23) rfl rfl rfl (fun h514 => ?_) (fun h514 => (by exfalso; omega))
          refine X.cut [] (zi247 33) rfl ?_
          refine X.iconst 34 (zi247 33) rfl rfl (by decide) ?_
          refine X.retz (zi247 34) rfl t247 (by omega) ?_
          exact hQ 0 m501 (by first | trivial | omega) (Eq.trans (zb_eq hFv503) (Eq.trans (if_pos h504) (Eq.trans (if_neg h506c) (Eq.trans (if_pos h509c) (Eq.trans (if_pos h513c) rfl))))) (hJ502.up (by omega)) 
        · have h513c : ¬ a2 < 0 := by omega
          clear h513 hz512
          refine X.lload_n 7 (zi204 6) rfl rfl rfl ?_
          refine X.lload 9 (zi204 7) rfl rfl rfl ?_
          refine X.lcmp 10 (zi204 9) rfl rfl (fun z515 hz515 => ?_)
          refine X.ifgt 17 13 (zi204 10) rfl rfl rfl (fun h516 => ?_) (fun h516 => ?_)
          · have h516c : ¬ a2 ≤ 6 := by omega
            clear h516 hz515
            refine X.cut [] (zi204 17) rfl ?_
            refine X.iconst 18 (zi204 17) rfl rfl (by decide) ?_
            refine X.retz (zi204 18) rfl t204 (by omega) ?_
            show X (EE s) d 247 23 [(0, zr 4 44), (1, zi a1), (2, zi a2), (3, zi a3)] [zi 0] m501 _
            refine X.ifeq 33 26 (zi247 23) rfl rfl rfl (fun h517 => ?_) (fun h517 => (by exfalso; omega))
            refine X.cut [] (zi247 33) rfl ?_
            refine X.iconst 34 (zi247 33) rfl rfl (by decide) ?_
            refine X.retz (zi247 34) rfl t247 (by omega) ?_
            exact hQ 0 m501 (by first | trivial | omega) (Eq.trans (zb_eq hFv503) (Eq.trans (if_pos h504) (Eq.trans (if_neg h506c) (Eq.trans (if_pos h509c) (Eq.trans (if_neg h513c) (Eq.trans (if_neg h516c) rfl)))))) (hJ502.up (by omega)) 
          · have h516c : a2 ≤ 6 := by omega
            clear h516 hz515
            refine X.iconst 14 (zi204 13) rfl rfl (by decide) ?_
            refine X.goto 18 (zi204 14) rfl rfl ?_
            refine X.cut [] (zi204 18) rfl ?_
            refine X.retz (zi204 18) rfl t204 (by omega) ?_
            show X (EE s) d 247 23 [(0, zr 4 44), (1, zi a1), (2, zi a2), (3, zi a3)] [zi 1] m501 _
            refine X.ifeq 33 26 (zi247 23) rfl rfl rfl (fun h518 => (by exfalso; omega)) (fun h518 => ?_)
            refine X.iload_n 27 (zi247 26) rfl rfl rfl ?_
            refine X.calls 30 [zi a3] [] [(0, zi a3)] (zi247 27) (by decide) rfl rfl (by omega) rfl rfl t241 (Nat.le_of_ble_eq_true rfl) (Nat.le_of_ble_eq_true rfl) rfl ?_
            refine X.iload_n 1 (zi241 0) rfl rfl rfl ?_
            refine X.i2l 2 (zi241 1) rfl rfl ?_
            refine X.lconst (y := 0) 3 (zi241 2) rfl rfl rfl ?_
            refine X.ldc2 6 (zi241 3) rfl rfl (by decide) ?_
            refine X.calls 9 [zl a3, zl 0, zl 7] [] [(0, zl a3), (2, zl 0), (4, zl 7)] (zi241 6) (by decide) rfl rfl (by omega) rfl rfl t204 (Nat.le_of_ble_eq_true rfl) (Nat.le_of_ble_eq_true rfl) rfl ?_
            refine X.lload_n 1 (zi204 0) rfl rfl rfl ?_
            refine X.lload_n 2 (zi204 1) rfl rfl rfl ?_
            refine X.lcmp 3 (zi204 2) rfl rfl (fun z519 hz519 => ?_)
            refine X.iflt 17 6 (zi204 3) rfl rfl rfl (fun h520 => ?_) (fun h520 => ?_)
            · have h520c : a3 < 0 := by omega
              clear h520 hz519
              refine X.cut [] (zi204 17) rfl ?_
              refine X.iconst 18 (zi204 17) rfl rfl (by decide) ?_
              refine X.retz (zi204 18) rfl t204 (by omega) ?_
              show X (EE s) (d - 1) 241 9 [(0, zi a3)] [zi 0] m501 _
              refine X.retz (zi241 9) rfl t241 (by omega) ?_
              show X (EE s) d 247 30 [(0, zr 4 44), (1, zi a1), (2, zi a2), (3, zi a3)] [zi 0] m501 _
              refine X.ifne 35 33 (zi247 30) rfl rfl rfl (fun h521 => (by exfalso; omega)) (fun h521 => ?_)
              refine X.cut [] (zi247 33) rfl ?_
              refine X.iconst 34 (zi247 33) rfl rfl (by decide) ?_
              refine X.retz (zi247 34) rfl t247 (by omega) ?_
              exact hQ 0 m501 (by first | trivial | omega) (Eq.trans (zb_eq hFv503) (Eq.trans (if_pos h504) (Eq.trans (if_neg h506c) (Eq.trans (if_pos h509c) (Eq.trans (if_neg h513c) (Eq.trans (if_pos h516c) (Eq.trans (if_pos h520c) rfl))))))) (hJ502.up (by omega)) 
            · have h520c : ¬ a3 < 0 := by omega
              clear h520 hz519
              refine X.lload_n 7 (zi204 6) rfl rfl rfl ?_
              refine X.lload 9 (zi204 7) rfl rfl rfl ?_
              refine X.lcmp 10 (zi204 9) rfl rfl (fun z522 hz522 => ?_)
              refine X.ifgt 17 13 (zi204 10) rfl rfl rfl (fun h523 => ?_) (fun h523 => ?_)
              · have h523c : ¬ a3 ≤ 7 := by omega
                clear h523 hz522
                refine X.cut [] (zi204 17) rfl ?_
                refine X.iconst 18 (zi204 17) rfl rfl (by decide) ?_
                refine X.retz (zi204 18) rfl t204 (by omega) ?_
                show X (EE s) (d - 1) 241 9 [(0, zi a3)] [zi 0] m501 _
                refine X.retz (zi241 9) rfl t241 (by omega) ?_
                show X (EE s) d 247 30 [(0, zr 4 44), (1, zi a1), (2, zi a2), (3, zi a3)] [zi 0] m501 _
                refine X.ifne 35 33 (zi247 30) rfl rfl rfl (fun h524 => (by exfalso; omega)) (fun h524 => ?_)
                refine X.cut [] (zi247 33) rfl ?_
                refine X.iconst 34 (zi247 33) rfl rfl (by decide) ?_
                refine X.retz (zi247 34) rfl t247 (by omega) ?_
                exact hQ 0 m501 (by first | trivial | omega) (Eq.trans (zb_eq hFv503) (Eq.trans (if_pos h504) (Eq.trans (if_neg h506c) (Eq.trans (if_pos h509c) (Eq.trans (if_neg h513c) (Eq.trans (if_pos h516c) (Eq.trans (if_neg h520c) (Eq.trans (if_neg h523c) rfl)))))))) (hJ502.up (by omega)) 
              · have h523c : a3 ≤ 7 := by omega
                clear h523 hz522
                refine X.iconst 14 (zi204 13) rfl rfl (by decide) ?_
                refine X.goto 18 (zi204 14) rfl rfl ?_
                refine X.cut [] (zi204 18) rfl ?_
                refine X.retz (zi204 18) rfl t204 (by omega) ?_
                show X (EE s) (d - 1) 241 9 [(0, zi a3)] [zi 1] m501 _
                refine X.retz (zi241 9) rfl t241 (by omega) ?_
                show X (EE s) d 247 30 [(0, zr 4 44), (1, zi a1), (2, zi a2), (3, zi a3)] [zi 1] m501 _
                refine X.ifne 35 33 (zi247 30) rfl rfl rfl (fun h525 => ?_) (fun h525 => (by exfalso; omega))
                refine X.aload_n 36 (zi247 35) rfl rfl rfl ?_
                refine X.getF 39 (zi247 36) rfl rfl (by decide) rfl rfl ?_
                refine X.sipush 42 (zi247 39) rfl rfl (by decide) ?_
                refine X.bipush 44 (zi247 42) rfl rfl (by decide) ?_
                refine X.iload_n 45 (zi247 44) rfl rfl rfl ?_
                refine X.imul 46 (zi247 45) rfl rfl (by omega) ?_
                refine X.iadd 47 (zi247 46) rfl rfl (by omega) ?_
                refine X.iload_n 48 (zi247 47) rfl rfl rfl ?_
                refine X.iadd 49 (zi247 48) rfl rfl (by omega) ?_
                refine X.iload_n 50 (zi247 49) rfl rfl rfl ?_
                refine X.i2l 51 (zi247 50) rfl rfl ?_
                refine X.last' 52 (zi247 51) rfl rfl (by decide) rfl (by omega) (fun hrm526 m526 hm526 => ?_)
                have hJ527 := w45_395 hJ502 hm526 (by omega) (by omega) hf21 hg4
                refine X.iconst 53 (zi247 52) rfl rfl (by decide) ?_
                refine X.retz (zi247 53) rfl t247 (by omega) ?_
                exact hQ 1 m526 (by first | trivial | omega) (Eq.trans (zb_eq hFv503) (Eq.trans (if_pos h504) (Eq.trans (if_neg h506c) (Eq.trans (if_pos h509c) (Eq.trans (if_neg h513c) (Eq.trans (if_pos h516c) (Eq.trans (if_neg h520c) (Eq.trans (if_pos h523c) (Eq.trans (zs_eq hm526) rfl))))))))) (hJ527.up (by omega)) 
-- WorkMeter$Calendar.dropSpecial
noncomputable def f126_1 (g0 : Nat) (a1 : Int) (m : zM) : Int × zM :=
  zn (f29_1 g0 a1 m) fun v503 =>
  if v503 = (-1) then
  ((0, m))
  else
  (zs (z_upd m g0 11 7 ((m g0 11 7) - 1)) fun m506 =>
  zs (z_upd m506 g0 17 v503 (m506 g0 17 (m506 g0 11 7))) fun m509 =>
  zs (z_upd m509 g0 18 v503 (m509 g0 18 (m509 g0 11 7))) fun m513 =>
  (1, m513))
-- WorkMeter$Calendar.dropSpecial
theorem c126_1 {s : Nat × (Nat → Int32)} {S : zS} {m0 m : zM} {B : Int} {d : Nat} {Q : Option zV → zM → Prop} (g0 : Nat) (a1 : Int) (hd : 14 ≤ d) (hJ : J S m0 B m) (hB : B + 0 ≤ 1000000000) (ha1 : 0 ≤ a1 ∧ a1 ≤ 364) (hf1 : ¬ S.1 1) (hgg0 : ¬ S.2.1 g0) (hQ : ∀ (v : Int) m', (0 ≤ v ∧ v ≤ 1) → f126_1 g0 a1 m = (v, m') → J S m0 (B) m' → Q (some (zi v)) m') : X (EE s) d 126 0 [(0, zr g0 11), (1, zi a1)] [] m Q := by
  refine X.aload_n 1 (zi126 0) rfl rfl rfl ?_
  refine X.iload_n 2 (zi126 1) rfl rfl rfl ?_
  refine X.callv 5 [zi a1] [] [(0, zr g0 11), (1, zi a1)] (zi126 2) rfl (by decide) rfl rfl (by omega) rfl rfl (by decide) rfl t29 (Nat.le_of_ble_eq_true rfl) (Nat.le_of_ble_eq_true rfl) rfl ?_
  refine c29_1 (B := B) g0 a1 (by omega) (hJ.up (by omega)) (by omega) (by omega) (fun v503 hv503 hFv503 hqv503_0 => ?_)
  show X (EE s) d 126 5 [(0, zr g0 11), (1, zi a1)] [zi v503] m _
  refine X.istore_n 6 [(0, zr g0 11), (1, zi a1), (2, zi v503)] (zi126 5) rfl rfl rfl ?_
  refine X.iload_n 7 (zi126 6) rfl rfl rfl ?_
  refine X.iconst 8 (zi126 7) rfl rfl (by decide) ?_
  refine X.icmpne 13 11 (zi126 8) rfl rfl rfl (fun h504 => ?_) (fun h504 => ?_)
  · refine X.cut [(0, zr g0 11), (2, zi v503)] (zi126 13) rfl ?_
    refine X.aload_n 14 (zi126 13) rfl rfl rfl ?_
    refine X.dup 15 (zi126 14) rfl rfl rfl ?_
    refine X.getI 18 7 (zi126 15) rfl rfl (by decide) rfl rfl rfl ?_
    have h505 := r11_7 hJ g0
    refine X.iconst 19 (zi126 18) rfl rfl (by decide) ?_
    refine X.isub 20 (zi126 19) rfl rfl (by omega) ?_
    refine X.putI' 23 7 (zi126 20) rfl rfl (by decide) rfl rfl rfl (fun hrm506 m506 hm506 => ?_)
    have hJ507 := w11_7 hJ hm506 (by omega) hf1 hgg0
    have em506 : m506 g0 11 7 = ((m g0 11 7) - 1) := by rw [hm506]; exact z_upd_same _ _ _ _ _
    refine X.aload_n 24 (zi126 23) rfl rfl rfl ?_
    refine X.getR 27 (zi126 24) rfl rfl (by decide) rfl rfl ?_
    refine X.iload_n 28 (zi126 27) rfl rfl rfl ?_
    refine X.aload_n 29 (zi126 28) rfl rfl rfl ?_
    refine X.getR 32 (zi126 29) rfl rfl (by decide) rfl rfl ?_
    refine X.aload_n 33 (zi126 32) rfl rfl rfl ?_
    refine X.getI 36 7 (zi126 33) rfl rfl (by decide) rfl rfl rfl ?_
    refine X.iald 37 (zi126 36) rfl rfl (by decide) rfl (by omega) ?_
    have h508 := r17_0 hJ507 g0 (i := (m506 g0 11 7)) (by omega)
    refine X.iast' 38 (zi126 37) rfl rfl (by decide) rfl (by omega) (fun hrm509 m509 hm509 => ?_)
    have hJ510 := w17_0 hJ507 hm509 (by omega) (by omega) hf1 hgg0
    have wtm509_0 : m509 g0 11 7 = m506 g0 11 7 := by rw [hm509]; exact z_upd_o _ _ rfl
    refine X.aload_n 39 (zi126 38) rfl rfl rfl ?_
    refine X.getR 42 (zi126 39) rfl rfl (by decide) rfl rfl ?_
    refine X.iload_n 43 (zi126 42) rfl rfl rfl ?_
    refine X.aload_n 44 (zi126 43) rfl rfl rfl ?_
    refine X.getR 47 (zi126 44) rfl rfl (by decide) rfl rfl ?_
    refine X.aload_n 48 (zi126 47) rfl rfl rfl ?_
    refine X.getI 51 7 (zi126 48) rfl rfl (by decide) rfl rfl rfl ?_
    have h511 := r11_7 hJ510 g0
    refine X.iald 52 (zi126 51) rfl rfl (by decide) rfl (by omega) ?_
    have h512 := r18_0 hJ510 g0 (i := (m509 g0 11 7)) (by omega)
    refine X.iast' 53 (zi126 52) rfl rfl (by decide) rfl (by omega) (fun hrm513 m513 hm513 => ?_)
    have hJ514 := w18_0 hJ510 hm513 (by omega) (by omega) hf1 hgg0
    have wtm513_0 : m513 g0 11 7 = m509 g0 11 7 := by rw [hm513]; exact z_upd_o _ _ rfl
    refine X.iconst 54 (zi126 53) rfl rfl (by decide) ?_
    refine X.retz (zi126 54) rfl t126 (by omega) ?_
    exact hQ 1 m513 (by first | trivial | omega) (Eq.trans (zn_eq hFv503.symm) (Eq.trans (if_neg h504) (Eq.trans (zs_eq hm506) (Eq.trans (zs_eq hm509) (Eq.trans (zs_eq hm513) rfl))))) (hJ514.up (by omega)) 
  · refine X.iconst 12 (zi126 11) rfl rfl (by decide) ?_
    refine X.retz (zi126 12) rfl t126 (by omega) ?_
    exact hQ 0 m (by first | trivial | omega) (Eq.trans (zn_eq hFv503.symm) (Eq.trans (if_pos h504) rfl)) (hJ.up (by omega)) 
-- WorkMeter.special
noncomputable def f125_1 (a1 a2 : Int) (m : zM) : Int × zM :=
  zb (f17_1 0 m) fun v503 m501 =>
  if v503 = 0 then
  (if a1 < 0 then
  ((0, m501))
  else
  (if a1 < 365 then
  (if a2 = (-1) then
  (zb (f126_1 0 a1 m501) fun v524 m522 =>
  (v524, m522))
  else
  (if a2 < 0 then
  ((0, m501))
  else
  (if 8 ≤ a2 then
  ((0, m501))
  else
  (zb (f109_1 0 a1 a2 m501) fun v515 m513 =>
  zn (if v515 = 0 then
  (0)
  else
  (1)) fun v517 =>
  (v517, m513)))))
  else
  ((0, m501))))
  else
  ((0, m501))
-- WorkMeter.special
theorem c125_1 {s : Nat × (Nat → Int32)} {S : zS} {m0 m : zM} {B : Int} {d : Nat} {Q : Option zV → zM → Prop} (a1 a2 : Int) (hd : 15 ≤ d) (hJ : J S m0 B m) (hB : B + 0 ≤ 1000000000) (ha1 : (-2147483648) ≤ a1 ∧ a1 ≤ 2147483647) (ha2 : (-2147483648) ≤ a2 ∧ a2 ≤ 2147483647) (hf1 : ¬ S.1 1) (hf4 : ¬ S.1 4) (hg0 : ¬ S.2.1 0) (hQ : ∀ (v : Int) m', (0 ≤ v ∧ v ≤ 1) → f125_1 a1 a2 m = (v, m') → J S m0 (B) m' → Q (some (zi v)) m') : X (EE s) d 125 0 [(0, zr 4 40), (1, zi a1), (2, zi a2)] [] m Q := by
  refine X.aload_n 1 (zi125 0) rfl rfl rfl ?_
  refine X.getF 4 (zi125 1) rfl rfl (by decide) rfl rfl ?_
  refine X.getR 7 (zi125 4) rfl rfl (by decide) rfl rfl ?_
  refine X.callv 10 [] [] [(0, zr 0 39)] (zi125 7) rfl (by decide) rfl rfl (by omega) rfl rfl (by decide) rfl t17 (Nat.le_of_ble_eq_true rfl) (Nat.le_of_ble_eq_true rfl) rfl ?_
  refine c17_1 (B := B) 0  (by omega) (hJ.up (by omega)) (by omega)  hf4 hg0 (fun v503 m501 hv503 hFv503 hJ502 => ?_)
  show X (EE s) d 125 10 [(0, zr 4 40), (1, zi a1), (2, zi a2)] [zi v503] m501 _
  refine X.ifne 24 13 (zi125 10) rfl rfl rfl (fun h504 => ?_) (fun h504 => ?_)
  · refine X.cut [] (zi125 24) rfl ?_
    refine X.iconst 25 (zi125 24) rfl rfl (by decide) ?_
    refine X.retz (zi125 25) rfl t125 (by omega) ?_
    exact hQ 0 m501 (by first | trivial | omega) (Eq.trans (zb_eq hFv503) (Eq.trans (if_neg h504) rfl)) (hJ502.up (by omega)) 
  · refine X.iload_n 14 (zi125 13) rfl rfl rfl ?_
    refine X.iflt 24 17 (zi125 14) rfl rfl rfl (fun h505 => ?_) (fun h505 => ?_)
    · refine X.cut [] (zi125 24) rfl ?_
      refine X.iconst 25 (zi125 24) rfl rfl (by decide) ?_
      refine X.retz (zi125 25) rfl t125 (by omega) ?_
      exact hQ 0 m501 (by first | trivial | omega) (Eq.trans (zb_eq hFv503) (Eq.trans (if_pos h504) (Eq.trans (if_pos h505) rfl))) (hJ502.up (by omega)) 
    · refine X.iload_n 18 (zi125 17) rfl rfl rfl ?_
      refine X.sipush 21 (zi125 18) rfl rfl (by decide) ?_
      refine X.icmplt 26 24 (zi125 21) rfl rfl rfl (fun h506 => ?_) (fun h506 => ?_)
      · refine X.iload_n 27 (zi125 26) rfl rfl rfl ?_
        refine X.iconst 28 (zi125 27) rfl rfl (by decide) ?_
        refine X.icmpne 43 31 (zi125 28) rfl rfl rfl (fun h507 => ?_) (fun h507 => ?_)
        · refine X.iload_n 44 (zi125 43) rfl rfl rfl ?_
          refine X.calls 47 [zi a2] [] [(0, zi a2)] (zi125 44) (by decide) rfl rfl (by omega) rfl rfl t79 (Nat.le_of_ble_eq_true rfl) (Nat.le_of_ble_eq_true rfl) rfl ?_
          refine X.iload_n 1 (zi79 0) rfl rfl rfl ?_
          refine X.iflt 14 4 (zi79 1) rfl rfl rfl (fun h508 => ?_) (fun h508 => ?_)
          · refine X.cut [] (zi79 14) rfl ?_
            refine X.iconst 15 (zi79 14) rfl rfl (by decide) ?_
            refine X.retz (zi79 15) rfl t79 (by omega) ?_
            show X (EE s) d 125 47 [(0, zr 4 40), (1, zi a1), (2, zi a2)] [zi 0] m501 _
            refine X.ifeq 69 50 (zi125 47) rfl rfl rfl (fun h509 => ?_) (fun h509 => (by exfalso; omega))
            refine X.cut [] (zi125 69) rfl ?_
            refine X.iconst 70 (zi125 69) rfl rfl (by decide) ?_
            refine X.retz (zi125 70) rfl t125 (by omega) ?_
            exact hQ 0 m501 (by first | trivial | omega) (Eq.trans (zb_eq hFv503) (Eq.trans (if_pos h504) (Eq.trans (if_neg h505) (Eq.trans (if_pos h506) (Eq.trans (if_neg h507) (Eq.trans (if_pos h508) rfl)))))) (hJ502.up (by omega)) 
          · refine X.iload_n 5 (zi79 4) rfl rfl rfl ?_
            refine X.bipush 7 (zi79 5) rfl rfl (by decide) ?_
            refine X.icmpge 14 10 (zi79 7) rfl rfl rfl (fun h510 => ?_) (fun h510 => ?_)
            · refine X.cut [] (zi79 14) rfl ?_
              refine X.iconst 15 (zi79 14) rfl rfl (by decide) ?_
              refine X.retz (zi79 15) rfl t79 (by omega) ?_
              show X (EE s) d 125 47 [(0, zr 4 40), (1, zi a1), (2, zi a2)] [zi 0] m501 _
              refine X.ifeq 69 50 (zi125 47) rfl rfl rfl (fun h511 => ?_) (fun h511 => (by exfalso; omega))
              refine X.cut [] (zi125 69) rfl ?_
              refine X.iconst 70 (zi125 69) rfl rfl (by decide) ?_
              refine X.retz (zi125 70) rfl t125 (by omega) ?_
              exact hQ 0 m501 (by first | trivial | omega) (Eq.trans (zb_eq hFv503) (Eq.trans (if_pos h504) (Eq.trans (if_neg h505) (Eq.trans (if_pos h506) (Eq.trans (if_neg h507) (Eq.trans (if_neg h508) (Eq.trans (if_pos h510) rfl))))))) (hJ502.up (by omega)) 
            · refine X.iconst 11 (zi79 10) rfl rfl (by decide) ?_
              refine X.goto 15 (zi79 11) rfl rfl ?_
              refine X.cut [] (zi79 15) rfl ?_
              refine X.retz (zi79 15) rfl t79 (by omega) ?_
              show X (EE s) d 125 47 [(0, zr 4 40), (1, zi a1), (2, zi a2)] [zi 1] m501 _
              refine X.ifeq 69 50 (zi125 47) rfl rfl rfl (fun h512 => (by exfalso; omega)) (fun h512 => ?_)
              refine X.aload_n 51 (zi125 50) rfl rfl rfl ?_
              refine X.getF 54 (zi125 51) rfl rfl (by decide) rfl rfl ?_
              refine X.getR 57 (zi125 54) rfl rfl (by decide) rfl rfl ?_
              refine X.iload_n 58 (zi125 57) rfl rfl rfl ?_
              refine X.iload_n 59 (zi125 58) rfl rfl rfl ?_
              refine X.callv 62 [zi a1, zi a2] [] [(0, zr 0 11), (1, zi a1), (2, zi a2)] (zi125 59) rfl (by decide) rfl rfl (by omega) rfl rfl (by decide) rfl t109 (Nat.le_of_ble_eq_true rfl) (Nat.le_of_ble_eq_true rfl) rfl ?_
              refine c109_1 (B := B) 0 a1 a2 (by omega) (hJ502.up (by omega)) (by omega) (by omega) (by omega) hf1 hg0 (fun v515 m513 hv515 hFv515 hJ514 => ?_)
              show X (EE s) d 125 62 [(0, zr 4 40), (1, zi a1), (2, zi a2)] [zi v515] m513 _
              have hK520 : ∀ (v : Int) , (0 ≤ v ∧ v ≤ 1) → (if v515 = 0 then
                  (0)
                  else
                  (1)) = v → X (EE s) d 125 70 [] [zi v] m513 Q := by
                intro v517 hv517 hT521
                refine X.retz (zi125 70) rfl t125 (by omega) ?_
                exact hQ v517 m513 (by first | trivial | omega) (Eq.trans (zb_eq hFv503) (Eq.trans (if_pos h504) (Eq.trans (if_neg h505) (Eq.trans (if_pos h506) (Eq.trans (if_neg h507) (Eq.trans (if_neg h508) (Eq.trans (if_neg h510) (Eq.trans (zb_eq hFv515) (Eq.trans (zn_eq hT521.symm) rfl))))))))) (hJ514.up (by omega)) 
              refine X.ifeq 69 65 (zi125 62) rfl rfl rfl (fun h516 => ?_) (fun h516 => ?_)
              · refine X.cut [] (zi125 69) rfl ?_
                refine X.iconst 70 (zi125 69) rfl rfl (by decide) ?_
                exact hK520 0 (by first | trivial | omega) (Eq.trans (if_pos h516) rfl)
              · refine X.iconst 66 (zi125 65) rfl rfl (by decide) ?_
                refine X.goto 70 (zi125 66) rfl rfl ?_
                refine X.cut [] (zi125 70) rfl ?_
                exact hK520 1 (by first | trivial | omega) (Eq.trans (if_neg h516) rfl)
        · refine X.aload_n 32 (zi125 31) rfl rfl rfl ?_
          refine X.getF 35 (zi125 32) rfl rfl (by decide) rfl rfl ?_
          refine X.getR 38 (zi125 35) rfl rfl (by decide) rfl rfl ?_
          refine X.iload_n 39 (zi125 38) rfl rfl rfl ?_
          refine X.callv 42 [zi a1] [] [(0, zr 0 11), (1, zi a1)] (zi125 39) rfl (by decide) rfl rfl (by omega) rfl rfl (by decide) rfl t126 (Nat.le_of_ble_eq_true rfl) (Nat.le_of_ble_eq_true rfl) rfl ?_
          refine c126_1 (B := B) 0 a1 (by omega) (hJ502.up (by omega)) (by omega) (by omega) hf1 hg0 (fun v524 m522 hv524 hFv524 hJ523 => ?_)
          show X (EE s) d 125 42 [(0, zr 4 40), (1, zi a1), (2, zi a2)] [zi v524] m522 _
          refine X.retz (zi125 42) rfl t125 (by omega) ?_
          exact hQ v524 m522 (by first | trivial | omega) (Eq.trans (zb_eq hFv503) (Eq.trans (if_pos h504) (Eq.trans (if_neg h505) (Eq.trans (if_pos h506) (Eq.trans (if_pos h507) (Eq.trans (zb_eq hFv524) rfl)))))) (hJ523.up (by omega)) 
      · refine X.cut [] (zi125 24) rfl ?_
        refine X.iconst 25 (zi125 24) rfl rfl (by decide) ?_
        refine X.retz (zi125 25) rfl t125 (by omega) ?_
        exact hQ 0 m501 (by first | trivial | omega) (Eq.trans (zb_eq hFv503) (Eq.trans (if_pos h504) (Eq.trans (if_neg h505) (Eq.trans (if_neg h506) rfl)))) (hJ502.up (by omega)) 
noncomputable def fl249_4_1_b (self : Int → Int → Int) (k42 : Int → Int) (m : zM) (y1 y2 : Int) : Int :=
  if 365 ≤ y2 then
  (k42 y1)
  else
  (zn (if (m 4 45 (423 + y2)) = (-1) then
  (0)
  else
  (1)) fun v514 =>
  self (y1 + v514) (y2 + 1))
noncomputable def fl249_4_1 (k42 : Int → Int) (m : zM) : Nat → Int → Int → Int
  | 0 => fun y1 y2 => 0
  | n + 1 => fl249_4_1_b (fl249_4_1 k42 m n) k42 m
theorem l249_4_1 {s : Nat × (Nat → Int32)} {S : zS} {m0 : zM} {m : zM} {B : Int} {d : Nat} {Q : Option zV → zM → Prop} {R0 : Int} {k42 : Int → Int} (hd : 13 ≤ d) (hJ : J S m0 B m) (hB9 : B ≤ 1000000000)
    (K42 : ∀ (x1 : Int) , (0 ≤ x1 ∧ x1 ≤ 365) → (0 ≤ x1) → R0 = k42 x1 → X (EE s) d 249 42 [(1, zi x1)] [] m Q) :
    ∀ (n : Nat) (y1 y2 : Int) , (0 ≤ y1 ∧ y1 ≤ 365) → (0 ≤ y2 ∧ y2 ≤ 365) → (0 ≤ y1) → (y1 ≤ y2) → 365 - y2 < (n : Int) → R0 = fl249_4_1 k42 m n y1 y2 → X (EE s) d 249 4 [(0, zr 4 44), (1, zi y1), (2, zi y2)] [] m Q := by
  intro n
  induction n with
  | zero =>
    intro y1 y2 hy1 hy2 hr0 hr1 hn hR
    exfalso
    omega
  | succ n ih =>
    intro y1 y2 hy1 hy2 hr0 hr1 hn hR
    replace hR : R0 = fl249_4_1_b (fl249_4_1 k42 m n) k42 m y1 y2 := hR
    refine X.iload_n 5 (zi249 4) rfl rfl rfl ?_
    refine X.sipush 8 (zi249 5) rfl rfl (by decide) ?_
    refine X.icmpge 42 11 (zi249 8) rfl rfl rfl (fun h510 => ?_) (fun h510 => ?_)
    · refine X.cut [(1, zi y1)] (zi249 42) rfl ?_
      exact K42 y1 (by first | trivial | omega) (by omega) (Eq.trans hR (Eq.trans (if_pos h510) rfl))
    · refine X.iload_n 12 (zi249 11) rfl rfl rfl ?_
      refine X.aload_n 13 (zi249 12) rfl rfl rfl ?_
      refine X.getF 16 (zi249 13) rfl rfl (by decide) rfl rfl ?_
      refine X.sipush 19 (zi249 16) rfl rfl (by decide) ?_
      refine X.iload_n 20 (zi249 19) rfl rfl rfl ?_
      refine X.iadd 21 (zi249 20) rfl rfl (by omega) ?_
      refine X.lald 22 (zi249 21) rfl rfl (by decide) rfl (by omega) ?_
      have h511 := r45_423 hJ 4 (i := (423 + y2)) (by omega)
      refine X.ldc2 25 (zi249 22) rfl rfl (by decide) ?_
      refine X.lcmp 26 (zi249 25) rfl rfl (fun z512 hz512 => ?_)
      have hK517 : ∀ (v : Int) , (0 ≤ v ∧ v ≤ 1) → (if (m 4 45 (423 + y2)) = (-1) then
          (0)
          else
          (1)) = v → X (EE s) d 249 34 [(0, zr 4 44), (2, zi y2)] [zi v, zi y1] m Q := by
        intro v514 hv514 hT518
        refine X.iadd 35 (zi249 34) rfl rfl (by omega) ?_
        refine X.istore_n 36 [(0, zr 4 44), (1, zi (y1 + v514)), (2, zi y2)] (zi249 35) rfl rfl rfl ?_
        refine X.iinc 39 [(0, zr 4 44), (1, zi (y1 + v514)), (2, zi (y2 + 1))] (zi249 36) rfl rfl rfl (by omega) rfl ?_
        refine X.goto 4 (zi249 39) rfl rfl ?_
        exact ih (y1 + v514) (y2 + 1) (by omega) (by omega) (by omega) (by omega) (by omega) (Eq.trans hR (Eq.trans (if_neg h510) (Eq.trans (zn_eq hT518.symm) rfl)))
      refine X.ifne 33 29 (zi249 26) rfl rfl rfl (fun h513 => ?_) (fun h513 => ?_)
      · have h513c : ¬ (m 4 45 (423 + y2)) = (-1) := by omega
        clear h513 hz512
        refine X.cut [(0, zr 4 44), (2, zi y2)] (zi249 33) rfl ?_
        refine X.iconst 34 (zi249 33) rfl rfl (by decide) ?_
        exact hK517 1 (by first | trivial | omega) (Eq.trans (if_neg h513c) rfl)
      · have h513c : (m 4 45 (423 + y2)) = (-1) := by omega
        clear h513 hz512
        refine X.iconst 30 (zi249 29) rfl rfl (by decide) ?_
        refine X.goto 34 (zi249 30) rfl rfl ?_
        refine X.cut [(0, zr 4 44), (2, zi y2)] (zi249 34) rfl ?_
        exact hK517 0 (by first | trivial | omega) (Eq.trans (if_pos h513c) rfl)
-- WorkMeterModel.specials
noncomputable def f249_1 (m : zM) : Int :=
  fl249_4_1 (fun y501 =>
  y501) m (zfu 366) 0 0
-- WorkMeterModel.specials
theorem c249_1 {s : Nat × (Nat → Int32)} {S : zS} {m0 m : zM} {B : Int} {d : Nat} {Q : Option zV → zM → Prop} (hd : 13 ≤ d) (hJ : J S m0 B m) (hB : B + 0 ≤ 1000000000) (hQ : ∀ (v : Int), (0 ≤ v ∧ v ≤ 365) → f249_1 m = v → Q (some (zi v)) m) : X (EE s) d 249 0 [(0, zr 4 44)] [] m Q := by
  refine X.iconst 1 (zi249 0) rfl rfl (by decide) ?_
  refine X.istore_n 2 [(0, zr 4 44), (1, zi 0)] (zi249 1) rfl rfl rfl ?_
  refine X.iconst 3 (zi249 2) rfl rfl (by decide) ?_
  refine X.istore_n 4 [(0, zr 4 44), (1, zi 0), (2, zi 0)] (zi249 3) rfl rfl rfl ?_
  have hz366 := zfu_eq 366
  refine l249_4_1 (s := s) (m := m) (B := B) (d := d) (R0 := (f249_1 m))    (by omega) (hJ.up (by omega)) (by omega) (fun y501 hby501 hrlm502_0 hR505 => ?_) (zfu 366) 0 0 (by omega) (by omega) (by omega) (by omega) (by omega) rfl
  refine X.iload_n 43 (zi249 42) rfl rfl rfl ?_
  refine X.reti (zi249 43) rfl t249 ?_
  exact hQ y501 (by first | trivial | omega) (Eq.trans hR505 rfl) 
end
